section CA1
variable {c : Nat} {σ : gb_S} {n nb nd : Nat} {P : pT} {ps : Nat → Nat} {De : Nat → dT} {Cf : Nat → List Nat}
/-- the invariant of the object -/
def jIV (c : Nat) (σ : gb_S) : Prop := ∃ n nb nd P ps De Cf, IV2 c σ n nb nd P ps De Cf
def jJV (c : Nat) (σ : gb_S) : Prop := jIV c σ ∧ DAY σ
/-- a call of the object: it answers or throws, and its cells are again those of a world of whole's -/
def jCA (c : Nat) (F : gb_S → Option gb_P) (good : Nat → Prop) (rg : Int → Prop) (σ : gb_S) : Prop := ∃ o s σ2, F σ = some (o, s) ∧ (match o with
  | .inl r => rg r
  | .inr E => good E) ∧ (∀ a, a < 187 → σ2 a = s a) ∧ jIV (c + 1) σ2
theorem kK1 {r : Int} {s s1 : gb_S} {k : Int} (h : gq (gR r) (some (.inl 0, gb_up s 224 0 r) : Option gb_P) = some (.inl k, s1)) : gR r ∧ ∀ a, a < 187 → s1 a = s a := by
  unfold gq at h
  split at h
  · next q => cases h; exact ⟨q, fun a ha => up_ne _ _ _ _ (by omega)⟩
  · cases h
theorem kK2 {r : Int} {s s1 : gb_S} {k : Int} (h : gq (gR r) (if r = 0 then (some (.inl 0, gb_up s 224 0 0) : Option gb_P) else some (.inl 0, gb_up s 224 0 1)) = some (.inl k, s1)) : gR r ∧ ∀ a, a < 187 → s1 a = s a := by
  unfold gq at h
  split at h
  · next q =>
    split at h
    · cases h; exact ⟨q, fun a ha => up_ne _ _ _ _ (by omega)⟩
    · cases h; exact ⟨q, fun a ha => up_ne _ _ _ _ (by omega)⟩
  · cases h
theorem kK3 {r : Int} {s s1 : gb_S} {k : Int} (h : some (Sum.inl 0, gb_up s 224 0 r) = some ((Sum.inl k : Int ⊕ Nat), s1)) : True ∧ ∀ a, a < 187 → s1 a = s a := by
  cases h; exact ⟨trivial, fun a ha => up_ne _ _ _ _ (by omega)⟩
theorem jCA_of {F : gb_S → Option gb_P} {K : Int → gb_S → Option gb_P} {H : Nat → gb_S → Option gb_P} {hx mx : gb_S → Option gb_P} {rng rg : Int → Prop} {good : Nat → Prop} (hcm : CM rng c hx mx σ) (hh : ∀ σ, hx σ = gch (F σ) K H)
    (hK : ∀ r s k s1, K r s = some (.inl k, s1) → rg r ∧ ∀ a, a < 187 → s1 a = s a) (hH : ∀ E s k s1, H E s = some (.inl k, s1) → good E ∧ s1 = s) (hm : ∀ τ ρ, mx (Oc τ ρ) = jop (Oc τ) (mx ρ)) : jCA c F good rg σ := by
  obtain ⟨k, σ1, b, σ2, e1, e2, -, -, -, -, hJ⟩ := hcm
  rw [hh] at e1
  have e3 := hm σ1 σ1
  rw [Oc_self, e2] at e3
  have e4 : σ2 = Oc σ1 σ2 := (Prod.mk.inj (Option.some.inj e3)).2
  have e5 : ∀ a, a < 187 → σ2 a = σ1 a := fun a ha => by
    rw [e4]
    funext j
    unfold Oc
    rw [if_pos ha]
  cases hF : F σ with
  | none => rw [hF] at e1; cases e1
  | some q =>
    obtain ⟨o, s⟩ := q
    rw [hF] at e1
    cases o with
    | inl r =>
      have h := hK r s k σ1 e1
      exact ⟨.inl r, s, σ2, hF, h.1, fun a ha => (e5 a ha).trans (h.2 a ha), hJ⟩
    | inr E =>
      have h := hH E s k σ1 e1
      exact ⟨.inr E, s, σ2, hF, h.1, fun a ha => by rw [e5 a ha, h.2], hJ⟩
/-- the two objects, called alike -/
def jPP (c : Nat) (ha hb : gb_S → Option gb_P) (R : Int → Int → Prop) (σ : gb_S) : Prop := ∃ v w s t σ2, ha σ = some (.inl v, s) ∧ hb (dbl σ) = some (.inl w, t) ∧ R v w ∧ (∀ a, a < 187 → σ2 a = s a ∧ dbl σ2 a = t a) ∧ jJV (c + 1) σ2 ∧ σ2 1 9 = σ 1 9
def jRI (v w : Int) : Prop := v = w ∧ gR v
def jRJ (v w : Int) : Prop := v = w
def jvI (o : Int ⊕ Nat) : Int := match o with
  | .inl r => r
  | .inr _ => -8
def jvZ (o : Int ⊕ Nat) : Int := match o with
  | .inl r => if r = 0 then 0 else 1
  | .inr _ => -8
theorem jV1 {good : Nat → Prop} (o : Int ⊕ Nat) (h : match o with
  | .inl r => gR r
  | .inr E => good E) : jRI (jvI o) (jvI o) := by
  refine ⟨rfl, ?_⟩
  cases o with
  | inl r => exact h
  | inr E => show gR (-8); unfold gR; omega
theorem jV2 {good : Nat → Prop} (o : Int ⊕ Nat) (_ : match o with
  | .inl r => gR r
  | .inr E => good E) : jRI (jvZ o) (jvZ o) := by
  refine ⟨rfl, ?_⟩
  cases o with
  | inl r => show gR (if r = 0 then 0 else 1); split <;> (unfold gR; omega)
  | inr E => show gR (-8); unfold gR; omega
theorem jV3 {good : Nat → Prop} (o : Int ⊕ Nat) (_ : match o with
  | .inl _ => True
  | .inr E => good E) : jRJ (jvI o) (jvI o) := rfl
theorem jZ {r : Int} {s : gb_S} (h : gR r) : gq (gR r) (if r = 0 then some (Sum.inl 0, s) else some ((Sum.inl 1 : Int ⊕ Nat), s)) = some (.inl (if r = 0 then 0 else 1), s) := by
  unfold gq
  rw [if_pos h]
  split <;> rfl
theorem dbl_lt {s σ2 : gb_S} (h : ∀ a, a < 187 → σ2 a = s a) : ∀ a, a < 187 → dbl σ2 a = dbl s a := fun a ha => by
  funext j
  unfold dbl Jd dd
  rw [h a ha]
theorem jPP_of {F F' ha hb : gb_S → Option gb_P} {good : Nat → Prop} {rg : Int → Prop} {R : Int → Int → Prop} {V : Int ⊕ Nat → Int} (hca : jCA c F good rg σ) (hD : DAY σ) (hF : ∀ o s, F σ = some (o, s) → F' (dbl σ) = some (o, dbl s) ∧ DAY s ∧ s 1 9 = σ 1 9)
    (hha : ∀ o s, (match o with | .inl r => rg r | .inr E => good E) → F σ = some (o, s) → ha σ = some (.inl (V o), s)) (hhb : ∀ o s, (match o with | .inl r => rg r | .inr E => good E) → F' (dbl σ) = some (o, s) → hb (dbl σ) = some (.inl (V o), s))
    (hR : ∀ o, (match o with | .inl r => rg r | .inr E => good E) → R (V o) (V o)) : jPP c ha hb R σ := by
  obtain ⟨o, s, σ2, e1, ok, e2, hJ⟩ := hca
  obtain ⟨e3, hD2, h9⟩ := hF o s e1
  refine ⟨V o, V o, s, dbl s, σ2, hha o s ok e1, hhb o _ ok e3, hR o ok, fun a ha => ⟨e2 a ha, dbl_lt e2 a ha⟩, ⟨hJ, fun j => ?_⟩, by rw [e2 1 (by omega)]; exact h9⟩
  rw [e2 3 (by omega), e2 4 (by omega)]
  exact hD2 j
theorem ca_95 {x : Int} (h0 : -2147483648 ≤ x ∧ x ≤ 2147483647) (hc : c ≤ 1000) (hi : IV2 c σ n nb nd P ps De Cf) : jCA c (fx_95 x) (fun E => E = 0 ∨ E = 1 ∨ E = 2) gR σ := by
  refine jCA_of (F := fx_95 x) (uc16 h0 hi) (fun σ => by unfold fx_209; rfl) (fun r s k s1 h => kK1 h) (fun E s k s1 h => ?_) (fun τ ρ => jo_156 x ρ)
  (repeat' split at h) <;> first | (cases h; exact ⟨by omega, rfl⟩) | cases h
theorem ca_86 {x : Int} {y : Int} (h0 : -2147483648 ≤ x ∧ x ≤ 2147483647) (h1 : -2147483648 ≤ y ∧ y ≤ 2147483647) (hc : c ≤ 1000) (hi : IV2 c σ n nb nd P ps De Cf) : jCA c (fx_86 x y) (fun E => E = 0 ∨ E = 1 ∨ E = 2) gR σ := by
  refine jCA_of (F := fx_86 x y) (uc7 h0 h1 hc hi) (fun σ => by unfold fx_201; rfl) (fun r s k s1 h => kK1 h) (fun E s k s1 h => ?_) (fun τ ρ => jo_146 x y ρ)
  (repeat' split at h) <;> first | (cases h; exact ⟨by omega, rfl⟩) | cases h
theorem ca_93 {x : Int} {y : Int} (h0 : -2147483648 ≤ x ∧ x ≤ 2147483647) (h1 : -2147483648 ≤ y ∧ y ≤ 2147483647) (hc : c ≤ 1000) (hi : IV2 c σ n nb nd P ps De Cf) : jCA c (fx_93 x y) (fun E => E = 0 ∨ E = 1 ∨ E = 2) gR σ := by
  refine jCA_of (F := fx_93 x y) (uc14 h0 h1 hi) (fun σ => by unfold fx_207; rfl) (fun r s k s1 h => kK1 h) (fun E s k s1 h => ?_) (fun τ ρ => jo_154 x y ρ)
  (repeat' split at h) <;> first | (cases h; exact ⟨by omega, rfl⟩) | cases h
theorem ca_85 {x : Int} {y : Int} {z : Int} (h0 : -2147483648 ≤ x ∧ x ≤ 2147483647) (h1 : -2147483648 ≤ y ∧ y ≤ 2147483647) (h2 : -2147483648 ≤ z ∧ z ≤ 2147483647) (hc : c ≤ 1000) (hi : IV2 c σ n nb nd P ps De Cf) : jCA c (fx_85 x y z) (fun E => E = 0 ∨ E = 1 ∨ E = 2) gR σ := by
  refine jCA_of (F := fx_85 x y z) (uc6 h0 h1 h2 hc hi) (fun σ => by unfold fx_200; rfl) (fun r s k s1 h => kK1 h) (fun E s k s1 h => ?_) (fun τ ρ => jo_145 x y z ρ)
  (repeat' split at h) <;> first | (cases h; exact ⟨by omega, rfl⟩) | cases h
theorem ca_92 {x : Int} {y : Int} {z : Int} (h0 : -2147483648 ≤ x ∧ x ≤ 2147483647) (h1 : -2147483648 ≤ y ∧ y ≤ 2147483647) (h2 : -2147483648 ≤ z ∧ z ≤ 2147483647) (hc : c ≤ 1000) (hi : IV2 c σ n nb nd P ps De Cf) : jCA c (fx_92 x y z) (fun E => E = 0 ∨ E = 1 ∨ E = 2) gR σ := by
  refine jCA_of (F := fx_92 x y z) (uc13 h0 h1 h2 hi) (fun σ => by unfold fx_206; rfl) (fun r s k s1 h => kK1 h) (fun E s k s1 h => ?_) (fun τ ρ => jo_152 x y z ρ)
  (repeat' split at h) <;> first | (cases h; exact ⟨by omega, rfl⟩) | cases h
theorem ca_103 {x : Int} {y : Int} {z : Int} (h0 : -2147483648 ≤ x ∧ x ≤ 2147483647) (h1 : -2147483648 ≤ y ∧ y ≤ 2147483647) (h2 : -2147483648 ≤ z ∧ z ≤ 2147483647) (hc : c ≤ 1000) (hi : IV2 c σ n nb nd P ps De Cf) : jCA c (fx_103 x y z) (fun E => E = 0 ∨ E = 1 ∨ E = 2) gR σ := by
  refine jCA_of (F := fx_103 x y z) (uc24 h0 h1 h2 hi) (fun σ => by unfold fx_217; rfl) (fun r s k s1 h => kK1 h) (fun E s k s1 h => ?_) (fun τ ρ => jo_186 x y z ρ)
  (repeat' split at h) <;> first | (cases h; exact ⟨by omega, rfl⟩) | cases h
theorem ca_104 {x : Int} {y : Int} {z : Int} {w : Int} (h0 : -2147483648 ≤ x ∧ x ≤ 2147483647) (h1 : -2147483648 ≤ y ∧ y ≤ 2147483647) (h2 : -2147483648 ≤ z ∧ z ≤ 2147483647) (h3 : -2147483648 ≤ w ∧ w ≤ 2147483647) (hc : c ≤ 1000) (hi : IV2 c σ n nb nd P ps De Cf) : jCA c (fx_104 x y z w) (fun E => E = 0 ∨ E = 1 ∨ E = 2) gR σ := by
  refine jCA_of (F := fx_104 x y z w) (uc25 h0 h1 h2 h3 hi) (fun σ => by unfold fx_218; rfl) (fun r s k s1 h => kK1 h) (fun E s k s1 h => ?_) (fun τ ρ => jo_187 x y z w ρ)
  (repeat' split at h) <;> first | (cases h; exact ⟨by omega, rfl⟩) | cases h
theorem ca_97 {x : Int} {y : Int} (h0 : -2147483648 ≤ x ∧ x ≤ 2147483647) (h1 : -2147483648 ≤ y ∧ y ≤ 2147483647) (hc : c ≤ 1000) (hi : IV2 c σ n nb nd P ps De Cf) : jCA c (fx_97 x y) (fun E => E = 0 ∨ E = 2) (fun _ => True) σ := by
  refine jCA_of (F := fx_97 x y) (qc18 h0 h1 hi).1 (fun σ => by unfold fx_211; rfl) (fun r s k s1 h => kK3 h) (fun E s k s1 h => ?_) (fun τ ρ => jo_174 x y ρ)
  (repeat' split at h) <;> first | (cases h; exact ⟨by omega, rfl⟩) | cases h
theorem ca_98 {x : Int} {y : Int} (h0 : -2147483648 ≤ x ∧ x ≤ 2147483647) (h1 : -2147483648 ≤ y ∧ y ≤ 2147483647) (hc : c ≤ 1000) (hi : IV2 c σ n nb nd P ps De Cf) : jCA c (fx_98 x y) (fun E => E = 0 ∨ E = 2) (fun _ => True) σ := by
  refine jCA_of (F := fx_98 x y) (qc18 h0 h1 hi).2.1 (fun σ => by unfold fx_212; rfl) (fun r s k s1 h => kK3 h) (fun E s k s1 h => ?_) (fun τ ρ => jo_175 x y ρ)
  (repeat' split at h) <;> first | (cases h; exact ⟨by omega, rfl⟩) | cases h
theorem ca_99 {x : Int} {y : Int} (h0 : -2147483648 ≤ x ∧ x ≤ 2147483647) (h1 : -2147483648 ≤ y ∧ y ≤ 2147483647) (hc : c ≤ 1000) (hi : IV2 c σ n nb nd P ps De Cf) : jCA c (fx_99 x y) (fun E => E = 0 ∨ E = 2) (fun _ => True) σ := by
  refine jCA_of (F := fx_99 x y) (qc18 h0 h1 hi).2.2 (fun σ => by unfold fx_213; rfl) (fun r s k s1 h => kK3 h) (fun E s k s1 h => ?_) (fun τ ρ => jo_176 x y ρ)
  (repeat' split at h) <;> first | (cases h; exact ⟨by omega, rfl⟩) | cases h
theorem ca_84 {x : Int} (h0 : -2147483648 ≤ x ∧ x ≤ 2147483647) (hc : c ≤ 1000) (hi : IV2 c σ n nb nd P ps De Cf) : jCA c (fx_84 x) (fun E => E = 0 ∨ E = 2) gR σ := by
  refine jCA_of (F := fx_84 x) (qc5 h0 hi) (fun σ => by unfold fx_199; rfl) (fun r s k s1 h => kK2 h) (fun E s k s1 h => ?_) (fun τ ρ => jo_140 x ρ)
  (repeat' split at h) <;> first | (cases h; exact ⟨by omega, rfl⟩) | cases h
theorem ca_91 {x : Int} (h0 : -2147483648 ≤ x ∧ x ≤ 2147483647) (hc : c ≤ 1000) (hi : IV2 c σ n nb nd P ps De Cf) : jCA c (fx_91 x) (fun E => E = 0 ∨ E = 2) gR σ := by
  refine jCA_of (F := fx_91 x) (qc12 h0 hi) (fun σ => by unfold fx_205; rfl) (fun r s k s1 h => kK1 h) (fun E s k s1 h => ?_) (fun τ ρ => jo_151 x ρ)
  (repeat' split at h) <;> first | (cases h; exact ⟨by omega, rfl⟩) | cases h
theorem ca_94 {x : Int} (h0 : -2147483648 ≤ x ∧ x ≤ 2147483647) (hc : c ≤ 1000) (hi : IV2 c σ n nb nd P ps De Cf) : jCA c (fx_94 x) (fun E => E = 0 ∨ E = 2) gR σ := by
  refine jCA_of (F := fx_94 x) (qc15 h0 hi) (fun σ => by unfold fx_208; rfl) (fun r s k s1 h => kK1 h) (fun E s k s1 h => ?_) (fun τ ρ => jo_155 x ρ)
  (repeat' split at h) <;> first | (cases h; exact ⟨by omega, rfl⟩) | cases h
theorem ca_96 {x : Int} (h0 : -2147483648 ≤ x ∧ x ≤ 2147483647) (hc : c ≤ 1000) (hi : IV2 c σ n nb nd P ps De Cf) : jCA c (fx_96 x) (fun E => E = 0 ∨ E = 2) gR σ := by
  refine jCA_of (F := fx_96 x) (qc17 h0 hi) (fun σ => by unfold fx_210; rfl) (fun r s k s1 h => kK2 h) (fun E s k s1 h => ?_) (fun τ ρ => jo_157 x ρ)
  (repeat' split at h) <;> first | (cases h; exact ⟨by omega, rfl⟩) | cases h
theorem ca_100 {x : Int} (h0 : -2147483648 ≤ x ∧ x ≤ 2147483647) (hc : c ≤ 1000) (hi : IV2 c σ n nb nd P ps De Cf) : jCA c (fx_100 x) (fun E => E = 0 ∨ E = 2) gR σ := by
  refine jCA_of (F := fx_100 x) (qc21 h0 hi) (fun σ => by unfold fx_214; rfl) (fun r s k s1 h => kK1 h) (fun E s k s1 h => ?_) (fun τ ρ => jo_177 x ρ)
  (repeat' split at h) <;> first | (cases h; exact ⟨by omega, rfl⟩) | cases h
theorem ca_101 {x : Int} (h0 : -2147483648 ≤ x ∧ x ≤ 2147483647) (hc : c ≤ 1000) (hi : IV2 c σ n nb nd P ps De Cf) : jCA c (fx_101 x) (fun E => E = 0 ∨ E = 2) gR σ := by
  refine jCA_of (F := fx_101 x) (qc22 h0 hi) (fun σ => by unfold fx_215; rfl) (fun r s k s1 h => kK1 h) (fun E s k s1 h => ?_) (fun τ ρ => jo_178 x ρ)
  (repeat' split at h) <;> first | (cases h; exact ⟨by omega, rfl⟩) | cases h
theorem ca_102 {x : Int} (h0 : -2147483648 ≤ x ∧ x ≤ 2147483647) (hc : c ≤ 1000) (hi : IV2 c σ n nb nd P ps De Cf) : jCA c (fx_102 x) (fun E => E = 0 ∨ E = 2) gR σ := by
  refine jCA_of (F := fx_102 x) (qc23 h0 hc hi) (fun σ => by unfold fx_216; rfl) (fun r s k s1 h => kK1 h) (fun E s k s1 h => ?_) (fun τ ρ => jo_179 x ρ)
  (repeat' split at h) <;> first | (cases h; exact ⟨by omega, rfl⟩) | cases h
theorem ca_107 {x : Int} (h0 : -2147483648 ≤ x ∧ x ≤ 2147483647) (hc : c ≤ 1000) (hi : IV2 c σ n nb nd P ps De Cf) : jCA c (fx_107 x) (fun E => E = 0 ∨ E = 2) gR σ := by
  refine jCA_of (F := fx_107 x) (qc28 h0 hi) (fun σ => by unfold fx_221; rfl) (fun r s k s1 h => kK1 h) (fun E s k s1 h => ?_) (fun τ ρ => jo_190 x ρ)
  (repeat' split at h) <;> first | (cases h; exact ⟨by omega, rfl⟩) | cases h
theorem ca_88 {x : Int} (h0 : -2147483648 ≤ x ∧ x ≤ 2147483647) (hc : c ≤ 1000) (hi : IV2 c σ n nb nd P ps De Cf) : jCA c (fx_88 x) (fun E => E = 0 ∨ E = 2) gR σ := by
  refine jCA_of (F := fx_88 x) (qc9 h0 hi) (fun σ => by unfold fx_203; rfl) (fun r s k s1 h => kK1 h) (fun E s k s1 h => ?_) (fun τ ρ => jo_148 x ρ)
  (repeat' split at h) <;> first | (cases h; exact ⟨by omega, rfl⟩) | cases h
theorem ca_105 {x : Int} (h0 : -2147483648 ≤ x ∧ x ≤ 2147483647) (hc : c ≤ 1000) (hi : IV2 c σ n nb nd P ps De Cf) : jCA c (fx_105 x) (fun E => E = 0 ∨ E = 2) gR σ := by
  refine jCA_of (F := fx_105 x) (qc26 h0 hi) (fun σ => by unfold fx_219; rfl) (fun r s k s1 h => kK1 h) (fun E s k s1 h => ?_) (fun τ ρ => jo_188 x ρ)
  (repeat' split at h) <;> first | (cases h; exact ⟨by omega, rfl⟩) | cases h
theorem ca_106 {x : Int} (h0 : -2147483648 ≤ x ∧ x ≤ 2147483647) (hc : c ≤ 1000) (hi : IV2 c σ n nb nd P ps De Cf) : jCA c (fx_106 x) (fun E => E = 0 ∨ E = 2) gR σ := by
  refine jCA_of (F := fx_106 x) (qc27 h0 hi) (fun σ => by unfold fx_220; rfl) (fun r s k s1 h => kK1 h) (fun E s k s1 h => ?_) (fun τ ρ => jo_189 x ρ)
  (repeat' split at h) <;> first | (cases h; exact ⟨by omega, rfl⟩) | cases h
theorem ca_90 {x : Int} {y : Int} (h0 : -2147483648 ≤ x ∧ x ≤ 2147483647) (h1 : -2147483648 ≤ y ∧ y ≤ 2147483647) (hc : c ≤ 1000) (hi : IV2 c σ n nb nd P ps De Cf) : jCA c (fx_90 x y) (fun E => E = 0 ∨ E = 1) gR σ := by
  refine jCA_of (F := fx_90 x y) (qc11 h0 h1 hi) (fun σ => by unfold fx_204; rfl) (fun r s k s1 h => kK1 h) (fun E s k s1 h => ?_) (fun τ ρ => jo_150 x y ρ)
  (repeat' split at h) <;> first | (cases h; exact ⟨by omega, rfl⟩) | cases h
theorem ca_109 {x : Int} (h0 : -2147483648 ≤ x ∧ x ≤ 2147483647) (hc : c ≤ 1000) (hi : IV2 c σ n nb nd P ps De Cf) : jCA c (fx_109 x) (fun E => E = 0 ∨ E = 3) gR σ := by
  refine jCA_of (F := fx_109 x) (qc30 h0 hi) (fun σ => by unfold fx_222; rfl) (fun r s k s1 h => kK1 h) (fun E s k s1 h => ?_) (fun τ ρ => jo_192 x ρ)
  (repeat' split at h) <;> first | (cases h; exact ⟨by omega, rfl⟩) | cases h
theorem ca_87 {x : Int} (u : Bool) (h0 : -2147483648 ≤ x ∧ x ≤ 2147483647) (hc : c ≤ 1000) (hi : IV2 c σ n nb nd P ps De Cf) : jCA c (fx_87 x (ib u)) (fun E => E = 0 ∨ E = 1 ∨ E = 2) gR σ := by
  refine jCA_of (F := fx_87 x (ib u)) (uc8 u h0 hc hi) (fun σ => by unfold fx_202; rfl) (fun r s k s1 h => kK1 h) (fun E s k s1 h => ?_) (fun τ ρ => jo_147 x (ib u) ρ)
  (repeat' split at h) <;> first | (cases h; exact ⟨by omega, rfl⟩) | cases h
theorem ca_81 {x : Int} (h0 : -2147483648 ≤ x ∧ x ≤ 2147483647) (hc : c ≤ 1000) (hi : IV2 c σ n nb nd P ps De Cf) : jCA c (fx_81 x) (fun E => E = 0 ∨ E = 1 ∨ E = 2) gR σ := by
  refine jCA_of (F := fx_81 x) (uc2 h0 hi) (fun σ => by unfold fx_197; rfl) (fun r s k s1 h => kK1 h) (fun E s k s1 h => ?_) (fun τ ρ => jo_137 x ρ)
  (repeat' split at h) <;> first | (cases h; exact ⟨by omega, rfl⟩) | cases h
theorem ca_82 {x : Int} (h0 : -2147483648 ≤ x ∧ x ≤ 2147483647) (hc : c ≤ 1000) (hi : IV2 c σ n nb nd P ps De Cf) : jCA c (fx_82 x) (fun E => E = 0 ∨ E = 1 ∨ E = 2) gR σ := by
  refine jCA_of (F := fx_82 x) (uc3 h0 hi) (fun σ => by unfold fx_198; rfl) (fun r s k s1 h => kK1 h) (fun E s k s1 h => ?_) (fun τ ρ => jo_138 x ρ)
  (repeat' split at h) <;> first | (cases h; exact ⟨by omega, rfl⟩) | cases h
end CA1
