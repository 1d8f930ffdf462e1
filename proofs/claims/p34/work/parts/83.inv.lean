section IN1
/-- folk -/
def FO (σ : gb_S) (n : Nat) : Prop := σ 2 3 = (n : Int) ∧ (∀ i, i < n → σ 5 i = σ 210 i) ∧ (∀ p, p < n → σ 3 p = σ 188 p) ∧ (-2147483648 ≤ σ 2 4 ∧ σ 2 4 ≤ 2147483647) ∧ (∀ p, bt (σ 2 4) p = (decide (p < n) && !decide (σ 189 p = -1))) ∧ (∀ p, p < n → σ 189 p ≠ -1 → σ 4 p = σ 189 p)
/-- proofs and doubts -/
def PO (σ : gb_S) (nb : Nat) (P : pT) : Prop := σ 6 5 = (P.1 : Int) ∧ σ 6 9 = (nb : Int) ∧ (∀ k, k < P.1 → σ 7 k = σ 190 k ∧ σ 8 k = σ 191 k ∧ σ 9 k = σ 192 k ∧ σ 11 k = σ 193 k ∧ σ 10 k = od (σ 196) (σ 194) (σ 195) k nb) ∧ (∀ j, j < nb → σ 12 j = σ 194 j ∧ σ 13 j = σ 195 j ∧ σ 14 j = σ 196 j ∧ σ 194 j < (P.1 : Int) ∧ (σ 196 j = 1 → σ 193 (σ 194 j).toNat = 0)) ∧ (∀ k, P.1 ≤ k → k < 30 → σ 193 k = 0 ∧ σ 11 k = 0 ∧ σ 10 k = 0)
/-- an estate -/
def EO (σ : gb_S) (c n nd : Nat) (P : pT) (De : Nat → dT) (Cf : Nat → List Nat) (d : Nat) : Prop := σ (47 + 10 * d) 0 = (d : Int) ∧ (∀ p, p < 14 → σ (47 + 10 * d + 1) p = ww σ d p) ∧ CL σ (47 + 10 * d) n (Cf d) ∧ CR σ d n (Cf d) ∧ σ (47 + 10 * d) 4 = σ 198 d ∧ (σ 198 d = 0 ∨ σ 198 d = 1) ∧ σ (47 + 10 * d) 7 = σ 203 d ∧ (0 ≤ σ 203 d ∧ σ 203 d ≤ (c : Int)) ∧ (n ≤ d → σ 198 d = 0 ∧ Cf d = [] ∧ σ 203 d = 0 ∧ σ 200 d = 0) ∧ (∀ (_ : Unit), σ 198 d = 1 → σ 189 d ≠ -1 ∧ (0 ≤ σ 200 d ∧ σ 200 d ≤ (n : Int)) ∧ (-2147483648 ≤ σ (47 + 10 * d) 5 ∧ σ (47 + 10 * d) 5 ≤ 2147483647) ∧ (∀ p, p < 32 → bt (σ (47 + 10 * d) 5) p = (decide ((p : Int) < σ 200 d) && !bt (σ 199 d) p)) ∧ (∃ k, k < nd ∧ σ (47 + 10 * d) 6 = (k : Int) ∧ De k = (2, d, 0, 0, 60) ∧ ∀ u, u < 60 → σ (56 + 10 * d) u = ow n (Rd σ n P) Cf De k u) ∧ cm σ (47 + 10 * d + 3) (Rd σ n P d))
/-- land -/
def LO (σ : gb_S) (n nd : Nat) (P : pT) (De : Nat → dT) (Cf : Nat → List Nat) : Prop := DC σ nd De ∧ DR σ nd De ∧ DV n nd De ∧ GD nd De ∧ (∀ k, k < nd → (De k).1 = 2 → σ 198 (De k).2.1 = 1 ∧ σ (47 + 10 * (De k).2.1) 6 = (k : Int)) ∧ σ 30 6 = σ 187 26 ∧ (0 ≤ σ 187 26 ∧ σ 187 26 ≤ 60) ∧ ((∀ u, u < 60 → σ 36 u = σ 209 u ∧ (σ 209 u = 0 ∨ σ 209 u = 1) ∧ (σ 209 u = 0 → ∀ k, k < nd → (De k).1 = 0 → ¬ ((De k).2.2.2.1 ≤ u ∧ u < (De k).2.2.2.2))) ∧ ∀ k, nd ≤ k → k < 134 → σ 35 k = 0) ∧ (∀ u, u < 60 → σ 37 u = ow n (Rd σ n P) Cf De nd u) ∧ (nd : Int) ≤ (ct (fun u => !decide (σ 209 u = 0)) 60 : Nat) + σ 187 26 + (ct (fun d => !decide (σ 198 d = 0)) 14 : Nat)
/-- class and reference go together -/
def IV2 (c : Nat) (σ : gb_S) (n nb nd : Nat) (P : pT) (ps : Nat → Nat) (De : Nat → dT) (Cf : Nat → List Nat) : Prop := RB σ n nb P ps ∧ ST σ n P ∧ (σ 187 0 = σ 1 9 ∧ 0 ≤ σ 1 9 ∧ σ 1 9 ≤ 2000) ∧ FO σ n ∧ PO σ nb P ∧ KP σ 15 P ∧ (∀ d, d < 14 → EO σ c n nd P De Cf d) ∧ LO σ n nd P De Cf
/-- what may be written over at any time -/
def scr (c : Nat) : Prop := (20 ≤ c ∧ c ≤ 24) ∨ c = 26 ∨ c = 28 ∨ c = 29 ∨ (38 ≤ c ∧ c ≤ 40) ∨ c = 42 ∨ c = 43 ∨ c = 45 ∨ c = 46 ∨ (211 ≤ c ∧ c ≤ 224) ∨ ((c % 10 = 4 ∨ c % 10 = 5) ∧ 54 ≤ c ∧ c ≤ 185)
def SC (σ σ' : gb_S) : Prop := (∀ c, ¬ scr c → c ≠ 187 → σ' c = σ c) ∧ ∀ j, j ≠ 29 → j ≠ 43 → σ' 187 j = σ 187 j
theorem SC_refl (σ : gb_S) : SC σ σ := ⟨fun _ _ _ => rfl, fun _ _ _ => rfl⟩
theorem SC_trans {a b c : gb_S} (h1 : SC a b) (h2 : SC b c) : SC a c := ⟨fun x h3 h4 => by rw [h2.1 x h3 h4, h1.1 x h3 h4], fun j h3 h4 => by rw [h2.2 j h3 h4, h1.2 j h3 h4]⟩
variable {σ σ' : gb_S} {c n nb nd : Nat} {P : pT} {ps : Nat → Nat} {De : Nat → dT} {Cf : Nat → List Nat}
theorem SC_Rd (h : SC σ σ') : Rd σ' n P = Rd σ n P := funext fun d => Rd_cong (fun c hc => h.1 c (by unfold scr; omega) (by omega)) n P d
theorem SC_EO (h : SC σ σ') {d : Nat} (hd : d < 14) (he : EO σ c n nd P De Cf d) : EO σ' c n nd P De Cf d := by
  have f : ∀ c, ¬ scr c → c ≠ 187 → σ' c = σ c := h.1
  have e0 : σ' (47 + 10 * d) = σ (47 + 10 * d) := f _ (by unfold scr; omega) (by omega)
  have e1 : σ' (47 + 10 * d + 1) = σ (47 + 10 * d + 1) := f _ (by unfold scr; omega) (by omega)
  have e2 : σ' (47 + 10 * d + 2) = σ (47 + 10 * d + 2) := f _ (by unfold scr; omega) (by omega)
  have e4 : σ' (47 + 10 * d + 3 + 1) = σ (47 + 10 * d + 3 + 1) := f _ (by unfold scr; omega) (by omega)
  have e5 : σ' (47 + 10 * d + 3 + 2) = σ (47 + 10 * d + 3 + 2) := f _ (by unfold scr; omega) (by omega)
  have e9 : σ' (56 + 10 * d) = σ (56 + 10 * d) := f _ (by unfold scr; omega) (by omega)
  unfold EO CL CR cm ww
  rw [e0, e1, e2, e4, e5, e9, SC_Rd h, f 189 (by unfold scr; omega) (by omega), f 197 (by unfold scr; omega) (by omega), f 198 (by unfold scr; omega) (by omega), f 199 (by unfold scr; omega) (by omega), f 200 (by unfold scr; omega) (by omega), f 201 (by unfold scr; omega) (by omega), f 202 (by unfold scr; omega) (by omega), f 203 (by unfold scr; omega) (by omega)]
  exact he
theorem SC_LO (hn14 : n ≤ 14) (h : SC σ σ') (hl : LO σ n nd P De Cf) : LO σ' n nd P De Cf := by
  have f : ∀ c, ¬ scr c → c ≠ 187 → σ' c = σ c := h.1
  obtain ⟨l1, l2, l3, l4, l5, l6, l7, l8, l9, l10⟩ := hl
  refine ⟨DC_cong (by rw [f 30 (by unfold scr; omega) (by omega)]) (fun c h1 h2 => f c (by unfold scr; omega) (by omega)) l1, ?_, l3, l4, fun k hk h2 => ?_, ?_, ?_, ?_, ?_, ?_⟩
  · unfold DR
    rw [h.2 25 (by omega) (by omega), f 204 (by unfold scr; omega) (by omega), f 205 (by unfold scr; omega) (by omega), f 206 (by unfold scr; omega) (by omega), f 207 (by unfold scr; omega) (by omega), f 208 (by unfold scr; omega) (by omega)]
    exact l2
  · have hn := (l3.2 k hk).2.1
    rw [f 198 (by unfold scr; omega) (by omega), f (47 + 10 * (De k).2.1) (by unfold scr; omega) (by omega)]
    exact l5 k hk h2
  · rw [f 30 (by unfold scr; omega) (by omega), h.2 26 (by omega) (by omega)]; exact l6
  · rw [h.2 26 (by omega) (by omega)]; exact l7
  · rw [f 36 (by unfold scr; omega) (by omega), f 209 (by unfold scr; omega) (by omega), f 35 (by unfold scr; omega) (by omega)]; exact l8
  · rw [f 37 (by unfold scr; omega) (by omega), SC_Rd h]; exact l9
  · rw [f 209 (by unfold scr; omega) (by omega), f 198 (by unfold scr; omega) (by omega), h.2 26 (by omega) (by omega)]; exact l10
/-- scratch is scratch -/
theorem SC_IV (h : SC σ σ') (hst : ST σ' n P) (hi : IV2 c σ n nb nd P ps De Cf) : IV2 c σ' n nb nd P ps De Cf := by
  have f : ∀ c, ¬ scr c → c ≠ 187 → σ' c = σ c := h.1
  obtain ⟨i1, i2, i3, i4, i5, i6, i7, i8⟩ := hi
  refine ⟨RB_cong (fun j hj => h.2 j (by omega) (by omega)) (fun c hc => ?_) i1, hst, ?_, ?_, ?_, ?_, fun d hd => SC_EO h hd (i7 d hd), SC_LO i1.1 h i8⟩
  · by_cases h187 : c = 187
    · omega
    · exact f c (by unfold scr; omega) h187
  · rw [h.2 0 (by omega) (by omega), f 1 (by unfold scr; omega) (by omega)]; exact i3
  · unfold FO
    rw [f 2 (by unfold scr; omega) (by omega), f 3 (by unfold scr; omega) (by omega), f 4 (by unfold scr; omega) (by omega), f 5 (by unfold scr; omega) (by omega), f 188 (by unfold scr; omega) (by omega), f 189 (by unfold scr; omega) (by omega), f 210 (by unfold scr; omega) (by omega)]
    exact i4
  · unfold PO
    rw [f 6 (by unfold scr; omega) (by omega), f 7 (by unfold scr; omega) (by omega), f 8 (by unfold scr; omega) (by omega), f 9 (by unfold scr; omega) (by omega), f 10 (by unfold scr; omega) (by omega), f 11 (by unfold scr; omega) (by omega), f 12 (by unfold scr; omega) (by omega), f 13 (by unfold scr; omega) (by omega), f 14 (by unfold scr; omega) (by omega), f 190 (by unfold scr; omega) (by omega), f 191 (by unfold scr; omega) (by omega), f 192 (by unfold scr; omega) (by omega), f 193 (by unfold scr; omega) (by omega), f 194 (by unfold scr; omega) (by omega), f 195 (by unfold scr; omega) (by omega), f 196 (by unfold scr; omega) (by omega)]
    exact i5
  · unfold KP
    rw [f (15 + 1) (by unfold scr; omega) (by omega), f (15 + 2) (by unfold scr; omega) (by omega), f (15 + 3) (by unfold scr; omega) (by omega)]
    exact i6
/-- class calls leave findsKin's rows alone -/
theorem ST_cong (h1 : σ' 187 29 = σ 187 29) (h2 : σ' 212 = σ 212) (h3 : σ' 213 = σ 213) (h : ST σ n P) : ST σ' n P := by
  unfold ST KF
  rw [h1, h2, h3]
  exact h
/-- the kin that the class keeps serve for every estate -/
theorem KP_KC {a : Nat} (hb : RB σ n nb P ps) (hk : KP σ' a P) (d : Nat) : KC σ' a (TT σ n P d) := by
  obtain ⟨b1, b2, b3, b4, b5, b6, b7, b8, b9, b10, b11⟩ := id hb
  refine ⟨fun k hk2 => ?_, fun q k hq hk2 => ?_, fun q hq => ?_⟩
  · have hk3 : k < n := hk2
    rw [(hk.1 k (by omega)).1, (hk.1 k (by omega)).2]
    have h1 := F1_b b3 k
    have h2 := F2_b b3 k
    refine ⟨h1.1, ?_, h2.1, ?_, h2.2.2⟩
    · show F1 P k < (n : Int)
      refine Int.lt_of_not_ge (fun hge => ?_)
      have := (F1_mem hb (k := k) (q := (F1 P k).toNat) (by omega)).1
      omega
    · show F2 P k < (n : Int)
      refine Int.lt_of_not_ge (fun hge => ?_)
      have := (F2_mem hb (k := k) (q := (F2 P k).toNat) (by omega)).1
      omega
  · have hk3 : k < n := hk2
    have hq3 : q < n := hq
    rw [(hk.1 k (by omega)).1, (hk.1 k (by omega)).2]
    show TP n P q k = _
    unfold TP
    rw [decide_eq_true hq3, decide_eq_true hk3]
    rfl
  · have hq3 : q < n := hq
    have h1 := hk.2 q (by omega)
    refine ⟨h1.1, fun k hk32 => ?_⟩
    rw [h1.2 k]
    show _ = TP n P q k
    unfold TP
    rw [decide_eq_true hq3, Bool.true_and]
    by_cases hk3 : k < n
    · rw [decide_eq_true (show k < 14 by omega), decide_eq_true hk3]
    · rw [decide_eq_false hk3, Bool.false_and]
      have e1 : decide (F1 P k = (q : Int)) = false := decide_eq_false (fun h => hk3 (F1_mem hb h).2.1)
      have e2 : decide (F2 P k = (q : Int)) = false := decide_eq_false (fun h => hk3 (F2_mem hb h).2.1)
      rw [e1, e2]
      simp
/-- the court's view of an estate of a dead person -/
theorem IV_FK (hi : IV2 c σ n nb nd P ps De Cf) {d : Nat} (hd : d < n) (hx : σ 189 d ≠ -1) : FK σ (47 + 10 * d) (TT σ n P d) (ww σ d) := by
  obtain ⟨i1, i2, i3, i4, i5, i6, i7, i8⟩ := hi
  obtain ⟨b1, b2, b3, b4, b5, b6, b7, b8, b9, b10, b11⟩ := id i1
  obtain ⟨o1, o2, o3, o4, o5, o6⟩ := i4
  obtain ⟨e1, e2, e3, e4, e5, e6, e7, e8, e9, e10⟩ := i7 d (by omega)
  refine ⟨o1, fun i hi => ?_, fun p hp => ?_, ?_, e1, by rw [e5]; exact e6, fun p hp => ?_, fun p hp => ?_, fun p hp => ?_, fun p h1 h2 => (b11 d p (by omega) h2).2 h1⟩
  · rw [o2 i hi]
    show _ = (((σ 210 i).toNat : Nat) : Int)
    have := b6 i hi
    omega
  · rw [o3 p hp]
    show _ ∧ decide (σ 188 p ≤ σ 189 d) = decide (σ 188 p ≤ σ 4 d)
    rw [o6 d hd hx]
    exact ⟨(b9 p hp).1, rfl⟩
  · show 0 ≤ σ 4 d ∧ σ 4 d ≤ 2000
    rw [o6 d hd hx]
    have := (b9 d hd).2
    omega
  · have hp : p < n := hp
    show TA σ n d p = _
    unfold TA
    rw [decide_eq_true hp, Bool.true_and, e5]
    by_cases h0 : σ 198 d = 0
    · rw [if_pos h0, if_pos h0, o5 p, decide_eq_true hp]
      simp
    · rw [if_neg h0, if_neg h0, (e10 () (by omega)).2.2.2.1 p (by omega)]
      by_cases hk : σ 200 d ≤ (p : Int)
      · rw [decide_eq_true hk, decide_eq_false (show ¬ (p : Int) < σ 200 d by omega)]
        rfl
      · rw [decide_eq_false hk, decide_eq_true (show (p : Int) < σ 200 d by omega)]
        simp
  · have hp : n ≤ p := hp
    show TA σ n d p = false
    unfold TA
    rw [decide_eq_false (by omega)]
    rfl
  · exact ⟨e2 p hp, (b11 d p (by omega) hp).1⟩
end IN1
