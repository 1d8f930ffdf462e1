section KU1
variable {σ σC : gb_S} {c n nb nb' nd : Nat} {P P' : pT} {ps : Nat → Nat} {De : Nat → dT} {Cf : Nat → List Nat}
/-- the world behind the class's filing and its retellKin -/
def K1 (σ σC s1 : gb_S) (n nd : Nat) (P P' : pT) (De : Nat → dT) (Cf : Nat → List Nat) : Prop := KP s1 15 P' ∧ (∀ u, u < 60 → s1 37 u = ow n (Rd σ n P') Cf De nd u) ∧ (∀ k, k < nd → (De k).1 = 2 → ∀ u, u < 60 → s1 (56 + 10 * (De k).2.1) u = ow n (Rd σ n P') Cf De k u) ∧ (∀ d j, d < 14 → j ≠ 7 → s1 (47 + 10 * d) j = σ (47 + 10 * d) j) ∧ (∀ d, d < 14 → (chg σ n P P' d → s1 (47 + 10 * d) 7 = σ (47 + 10 * d) 7 + 1) ∧ (¬ chg σ n P P' d → s1 (47 + 10 * d) 7 = σ (47 + 10 * d) 7)) ∧ (∀ d, d < 14 → σ 198 d = 1 → cm s1 (47 + 10 * d + 3) (Rd σ n P' d)) ∧ (∀ c, 6 ≤ c → c ≤ 14 → s1 c = σC c) ∧ (∀ c, (c < 6 ∨ 14 < c) → c ≠ 16 → c ≠ 17 → c ≠ 18 → c ≠ 19 → c ≠ 26 → c ≠ 28 → c ≠ 29 → c ≠ 37 → c ≠ 38 → c ≠ 39 → c ≠ 40 → c ≠ 42 → c ≠ 43 → c ≠ 224 → (∀ d, d < 14 → c ≠ 47 + 10 * d ∧ c ≠ 51 + 10 * d ∧ c ≠ 52 + 10 * d ∧ c ≠ 56 + 10 * d) → s1 c = σ c)
/-- the class's books of proofs, by the books of both -/
theorem PC_PO {s : gb_S} (hp : PO s nb P) (hr : PR s nb P) : PC s (-1) P := by
  obtain ⟨p1, p2, p3, p4, p5⟩ := hp
  refine ⟨p1, fun k hk => ?_⟩
  obtain ⟨r1, r2, r3, r4, r5⟩ := hr.2.2.2.2 k hk
  obtain ⟨q1, q2, q3, q4, q5⟩ := p3 k hk
  have hod := od_b (op := s 196) (ag := s 194) (dw := s 195) (k := k) (m := nb) (fun j hj => (hr.2.2.2.1 j hj).2.2)
  have hnb := hr.2.2.1
  refine ⟨by rw [q1, r1], by rw [q2, r2], by rw [q3]; exact r3, by rw [q5]; omega, by rw [q4]; exact r4, ?_⟩
  rw [if_neg (by omega), q3, q4, q5]
  exact r5
/-- the class's half -/
theorem KUc (hi : IV2 c σ n nb nd P ps De Cf) (hC : ∀ c, (c < 6 ∨ 14 < c) → (c < 190 ∨ 196 < c) → c ≠ 187 → σC c = σ c) (hrb : RB σC n nb' P' ps) (hpo : PO σC nb' P') {sA : gb_S} (hA1 : ∀ c, 6 ≤ c → c ≤ 14 → sA c = σC c) (hA2 : ∀ c, (c < 6 ∨ 14 < c) → sA c = σ c) : ∃ s1, fx_121 sA = some (.inl ((ct (fun u => !decide (ow n (Rd σ n P') Cf De nd u = σ 37 u)) 60 : Nat) : Int), s1) ∧ ∀ v, K1 σ σC (gb_up s1 224 0 v) n nd P P' De Cf := by
  have hpc : PC sA (-1) P' := PC_cong (fun c h1 => hA1 c h1.1 (by omega)) (PC_PO hpo hrb.2.2.2.1)
  obtain ⟨s1, e, k1, k2, k3, k4, k5, k6, k7⟩ := c121 hi hrb (fun c h => hC c (by omega) (by omega) (by omega)) hpc (fun c h => hA2 c (by omega))
  refine ⟨s1, e, fun v => ⟨KP_cong (fun c h => up_ne _ _ _ _ (by omega)) k1, ?_, fun k hk h2 u hu => ?_, fun d j hd hj => ?_, fun d hd => ?_, fun d hd h1 => cm_cong (up_ne _ _ _ _ (by omega)) (up_ne _ _ _ _ (by omega)) (k6 d hd h1), fun c h1 h2 => ?_, fun c a0 a1 a2 a3 a4 a5 a6 a7 a8 a9 a10 a11 a12 a13 a15 a14 => ?_⟩⟩
  · rw [up_ne _ _ _ _ (by omega)]; exact k2
  · have hd := (hi.2.2.2.2.2.2.2.2.2.1.2 k hk).2.1
    have hn := hi.1.1
    rw [up_ne _ _ _ _ (by omega)]; exact k3 k hk h2 u hu
  · rw [up_ne _ _ _ _ (by omega)]; exact k4 d j hd hj
  · rw [up_ne _ _ _ _ (by omega)]; exact k5 d hd
  · rw [up_ne _ _ _ _ (by omega), k7 c (by omega) (by omega) (by omega) (by omega) (by omega) (by omega) (by omega) (by omega) (by omega) (by omega) (by omega) (by omega) (by omega) (fun d hd => by omega)]
    exact hA1 c h1 h2
  · rw [up_ne _ _ _ _ a15, k7 c a1 a2 a3 a4 a5 a6 a7 a8 a9 a10 a11 a12 a13 a14]
    exact hA2 c a0
/-- what the reference finds behind the class's half -/
theorem K1_ref {s1 : gb_S} (hi : IV2 c σ n nb nd P ps De Cf) (hk : K1 σ σC s1 n nd P P' De Cf) : (∀ c, ((187 ≤ c ∧ c ≠ 224) ∨ (1 ≤ c ∧ c ≤ 5) ∨ (30 ≤ c ∧ c ≤ 36)) → s1 c = σ c) ∧ RB s1 n nb P ps ∧ ST s1 n P ∧ DR s1 nd De ∧ (∀ d, d < n → CR s1 d n (Cf d)) ∧ Rd s1 n P = Rd σ n P := by
  have f : ∀ c, ((187 ≤ c ∧ c ≠ 224) ∨ (1 ≤ c ∧ c ≤ 5) ∨ (30 ≤ c ∧ c ≤ 36)) → s1 c = σ c := fun c h => hk.2.2.2.2.2.2.2 c (by omega) (by omega) (by omega) (by omega) (by omega) (by omega) (by omega) (by omega) (by omega) (by omega) (by omega) (by omega) (by omega) (by omega) (by omega) (fun d hd => by omega)
  have h187 : s1 187 = σ 187 := f 187 (by omega)
  have hn := hi.1.1
  refine ⟨f, RB_cong (fun j _ => by rw [h187]) (fun c h => f c (by omega)) hi.1, ST_cong (by rw [h187]) (f 212 (by omega)) (f 213 (by omega)) hi.2.1, DR_cong (by rw [h187]) (fun c hc => f c (by omega)) hi.2.2.2.2.2.2.2.2.1, fun d hd => ?_, funext fun d => Rd_cong (fun c h => f c (by omega)) n P d⟩
  have := (hi.2.2.2.2.2.2.1 d (by omega)).2.2.2.1
  exact CR_keep (by rw [f 202 (by omega)]) (fun k _ => by rw [f 201 (by omega)]) this
/-- the reference's half, behind keeps and its filing -/
theorem KUr {s1 s5 sB : gb_S} (hi : IV2 c σ n nb nd P ps De Cf) (hc : c ≤ 1000) (hk : K1 σ σC s1 n nd P P' De Cf) (hC : ∀ c, (c < 6 ∨ 14 < c) → (c < 190 ∨ 196 < c) → c ≠ 187 → σC c = σ c) (hC3 : σC 187 3 = σ 187 3) (hrb : RB σC n nb' P' ps) (hpo : PO σC nb' P') (sc : SC s1 s5) (hkp : ∀ d, d < n → σ 198 d = 1 → kpt s5 n d (Rd σ n P d)) (hB1 : ∀ c, c ≠ 187 → (c < 190 ∨ 196 < c) → sB c = s5 c) (hB2 : ∀ c, 190 ≤ c → c ≤ 196 → sB c = σC c) (hB8 : sB 187 8 = σC 187 8) (hB12 : sB 187 12 = σC 187 12) (hB29 : sB 187 29 = 1) (hBj : ∀ j, j ≠ 8 → j ≠ 12 → j ≠ 29 → j ≠ 43 → sB 187 j = s5 187 j) : ∃ s2, fx_172 sB = some (.inl 0, s2) ∧ IV2 (c + 1) s2 n nb' nd P' ps De Cf ∧ (∀ j, j ≠ 29 → s2 187 j = sB 187 j) ∧ (s2 224 = s5 224 ∧ s2 223 = s5 223 ∧ s2 37 = s1 37) := by
  obtain ⟨f1, r1, r2, r3, r4, r5⟩ := K1_ref hi hk
  obtain ⟨k1, k2, k3, k4, k5, k6, k7, k8⟩ := hk
  have hn := hi.1.1
  have hE := hi.2.2.2.2.2.2.1
  have fB : ∀ c, ¬ scr c → c ≠ 187 → (c < 190 ∨ 196 < c) → sB c = s1 c := fun c h1 h2 h3 => by rw [hB1 c h2 h3, sc.1 c h1 h2]
  have fs : ∀ c, ¬ scr c → c ≠ 187 → (c < 190 ∨ 196 < c) → (187 ≤ c ∨ (1 ≤ c ∧ c ≤ 5) ∨ (30 ≤ c ∧ c ≤ 36)) → sB c = σ c := fun c h1 h2 h3 h4 => by
    rw [fB c h1 h2 h3, f1 c (by
      have : c ≠ 224 := by intro q; apply h1; unfold scr; omega
      omega)]
  have jB : ∀ j, j ≠ 8 → j ≠ 12 → j ≠ 29 → j ≠ 43 → sB 187 j = σ 187 j := fun j h1 h2 h3 h4 => by rw [hBj j h1 h2 h3 h4, sc.2 j h3 h4, f1 187 (by omega)]
  have hrbB : RB sB n nb' P' ps := RB_cong (fun j h => by
    rcases h with h | h | h
    · rw [h, jB 3 (by omega) (by omega) (by omega) (by omega), hC3]
    · rw [h, hB8]
    · rw [h, hB12]) (fun c h => by
    by_cases h9 : 190 ≤ c ∧ c ≤ 196
    · exact hB2 c h9.1 h9.2
    · rw [fs c (by unfold scr; omega) (by omega) (by omega) (by omega), hC c (by omega) (by omega) (by omega)]) hrb
  have hRB : Rd sB n P' = Rd σ n P' := funext fun d => Rd_cong (fun c h => fs c (by unfold scr; omega) (by omega) (by omega) (by omega)) n P' d
  have e203 : sB 203 = σ 203 := fs 203 (by unfold scr; omega) (by omega) (by omega) (by omega)
  have e198 : sB 198 = σ 198 := fs 198 (by unfold scr; omega) (by omega) (by omega) (by omega)
  have h172 := r172 (K := Rd σ n P) hrbB (fun d hd => Rd_SR hi.1 hd) (fun d hd => by
    obtain ⟨e1, e2, e3, e4, e5, e6, e7, e8, e9, e10⟩ := hE d (by omega)
    rw [e203]; omega) n gFU sB (Nat.le_refl _) (by unfold gFU; omega) (fun _ _ _ _ => rfl) (fun _ _ => rfl) (Or.inr hB29) (fun d hd h1 => by
    rw [e198] at h1
    have := hkp d hd h1
    unfold kpt at this ⊢
    rw [hB1 220 (by omega) (by omega), hB1 221 (by omega) (by omega)]
    exact this) (fun _ _ => rfl) (fun d hd => by omega)
  rw [Nat.sub_self] at h172
  obtain ⟨s2, e2, q1, q2, q3, q4, q5⟩ := h172
  have e2' : fx_172 sB = some (.inl 0, s2) := e2
  have g2 : ∀ c, c ≠ 187 → c ≠ 203 → (c < 211 ∨ 219 < c) → s2 c = sB c := q1
  have g2s : ∀ c, ¬ scr c → c ≠ 187 → c ≠ 203 → (c < 190 ∨ 196 < c) → s2 c = s1 c := fun c h1 h2 h3 h4 => by rw [g2 c h2 h3 (by unfold scr at h1; omega), fB c h1 h2 h4]
  have g2σ : ∀ c, ¬ scr c → c ≠ 187 → c ≠ 203 → (c < 190 ∨ 196 < c) → (187 ≤ c ∨ (1 ≤ c ∧ c ≤ 5) ∨ (30 ≤ c ∧ c ≤ 36)) → s2 c = σ c := fun c h1 h2 h3 h4 h5 => by rw [g2 c h2 h3 (by unfold scr at h1; omega), fs c h1 h2 h4 h5]
  have j2 : ∀ j, j ≠ 8 → j ≠ 12 → j ≠ 29 → j ≠ 43 → s2 187 j = σ 187 j := fun j h1 h2 h3 h4 => by rw [q2 j h3, jB j h1 h2 h3 h4]
  refine ⟨s2, e2', IV_kin hi (RB_cong (fun j h => q2 j (by omega)) (fun c h => g2 c (by omega) (by omega) (by omega)) hrbB) q3 ?_ (FO_cong (fun c h => g2σ c (by unfold scr; omega) (by omega) (by omega) (by omega) (by omega)) hi.2.2.2.1) (PO_cong (fun c h => ?_) hpo) (KP_cong (fun c h => g2s c (by unfold scr; omega) (by omega) (by omega) (by omega)) k1) (funext fun d => Rd_cong (fun c h => g2σ c (by unfold scr; omega) (by omega) (by omega) (by omega) (by omega)) n P' d) (fun d hd => ?_) (fun d hd => ?_) (fun d hd => ?_) (fun d hd h1 => ?_) (fun u hu => ?_) (fun k hk h2 u hu => ?_) (fun c h => g2σ c (by unfold scr; omega) (by omega) (by omega) (by omega) (by omega)) (j2 25 (by omega) (by omega) (by omega) (by omega)) (j2 26 (by omega) (by omega) (by omega) (by omega)), q2, ?_, ?_, ?_⟩
  · rw [j2 0 (by omega) (by omega) (by omega) (by omega), g2σ 1 (by unfold scr; omega) (by omega) (by omega) (by omega) (by omega)]
    exact hi.2.2.1
  · rcases h with h | h
    · rw [g2s c (by unfold scr; omega) (by omega) (by omega) (by omega)]
      exact k7 c h.1 h.2
    · rw [g2 c (by omega) (by omega) (by omega)]
      exact hB2 c h.1 h.2
  · refine ⟨fun j hj => ?_, ?_, ?_⟩
    · rw [g2s _ (by unfold scr; omega) (by omega) (by omega) (by omega)]
      exact k4 d j hd hj
    · rw [g2s _ (by unfold scr; omega) (by omega) (by omega) (by omega)]
      exact k8 _ (by omega) (by omega) (by omega) (by omega) (by omega) (by omega) (by omega) (by omega) (by omega) (by omega) (by omega) (by omega) (by omega) (by omega) (by omega) (fun d2 hd2 => by omega)
    · rw [g2s _ (by unfold scr; omega) (by omega) (by omega) (by omega)]
      exact k8 _ (by omega) (by omega) (by omega) (by omega) (by omega) (by omega) (by omega) (by omega) (by omega) (by omega) (by omega) (by omega) (by omega) (by omega) (by omega) (fun d2 hd2 => by omega)
  · rw [g2s _ (by unfold scr; omega) (by omega) (by omega) (by omega)]
    exact k5 d hd
  · by_cases hdn : d < n
    · have := q5 d hdn
      rw [e198, hRB, e203] at this
      constructor
      · intro h
        unfold chg at h
        rw [this, if_pos h]
      · intro h
        unfold chg at h
        rw [this, if_neg h, Int.add_zero]
    · have h9 := (hE d hd).2.2.2.2.2.2.2.2.1 (by omega)
      constructor
      · intro h
        have := h.1
        omega
      · intro _
        rw [q4 d (by omega), e203]
  · exact cm_cong (g2s _ (by unfold scr; omega) (by omega) (by omega) (by omega)) (g2s _ (by unfold scr; omega) (by omega) (by omega) (by omega)) (k6 d hd h1)
  · rw [g2s 37 (by unfold scr; omega) (by omega) (by omega) (by omega)]
    exact k2 u hu
  · have hd := (hi.2.2.2.2.2.2.2.2.2.1.2 k hk).2.1
    rw [g2s _ (by unfold scr; omega) (by omega) (by omega) (by omega)]
    exact k3 k hk h2 u hu
  · rw [g2 224 (by omega) (by omega) (by omega), hB1 224 (by omega) (by omega)]
  · rw [g2 223 (by omega) (by omega) (by omega), hB1 223 (by omega) (by omega)]
  · exact g2s 37 (by unfold scr; omega) (by omega) (by omega) (by omega)
/-- the books with other proofs or doubts -/
theorem RB_new {σ' : gb_S} (hb : RB σ n nb P ps) (f : ∀ c, c = 188 ∨ c = 189 ∨ (197 ≤ c ∧ c ≤ 200) ∨ c = 210 → σ' c = σ c) (h3 : σ' 187 3 = σ 187 3) (hH : PH P') (hR : PR σ' nb' P') (h5 : ∀ k, k < P'.1 → P'.2.1 k < (n : Int) ∧ P'.2.2.1 k < (n : Int) ∧ σ 188 (P'.2.1 k).toNat < σ 188 (P'.2.2.1 k).toNat) : RB σ' n nb' P' ps := by
  obtain ⟨b1, b2, b3, b4, b5, b6, b7, b8, b9, b10, b11⟩ := hb
  refine ⟨b1, by rw [h3]; exact b2, hH, hR, by rw [f 188 (by omega)]; exact h5, by rw [f 210 (by omega)]; exact b6, by rw [f 210 (by omega)]; exact b7, by rw [f 210 (by omega), f 188 (by omega)]; exact b8, by rw [f 188 (by omega), f 189 (by omega)]; exact b9, by rw [f 198 (by omega), f 200 (by omega)]; exact b10, ?_⟩
  unfold ww
  rw [f 197 (by omega)]
  exact b11
end KU1
