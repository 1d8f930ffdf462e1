section IK1
variable {σ s2 : gb_S} {c n nb nb' nd : Nat} {P P' : pT} {ps : Nat → Nat} {De : Nat → dT} {Cf : Nat → List Nat}
/-- other kin: what has to be shown -/
theorem IV_kin (hi : IV2 c σ n nb nd P ps De Cf) (hrb : RB s2 n nb' P' ps) (hst : ST s2 n P') (hday : s2 187 0 = s2 1 9 ∧ 0 ≤ s2 1 9 ∧ s2 1 9 ≤ 2000) (hfo : FO s2 n) (hpo : PO s2 nb' P') (hkp : KP s2 15 P') (hR : Rd s2 n P' = Rd σ n P') (hes : ∀ d, d < 14 → (∀ j, j ≠ 7 → s2 (47 + 10 * d) j = σ (47 + 10 * d) j) ∧ s2 (47 + 10 * d + 1) = σ (47 + 10 * d + 1) ∧ s2 (47 + 10 * d + 2) = σ (47 + 10 * d + 2)) (h7 : ∀ d, d < 14 → (chg σ n P P' d → s2 (47 + 10 * d) 7 = σ (47 + 10 * d) 7 + 1) ∧ (¬ chg σ n P P' d → s2 (47 + 10 * d) 7 = σ (47 + 10 * d) 7)) (h203 : ∀ d, d < 14 → (chg σ n P P' d → s2 203 d = σ 203 d + 1) ∧ (¬ chg σ n P P' d → s2 203 d = σ 203 d)) (hcm : ∀ d, d < 14 → σ 198 d = 1 → cm s2 (47 + 10 * d + 3) (Rd σ n P' d)) (h37 : ∀ u, u < 60 → s2 37 u = ow n (Rd σ n P') Cf De nd u) (hrow : ∀ k, k < nd → (De k).1 = 2 → ∀ u, u < 60 → s2 (56 + 10 * (De k).2.1) u = ow n (Rd σ n P') Cf De k u) (f : ∀ c, (30 ≤ c ∧ c ≤ 36) ∨ c = 189 ∨ (197 ≤ c ∧ c ≤ 202) ∨ (204 ≤ c ∧ c ≤ 209) → s2 c = σ c) (h25 : s2 187 25 = σ 187 25) (h26 : s2 187 26 = σ 187 26) : IV2 (c + 1) s2 n nb' nd P' ps De Cf := by
  have hn := hi.1.1
  have hE0 := hi.2.2.2.2.2.2.1
  obtain ⟨l1, l2, l3, l4, l5, l6, l7, ⟨l8, l8b⟩, l9, l10⟩ := hi.2.2.2.2.2.2.2
  have e198 : s2 198 = σ 198 := f 198 (by omega)
  refine ⟨hrb, hst, hday, hfo, hpo, hkp, fun d hd => ?_, DC_cong (by rw [f 30 (by omega)]) (fun c h1 h2 => f c (by omega)) l1, DR_cong h25 (fun c hc => f c (by omega)) l2, l3, l4, fun k hk h2 => ?_, ?_, ?_, ⟨?_, ?_⟩, ?_, ?_⟩
  · obtain ⟨e1, e2, e3, e4, e5, e6, e7, e8, e9, e10⟩ := hE0 d hd
    obtain ⟨q1, q2, q3⟩ := hes d hd
    have k7 := h7 d hd
    have k203 := h203 d hd
    have h77 : s2 (47 + 10 * d) 7 = s2 203 d ∧ 0 ≤ s2 203 d ∧ s2 203 d ≤ (c : Int) + 1 := by
      by_cases hc : chg σ n P P' d
      · rw [k7.1 hc, k203.1 hc, e7]; omega
      · rw [k7.2 hc, k203.2 hc, e7]; omega
    refine ⟨by rw [q1 0 (by omega)]; exact e1, fun p hp => ?_, ?_, ?_, by rw [q1 4 (by omega), e198]; exact e5, by rw [e198]; exact e6, h77.1, by omega, fun hle => ?_, fun u h1 => ?_⟩
    · unfold ww
      rw [q2, f 197 (by omega)]
      exact e2 p hp
    · unfold CL at e3 ⊢
      rw [q1 3 (by omega), q3]
      exact e3
    · unfold CR
      rw [f 201 (by omega), f 202 (by omega)]
      exact e4
    · have h9 := e9 hle
      rw [e198, f 200 (by omega), k203.2 (fun h => by have := h.1; omega)]
      exact h9
    · rw [e198] at h1
      obtain ⟨g1, g2, g3, g4, ⟨k, k1, k2, k3, k4⟩, g6⟩ := e10 u h1
      rw [f 189 (by omega), f 200 (by omega), f 199 (by omega), q1 5 (by omega), q1 6 (by omega), hR]
      refine ⟨g1, g2, g3, g4, ⟨k, k1, k2, k3, fun v hv => ?_⟩, hcm d hd h1⟩
      have := hrow k k1 (by rw [k3]) v hv
      rw [k3] at this
      exact this
  · have hd := (l3.2 k hk).2.1
    rw [e198, (hes _ (by omega)).1 6 (by omega)]
    exact l5 k hk h2
  · rw [f 30 (by omega), h26]; exact l6
  · rw [h26]; exact l7
  · rw [f 36 (by omega), f 209 (by omega)]; exact l8
  · rw [f 35 (by omega)]; exact l8b
  · rw [hR]; exact h37
  · rw [f 209 (by omega), e198, h26]; exact l10
end IK1
