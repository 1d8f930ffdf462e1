section RT1
variable {σ : gb_S} {c n nb nb' nd : Nat} {P P' : pT} {ps : Nat → Nat} {De : Nat → dT} {Cf : Nat → List Nat}
/-- retellKin -/
theorem c121 (hi : IV2 c σ n nb nd P ps De Cf) {σR : gb_S} (hbR : RB σR n nb' P' ps) (hRc : ∀ c, c = 188 ∨ c = 189 ∨ c = 197 ∨ c = 198 ∨ c = 199 ∨ c = 200 ∨ c = 210 → σR c = σ c) {s : gb_S} (hPC : PC s (-1) P') (hs : ∀ c, ((2 ≤ c ∧ c ≤ 5) ∨ (30 ≤ c ∧ c ≤ 37) ∨ (47 ≤ c ∧ c ≤ 186 ∧ ¬ scr c)) → s c = σ c) : ∃ s', fx_121 s = some (.inl ((ct (fun u => !decide (ow n (Rd σ n P') Cf De nd u = σ 37 u)) 60 : Nat) : Int), s') ∧ KP s' 15 P' ∧ (∀ u, u < 60 → s' 37 u = ow n (Rd σ n P') Cf De nd u) ∧ (∀ k, k < nd → (De k).1 = 2 → ∀ u, u < 60 → s' (56 + 10 * (De k).2.1) u = ow n (Rd σ n P') Cf De k u) ∧ (∀ d j, d < 14 → j ≠ 7 → s' (47 + 10 * d) j = σ (47 + 10 * d) j) ∧ (∀ d, d < 14 → (chg σ n P P' d → s' (47 + 10 * d) 7 = σ (47 + 10 * d) 7 + 1) ∧ (¬ chg σ n P P' d → s' (47 + 10 * d) 7 = σ (47 + 10 * d) 7)) ∧ (∀ d, d < 14 → σ 198 d = 1 → cm s' (47 + 10 * d + 3) (Rd σ n P' d)) ∧ ∀ c, c ≠ 16 → c ≠ 17 → c ≠ 18 → c ≠ 19 → c ≠ 26 → c ≠ 28 → c ≠ 29 → c ≠ 37 → c ≠ 38 → c ≠ 39 → c ≠ 40 → c ≠ 42 → c ≠ 43 → (∀ d, d < 14 → c ≠ 47 + 10 * d ∧ c ≠ 51 + 10 * d ∧ c ≠ 52 + 10 * d ∧ c ≠ 56 + 10 * d) → s' c = s c := by
  have hn := hi.1.1
  have hTT : ∀ d, TT σR n P' d = TT σ n P' d := fun d => TT_cong (fun c h => hRc c (by omega)) n P' d
  have hRd : ∀ d, Rd σR n P' d = Rd σ n P' d := fun d => Rd_cong (fun c h => hRc c (by omega)) n P' d
  have hH : ∀ d, d < n → KH (TT σ n P' d) ps := fun d hd => by rw [← hTT d]; exact TT_KH hbR hd
  have hS' : ∀ d, d < n → SR n (Rd σ n P' d) := fun d hd => by rw [← hRd d]; exact Rd_SR hbR hd
  obtain ⟨s1, e1, kp1, f1⟩ := g35 (x := -1) (a := 15) hbR.2.2.1 (by omega) (Or.inl rfl) hPC
  have hs1 : ∀ c, ((2 ≤ c ∧ c ≤ 5) ∨ (30 ≤ c ∧ c ≤ 37) ∨ (47 ≤ c ∧ c ≤ 186 ∧ ¬ scr c)) → s1 c = σ c := fun c hc => by
    rw [f1 c (by omega) (by omega) (by omega) (by omega)]
    exact hs c hc
  have hes : ∀ d j, d < 14 → (j = 0 ∨ j = 4 ∨ j = 5 ∨ j = 9) → s1 (47 + 10 * d + j) = σ (47 + 10 * d + j) := fun d j hd hj => hs1 _ (Or.inr (Or.inr ⟨by omega, by omega, by unfold scr; omega⟩))
  have hE : ∀ d, d < 14 → s1 (47 + 10 * d) = σ (47 + 10 * d) ∧ s1 (51 + 10 * d) = σ (51 + 10 * d) ∧ s1 (52 + 10 * d) = σ (52 + 10 * d) := fun d hd => ⟨hes d 0 hd (Or.inl rfl), by
    have := hes d 4 hd (Or.inr (Or.inl rfl))
    rw [show 47 + 10 * d + 4 = 51 + 10 * d by omega] at this
    exact this, by
    have := hes d 5 hd (Or.inr (Or.inr (Or.inl rfl)))
    rw [show 47 + 10 * d + 5 = 52 + 10 * d by omega] at this
    exact this⟩
  obtain ⟨s2, x, e2, rp⟩ := c121l (s0 := s1) hi hH hS' (fun s' hs' d hd => by
    have := KP_KC hbR (KP_cong (σ := s1) (fun c hc => hs' c (by omega)) kp1) d
    rw [hTT d] at this
    exact this) (fun c hc => by
    rcases hc with h | h
    · exact hs1 c (Or.inl h)
    · exact hs1 c (Or.inr (Or.inr h))) 14 gFU s1 134 (Nat.le_refl _) (by unfold gFU; omega) ⟨fun _ _ _ _ _ _ _ => rfl, fun d j hd _ => by rw [(hE d hd).1], fun d _ hd => hE d hd, fun d hd => by omega, fun d hd => by omega, fun d hd => by omega, Or.inl rfl, by omega⟩
  obtain ⟨s3, e3, r1, r2, r3⟩ := c121d hi hS' hs1 rp
  obtain ⟨A, B, C, D, E, F, G, X⟩ := rp
  have hdn : ∀ k, k < nd → (De k).2.1 < 14 := fun k hk => by
    have := (hi.2.2.2.2.2.2.2.2.2.1.2 k hk).2.1
    omega
  have f3 : ∀ c, c ≠ 37 → c ≠ 38 → c ≠ 39 → c ≠ 40 → (∀ d, d < 14 → c ≠ 56 + 10 * d) → s3 c = s2 c := fun c h1 h2 h3 h4 h5 => r3 c h1 h2 h3 h4 (fun k hk _ => h5 _ (hdn k hk))
  have e2' : fx_121_18 gFU 134 0 s1 = gc (fx_49 x s2) (fun r2 s3 => some (.inl r2, s3)) := e2
  refine ⟨s3, ?_, ?_, r1, r2, fun d j hd hj => ?_, fun d hd => ?_, fun d hd h1 => ?_, fun c a1 a2 a3 a4 a5 a6 a7 a8 a9 a10 a11 a12 a13 a14 => ?_⟩
  · unfold fx_121
    rw [e1, gc_v, e2', e3, gc_v]
  · refine KP_cong (σ := s1) (fun c hc => ?_) kp1
    rw [f3 c (by omega) (by omega) (by omega) (by omega) (fun d hd => by omega), A c (by omega) (by omega) (by omega) (by omega) (by omega) (fun d hd => by omega)]
  · rw [f3 _ (by omega) (by omega) (by omega) (by omega) (fun d2 hd2 => by omega)]; exact B d j hd hj
  · rw [f3 _ (by omega) (by omega) (by omega) (by omega) (fun d2 hd2 => by omega)]; exact D d hd
  · exact cm_cong (f3 _ (by omega) (by omega) (by omega) (by omega) (fun d2 hd2 => by omega)) (f3 _ (by omega) (by omega) (by omega) (by omega) (fun d2 hd2 => by omega)) (E d hd h1)
  · rw [f3 c a8 a9 a10 a11 (fun d hd => (a14 d hd).2.2.2), A c a5 a6 a7 a12 a13 (fun d hd => ⟨(a14 d hd).1, (a14 d hd).2.1, (a14 d hd).2.2.1⟩), f1 c a1 a2 a3 a4]
end RT1
