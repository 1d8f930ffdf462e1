section RO1
variable {σ s0 : gb_S} {c n nb nb' nd : Nat} {P P' : pT} {ps : Nat → Nat} {De : Nat → dT} {Cf : Nat → List Nat}
theorem FK_cg {s : gb_S} {e : Nat} {T : kT} {w : Nat → Int} (f : ∀ c, (2 ≤ c ∧ c ≤ 5) ∨ c = e ∨ c = e + 1 → s c = σ c) (h : FK σ e T w) : FK s e T w := by
  unfold FK at h ⊢
  rw [f 2 (by omega), f 3 (by omega), f 4 (by omega), f 5 (by omega), f e (by omega), f (e + 1) (by omega)]
  exact h
/-- one closed estate is told anew -/
theorem c122 {s : gb_S} {d : Nat} (hd : d < n) (hn : n ≤ 14) (H : KH (TT σ n P' d) ps) (hkc : KC s 15 (TT σ n P' d)) (hfk : FK s (47 + 10 * d) (TT σ n P' d) (ww σ d)) (hold : cm s (47 + 10 * d + 3) (Rd σ n P d)) (hS : SR n (Rd σ n P d)) (hS' : SR n (Rd σ n P' d)) : ∃ s', fx_122 (47 + 10 * d) s = some (.inl (ib (!smB (Rd σ n P' d) (Rd σ n P d) n)), s') ∧ cm s' (47 + 10 * d + 3) (Rd σ n P' d) ∧ s' (47 + 10 * d) 7 = s (47 + 10 * d) 7 + ib (!smB (Rd σ n P' d) (Rd σ n P d) n) ∧ (∀ j, j ≠ 7 → s' (47 + 10 * d) j = s (47 + 10 * d) j) ∧ ∀ c, c ≠ 26 → c ≠ 28 → c ≠ 29 → c ≠ 42 → c ≠ 43 → c ≠ 47 + 10 * d → c ≠ 51 + 10 * d → c ≠ 52 + 10 * d → s' c = s c := by
  obtain ⟨s1, e1, cm1, f1⟩ := g1 (r := 41) H hkc hfk (Or.inl rfl) ⟨d, by omega, rfl⟩ (by omega)
  have cm1 : cm s1 41 (Rd σ n P' d) := cm1
  have cm2 : cm s1 (47 + 10 * d + 3) (Rd σ n P d) := cm_cong (f1 _ (by omega) (by omega) (by omega) (by omega) (by omega)) (f1 _ (by omega) (by omega) (by omega) (by omega) (by omega)) hold
  unfold fx_122
  rw [e1, gc_v, c76 cm1 cm2 hS' hS, gc_v, gq_R (ibR _).1 (ibR _).2, smB_14 hn hS' hS]
  cases hs : smB (Rd σ n P' d) (Rd σ n P d) n with
  | false =>
    rw [ibF, if_pos rfl, Bool.not_false, ibT]
    unfold fx_70
    generalize hs2 : gb_cp (gb_cp s1 (41 + 1) (47 + 10 * d + 3 + 1)) (41 + 2) (47 + 10 * d + 3 + 2) = s2
    have v1 : s2 (47 + 10 * d + 3 + 1) = s1 42 := by rw [← hs2, cp_ne _ _ _ (by omega), cp_eq]
    have v2 : s2 (47 + 10 * d + 3 + 2) = s1 43 := by rw [← hs2, cp_eq, cp_ne _ _ _ (by omega)]
    have f2 : ∀ c, c ≠ 51 + 10 * d → c ≠ 52 + 10 * d → s2 c = s1 c := fun c h1 h2 => by rw [← hs2, cp_ne _ _ _ (by omega), cp_ne _ _ _ (by omega)]
    have e7 : s2 (47 + 10 * d) = s (47 + 10 * d) := by rw [f2 _ (by omega) (by omega), f1 _ (by omega) (by omega) (by omega) (by omega) (by omega)]
    refine ⟨gb_up s2 (47 + 10 * d) 7 (s (47 + 10 * d) 7 + 1), ?_, fun p hp => ?_, up_eq _ _ _ _, fun j hj => by rw [up_nj _ _ _ _ hj, e7], fun c h1 h2 h3 h4 h5 h6 h7 h8 => by rw [up_ne _ _ _ _ h6, f2 c h7 h8, f1 c h1 h2 h3 h4 h5]⟩
    · rw [gc_v, e7]
    · rw [up_ne _ _ _ _ (by omega), up_ne _ _ _ _ (by omega), v1, v2]
      exact cm1 p hp
  | true =>
    have hR := smB_eq hS' hS hs
    rw [ibT, if_neg (by decide), Bool.not_true, ibF]
    refine ⟨s1, rfl, by rw [hR]; exact cm2, by rw [f1 _ (by omega) (by omega) (by omega) (by omega) (by omega), Int.add_zero], fun j _ => by rw [f1 _ (by omega) (by omega) (by omega) (by omega) (by omega)], fun c h1 h2 h3 h4 h5 _ _ _ => f1 c h1 h2 h3 h4 h5⟩
end RO1
