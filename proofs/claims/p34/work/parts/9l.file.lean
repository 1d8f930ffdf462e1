section FI1
variable {σ : gb_S} {n : Nat}
/-- a proof filed by the class -/
def en59 (σ : gb_S) (N : Nat) (x1 x2 x3 : Int) : gb_S := gb_up (gb_up (gb_up (gb_up σ 7 N x1) 8 N x2) 9 N x3) 6 5 ((N : Int) + 1)
theorem c59 {N : Nat} {x1 x2 x3 : Int} (h : σ 6 5 = (N : Int)) (hN : N < 30) : fx_59 x1 x2 x3 σ = some (.inl (N : Int), en59 σ N x1 x2 x3) := by
  unfold fx_59 en59
  rw [h, gq_R (by omega) (by omega), if_pos (by omega), gq_ix (by omega) (by omega), Int.toNat_natCast, up_ne _ _ _ _ (by omega : (6 : Nat) ≠ 7), h, gq_ix (by omega) (by omega), Int.toNat_natCast, up_ne _ _ _ _ (by omega : (6 : Nat) ≠ 8), up_ne _ _ _ _ (by omega : (6 : Nat) ≠ 7), h, gq_ix (by omega) (by omega), Int.toNat_natCast, up_ne _ _ _ _ (by omega : (6 : Nat) ≠ 9), up_ne _ _ _ _ (by omega : (6 : Nat) ≠ 8), up_ne _ _ _ _ (by omega : (6 : Nat) ≠ 7), h, up_eq, Int.add_sub_cancel]
theorem c25 {p : Nat} (hp : p < 14) : fx_25 (p : Int) σ = some (.inl (σ 3 p), σ) := by
  unfold fx_25
  rw [gq_R (by omega) (by omega), if_neg (by omega), if_pos (by omega), gq_ix (by omega) (by omega), Int.toNat_natCast]
theorem c27 {p q : Nat} (hp : p < 14) (hq : q < 14) (h1 : 0 ≤ σ 3 p ∧ σ 3 p ≤ 2000) (h2 : 0 ≤ σ 3 q ∧ σ 3 q ≤ 2000) : fx_27 (p : Int) (q : Int) σ = some (.inl (ib (decide (σ 3 p < σ 3 q))), σ) := by
  unfold fx_27
  rw [c25 hp, gc_v, c25 hq, gc_v, gq_R (by omega) (by omega), gq_R (by omega) (by omega)]
  by_cases h : σ 3 p < σ 3 q
  · rw [if_pos h, decide_eq_true h, ibT]
  · rw [if_neg h, decide_eq_false h, ibF]
end FI1
