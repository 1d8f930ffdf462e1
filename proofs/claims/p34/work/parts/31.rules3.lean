section GRu3
variable {δ own : Nat} {rt : Option FieldType} {hnd : Nat → Nat → Option (Nat × Nat)} {K : List (Nat × Instr × Nat)} {c0 : gx_C} {pc : Nat} {lo : gh_L} {st : List Value} {σ : gb_S} {Q : gh_O → gb_S → Prop}
def gb_sg (x y : Int) : Int := if y < x then 1 else if x = y then 0 else -1
theorem gb_lcmp {x y : Int} (hx : gb_RL x) (hy : gb_RL y) : lg_cmp (Int64.ofInt x) (Int64.ofInt y) = Int32.ofInt (gb_sg x y) := by
  have e1 : (Int64.ofInt x > Int64.ofInt y) ↔ y < x := by
    show Int64.ofInt y < Int64.ofInt x ↔ _
    rw [Int64.lt_iff_toInt_lt, gb_toJ hx, gb_toJ hy]
  have e2 : (Int64.ofInt x = Int64.ofInt y) ↔ x = y := ⟨fun h => by rw [← gb_toJ hx, ← gb_toJ hy, h], fun h => by rw [h]⟩
  unfold lg_cmp gb_sg
  by_cases h1 : y < x
  · rw [if_pos (e1.mpr h1), if_pos h1]; rfl
  · rw [if_neg (fun q => h1 (e1.mp q)), if_neg h1]
    by_cases h2 : x = y
    · rw [if_pos (e2.mpr h2), if_pos h2]; rfl
    · rw [if_neg (fun q => h2 (e2.mp q)), if_neg h2]; rfl
theorem gw_lcmp {x y : Int} (hk : K.lookup pc = some (.lcmp, 1)) (hx : gb_RL x) (hy : gb_RL y) (h : gb_W δ own rt hnd K c0 (pc + 1) lo (vi (gb_sg x y) :: st) σ Q) : gb_W δ own rt hnd K c0 pc lo (vl y :: vl x :: st) σ Q :=
  gw_s hk (by show gh_go (pc + 1) lo (.int (lg_cmp (Int64.ofInt x) (Int64.ofInt y)) :: st) _ = _; rw [gb_lcmp hx hy]; rfl) h
/-- the remainder of two longs, neither below zero -/
theorem gw_lrem {x y : Int} (hk : K.lookup pc = some (.lrem, 1)) (hx : 0 ≤ x ∧ x ≤ 9223372036854775807) (hy : 0 < y ∧ y ≤ 9223372036854775807) (h : gb_W δ own rt hnd K c0 (pc + 1) lo (vl (x % y) :: st) σ Q) : gb_W δ own rt hnd K c0 pc lo (vl y :: vl x :: st) σ Q := by
  have hX : gb_RL x := by unfold gb_RL; omega
  have hY : gb_RL y := by unfold gb_RL; omega
  have h0 : ¬ Int64.ofInt y = 0 := fun q => by
    have := congrArg Int64.toInt q
    rw [gb_toJ hY] at this
    exact absurd this (by have : (0 : Int64).toInt = 0 := rfl; omega)
  refine gw_s hk ?_ h
  show (if Int64.ofInt y = 0 then none else gh_go (pc + 1) lo (.long (Int64.ofInt x - Int64.ofInt x / Int64.ofInt y * Int64.ofInt y) :: st) (gb_H c0 σ)) = _
  rw [if_neg h0]
  have hq : x / y ≤ x := Int.ediv_le_self y hx.1
  have hq0 : 0 ≤ x / y := Int.ediv_nonneg hx.1 (by omega)
  have e : Int64.ofInt x / Int64.ofInt y = Int64.ofInt (x / y) := by
    apply Int64.toInt_inj.mp
    rw [Int64.toInt_div_of_ne_left _ _ (fun q => by
      have := congrArg Int64.toInt q
      rw [gb_toJ hX] at this
      have h9 : Int64.minValue.toInt = -9223372036854775808 := rfl
      omega), gb_toJ hX, gb_toJ hY, gb_toJ (by unfold gb_RL; omega), Int.tdiv_eq_ediv_of_nonneg hx.1]
  rw [e, ← Int64.ofInt_mul, ← Int64.ofInt_sub, show x - x / y * y = x % y by rw [Int.emod_def, Int.mul_comm]]
  rfl
/-- a local counted up -/
theorem gw_iinc {k : Nat} {n : Int} {x : Int} (hk : K.lookup pc = some (.iinc k n, 3)) (hl : lo.lookup k = some (vi x)) (h : gb_W δ own rt hnd K c0 (pc + 3) (gh_st1 lo k (vi (x + n))) st σ Q) : gb_W δ own rt hnd K c0 pc lo st σ Q := by
  refine gw_s hk ?_ h
  have e : gh_ld gh_isI lo k = some (vi x) := by
    unfold gh_ld
    rw [hl]
    rfl
  show (match gh_ld gh_isI lo k with
    | some v => gh_go (pc + 3) (gh_st1 lo k (.int (gh_toI v + Int32.ofInt n))) st (gb_H c0 σ)
    | none => none) = _
  rw [e]
  show gh_go (pc + 3) (gh_st1 lo k (.int (Int32.ofInt x + Int32.ofInt n))) st (gb_H c0 σ) = _
  rw [← Int32.ofInt_add]
  rfl
theorem gw_max {idx : Nat} {x y : Int} (hk : K.lookup pc = some (.invokestatic idx, 3)) (ht : gh_tR own idx = some 0) (hc : gh_cat st ≤ 8) (hx : gb_R x) (hy : gb_R y) (h : gb_W δ own rt hnd K c0 (pc + 3) lo (vi (max x y) :: st) σ Q) : gb_W δ own rt hnd K c0 pc lo (vi y :: vi x :: st) σ Q := by
  refine gw_s hk ?_ h
  show (match gh_tR own idx with
    | some b => gh_mm b pc lo (vi y :: vi x :: st) (gb_H c0 σ)
    | none => _) = _
  rw [ht]
  show (if gh_cat st ≤ 8 then gh_go (pc + 3) lo (.int (if Int32.ofInt x < Int32.ofInt y then Int32.ofInt y else Int32.ofInt x) :: st) (gb_H c0 σ) else none) = _
  rw [if_pos hc]
  by_cases hxy : x < y
  · rw [if_pos ((gb_lt hx hy).mpr hxy), show max x y = y by omega]; rfl
  · rw [if_neg (fun q => hxy ((gb_lt hx hy).mp q)), show max x y = x by omega]; rfl
theorem gw_min {idx : Nat} {x y : Int} (hk : K.lookup pc = some (.invokestatic idx, 3)) (ht : gh_tR own idx = some 1) (hc : gh_cat st ≤ 8) (hx : gb_R x) (hy : gb_R y) (h : gb_W δ own rt hnd K c0 (pc + 3) lo (vi (min x y) :: st) σ Q) : gb_W δ own rt hnd K c0 pc lo (vi y :: vi x :: st) σ Q := by
  refine gw_s hk ?_ h
  show (match gh_tR own idx with
    | some b => gh_mm b pc lo (vi y :: vi x :: st) (gb_H c0 σ)
    | none => _) = _
  rw [ht]
  show (if gh_cat st ≤ 8 then gh_go (pc + 3) lo (.int (if Int32.ofInt y < Int32.ofInt x then Int32.ofInt y else Int32.ofInt x) :: st) (gb_H c0 σ) else none) = _
  rw [if_pos hc]
  by_cases hxy : y < x
  · rw [if_pos ((gb_lt hy hx).mpr hxy), show min x y = y by omega]; rfl
  · rw [if_neg (fun q => hxy ((gb_lt hy hx).mp q)), show min x y = x by omega]; rfl
end GRu3
