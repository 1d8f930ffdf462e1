section GRf
variable {δ own : Nat} {rt : Option FieldType} {hnd : Nat → Nat → Option (Nat × Nat)} {K : List (Nat × Instr × Nat)} {c0 : gx_C} {pc : Nat} {lo : gh_L} {st : List Value} {σ : gb_S} {Q : gh_O → gb_S → Prop}
/-- the estates' row: where the estate of a place lies -/
def gb_es : List Nat := (gb_sh.getD 24 (0, [])).2.map (fun t => t - 2)
theorem gb_es_len : gb_es.length = 14 := by decide +kernel
theorem gb_sh24 : ∃ ts : List Nat, gb_sh[24]? = some (23, ts) ∧ ts.length = 14 ∧ ∀ x ∈ List.range 14, ts[x]? = some (gb_es.getD x 0 + 2) := by
  refine ⟨(gb_sh.getD 24 (0, [])).2, rfl, by decide +kernel, by decide +kernel⟩
/-- every estate is a cell of kind 1, and there are fourteen, apart -/
theorem gb_es_ok : ∀ x ∈ List.range 14, ∃ i ∈ List.range 14, gb_es.getD x 0 = 47 + 10 * i := by decide +kernel
theorem gb_es_inj : ∀ x ∈ List.range 14, ∀ y ∈ List.range 14, gb_es.getD x 0 = gb_es.getD y 0 → x = y := by decide +kernel
theorem gw_aaload {x : Int} (hk : K.lookup pc = some (.aaload, 1)) (hx : 0 ≤ x) (hn : x < 14)
    (h : gb_W δ own rt hnd K c0 (pc + 1) lo (vr c0 (gb_es.getD x.toNat 0) :: st) σ Q) : gb_W δ own rt hnd K c0 pc lo (vi x :: vr c0 25 :: st) σ Q := by
  obtain ⟨ts, h1, h2, h3⟩ := gb_sh24
  exact gw_ald (f := gh_toA) (a := 24) hk rfl h1 (by omega) hx (by omega) (h3 x.toNat (List.mem_range.mpr (by omega))) h
theorem gw_len {a kd n : Nat} {ts : List Nat} (hk : K.lookup pc = some (.arraylength, 1)) (ha : gb_sh[a]? = some (kd, ts)) (hkd : kd = 20 ∨ kd = 21 ∨ kd = 23) (hn : ts.length = n)
    (h : gb_W δ own rt hnd K c0 (pc + 1) lo (vi (n : Int) :: st) σ Q) : gb_W δ own rt hnd K c0 pc lo (vr c0 (a + 1) :: st) σ Q := by
  refine gw_s hk ?_ h
  show gh_len pc lo (.ref (a + 1 + gx_b c0) :: st) (gb_H c0 σ) = _
  unfold gh_len
  simp only [gb_get ha]
  simp only [gb_row_len]
  rw [if_pos (by rcases hkd with h | h | h; exact Or.inl h; exact Or.inr ⟨gx_ne c0 a, Or.inl h⟩; exact Or.inr ⟨gx_ne c0 a, Or.inr h⟩), hn]
  show gh_go (pc + 1) lo (.int (Int32.ofNat n) :: st) _ = gh_go (pc + 1) lo (.int (Int32.ofInt (n : Int)) :: st) _
  rw [Int32.ofInt_eq_ofNat]
end GRf
