section IT1
def P00 : pT := (0, fun _ => 0, fun _ => 0, fun _ => 0)
theorem it_F (c : Nat) (ex : Int) : bs (pS P00 c) ex 14 = (-1, 0) := by
  have h : ∀ p, pS P00 c p = 0 := fun _ => rfl
  rw [bs_late (n := 0) (fun p _ => h p) (fun p => by rw [h p]; exact Int.le_refl 0) (Nat.zero_le _)]
  rfl
theorem it_E : ∀ d ∈ List.range 14, (gb_s0 (47 + 10 * d) 0 = (d : Int) ∧ gb_s0 (47 + 10 * d) 3 = 0 ∧ gb_s0 (47 + 10 * d) 4 = 0 ∧ gb_s0 (47 + 10 * d) 7 = 0 ∧ gb_s0 198 d = 0 ∧ gb_s0 200 d = 0 ∧ gb_s0 202 d = 0 ∧ gb_s0 203 d = 0) ∧ (gb_s0 16 d = -1 ∧ gb_s0 17 d = -1 ∧ gb_s0 18 d = 0) ∧ ∀ p ∈ List.range 14, gb_s0 (47 + 10 * d + 1) p = 0 ∧ gb_s0 197 (14 * d + p) = 0 := by decide +kernel
theorem it_P : ∀ k ∈ List.range 30, gb_s0 193 k = 0 ∧ gb_s0 11 k = 0 ∧ gb_s0 10 k = 0 := by decide +kernel
theorem it_L : ∀ u ∈ List.range 60, gb_s0 36 u = 0 ∧ gb_s0 209 u = 0 ∧ gb_s0 37 u = -1 := by decide +kernel
theorem it_D : ∀ k ∈ List.range 134, gb_s0 35 k = 0 := by decide +kernel
theorem it_0 : gb_s0 187 0 = 0 ∧ gb_s0 187 3 = 0 ∧ gb_s0 187 8 = 0 ∧ gb_s0 187 12 = 0 ∧ gb_s0 187 25 = 0 ∧ gb_s0 187 26 = 0 ∧ gb_s0 187 29 = 1 ∧ gb_s0 1 9 = 0 ∧ gb_s0 2 3 = 0 ∧ gb_s0 2 4 = 0 ∧ gb_s0 6 5 = 0 ∧ gb_s0 6 9 = 0 ∧ gb_s0 30 5 = 0 ∧ gb_s0 30 6 = 0 := by decide +kernel
/-- a new object goes together with a new reference -/
theorem it_IV : IV2 0 gb_s0 0 0 0 P00 (fun p => p) (fun _ => (0, 0, 0, 0, 0)) (fun _ => []) := by
  obtain ⟨z1, z2, z3, z4, z5, z6, z7, z8, z9, z10, z11, z12, z13, z14⟩ := it_0
  have nz : ∀ {k : Nat} {p : Prop}, k < 0 → p := fun h => absurd h (Nat.not_lt_zero _)
  have hE := fun (d : Nat) (hd : d < 14) => it_E d (List.mem_range.mpr hd)
  refine ⟨⟨by omega, z2, ⟨by decide, fun k hk => nz hk⟩, ⟨z3, z4, by omega, fun j hj => nz hj, fun k hk => nz hk⟩, fun k hk => nz hk, fun i hi => nz hi, fun p hp => nz hp, fun i j _ hj => nz hj, fun p hp => nz hp, fun d hd => nz hd, fun d p hd hp => ?_⟩, Or.inr z7, ⟨by rw [z1, z8], by rw [z8]; omega, by rw [z8]; omega⟩, ⟨z9, fun i hi => nz hi, fun p hp => nz hp, by rw [z10]; omega, fun p => ?_, fun p hp => nz hp⟩, ⟨z11, z12, fun k hk => nz hk, fun j hj => nz hj, fun k _ hk => it_P k (List.mem_range.mpr hk)⟩, ⟨fun c hc => ?_, fun q hq => ?_⟩, fun d hd => ?_, ⟨⟨z13, fun k hk => nz hk⟩, ⟨z5, fun k hk => nz hk⟩, ⟨by omega, fun k hk => nz hk⟩, fun k hk => nz hk, fun k hk => nz hk, by rw [z14, z6], by rw [z6]; omega, ⟨fun u hu => ?_, fun k _ hk => it_D k (List.mem_range.mpr hk)⟩, fun u hu => ?_, by rw [z6]; omega⟩⟩
  · have h := ((hE d hd).2.2 p (List.mem_range.mpr hp)).2
    unfold ww
    rw [h]
    exact ⟨by omega, fun _ => rfl⟩
  · rw [z10, bt_zero]; rfl
  · have h := (hE c hc).2.1
    refine ⟨?_, ?_⟩
    · show gb_s0 16 c = (bs (pS P00 c) (-1) 14).1
      rw [it_F, h.1]
    · show gb_s0 17 c = (bs (pS P00 c) (F1 P00 c) 14).1
      rw [it_F, h.2.1]
  · have h := (hE q hq).2.1.2.2
    have h18 : gb_s0 (15 + 3) q = 0 := h
    rw [h18]
    refine ⟨by omega, fun k => ?_⟩
    have hf1 : F1 P00 k = -1 := by unfold F1; rw [it_F]
    have hf2 : F2 P00 k = -1 := by unfold F2; rw [it_F]
    rw [bt_zero, hf1, hf2, decide_eq_false (show ¬ (-1 : Int) = (q : Int) by omega), Bool.or_self, Bool.and_false]
  · obtain ⟨⟨a1, a2, a3, a4, a5, a6, a7, a8⟩, -, hw⟩ := hE d hd
    refine ⟨a1, fun p hp => ?_, ⟨a2, Nat.zero_le 14, List.nodup_nil, fun p hp => absurd hp List.not_mem_nil, fun k hk => nz hk⟩, ⟨a7, Nat.zero_le 14, List.nodup_nil, fun p hp => absurd hp List.not_mem_nil, fun k hk => nz hk⟩, by rw [a3, a5], Or.inl a5, by rw [a4, a8], by rw [a8]; omega, fun _ => ⟨a5, rfl, a8, a6⟩, fun _ h => by rw [a5] at h; exact absurd h (by decide)⟩
    have h := hw p (List.mem_range.mpr hp)
    unfold ww
    rw [h.1, h.2]
  · have h := it_L u (List.mem_range.mpr hu)
    rw [h.1, h.2.1]
    exact ⟨rfl, Or.inl rfl, fun _ k hk => nz hk⟩
  · exact (it_L u (List.mem_range.mpr hu)).2.2
end IT1
