section IT1
/-- a new object's cells, and those that a new reference would have -/
def gp_s0 : gb_S := gb_up gb_s0 187 29 1
def P00 : pT := (0, fun _ => 0, fun _ => 0, fun _ => 0)
theorem it_F (c : Nat) (ex : Int) : bs (pS P00 c) ex 14 = (-1, 0) := by
  have h : ∀ p, pS P00 c p = 0 := fun _ => rfl
  rw [bs_late (n := 0) (fun p _ => h p) (fun p => by rw [h p]; exact Int.le_refl 0) (Nat.zero_le _)]
  rfl
theorem it_E : ∀ d ∈ List.range 14, (gp_s0 (47 + 10 * d) 0 = (d : Int) ∧ gp_s0 (47 + 10 * d) 3 = 0 ∧ gp_s0 (47 + 10 * d) 4 = 0 ∧ gp_s0 (47 + 10 * d) 7 = 0 ∧ gp_s0 198 d = 0 ∧ gp_s0 200 d = 0 ∧ gp_s0 202 d = 0 ∧ gp_s0 203 d = 0) ∧ (gp_s0 16 d = -1 ∧ gp_s0 17 d = -1 ∧ gp_s0 18 d = 0) ∧ ∀ p ∈ List.range 14, gp_s0 (47 + 10 * d + 1) p = 0 ∧ gp_s0 197 (14 * d + p) = 0 := by decide +kernel
theorem it_P : ∀ k ∈ List.range 30, gp_s0 193 k = 0 ∧ gp_s0 11 k = 0 ∧ gp_s0 10 k = 0 := by decide +kernel
theorem it_L : ∀ u ∈ List.range 60, gp_s0 36 u = 0 ∧ gp_s0 209 u = 0 ∧ gp_s0 37 u = -1 := by decide +kernel
theorem it_D : ∀ k ∈ List.range 134, gp_s0 35 k = 0 := by decide +kernel
theorem it_0 : gp_s0 187 0 = 0 ∧ gp_s0 187 3 = 0 ∧ gp_s0 187 8 = 0 ∧ gp_s0 187 12 = 0 ∧ gp_s0 187 25 = 0 ∧ gp_s0 187 26 = 0 ∧ gp_s0 187 29 = 1 ∧ gp_s0 1 9 = 0 ∧ gp_s0 2 3 = 0 ∧ gp_s0 2 4 = 0 ∧ gp_s0 6 5 = 0 ∧ gp_s0 6 9 = 0 ∧ gp_s0 30 5 = 0 ∧ gp_s0 30 6 = 0 := by decide +kernel
/-- a new object goes together with a new reference -/
theorem it_IV : IV2 0 gp_s0 0 0 0 P00 (fun p => p) (fun _ => (0, 0, 0, 0, 0)) (fun _ => []) := by
  obtain ⟨z1, z2, z3, z4, z5, z6, z7, z8, z9, z10, z11, z12, z13, z14⟩ := it_0
  have nz : ∀ {k : Nat} {p : Prop}, k < 0 → p := fun h => absurd h (Nat.not_lt_zero _)
  have hE := fun (d : Nat) (hd : d < 14) => it_E d (List.mem_range.mpr hd)
  refine ⟨⟨by omega, z2, ⟨by decide, fun k hk => nz hk⟩, ⟨z3, z4, by omega, fun j hj => nz hj, fun k hk => nz hk⟩, fun k hk => nz hk, fun i hi => nz hi, fun p hp => nz hp, fun i j _ hj => nz hj, fun p hp => nz hp, fun d hd => nz hd, fun d p hd hp => ?_⟩, Or.inr z7, ⟨by rw [z1, z8], by rw [z8]; omega, by rw [z8]; omega⟩, ⟨z9, fun i hi => nz hi, fun p hp => nz hp, by rw [z10]; omega, fun p => ?_, fun p hp => nz hp⟩, ⟨z11, z12, fun k hk => nz hk, fun j hj => nz hj, fun k _ hk => it_P k (List.mem_range.mpr hk)⟩, ⟨fun c hc => ?_, fun q hq => ?_⟩, fun d hd => ?_, ⟨⟨z13, fun k hk => nz hk⟩, ⟨z5, fun k hk => nz hk⟩, ⟨by omega, fun k hk => nz hk⟩, fun k hk => nz hk, fun k hk => nz hk, by rw [z14, z6], by rw [z6]; omega, ⟨fun u hu => ?_, fun k _ hk => it_D k (List.mem_range.mpr hk)⟩, fun u hu => ?_, by rw [z6]; omega⟩⟩
  · have h := ((hE d hd).2.2 p (List.mem_range.mpr hp)).2
    unfold ww
    rw [h]
    exact ⟨by omega, fun _ => rfl⟩
  · rw [z10, bt_zero]; rfl
  · have h := (hE c hc).2.1
    refine ⟨?_, ?_⟩
    · show gp_s0 16 c = (bs (pS P00 c) (-1) 14).1
      rw [it_F, h.1]
    · show gp_s0 17 c = (bs (pS P00 c) (F1 P00 c) 14).1
      rw [it_F, h.2.1]
  · have h := (hE q hq).2.1.2.2
    have h18 : gp_s0 (15 + 3) q = 0 := h
    rw [h18]
    refine ⟨by omega, fun k => ?_⟩
    have hf1 : F1 P00 k = -1 := by unfold F1; rw [it_F]
    have hf2 : F2 P00 k = -1 := by unfold F2; rw [it_F]
    rw [bt_zero, hf1, hf2, decide_eq_false (show ¬ (-1 : Int) = (q : Int) by omega), Bool.or_self, Bool.and_false]
  · obtain ⟨⟨a1, a2, a3, a4, a5, a6, a7, a8⟩, -, hw⟩ := hE d hd
    refine ⟨a1, fun p hp => ?_, ⟨a2, Nat.zero_le 14, List.nodup_nil, fun p hp => absurd hp List.not_mem_nil, fun k hk => nz hk⟩, ⟨a7, Nat.zero_le 14, List.nodup_nil, fun p hp => absurd hp List.not_mem_nil, fun k hk => nz hk⟩, by rw [a3, a5], Or.inl a5, by rw [a4, a8], by rw [a8]; omega, fun _ => ⟨a5, rfl, a8, a6⟩, fun _ h => by rw [a5] at h; exact absurd h (by decide)⟩
    have h := hw p (List.mem_range.mpr hp)
    unfold ww
    rw [h.1, h.2]
  · have h := it_L u (List.mem_range.mpr hu)
    rw [h.1, h.2.1]
    exact ⟨rfl, Or.inl rfl, fun _ k hk => nz hk⟩
  · exact (it_L u (List.mem_range.mpr hu)).2.2
theorem it_DAY0 (j : Nat) : gp_s0 3 j = 0 ∧ gp_s0 4 j = 0 := by
  have e3 : gp_s0 3 = gb_s0 3 := up_ne _ _ _ _ (by decide)
  have e4 : gp_s0 4 = gb_s0 4 := up_ne _ _ _ _ (by decide)
  rw [e3, e4]
  have k1 : gb_in1.lookup 3 = none := by decide +kernel
  have k2 : gb_in1.lookup 4 = none := by decide +kernel
  have k3 : ∀ q ∈ gb_in2, ¬ q.1.1 = 3 ∧ ¬ q.1.1 = 4 := by decide +kernel
  have k4 : ∀ (l : List ((Nat × Nat) × Int)) (a : Nat), (∀ q ∈ l, ¬ q.1.1 = a) → l.lookup (a, j) = none := by
    intro l a
    induction l with
    | nil => intro _; rfl
    | cons q l ih =>
      intro h
      obtain ⟨k, v⟩ := q
      rw [List.lookup_cons]
      have hk : ((a, j) == k) = false := beq_eq_false_iff_ne.mpr (fun e => h (k, v) List.mem_cons_self (by show k.1 = a; rw [← e]))
      rw [hk]
      exact ih (fun q hq => h q (List.mem_cons_of_mem _ hq))
  unfold gb_s0
  rw [k1, k2]
  dsimp only
  rw [k4 gb_in2 3 (fun q hq => (k3 q hq).1), k4 gb_in2 4 (fun q hq => (k3 q hq).2)]
  exact ⟨rfl, rfl⟩
theorem it_DAY : DAY gp_s0 := by
  intro j
  rw [(it_DAY0 j).1, (it_DAY0 j).2]
  omega
theorem it_JV : jJV 0 gp_s0 := ⟨⟨_, _, _, _, _, _, _, it_IV⟩, it_DAY⟩
theorem gb_row_lt {β : Nat} {σ σ' : gb_S} {a : Nat} (h : σ' a = σ a) : ∀ (ts : List Nat) (i : Nat), gb_row β σ' a i ts = gb_row β σ a i ts := by
  intro ts
  induction ts with
  | nil => intro i; rfl
  | cons t ts ih =>
    intro i
    show gb_sl β σ' a i t :: gb_row β σ' a (i + 1) ts = gb_sl β σ a i t :: gb_row β σ a (i + 1) ts
    rw [ih]
    congr 1
    match t with
    | 0 => show Value.int (Int32.ofInt (σ' a i)) = .int (Int32.ofInt (σ a i)); rw [h]
    | 1 => show Value.long (Int64.ofInt (σ' a i)) = .long (Int64.ofInt (σ a i)); rw [h]
    | t + 2 => rfl
theorem gb_tab_lt {β : Nat} {σ σ' : gb_S} : ∀ (cs : List (Nat × List Nat)) (i : Nat), (∀ a, a < i + cs.length → σ' a = σ a) → gb_tab β σ' i cs = gb_tab β σ i cs := by
  intro cs
  induction cs with
  | nil => intro i _; rfl
  | cons c cs ih =>
    intro i h
    show (c.1, gb_row β σ' i 0 c.2) :: gb_tab β σ' (i + 1) cs = (c.1, gb_row β σ i 0 c.2) :: gb_tab β σ (i + 1) cs
    rw [ih (i + 1) (fun a ha => h a (by rw [List.length_cons]; omega)), gb_row_lt (h i (by rw [List.length_cons]; omega))]
theorem gb_sh_len : gb_sh.length = 186 := by decide +kernel
/-- the heap shows an object's own cells alone -/
theorem gb_tab_sh {β : Nat} {σ σ' : gb_S} (h : ∀ a, a < 187 → σ' a = σ a) : gb_tab β σ' 1 gb_sh = gb_tab β σ 1 gb_sh := gb_tab_lt gb_sh 1 (fun a ha => h a (by rw [gb_sh_len] at ha; omega))
theorem it_a : ∀ a, a < 187 → gp_s0 a = gb_s0 a := fun a ha => up_ne _ _ _ _ (by omega)
theorem it_b : ∀ a, a < 187 → dbl gp_s0 a = gb_s0 a := fun a ha => by
  rw [← it_a a ha]
  funext j
  unfold dbl Jd dd
  by_cases q : a = 3 ∨ a = 4 ∨ a = 1 ∧ j = 9
  · rw [if_pos q]
    have h : gp_s0 a j = 0 := by
      rcases q with rfl | rfl | ⟨rfl, rfl⟩
      · have := it_DAY0 j; exact this.1
      · have := it_DAY0 j; exact this.2
      · exact it_0.2.2.2.2.2.2.2.1
    rw [h]; rfl
  · rw [if_neg q]
end IT1
