section GRu2
variable {δ own : Nat} {rt : Option FieldType} {hnd : Nat → Nat → Option (Nat × Nat)} {K : List (Nat × Instr × Nat)} {c0 : gx_C} {pc : Nat} {lo : gh_L} {st : List Value} {σ : gb_S} {Q : gh_O → gb_S → Prop}
theorem gb_idx {x : Int} {n : Nat} (hx : 0 ≤ x) (hn : x < n) (hb : n ≤ 100000) : gh_ix (Int32.ofInt x) n = true ∧ (Int32.ofInt x).toNatClampNeg = x.toNat := by
  have hR : gb_R x := by unfold gb_R; omega
  have e : (Int32.ofInt x).toNatClampNeg = x.toNat := Int32.toNatClampNeg_ofInt_of_le (by omega) (by omega)
  refine ⟨?_, e⟩
  unfold gh_ix
  rw [e, decide_eq_false (by omega : ¬ n ≤ x.toNat), decide_eq_false (fun q => ?_)]
  · rfl
  · have h := (gb_lt (y := 0) hR (by unfold gb_R; omega)).mp q
    omega
/-- an array read, of any kind -/
theorem gw_ald {i : Instr} {kd a t : Nat} {f : Value → Value} {ts : List Nat} {x : Int} (hk : K.lookup pc = some (i, 1)) (hs : gh_step true own rt pc i 1 lo (vi x :: vr c0 (a + 1) :: st) (gb_H c0 σ) = gh_ald kd pc f lo (vi x :: vr c0 (a + 1) :: st) (gb_H c0 σ))
    (ha : gb_sh[a]? = some (kd, ts)) (hb : ts.length ≤ 100000) (hx : 0 ≤ x) (hn : x < ts.length) (ht : ts[x.toNat]? = some t)
    (h : gb_W δ own rt hnd K c0 (pc + 1) lo (f (gb_sl (gx_b c0) σ (a + 1) x.toNat t) :: st) σ Q) : gb_W δ own rt hnd K c0 pc lo (vi x :: vr c0 (a + 1) :: st) σ Q := by
  refine gw_s hk (hs.trans ?_) h
  obtain ⟨e1, e2⟩ := gb_idx hx hn hb
  unfold gh_ald
  simp only [gb_at ha]
  rw [gb_row_len, if_pos e1, e2]
  have : (gb_row (gx_b c0) σ (a + 1) 0 ts).getD x.toNat .null = gb_sl (gx_b c0) σ (a + 1) x.toNat t := by
    rw [List.getD_eq_getElem?_getD, gb_row_get, ht, Nat.zero_add]
    rfl
  rw [this]
  rfl
theorem gb_rep {n x t : Nat} (h : x < n) : (List.replicate n t)[x]? = some t := by rw [List.getElem?_replicate, if_pos h]
theorem gw_iaload {a n : Nat} {x : Int} (hk : K.lookup pc = some (.iaload, 1)) (ha : gb_sh[a]? = some (20, List.replicate n 0)) (hb : n ≤ 100000) (hx : 0 ≤ x) (hn : x < n)
    (h : gb_W δ own rt hnd K c0 (pc + 1) lo (vi (σ (a + 1) x.toNat) :: st) σ Q) : gb_W δ own rt hnd K c0 pc lo (vi x :: vr c0 (a + 1) :: st) σ Q :=
  gw_ald (f := fun v => .int (gh_toI v)) hk rfl ha (by rw [List.length_replicate]; exact hb) hx (by rw [List.length_replicate]; exact hn) (gb_rep (by omega)) h
theorem gw_baload {a n : Nat} {x : Int} (hk : K.lookup pc = some (.baload, 1)) (ha : gb_sh[a]? = some (22, List.replicate n 0)) (hb : n ≤ 100000) (hx : 0 ≤ x) (hn : x < n)
    (h : gb_W δ own rt hnd K c0 (pc + 1) lo (vi (σ (a + 1) x.toNat) :: st) σ Q) : gb_W δ own rt hnd K c0 pc lo (vi x :: vr c0 (a + 1) :: st) σ Q :=
  gw_ald (f := fun v => .int (gh_toI v)) hk rfl ha (by rw [List.length_replicate]; exact hb) hx (by rw [List.length_replicate]; exact hn) (gb_rep (by omega)) h
theorem gw_laload {a n : Nat} {x : Int} (hk : K.lookup pc = some (.laload, 1)) (ha : gb_sh[a]? = some (21, List.replicate n 1)) (hb : n ≤ 100000) (hx : 0 ≤ x) (hn : x < n)
    (h : gb_W δ own rt hnd K c0 (pc + 1) lo (vl (σ (a + 1) x.toNat) :: st) σ Q) : gb_W δ own rt hnd K c0 pc lo (vi x :: vr c0 (a + 1) :: st) σ Q :=
  gw_ald (f := fun v => .long (gh_toJ v)) hk rfl ha (by rw [List.length_replicate]; exact hb) hx (by rw [List.length_replicate]; exact hn) (gb_rep (by omega)) h
/-- an array written, of ints, longs or booleans -/
theorem gw_ast {i : Instr} {kd a t : Nat} {f : Value → Bool} {ts : List Nat} {x y : Int} {v : Value} (hk : K.lookup pc = some (i, 1)) (hs : gh_step true own rt pc i 1 lo (v :: vi x :: vr c0 (a + 1) :: st) (gb_H c0 σ) = gh_ast kd pc f lo (v :: vi x :: vr c0 (a + 1) :: st) (gb_H c0 σ))
    (hf : f v = true) (ha : gb_sh[a]? = some (kd, ts)) (hb : ts.length ≤ 100000) (hx : 0 ≤ x) (hn : x < ts.length) (ht : ts[x.toNat]? = some t) (hv : ∀ σ' : gb_S, σ' (a + 1) x.toNat = y → gb_sl (gx_b c0) σ' (a + 1) x.toNat t = v)
    (h : gb_W δ own rt hnd K c0 (pc + 1) lo st (gb_up σ (a + 1) x.toNat y) Q) : gb_W δ own rt hnd K c0 pc lo (v :: vi x :: vr c0 (a + 1) :: st) σ Q := by
  refine gw_s hk (hs.trans ?_) h
  obtain ⟨e1, e2⟩ := gb_idx hx hn hb
  have e := gb_set (c0 := c0) (σ := σ) (x := y) ha ht
  rw [hv _ (if_pos ⟨rfl, rfl⟩)] at e
  unfold gh_ast
  simp only [gb_at ha]
  rw [gb_row_len, if_neg (gx_ne c0 a), if_pos ⟨e1, hf⟩, e2, e]
  rfl
theorem gw_iastore {a n : Nat} {x y : Int} (hk : K.lookup pc = some (.iastore, 1)) (ha : gb_sh[a]? = some (20, List.replicate n 0)) (hb : n ≤ 100000) (hx : 0 ≤ x) (hn : x < n)
    (h : gb_W δ own rt hnd K c0 (pc + 1) lo st (gb_up σ (a + 1) x.toNat y) Q) : gb_W δ own rt hnd K c0 pc lo (vi y :: vi x :: vr c0 (a + 1) :: st) σ Q :=
  gw_ast hk rfl rfl ha (by rw [List.length_replicate]; exact hb) hx (by rw [List.length_replicate]; exact hn) (gb_rep (by omega)) (fun σ' e => by show Value.int (Int32.ofInt _) = _; rw [e]) h
theorem gw_lastore {a n : Nat} {x y : Int} (hk : K.lookup pc = some (.lastore, 1)) (ha : gb_sh[a]? = some (21, List.replicate n 1)) (hb : n ≤ 100000) (hx : 0 ≤ x) (hn : x < n)
    (h : gb_W δ own rt hnd K c0 (pc + 1) lo st (gb_up σ (a + 1) x.toNat y) Q) : gb_W δ own rt hnd K c0 pc lo (vl y :: vi x :: vr c0 (a + 1) :: st) σ Q :=
  gw_ast hk rfl rfl ha (by rw [List.length_replicate]; exact hb) hx (by rw [List.length_replicate]; exact hn) (gb_rep (by omega)) (fun σ' e => by show Value.long (Int64.ofInt _) = _; rw [e]) h
theorem gw_bastore {a n : Nat} {x y : Int} (hk : K.lookup pc = some (.bastore, 1)) (ha : gb_sh[a]? = some (22, List.replicate n 0)) (hb : n ≤ 100000) (hx : 0 ≤ x) (hn : x < n) (hy : y = 0 ∨ y = 1)
    (h : gb_W δ own rt hnd K c0 (pc + 1) lo st (gb_up σ (a + 1) x.toNat y) Q) : gb_W δ own rt hnd K c0 pc lo (vi y :: vi x :: vr c0 (a + 1) :: st) σ Q :=
  gw_ast hk rfl (by rcases hy with rfl | rfl <;> decide) ha (by rw [List.length_replicate]; exact hb) hx (by rw [List.length_replicate]; exact hn) (gb_rep (by omega)) (fun σ' e => by show Value.int (Int32.ofInt _) = _; rw [e]) h
def gb_RL (x : Int) : Prop := -9223372036854775808 ≤ x ∧ x ≤ 9223372036854775807
theorem gb_toJ {x : Int} (h : gb_RL x) : (Int64.ofInt x).toInt = x := Int64.toInt_ofInt_of_le (by unfold gb_RL at h; omega) (by unfold gb_RL at h; omega)
theorem gw_ladd {x y : Int} (hk : K.lookup pc = some (.ladd, 1)) (h : gb_W δ own rt hnd K c0 (pc + 1) lo (vl (x + y) :: st) σ Q) : gb_W δ own rt hnd K c0 pc lo (vl y :: vl x :: st) σ Q :=
  gw_s hk (by show gh_go (pc + 1) lo (.long (Int64.ofInt x + Int64.ofInt y) :: st) _ = _; rw [← Int64.ofInt_add]; rfl) h
theorem gw_lmul {x y : Int} (hk : K.lookup pc = some (.lmul, 1)) (h : gb_W δ own rt hnd K c0 (pc + 1) lo (vl (x * y) :: st) σ Q) : gb_W δ own rt hnd K c0 pc lo (vl y :: vl x :: st) σ Q :=
  gw_s hk (by show gh_go (pc + 1) lo (.long (Int64.ofInt x * Int64.ofInt y) :: st) _ = _; rw [← Int64.ofInt_mul]; rfl) h
theorem gw_l2i {x : Int} (hk : K.lookup pc = some (.l2i, 1)) (h : gb_W δ own rt hnd K c0 (pc + 1) lo (vi x :: st) σ Q) : gb_W δ own rt hnd K c0 pc lo (vl x :: st) σ Q :=
  gw_s hk (by show gh_go (pc + 1) lo (.int (Int64.ofInt x).toInt32 :: st) _ = _; rw [Int64.toInt32_ofInt]; rfl) h
theorem gw_i2l {x : Int} (hk : K.lookup pc = some (.i2l, 1)) (hx : gb_R x) (h : gb_W δ own rt hnd K c0 (pc + 1) lo (vl x :: st) σ Q) : gb_W δ own rt hnd K c0 pc lo (vi x :: st) σ Q :=
  gw_s hk (by show gh_go (pc + 1) lo (.long (Int32.ofInt x).toInt64 :: st) _ = _; rw [Int32.toInt64_ofInt hx.1 hx.2]; rfl) h
/-- the division of two longs, neither below zero -/
theorem gw_ldiv {x y : Int} (hk : K.lookup pc = some (.ldiv, 1)) (hx : 0 ≤ x ∧ x ≤ 9223372036854775807) (hy : 0 < y ∧ y ≤ 9223372036854775807) (h : gb_W δ own rt hnd K c0 (pc + 1) lo (vl (x / y) :: st) σ Q) : gb_W δ own rt hnd K c0 pc lo (vl y :: vl x :: st) σ Q := by
  have hX : gb_RL x := by unfold gb_RL; omega
  have hY : gb_RL y := by unfold gb_RL; omega
  have h0 : ¬ Int64.ofInt y = 0 := fun q => by
    have := congrArg Int64.toInt q
    rw [gb_toJ hY] at this
    exact absurd this (by have : (0 : Int64).toInt = 0 := rfl; omega)
  refine gw_s hk ?_ h
  show (if Int64.ofInt y = 0 then none else gh_go (pc + 1) lo (.long (Int64.ofInt x / Int64.ofInt y) :: st) (gb_H c0 σ)) = _
  rw [if_neg h0]
  have hq : x / y ≤ x := Int.ediv_le_self y hx.1
  have hq0 : 0 ≤ x / y := Int.ediv_nonneg hx.1 (by omega)
  have e : Int64.ofInt x / Int64.ofInt y = Int64.ofInt (x / y) := by
    apply Int64.toInt_inj.mp
    rw [Int64.toInt_div_of_ne_left _ _ (fun q => by
      have := congrArg Int64.toInt q
      rw [gb_toJ hX] at this
      have h9 : Int64.minValue.toInt = -9223372036854775808 := rfl
      omega), gb_toJ hX, gb_toJ hY, gb_toJ (by unfold gb_RL; omega), Int.tdiv_eq_ediv_of_nonneg hx.1]
  rw [e]
  rfl
end GRu2
