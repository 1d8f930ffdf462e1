section GRu
variable {δ own : Nat} {rt : Option FieldType} {hnd : Nat → Nat → Option (Nat × Nat)} {K : List (Nat × Instr × Nat)} {c0 : gx_C} {pc : Nat} {lo : gh_L} {st : List Value} {σ : gb_S} {Q : gh_O → gb_S → Prop}
def gb_cI (c : ClassFile.Cond) (x y : Int) : Prop := match c with
  | .eq => x = y
  | .ne => ¬ x = y
  | .lt => x < y
  | .ge => y ≤ x
  | .gt => y < x
  | .le => x ≤ y
theorem gb_toI {x : Int} (h : gb_R x) : (Int32.ofInt x).toInt = x := Int32.toInt_ofInt_of_le (by unfold gb_R at h; omega) (by unfold gb_R at h; omega)
theorem gb_inj {x y : Int} (hx : gb_R x) (hy : gb_R y) : Int32.ofInt x = Int32.ofInt y ↔ x = y := ⟨fun h => by rw [← gb_toI hx, ← gb_toI hy, h], fun h => by rw [h]⟩
theorem gb_le {x y : Int} (hx : gb_R x) (hy : gb_R y) : Int32.ofInt x ≤ Int32.ofInt y ↔ x ≤ y := by rw [Int32.le_iff_toInt_le, gb_toI hx, gb_toI hy]
theorem gb_lt {x y : Int} (hx : gb_R x) (hy : gb_R y) : Int32.ofInt x < Int32.ofInt y ↔ x < y := by rw [Int32.lt_iff_toInt_lt, gb_toI hx, gb_toI hy]
theorem gb_cmp {c : ClassFile.Cond} {x y : Int} (hx : gb_R x) (hy : gb_R y) : gh_cmp c (Int32.ofInt x) (Int32.ofInt y) = true ↔ gb_cI c x y := by
  cases c with
  | eq => exact decide_eq_true_iff.trans (gb_inj hx hy)
  | ne => exact decide_eq_true_iff.trans (not_congr (gb_inj hx hy))
  | lt => exact decide_eq_true_iff.trans (gb_lt hx hy)
  | ge => exact decide_eq_true_iff.trans (gb_le hy hx)
  | gt => exact decide_eq_true_iff.trans (gb_lt hy hx)
  | le => exact decide_eq_true_iff.trans (gb_le hx hy)
theorem gw_jmp {b : Bool} {off : Int} {i : Instr} {st0 : List Value} (hk : K.lookup pc = some (i, 3)) (hs : gh_step true own rt pc i 3 lo st0 (gb_H c0 σ) = gh_jmp b pc 3 off lo st (gb_H c0 σ)) (ho : 0 ≤ (pc : Int) + off)
    (h1 : b = true → gb_W δ own rt hnd K c0 (gh_tgt pc off) lo st σ Q) (h2 : b = false → gb_W δ own rt hnd K c0 (pc + 3) lo st σ Q) : gb_W δ own rt hnd K c0 pc lo st0 σ Q := by
  unfold gh_jmp at hs
  rw [if_pos ho] at hs
  cases b with
  | true => exact gw_s hk hs (h1 rfl)
  | false => exact gw_s hk hs (h2 rfl)
theorem gw_if {c : ClassFile.Cond} {off x y : Int} (hk : K.lookup pc = some (.if_icmp c off, 3)) (ho : 0 ≤ (pc : Int) + off) (hx : gb_R x) (hy : gb_R y)
    (h1 : gb_cI c x y → gb_W δ own rt hnd K c0 (gh_tgt pc off) lo st σ Q) (h2 : ¬ gb_cI c x y → gb_W δ own rt hnd K c0 (pc + 3) lo st σ Q) : gb_W δ own rt hnd K c0 pc lo (vi y :: vi x :: st) σ Q :=
  gw_jmp (b := gh_cmp c (Int32.ofInt x) (Int32.ofInt y)) hk rfl ho (fun h => h1 ((gb_cmp hx hy).mp h)) (fun h => h2 (fun q => by rw [(gb_cmp hx hy).mpr q] at h; cases h))
theorem gw_if0 {c : ClassFile.Cond} {off x : Int} (hk : K.lookup pc = some (.ifCond c off, 3)) (ho : 0 ≤ (pc : Int) + off) (hx : gb_R x)
    (h1 : gb_cI c x 0 → gb_W δ own rt hnd K c0 (gh_tgt pc off) lo st σ Q) (h2 : ¬ gb_cI c x 0 → gb_W δ own rt hnd K c0 (pc + 3) lo st σ Q) : gb_W δ own rt hnd K c0 pc lo (vi x :: st) σ Q :=
  gw_jmp (b := gh_cmp c (Int32.ofInt x) (Int32.ofInt 0)) hk rfl ho (fun h => h1 ((gb_cmp hx (by unfold gb_R; omega)).mp h)) (fun h => h2 (fun q => by rw [(gb_cmp hx (by unfold gb_R; omega)).mpr q] at h; cases h))
theorem gw_goto {off : Int} (hk : K.lookup pc = some (.goto off, 3)) (ho : 0 ≤ (pc : Int) + off) (h : gb_W δ own rt hnd K c0 (gh_tgt pc off) lo st σ Q) : gb_W δ own rt hnd K c0 pc lo st σ Q :=
  gw_jmp (b := true) hk rfl ho (fun _ => h) (fun q => by cases q)
theorem gb_at {kd a : Nat} {ts : List Nat} (h : gb_sh[a]? = some (kd, ts)) : gh_at (gb_H c0 σ) kd (a + 1 + gx_b c0) = some (gb_row (gx_b c0) σ (a + 1) 0 ts) := by
  unfold gh_at
  rw [gb_get h]
  simp only [if_true]
/-- a field read -/
theorem gw_get {idx ci j a t : Nat} {ts : List Nat} (hk : K.lookup pc = some (.getfield idx, 3)) (hf : gh_fR own idx = some (ci, j)) (ha : gb_sh[a]? = some (ci, ts)) (ht : ts[j]? = some t)
    (h : gb_W δ own rt hnd K c0 (pc + 3) lo (gb_sl (gx_b c0) σ (a + 1) j t :: st) σ Q) : gb_W δ own rt hnd K c0 pc lo (vr c0 (a + 1) :: st) σ Q := by
  refine gw_s hk ?_ h
  show (match gh_fR own idx with
    | some (ci, k) => gh_get ci k pc lo (.ref (a + 1 + gx_b c0) :: st) (gb_H c0 σ)
    | none => none) = _
  rw [hf]
  show gh_get ci j pc lo (.ref (a + 1 + gx_b c0) :: st) (gb_H c0 σ) = _
  unfold gh_get
  simp only [gb_at ha, gb_row_get, ht, Option.map_some, Nat.zero_add]
  rfl
/-- a field written -/
theorem gw_put {idx ci j a : Nat} {ts : List Nat} {x : Int} (hk : K.lookup pc = some (.putfield idx, 3)) (hf : gh_fR own idx = some (ci, j)) (ha : gb_sh[a]? = some (ci, ts)) (ht : ts[j]? = some 0) (hty : fits (gh_fty ci j) (vi x) = true ∧ narrow (gh_fty ci j) (vi x) = vi x)
    (h : gb_W δ own rt hnd K c0 (pc + 3) lo st (gb_up σ (a + 1) j x) Q) : gb_W δ own rt hnd K c0 pc lo (vi x :: vr c0 (a + 1) :: st) σ Q := by
  refine gw_s hk ?_ h
  show (match gh_fR own idx with
    | some (ci, k) => gh_put (gh_fty ci k) ci k pc lo (vi x :: .ref (a + 1 + gx_b c0) :: st) (gb_H c0 σ)
    | none => none) = _
  rw [hf]
  show gh_put (gh_fty ci j) ci j pc lo (vi x :: .ref (a + 1 + gx_b c0) :: st) (gb_H c0 σ) = _
  have hj : j < ts.length := (List.getElem?_eq_some_iff.mp ht).1
  have e := gb_set (c0 := c0) (σ := σ) (x := x) ha ht
  have e2 : gb_sl (gx_b c0) (gb_up σ (a + 1) j x) (a + 1) j 0 = vi x := by
    show Value.int (Int32.ofInt (gb_up σ (a + 1) j x (a + 1) j)) = _
    rw [gb_up, if_pos ⟨rfl, rfl⟩]
  rw [e2] at e
  unfold gh_put
  simp only [gb_at ha]
  rw [if_pos ⟨by rw [gb_row_len]; exact hj, hty.1, hty.2⟩, e]
  rfl
end GRu
