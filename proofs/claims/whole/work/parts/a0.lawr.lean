section LR1
variable {c0 : gh_C} {t pc : Nat} {lo : gh_L} {st : List Value} {σ : gb_S}
/-- the frozen law comes from pc to its end with true, in t steps of its own -/
def zw (c0 : gh_C) (t pc : Nat) (lo : gh_L) (st : List Value) (σ : gb_S) : Prop := ∃ (N0 : Nat) (σ' : gb_S), ∀ N k : Nat, N0 ≤ N → t ≤ k → gh_ex true (gh_cl true N 100) 9 (some .boolean) (fun _ _ => none) gk_law k pc lo st (gb_H c0 σ) = some (.inl (some (.int 1)), gb_H c0 σ')
theorem zw_t {t' : Nat} (h : zw c0 t pc lo st σ) (ht : t ≤ t') : zw c0 t' pc lo st σ := by
  obtain ⟨N0, σ', h1⟩ := h
  exact ⟨N0, σ', fun N k a b => h1 N k a (by omega)⟩
theorem zw_s {i : Instr} {len : Nat} {lo' : gh_L} {st' : List Value} (p : Nat) (hk : gk_law.lookup pc = some (i, len)) (hs : gh_step true 9 (some .boolean) pc i len lo st (gb_H c0 σ) = some (.inl (p, lo', st', gb_H c0 σ))) (h : zw c0 t p lo' st' σ) : zw c0 (t + 1) pc lo st σ := by
  obtain ⟨N0, σ', h1⟩ := h
  refine ⟨N0, σ', fun N k a b => ?_⟩
  obtain ⟨k, rfl⟩ : ∃ q, k = q + 1 := ⟨k - 1, by omega⟩
  exact (gb_exS hk hs).trans (h1 N k a (by omega))
theorem zw_c {i : Instr} {len μ δ' : Nat} {as r : List Value} {m : Option gb_P} {e' : Int ⊕ Nat → gh_O} {x : Int} {w : Value} {σ1 : gb_S} (p : Nat) (hk : gk_law.lookup pc = some (i, len)) (hm : gb_M m δ' c0 e' μ as σ) (hd : Nat.ble δ' 100 = true) (hs : gh_step true 9 (some .boolean) pc i len lo st (gb_H c0 σ) = some (.inr (.inr (μ, as, r)))) (hX : m = some (.inl x, σ1)) (hw : e' (.inl x) = .inl (some w)) (hp : pc + 3 = p) (h : zw c0 t p lo (w :: r) σ1) : zw c0 (t + 1) pc lo st σ := by
  obtain ⟨n, o, σ2, h1, h2⟩ := hm _ _ hX
  obtain ⟨rfl, rfl⟩ := h2
  obtain ⟨N0, σ', h3⟩ := h
  subst hp
  refine ⟨n + N0, σ', fun N k a b => ?_⟩
  obtain ⟨k, rfl⟩ : ∃ q, k = q + 1 := ⟨k - 1, by omega⟩
  rw [gh_ex, hk]
  simp only [hs, h1 N 100 (by omega) (Nat.le_of_ble_eq_true hd), hw]
  exact h3 N k (by omega) (by omega)
theorem zw_al {i : Instr} {len a : Nat} (p k : Nat) (hk : gk_law.lookup pc = some (i, len)) (hs : gh_step true 9 (some .boolean) pc i len lo st (gb_H c0 σ) = gh_push (gh_ld gh_isA lo k) p lo st (gb_H c0 σ)) (hl : lo.lookup k = some (vr a)) (h : zw c0 t p lo (vr a :: st) σ) : zw c0 (t + 1) pc lo st σ := zw_s p hk (hs.trans (by unfold gh_ld; rw [hl]; rfl)) h
theorem zw_il {i : Instr} {len : Nat} {x : Int} (p k : Nat) (hk : gk_law.lookup pc = some (i, len)) (hs : gh_step true 9 (some .boolean) pc i len lo st (gb_H c0 σ) = gh_push (gh_ld gh_isI lo k) p lo st (gb_H c0 σ)) (hl : lo.lookup k = some (vi x)) (h : zw c0 t p lo (vi x :: st) σ) : zw c0 (t + 1) pc lo st σ := zw_s p hk (hs.trans (by unfold gh_ld; rw [hl]; rfl)) h
theorem zw_ll {i : Instr} {len : Nat} {x : Int} (p k : Nat) (hk : gk_law.lookup pc = some (i, len)) (hs : gh_step true 9 (some .boolean) pc i len lo st (gb_H c0 σ) = gh_push (gh_ld gh_isJ lo k) p lo st (gb_H c0 σ)) (hl : lo.lookup k = some (vl x)) (h : zw c0 t p lo (vl x :: st) σ) : zw c0 (t + 1) pc lo st σ := zw_s p hk (hs.trans (by unfold gh_ld; rw [hl]; rfl)) h
theorem zw_add {x y : Int} (hk : gk_law.lookup pc = some (.iadd, 1)) (h : zw c0 t (pc + 1) lo (vi (x + y) :: st) σ) : zw c0 (t + 1) pc lo (vi y :: vi x :: st) σ :=
  zw_s _ hk (by show gh_go (pc + 1) lo (.int (Int32.ofInt x + Int32.ofInt y) :: st) _ = _; rw [← Int32.ofInt_add]; rfl) h
theorem zw_sub {x y : Int} (hk : gk_law.lookup pc = some (.isub, 1)) (h : zw c0 t (pc + 1) lo (vi (x - y) :: st) σ) : zw c0 (t + 1) pc lo (vi y :: vi x :: st) σ :=
  zw_s _ hk (by show gh_go (pc + 1) lo (.int (Int32.ofInt x - Int32.ofInt y) :: st) _ = _; rw [← Int32.ofInt_sub]; rfl) h
theorem zw_jmp {b : Bool} {off : Int} {i : Instr} {st0 : List Value} (hk : gk_law.lookup pc = some (i, 3)) (hs : gh_step true 9 (some .boolean) pc i 3 lo st0 (gb_H c0 σ) = gh_jmp b pc 3 off lo st (gb_H c0 σ)) (ho : decide (0 ≤ (pc : Int) + off) = true) (h1 : b = true → zw c0 t (gh_tgt pc off) lo st σ) (h2 : b = false → zw c0 t (pc + 3) lo st σ) : zw c0 (t + 1) pc lo st0 σ := by
  unfold gh_jmp at hs
  rw [if_pos (of_decide_eq_true ho)] at hs
  cases b with
  | true => exact zw_s _ hk hs (h1 rfl)
  | false => exact zw_s _ hk hs (h2 rfl)
theorem zw_if {c : ClassFile.Cond} {off x y : Int} (p q : Nat) (hk : gk_law.lookup pc = some (.if_icmp c off, 3)) (ho : decide (0 ≤ (pc : Int) + off) = true) (hp : gh_tgt pc off = p) (hq : pc + 3 = q) (hx : gb_R x) (hy : gb_R y) (h1 : gb_cI c x y → zw c0 t p lo st σ) (h2 : ¬ gb_cI c x y → zw c0 t q lo st σ) : zw c0 (t + 1) pc lo (vi y :: vi x :: st) σ := by
  subst hp hq
  exact zw_jmp (b := gh_cmp c (Int32.ofInt x) (Int32.ofInt y)) hk rfl ho (fun h => h1 ((gb_cmp hx hy).mp h)) (fun h => h2 (fun q => by rw [(gb_cmp hx hy).mpr q] at h; cases h))
theorem zw_if0 {c : ClassFile.Cond} {off x : Int} (p q : Nat) (hk : gk_law.lookup pc = some (.ifCond c off, 3)) (ho : decide (0 ≤ (pc : Int) + off) = true) (hp : gh_tgt pc off = p) (hq : pc + 3 = q) (hx : gb_R x) (h1 : gb_cI c x 0 → zw c0 t p lo st σ) (h2 : ¬ gb_cI c x 0 → zw c0 t q lo st σ) : zw c0 (t + 1) pc lo (vi x :: st) σ := by
  subst hp hq
  exact zw_jmp (b := gh_cmp c (Int32.ofInt x) (Int32.ofInt 0)) hk rfl ho (fun h => h1 ((gb_cmp hx (by unfold gb_R; omega)).mp h)) (fun h => h2 (fun q => by rw [(gb_cmp hx (by unfold gb_R; omega)).mpr q] at h; cases h))
theorem zw_go {off : Int} (p : Nat) (hk : gk_law.lookup pc = some (.goto off, 3)) (ho : decide (0 ≤ (pc : Int) + off) = true) (hp : gh_tgt pc off = p) (h : zw c0 t p lo st σ) : zw c0 (t + 1) pc lo st σ := by
  subst hp
  exact zw_jmp (b := true) hk rfl ho (fun _ => h) (fun q => by cases q)
/-- the script, read -/
def xj (xs : List Int32) (c j : Nat) : Int := (xs.getD (5 * c + j) 0).toInt
theorem xj_b (xs : List Int32) (c j : Nat) : -2147483648 ≤ xj xs c j ∧ xj xs c j ≤ 2147483647 := by
  unfold xj
  have h1 := Int32.le_toInt (xs.getD (5 * c + j) 0)
  have h2 := Int32.toInt_lt (xs.getD (5 * c + j) 0)
  omega
theorem zw_x {xs : List Int32} {c j : Nat} (hc0 : c0 = (20, xs.map Value.int)) (hl : xs.length ≤ 2560) (hj : 5 * c + j < xs.length) (hk : gk_law.lookup pc = some (.iaload, 1)) (h : zw c0 t (pc + 1) lo (vi (xj xs c j) :: st) σ) : zw c0 (t + 1) pc lo (vi (((5 * c : Nat) : Int) + (j : Int)) :: vr 0 :: st) σ := by
  refine zw_s _ hk ?_ h
  obtain ⟨e1, e2⟩ := gb_idx (x := ((5 * c : Nat) : Int) + (j : Int)) (n := (xs.map Value.int).length) (by omega) (by rw [List.length_map]; omega) (by rw [List.length_map]; omega)
  have hat : gh_at (gb_H c0 σ) 20 0 = some (xs.map Value.int) := by rw [hc0]; rfl
  show gh_ald 20 pc (fun v => .int (gh_toI v)) lo (.int (Int32.ofInt (((5 * c : Nat) : Int) + (j : Int))) :: .ref 0 :: st) (gb_H c0 σ) = _
  unfold gh_ald
  simp only [hat]
  rw [if_pos e1, e2, show (((5 * c : Nat) : Int) + (j : Int)).toNat = 5 * c + j by omega]
  have : (xs.map Value.int).getD (5 * c + j) .null = .int (xs.getD (5 * c + j) 0) := by
    rw [List.getD_eq_getElem?_getD, List.getElem?_map, List.getD_eq_getElem?_getD, List.getElem?_eq_getElem hj]
    rfl
  rw [this]
  show some (Sum.inl (pc + 1, lo, Value.int (xs.getD (5 * c + j) 0) :: st, gb_H c0 σ)) = some (Sum.inl (pc + 1, lo, Value.int (Int32.ofInt (xj xs c j)) :: st, gb_H c0 σ))
  unfold xj
  rw [Int32.ofInt_toInt]
theorem zw_len {xs : List Int32} (hc0 : c0 = (20, xs.map Value.int)) (hk : gk_law.lookup pc = some (.arraylength, 1)) (h : zw c0 t (pc + 1) lo (vi (xs.length : Int) :: st) σ) : zw c0 (t + 1) pc lo (vr 0 :: st) σ := by
  refine zw_s _ hk ?_ h
  subst hc0
  show (if (20 : Nat) = 20 ∨ ((0 : Nat) ≠ 0 ∧ ((20 : Nat) = 21 ∨ (20 : Nat) = 23)) then gh_go (pc + 1) lo (.int (Int32.ofNat (xs.map Value.int).length) :: st) (gb_H (20, xs.map Value.int) σ) else none) = _
  rw [if_pos (Or.inl rfl), List.length_map]
  rfl
/-- what the class has put out -/
theorem zw_lal (hk : gk_law.lookup pc = some (.laload, 1)) (h : zw c0 t (pc + 1) lo (vl (σ 224 0) :: st) σ) : zw c0 (t + 1) pc lo (vi 0 :: vr 224 :: st) σ := by
  obtain ⟨e1, e2⟩ := gb_idx (x := 0) (n := 1) (by omega) (by omega) (by omega)
  have ha : gb_sh[223]? = some (21, List.replicate 1 1) := rfl
  refine zw_s _ hk ?_ h
  show gh_ald 21 pc (fun v => .long (gh_toJ v)) lo (vi 0 :: vr (223 + 1) :: st) (gb_H c0 σ) = _
  unfold gh_ald
  simp only [gb_at ha]
  rw [gb_row_len, List.length_replicate, if_pos e1, e2]
  rfl
theorem zw_i2l {x : Int} (hk : gk_law.lookup pc = some (.i2l, 1)) (hx : gb_R x) (h : zw c0 t (pc + 1) lo (vl x :: st) σ) : zw c0 (t + 1) pc lo (vi x :: st) σ :=
  zw_s _ hk (by show gh_go (pc + 1) lo (.long (Int32.ofInt x).toInt64 :: st) _ = _; rw [Int32.toInt64_ofInt hx.1 hx.2]; rfl) h
theorem zw_lcmp {x : Int} (hk : gk_law.lookup pc = some (.lcmp, 1)) (hx : gb_RL x) (h : zw c0 t (pc + 1) lo (vi 0 :: st) σ) : zw c0 (t + 1) pc lo (vl x :: vl x :: st) σ := by
  have e : gb_sg x x = 0 := by unfold gb_sg; rw [if_neg (by omega), if_pos rfl]
  exact zw_s _ hk (by show gh_go (pc + 1) lo (.int (lg_cmp (Int64.ofInt x) (Int64.ofInt x)) :: st) _ = _; rw [gb_lcmp hx hx, e]; rfl) h
theorem zw_inc {k : Nat} {n x : Int} (hk : gk_law.lookup pc = some (.iinc k n, 3)) (hl : lo.lookup k = some (vi x)) (h : zw c0 t (pc + 3) (gh_st1 lo k (vi (x + n))) st σ) : zw c0 (t + 1) pc lo st σ := by
  refine zw_s _ hk ?_ h
  show (match gh_ld gh_isI lo k with
    | some v => gh_go (pc + 3) (gh_st1 lo k (.int (gh_toI v + Int32.ofInt n))) st (gb_H c0 σ)
    | none => none) = _
  unfold gh_ld
  rw [hl]
  show gh_go (pc + 3) (gh_st1 lo k (.int (Int32.ofInt x + Int32.ofInt n))) st (gb_H c0 σ) = _
  rw [← Int32.ofInt_add]
  rfl
/-- the law's locals -/
def LL (lo : gh_L) (c : Nat) : Prop := lo.lookup 0 = some (vr 0) ∧ lo.lookup 1 = some (vr 1) ∧ lo.lookup 2 = some (vr 187) ∧ lo.lookup 3 = some (vr 224) ∧ lo.lookup 4 = some (vi ((5 * c : Nat) : Int))
theorem LL_5 {c : Nat} {v : Value} (h : LL lo c) : LL (gh_st1 lo 5 v) c := ⟨gl1 rfl rfl h.1, gl1 rfl rfl h.2.1, gl1 rfl rfl h.2.2.1, gl1 rfl rfl h.2.2.2.1, gl1 rfl rfl h.2.2.2.2⟩
theorem LL_6 {c : Nat} {v : Value} (h : LL lo c) : LL (gh_st1 lo 6 v) c := ⟨gl1 rfl rfl h.1, gl1 rfl rfl h.2.1, gl1 rfl rfl h.2.2.1, gl1 rfl rfl h.2.2.2.1, gl1 rfl rfl h.2.2.2.2⟩
theorem LL_7 {c : Nat} {v : Value} (h : LL lo c) : LL (gh_st2 lo 6 v) c := ⟨gl2 rfl rfl rfl h.1, gl2 rfl rfl rfl h.2.1, gl2 rfl rfl rfl h.2.2.1, gl2 rfl rfl rfl h.2.2.2.1, gl2 rfl rfl rfl h.2.2.2.2⟩
/-- an argument out of the script -/
theorem zw_arg {xs : List Int32} {c : Nat} (j : Nat) (hc0 : c0 = (20, xs.map Value.int)) (hl : xs.length ≤ 2560) (hj : 5 * c + j < xs.length) (l : LL lo c) (hk : gk_law.lookup pc = some (.aload_n 0, 1) ∧ gk_law.lookup (pc + 1) = some (.iload 4, 2) ∧ gk_law.lookup (pc + 3) = some (.iconst (j : Int), 1) ∧ gk_law.lookup (pc + 4) = some (.iadd, 1) ∧ gk_law.lookup (pc + 5) = some (.iaload, 1)) (h : zw c0 t (pc + 6) lo (vi (xj xs c j) :: st) σ) : zw c0 (t + 5) pc lo st σ := by
  obtain ⟨k0, k1, k2, k3, k4⟩ := hk
  refine zw_al (pc + 1) 0 k0 rfl l.1 ?_
  refine zw_il (pc + 3) 4 k1 rfl l.2.2.2.2 ?_
  refine zw_s (st' := vi (j : Int) :: _) (pc + 4) k2 rfl ?_
  refine zw_add k3 ?_
  exact zw_x hc0 hl hj k4 h
/-- behind both calls: thrown and answers compared -/
theorem zw_thr {q : Nat} {k : Int} (l2 : lo.lookup 2 = some (vr 187)) (l5 : lo.lookup 5 = some (vi k)) (hk : gk_law.lookup q = some (.aload_n 2, 1) ∧ gk_law.lookup (q + 1) = some (.invokevirtual 115, 3) ∧ gk_law.lookup (q + 4) = some (.iload 5, 2) ∧ gk_law.lookup (q + 6) = some (.if_icmp .eq 5, 3) ∧ gk_law.lookup (q + 11) = some (.iload 5, 2)) (e : σ 187 43 = k) (hr : 0 ≤ k ∧ k ≤ 3) (h : zw c0 t (q + 13) lo [vi k] σ) : zw c0 (t + 5) q lo [] σ := by
  obtain ⟨k0, k1, k2, k3, k4⟩ := hk
  refine zw_al (pc := q) (q + 1) 2 k0 rfl l2 ?_
  refine zw_c (x := k) (σ1 := σ) (w := vi k) (q + 4) k1 gm_125 rfl (gb_vs rfl rfl rfl rfl rfl gcl_187 rfl rfl rfl) (by unfold fx_125; rw [e]) rfl rfl ?_
  refine zw_il (q + 6) 5 k2 rfl l5 ?_
  refine zw_if (q + 11) (q + 9) k3 (decide_eq_true (by omega)) (by unfold gh_tgt; omega) rfl (by unfold gb_R; omega) (by unfold gb_R; omega) (fun _ => ?_) (fun h => absurd rfl h)
  exact zw_il (q + 13) 5 k4 rfl l5 h
theorem zw_eqJ {q : Nat} {x : Int} (hk : gk_law.lookup q = some (.lcmp, 1) ∧ gk_law.lookup (q + 1) = some (.ifCond .eq 5, 3)) (hx : gb_RL x) (h : zw c0 t (q + 6) lo [] σ) : zw c0 (t + 2) q lo [vl x, vl x] σ := by
  refine zw_lcmp hk.1 hx ?_
  exact zw_if0 (q + 6) (q + 4) hk.2 (decide_eq_true (by omega)) (by unfold gh_tgt; omega) rfl (by unfold gb_R; omega) (fun _ => h) (fun h => absurd rfl h)
/-- an int's end -/
theorem zw_tI {q : Nat} {k b : Int} {off : Int} {c : Nat} (l : LL lo c) (l5 : lo.lookup 5 = some (vi k)) (l6 : lo.lookup 6 = some (vi b)) (hk : gk_law.lookup q = some (.aload_n 2, 1) ∧ gk_law.lookup (q + 1) = some (.invokevirtual 115, 3) ∧ gk_law.lookup (q + 4) = some (.iload 5, 2) ∧ gk_law.lookup (q + 6) = some (.if_icmp .eq 5, 3) ∧ gk_law.lookup (q + 11) = some (.iload 5, 2)) (hk2 : gk_law.lookup (q + 13) = some (.ifCond .ne 15, 3) ∧ gk_law.lookup (q + 16) = some (.aload_n 3, 1) ∧ gk_law.lookup (q + 17) = some (.iconst 0, 1) ∧ gk_law.lookup (q + 18) = some (.laload, 1) ∧ gk_law.lookup (q + 19) = some (.iload 6, 2) ∧ gk_law.lookup (q + 21) = some (.i2l, 1) ∧ gk_law.lookup (q + 22) = some (.lcmp, 1) ∧ gk_law.lookup (q + 23) = some (.ifCond .eq 5, 3) ∧ gk_law.lookup (q + 28) = some (.goto off, 3)) (ho : ((q + 28 : Nat) : Int) + off = 1959) (e : σ 187 43 = k) (e2 : k = 0 → σ 224 0 = b) (hr : 0 ≤ k ∧ k ≤ 3) (hb : -2147483648 ≤ b ∧ b ≤ 2147483647) (h : zw c0 t 1959 lo [] σ) : zw c0 (t + 14) q lo [] σ := by
  obtain ⟨m0, m1, m2, m3, m4, m5, m6, m7, m8⟩ := hk2
  have hg : zw c0 (t + 1) (q + 28) lo [] σ := zw_go 1959 m8 (decide_eq_true (by omega)) (by unfold gh_tgt; omega) h
  refine zw_thr (t := t + 9) l.2.2.1 l5 hk e hr ?_
  refine zw_if0 (q + 28) (q + 16) m0 (decide_eq_true (by omega)) (by unfold gh_tgt; omega) rfl (by unfold gb_R; omega) (fun _ => zw_t hg (by omega)) (fun h0 => ?_)
  have h0 : k = 0 := Decidable.not_not.mp h0
  refine zw_al (q + 17) 3 m1 rfl l.2.2.2.1 ?_
  refine zw_s (st' := [vi 0, vr 224]) (q + 18) m2 rfl ?_
  refine zw_lal m3 ?_
  refine zw_il (q + 21) 6 m4 rfl l6 ?_
  refine zw_i2l m5 hb ?_
  rw [e2 h0]
  exact zw_eqJ (q := q + 22) ⟨m6, m7⟩ (by unfold gb_RL; omega) hg
/-- a long's end -/
theorem zw_tJ {q : Nat} {k b : Int} {off : Int} {c : Nat} (l : LL lo c) (l5 : lo.lookup 5 = some (vi k)) (l6 : lo.lookup 6 = some (vl b)) (hk : gk_law.lookup q = some (.aload_n 2, 1) ∧ gk_law.lookup (q + 1) = some (.invokevirtual 115, 3) ∧ gk_law.lookup (q + 4) = some (.iload 5, 2) ∧ gk_law.lookup (q + 6) = some (.if_icmp .eq 5, 3) ∧ gk_law.lookup (q + 11) = some (.iload 5, 2)) (hk2 : gk_law.lookup (q + 13) = some (.ifCond .ne 14, 3) ∧ gk_law.lookup (q + 16) = some (.aload_n 3, 1) ∧ gk_law.lookup (q + 17) = some (.iconst 0, 1) ∧ gk_law.lookup (q + 18) = some (.laload, 1) ∧ gk_law.lookup (q + 19) = some (.lload 6, 2) ∧ gk_law.lookup (q + 21) = some (.lcmp, 1) ∧ gk_law.lookup (q + 22) = some (.ifCond .eq 5, 3) ∧ gk_law.lookup (q + 27) = some (.goto off, 3)) (ho : ((q + 27 : Nat) : Int) + off = 1959) (e : σ 187 43 = k) (e2 : k = 0 → σ 224 0 = b) (hr : 0 ≤ k ∧ k ≤ 3) (hb : gb_RL b) (h : zw c0 t 1959 lo [] σ) : zw c0 (t + 14) q lo [] σ := by
  obtain ⟨m0, m1, m2, m3, m4, m6, m7, m8⟩ := hk2
  have hg : zw c0 (t + 1) (q + 27) lo [] σ := zw_go 1959 m8 (decide_eq_true (by omega)) (by unfold gh_tgt; omega) h
  refine zw_thr (t := t + 9) l.2.2.1 l5 hk e hr ?_
  refine zw_if0 (q + 27) (q + 16) m0 (decide_eq_true (by omega)) (by unfold gh_tgt; omega) rfl (by unfold gb_R; omega) (fun _ => zw_t hg (by omega)) (fun h0 => ?_)
  have h0 : k = 0 := Decidable.not_not.mp h0
  refine zw_al (q + 17) 3 m1 rfl l.2.2.2.1 ?_
  refine zw_s (st' := [vi 0, vr 224]) (q + 18) m2 rfl ?_
  refine zw_lal m3 ?_
  refine zw_ll (q + 21) 6 m4 rfl l6 ?_
  rw [e2 h0]
  exact zw_eqJ (t := t + 2) (q := q + 21) ⟨m6, m7⟩ hb (zw_t hg (by omega))
/-- a boolean's end -/
theorem zw_tZ {q : Nat} {k b : Int} {off : Int} {c : Nat} (l : LL lo c) (l5 : lo.lookup 5 = some (vi k)) (l6 : lo.lookup 6 = some (vi b)) (hk : gk_law.lookup q = some (.aload_n 2, 1) ∧ gk_law.lookup (q + 1) = some (.invokevirtual 115, 3) ∧ gk_law.lookup (q + 4) = some (.iload 5, 2) ∧ gk_law.lookup (q + 6) = some (.if_icmp .eq 5, 3) ∧ gk_law.lookup (q + 11) = some (.iload 5, 2)) (hk2 : gk_law.lookup (q + 13) = some (.ifCond .ne 22, 3) ∧ gk_law.lookup (q + 16) = some (.aload_n 3, 1) ∧ gk_law.lookup (q + 17) = some (.iconst 0, 1) ∧ gk_law.lookup (q + 18) = some (.laload, 1) ∧ gk_law.lookup (q + 19) = some (.iload 6, 2) ∧ gk_law.lookup (q + 21) = some (.ifCond .eq 7, 3) ∧ gk_law.lookup (q + 24) = some (.lconst 1, 1) ∧ gk_law.lookup (q + 25) = some (.goto 4, 3) ∧ gk_law.lookup (q + 28) = some (.lconst 0, 1) ∧ gk_law.lookup (q + 29) = some (.lcmp, 1) ∧ gk_law.lookup (q + 30) = some (.ifCond .eq 5, 3) ∧ gk_law.lookup (q + 35) = some (.goto off, 3)) (ho : ((q + 35 : Nat) : Int) + off = 1959) (e : σ 187 43 = k) (e2 : k = 0 → σ 224 0 = b) (hr : 0 ≤ k ∧ k ≤ 3) (hb : b = 0 ∨ b = 1) (h : zw c0 t 1959 lo [] σ) : zw c0 (t + 20) q lo [] σ := by
  obtain ⟨m0, m1, m2, m3, m4, m5, m6, m7, m8, m9, ma, mb⟩ := hk2
  have hg : zw c0 (t + 1) (q + 35) lo [] σ := zw_go 1959 mb (decide_eq_true (by omega)) (by unfold gh_tgt; omega) h
  refine zw_thr (t := t + 15) l.2.2.1 l5 hk e hr ?_
  refine zw_if0 (q + 35) (q + 16) m0 (decide_eq_true (by omega)) (by unfold gh_tgt; omega) rfl (by unfold gb_R; omega) (fun _ => zw_t hg (by omega)) (fun h0 => ?_)
  have h0 : k = 0 := Decidable.not_not.mp h0
  refine zw_al (q + 17) 3 m1 rfl l.2.2.2.1 ?_
  refine zw_s (st' := [vi 0, vr 224]) (q + 18) m2 rfl ?_
  refine zw_lal m3 ?_
  refine zw_il (q + 21) 6 m4 rfl l6 ?_
  rw [e2 h0]
  have hend : zw c0 (t + 3) (q + 29) lo [vl b, vl b] σ := zw_eqJ (t := t + 1) (q := q + 29) ⟨m9, ma⟩ (by unfold gb_RL; omega) hg
  refine zw_if0 (q + 28) (q + 24) m5 (decide_eq_true (by omega)) (by unfold gh_tgt; omega) rfl (by unfold gb_R; omega) (fun hb0 => ?_) (fun hb0 => ?_)
  · have hb0 : b = 0 := hb0
    subst hb0
    exact zw_t (zw_s (q + 29) m8 rfl hend) (by omega)
  · have hb1 : b = 1 := by
      rcases hb with hb | hb
      · exact absurd hb hb0
      · exact hb
    subst hb1
    exact zw_t (zw_s (q + 25) m6 rfl (zw_go (q + 29) m7 (decide_eq_true (by omega)) (by unfold gh_tgt; omega) hend)) (by omega)
end LR1
