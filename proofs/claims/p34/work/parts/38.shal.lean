section GSl
/-- a pure picture of a method: what it answers (inl) or throws (inr), and the world behind it -/
abbrev gb_P : Type := (Int ⊕ Nat) × gb_S
abbrev gR (x : Int) : Prop := -2147483648 ≤ x ∧ x ≤ 2147483647
abbrev gRL (x : Int) : Prop := -9223372036854775808 ≤ x ∧ x ≤ 9223372036854775807
def gq {α : Type} (p : Prop) [Decidable p] (X : Option α) : Option α := if p then X else none
def gc (m : Option gb_P) (k : Int → gb_S → Option gb_P) : Option gb_P := match m with
  | some (.inl x, s) => k x s
  | some (.inr e, s) => some (.inr e, s)
  | none => none
def gch (m : Option gb_P) (k : Int → gb_S → Option gb_P) (h : Nat → gb_S → Option gb_P) : Option gb_P := match m with
  | some (.inl x, s) => k x s
  | some (.inr e, s) => h e s
  | none => none
def eI (o : Int ⊕ Nat) : gh_O := match o with
  | .inl x => .inl (some (vi x))
  | .inr e => .inr e
def eL (o : Int ⊕ Nat) : gh_O := match o with
  | .inl x => .inl (some (vl x))
  | .inr e => .inr e
def eV (o : Int ⊕ Nat) : gh_O := match o with
  | .inl _ => .inl none
  | .inr e => .inr e
def eA (c0 : gx_C) (o : Int ⊕ Nat) : gh_O := match o with
  | .inl x => .inl (some (vr c0 x.toNat))
  | .inr e => .inr e
/-- the cell a of the world, as the shape has it -/
def gw_cl (a : Nat) : Option (Nat × List Nat) := match a with
  | 0 => none
  | a + 1 => gb_sh[a]?
def gb_kd (a : Nat) : Nat := match gw_cl a with
  | some c => c.1
  | none => 99
def gb_ln (a : Nat) : Nat := match gw_cl a with
  | some c => if c.1 = 20 then c.2.length else 0
  | none => 0
abbrev gb_ia (a n : Nat) : Prop := gw_cl a = some (20, List.replicate n 0) ∧ n ≤ 1000
abbrev gb_ba (a n : Nat) : Prop := gw_cl a = some (22, List.replicate n 0) ∧ n ≤ 1000
abbrev gb_la (a n : Nat) : Prop := gw_cl a = some (21, List.replicate n 1) ∧ n ≤ 1000
def gb_G (X : Option gb_P) (δ own : Nat) (rt : Option FieldType) (hnd : Nat → Nat → Option (Nat × Nat)) (K : List (Nat × Instr × Nat)) (c0 : gx_C) (e : Int ⊕ Nat → gh_O) (pc : Nat) (lo : gh_L) (st : List Value) (σ : gb_S) : Prop :=
  ∀ o σ', X = some (o, σ') → gb_W δ own rt hnd K c0 pc lo st σ (fun o2 σ2 => o2 = e o ∧ σ2 = σ')
def gb_M (X : Option gb_P) (δ : Nat) (c0 : gx_C) (e : Int ⊕ Nat → gh_O) (μ : Nat) (as : List Value) (σ : gb_S) : Prop :=
  ∀ o σ', X = some (o, σ') → gb_B δ c0 μ as σ (fun o2 σ2 => o2 = e o ∧ σ2 = σ')
def gb_or (x y : Int) : Int := (Int32.ofInt x ||| Int32.ofInt y).toInt
def gb_and (x y : Int) : Int := (Int32.ofInt x &&& Int32.ofInt y).toInt
def gb_xor (x y : Int) : Int := (Int32.ofInt x ^^^ Int32.ofInt y).toInt
def gb_shl (x y : Int) : Int := (Int32.ofInt x <<< (Int32.ofInt y &&& 31)).toInt
def gb_shr (x y : Int) : Int := (Int32.ofInt x >>> (Int32.ofInt y &&& 31)).toInt
def gb_ushr (x y : Int) : Int := ((Int32.ofInt x).toUInt32 >>> ((Int32.ofInt y).toUInt32 &&& Int32.toUInt32 31)).toInt32.toInt
def gb_cp (σ : gb_S) (a b : Nat) : gb_S := fun c j => if c = b then σ a j else σ c j
theorem gRl {x : Int} (h : (decide (-2147483648 ≤ x) && decide (x ≤ 2147483647)) = true) : gb_R x := by
  rw [Bool.and_eq_true] at h
  exact ⟨of_decide_eq_true h.1, of_decide_eq_true h.2⟩
theorem gb_clS {a : Nat} {c : Nat × List Nat} (h : gw_cl a = some c) : ∃ b, a = b + 1 ∧ gb_sh[b]? = some c := by
  cases a with
  | zero => cases h
  | succ b => exact ⟨b, rfl, h⟩
theorem gl1 {lo : gh_L} {j k : Nat} {v w : Value} (h1 : (k == j) = false) (h2 : (k + 1 == j && v.category == 2) = false) (h : lo.lookup k = some v) : (gh_st1 lo j w).lookup k = some v := by
  have key : ∀ (lo : gh_L), lo.lookup k = some v → (lo.filter (fun q => !(q.1 == j) && !(q.1 + 1 == j && q.2.category == 2))).lookup k = some v := by
    intro lo
    induction lo with
    | nil => intro h; cases h
    | cons p l ih =>
      intro h
      obtain ⟨a, b⟩ := p
      by_cases ha : k = a
      · subst ha
        rw [List.lookup_cons_self] at h
        cases h
        rw [List.filter_cons, h1, h2]
        rw [if_pos (show (!false && !false) = true from rfl), List.lookup_cons_self]
      · have hb : (k == a) = false := by rw [beq_eq_false_iff_ne]; exact ha
        rw [List.lookup_cons, hb] at h
        rw [List.filter_cons]
        split
        · rw [List.lookup_cons, hb]; exact ih h
        · exact ih h
  unfold gh_st1
  rw [List.lookup_cons, h1]
  exact key lo h
theorem gl2 {lo : gh_L} {j k : Nat} {v w : Value} (h1 : (k == j) = false) (h1b : (k == j + 1) = false) (h2 : (k + 1 == j && v.category == 2) = false) (h : lo.lookup k = some v) : (gh_st2 lo j w).lookup k = some v := by
  have key : ∀ (lo : gh_L), lo.lookup k = some v → (lo.filter (fun q => !(q.1 == j) && (!(q.1 == j + 1) && !(q.1 + 1 == j && q.2.category == 2)))).lookup k = some v := by
    intro lo
    induction lo with
    | nil => intro h; cases h
    | cons p l ih =>
      intro h
      obtain ⟨a, b⟩ := p
      by_cases ha : k = a
      · subst ha
        rw [List.lookup_cons_self] at h
        cases h
        rw [List.filter_cons, h1, h1b, h2]
        rw [if_pos (show (!false && (!false && !false)) = true from rfl), List.lookup_cons_self]
      · have hb : (k == a) = false := by rw [beq_eq_false_iff_ne]; exact ha
        rw [List.lookup_cons, hb] at h
        rw [List.filter_cons]
        split
        · rw [List.lookup_cons, hb]; exact ih h
        · exact ih h
  unfold gh_st2
  rw [List.lookup_cons, h1]
  exact key lo h
theorem gs1 {lo : gh_L} {j : Nat} {v : Value} : (gh_st1 lo j v).lookup j = some v := List.lookup_cons_self
theorem gs2 {lo : gh_L} {j : Nat} {v : Value} : (gh_st2 lo j v).lookup j = some v := List.lookup_cons_self
end GSl
section GSr
variable {δ own : Nat} {rt : Option FieldType} {hnd : Nat → Nat → Option (Nat × Nat)} {K : List (Nat × Instr × Nat)} {c0 : gx_C} {e : Int ⊕ Nat → gh_O} {pc : Nat} {lo : gh_L} {st : List Value} {σ : gb_S} {X : Option gb_P}
theorem gg_q {p : Prop} [Decidable p] (h : p → gb_G X δ own rt hnd K c0 e pc lo st σ) : gb_G (gq p X) δ own rt hnd K c0 e pc lo st σ := by
  intro o σ' hx
  unfold gq at hx
  split at hx
  · next hp => exact h hp o σ' hx
  · cases hx
theorem gg_n : gb_G none δ own rt hnd K c0 e pc lo st σ := fun _ _ h => by cases h
theorem gg_m {μ : Nat} {as : List Value} (hm : gh_mt[μ]? = some (own, rt, hnd, K)) (hc : Nat.ble (gh_cat as) (gh_ml.getD μ 0) = true) (h : gb_G X δ own rt hnd K c0 e 0 (lv_args 0 as) [] σ) : gb_M X (δ + 1) c0 e μ as σ :=
  fun o σ' hx => gw_m hm (Nat.le_of_ble_eq_true hc) (h o σ' hx)
theorem gg_up {μ δ' : Nat} {as : List Value} (hd : δ ≤ δ') (h : gb_M X δ c0 e μ as σ) : gb_M X δ' c0 e μ as σ := fun o σ' hx => gb_B_mono hd (h o σ' hx)
/-- an instruction that moves values -/
theorem gg_s {i : Instr} {len : Nat} {lo' : gh_L} {st' : List Value} (p : Nat) (hk : K.lookup pc = some (i, len)) (hs : gh_step true own rt pc i len lo st (gb_H c0 σ) = some (.inl (p, lo', st', gb_H c0 σ)))
    (h : gb_G X δ own rt hnd K c0 e p lo' st' σ) : gb_G X δ own rt hnd K c0 e pc lo st σ := fun o σ' hx => gw_s hk hs (h o σ' hx)
/-- a constant -/
theorem gg_ci {i : Instr} {len : Nat} (p : Nat) (n : Int) (hk : K.lookup pc = some (i, len)) (hs : gh_step true own rt pc i len lo st (gb_H c0 σ) = some (.inl (p, lo, vi n :: st, gb_H c0 σ)))
    (h : gb_G X δ own rt hnd K c0 e p lo (vi n :: st) σ) : gb_G X δ own rt hnd K c0 e pc lo st σ := fun o σ' hx => gw_s hk hs (h o σ' hx)
theorem gg_cl {i : Instr} {len : Nat} (p : Nat) (n : Int) (hk : K.lookup pc = some (i, len)) (hs : gh_step true own rt pc i len lo st (gb_H c0 σ) = some (.inl (p, lo, vl n :: st, gb_H c0 σ)))
    (h : gb_G X δ own rt hnd K c0 e p lo (vl n :: st) σ) : gb_G X δ own rt hnd K c0 e pc lo st σ := fun o σ' hx => gw_s hk hs (h o σ' hx)
/-- a local read -/
theorem gg_il {i : Instr} {len : Nat} {x : Int} (p k : Nat) (hk : K.lookup pc = some (i, len)) (hs : gh_step true own rt pc i len lo st (gb_H c0 σ) = gh_push (gh_ld gh_isI lo k) p lo st (gb_H c0 σ)) (hl : lo.lookup k = some (vi x))
    (h : gb_G X δ own rt hnd K c0 e p lo (vi x :: st) σ) : gb_G X δ own rt hnd K c0 e pc lo st σ := fun o σ' hx => gw_s hk (hs.trans (by unfold gh_ld; rw [hl]; rfl)) (h o σ' hx)
theorem gg_ll {i : Instr} {len : Nat} {x : Int} (p k : Nat) (hk : K.lookup pc = some (i, len)) (hs : gh_step true own rt pc i len lo st (gb_H c0 σ) = gh_push (gh_ld gh_isJ lo k) p lo st (gb_H c0 σ)) (hl : lo.lookup k = some (vl x))
    (h : gb_G X δ own rt hnd K c0 e p lo (vl x :: st) σ) : gb_G X δ own rt hnd K c0 e pc lo st σ := fun o σ' hx => gw_s hk (hs.trans (by unfold gh_ld; rw [hl]; rfl)) (h o σ' hx)
theorem gg_al {i : Instr} {len a : Nat} (p k : Nat) (hk : K.lookup pc = some (i, len)) (hs : gh_step true own rt pc i len lo st (gb_H c0 σ) = gh_push (gh_ld gh_isA lo k) p lo st (gb_H c0 σ)) (hl : lo.lookup k = some (vr c0 a))
    (h : gb_G X δ own rt hnd K c0 e p lo (vr c0 a :: st) σ) : gb_G X δ own rt hnd K c0 e pc lo st σ := fun o σ' hx => gw_s hk (hs.trans (by unfold gh_ld; rw [hl]; rfl)) (h o σ' hx)
/-- a local counted up -/
theorem gg_inc {k : Nat} {n x : Int} (p : Nat) (hk : K.lookup pc = some (.iinc k n, 3)) (hp : pc + 3 = p) (hl : lo.lookup k = some (vi x))
    (h : gb_G X δ own rt hnd K c0 e p (gh_st1 lo k (vi (x + n))) st σ) : gb_G X δ own rt hnd K c0 e pc lo st σ := fun o σ' hx => gw_iinc hk hl (by rw [hp]; exact h o σ' hx)
theorem gg_add {x y : Int} (p : Nat) (hk : K.lookup pc = some (.iadd, 1)) (hp : pc + 1 = p) (h : gb_G X δ own rt hnd K c0 e p lo (vi (x + y) :: st) σ) : gb_G X δ own rt hnd K c0 e pc lo (vi y :: vi x :: st) σ := fun o σ' hx => gw_add hk (by rw [hp]; exact h o σ' hx)
theorem gg_sub {x y : Int} (p : Nat) (hk : K.lookup pc = some (.isub, 1)) (hp : pc + 1 = p) (h : gb_G X δ own rt hnd K c0 e p lo (vi (x - y) :: st) σ) : gb_G X δ own rt hnd K c0 e pc lo (vi y :: vi x :: st) σ := fun o σ' hx => gw_sub hk (by rw [hp]; exact h o σ' hx)
theorem gg_mul {x y : Int} (p : Nat) (hk : K.lookup pc = some (.imul, 1)) (hp : pc + 1 = p) (h : gb_G X δ own rt hnd K c0 e p lo (vi (x * y) :: st) σ) : gb_G X δ own rt hnd K c0 e pc lo (vi y :: vi x :: st) σ := fun o σ' hx => gw_mul hk (by rw [hp]; exact h o σ' hx)
theorem gg_ladd {x y : Int} (p : Nat) (hk : K.lookup pc = some (.ladd, 1)) (hp : pc + 1 = p) (h : gb_G X δ own rt hnd K c0 e p lo (vl (x + y) :: st) σ) : gb_G X δ own rt hnd K c0 e pc lo (vl y :: vl x :: st) σ := fun o σ' hx => gw_ladd hk (by rw [hp]; exact h o σ' hx)
theorem gg_lmul {x y : Int} (p : Nat) (hk : K.lookup pc = some (.lmul, 1)) (hp : pc + 1 = p) (h : gb_G X δ own rt hnd K c0 e p lo (vl (x * y) :: st) σ) : gb_G X δ own rt hnd K c0 e pc lo (vl y :: vl x :: st) σ := fun o σ' hx => gw_lmul hk (by rw [hp]; exact h o σ' hx)
theorem gg_ldiv {x y : Int} (p : Nat) (hk : K.lookup pc = some (.ldiv, 1)) (hp : pc + 1 = p) (g : (0 ≤ x ∧ x ≤ 9223372036854775807) ∧ 0 < y ∧ y ≤ 9223372036854775807) (h : gb_G X δ own rt hnd K c0 e p lo (vl (x / y) :: st) σ) : gb_G X δ own rt hnd K c0 e pc lo (vl y :: vl x :: st) σ := fun o σ' hx => gw_ldiv hk g.1 g.2 (by rw [hp]; exact h o σ' hx)
theorem gg_lrem {x y : Int} (p : Nat) (hk : K.lookup pc = some (.lrem, 1)) (hp : pc + 1 = p) (g : (0 ≤ x ∧ x ≤ 9223372036854775807) ∧ 0 < y ∧ y ≤ 9223372036854775807) (h : gb_G X δ own rt hnd K c0 e p lo (vl (x % y) :: st) σ) : gb_G X δ own rt hnd K c0 e pc lo (vl y :: vl x :: st) σ := fun o σ' hx => gw_lrem hk g.1 g.2 (by rw [hp]; exact h o σ' hx)
theorem gg_l2i {x : Int} (p : Nat) (hk : K.lookup pc = some (.l2i, 1)) (hp : pc + 1 = p) (h : gb_G X δ own rt hnd K c0 e p lo (vi x :: st) σ) : gb_G X δ own rt hnd K c0 e pc lo (vl x :: st) σ := fun o σ' hx => gw_l2i hk (by rw [hp]; exact h o σ' hx)
theorem gg_i2l {x : Int} (p : Nat) (hk : K.lookup pc = some (.i2l, 1)) (hp : pc + 1 = p) (g : gb_R x) (h : gb_G X δ own rt hnd K c0 e p lo (vl x :: st) σ) : gb_G X δ own rt hnd K c0 e pc lo (vi x :: st) σ := fun o σ' hx => gw_i2l hk g (by rw [hp]; exact h o σ' hx)
theorem gg_bit {i : Instr} {x y : Int} {z : Int32} (p : Nat) (hk : K.lookup pc = some (i, 1)) (hs : gh_step true own rt pc i 1 lo (vi y :: vi x :: st) (gb_H c0 σ) = gh_go p lo (.int z :: st) (gb_H c0 σ)) (h : gb_G X δ own rt hnd K c0 e p lo (vi z.toInt :: st) σ) : gb_G X δ own rt hnd K c0 e pc lo (vi y :: vi x :: st) σ := fun o σ' hx => gw_s hk (hs.trans (by show _ = some (Sum.inl (p, lo, vi z.toInt :: st, gb_H c0 σ)); rw [show vi z.toInt = .int z by show Value.int (Int32.ofInt z.toInt) = _; rw [Int32.ofInt_toInt]]; rfl)) (h o σ' hx)
theorem gg_or {x y : Int} (p : Nat) (hk : K.lookup pc = some (.ior, 1)) (hp : pc + 1 = p) (h : gb_G X δ own rt hnd K c0 e p lo (vi (gb_or x y) :: st) σ) : gb_G X δ own rt hnd K c0 e pc lo (vi y :: vi x :: st) σ := gg_bit p hk (by rw [← hp]; rfl) h
theorem gg_and {x y : Int} (p : Nat) (hk : K.lookup pc = some (.iand, 1)) (hp : pc + 1 = p) (h : gb_G X δ own rt hnd K c0 e p lo (vi (gb_and x y) :: st) σ) : gb_G X δ own rt hnd K c0 e pc lo (vi y :: vi x :: st) σ := gg_bit p hk (by rw [← hp]; rfl) h
theorem gg_xor {x y : Int} (p : Nat) (hk : K.lookup pc = some (.ixor, 1)) (hp : pc + 1 = p) (h : gb_G X δ own rt hnd K c0 e p lo (vi (gb_xor x y) :: st) σ) : gb_G X δ own rt hnd K c0 e pc lo (vi y :: vi x :: st) σ := gg_bit p hk (by rw [← hp]; rfl) h
theorem gg_shl {x y : Int} (p : Nat) (hk : K.lookup pc = some (.ishl, 1)) (hp : pc + 1 = p) (h : gb_G X δ own rt hnd K c0 e p lo (vi (gb_shl x y) :: st) σ) : gb_G X δ own rt hnd K c0 e pc lo (vi y :: vi x :: st) σ := gg_bit p hk (by rw [← hp]; rfl) h
theorem gg_shr {x y : Int} (p : Nat) (hk : K.lookup pc = some (.ishr, 1)) (hp : pc + 1 = p) (h : gb_G X δ own rt hnd K c0 e p lo (vi (gb_shr x y) :: st) σ) : gb_G X δ own rt hnd K c0 e pc lo (vi y :: vi x :: st) σ := gg_bit p hk (by rw [← hp]; rfl) h
theorem gg_ushr {x y : Int} (p : Nat) (hk : K.lookup pc = some (.iushr, 1)) (hp : pc + 1 = p) (h : gb_G X δ own rt hnd K c0 e p lo (vi (gb_ushr x y) :: st) σ) : gb_G X δ own rt hnd K c0 e pc lo (vi y :: vi x :: st) σ := gg_bit p hk (by rw [← hp]; rfl) h
/-- comparisons -/
theorem gg_cc {c : ClassFile.Cond} {off x y : Int} {Y Z : Option gb_P} (p q : Nat) (hk : K.lookup pc = some (.if_icmp c off, 3)) (ho : decide (0 ≤ (pc : Int) + off) = true) (hp : gh_tgt pc off = p) (hq : pc + 3 = q) (hx : gb_R x) (hy : gb_R y)
    (hY : gb_cI c x y → X = Y) (hZ : ¬ gb_cI c x y → X = Z) (h1 : gb_G Y δ own rt hnd K c0 e p lo st σ) (h2 : gb_G Z δ own rt hnd K c0 e q lo st σ) : gb_G X δ own rt hnd K c0 e pc lo (vi y :: vi x :: st) σ :=
  fun o σ' hX => gw_if hk (of_decide_eq_true ho) hx hy (fun h => by rw [hp]; exact h1 o σ' (hY h ▸ hX)) (fun h => by rw [hq]; exact h2 o σ' (hZ h ▸ hX))
theorem gg_c0 {c : ClassFile.Cond} {off x : Int} {Y Z : Option gb_P} (p q : Nat) (hk : K.lookup pc = some (.ifCond c off, 3)) (ho : decide (0 ≤ (pc : Int) + off) = true) (hp : gh_tgt pc off = p) (hq : pc + 3 = q) (hx : gb_R x)
    (hY : gb_cI c x 0 → X = Y) (hZ : ¬ gb_cI c x 0 → X = Z) (h1 : gb_G Y δ own rt hnd K c0 e p lo st σ) (h2 : gb_G Z δ own rt hnd K c0 e q lo st σ) : gb_G X δ own rt hnd K c0 e pc lo (vi x :: st) σ :=
  fun o σ' hX => gw_if0 hk (of_decide_eq_true ho) hx (fun h => by rw [hp]; exact h1 o σ' (hY h ▸ hX)) (fun h => by rw [hq]; exact h2 o σ' (hZ h ▸ hX))
theorem gg_cL {c : ClassFile.Cond} {off x y : Int} {Y Z : Option gb_P} (p q : Nat) (hk : K.lookup pc = some (.lcmp, 1)) (hk2 : K.lookup (pc + 1) = some (.ifCond c off, 3)) (ho : decide (0 ≤ ((pc + 1 : Nat) : Int) + off) = true) (hp : gh_tgt (pc + 1) off = p) (hq : pc + 1 + 3 = q) (hx : gb_RL x) (hy : gb_RL y)
    (hY : gb_cI c (gb_sg x y) 0 → X = Y) (hZ : ¬ gb_cI c (gb_sg x y) 0 → X = Z) (h1 : gb_G Y δ own rt hnd K c0 e p lo st σ) (h2 : gb_G Z δ own rt hnd K c0 e q lo st σ) : gb_G X δ own rt hnd K c0 e pc lo (vl y :: vl x :: st) σ :=
  fun o σ' hX => gw_lcmp hk hx hy (gg_c0 p q hk2 ho hp hq (by unfold gb_sg gb_R; split; omega; split <;> omega) hY hZ h1 h2 o σ' hX)
theorem gb_sgC {x y : Int} : (gb_sg x y = 0 ↔ x = y) ∧ (gb_sg x y < 0 ↔ x < y) ∧ (0 < gb_sg x y ↔ y < x) := by
  unfold gb_sg
  split
  · omega
  · split <;> omega
variable {x y : Int} {Y Z : Option gb_P} {off : Int}
theorem gg_ilt (p q : Nat) (hk : K.lookup pc = some (.if_icmp .lt off, 3)) (ho : decide (0 ≤ (pc : Int) + off) = true) (hp : gh_tgt pc off = p) (hq : pc + 3 = q) (hx : gb_R x) (hy : gb_R y) (h1 : gb_G Y δ own rt hnd K c0 e p lo st σ) (h2 : gb_G Z δ own rt hnd K c0 e q lo st σ) : gb_G (if x < y then Y else Z) δ own rt hnd K c0 e pc lo (vi y :: vi x :: st) σ :=
  gg_cc p q hk ho hp hq hx hy (fun h => if_pos h) (fun h => if_neg h) h1 h2
theorem gg_ige (p q : Nat) (hk : K.lookup pc = some (.if_icmp .ge off, 3)) (ho : decide (0 ≤ (pc : Int) + off) = true) (hp : gh_tgt pc off = p) (hq : pc + 3 = q) (hx : gb_R x) (hy : gb_R y) (h1 : gb_G Y δ own rt hnd K c0 e p lo st σ) (h2 : gb_G Z δ own rt hnd K c0 e q lo st σ) : gb_G (if x < y then Z else Y) δ own rt hnd K c0 e pc lo (vi y :: vi x :: st) σ :=
  gg_cc p q hk ho hp hq hx hy (fun h => if_neg (by have h : y ≤ x := h; omega)) (fun h => if_pos (by have h : ¬ y ≤ x := h; omega)) h1 h2
theorem gg_igt (p q : Nat) (hk : K.lookup pc = some (.if_icmp .gt off, 3)) (ho : decide (0 ≤ (pc : Int) + off) = true) (hp : gh_tgt pc off = p) (hq : pc + 3 = q) (hx : gb_R x) (hy : gb_R y) (h1 : gb_G Y δ own rt hnd K c0 e p lo st σ) (h2 : gb_G Z δ own rt hnd K c0 e q lo st σ) : gb_G (if y < x then Y else Z) δ own rt hnd K c0 e pc lo (vi y :: vi x :: st) σ :=
  gg_cc p q hk ho hp hq hx hy (fun h => if_pos h) (fun h => if_neg h) h1 h2
theorem gg_ile (p q : Nat) (hk : K.lookup pc = some (.if_icmp .le off, 3)) (ho : decide (0 ≤ (pc : Int) + off) = true) (hp : gh_tgt pc off = p) (hq : pc + 3 = q) (hx : gb_R x) (hy : gb_R y) (h1 : gb_G Y δ own rt hnd K c0 e p lo st σ) (h2 : gb_G Z δ own rt hnd K c0 e q lo st σ) : gb_G (if y < x then Z else Y) δ own rt hnd K c0 e pc lo (vi y :: vi x :: st) σ :=
  gg_cc p q hk ho hp hq hx hy (fun h => if_neg (by have h : x ≤ y := h; omega)) (fun h => if_pos (by have h : ¬ x ≤ y := h; omega)) h1 h2
theorem gg_ieq (p q : Nat) (hk : K.lookup pc = some (.if_icmp .eq off, 3)) (ho : decide (0 ≤ (pc : Int) + off) = true) (hp : gh_tgt pc off = p) (hq : pc + 3 = q) (hx : gb_R x) (hy : gb_R y) (h1 : gb_G Y δ own rt hnd K c0 e p lo st σ) (h2 : gb_G Z δ own rt hnd K c0 e q lo st σ) : gb_G (if x = y then Y else Z) δ own rt hnd K c0 e pc lo (vi y :: vi x :: st) σ :=
  gg_cc p q hk ho hp hq hx hy (fun h => if_pos h) (fun h => if_neg h) h1 h2
theorem gg_ine (p q : Nat) (hk : K.lookup pc = some (.if_icmp .ne off, 3)) (ho : decide (0 ≤ (pc : Int) + off) = true) (hp : gh_tgt pc off = p) (hq : pc + 3 = q) (hx : gb_R x) (hy : gb_R y) (h1 : gb_G Y δ own rt hnd K c0 e p lo st σ) (h2 : gb_G Z δ own rt hnd K c0 e q lo st σ) : gb_G (if x = y then Z else Y) δ own rt hnd K c0 e pc lo (vi y :: vi x :: st) σ :=
  gg_cc p q hk ho hp hq hx hy (fun h => if_neg h) (fun h => if_pos (Decidable.not_not.mp h)) h1 h2
theorem gg_zlt (p q : Nat) (hk : K.lookup pc = some (.ifCond .lt off, 3)) (ho : decide (0 ≤ (pc : Int) + off) = true) (hp : gh_tgt pc off = p) (hq : pc + 3 = q) (hx : gb_R x) (h1 : gb_G Y δ own rt hnd K c0 e p lo st σ) (h2 : gb_G Z δ own rt hnd K c0 e q lo st σ) : gb_G (if x < 0 then Y else Z) δ own rt hnd K c0 e pc lo (vi x :: st) σ :=
  gg_c0 p q hk ho hp hq hx (fun h => if_pos h) (fun h => if_neg h) h1 h2
theorem gg_zge (p q : Nat) (hk : K.lookup pc = some (.ifCond .ge off, 3)) (ho : decide (0 ≤ (pc : Int) + off) = true) (hp : gh_tgt pc off = p) (hq : pc + 3 = q) (hx : gb_R x) (h1 : gb_G Y δ own rt hnd K c0 e p lo st σ) (h2 : gb_G Z δ own rt hnd K c0 e q lo st σ) : gb_G (if x < 0 then Z else Y) δ own rt hnd K c0 e pc lo (vi x :: st) σ :=
  gg_c0 p q hk ho hp hq hx (fun h => if_neg (by have h : 0 ≤ x := h; omega)) (fun h => if_pos (by have h : ¬ 0 ≤ x := h; omega)) h1 h2
theorem gg_zgt (p q : Nat) (hk : K.lookup pc = some (.ifCond .gt off, 3)) (ho : decide (0 ≤ (pc : Int) + off) = true) (hp : gh_tgt pc off = p) (hq : pc + 3 = q) (hx : gb_R x) (h1 : gb_G Y δ own rt hnd K c0 e p lo st σ) (h2 : gb_G Z δ own rt hnd K c0 e q lo st σ) : gb_G (if 0 < x then Y else Z) δ own rt hnd K c0 e pc lo (vi x :: st) σ :=
  gg_c0 p q hk ho hp hq hx (fun h => if_pos h) (fun h => if_neg h) h1 h2
theorem gg_zle (p q : Nat) (hk : K.lookup pc = some (.ifCond .le off, 3)) (ho : decide (0 ≤ (pc : Int) + off) = true) (hp : gh_tgt pc off = p) (hq : pc + 3 = q) (hx : gb_R x) (h1 : gb_G Y δ own rt hnd K c0 e p lo st σ) (h2 : gb_G Z δ own rt hnd K c0 e q lo st σ) : gb_G (if 0 < x then Z else Y) δ own rt hnd K c0 e pc lo (vi x :: st) σ :=
  gg_c0 p q hk ho hp hq hx (fun h => if_neg (by have h : x ≤ 0 := h; omega)) (fun h => if_pos (by have h : ¬ x ≤ 0 := h; omega)) h1 h2
theorem gg_zeq (p q : Nat) (hk : K.lookup pc = some (.ifCond .eq off, 3)) (ho : decide (0 ≤ (pc : Int) + off) = true) (hp : gh_tgt pc off = p) (hq : pc + 3 = q) (hx : gb_R x) (h1 : gb_G Y δ own rt hnd K c0 e p lo st σ) (h2 : gb_G Z δ own rt hnd K c0 e q lo st σ) : gb_G (if x = 0 then Y else Z) δ own rt hnd K c0 e pc lo (vi x :: st) σ :=
  gg_c0 p q hk ho hp hq hx (fun h => if_pos h) (fun h => if_neg h) h1 h2
theorem gg_zne (p q : Nat) (hk : K.lookup pc = some (.ifCond .ne off, 3)) (ho : decide (0 ≤ (pc : Int) + off) = true) (hp : gh_tgt pc off = p) (hq : pc + 3 = q) (hx : gb_R x) (h1 : gb_G Y δ own rt hnd K c0 e p lo st σ) (h2 : gb_G Z δ own rt hnd K c0 e q lo st σ) : gb_G (if x = 0 then Z else Y) δ own rt hnd K c0 e pc lo (vi x :: st) σ :=
  gg_c0 p q hk ho hp hq hx (fun h => if_neg h) (fun h => if_pos (Decidable.not_not.mp h)) h1 h2
theorem gg_Llt (p q : Nat) (hk : K.lookup pc = some (.lcmp, 1)) (hk2 : K.lookup (pc + 1) = some (.ifCond .lt off, 3)) (ho : decide (0 ≤ ((pc + 1 : Nat) : Int) + off) = true) (hp : gh_tgt (pc + 1) off = p) (hq : pc + 1 + 3 = q) (hx : gb_RL x) (hy : gb_RL y) (h1 : gb_G Y δ own rt hnd K c0 e p lo st σ) (h2 : gb_G Z δ own rt hnd K c0 e q lo st σ) : gb_G (if x < y then Y else Z) δ own rt hnd K c0 e pc lo (vl y :: vl x :: st) σ :=
  gg_cL p q hk hk2 ho hp hq hx hy (fun h => if_pos (gb_sgC.2.1.mp h)) (fun h => if_neg (fun r => h (gb_sgC.2.1.mpr r))) h1 h2
theorem gg_Lge (p q : Nat) (hk : K.lookup pc = some (.lcmp, 1)) (hk2 : K.lookup (pc + 1) = some (.ifCond .ge off, 3)) (ho : decide (0 ≤ ((pc + 1 : Nat) : Int) + off) = true) (hp : gh_tgt (pc + 1) off = p) (hq : pc + 1 + 3 = q) (hx : gb_RL x) (hy : gb_RL y) (h1 : gb_G Y δ own rt hnd K c0 e p lo st σ) (h2 : gb_G Z δ own rt hnd K c0 e q lo st σ) : gb_G (if x < y then Z else Y) δ own rt hnd K c0 e pc lo (vl y :: vl x :: st) σ :=
  gg_cL p q hk hk2 ho hp hq hx hy (fun h => if_neg (fun r => by have h : 0 ≤ gb_sg x y := h; have := gb_sgC.2.1.mpr r; omega)) (fun h => if_pos (gb_sgC.2.1.mp (by have h : ¬ 0 ≤ gb_sg x y := h; omega))) h1 h2
theorem gg_Lgt (p q : Nat) (hk : K.lookup pc = some (.lcmp, 1)) (hk2 : K.lookup (pc + 1) = some (.ifCond .gt off, 3)) (ho : decide (0 ≤ ((pc + 1 : Nat) : Int) + off) = true) (hp : gh_tgt (pc + 1) off = p) (hq : pc + 1 + 3 = q) (hx : gb_RL x) (hy : gb_RL y) (h1 : gb_G Y δ own rt hnd K c0 e p lo st σ) (h2 : gb_G Z δ own rt hnd K c0 e q lo st σ) : gb_G (if y < x then Y else Z) δ own rt hnd K c0 e pc lo (vl y :: vl x :: st) σ :=
  gg_cL p q hk hk2 ho hp hq hx hy (fun h => if_pos (gb_sgC.2.2.mp h)) (fun h => if_neg (fun r => h (gb_sgC.2.2.mpr r))) h1 h2
theorem gg_Lle (p q : Nat) (hk : K.lookup pc = some (.lcmp, 1)) (hk2 : K.lookup (pc + 1) = some (.ifCond .le off, 3)) (ho : decide (0 ≤ ((pc + 1 : Nat) : Int) + off) = true) (hp : gh_tgt (pc + 1) off = p) (hq : pc + 1 + 3 = q) (hx : gb_RL x) (hy : gb_RL y) (h1 : gb_G Y δ own rt hnd K c0 e p lo st σ) (h2 : gb_G Z δ own rt hnd K c0 e q lo st σ) : gb_G (if y < x then Z else Y) δ own rt hnd K c0 e pc lo (vl y :: vl x :: st) σ :=
  gg_cL p q hk hk2 ho hp hq hx hy (fun h => if_neg (fun r => by have h : gb_sg x y ≤ 0 := h; have := gb_sgC.2.2.mpr r; omega)) (fun h => if_pos (gb_sgC.2.2.mp (by have h : ¬ gb_sg x y ≤ 0 := h; omega))) h1 h2
theorem gg_Leq (p q : Nat) (hk : K.lookup pc = some (.lcmp, 1)) (hk2 : K.lookup (pc + 1) = some (.ifCond .eq off, 3)) (ho : decide (0 ≤ ((pc + 1 : Nat) : Int) + off) = true) (hp : gh_tgt (pc + 1) off = p) (hq : pc + 1 + 3 = q) (hx : gb_RL x) (hy : gb_RL y) (h1 : gb_G Y δ own rt hnd K c0 e p lo st σ) (h2 : gb_G Z δ own rt hnd K c0 e q lo st σ) : gb_G (if x = y then Y else Z) δ own rt hnd K c0 e pc lo (vl y :: vl x :: st) σ :=
  gg_cL p q hk hk2 ho hp hq hx hy (fun h => if_pos (gb_sgC.1.mp h)) (fun h => if_neg (fun r => h (gb_sgC.1.mpr r))) h1 h2
theorem gg_Lne (p q : Nat) (hk : K.lookup pc = some (.lcmp, 1)) (hk2 : K.lookup (pc + 1) = some (.ifCond .ne off, 3)) (ho : decide (0 ≤ ((pc + 1 : Nat) : Int) + off) = true) (hp : gh_tgt (pc + 1) off = p) (hq : pc + 1 + 3 = q) (hx : gb_RL x) (hy : gb_RL y) (h1 : gb_G Y δ own rt hnd K c0 e p lo st σ) (h2 : gb_G Z δ own rt hnd K c0 e q lo st σ) : gb_G (if x = y then Z else Y) δ own rt hnd K c0 e pc lo (vl y :: vl x :: st) σ :=
  gg_cL p q hk hk2 ho hp hq hx hy (fun h => if_neg (fun r => h (gb_sgC.1.mpr r))) (fun h => if_pos (gb_sgC.1.mp (Decidable.not_not.mp h))) h1 h2
theorem gg_go (p : Nat) (hk : K.lookup pc = some (.goto off, 3)) (ho : decide (0 ≤ (pc : Int) + off) = true) (hp : gh_tgt pc off = p) (h : gb_G X δ own rt hnd K c0 e p lo st σ) : gb_G X δ own rt hnd K c0 e pc lo st σ := fun o σ' hx => gw_goto hk (of_decide_eq_true ho) (by rw [hp]; exact h o σ' hx)
end GSr
section GSa
variable {δ own : Nat} {rt : Option FieldType} {hnd : Nat → Nat → Option (Nat × Nat)} {K : List (Nat × Instr × Nat)} {c0 : gx_C} {e : Int ⊕ Nat → gh_O} {pc : Nat} {lo : gh_L} {st : List Value} {σ : gb_S} {X : Option gb_P}
/-- fields -/
theorem gg_gi {idx ci j a : Nat} {ts : List Nat} (p : Nat) (hk : K.lookup pc = some (.getfield idx, 3)) (hf : gh_fR own idx = some (ci, j)) (hp : pc + 3 = p) (ha : gw_cl a = some (ci, ts)) (ht : ts[j]? = some 0)
    (h : gb_G X δ own rt hnd K c0 e p lo (vi (σ a j) :: st) σ) : gb_G X δ own rt hnd K c0 e pc lo (vr c0 a :: st) σ := by
  obtain ⟨b, rfl, hb⟩ := gb_clS ha
  subst hp
  exact fun o σ' hx => gw_get hk hf hb ht (h o σ' hx)
theorem gg_gr {idx ci j a : Nat} {ts : List Nat} (p r : Nat) (hk : K.lookup pc = some (.getfield idx, 3)) (hf : gh_fR own idx = some (ci, j)) (hp : pc + 3 = p) (ha : gw_cl a = some (ci, ts)) (ht : ts[j]? = some (r + 2))
    (h : gb_G X δ own rt hnd K c0 e p lo (vr c0 r :: st) σ) : gb_G X δ own rt hnd K c0 e pc lo (vr c0 a :: st) σ := by
  obtain ⟨b, rfl, hb⟩ := gb_clS ha
  subst hp
  exact fun o σ' hx => gw_get hk hf hb ht (h o σ' hx)
theorem gg_pf {idx ci j a : Nat} {ts : List Nat} {x : Int} (p : Nat) (hk : K.lookup pc = some (.putfield idx, 3)) (hf : gh_fR own idx = some (ci, j)) (hp : pc + 3 = p) (ha : gw_cl a = some (ci, ts)) (ht : ts[j]? = some 0) (hty : fits (gh_fty ci j) (vi x) = true ∧ narrow (gh_fty ci j) (vi x) = vi x)
    (h : gb_G X δ own rt hnd K c0 e p lo st (gb_up σ a j x)) : gb_G X δ own rt hnd K c0 e pc lo (vi x :: vr c0 a :: st) σ := by
  obtain ⟨b, rfl, hb⟩ := gb_clS ha
  subst hp
  exact fun o σ' hx => gw_put hk hf hb ht hty (h o σ' hx)
theorem gb_hz {ty : FieldType} {x : Int} (h0 : fits ty (vi 0) = true ∧ narrow ty (vi 0) = vi 0) (h1 : fits ty (vi 1) = true ∧ narrow ty (vi 1) = vi 1) (hx : x = 0 ∨ x = 1) : fits ty (vi x) = true ∧ narrow ty (vi x) = vi x := by
  rcases hx with rfl | rfl
  · exact h0
  · exact h1
/-- arrays -/
theorem gg_ial {a n : Nat} {x : Int} (p : Nat) (hk : K.lookup pc = some (.iaload, 1)) (hp : pc + 1 = p) (ha : gb_ia a n) (g : 0 ≤ x ∧ x < (n : Int)) (h : gb_G X δ own rt hnd K c0 e p lo (vi (σ a x.toNat) :: st) σ) : gb_G X δ own rt hnd K c0 e pc lo (vi x :: vr c0 a :: st) σ := by
  obtain ⟨b, rfl, hb⟩ := gb_clS ha.1
  subst hp
  exact fun o σ' hx => gw_iaload hk hb (by have := ha.2; omega) g.1 g.2 (h o σ' hx)
theorem gg_bal {a n : Nat} {x : Int} (p : Nat) (hk : K.lookup pc = some (.baload, 1)) (hp : pc + 1 = p) (ha : gb_ba a n) (g : 0 ≤ x ∧ x < (n : Int)) (h : gb_G X δ own rt hnd K c0 e p lo (vi (σ a x.toNat) :: st) σ) : gb_G X δ own rt hnd K c0 e pc lo (vi x :: vr c0 a :: st) σ := by
  obtain ⟨b, rfl, hb⟩ := gb_clS ha.1
  subst hp
  exact fun o σ' hx => gw_baload hk hb (by have := ha.2; omega) g.1 g.2 (h o σ' hx)
theorem gg_lal {a n : Nat} {x : Int} (p : Nat) (hk : K.lookup pc = some (.laload, 1)) (hp : pc + 1 = p) (ha : gb_la a n) (g : 0 ≤ x ∧ x < (n : Int)) (h : gb_G X δ own rt hnd K c0 e p lo (vl (σ a x.toNat) :: st) σ) : gb_G X δ own rt hnd K c0 e pc lo (vi x :: vr c0 a :: st) σ := by
  obtain ⟨b, rfl, hb⟩ := gb_clS ha.1
  subst hp
  exact fun o σ' hx => gw_laload hk hb (by have := ha.2; omega) g.1 g.2 (h o σ' hx)
theorem gb_es_at : ∀ n ∈ List.range 14, gb_es.getD n 0 = 47 + 10 * n := by decide +kernel
theorem gg_aal {x : Int} (p : Nat) (hk : K.lookup pc = some (.aaload, 1)) (hp : pc + 1 = p) (g : 0 ≤ x ∧ x < 14) (h : gb_G X δ own rt hnd K c0 e p lo (vr c0 (47 + 10 * x.toNat) :: st) σ) : gb_G X δ own rt hnd K c0 e pc lo (vi x :: vr c0 25 :: st) σ := by
  subst hp
  exact fun o σ' hx => gw_aaload hk g.1 g.2 (by rw [gb_es_at x.toNat (List.mem_range.mpr (by omega))]; exact h o σ' hx)
theorem gg_ias {a n : Nat} {x y : Int} (p : Nat) (hk : K.lookup pc = some (.iastore, 1)) (hp : pc + 1 = p) (ha : gb_ia a n) (g : 0 ≤ x ∧ x < (n : Int)) (h : gb_G X δ own rt hnd K c0 e p lo st (gb_up σ a x.toNat y)) : gb_G X δ own rt hnd K c0 e pc lo (vi y :: vi x :: vr c0 a :: st) σ := by
  obtain ⟨b, rfl, hb⟩ := gb_clS ha.1
  subst hp
  exact fun o σ' hx => gw_iastore hk hb (by have := ha.2; omega) g.1 g.2 (h o σ' hx)
theorem gg_las {a n : Nat} {x y : Int} (p : Nat) (hk : K.lookup pc = some (.lastore, 1)) (hp : pc + 1 = p) (ha : gb_la a n) (g : 0 ≤ x ∧ x < (n : Int)) (h : gb_G X δ own rt hnd K c0 e p lo st (gb_up σ a x.toNat y)) : gb_G X δ own rt hnd K c0 e pc lo (vl y :: vi x :: vr c0 a :: st) σ := by
  obtain ⟨b, rfl, hb⟩ := gb_clS ha.1
  subst hp
  exact fun o σ' hx => gw_lastore hk hb (by have := ha.2; omega) g.1 g.2 (h o σ' hx)
theorem gg_bas {a n : Nat} {x y : Int} (p : Nat) (hk : K.lookup pc = some (.bastore, 1)) (hp : pc + 1 = p) (ha : gb_ba a n) (g : 0 ≤ x ∧ x < (n : Int)) (hy : y = 0 ∨ y = 1) (h : gb_G X δ own rt hnd K c0 e p lo st (gb_up σ a x.toNat y)) : gb_G X δ own rt hnd K c0 e pc lo (vi y :: vi x :: vr c0 a :: st) σ := by
  obtain ⟨b, rfl, hb⟩ := gb_clS ha.1
  subst hp
  exact fun o σ' hx => gw_bastore hk hb (by have := ha.2; omega) g.1 g.2 hy (h o σ' hx)
theorem gg_len {a n : Nat} (p : Nat) (hk : K.lookup pc = some (.arraylength, 1)) (hp : pc + 1 = p) (ha : gb_ia a n) (h : gb_G X δ own rt hnd K c0 e p lo (vi (n : Int) :: st) σ) : gb_G X δ own rt hnd K c0 e pc lo (vr c0 a :: st) σ := by
  obtain ⟨b, rfl, hb⟩ := gb_clS ha.1
  subst hp
  exact fun o σ' hx => gw_len hk hb (Or.inl rfl) (List.length_replicate) (h o σ' hx)
theorem gg_lenE (p : Nat) (hk : K.lookup pc = some (.arraylength, 1)) (hp : pc + 1 = p) (h : gb_G X δ own rt hnd K c0 e p lo (vi 14 :: st) σ) : gb_G X δ own rt hnd K c0 e pc lo (vr c0 25 :: st) σ := by
  subst hp
  obtain ⟨ts, h1, h2, h3⟩ := gb_sh24
  exact fun o σ' hx => gw_len (n := 14) hk h1 (Or.inr (Or.inr rfl)) h2 (h o σ' hx)
theorem gb_rep14 (kd n m t : Nat) (h : gw_cl m = some (kd, List.replicate n t)) : (gw_cl m).isSome = true := by rw [h]; rfl
theorem gb_row_rep (σ : gb_S) (a t : Nat) : ∀ (n i : Nat), gb_row (gx_b c0) σ a i (List.replicate n t) = (List.range' i n).map (fun j => gb_sl (gx_b c0) σ a j t) := by
  intro n
  induction n with
  | zero => intro i; rfl
  | succ n ih =>
    intro i
    show gb_sl (gx_b c0) σ a i t :: gb_row (gx_b c0) σ a (i + 1) (List.replicate n t) = _
    rw [ih, List.range'_succ, List.map_cons]
/-- System.arraycopy of a whole row onto another -/
theorem gg_acp {idx a b n kd t : Nat} (p : Nat) (hkd : kd = 20 ∧ t = 0 ∨ kd = 21 ∧ t = 1) (hn : n ≤ 1000) (hk : K.lookup pc = some (.invokestatic idx, 3)) (ht : gh_tR own idx = none) (hr : gh_aR own idx = true) (hp : pc + 3 = p) (ha : gw_cl a = some (kd, List.replicate n t)) (hb : gw_cl b = some (kd, List.replicate n t))
    (h : gb_G X δ own rt hnd K c0 e p lo [] (gb_cp σ a b)) : gb_G X δ own rt hnd K c0 e pc lo [vi (n : Int), vi 0, vr c0 b, vi 0, vr c0 a] σ := by
  obtain ⟨a, rfl, ha⟩ := gb_clS ha
  obtain ⟨b, rfl, hb⟩ := gb_clS hb
  subst hp
  refine fun o σ' hx => gw_s hk ?_ (h o σ' hx)
  show (match gh_tR own idx with
    | some b' => gh_mm b' pc lo [vi (n : Int), vi 0, vr c0 (b + 1), vi 0, vr c0 (a + 1)] (gb_H c0 σ)
    | none => if gh_aR own idx = true then gh_acopy pc lo [vi (n : Int), vi 0, vr c0 (b + 1), vi 0, vr c0 (a + 1)] (gb_H c0 σ) else _) = _
  rw [ht]
  show (if gh_aR own idx = true then gh_acopy pc lo [vi (n : Int), vi 0, vr c0 (b + 1), vi 0, vr c0 (a + 1)] (gb_H c0 σ) else _) = _
  rw [if_pos hr]
  have hn1 : (Int32.ofInt (n : Int)).toNatClampNeg = n := Int32.toNatClampNeg_ofInt_of_le (by omega) (by omega)
  have hn2 : ¬ Int32.ofInt (n : Int) < 0 := fun q => by
    have h := (gb_lt (x := (n : Int)) (y := 0) (by unfold gb_R; omega) (by unfold gb_R; omega)).mp q
    omega
  have hz : (Int32.ofInt 0).toNatClampNeg = 0 := rfl
  have hz2 : ¬ Int32.ofInt 0 < 0 := by decide
  unfold gh_acopy
  simp only [gb_get ha, gb_get hb, gb_row_len, List.length_replicate, hn1, hz]
  rw [if_pos ⟨gx_ne c0 _, gx_ne c0 _, trivial, hkd.imp (·.1) (·.1), hz2, hz2, hn2, by omega, by omega, Nat.zero_le _⟩]
  have hc := gb_cell (c0 := c0) (σ := σ) (σ' := gb_cp σ (a + 1) (b + 1)) hb (fun a' j hh => if_neg hh)
  have hrow : gb_row (gx_b c0) (gb_cp σ (a + 1) (b + 1)) (b + 1) 0 (List.replicate n t) = gh_cpy (gb_row (gx_b c0) σ (a + 1) 0 (List.replicate n t)) (gb_row (gx_b c0) σ (b + 1) 0 (List.replicate n t)) 0 0 n := by
    unfold gh_cpy
    rw [gb_row_len, List.length_replicate, gb_row_rep, List.range_eq_range']
    apply List.map_congr_left
    intro j hj
    have hj2 : j < n := by
      have := List.mem_range'_1.mp hj
      omega
    rw [if_pos (by omega), Nat.zero_add, Nat.sub_zero, List.getD_eq_getElem?_getD, gb_row_get, List.getElem?_replicate, if_pos hj2, Nat.zero_add]
    show gb_sl (gx_b c0) _ _ _ _ = gb_sl (gx_b c0) _ _ _ _
    rcases hkd with hh | hh
    · rw [hh.2]; show Value.int (Int32.ofInt (gb_cp σ (a + 1) (b + 1) (b + 1) j)) = _; rw [gb_cp, if_pos rfl]; rfl
    · rw [hh.2]; show Value.long (Int64.ofInt (gb_cp σ (a + 1) (b + 1) (b + 1) j)) = _; rw [gb_cp, if_pos rfl]; rfl
  rw [← hrow, hc]
  rfl
/-- calls -/
theorem gb_vs {idx μ n o a : Nat} {len : Nat} {as r : List Value} {ts : List Nat} (hm : gh_mR own idx = some (μ, n)) (hv : st[n - 1]? = some (vr c0 a)) (hn : Nat.blt 0 n = true) (hl : Nat.ble n st.length = true) (ho : gh_mo[μ]? = some (o, 0)) (ha : gw_cl a = some (o, ts)) (has : (st.take n).reverse = as) (hr : st.drop n = r) (hc : Nat.ble (gh_cat r) 8 = true) :
    gh_step true own rt pc (.invokevirtual idx) len lo st (gb_H c0 σ) = some (.inr (.inr (μ, as, r))) := by
  obtain ⟨b, rfl, hb⟩ := gb_clS ha
  show (if gh_rcv (gb_H c0 σ) (gh_mR own idx) st = true then gh_call (gh_mR own idx) st else none) = _
  rw [hm]
  have h1 : gh_rcv (gb_H c0 σ) (some (μ, n)) st = true := by
    show (match st[n - 1]?, gh_mo[μ]? with
      | some (.ref a), some (o, 0) => decide (0 < n) && (gh_at (gb_H c0 σ) o a).isSome
      | _, _ => false) = true
    rw [hv, ho]
    show (decide (0 < n) && (gh_at (gb_H c0 σ) o (b + 1 + gx_b c0)).isSome) = true
    have h0 : 0 < n := Nat.le_of_ble_eq_true hn
    rw [gb_at hb, decide_eq_true h0]
    rfl
  rw [if_pos h1]
  show (if n ≤ st.length ∧ gh_cat (st.drop n) ≤ 8 then some (.inr (.inr (μ, (st.take n).reverse, st.drop n))) else none : Option gh_R) = _
  rw [if_pos ⟨Nat.le_of_ble_eq_true hl, by rw [hr]; exact Nat.le_of_ble_eq_true hc⟩, has, hr]
theorem gb_ss {idx μ n : Nat} {len : Nat} {as r : List Value} (ht : gh_tR own idx = none) (hx : gh_aR own idx = false) (hm : gh_mR own idx = some (μ, n)) (hl : Nat.ble n st.length = true) (has : (st.take n).reverse = as) (hr : st.drop n = r) (hc : Nat.ble (gh_cat r) 8 = true) :
    gh_step true own rt pc (.invokestatic idx) len lo st (gb_H c0 σ) = some (.inr (.inr (μ, as, r))) := by
  show (match gh_tR own idx with
    | some b => gh_mm b pc lo st (gb_H c0 σ)
    | none => if gh_aR own idx = true then gh_acopy pc lo st (gb_H c0 σ) else gh_call (gh_mR own idx) st) = _
  rw [ht]
  show (if gh_aR own idx = true then gh_acopy pc lo st (gb_H c0 σ) else gh_call (gh_mR own idx) st) = _
  rw [hx, if_neg (fun q => by cases q), hm]
  show (if n ≤ st.length ∧ gh_cat (st.drop n) ≤ 8 then some (.inr (.inr (μ, (st.take n).reverse, st.drop n))) else none : Option gh_R) = _
  rw [if_pos ⟨Nat.le_of_ble_eq_true hl, by rw [hr]; exact Nat.le_of_ble_eq_true hc⟩, has, hr]
theorem gb_callG {i : Instr} {len μ δ' : Nat} {as r : List Value} {m : Option gb_P} {Y : Int → gb_S → Option gb_P} {e' : Int ⊕ Nat → gh_O} (hk : K.lookup pc = some (i, len)) (hm : gb_M m δ' c0 e' μ as σ) (hd : δ' ≤ δ) (hs : gh_step true own rt pc i len lo st (gb_H c0 σ) = some (.inr (.inr (μ, as, r)))) (hn : ∀ E, hnd pc E = none) (he : ∀ E, e (.inr E) = .inr E) (he' : ∀ E, e' (.inr E) = .inr E)
    (w : Int → Option Value) (hw : ∀ x, e' (.inl x) = .inl (w x)) (h : ∀ x s, gb_G (Y x s) δ own rt hnd K c0 e (pc + 3) lo ((w x).toList ++ r) s) : gb_G (gc m Y) δ own rt hnd K c0 e pc lo st σ := by
  intro o σ' hx
  unfold gc at hx
  split at hx
  · next x s =>
    have hb := gb_B_mono hd (hm _ _ rfl)
    refine gw_c hk hs (gb_B_of hb ?_)
    rintro o2 σ2 ⟨rfl, rfl⟩
    rw [hw]
    exact h x _ o σ' hx
  · next E s =>
    cases hx
    have hb := gb_B_mono hd (hm _ _ rfl)
    refine gw_c hk hs (gb_B_of hb ?_)
    rintro o2 σ2 ⟨rfl, rfl⟩
    rw [he']
    simp only [hn]
    exact ⟨(he E).symm, trivial⟩
  · cases hx
theorem gg_cI {i : Instr} {len μ δ' : Nat} {as r : List Value} {m : Option gb_P} {Y : Int → gb_S → Option gb_P} (p : Nat) (hk : K.lookup pc = some (i, len)) (hm : gb_M m δ' c0 eI μ as σ) (hd : δ' ≤ δ) (hs : gh_step true own rt pc i len lo st (gb_H c0 σ) = some (.inr (.inr (μ, as, r)))) (hp : pc + 3 = p) (hn : ∀ E, hnd pc E = none) (he : ∀ E, e (.inr E) = .inr E)
    (h : ∀ x s, gb_G (Y x s) δ own rt hnd K c0 e p lo (vi x :: r) s) : gb_G (gc m Y) δ own rt hnd K c0 e pc lo st σ := by
  subst hp
  exact gb_callG hk hm hd hs hn he (fun _ => rfl) (fun x => some (vi x)) (fun _ => rfl) h
theorem gg_cLo {i : Instr} {len μ δ' : Nat} {as r : List Value} {m : Option gb_P} {Y : Int → gb_S → Option gb_P} (p : Nat) (hk : K.lookup pc = some (i, len)) (hm : gb_M m δ' c0 eL μ as σ) (hd : δ' ≤ δ) (hs : gh_step true own rt pc i len lo st (gb_H c0 σ) = some (.inr (.inr (μ, as, r)))) (hp : pc + 3 = p) (hn : ∀ E, hnd pc E = none) (he : ∀ E, e (.inr E) = .inr E)
    (h : ∀ x s, gb_G (Y x s) δ own rt hnd K c0 e p lo (vl x :: r) s) : gb_G (gc m Y) δ own rt hnd K c0 e pc lo st σ := by
  subst hp
  exact gb_callG hk hm hd hs hn he (fun _ => rfl) (fun x => some (vl x)) (fun _ => rfl) h
theorem gg_cV {i : Instr} {len μ δ' : Nat} {as r : List Value} {m : Option gb_P} {Y : gb_S → Option gb_P} (p : Nat) (hk : K.lookup pc = some (i, len)) (hm : gb_M m δ' c0 eV μ as σ) (hd : δ' ≤ δ) (hs : gh_step true own rt pc i len lo st (gb_H c0 σ) = some (.inr (.inr (μ, as, r)))) (hp : pc + 3 = p) (hn : ∀ E, hnd pc E = none) (he : ∀ E, e (.inr E) = .inr E)
    (h : ∀ s, gb_G (Y s) δ own rt hnd K c0 e p lo r s) : gb_G (gc m (fun _ s => Y s)) δ own rt hnd K c0 e pc lo st σ := by
  subst hp
  exact gb_callG hk hm hd hs hn he (fun _ => rfl) (fun x => none) (fun _ => rfl) (fun _ s => h s)
theorem gg_cA {i : Instr} {len μ δ' : Nat} {as r : List Value} {m : Option gb_P} {Y : Int → gb_S → Option gb_P} (p : Nat) (hk : K.lookup pc = some (i, len)) (hm : gb_M m δ' c0 (eA c0) μ as σ) (hd : δ' ≤ δ) (hs : gh_step true own rt pc i len lo st (gb_H c0 σ) = some (.inr (.inr (μ, as, r)))) (hp : pc + 3 = p) (hn : ∀ E, hnd pc E = none) (he : ∀ E, e (.inr E) = .inr E)
    (h : ∀ x s, gb_G (Y x s) δ own rt hnd K c0 e p lo (vr c0 x.toNat :: r) s) : gb_G (gc m Y) δ own rt hnd K c0 e pc lo st σ := by
  subst hp
  exact gb_callG hk hm hd hs hn he (fun _ => rfl) (fun x => some (vr c0 x.toNat)) (fun _ => rfl) h
theorem gg_max {idx : Nat} {x y : Int} (p : Nat) (hk : K.lookup pc = some (.invokestatic idx, 3)) (ht : gh_tR own idx = some 0) (hp : pc + 3 = p) (hc : Nat.ble (gh_cat st) 8 = true) (hx : gb_R x) (hy : gb_R y) (h : gb_G X δ own rt hnd K c0 e p lo (vi (max x y) :: st) σ) : gb_G X δ own rt hnd K c0 e pc lo (vi y :: vi x :: st) σ := fun o σ' hX => gw_max hk ht (Nat.le_of_ble_eq_true hc) hx hy (by rw [hp]; exact h o σ' hX)
theorem gg_min {idx : Nat} {x y : Int} (p : Nat) (hk : K.lookup pc = some (.invokestatic idx, 3)) (ht : gh_tR own idx = some 1) (hp : pc + 3 = p) (hc : Nat.ble (gh_cat st) 8 = true) (hx : gb_R x) (hy : gb_R y) (h : gb_G X δ own rt hnd K c0 e p lo (vi (min x y) :: st) σ) : gb_G X δ own rt hnd K c0 e pc lo (vi y :: vi x :: st) σ := fun o σ' hX => gw_min hk ht (Nat.le_of_ble_eq_true hc) hx hy (by rw [hp]; exact h o σ' hX)
/-- ends -/
theorem gg_ir {x : Int} (hk : K.lookup pc = some (.ireturn, 1)) : gb_G (some (.inl x, σ)) δ own (some .int) hnd K c0 eI pc lo [vi x] σ := by
  intro o σ' hX
  cases hX
  exact gw_iret hk ⟨rfl, rfl⟩
theorem gg_zr {x : Int} (hk : K.lookup pc = some (.ireturn, 1)) (hx : x = 0 ∨ x = 1) : gb_G (some (.inl x, σ)) δ own (some .boolean) hnd K c0 eI pc lo [vi x] σ := by
  intro o σ' hX
  cases hX
  exact gw_zret hk hx ⟨rfl, rfl⟩
theorem gg_lr {x : Int} (hk : K.lookup pc = some (.lreturn, 1)) : gb_G (some (.inl x, σ)) δ own (some .long) hnd K c0 eL pc lo [vl x] σ := by
  intro o σ' hX
  cases hX
  exact gw_lret hk ⟨rfl, rfl⟩
theorem gg_vr (hk : K.lookup pc = some (.return_, 1)) : gb_G (some (.inl 0, σ)) δ own none hnd K c0 eV pc lo [] σ := by
  intro o σ' hX
  cases hX
  exact gw_e hk rfl ⟨rfl, rfl⟩
theorem gg_ar {a : Nat} {s : String} (hk : K.lookup pc = some (.areturn, 1)) : gb_G (some (.inl (a : Int), σ)) δ own (some (.object s)) hnd K c0 (eA c0) pc lo [vr c0 a] σ := by
  intro o σ' hX
  cases hX
  refine gw_e (o := .inl (some (vr c0 a))) hk ?_ ⟨?_, rfl⟩
  · show (if gh_isO (some (.object s)) = true then gh_ret gh_isA (some (.object s)) [vr c0 a] else none) = _
    rw [if_pos (show gh_isO (some (.object s)) = true from rfl)]
    show (if gh_isA (vr c0 a) = true ∧ gh_nok (some (.object s)) (vr c0 a) = true then (some (.inr (.inl (.inl (some (vr c0 a))))) : Option gh_R) else none) = _
    rw [if_pos ⟨rfl, decide_eq_true rfl⟩]
  · show _ = Sum.inl (some (vr c0 (a : Int).toNat))
    rw [Int.toNat_natCast]
theorem gg_th {i : Instr} {len E : Nat} (hk : K.lookup pc = some (i, len)) (hs : gh_step true own rt pc i len lo st (gb_H c0 σ) = some (.inr (.inl (.inr E)))) (he : e (.inr E) = .inr E) : gb_G (some (.inr E, σ)) δ own rt hnd K c0 e pc lo st σ := by
  intro o σ' hX
  cases hX
  exact gw_e hk hs ⟨he.symm, rfl⟩
theorem gm_125 {a n : Nat} {x : Int} (ha : gb_ia a n) : gb_M (some (.inl 0, gb_fi σ a x)) 1 c0 eV 125 [vr c0 a, vi x] σ := by
  obtain ⟨b, rfl, hb⟩ := gb_clS ha.1
  intro o σ' hX
  cases hX
  exact gb_B_of (gd_125 hb ha.2) (fun o2 σ2 h => ⟨h.2, h.1⟩)
theorem gm_126 {a n : Nat} {x : Int} (ha : gb_la a n) : gb_M (some (.inl 0, gb_fi σ a x)) 1 c0 eV 126 [vr c0 a, vl x] σ := by
  obtain ⟨b, rfl, hb⟩ := gb_clS ha.1
  intro o σ' hX
  cases hX
  exact gb_B_of (gd_126 hb ha.2) (fun o2 σ2 h => ⟨h.2, h.1⟩)
end GSa
