/-! TWO OBJECTS SIDE BY SIDE: the rules of a counted body over both -/
section ZZ
def gH2 (q0 : gh_C) (σ τ : gb_S) : gh_H := q0 :: (gb_tab 0 σ 1 gb_sh ++ gb_tab 186 τ 1 gb_sh)
def kwa (q0 : gh_C) (τ : gb_S) : gx_C := (q0, ([], gb_tab 186 τ 1 gb_sh))
def kwb (q0 : gh_C) (σ : gb_S) : gx_C := (q0, (gb_tab 0 σ 1 gb_sh, []))
theorem gH2_a (q0 : gh_C) (σ τ : gb_S) : gb_H (kwa q0 τ) σ = gH2 q0 σ τ := by
  unfold gb_H gH2
  rw [show gx_b (kwa q0 τ) = 0 from rfl]
  show q0 :: ([] ++ (gb_tab 0 σ 1 gb_sh ++ gb_tab 186 τ 1 gb_sh)) = _
  rw [List.nil_append]
theorem kwb_b (q0 : gh_C) (σ : gb_S) : gx_b (kwb q0 σ) = 186 := by
  show (gb_tab 0 σ 1 gb_sh).length = 186
  rw [gb_tab_len, gb_sh_len]
theorem gH2_b (q0 : gh_C) (σ τ : gb_S) : gb_H (kwb q0 σ) τ = gH2 q0 σ τ := by
  unfold gb_H
  rw [kwb_b]
  show q0 :: (gb_tab 0 σ 1 gb_sh ++ (gb_tab 186 τ 1 gb_sh ++ [])) = _
  rw [List.append_nil]
  rfl
theorem vr_a (q0 : gh_C) (τ : gb_S) : vr (kwa q0 τ) 1 = .ref 1 := rfl
theorem vr_b (q0 : gh_C) (σ : gb_S) : vr (kwb q0 σ) 1 = .ref 187 := by
  show Value.ref (1 + gx_b (kwb q0 σ)) = .ref 187
  rw [kwb_b]
theorem gH2_eq {q0 : gh_C} {σ τ σ' τ' : gb_S} (h1 : ∀ a, a < 187 → σ' a = σ a) (h2 : ∀ a, a < 187 → τ' a = τ a) : gH2 q0 σ τ = gH2 q0 σ' τ' := by
  unfold gH2
  rw [gb_tab_sh h1, gb_tab_sh h2]
theorem gh_ec_b {C : Nat → List Value → gh_H → Option (gh_O × gh_H)} {rt : Option FieldType} {K : List (Nat × Instr × Nat)} : ∀ (n b b' pc : Nat) (l : gh_L) (st : List Value) (G : gh_H) (x : Option Value × gh_H), b ≤ b' → gh_ec C rt K n b pc l st G = some x → gh_ec C rt K n b' pc l st G = some x := by
  intro n
  induction n with
  | zero => intro b b' pc l st G x _ h; cases h
  | succ n ih =>
    intro b b' pc l st G x hb h
    rw [gh_ec] at h ⊢
    cases hk : K.lookup pc with
    | none => rw [hk] at h; cases h
    | some q =>
      obtain ⟨i, len⟩ := q
      rw [hk] at h
      dsimp only at h ⊢
      generalize gh_step true 9 rt pc i len l st G = w at h ⊢
      rcases w with _ | (⟨pc', l', st', G'⟩ | ((v | E) | ⟨μ, as, r⟩))
      · cases h
      · exact ih _ _ _ _ _ _ _ hb h
      · exact h
      · cases h
      · dsimp only at h ⊢
        by_cases hlt : b < gh_ct μ
        · rw [if_pos hlt] at h; cases h
        · rw [if_neg hlt] at h
          rw [if_neg (by omega)]
          generalize C μ as G = w at h ⊢
          rcases w with _ | ⟨v | E, G'⟩
          · cases h
          · exact ih _ _ _ _ _ _ _ (by omega) h
          · cases h
/-- from pc on the body comes to its end with 1, b paid at most -/
def yq (Cf : Nat → Nat → List Value → gh_H → Option (gh_O × gh_H)) (K : List (Nat × Instr × Nat)) (q0 : gh_C) (Q : gb_S → gb_S → Prop) (b pc : Nat) (lo : gh_L) (st : List Value) (σ τ : gb_S) : Prop :=
  ∃ (N0 : Nat) (σ' τ' : gb_S), (∀ N k, N0 ≤ N → N0 ≤ k → gh_ec (Cf N) (some .boolean) K k b pc lo st (gH2 q0 σ τ) = some (some (.int 1), gH2 q0 σ' τ')) ∧ Q σ' τ'
variable {Cf : Nat → Nat → List Value → gh_H → Option (gh_O × gh_H)} {K : List (Nat × Instr × Nat)} {q0 : gh_C} {Q : gb_S → gb_S → Prop} {b pc : Nat} {lo : gh_L} {st : List Value} {σ τ : gb_S}
theorem yq_b {b' : Nat} (hb : b ≤ b') (h : yq Cf K q0 Q b pc lo st σ τ) : yq Cf K q0 Q b' pc lo st σ τ := by
  obtain ⟨N0, σ', τ', h1, h2⟩ := h
  exact ⟨N0, σ', τ', fun N k h3 h4 => gh_ec_b _ _ _ _ _ _ _ _ hb (h1 N k h3 h4), h2⟩
theorem yq_W {σ2 τ2 : gb_S} (h1 : ∀ a, a < 187 → σ2 a = σ a) (h2 : ∀ a, a < 187 → τ2 a = τ a) (h : yq Cf K q0 Q b pc lo st σ2 τ2) : yq Cf K q0 Q b pc lo st σ τ := by
  obtain ⟨N0, σ', τ', h3, h4⟩ := h
  exact ⟨N0, σ', τ', fun N k h5 h6 => by rw [gH2_eq h1 h2]; exact h3 N k h5 h6, h4⟩
theorem yq_s {i : Instr} {len : Nat} {lo' : gh_L} {st' : List Value} (p : Nat) (hk : K.lookup pc = some (i, len)) (hs : gh_step true 9 (some .boolean) pc i len lo st (gH2 q0 σ τ) = some (.inl (p, lo', st', gH2 q0 σ τ))) (h : yq Cf K q0 Q b p lo' st' σ τ) : yq Cf K q0 Q b pc lo st σ τ := by
  obtain ⟨N0, σ', τ', h1, h2⟩ := h
  refine ⟨N0 + 1, σ', τ', fun N k a b9 => ?_, h2⟩
  obtain ⟨k, rfl⟩ : ∃ q, k = q + 1 := ⟨k - 1, by omega⟩
  rw [gh_ec, hk]
  simp only [hs]
  exact h1 N k (by omega) (by omega)
theorem yq_ret (hk : K.lookup pc = some (.ireturn, 1)) (h : Q σ τ) : yq Cf K q0 Q b pc lo [vi 1] σ τ := by
  refine ⟨1, σ, τ, fun N k a b9 => ?_, h⟩
  obtain ⟨k, rfl⟩ : ∃ q, k = q + 1 := ⟨k - 1, by omega⟩
  rw [gh_ec, hk]
  rfl
theorem yq_ci (n : Int) {i : Instr} {len : Nat} (p : Nat) (hk : K.lookup pc = some (i, len)) (hs : gh_step true 9 (some .boolean) pc i len lo st (gH2 q0 σ τ) = some (.inl (p, lo, vi n :: st, gH2 q0 σ τ))) (h : yq Cf K q0 Q b p lo (vi n :: st) σ τ) : yq Cf K q0 Q b pc lo st σ τ := yq_s p hk hs h
theorem yq_al {i : Instr} {len a : Nat} (p k : Nat) (hk : K.lookup pc = some (i, len)) (hs : gh_step true 9 (some .boolean) pc i len lo st (gH2 q0 σ τ) = gh_push (gh_ld gh_isA lo k) p lo st (gH2 q0 σ τ)) (hl : lo.lookup k = some (.ref a)) (h : yq Cf K q0 Q b p lo (.ref a :: st) σ τ) : yq Cf K q0 Q b pc lo st σ τ := yq_s p hk (hs.trans (by unfold gh_ld; rw [hl]; rfl)) h
theorem yq_il {i : Instr} {len : Nat} {x : Int} (p k : Nat) (hk : K.lookup pc = some (i, len)) (hs : gh_step true 9 (some .boolean) pc i len lo st (gH2 q0 σ τ) = gh_push (gh_ld gh_isI lo k) p lo st (gH2 q0 σ τ)) (hl : lo.lookup k = some (vi x)) (h : yq Cf K q0 Q b p lo (vi x :: st) σ τ) : yq Cf K q0 Q b pc lo st σ τ := yq_s p hk (hs.trans (by unfold gh_ld; rw [hl]; rfl)) h
theorem yq_add {x y : Int} (p : Nat) (hk : K.lookup pc = some (.iadd, 1)) (hp : pc + 1 = p) (h : yq Cf K q0 Q b p lo (vi (x + y) :: st) σ τ) : yq Cf K q0 Q b pc lo (vi y :: vi x :: st) σ τ := by
  subst hp
  exact yq_s _ hk (by show gh_go (pc + 1) lo (.int (Int32.ofInt x + Int32.ofInt y) :: st) _ = _; rw [← Int32.ofInt_add]; rfl) h
theorem yq_mul {x y : Int} (p : Nat) (hk : K.lookup pc = some (.imul, 1)) (hp : pc + 1 = p) (h : yq Cf K q0 Q b p lo (vi (x * y) :: st) σ τ) : yq Cf K q0 Q b pc lo (vi y :: vi x :: st) σ τ := by
  subst hp
  exact yq_s _ hk (by show gh_go (pc + 1) lo (.int (Int32.ofInt x * Int32.ofInt y) :: st) _ = _; rw [← Int32.ofInt_mul]; rfl) h
theorem gz_div {x y : Int} (hx : 0 ≤ x ∧ x ≤ 2147483647) (hy : 0 < y ∧ y ≤ 2147483647) : ¬ Int32.ofInt y = 0 ∧ Int32.ofInt x / Int32.ofInt y = Int32.ofInt (x / y) := by
  have hX : gb_R x := by unfold gb_R; omega
  have hY : gb_R y := by unfold gb_R; omega
  refine ⟨fun q => ?_, ?_⟩
  · have h := (gb_inj hY (show gb_R 0 by unfold gb_R; omega)).mp q
    omega
  · have hq : x / y ≤ x := Int.ediv_le_self y hx.1
    have hq0 : 0 ≤ x / y := Int.ediv_nonneg hx.1 (by omega)
    apply Int32.toInt_inj.mp
    rw [Int32.toInt_div_of_ne_left _ _ (fun q => by
      have := congrArg Int32.toInt q
      rw [gb_toI hX] at this
      have h9 : Int32.minValue.toInt = -2147483648 := rfl
      omega), gb_toI hX, gb_toI hY, gb_toI (by unfold gb_R; omega), Int.tdiv_eq_ediv_of_nonneg hx.1]
theorem yq_div {x y : Int} (p : Nat) (hk : K.lookup pc = some (.idiv, 1)) (hp : pc + 1 = p) (hx : 0 ≤ x ∧ x ≤ 2147483647) (hy : 0 < y ∧ y ≤ 2147483647) (h : yq Cf K q0 Q b p lo (vi (x / y) :: st) σ τ) : yq Cf K q0 Q b pc lo (vi y :: vi x :: st) σ τ := by
  subst hp
  obtain ⟨h0, h1⟩ := gz_div hx hy
  refine yq_s _ hk ?_ h
  show (if Int32.ofInt y = 0 then none else gh_go (pc + 1) lo (.int (Int32.ofInt x / Int32.ofInt y) :: st) (gH2 q0 σ τ)) = _
  rw [if_neg h0, h1]
  rfl
theorem yq_rem {x y : Int} (p : Nat) (hk : K.lookup pc = some (.irem, 1)) (hp : pc + 1 = p) (hx : 0 ≤ x ∧ x ≤ 2147483647) (hy : 0 < y ∧ y ≤ 2147483647) (h : yq Cf K q0 Q b p lo (vi (x % y) :: st) σ τ) : yq Cf K q0 Q b pc lo (vi y :: vi x :: st) σ τ := by
  subst hp
  obtain ⟨h0, h1⟩ := gz_div hx hy
  refine yq_s _ hk ?_ h
  show (if Int32.ofInt y = 0 then none else gh_go (pc + 1) lo (.int (Int32.ofInt x - Int32.ofInt x / Int32.ofInt y * Int32.ofInt y) :: st) (gH2 q0 σ τ)) = _
  rw [if_neg h0, h1, ← Int32.ofInt_mul, ← Int32.ofInt_sub, show x - x / y * y = x % y by rw [Int.emod_def, Int.mul_comm]]
  rfl
theorem yq_jmp {b9 : Bool} {off : Int} {i : Instr} {st0 : List Value} (hk : K.lookup pc = some (i, 3)) (hs : gh_step true 9 (some .boolean) pc i 3 lo st0 (gH2 q0 σ τ) = gh_jmp b9 pc 3 off lo st (gH2 q0 σ τ)) (ho : decide (0 ≤ (pc : Int) + off) = true) (h1 : b9 = true → yq Cf K q0 Q b (gh_tgt pc off) lo st σ τ) (h2 : b9 = false → yq Cf K q0 Q b (pc + 3) lo st σ τ) : yq Cf K q0 Q b pc lo st0 σ τ := by
  unfold gh_jmp at hs
  rw [if_pos (of_decide_eq_true ho)] at hs
  cases b9 with
  | true => exact yq_s _ hk hs (h1 rfl)
  | false => exact yq_s _ hk hs (h2 rfl)
theorem yq_if {c : ClassFile.Cond} {off x y : Int} (p q : Nat) (hk : K.lookup pc = some (.if_icmp c off, 3)) (ho : decide (0 ≤ (pc : Int) + off) = true) (hp : gh_tgt pc off = p) (hq : pc + 3 = q) (hx : gb_R x) (hy : gb_R y) (h1 : gb_cI c x y → yq Cf K q0 Q b p lo st σ τ) (h2 : ¬ gb_cI c x y → yq Cf K q0 Q b q lo st σ τ) : yq Cf K q0 Q b pc lo (vi y :: vi x :: st) σ τ := by
  subst hp hq
  exact yq_jmp (b9 := gh_cmp c (Int32.ofInt x) (Int32.ofInt y)) hk rfl ho (fun h => h1 ((gb_cmp hx hy).mp h)) (fun h => h2 (fun q => by rw [(gb_cmp hx hy).mpr q] at h; cases h))
theorem yq_if0 {c : ClassFile.Cond} {off x : Int} (p q : Nat) (hk : K.lookup pc = some (.ifCond c off, 3)) (ho : decide (0 ≤ (pc : Int) + off) = true) (hp : gh_tgt pc off = p) (hq : pc + 3 = q) (hx : gb_R x) (h1 : gb_cI c x 0 → yq Cf K q0 Q b p lo st σ τ) (h2 : ¬ gb_cI c x 0 → yq Cf K q0 Q b q lo st σ τ) : yq Cf K q0 Q b pc lo (vi x :: st) σ τ := by
  subst hp hq
  exact yq_jmp (b9 := gh_cmp c (Int32.ofInt x) (Int32.ofInt 0)) hk rfl ho (fun h => h1 ((gb_cmp hx (by unfold gb_R; omega)).mp h)) (fun h => h2 (fun q => by rw [(gb_cmp hx (by unfold gb_R; omega)).mpr q] at h; cases h))
/-- the two answers are the same -/
theorem yq_ne {off x : Int} (q : Nat) (hk : K.lookup pc = some (.if_icmp .ne off, 3)) (ho : decide (0 ≤ (pc : Int) + off) = true) (hq : pc + 3 = q) (h : yq Cf K q0 Q b q lo st σ τ) : yq Cf K q0 Q b pc lo (vi x :: vi x :: st) σ τ := by
  subst hq
  refine yq_jmp (b9 := gh_cmp .ne (Int32.ofInt x) (Int32.ofInt x)) hk rfl ho (fun h9 => ?_) (fun _ => h)
  have : gh_cmp .ne (Int32.ofInt x) (Int32.ofInt x) = false := decide_eq_false (fun q => q rfl)
  rw [this] at h9
  cases h9
theorem lg_cmp_self (x : Int64) : lg_cmp x x = 0 := by
  unfold lg_cmp
  rw [if_neg (Int64.lt_irrefl), if_pos rfl]
theorem yq_lc {x : Int} (p : Nat) (hk : K.lookup pc = some (.lcmp, 1)) (hp : pc + 1 = p) (h : yq Cf K q0 Q b p lo (vi 0 :: st) σ τ) : yq Cf K q0 Q b pc lo (vl x :: vl x :: st) σ τ := by
  subst hp
  exact yq_s _ hk (by show gh_go (pc + 1) lo (.int (lg_cmp (Int64.ofInt x) (Int64.ofInt x)) :: st) _ = _; rw [lg_cmp_self]; rfl) h
theorem yq_go {off : Int} (p : Nat) (hk : K.lookup pc = some (.goto off, 3)) (ho : decide (0 ≤ (pc : Int) + off) = true) (hp : gh_tgt pc off = p) (h : yq Cf K q0 Q b p lo st σ τ) : yq Cf K q0 Q b pc lo st σ τ := by
  subst hp
  exact yq_jmp (b9 := true) hk rfl ho (fun _ => h) (fun q => by cases q)
theorem yq_inc {k : Nat} {n x : Int} (p : Nat) (hk : K.lookup pc = some (.iinc k n, 3)) (hp : pc + 3 = p) (hl : lo.lookup k = some (vi x)) (h : yq Cf K q0 Q b p (gh_st1 lo k (vi (x + n))) st σ τ) : yq Cf K q0 Q b pc lo st σ τ := by
  subst hp
  refine yq_s _ hk ?_ h
  show (match gh_ld gh_isI lo k with
    | some v => gh_go (pc + 3) (gh_st1 lo k (.int (gh_toI v + Int32.ofInt n))) st (gH2 q0 σ τ)
    | none => none) = _
  unfold gh_ld
  rw [hl]
  show gh_go (pc + 3) (gh_st1 lo k (.int (Int32.ofInt x + Int32.ofInt n))) st (gH2 q0 σ τ) = _
  rw [← Int32.ofInt_add]
  rfl
/-- calls: how the step looks -/
theorem zs_ss {own : Nat} {rt : Option FieldType} {G : gh_H} {idx μ n : Nat} {len : Nat} {as r : List Value} (ht : gh_tR own idx = none) (hx : gh_aR own idx = false) (hm : gh_mR own idx = some (μ, n)) (hl : Nat.ble n st.length = true) (has : (st.take n).reverse = as) (hr : st.drop n = r) (hc : Nat.ble (gh_cat r) 8 = true) :
    gh_step true own rt pc (.invokestatic idx) len lo st G = some (.inr (.inr (μ, as, r))) := by
  show (match gh_tR own idx with
    | some b => gh_mm b pc lo st G
    | none => if gh_aR own idx = true then gh_acopy pc lo st G else gh_call (gh_mR own idx) st) = _
  rw [ht]
  show (if gh_aR own idx = true then gh_acopy pc lo st G else gh_call (gh_mR own idx) st) = _
  rw [hx, if_neg (fun q => by cases q), hm]
  show (if n ≤ st.length ∧ gh_cat (st.drop n) ≤ 8 then some (.inr (.inr (μ, (st.take n).reverse, st.drop n))) else none : Option gh_R) = _
  rw [if_pos ⟨Nat.le_of_ble_eq_true hl, by rw [hr]; exact Nat.le_of_ble_eq_true hc⟩, has, hr]
theorem zs_v {own : Nat} {rt : Option FieldType} {G : gh_H} {idx μ o a : Nat} {len : Nat} {r : List Value} (hm : gh_mR own idx = some (μ, 1)) (ho : gh_mo[μ]? = some (o, 0)) (ha : (gh_at G o a).isSome = true) (hc : Nat.ble (gh_cat r) 8 = true) :
    gh_step true own rt pc (.invokevirtual idx) len lo (.ref a :: r) G = some (.inr (.inr (μ, [.ref a], r))) := by
  show (if gh_rcv G (gh_mR own idx) (.ref a :: r) = true then gh_call (gh_mR own idx) (.ref a :: r) else none) = _
  rw [hm]
  have h1 : gh_rcv G (some (μ, 1)) (.ref a :: r) = true := by
    have e0 : (Value.ref a :: r)[1 - 1]? = some (.ref a) := rfl
    show (match (Value.ref a :: r)[1 - 1]?, gh_mo[μ]? with
      | some (Value.ref a), some (o, 0) => decide (0 < 1) && (gh_at G o a).isSome
      | _, _ => false) = true
    rw [e0, ho]
    show (decide (0 < 1) && (gh_at G o a).isSome) = true
    rw [ha]
    rfl
  rw [if_pos h1]
  show (if 1 ≤ r.length + 1 ∧ gh_cat r ≤ 8 then some (.inr (.inr (μ, [.ref a], r))) else none : Option gh_R) = _
  rw [if_pos ⟨by omega, Nat.le_of_ble_eq_true hc⟩]
theorem at_a (q0 : gh_C) (σ τ : gb_S) : (gh_at (gH2 q0 σ τ) 7 1).isSome = true := by
  have h := gb_at (c0 := kwa q0 τ) (σ := σ) (a := 0) (kd := 7) (ts := [4, 8, 17, 22, 27, 28, 32, 43, 46, 0]) rfl
  rw [gH2_a] at h
  have h2 : gh_at (gH2 q0 σ τ) 7 1 = some (gb_row (gx_b (kwa q0 τ)) σ 1 0 [4, 8, 17, 22, 27, 28, 32, 43, 46, 0]) := h
  rw [h2]; rfl
theorem at_b (q0 : gh_C) (σ τ : gb_S) : (gh_at (gH2 q0 σ τ) 7 187).isSome = true := by
  have h := gb_at (c0 := kwb q0 σ) (σ := τ) (a := 0) (kd := 7) (ts := [4, 8, 17, 22, 27, 28, 32, 43, 46, 0]) rfl
  rw [kwb_b, gH2_b] at h
  rw [h]; rfl
/-- a call of anything but same, by what it does -/
theorem yq_c {i : Instr} {len μ N1 : Nat} {as r : List Value} {w : Value} {σ1 τ1 : gb_S} (p b1 : Nat) (hk : K.lookup pc = some (i, len)) (hs : gh_step true 9 (some .boolean) pc i len lo st (gH2 q0 σ τ) = some (.inr (.inr (μ, as, r)))) (hb : gh_ct μ + b1 = b) (hm : ∀ N, N1 ≤ N → Cf N μ as (gH2 q0 σ τ) = some (.inl (some w), gH2 q0 σ1 τ1)) (hp : pc + 3 = p) (h : yq Cf K q0 Q b1 p lo (w :: r) σ1 τ1) : yq Cf K q0 Q b pc lo st σ τ := by
  obtain ⟨N0, σ', τ', h1, h2⟩ := h
  subst hp
  refine ⟨N0 + N1 + 1, σ', τ', fun N k a b9 => ?_, h2⟩
  obtain ⟨k, rfl⟩ : ∃ q, k = q + 1 := ⟨k - 1, by omega⟩
  rw [gh_ec, hk]
  simp only [hs]
  rw [if_neg (by omega), hm N (by omega), show b - gh_ct μ = b1 by omega]
  exact h1 N k (by omega) (by omega)
theorem yq_ca {i : Instr} {len μ δ' : Nat} {as r : List Value} {m : Option gb_P} {e' : Int ⊕ Nat → gh_O} {x : Int} {w : Value} {σ1 : gb_S} (p b1 : Nat) (hCf : ∀ N μ as G, μ ≠ 136 → Cf N μ as G = gh_cl true N 100 μ as G) (hμ : μ ≠ 136) (hk : K.lookup pc = some (i, len)) (hm : gb_M m δ' (kwa q0 τ) e' μ (vr (kwa q0 τ) 1 :: as) σ) (hd : Nat.ble δ' 100 = true) (hs : gh_step true 9 (some .boolean) pc i len lo st (gH2 q0 σ τ) = some (.inr (.inr (μ, .ref 1 :: as, r)))) (hX : m = some (.inl x, σ1)) (hw : e' (.inl x) = .inl (some w)) (hb : gh_ct μ + b1 = b) (hp : pc + 3 = p) (h : yq Cf K q0 Q b1 p lo (w :: r) σ1 τ) : yq Cf K q0 Q b pc lo st σ τ := by
  obtain ⟨n, o, σ2, h1, h2⟩ := hm _ _ hX
  obtain ⟨rfl, rfl⟩ := h2
  refine yq_c p b1 hk hs hb (N1 := n) (fun N hN => ?_) hp h
  rw [hCf _ _ _ _ hμ]
  have h3 := h1 N 100 hN (Nat.le_of_ble_eq_true hd)
  rw [hw, vr_a, gH2_a, gH2_a] at h3
  exact h3
theorem yq_cb {i : Instr} {len μ δ' : Nat} {as r : List Value} {m : Option gb_P} {e' : Int ⊕ Nat → gh_O} {x : Int} {w : Value} {τ1 : gb_S} (p b1 : Nat) (hCf : ∀ N μ as G, μ ≠ 136 → Cf N μ as G = gh_cl true N 100 μ as G) (hμ : μ ≠ 136) (hk : K.lookup pc = some (i, len)) (hm : gb_M m δ' (kwb q0 σ) e' μ (vr (kwb q0 σ) 1 :: as) τ) (hd : Nat.ble δ' 100 = true) (hs : gh_step true 9 (some .boolean) pc i len lo st (gH2 q0 σ τ) = some (.inr (.inr (μ, .ref 187 :: as, r)))) (hX : m = some (.inl x, τ1)) (hw : e' (.inl x) = .inl (some w)) (hb : gh_ct μ + b1 = b) (hp : pc + 3 = p) (h : yq Cf K q0 Q b1 p lo (w :: r) σ τ1) : yq Cf K q0 Q b pc lo st σ τ := by
  obtain ⟨n, o, σ2, h1, h2⟩ := hm _ _ hX
  obtain ⟨rfl, rfl⟩ := h2
  refine yq_c p b1 hk hs hb (N1 := n) (fun N hN => ?_) hp h
  rw [hCf _ _ _ _ hμ]
  have h3 := h1 N 100 hN (Nat.le_of_ble_eq_true hd)
  rw [hw, vr_b, gH2_b, gH2_b] at h3
  exact h3
end ZZ
