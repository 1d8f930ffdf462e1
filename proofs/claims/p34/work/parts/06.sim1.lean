/-! THE GHOST HEAP IN THE MACHINE'S HEAP -/
/-- what stays through a run: where the classes and fields lie, the arrays' classes, the script's cell, where the world begins, the script -/
abbrev gh_Z : Type := va_G × (ClassId × ClassId × ClassId × ClassId) × Nat × Nat × List Int32
def gh_ad (z : gh_Z) (i : Nat) : Nat := if i = 0 then z.2.2.1 else z.2.2.2.1 + (i - 1)
def gh_em (z : gh_Z) (v : Value) : Value := match v with
  | .ref i => .ref (gh_ad z i)
  | v => v
def gh_lm (z : gh_Z) (l : gh_L) : List (Nat × Value) := l.map fun q => (q.1, gh_em z q.2)
def gh_re (z : gh_Z) (v : Value) : Option Nat := match v with
  | .ref a => some (gh_ad z a)
  | _ => none
def gh_ce (z : gh_Z) (c : gh_C) : va_E :=
  if c.1 = 20 then .inl (z.2.1.1, c.2.length, .inl (fun j => gh_toI (c.2.getD j .null)))
  else if c.1 = 21 then .inl (z.2.1.2.1, c.2.length, .inr (.inl (fun j => gh_toJ (c.2.getD j .null))))
  else if c.1 = 22 then .inl (z.2.1.2.2.1, c.2.length, .inl (fun j => gh_toI (c.2.getD j .null)))
  else if c.1 = 23 then .inl (z.2.1.2.2.2, c.2.length, .inr (.inr (.inr (.inr (fun j => gh_re z (c.2.getD j .null))))))
  else .inr (c.1, c.2.map (gh_em z))
def gh_ws (z : gh_Z) : Nat → gh_H → va_W
  | _, [] => []
  | i, c :: G => (gh_ad z i, gh_ce z c) :: gh_ws z (i + 1) G
def gh_W (z : gh_Z) (G : gh_H) : va_W := gh_ws z 1 (G.drop 1)
def gh_tys (z : gh_Z) : List (ClassId × FieldType) := [(z.2.1.1, .int), (z.2.1.2.1, .long), (z.2.1.2.2.1, .boolean), (z.2.1.2.2.2, .object RX1)]
def gh_A (z : gh_Z) : Nat → Prop := fun q => z.2.2.2.1 ≤ q
theorem gh_ws_get (z : gh_Z) : ∀ (G : gh_H) (i k : Nat), (gh_ws z i G)[k]? = (G[k]?).map (fun c => (gh_ad z (i + k), gh_ce z c)) := by
  intro G
  induction G with
  | nil => intro i k; simp [gh_ws]
  | cons c G ih =>
    intro i k
    cases k with
    | zero => simp [gh_ws]
    | succ k =>
      simp only [gh_ws, List.getElem?_cons_succ]
      rw [ih (i + 1) k, show i + 1 + k = i + (k + 1) by omega]
theorem gh_ws_set (z : gh_Z) (c : gh_C) : ∀ (G : gh_H) (i k : Nat), gh_ws z i (G.set k c) = (gh_ws z i G).set k (gh_ad z (i + k), gh_ce z c) := by
  intro G
  induction G with
  | nil => intro i k; simp [gh_ws]
  | cons d G ih =>
    intro i k
    cases k with
    | zero => simp [gh_ws]
    | succ k =>
      simp only [gh_ws, List.set_cons_succ]
      rw [ih (i + 1) k, show i + 1 + k = i + (k + 1) by omega]
theorem gh_ws_push (z : gh_Z) (c : gh_C) : ∀ (G : gh_H) (i : Nat), gh_ws z i (G ++ [c]) = gh_ws z i G ++ [(gh_ad z (i + G.length), gh_ce z c)] := by
  intro G
  induction G with
  | nil => intro i; simp [gh_ws]
  | cons d G ih =>
    intro i
    simp only [gh_ws, List.cons_append, List.length_cons]
    rw [ih (i + 1), show i + 1 + G.length = i + (G.length + 1) by omega]
theorem gh_W_get {z : gh_Z} {G : gh_H} {a : Nat} {c : gh_C} (h : G[a]? = some c) (ha : a ≠ 0) : (gh_W z G)[a - 1]? = some (gh_ad z a, gh_ce z c) := by
  unfold gh_W
  rw [gh_ws_get, List.getElem?_drop, show 1 + (a - 1) = a by omega, h]
  rfl
theorem gh_W_set {z : gh_Z} {G : gh_H} {a : Nat} {c : gh_C} (ha : a ≠ 0) : gh_W z (G.set a c) = (gh_W z G).set (a - 1) (gh_ad z a, gh_ce z c) := by
  unfold gh_W
  rw [List.drop_set, if_neg (by omega), gh_ws_set, show 1 + (a - 1) = a by omega]
theorem gh_W_push {z : gh_Z} {G : gh_H} {c : gh_C} (hG : 1 ≤ G.length) : gh_W z (G ++ [c]) = gh_W z G ++ [(gh_ad z G.length, gh_ce z c)] := by
  unfold gh_W
  rw [List.drop_append_of_le_length hG, gh_ws_push, List.length_drop, show 1 + (G.length - 1) = G.length by omega]
theorem gh_W_D (z : gh_Z) (G : gh_H) : va_D (gh_A z) (gh_W z G) := by
  have g : ∀ (k : Nat) (q : Nat × va_E), (gh_W z G)[k]? = some q → q.1 = z.2.2.2.1 + k := by
    intro k q h
    unfold gh_W at h
    rw [gh_ws_get] at h
    obtain ⟨c, -, rfl⟩ := Option.map_eq_some_iff.mp h
    show gh_ad z (1 + k) = _
    unfold gh_ad
    rw [if_neg (by omega)]
    omega
  refine ⟨fun i j p q h1 h2 h3 => ?_, fun k q h => ?_⟩
  · have := g i p h1
    have := g j q h2
    omega
  · show z.2.2.2.1 ≤ q.1
    rw [g k q h]
    omega
/-- the ghost heap G lies in the machine's heap H; its cell 0 is the script, or (while the world is being made) stands for it -/
def gh_Rel (z : gh_Z) (G : gh_H) (H : Heap) : Prop := va_P z.1 vwCl (gh_W z G) H ∧ (G[0]? = some (20, z.2.2.2.2.map .int) ∨ G[0]? = some (99, []))
/-- what a state owes beside the heap -/
def gh_KB (z : gh_Z) (U : State) : Prop := va_K z.1 vwCl (gh_tys z) U ∧ va_X z.2.2.1 z.2.2.2.2.length (fun j => z.2.2.2.2.getD j 0) U U.heap ∧ z.2.2.1 < z.2.2.2.1 ∧ z.2.2.2.1 ≤ U.heap.size ∧ (∀ w ∈ gh_nst, va_Nw w U) ∧
  (∀ q ∈ gh_str, ∃ sa, vk_R "Treeclerk" q.1 q.2 sa U) ∧ vx_Zq Bundle.tN "UNASSIGNED_STACK" Bundle.steD (gh_A z) U U.heap ∧ vx_Zq Bundle.tN "SUPPRESSED_SENTINEL" Bundle.listD (gh_A z) U U.heap ∧
  (∀ E E', E < 4 → E' < 4 → E ≠ E' → va_Nc (gh_es E) (gh_es E') U) ∧ va_AO RX1 U
theorem gh_Nc_moved {C T : String} {u U : State} (hvm : u.vm.Alike U.vm) (h : va_Nc C T u) : va_Nc C T U := by
  obtain ⟨c, t, h1, h2, h3⟩ := h
  exact ⟨c, t, by rw [hvm.findClass]; exact h1, by rw [hvm.findClass]; exact h2, by rw [← h3]; exact hvm.assignable c t⟩
theorem gh_KB_moved {z : gh_Z} {s U : State} {locs : List Loc} (h : gh_KB z s) (hW : s.WarmedH U.vm) (hS : va_S (gh_A z) s.heap U.heap locs) : gh_KB z U := by
  obtain ⟨h1, h2, h3, h4, h5, h6, h7, h8, h9, h10⟩ := h
  have hA : ¬ gh_A z z.2.2.1 := by
    show ¬ z.2.2.2.1 ≤ z.2.2.1
    omega
  refine ⟨va_K.moved hW.alike h1, va_X.moved hW.alike (va_X.kept h2 (hS.2.1 _ (by omega) hA)), h3, Nat.le_trans h4 hS.1, fun w hw => gh_nstW hW w hw (h5 w hw), fun q hq => ?_, vx_Zq.moved hW.alike (h7.kept hS.2.1), vx_Zq.moved hW.alike (h8.kept hS.2.1), fun E E' a b d => gh_Nc_moved hW.alike (h9 E E' a b d), va_AO.moved hW.alike h10⟩
  obtain ⟨sa, h⟩ := h6 q hq
  exact ⟨sa, vk_R.warm hW h⟩
theorem gh_KB_call {z : gh_Z} {U : State} {g : JFrame} {mk : MethodId} {a : Array Value} (h : gh_KB z U) : gh_KB z (U.calling g mk a) :=
  gh_KB_moved (U := U.calling g mk a) (locs := []) h (State.WarmedH.refl U) ⟨Nat.le_refl _, fun _ _ _ => rfl, fun _ h => nomatch h⟩
theorem gh_em_cat (z : gh_Z) (v : Value) : (gh_em z v).category = v.category := by cases v <;> rfl
theorem gh_es_cat (z : gh_Z) (st : List Value) : ((st.map (gh_em z)).map fun v => v.category).sum = gh_cat st := by
  unfold gh_cat
  rw [List.map_map]
  congr 1
  exact List.map_congr_left fun v _ => gh_em_cat z v
theorem gh_el_mem {z : gh_Z} {l : gh_L} {k : Nat} {v : Value} (h : l.lookup k = some v) : (k, gh_em z v) ∈ gh_lm z l := by
  unfold gh_lm
  refine List.mem_map.mpr ⟨(k, v), ?_, rfl⟩
  induction l with
  | nil => cases h
  | cons q l ih =>
    obtain ⟨k', v'⟩ := q
    rw [List.lookup_cons] at h
    by_cases hk : k == k'
    · rw [hk] at h
      cases h
      rw [beq_iff_eq.mp hk]
      exact List.mem_cons_self
    · rw [Bool.not_eq_true] at hk
      rw [hk] at h
      exact List.mem_cons_of_mem _ (ih h)
theorem gh_ld_spec {z : gh_Z} {p : Value → Bool} {l : gh_L} {k : Nat} {v : Value} {ls : Array Slot} {nL : Nat} (hl : lv_has ls nL (gh_lm z l)) (h : gh_ld p l k = some v) : p v = true ∧ ls[k]? = some (.val (gh_em z v)) := by
  unfold gh_ld at h
  cases hk : l.lookup k with
  | none => rw [hk] at h; cases h
  | some w =>
    rw [hk] at h
    by_cases hp : p w = true
    · simp only [hp, if_true] at h
      cases h
      exact ⟨hp, hl.2.2 _ (gh_el_mem hk)⟩
    · simp only [hp] at h
      cases h
theorem gh_st1_el (z : gh_Z) (l : gh_L) (i : Nat) (v : Value) : gh_lm z (gh_st1 l i v) = (i, gh_em z v) :: (gh_lm z l).filter (fun q => !(q.1 == i) && !(q.1 + 1 == i && q.2.category == 2)) := by
  unfold gh_st1 gh_lm
  rw [List.map_cons, List.filter_map]
  congr 2
  exact List.filter_congr fun q _ => by simp [Function.comp, gh_em_cat]
theorem gh_st2_el (z : gh_Z) (l : gh_L) (i : Nat) (v : Value) : gh_lm z (gh_st2 l i v) = (i, gh_em z v) :: (gh_lm z l).filter (fun q => !(q.1 == i) && (!(q.1 == i + 1) && !(q.1 + 1 == i && q.2.category == 2))) := by
  unfold gh_st2 gh_lm
  rw [List.map_cons, List.filter_map]
  congr 2
  exact List.filter_congr fun q _ => by simp [Function.comp, gh_em_cat]
/-- a method's own facts -/
def gh_Cx (z : gh_Z) (p : Program) (s : State) (m : MethodId) (args : Array Value) (meth : Method) (c : Code) (own : Nat) (cc : ByteArray) (nL : Nat) (rt : Option FieldType) (nm : String) : Prop :=
  p.tables.exec = Jvm.exec ∧ c.code = cc ∧ c.maxLocals = nL ∧ meth.sig.returnType = rt ∧ meth.locks = false ∧ s.vm.findClass (gh_on own) = some m.cls ∧ (∀ w ∈ gh_wsG, w.before args s = true) ∧ gh_KB z s ∧ meth.name = nm
/-- from pc on, with these locals, this stack, this ghost heap, wherever they lie, the machine comes to Q -/
def gh_T (z : gh_Z) (p : Program) (l : Launch) (e : Env) (R : Room) (s : State) (m : MethodId) (args : Array Value) (below : List Frame) (meth : Method) (c : Code) (nL g0 z0 : Nat) (Q : State → Prop) (k0 y0 pc : Nat) (lo : gh_L) (st : List Value) (G : gh_H) : Prop :=
  ∀ (H : Heap) (locs : List Loc) (ls : Array Slot), gh_Rel z G H → va_S (gh_A z) s.heap H locs → lv_has ls nL (gh_lm z lo) → W p l e R s m args below meth c H locs (G.length - g0 + k0) (gh_sz G - z0 + y0) Q (F0 m pc ls (st.map (gh_em z)))
