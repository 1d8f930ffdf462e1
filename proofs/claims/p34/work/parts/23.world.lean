section GB0
/-- a slot of an object's world: 0 an int, 1 a long, r + 2 the reference r, which stays; the object's cells begin behind β others -/
def gb_sl (β : Nat) (σ : Nat → Nat → Int) (a j : Nat) (t : Nat) : Value := match t with
  | 0 => .int (Int32.ofInt (σ a j))
  | 1 => .long (Int64.ofInt (σ a j))
  | r + 2 => .ref (r + β)
def gb_row (β : Nat) (σ : Nat → Nat → Int) (a : Nat) : Nat → List Nat → List Value
  | _, [] => []
  | j, t :: ts => gb_sl β σ a j t :: gb_row β σ a (j + 1) ts
def gb_tab (β : Nat) (σ : Nat → Nat → Int) : Nat → List (Nat × List Nat) → gh_H
  | _, [] => []
  | a, c :: cs => (c.1, gb_row β σ a 0 c.2) :: gb_tab β σ (a + 1) cs
def gb_sh : List (Nat × List Nat) := [(7, [4, 8, 17, 22, 27, 28, 32, 43, 46, 0]), (2, [5, 6, 7, 0, 0]), (20, List.replicate 14 0), (20, List.replicate 14 0), (20, List.replicate 14 0), (5, [9, 10, 11, 12, 13, 0, 14, 15, 16, 0]), (20, List.replicate 30 0), (20, List.replicate 30 0), (20, List.replicate 30 0), (20, List.replicate 30 0), (22, List.replicate 30 0), (20, List.replicate 30 0), (20, List.replicate 30 0), (22, List.replicate 30 0), (3, [18, 19, 20, 21]), (20, List.replicate 14 0), (20, List.replicate 14 0), (20, List.replicate 14 0), (20, List.replicate 14 0), (3, [23, 24, 25, 26]), (20, List.replicate 14 0), (20, List.replicate 14 0), (20, List.replicate 14 0), (20, List.replicate 14 0), (23, [49, 59, 69, 79, 89, 99, 109, 119, 129, 139, 149, 159, 169, 179]), (0, [29, 0, 0, 0, 0]), (6, [30, 31]), (21, List.replicate 14 1), (21, List.replicate 14 1), (4, [33, 34, 35, 36, 37, 0, 0, 38, 39, 40, 41, 42]), (20, List.replicate 134 0), (20, List.replicate 134 0), (20, List.replicate 134 0), (20, List.replicate 134 0), (22, List.replicate 134 0), (22, List.replicate 60 0), (20, List.replicate 60 0), (20, List.replicate 60 0), (20, List.replicate 14 0), (20, List.replicate 14 0), (6, [44, 45]), (21, List.replicate 14 1), (21, List.replicate 14 1), (6, [47, 48]), (21, List.replicate 14 1), (21, List.replicate 14 1), (1, [0, 50, 51, 0, 0, 0, 0, 0, 52, 55, 58]), (20, List.replicate 14 0), (20, List.replicate 14 0), (6, [53, 54]), (21, List.replicate 14 1), (21, List.replicate 14 1), (6, [56, 57]), (21, List.replicate 14 1), (21, List.replicate 14 1), (20, List.replicate 60 0), (1, [0, 60, 61, 0, 0, 0, 0, 0, 62, 65, 68]), (20, List.replicate 14 0), (20, List.replicate 14 0), (6, [63, 64]), (21, List.replicate 14 1), (21, List.replicate 14 1), (6, [66, 67]), (21, List.replicate 14 1), (21, List.replicate 14 1), (20, List.replicate 60 0), (1, [0, 70, 71, 0, 0, 0, 0, 0, 72, 75, 78]), (20, List.replicate 14 0), (20, List.replicate 14 0), (6, [73, 74]), (21, List.replicate 14 1), (21, List.replicate 14 1), (6, [76, 77]), (21, List.replicate 14 1), (21, List.replicate 14 1), (20, List.replicate 60 0), (1, [0, 80, 81, 0, 0, 0, 0, 0, 82, 85, 88]), (20, List.replicate 14 0), (20, List.replicate 14 0), (6, [83, 84]), (21, List.replicate 14 1), (21, List.replicate 14 1), (6, [86, 87]), (21, List.replicate 14 1), (21, List.replicate 14 1), (20, List.replicate 60 0), (1, [0, 90, 91, 0, 0, 0, 0, 0, 92, 95, 98]), (20, List.replicate 14 0), (20, List.replicate 14 0), (6, [93, 94]), (21, List.replicate 14 1), (21, List.replicate 14 1), (6, [96, 97]), (21, List.replicate 14 1), (21, List.replicate 14 1), (20, List.replicate 60 0), (1, [0, 100, 101, 0, 0, 0, 0, 0, 102, 105, 108]), (20, List.replicate 14 0), (20, List.replicate 14 0), (6, [103, 104]), (21, List.replicate 14 1), (21, List.replicate 14 1), (6, [106, 107]), (21, List.replicate 14 1), (21, List.replicate 14 1), (20, List.replicate 60 0), (1, [0, 110, 111, 0, 0, 0, 0, 0, 112, 115, 118]), (20, List.replicate 14 0), (20, List.replicate 14 0), (6, [113, 114]), (21, List.replicate 14 1), (21, List.replicate 14 1), (6, [116, 117]), (21, List.replicate 14 1), (21, List.replicate 14 1), (20, List.replicate 60 0), (1, [0, 120, 121, 0, 0, 0, 0, 0, 122, 125, 128]), (20, List.replicate 14 0), (20, List.replicate 14 0), (6, [123, 124]), (21, List.replicate 14 1), (21, List.replicate 14 1), (6, [126, 127]), (21, List.replicate 14 1), (21, List.replicate 14 1), (20, List.replicate 60 0), (1, [0, 130, 131, 0, 0, 0, 0, 0, 132, 135, 138]), (20, List.replicate 14 0), (20, List.replicate 14 0), (6, [133, 134]), (21, List.replicate 14 1), (21, List.replicate 14 1), (6, [136, 137]), (21, List.replicate 14 1), (21, List.replicate 14 1), (20, List.replicate 60 0), (1, [0, 140, 141, 0, 0, 0, 0, 0, 142, 145, 148]), (20, List.replicate 14 0), (20, List.replicate 14 0), (6, [143, 144]), (21, List.replicate 14 1), (21, List.replicate 14 1), (6, [146, 147]), (21, List.replicate 14 1), (21, List.replicate 14 1), (20, List.replicate 60 0), (1, [0, 150, 151, 0, 0, 0, 0, 0, 152, 155, 158]), (20, List.replicate 14 0), (20, List.replicate 14 0), (6, [153, 154]), (21, List.replicate 14 1), (21, List.replicate 14 1), (6, [156, 157]), (21, List.replicate 14 1), (21, List.replicate 14 1), (20, List.replicate 60 0), (1, [0, 160, 161, 0, 0, 0, 0, 0, 162, 165, 168]), (20, List.replicate 14 0), (20, List.replicate 14 0), (6, [163, 164]), (21, List.replicate 14 1), (21, List.replicate 14 1), (6, [166, 167]), (21, List.replicate 14 1), (21, List.replicate 14 1), (20, List.replicate 60 0), (1, [0, 170, 171, 0, 0, 0, 0, 0, 172, 175, 178]), (20, List.replicate 14 0), (20, List.replicate 14 0), (6, [173, 174]), (21, List.replicate 14 1), (21, List.replicate 14 1), (6, [176, 177]), (21, List.replicate 14 1), (21, List.replicate 14 1), (20, List.replicate 60 0), (1, [0, 180, 181, 0, 0, 0, 0, 0, 182, 185, 188]), (20, List.replicate 14 0), (20, List.replicate 14 0), (6, [183, 184]), (21, List.replicate 14 1), (21, List.replicate 14 1), (6, [186, 187]), (21, List.replicate 14 1), (21, List.replicate 14 1), (20, List.replicate 60 0)]
def gb_in1 : List (Nat × Int) := [(16, -1), (17, -1), (21, -1), (22, -1), (29, 1), (37, -1), (43, 1), (46, 1), (52, 1), (55, 1), (62, 1), (65, 1), (72, 1), (75, 1), (82, 1), (85, 1), (92, 1), (95, 1), (102, 1), (105, 1), (112, 1), (115, 1), (122, 1), (125, 1), (132, 1), (135, 1), (142, 1), (145, 1), (152, 1), (155, 1), (162, 1), (165, 1), (172, 1), (175, 1), (182, 1), (185, 1)]
def gb_in2 : List ((Nat × Nat) × Int) := [((47, 6), 134), ((57, 0), 1), ((57, 6), 134), ((67, 0), 2), ((67, 6), 134), ((77, 0), 3), ((77, 6), 134), ((87, 0), 4), ((87, 6), 134), ((97, 0), 5), ((97, 6), 134), ((107, 0), 6), ((107, 6), 134), ((117, 0), 7), ((117, 6), 134), ((127, 0), 8), ((127, 6), 134), ((137, 0), 9), ((137, 6), 134), ((147, 0), 10), ((147, 6), 134), ((157, 0), 11), ((157, 6), 134), ((167, 0), 12), ((167, 6), 134), ((177, 0), 13), ((177, 6), 134)]
def gb_s0 (a j : Nat) : Int := match gb_in1.lookup a with
  | some v => v
  | none => (gb_in2.lookup (a, j)).getD 0
def gb_lo : gh_L := [(2, .ref 187), (1, .ref 1), (0, .ref 0)]
def gb_lo1 : gh_L := [(1, .ref 1), (0, .ref 0)]
/-- the same machine, its values forced as it goes: for the kernel's sake -/
def gb_fN {α : Type} (x : Nat) (k : Nat → α) : α := match x with
  | 0 => k 0
  | m + 1 => k (m + 1)
def gb_fV {α : Type} (v : Value) (k : Value → α) : α := match v with
  | .int x => gb_fN x.toBitVec.toNat fun n => k (.int (Int32.ofBitVec (BitVec.ofNat 32 n)))
  | .long x => gb_fN x.toBitVec.toNat fun n => k (.long (Int64.ofBitVec (BitVec.ofNat 64 n)))
  | .ref a => gb_fN a fun a => k (.ref a)
  | v => k v
def gb_fL {α : Type} : List Value → (List Value → α) → α
  | [], k => k []
  | v :: vs, k => gb_fV v fun v => gb_fL vs fun vs => k (v :: vs)
def gb_fO {α : Type} : gh_L → (gh_L → α) → α
  | [], k => k []
  | v :: vs, k => gb_fN v.1 fun i => gb_fV v.2 fun v => gb_fO vs fun vs => k ((i, v) :: vs)
def gb_fG {α : Type} : gh_H → (gh_H → α) → α
  | [], k => k []
  | c :: cs, k => gb_fN c.1 fun i => bif Nat.blt i 20 then (gb_fL c.2 fun vs => gb_fG cs fun cs => k ((i, vs) :: cs)) else gb_fG cs fun cs => k ((i, c.2) :: cs)
theorem gb_fN_eq {α : Type} (x : Nat) (k : Nat → α) : gb_fN x k = k x := by cases x <;> rfl
theorem gb_fV_eq {α : Type} (v : Value) (k : Value → α) : gb_fV v k = k v := by
  unfold gb_fV
  split
  · next x => rw [gb_fN_eq, BitVec.ofNat_toNat, BitVec.setWidth_eq]; rfl
  · next x => rw [gb_fN_eq, BitVec.ofNat_toNat, BitVec.setWidth_eq]; rfl
  · rw [gb_fN_eq]
  · rfl
theorem gb_fL_eq {α : Type} (vs : List Value) : ∀ k : List Value → α, gb_fL vs k = k vs := by
  induction vs with
  | nil => intro k; rfl
  | cons v vs ih => intro k; rw [gb_fL, gb_fV_eq, ih]
theorem gb_fO_eq {α : Type} (vs : gh_L) : ∀ k : gh_L → α, gb_fO vs k = k vs := by
  induction vs with
  | nil => intro k; rfl
  | cons v vs ih => intro k; rw [gb_fO, gb_fN_eq, gb_fV_eq, ih]
theorem gb_fG_eq {α : Type} (G : gh_H) : ∀ k : gh_H → α, gb_fG G k = k G := by
  induction G with
  | nil => intro k; rfl
  | cons v vs ih =>
    intro k
    rw [gb_fG, gb_fN_eq]
    cases Nat.blt v.1 20
    · exact ih _
    · show gb_fL v.2 _ = _
      rw [gb_fL_eq, ih]
theorem gb_take {v : Value} : ∀ (vs : List Value) (i : Nat), i < vs.length → (vs.set i v).take (i + 1) = vs.take i ++ [v] := by
  intro vs
  induction vs with
  | nil => intro i h; exact absurd h (Nat.not_lt_zero _)
  | cons w vs ih =>
    intro i h
    cases i with
    | zero => rfl
    | succ i =>
      show w :: (vs.set i v).take (i + 1) = w :: (vs.take i ++ [v])
      rw [ih i (Nat.lt_of_succ_lt_succ h)]
theorem gb_exS {fz : Bool} {C : Nat → List Value → gh_H → Option (gh_O × gh_H)} {own : Nat} {rt : Option FieldType} {hnd : Nat → Nat → Option (Nat × Nat)} {K : List (Nat × Instr × Nat)} {n pc : Nat} {l : gh_L} {st : List Value} {G : gh_H} {i : Instr} {len pc' : Nat} {l' : gh_L} {st' : List Value} {G' : gh_H}
    (hk : K.lookup pc = some (i, len)) (hs : gh_step fz own rt pc i len l st G = some (.inl (pc', l', st', G'))) : gh_ex fz C own rt hnd K (n + 1) pc l st G = gh_ex fz C own rt hnd K n pc' l' st' G' := by
  rw [gh_ex, hk]
  simp only [hs]
theorem gb_exJ {fz : Bool} {C : Nat → List Value → gh_H → Option (gh_O × gh_H)} {own : Nat} {rt : Option FieldType} {hnd : Nat → Nat → Option (Nat × Nat)} {K : List (Nat × Instr × Nat)} {n pc : Nat} {l : gh_L} {st : List Value} {G : gh_H} {c : ClassFile.Cond} {off : Int} {x y : Int32} {b : Bool}
    (hk : K.lookup pc = some (.if_icmp c off, 3)) (ho : 0 ≤ (pc : Int) + off) (hb : gh_cmp c x y = b) : gh_ex fz C own rt hnd K (n + 1) pc l (.int y :: .int x :: st) G = gh_ex fz C own rt hnd K n (if b = true then gh_tgt pc off else pc + 3) l st G := by
  refine gb_exS hk ?_
  show gh_jmp (gh_cmp c x y) pc 3 off l st G = _
  rw [hb, gh_jmp, if_pos ho]
  rfl

theorem gb_flI {fz : Bool} {C : Nat → List Value → gh_H → Option (gh_O × gh_H)} {rt : Option FieldType} (hrt : rt = none) {own : Nat} {hnd : Nat → Nat → Option (Nat × Nat)} {a n : Nat} {v : Int32} (ha : a ≠ 0) (hn : n ≤ 1000) :
    ∀ (m i N : Nat) (vs : List Value) (G : gh_H) (l : gh_L), (l = [(2, .int (Int32.ofNat i)), (3, .int (Int32.ofNat n)), (0, .ref a), (1, .int v)] ∨ l = [(3, .int (Int32.ofNat n)), (2, .int (Int32.ofNat i)), (0, .ref a), (1, .int v)]) → i + m = n → vs.length = n → G[a]? = some (20, vs) → 9 * m + 5 ≤ N →
      gh_ex fz C own rt hnd gk_125 N 5 l [] G = some (.inl none, G.set a (20, vs.take i ++ List.replicate m (.int v))) := by
  intro m
  induction m with
  | zero =>
    intro i N vs G l hl2 hi hl hG hN
    obtain ⟨N, rfl⟩ : ∃ k, N = k + 5 := ⟨N - 5, by omega⟩
    have hc : gh_cmp .ge (Int32.ofNat i) (Int32.ofNat n) = true := decide_eq_true ((Int32.ofNat_le_iff_le (by omega) (by omega)).mpr (by omega))
    have e0 : gh_ex fz C own rt hnd gk_125 (N + 5) 5 l [] G = gh_ex fz C own rt hnd gk_125 (N + 2) 20 l [] G := by
      rcases hl2 with rfl | rfl
      · exact (gb_exS rfl rfl).trans ((gb_exS rfl rfl).trans (gb_exJ rfl (by decide : (0 : Int) ≤ ((7 : Nat) : Int) + 13) hc))
      · exact (gb_exS rfl rfl).trans ((gb_exS rfl rfl).trans (gb_exJ rfl (by decide : (0 : Int) ≤ ((7 : Nat) : Int) + 13) hc))
    refine e0.trans ?_
    have e1 : vs.take i ++ List.replicate 0 (Value.int v) = vs := by rw [List.take_of_length_le (by omega)]; exact List.append_nil vs
    obtain ⟨hlt, hget⟩ := List.getElem?_eq_some_iff.mp hG
    rw [e1, ← hget, List.set_getElem_self]
    subst hrt
    rfl
  | succ m ih =>
    intro i N vs G l hl2 hi hl hG hN
    obtain ⟨N, rfl⟩ : ∃ k, N = k + 9 := ⟨N - 9, by omega⟩
    have hc : gh_cmp .ge (Int32.ofNat i) (Int32.ofNat n) = false := decide_eq_false (fun q => by have := (Int32.ofNat_le_iff_le (by omega) (by omega)).mp q; omega)
    have hx : gh_ix (Int32.ofNat i) vs.length = true := by
      unfold gh_ix
      rw [Int32.toNatClampNeg_ofNat_of_lt (by omega), decide_eq_false (by omega : ¬ vs.length ≤ i), decide_eq_false (fun q => by have := Int32.lt_iff_toInt_lt.mp q; rw [Int32.toInt_ofNat_of_lt (by omega)] at this; exact absurd this (by simp))]
      rfl
    have hst : ∀ l : gh_L, gh_ast 20 13 gh_isI l [.int v, .int (Int32.ofNat i), .ref a] G = some (.inl (13 + 1, l, [], G.set a (20, vs.set i (.int v)))) := by
      intro l
      unfold gh_ast gh_at
      simp only [hG, if_true, if_neg ha]
      rw [if_pos ⟨hx, rfl⟩, Int32.toNatClampNeg_ofNat_of_lt (by omega)]
      rfl
    have hs2 : ∀ l : gh_L, gh_step fz own rt 13 .iastore 1 l [.int v, .int (Int32.ofNat i), .ref a] G = some (.inl (13 + 1, l, [], G.set a (20, vs.set i (.int v)))) := hst
    have e0 : gh_ex fz C own rt hnd gk_125 (N + 9) 5 l [] G = gh_ex fz C own rt hnd gk_125 N 5 [(2, .int (Int32.ofNat i + Int32.ofInt 1)), (3, .int (Int32.ofNat n)), (0, .ref a), (1, .int v)] [] (G.set a (20, vs.set i (.int v))) := by
      rcases hl2 with rfl | rfl
      · exact (gb_exS rfl rfl).trans ((gb_exS rfl rfl).trans ((gb_exJ rfl (by decide : (0 : Int) ≤ ((7 : Nat) : Int) + 13) hc).trans ((gb_exS rfl rfl).trans ((gb_exS rfl rfl).trans ((gb_exS rfl rfl).trans ((gb_exS rfl (hs2 _)).trans ((gb_exS rfl rfl).trans (gb_exS rfl rfl))))))))
      · exact (gb_exS rfl rfl).trans ((gb_exS rfl rfl).trans ((gb_exJ rfl (by decide : (0 : Int) ≤ ((7 : Nat) : Int) + 13) hc).trans ((gb_exS rfl rfl).trans ((gb_exS rfl rfl).trans ((gb_exS rfl rfl).trans ((gb_exS rfl (hs2 _)).trans ((gb_exS rfl rfl).trans (gb_exS rfl rfl))))))))
    refine e0.trans ?_
    obtain ⟨hlt, hget⟩ := List.getElem?_eq_some_iff.mp hG
    have h := ih (i + 1) N (vs.set i (.int v)) (G.set a (20, vs.set i (.int v))) _ (Or.inl rfl) (by omega) (by rw [List.length_set]; exact hl) (by rw [List.getElem?_set_self hlt]) (by omega)
    rw [List.set_set] at h
    have e2 : (vs.set i (Value.int v)).take (i + 1) ++ List.replicate m (.int v) = vs.take i ++ List.replicate (m + 1) (.int v) := by
      rw [gb_take vs i (by omega), List.replicate_succ, List.append_assoc]
      rfl
    rw [e2] at h
    rw [Int32.ofNat_add] at h
    exact h

theorem gb_flJ {fz : Bool} {C : Nat → List Value → gh_H → Option (gh_O × gh_H)} {rt : Option FieldType} (hrt : rt = none) {own : Nat} {hnd : Nat → Nat → Option (Nat × Nat)} {a n : Nat} {v : Int64} (ha : a ≠ 0) (hn : n ≤ 1000) :
    ∀ (m i N : Nat) (vs : List Value) (G : gh_H) (l : gh_L), (l = [(3, .int (Int32.ofNat i)), (4, .int (Int32.ofNat n)), (0, .ref a), (1, .long v)] ∨ l = [(4, .int (Int32.ofNat n)), (3, .int (Int32.ofNat i)), (0, .ref a), (1, .long v)]) → i + m = n → vs.length = n → G[a]? = some (21, vs) → 9 * m + 5 ≤ N →
      gh_ex fz C own rt hnd gk_126 N 6 l [] G = some (.inl none, G.set a (21, vs.take i ++ List.replicate m (.long v))) := by
  intro m
  induction m with
  | zero =>
    intro i N vs G l hl2 hi hl hG hN
    obtain ⟨N, rfl⟩ : ∃ k, N = k + 5 := ⟨N - 5, by omega⟩
    have hc : gh_cmp .ge (Int32.ofNat i) (Int32.ofNat n) = true := decide_eq_true ((Int32.ofNat_le_iff_le (by omega) (by omega)).mpr (by omega))
    have e0 : gh_ex fz C own rt hnd gk_126 (N + 5) 6 l [] G = gh_ex fz C own rt hnd gk_126 (N + 2) 22 l [] G := by
      rcases hl2 with rfl | rfl
      · exact (gb_exS rfl rfl).trans ((gb_exS rfl rfl).trans (gb_exJ rfl (by decide : (0 : Int) ≤ ((9 : Nat) : Int) + 13) hc))
      · exact (gb_exS rfl rfl).trans ((gb_exS rfl rfl).trans (gb_exJ rfl (by decide : (0 : Int) ≤ ((9 : Nat) : Int) + 13) hc))
    refine e0.trans ?_
    have e1 : vs.take i ++ List.replicate 0 (Value.long v) = vs := by rw [List.take_of_length_le (by omega)]; exact List.append_nil vs
    obtain ⟨hlt, hget⟩ := List.getElem?_eq_some_iff.mp hG
    rw [e1, ← hget, List.set_getElem_self]
    subst hrt
    rfl
  | succ m ih =>
    intro i N vs G l hl2 hi hl hG hN
    obtain ⟨N, rfl⟩ : ∃ k, N = k + 9 := ⟨N - 9, by omega⟩
    have hc : gh_cmp .ge (Int32.ofNat i) (Int32.ofNat n) = false := decide_eq_false (fun q => by have := (Int32.ofNat_le_iff_le (by omega) (by omega)).mp q; omega)
    have hx : gh_ix (Int32.ofNat i) vs.length = true := by
      unfold gh_ix
      rw [Int32.toNatClampNeg_ofNat_of_lt (by omega), decide_eq_false (by omega : ¬ vs.length ≤ i), decide_eq_false (fun q => by have := Int32.lt_iff_toInt_lt.mp q; rw [Int32.toInt_ofNat_of_lt (by omega)] at this; exact absurd this (by simp))]
      rfl
    have hst : ∀ l : gh_L, gh_ast 21 15 gh_isJ l [.long v, .int (Int32.ofNat i), .ref a] G = some (.inl (15 + 1, l, [], G.set a (21, vs.set i (.long v)))) := by
      intro l
      unfold gh_ast gh_at
      simp only [hG, if_true, if_neg ha]
      rw [if_pos ⟨hx, rfl⟩, Int32.toNatClampNeg_ofNat_of_lt (by omega)]
      rfl
    have hs2 : ∀ l : gh_L, gh_step fz own rt 15 .lastore 1 l [.long v, .int (Int32.ofNat i), .ref a] G = some (.inl (15 + 1, l, [], G.set a (21, vs.set i (.long v)))) := hst
    have e0 : gh_ex fz C own rt hnd gk_126 (N + 9) 6 l [] G = gh_ex fz C own rt hnd gk_126 N 6 [(3, .int (Int32.ofNat i + Int32.ofInt 1)), (4, .int (Int32.ofNat n)), (0, .ref a), (1, .long v)] [] (G.set a (21, vs.set i (.long v))) := by
      rcases hl2 with rfl | rfl
      · exact (gb_exS rfl rfl).trans ((gb_exS rfl rfl).trans ((gb_exJ rfl (by decide : (0 : Int) ≤ ((9 : Nat) : Int) + 13) hc).trans ((gb_exS rfl rfl).trans ((gb_exS rfl rfl).trans ((gb_exS rfl rfl).trans ((gb_exS rfl (hs2 _)).trans ((gb_exS rfl rfl).trans (gb_exS rfl rfl))))))))
      · exact (gb_exS rfl rfl).trans ((gb_exS rfl rfl).trans ((gb_exJ rfl (by decide : (0 : Int) ≤ ((9 : Nat) : Int) + 13) hc).trans ((gb_exS rfl rfl).trans ((gb_exS rfl rfl).trans ((gb_exS rfl rfl).trans ((gb_exS rfl (hs2 _)).trans ((gb_exS rfl rfl).trans (gb_exS rfl rfl))))))))
    refine e0.trans ?_
    obtain ⟨hlt, hget⟩ := List.getElem?_eq_some_iff.mp hG
    have h := ih (i + 1) N (vs.set i (.long v)) (G.set a (21, vs.set i (.long v))) _ (Or.inl rfl) (by omega) (by rw [List.length_set]; exact hl) (by rw [List.getElem?_set_self hlt]) (by omega)
    rw [List.set_set] at h
    have e2 : (vs.set i (Value.long v)).take (i + 1) ++ List.replicate m (.long v) = vs.take i ++ List.replicate (m + 1) (.long v) := by
      rw [gb_take vs i (by omega), List.replicate_succ, List.append_assoc]
      rfl
    rw [e2] at h
    rw [Int32.ofNat_add] at h
    exact h

theorem gb_clI {fz : Bool} {N d a : Nat} {v : Int32} {vs : List Value} {G : gh_H} (ha : a ≠ 0) (hl : vs.length ≤ 1000) (hG : G[a]? = some (20, vs)) (hN : 9020 ≤ N) :
    gh_cl fz N (d + 1) 125 [.ref a, .int v] G = some (.inl none, G.set a (20, List.replicate vs.length (.int v))) := by
  obtain ⟨N, rfl⟩ : ∃ k, N = k + 5 := ⟨N - 5, by omega⟩
  have h := gb_flI (fz := fz) (C := gh_cl fz (N + 5) d) (rt := none) rfl (own := 12) (hnd := fun _ _ => none) (v := v) ha hl vs.length 0 N vs G _ (Or.inr rfl) (Nat.zero_add _) rfl hG (by omega)
  have hln0 : gh_len 3 [(2, .int 0), (0, .ref a), (1, .int v)] [.ref a] G = some (.inl (4, [(2, .int 0), (0, .ref a), (1, .int v)], [.int (Int32.ofNat vs.length)], G)) := by
    unfold gh_len
    simp only [hG]
    rfl
  have hln : gh_step fz 12 none 3 .arraylength 1 [(2, .int 0), (0, .ref a), (1, .int v)] [.ref a] G = some (.inl (4, [(2, .int 0), (0, .ref a), (1, .int v)], [.int (Int32.ofNat vs.length)], G)) := hln0
  show gh_ex fz (gh_cl fz (N + 5) d) 12 none (fun _ _ => none) gk_125 (N + 5) 0 [(0, .ref a), (1, .int v)] [] G = _
  refine (gb_exS rfl rfl).trans ((gb_exS rfl rfl).trans ((gb_exS rfl rfl).trans ?_))
  refine (gb_exS (i := .arraylength) (len := 1) rfl hln).trans ?_
  refine (gb_exS rfl rfl).trans ?_
  exact h
theorem gb_clJ {fz : Bool} {N d a : Nat} {v : Int64} {vs : List Value} {G : gh_H} (ha : a ≠ 0) (hl : vs.length ≤ 1000) (hG : G[a]? = some (21, vs)) (hN : 9020 ≤ N) :
    gh_cl fz N (d + 1) 126 [.ref a, .long v] G = some (.inl none, G.set a (21, List.replicate vs.length (.long v))) := by
  obtain ⟨N, rfl⟩ : ∃ k, N = k + 5 := ⟨N - 5, by omega⟩
  have h := gb_flJ (fz := fz) (C := gh_cl fz (N + 5) d) (rt := none) rfl (own := 12) (hnd := fun _ _ => none) (v := v) ha hl vs.length 0 N vs G _ (Or.inr rfl) (Nat.zero_add _) rfl hG (by omega)
  have hln0 : gh_len 3 [(3, .int 0), (0, .ref a), (1, .long v)] [.ref a] G = some (.inl (4, [(3, .int 0), (0, .ref a), (1, .long v)], [.int (Int32.ofNat vs.length)], G)) := by
    unfold gh_len
    simp only [hG]
    rw [if_pos (Or.inr ⟨ha, Or.inl trivial⟩)]
    rfl
  have hln : gh_step fz 12 none 3 .arraylength 1 [(3, .int 0), (0, .ref a), (1, .long v)] [.ref a] G = some (.inl (4, [(3, .int 0), (0, .ref a), (1, .long v)], [.int (Int32.ofNat vs.length)], G)) := hln0
  show gh_ex fz (gh_cl fz (N + 5) d) 12 none (fun _ _ => none) gk_126 (N + 5) 0 [(0, .ref a), (1, .long v)] [] G = _
  refine (gb_exS rfl rfl).trans ((gb_exS rfl rfl).trans ((gb_exS rfl rfl).trans ?_))
  refine (gb_exS (i := .arraylength) (len := 1) rfl hln).trans ?_
  refine (gb_exS rfl rfl).trans ?_
  exact h
def gb_ex (C : Nat → List Value → gh_H → Option (gh_O × gh_H)) (own : Nat) (rt : Option FieldType) (hnd : Nat → Nat → Option (Nat × Nat)) (K : List (Nat × Instr × Nat)) : Nat → Nat → gh_L → List Value → gh_H → Option (gh_O × gh_H)
  | 0, _, _, _, _ => none
  | n + 1, pc, l, st, G => gb_fN pc fun pc => gb_fO l fun l => gb_fL st fun st => match K.lookup pc with
    | none => none
    | some (i, len) => match gh_step false own rt pc i len l st G with
      | none => none
      | some (.inl (pc', l', st', G')) => gb_ex C own rt hnd K n pc' l' st' G'
      | some (.inr (.inl o)) => some (o, G)
      | some (.inr (.inr (μ, as, r))) => match C μ as G with
        | none => none
        | some (.inl v, G') => gb_fG G' fun G' => gb_ex C own rt hnd K n (pc + 3) l (v.toList ++ r) G'
        | some (.inr E, G') => match hnd pc E with
          | none => some (.inr E, G')
          | some (pc', k) => gb_ex C own rt hnd K n pc' (l.filter (fun q => !(q.1 == k) && !(q.1 + 1 == k && q.2.category == 2))) [] G'
/-- a row filled: no need to run it -/
def gb_sc (μ : Nat) (as : List Value) (G : gh_H) : Option gh_H := match as with
  | [.ref a, .int v] => if μ = 125 then match G[a]? with
    | some (k, vs) => if k = 20 ∧ a ≠ 0 ∧ vs.length ≤ 1000 then some (G.set a (20, List.replicate vs.length (.int v))) else none
    | none => none
    else none
  | [.ref a, .long v] => if μ = 126 then match G[a]? with
    | some (k, vs) => if k = 21 ∧ a ≠ 0 ∧ vs.length ≤ 1000 then some (G.set a (21, List.replicate vs.length (.long v))) else none
    | none => none
    else none
  | _ => none
theorem gb_sc_eq {N d μ : Nat} {as : List Value} {G G' : gh_H} (hN : 9020 ≤ N) (h : gb_sc μ as G = some G') : gh_cl false N (d + 1) μ as G = some (.inl none, G') := by
  unfold gb_sc at h
  split at h
  · split at h
    · next hm => subst hm; split at h
                 · split at h
                   · next hG hc => obtain ⟨rfl, ha, hl⟩ := hc; cases h; exact gb_clI ha hl hG hN
                   · cases h
                 · cases h
    · cases h
  · split at h
    · next hm => subst hm; split at h
                 · split at h
                   · next hG hc => obtain ⟨rfl, ha, hl⟩ := hc; cases h; exact gb_clJ ha hl hG hN
                   · cases h
                 · cases h
    · cases h
  · cases h
def gb_cl (N : Nat) : Nat → Nat → List Value → gh_H → Option (gh_O × gh_H)
  | 0, _, _, _ => none
  | d + 1, μ, as, G => match gb_sc μ as G with
    | some G' => some (.inl none, G')
    | none => match gh_mt[μ]? with
    | some (own, rt, hnd, K) => if gh_cat as ≤ gh_ml.getD μ 0 then gb_ex (gb_cl N d) own rt hnd K N 0 (lv_args 0 as) [] G else none
    | none => none
def gb_px (C : Nat → List Value → gh_H → Option (gh_O × gh_H)) (stop : Nat) (K : List (Nat × Instr × Nat)) : Nat → Nat → gh_L → List Value → gh_H → Option gh_N
  | 0, _, _, _, _ => none
  | n + 1, pc, lo, st, G => gb_fN pc fun pc => gb_fO lo fun lo => gb_fL st fun st => if pc = stop then some (pc, lo, st, G) else match K.lookup pc with
    | none => none
    | some (i, len) => match gh_step false 9 (some .boolean) pc i len lo st G with
      | none => none
      | some (.inl (pc', lo', st', G')) => gb_px C stop K n pc' lo' st' G'
      | some (.inr (.inl _)) => none
      | some (.inr (.inr (μ, as, r))) => match C μ as G with
        | some (.inl v, G') => if μ < 128 then gb_fG G' fun G' => gb_px C stop K n (pc + 3) lo (v.toList ++ r) G' else none
        | _ => none
theorem gb_ex_eq {C C' : Nat → List Value → gh_H → Option (gh_O × gh_H)} (hC : C = C') {own : Nat} {rt : Option FieldType} {hnd : Nat → Nat → Option (Nat × Nat)} {K : List (Nat × Instr × Nat)} :
    ∀ (n pc : Nat) (l : gh_L) (st : List Value) (G : gh_H), gb_ex C own rt hnd K n pc l st G = gh_ex false C' own rt hnd K n pc l st G := by
  subst hC
  intro n
  induction n with
  | zero => intro pc l st G; rfl
  | succ n ih =>
    intro pc l st G
    rw [gb_ex, gh_ex, gb_fN_eq, gb_fO_eq, gb_fL_eq]
    simp only [ih, gb_fG_eq]
    rfl
theorem gb_cl_eq {N : Nat} (hN : 9020 ≤ N) : ∀ d : Nat, gb_cl N d = gh_cl false N d := by
  intro d
  induction d with
  | zero => funext μ as G; rfl
  | succ d ih =>
    funext μ as G
    rw [gb_cl]
    split
    · next h => exact (gb_sc_eq hN h).symm
    · rw [gh_cl]
      simp only [gb_ex_eq ih]
      rfl
theorem gb_px_eq {C : Nat → List Value → gh_H → Option (gh_O × gh_H)} {stop : Nat} {K : List (Nat × Instr × Nat)} :
    ∀ (n pc : Nat) (l : gh_L) (st : List Value) (G : gh_H), gb_px C stop K n pc l st G = gh_px C stop K n pc l st G := by
  intro n
  induction n with
  | zero => intro pc l st G; rfl
  | succ n ih =>
    intro pc l st G
    rw [gb_px, gh_px, gb_fN_eq, gb_fO_eq, gb_fL_eq]
    simp only [ih, gb_fG_eq]
    rfl
/-- equal, told without a proof on the way -/
def gb_eV (v w : Value) : Bool := match v, w with
  | .int x, .int y => Nat.beq x.toBitVec.toNat y.toBitVec.toNat
  | .long x, .long y => Nat.beq x.toBitVec.toNat y.toBitVec.toNat
  | .ref a, .ref b => Nat.beq a b
  | _, _ => false
def gb_eL : List Value → List Value → Bool
  | [], [] => true
  | v :: vs, w :: ws => bif gb_eV v w then gb_eL vs ws else false
  | _, _ => false
def gb_eG : gh_H → gh_H → Bool
  | [], [] => true
  | c :: cs, d :: ds => bif Nat.beq c.1 d.1 then (bif gb_eL c.2 d.2 then gb_eG cs ds else false) else false
  | _, _ => false
theorem gb_eV_eq {v w : Value} (h : gb_eV v w = true) : v = w := by
  unfold gb_eV at h
  split at h
  · exact congrArg Value.int (Int32.toBitVec_inj.mp (BitVec.eq_of_toNat_eq (Nat.eq_of_beq_eq_true h)))
  · exact congrArg Value.long (Int64.toBitVec_inj.mp (BitVec.eq_of_toNat_eq (Nat.eq_of_beq_eq_true h)))
  · exact congrArg Value.ref (Nat.eq_of_beq_eq_true h)
  · cases h
theorem gb_eL_eq : ∀ {vs ws : List Value}, gb_eL vs ws = true → vs = ws := by
  intro vs
  induction vs with
  | nil => intro ws h; cases ws with
    | nil => rfl
    | cons w ws => cases h
  | cons v vs ih => intro ws h; cases ws with
    | nil => cases h
    | cons w ws =>
      rw [gb_eL] at h
      cases hv : gb_eV v w with
      | false => rw [hv] at h; cases h
      | true => rw [hv] at h; rw [gb_eV_eq hv, ih h]
theorem gb_eG_eq : ∀ {vs ws : gh_H}, gb_eG vs ws = true → vs = ws := by
  intro vs
  induction vs with
  | nil => intro ws h; cases ws with
    | nil => rfl
    | cons w ws => cases h
  | cons v vs ih => intro ws h; cases ws with
    | nil => cases h
    | cons w ws =>
      rw [gb_eG] at h
      cases h1 : Nat.beq v.1 w.1 with
      | false => rw [h1] at h; cases h
      | true =>
        cases h2 : gb_eL v.2 w.2 with
        | false => rw [h1, h2] at h; cases h
        | true => rw [h1, h2] at h; rw [ih h, Prod.ext (Nat.eq_of_beq_eq_true h1) (gb_eL_eq h2)]
def gb_is (o : Option gh_N) (pc : Nat) (lo : gh_L) (G : gh_H) : Bool := match o with
  | some (pc', lo', [], G') => bif decide (pc' = pc) then (bif decide (lo' = lo) then gb_eG G' G else false) else false
  | _ => false
theorem gb_is_eq {o : Option gh_N} {pc : Nat} {lo : gh_L} {G : gh_H} (h : gb_is o pc lo G = true) : o = some (pc, lo, [], G) := by
  unfold gb_is at h
  split at h
  · next pc' lo' G' =>
    cases h1 : decide (pc' = pc) with
    | false => rw [h1] at h; cases h
    | true =>
      cases h2 : decide (lo' = lo) with
      | false => rw [h1, h2] at h; cases h
      | true => rw [h1, h2] at h; rw [of_decide_eq_true h1, of_decide_eq_true h2, gb_eG_eq h]
  · cases h
set_option maxRecDepth 100000 in
theorem gb_px0 : gb_is (gb_px (gb_cl 10000 10) 8 gk_law 100 0 [(0, .ref 0)] [] [(99, [])]) 8 gb_lo1 ((99, []) :: gb_tab 0 gb_s0 1 gb_sh) = true := by decide +kernel
set_option maxRecDepth 100000 in
theorem gb_px1 : gb_is (gb_px (gb_cl 10000 10) 16 gk_law 100 8 gb_lo1 [] ((99, []) :: gb_tab 0 gb_s0 1 gb_sh)) 16 gb_lo ((99, []) :: (gb_tab 0 gb_s0 1 gb_sh ++ gb_tab 186 gb_s0 1 gb_sh)) = true := by decide +kernel
end GB0
