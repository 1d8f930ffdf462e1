section DRW
theorem dr_and (x : Int32) : 0 ≤ (x &&& 1073741823).toInt ∧ (x &&& 1073741823).toInt ≤ 1073741823 := by
  have h1 : (x &&& 1073741823).toBitVec.toNat ≤ 1073741823 := by
    rw [Int32.toBitVec_and, BitVec.toNat_and]
    exact Nat.and_le_right
  have h2 : (x &&& 1073741823).toInt = ((x &&& 1073741823).toBitVec.toNat : Int) := by
    show (x &&& 1073741823).toBitVec.toInt = _
    rw [BitVec.toInt_eq_toNat_cond, if_pos (by omega)]
  omega
theorem dr_tail {C : Nat → List Value → gh_H → Option (gh_O × gh_H)} (x : Int32) (k : Nat) (lo : gh_L) (G : gh_H) : gh_ex true C 9 (some .int) (fun _ _ => none) gk_127 (k + 6) 21 lo [.int x] G = some (.inl (some (vi (x &&& 1073741823).toInt)), G) := by
  refine (gb_exS rfl rfl).trans ?_
  refine (gb_exS (pc' := 23) (l' := gh_st1 lo 2 (.int x)) (st' := [.int x]) (G' := G) rfl ?_).trans ?_
  · exact (show gh_push (gh_ld gh_isI (gh_st1 lo 2 (.int x)) 2) 23 (gh_st1 lo 2 (.int x)) [] G = some (.inl (23, gh_st1 lo 2 (.int x), [.int x], G)) by
      unfold gh_ld
      rw [show (gh_st1 lo 2 (.int x)).lookup 2 = some (.int x) from List.lookup_cons_self]
      rfl)
  · refine (gb_exS rfl rfl).trans ?_
    refine (gb_exS rfl rfl).trans ?_
    show gh_ex true C 9 (some .int) (fun _ _ => none) gk_127 (k + 2) 26 _ [.int (x &&& 1073741823)] G = _
    have hs : ∀ (L : gh_L) (y : Int32), gh_step true 9 (some .int) 26 .ireturn 1 L [.int y] G = some (.inr (.inl (.inl (some (.int y))))) := fun L y => by
      show (if gh_isI (.int y) = true ∧ gh_nok (some .int) (.int y) = true then (some (.inr (.inl (.inl (some (.int y))))) : Option gh_R) else none) = _
      rw [if_pos ⟨rfl, decide_eq_true rfl⟩]
    rw [gh_ex, show gk_127.lookup 26 = some (.ireturn, 1) from rfl]
    simp only [hs]
    rw [show vi (x &&& 1073741823).toInt = .int (x &&& 1073741823) by show Value.int (Int32.ofInt _) = _; rw [Int32.ofInt_toInt]]
theorem dr_call (xs : List Int32) (hl : xs.length ≤ 260) {j : Int} (hj : 0 ≤ j ∧ j < 60) (T : gh_H) : ∃ z : Int, (0 ≤ z ∧ z ≤ 1073741823) ∧ ∀ N, 40 ≤ N → gh_cl true N 100 127 [.ref 0, vi j] ((20, xs.map .int) :: T) = some (.inl (some (vi z)), (20, xs.map .int) :: T) := by
  have e0 : ∀ (N : Nat), gh_cl true N 100 127 [.ref 0, vi j] ((20, xs.map .int) :: T) = gh_ex true (gh_cl true N 99) 9 (some .int) (fun _ _ => none) gk_127 N 0 [(0, .ref 0), (1, vi j)] [] ((20, xs.map .int) :: T) := fun N => rfl
  have e1 : ∀ (N k : Nat) (R : Option (gh_O × gh_H)), (gh_cmp .ge (Int32.ofInt j) (Int32.ofNat (xs.map Value.int).length) = true → gh_ex true (gh_cl true N 99) 9 (some .int) (fun _ _ => none) gk_127 k 12 [(0, .ref 0), (1, vi j)] [] ((20, xs.map .int) :: T) = R) → (gh_cmp .ge (Int32.ofInt j) (Int32.ofNat (xs.map Value.int).length) = false → gh_ex true (gh_cl true N 99) 9 (some .int) (fun _ _ => none) gk_127 k 6 [(0, .ref 0), (1, vi j)] [] ((20, xs.map .int) :: T) = R) → gh_ex true (gh_cl true N 99) 9 (some .int) (fun _ _ => none) gk_127 (k + 4) 0 [(0, .ref 0), (1, vi j)] [] ((20, xs.map .int) :: T) = R := by
    intro N k R h1 h2
    refine (gb_exS rfl rfl).trans ((gb_exS rfl rfl).trans ((gb_exS (i := .arraylength) (len := 1) (pc' := 3) rfl rfl).trans ?_))
    cases hc : gh_cmp .ge (Int32.ofInt j) (Int32.ofNat (xs.map Value.int).length) with
    | true => exact (gb_exJ (c := .ge) (off := 9) rfl (by decide) hc).trans (h1 hc)
    | false => exact (gb_exJ (c := .ge) (off := 9) rfl (by decide) hc).trans (h2 hc)
  by_cases hlt : j < (xs.length : Int)
  · have hc : gh_cmp .ge (Int32.ofInt j) (Int32.ofNat (xs.map Value.int).length) = false := by
      rw [List.length_map, ← Int32.ofInt_eq_ofNat]
      have h := gb_cmp (c := .ge) (x := j) (y := (xs.length : Int)) (by unfold gb_R; omega) (by unfold gb_R; omega)
      cases hb : gh_cmp .ge (Int32.ofInt j) (Int32.ofInt (xs.length : Int)) with
      | false => rfl
      | true => exact absurd (show (xs.length : Int) ≤ j from h.mp hb) (by omega)
    refine ⟨(xs.getD j.toNat 0 &&& 1073741823).toInt, dr_and _, fun N hN => ?_⟩
    obtain ⟨k, rfl⟩ : ∃ k, N = (k + 10) + 4 := ⟨N - 14, by omega⟩
    rw [e0]
    refine e1 _ (k + 10) _ (fun h => by rw [hc] at h; cases h) (fun _ => ?_)
    refine (gb_exS rfl rfl).trans ?_
    refine (gb_exS rfl rfl).trans ?_
    refine (gb_exS (i := .iaload) (len := 1) (pc' := 9) (l' := [(0, .ref 0), (1, vi j)]) (st' := [.int (xs.getD j.toNat 0)]) (G' := (20, xs.map .int) :: T) rfl ?_).trans ((gb_exS rfl rfl).trans (dr_tail _ k _ _))
    obtain ⟨e1, e2⟩ := gb_idx (x := j) (n := (xs.map Value.int).length) hj.1 (by rw [List.length_map]; exact hlt) (by rw [List.length_map]; omega)
    show gh_ald 20 8 (fun v => .int (gh_toI v)) _ [.int (Int32.ofInt j), .ref 0] ((20, xs.map .int) :: T) = _
    unfold gh_ald
    have hat : gh_at ((20, xs.map Value.int) :: T) 20 0 = some (xs.map Value.int) := rfl
    simp only [hat]
    rw [if_pos e1, e2]
    have : (xs.map Value.int).getD j.toNat .null = .int (xs.getD j.toNat 0) := by
      have hj2 : j.toNat < xs.length := by omega
      rw [List.getD_eq_getElem?_getD, List.getElem?_map, List.getD_eq_getElem?_getD, List.getElem?_eq_getElem hj2]
      rfl
    rw [this]
    rfl
  · have hc : gh_cmp .ge (Int32.ofInt j) (Int32.ofNat (xs.map Value.int).length) = true := by
      rw [List.length_map, ← Int32.ofInt_eq_ofNat]
      exact (gb_cmp (c := .ge) (x := j) (y := (xs.length : Int)) (by unfold gb_R; omega) (by unfold gb_R; omega)).mpr (show (xs.length : Int) ≤ j by omega)
    refine ⟨((12413 * Int32.ofInt j + 8017) &&& 1073741823).toInt, dr_and _, fun N hN => ?_⟩
    obtain ⟨k, rfl⟩ : ∃ k, N = (k + 11) + 4 := ⟨N - 15, by omega⟩
    rw [e0]
    refine e1 _ (k + 11) _ (fun _ => ?_) (fun h => by rw [hc] at h; cases h)
    refine (gb_exS rfl rfl).trans ?_
    refine (gb_exS rfl rfl).trans ?_
    refine (gb_exS rfl rfl).trans ?_
    refine (gb_exS rfl rfl).trans ?_
    refine (gb_exS rfl rfl).trans ?_
    exact dr_tail (12413 * Int32.ofInt j + 8017) k _ _
end DRW
