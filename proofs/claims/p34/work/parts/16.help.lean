/-! THE LAW's HELPERS: a call of the class, its exceptions caught -/
set_option maxRecDepth 100000 in
theorem gh_xl9 : ∀ e ∈ gh_xrt.getD 9 [], Cond.classLink "TreeclerkLaw" e.1 (gh_es e.2) ∈ gh_wsG := by
  show ∀ e ∈ ([(23, 0), (25, 1), (27, 2), (106, 3)] : List (Nat × Nat)), Cond.classLink "TreeclerkLaw" e.1 (gh_es e.2) ∈ gh_wsG
  exact List.forall_mem_cons.mpr ⟨gh_w 305 rfl rfl, List.forall_mem_cons.mpr ⟨gh_w 306 rfl rfl, List.forall_mem_cons.mpr ⟨gh_w 307 rfl rfl, List.forall_mem_cons.mpr ⟨gh_w 826 rfl rfl, (fun _ h => absurd h List.not_mem_nil)⟩⟩⟩⟩
set_option maxRecDepth 100000 in
theorem gh_ca0 : Cond.castable "java/lang/IndexOutOfBoundsException" "java/lang/IndexOutOfBoundsException" ∈ gh_nst := gh_n 421 rfl rfl
set_option maxRecDepth 100000 in
theorem gh_ca1 : Cond.castable "java/lang/IllegalArgumentException" "java/lang/IllegalArgumentException" ∈ gh_nst := gh_n 314 rfl rfl
set_option maxRecDepth 100000 in
theorem gh_ca2 : Cond.castable "java/lang/IllegalStateException" "java/lang/IllegalStateException" ∈ gh_nst := gh_n 383 rfl rfl
set_option maxRecDepth 100000 in
theorem gh_ca3 : Cond.castable "java/util/NoSuchElementException" "java/util/NoSuchElementException" ∈ gh_nst := gh_n 838 rfl rfl
theorem gh_ca (E : Nat) (h : E < 4) : Cond.castable (gh_es E) (gh_es E) ∈ gh_nst := by
  match E, h with
  | 0, _ => exact gh_ca0
  | 1, _ => exact gh_ca1
  | 2, _ => exact gh_ca2
  | 3, _ => exact gh_ca3
  | k + 4, h => exact absurd h (by omega)
/-- where an exception caught goes on: the row of the table that takes it, the handler's three instructions -/
def gh_hB (nL : Nat) (hnd : Nat → Nat → Option (Nat × Nat)) (hh : List (Nat × Nat × Nat × Nat)) (K : List (Nat × Instr × Nat)) : Bool :=
  (hh.all fun r => decide (r.2.2.2 ≠ 0) && (match gh_xR 9 r.2.2.2 with | some E => decide (E < 4) | none => false)) &&
  K.all fun e => (List.range 4).all fun E => match hnd e.1 E with
    | none => true
    | some (pc', k) => match hh.find? (fun r => decide (r.1 ≤ e.1) && decide (e.1 < r.2.1) && decide (gh_xR 9 r.2.2.2 = some E)) with
      | none => false
      | some r => (match K.lookup r.2.2.1 with
          | some (.astore_n j, 1) => decide (j.val = k) && decide (pc' = r.2.2.1 + 1) && decide (k < nL)
          | some (.astore j, 2) => decide (j = k) && decide (pc' = r.2.2.1 + 2) && decide (k < nL)
          | _ => false) && (match K.lookup pc' with
          | some (.bipush _, 2) => decide (K.lookup (pc' + 2) = some (.ireturn, 1))
          | some (.ldc2_w j, 3) => (gh_jR 9 j).isSome && decide (K.lookup (pc' + 3) = some (.lreturn, 1))
          | _ => false)
set_option maxRecDepth 100000 in
theorem gh_hb128 : gh_hB 4 (fun pc E => if ([6, 19, 32, 40] : List Nat).contains pc = true then [(0, 45, 3), (1, 49, 3), (2, 53, 3)].lookup E else none) [(0, 43, 44, 23), (0, 43, 48, 25), (0, 43, 52, 27)] gk_128 = true := by decide +kernel
set_option maxRecDepth 100000 in
theorem gh_h128 : gh_chkB 9 128 "act" 4 gk_128 = true := by decide +kernel
set_option maxRecDepth 100000 in
theorem gh_hb129 : gh_hB 5 (fun pc E => if ([7, 30, 39] : List Nat).contains pc = true then [(0, 45, 4), (1, 50, 4), (2, 55, 4)].lookup E else none) [(0, 42, 43, 23), (0, 42, 48, 25), (0, 42, 53, 27)] gk_129 = true := by decide +kernel
set_option maxRecDepth 100000 in
theorem gh_h129 : gh_chkB 9 128 "does" 5 gk_129 = true := by decide +kernel
set_option maxRecDepth 100000 in
theorem gh_hb130 : gh_hB 6 (fun pc E => if ([9, 25, 36] : List Nat).contains pc = true then [(0, 42, 5), (1, 47, 5), (2, 52, 5)].lookup E else none) [(0, 39, 40, 23), (0, 39, 45, 25), (0, 39, 50, 27)] gk_130 = true := by decide +kernel
set_option maxRecDepth 100000 in
theorem gh_h130 : gh_chkB 9 128 "tell" 6 gk_130 = true := by decide +kernel
set_option maxRecDepth 100000 in
theorem gh_hb131 : gh_hB 6 (fun pc E => if ([6] : List Nat).contains pc = true then [(0, 12, 5), (1, 17, 5), (2, 22, 5)].lookup E else none) [(0, 9, 10, 23), (0, 9, 15, 25), (0, 9, 20, 27)] gk_131 = true := by decide +kernel
set_option maxRecDepth 100000 in
theorem gh_h131 : gh_chkB 9 128 "hand" 6 gk_131 = true := by decide +kernel
set_option maxRecDepth 100000 in
theorem gh_hb132 : gh_hB 5 (fun pc E => if ([7, 21, 30] : List Nat).contains pc = true then [(0, 36, 4), (2, 42, 4)].lookup E else none) [(0, 33, 34, 23), (0, 33, 40, 27)] gk_132 = true := by decide +kernel
set_option maxRecDepth 100000 in
theorem gh_h132 : gh_chkB 9 128 "share" 5 gk_132 = true := by decide +kernel
set_option maxRecDepth 100000 in
theorem gh_hb133 : gh_hB 4 (fun pc E => if ([6, 27, 40, 53, 74, 87, 101, 115, 129, 143, 151] : List Nat).contains pc = true then [(0, 156, 3), (2, 160, 3)].lookup E else none) [(0, 154, 155, 23), (0, 154, 159, 27)] gk_133 = true := by decide +kernel
set_option maxRecDepth 100000 in
theorem gh_h133 : gh_chkB 9 128 "of" 4 gk_133 = true := by decide +kernel
set_option maxRecDepth 100000 in
theorem gh_hb134 : gh_hB 4 (fun pc E => if ([3] : List Nat).contains pc = true then [(0, 8, 3), (1, 12, 3)].lookup E else none) [(0, 6, 7, 23), (0, 6, 11, 25)] gk_134 = true := by decide +kernel
set_option maxRecDepth 100000 in
theorem gh_h134 : gh_chkB 9 128 "parent" 4 gk_134 = true := by decide +kernel
set_option maxRecDepth 100000 in
theorem gh_hb135 : gh_hB 3 (fun pc E => if ([2] : List Nat).contains pc = true then [(0, 7, 2), (3, 11, 2)].lookup E else none) [(0, 5, 6, 23), (0, 5, 10, 106)] gk_135 = true := by decide +kernel
set_option maxRecDepth 100000 in
theorem gh_h135 : gh_chkB 9 128 "parcel" 3 gk_135 = true := by decide +kernel
/-- a helper's own words -/
def gh_hOK (q : MethodName × ByteArray × Nat × Option FieldType × Nat) (hh : List (Nat × Nat × Nat × Nat)) : Prop := Cond.codeWith q.1 q.2.1 q.2.2.1 q.2.2.2.1 hh ∈ gh_wsG ∧ Cond.initialized q.1.cls ∈ gh_wsG ∧ (q.1.cls ≠ "java/lang/invoke/MethodHandle" ∧ q.1.cls ≠ "java/lang/invoke/VarHandle") ∧ plainName q.1.cls = true ∧ q.2.2.1 ≤ 12 ∧ Cond.static q.1 ∈ gh_wsG
/-- all that is known of the helper μ, which the law calls by the entry idx with n arguments -/
def gh_XOK (μ : Nat) : Prop := ∃ q m hh, gh_yt[μ]? = some q ∧ gh_mt[μ]? = some m ∧ gh_hOK q hh ∧ (∀ e ∈ m.2.2.2, decode q.2.1 e.1 = .ok e.2) ∧ m.2.1 = q.2.2.2.1 ∧ (m.2.1 = some .int ∨ m.2.1 = some .long) ∧ m.1 = 9 ∧ q.1.cls = "TreeclerkLaw" ∧ gh_ml.getD μ 0 = q.2.2.1 ∧ gh_hB q.2.2.1 m.2.2.1 hh m.2.2.2 = true ∧ gh_chkB 9 128 q.1.name q.2.2.1 m.2.2.2 = true ∧
  ∃ idx n, (idx, μ, n) ∈ gh_mrt.getD 9 [] ∧ Cond.methodLink "TreeclerkLaw" idx q.1 ∈ gh_wsG ∧ (parseMethodDescriptor q.1.desc).map (fun d => d.parameters.length) = some n ∧ (∀ e ∈ gh_mrt.getD 9 [], e.2.1 = μ → e = (idx, μ, n))
set_option maxRecDepth 100000 in
theorem gh_X128 : gh_XOK 128 := ⟨_, _, [(0, 43, 44, 23), (0, 43, 48, 25), (0, 43, 52, 27)], rfl, rfl, ⟨gh_w 304 rfl rfl, gh_w 0 rfl rfl, ⟨by decide, by decide⟩, by decide +kernel, by decide, gh_w 303 rfl rfl⟩, gh_d128, rfl, Or.inl rfl, rfl, rfl, rfl, gh_hb128, gh_h128, 139, 3, by decide +kernel, gh_w 302 rfl rfl, by decide +kernel, by decide +kernel⟩
set_option maxRecDepth 100000 in
theorem gh_X129 : gh_XOK 129 := ⟨_, _, [(0, 42, 43, 23), (0, 42, 48, 25), (0, 42, 53, 27)], rfl, rfl, ⟨gh_w 622 rfl rfl, gh_w 0 rfl rfl, ⟨by decide, by decide⟩, by decide +kernel, by decide, gh_w 621 rfl rfl⟩, gh_d129, rfl, Or.inl rfl, rfl, rfl, rfl, gh_hb129, gh_h129, 150, 4, by decide +kernel, gh_w 620 rfl rfl, by decide +kernel, by decide +kernel⟩
set_option maxRecDepth 100000 in
theorem gh_X130 : gh_XOK 130 := ⟨_, _, [(0, 39, 40, 23), (0, 39, 45, 25), (0, 39, 50, 27)], rfl, rfl, ⟨gh_w 735 rfl rfl, gh_w 0 rfl rfl, ⟨by decide, by decide⟩, by decide +kernel, by decide, gh_w 734 rfl rfl⟩, gh_d130, rfl, Or.inl rfl, rfl, rfl, rfl, gh_hb130, gh_h130, 146, 5, by decide +kernel, gh_w 733 rfl rfl, by decide +kernel, by decide +kernel⟩
set_option maxRecDepth 100000 in
theorem gh_X131 : gh_XOK 131 := ⟨_, _, [(0, 9, 10, 23), (0, 9, 15, 25), (0, 9, 20, 27)], rfl, rfl, ⟨gh_w 784 rfl rfl, gh_w 0 rfl rfl, ⟨by decide, by decide⟩, by decide +kernel, by decide, gh_w 783 rfl rfl⟩, gh_d131, rfl, Or.inl rfl, rfl, rfl, rfl, gh_hb131, gh_h131, 154, 5, by decide +kernel, gh_w 782 rfl rfl, by decide +kernel, by decide +kernel⟩
set_option maxRecDepth 100000 in
theorem gh_X132 : gh_XOK 132 := ⟨_, _, [(0, 33, 34, 23), (0, 33, 40, 27)], rfl, rfl, ⟨gh_w 945 rfl rfl, gh_w 0 rfl rfl, ⟨by decide, by decide⟩, by decide +kernel, by decide, gh_w 944 rfl rfl⟩, gh_d132, rfl, Or.inr rfl, rfl, rfl, rfl, gh_hb132, gh_h132, 134, 4, by decide +kernel, gh_w 943 rfl rfl, by decide +kernel, by decide +kernel⟩
set_option maxRecDepth 100000 in
theorem gh_X133 : gh_XOK 133 := ⟨_, _, [(0, 154, 155, 23), (0, 154, 159, 27)], rfl, rfl, ⟨gh_w 868 rfl rfl, gh_w 0 rfl rfl, ⟨by decide, by decide⟩, by decide +kernel, by decide, gh_w 867 rfl rfl⟩, gh_d133, rfl, Or.inl rfl, rfl, rfl, rfl, gh_hb133, gh_h133, 131, 3, by decide +kernel, gh_w 866 rfl rfl, by decide +kernel, by decide +kernel⟩
set_option maxRecDepth 100000 in
theorem gh_X134 : gh_XOK 134 := ⟨_, _, [(0, 6, 7, 23), (0, 6, 11, 25)], rfl, rfl, ⟨gh_w 858 rfl rfl, gh_w 0 rfl rfl, ⟨by decide, by decide⟩, by decide +kernel, by decide, gh_w 857 rfl rfl⟩, gh_d134, rfl, Or.inl rfl, rfl, rfl, rfl, gh_hb134, gh_h134, 127, 3, by decide +kernel, gh_w 856 rfl rfl, by decide +kernel, by decide +kernel⟩
set_option maxRecDepth 100000 in
theorem gh_X135 : gh_XOK 135 := ⟨_, _, [(0, 5, 6, 23), (0, 5, 10, 106)], rfl, rfl, ⟨gh_w 825 rfl rfl, gh_w 0 rfl rfl, ⟨by decide, by decide⟩, by decide +kernel, by decide, gh_w 824 rfl rfl⟩, gh_d135, rfl, Or.inl rfl, rfl, rfl, rfl, gh_hb135, gh_h135, 121, 2, by decide +kernel, gh_w 823 rfl rfl, by decide +kernel, by decide +kernel⟩
theorem gh_Xg : ∀ μ ∈ ([128, 129, 130, 131, 132, 133, 134, 135] : List Nat), gh_XOK μ := List.forall_mem_cons.mpr ⟨gh_X128, List.forall_mem_cons.mpr ⟨gh_X129, List.forall_mem_cons.mpr ⟨gh_X130, List.forall_mem_cons.mpr ⟨gh_X131, List.forall_mem_cons.mpr ⟨gh_X132, List.forall_mem_cons.mpr ⟨gh_X133, List.forall_mem_cons.mpr ⟨gh_X134, List.forall_mem_cons.mpr ⟨gh_X135, (fun _ h => absurd h List.not_mem_nil)⟩⟩⟩⟩⟩⟩⟩⟩
theorem gh_Xall (μ : Nat) (h1 : 128 ≤ μ) (h2 : μ < 136) : gh_XOK μ := gh_Xg μ (by simp only [List.mem_cons, List.not_mem_nil, or_false]; omega)
