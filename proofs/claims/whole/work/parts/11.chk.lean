/-! WHAT IS CHECKED OF EACH METHOD'S CODE, and the contracts -/
def gh_stB (nL : Nat) (K : List (Nat × Instr × Nat)) : Bool := K.all fun e => match e.2.1 with
  | .istore j => decide (j < nL)
  | .istore_n j => decide (j.val < nL)
  | .astore j => decide (j < nL)
  | .astore_n j => decide (j.val < nL)
  | .iinc j _ => decide (j < nL)
  | .lstore j => decide (j + 1 < nL)
  | .lstore_n j => decide (j.val + 1 < nL)
  | _ => true
/-- the calls: to plain methods, of the right kind -/
def gh_knB (own top : Nat) (K : List (Nat × Instr × Nat)) : Bool := K.all fun e => match e.2.1 with
  | .invokevirtual idx => match gh_mR own idx with
    | some (μ, _) => decide (μ < 196) && decide ((gh_mo.getD μ (0, 9)).2 = 0)
    | none => true
  | .invokestatic idx => match gh_mR own idx with
    | some (μ, _) => decide (μ < top) && decide ((gh_mo.getD μ (0, 9)).2 = 1)
    | none => true
  | .invokespecial idx => match gh_mR own idx with
    | some (μ, _) => decide (μ < 196) && decide ((gh_mo.getD μ (0, 9)).2 = 2)
    | none => true
  | _ => true
def gh_knP (own top : Nat) (i : Instr) : Prop := match i with
  | .invokevirtual idx => ∀ μ n, gh_mR own idx = some (μ, n) → μ < 196 ∧ (gh_mo.getD μ (0, 9)).2 = 0
  | .invokestatic idx => ∀ μ n, gh_mR own idx = some (μ, n) → μ < top ∧ (gh_mo.getD μ (0, 9)).2 = 1
  | .invokespecial idx => ∀ μ n, gh_mR own idx = some (μ, n) → μ < 196 ∧ (gh_mo.getD μ (0, 9)).2 = 2
  | _ => True
def gh_chkB (own top : Nat) (nm : String) (nL : Nat) (K : List (Nat × Instr × Nat)) : Bool := gh_lenB K && gh_putB own nm K && gh_stB nL K && gh_knB own top K
theorem gh_chk {own top : Nat} {nm : String} {nL : Nat} {K : List (Nat × Instr × Nat)} (h : gh_chkB own top nm nL K = true) {e : Nat × Instr × Nat} (he : e ∈ K) : gh_lenP e.2.1 e.2.2 ∧ gh_putP own nm e.2.1 ∧ (∀ k, gh_stP e.2.1 k → k < nL) ∧ gh_knP own top e.2.1 := by
  unfold gh_chkB at h
  simp only [Bool.and_eq_true] at h
  obtain ⟨⟨⟨h1, h2⟩, h3⟩, h4⟩ := h
  have h1 := List.all_eq_true.mp h1 e he
  have h2 := List.all_eq_true.mp h2 e he
  have h3 := List.all_eq_true.mp h3 e he
  have h4 := List.all_eq_true.mp h4 e he
  obtain ⟨pc, i, len⟩ := e
  dsimp only at h1 h2 h3 h4 ⊢
  refine ⟨?_, ?_, ?_, ?_⟩
  · cases i <;> first | exact trivial | exact (show len = gh_ilen _ from of_decide_eq_true h1)
  · cases i with
    | putfield idx =>
      intro ci k hf hfin
      dsimp only at h2
      rw [hf] at h2
      simpa [hfin] using h2
    | _ => exact trivial
  · intro k hk
    cases i with
    | istore j => cases hk; exact of_decide_eq_true h3
    | istore_n j => cases hk; exact of_decide_eq_true h3
    | astore j => cases hk; exact of_decide_eq_true h3
    | astore_n j => cases hk; exact of_decide_eq_true h3
    | iinc j n => cases hk; exact of_decide_eq_true h3
    | lstore j =>
      have h3 := of_decide_eq_true h3
      have hk : k = j ∨ k = j + 1 := hk
      omega
    | lstore_n j =>
      have h3 := of_decide_eq_true h3
      have hk : k = j.val ∨ k = j.val + 1 := hk
      omega
    | _ => exact absurd hk id
  · cases i with
    | invokevirtual idx => intro μ n hm; dsimp only at h4; rw [hm] at h4; simpa using h4
    | invokestatic idx => intro μ n hm; dsimp only at h4; rw [hm] at h4; simpa using h4
    | invokespecial idx => intro μ n hm; dsimp only at h4; rw [hm] at h4; simpa using h4
    | _ => exact trivial
def gh_moB (μ : Nat) : Bool := match gh_yt[μ]?, gh_mo[μ]? with
  | some q, some (o, k) => decide (k = q.2.2.2.2) && decide (gh_ml.getD μ 0 = q.2.2.1) && (decide (k ≠ 0) || (match vwCl[o]? with | some C => decide (C.1 = q.1.cls) | none => false))
  | _, _ => false
theorem gh_moA : (List.range 196).all gh_moB = true := by decide +kernel
theorem gh_moK {μ : Nat} (h : μ < 196) {q : MethodName × ByteArray × Nat × Option FieldType × Nat} (hq : gh_yt[μ]? = some q) : ∃ o, gh_mo[μ]? = some (o, q.2.2.2.2) ∧ gh_ml.getD μ 0 = q.2.2.1 ∧ (q.2.2.2.2 = 0 → ∃ T N, vwCl[o]? = some (q.1.cls, T, N)) := by
  have h1 := List.all_eq_true.mp gh_moA μ (List.mem_range.mpr h)
  unfold gh_moB at h1
  rw [hq] at h1
  cases hm : gh_mo[μ]? with
  | none => rw [hm] at h1; cases h1
  | some m =>
    obtain ⟨o, k⟩ := m
    rw [hm] at h1
    simp only [Bool.and_eq_true, Bool.or_eq_true, decide_eq_true_eq] at h1
    obtain ⟨⟨rfl, h3⟩, h2⟩ := h1
    refine ⟨o, rfl, h3, fun h0 => ?_⟩
    rcases h2 with h2 | h2
    · exact absurd h0 h2
    · split at h2
      · next C hC =>
        obtain ⟨C, T, N⟩ := C
        have h2 : C = q.1.cls := by simpa using h2
        subst h2
        exact ⟨T, N, hC⟩
      · cases h2
set_option maxRecDepth 100000 in
theorem gh_m9 : ∀ e ∈ gh_mrt.getD 9 [], e.2.1 < 196 → gh_mOK 9 e := by
  show ∀ e ∈ ([(105, 78, 1), (119, 80, 1), (129, 83, 1), (151, 89, 1), (210, 108, 1), (109, 196, 3), (7, 79, 2), (123, 197, 3), (17, 81, 2), (126, 198, 3), (20, 82, 2), (133, 199, 3), (25, 84, 2), (136, 200, 5), (29, 85, 4), (140, 201, 4), (33, 86, 3), (144, 202, 4), (37, 87, 3), (148, 203, 3), (41, 88, 2), (155, 204, 4), (44, 90, 3), (158, 205, 3), (47, 91, 2), (161, 206, 5), (50, 92, 4), (164, 207, 4), (53, 93, 3), (167, 208, 3), (56, 94, 2), (170, 209, 3), (59, 95, 2), (173, 210, 3), (62, 96, 2), (176, 211, 4), (65, 97, 3), (179, 212, 4), (69, 98, 3), (182, 213, 4), (72, 99, 3), (185, 214, 3), (75, 100, 2), (188, 215, 3), (78, 101, 2), (191, 216, 3), (81, 102, 2), (194, 217, 5), (84, 103, 4), (197, 218, 6), (87, 104, 5), (201, 219, 3), (91, 105, 2), (204, 220, 3), (94, 106, 2), (207, 221, 3), (97, 107, 2), (214, 222, 3), (100, 109, 2), (108, 124, 1), (115, 125, 1), (114, 135, 2), (122, 136, 1), (125, 137, 2), (128, 138, 2), (132, 139, 1), (135, 140, 2), (139, 145, 4), (143, 146, 3), (147, 147, 3), (150, 148, 2), (154, 149, 1), (157, 150, 3), (160, 151, 2), (163, 152, 4), (166, 154, 3), (169, 155, 2), (172, 156, 2), (175, 157, 2), (178, 174, 3), (181, 175, 3), (184, 176, 3), (187, 177, 2), (190, 178, 2), (193, 179, 2), (196, 186, 4), (200, 187, 5), (203, 188, 2), (206, 189, 2), (209, 190, 2), (213, 191, 1), (216, 192, 2)] : List (Nat × Nat × Nat)), e.2.1 < 196 → gh_mOK 9 e
  exact List.forall_mem_cons.mpr ⟨fun _ => gh_mk gh_y78 rfl (by decide +kernel) (Or.inl (gh_w 23 rfl rfl)), List.forall_mem_cons.mpr ⟨fun _ => gh_mk gh_y80 rfl (by decide +kernel) (Or.inl (gh_w 295 rfl rfl)), List.forall_mem_cons.mpr ⟨fun _ => gh_mk gh_y83 rfl (by decide +kernel) (Or.inl (gh_w 299 rfl rfl)), List.forall_mem_cons.mpr ⟨fun _ => gh_mk gh_y89 rfl (by decide +kernel) (Or.inl (gh_w 303 rfl rfl)), List.forall_mem_cons.mpr ⟨fun _ => gh_mk gh_y108 rfl (by decide +kernel) (Or.inl (gh_w 311 rfl rfl)), List.forall_mem_cons.mpr ⟨fun h => absurd h (by decide), List.forall_mem_cons.mpr ⟨fun _ => gh_mk gh_y79 rfl (by decide +kernel) (Or.inl (gh_w 329 rfl rfl)), List.forall_mem_cons.mpr ⟨fun h => absurd h (by decide), List.forall_mem_cons.mpr ⟨fun _ => gh_mk gh_y81 rfl (by decide +kernel) (Or.inl (gh_w 421 rfl rfl)), List.forall_mem_cons.mpr ⟨fun h => absurd h (by decide), List.forall_mem_cons.mpr ⟨fun _ => gh_mk gh_y82 rfl (by decide +kernel) (Or.inl (gh_w 439 rfl rfl)), List.forall_mem_cons.mpr ⟨fun h => absurd h (by decide), List.forall_mem_cons.mpr ⟨fun _ => gh_mk gh_y84 rfl (by decide +kernel) (Or.inl (gh_w 490 rfl rfl)), List.forall_mem_cons.mpr ⟨fun h => absurd h (by decide), List.forall_mem_cons.mpr ⟨fun _ => gh_mk gh_y85 rfl (by decide +kernel) (Or.inl (gh_w 497 rfl rfl)), List.forall_mem_cons.mpr ⟨fun h => absurd h (by decide), List.forall_mem_cons.mpr ⟨fun _ => gh_mk gh_y86 rfl (by decide +kernel) (Or.inl (gh_w 711 rfl rfl)), List.forall_mem_cons.mpr ⟨fun h => absurd h (by decide), List.forall_mem_cons.mpr ⟨fun _ => gh_mk gh_y87 rfl (by decide +kernel) (Or.inl (gh_w 733 rfl rfl)), List.forall_mem_cons.mpr ⟨fun h => absurd h (by decide), List.forall_mem_cons.mpr ⟨fun _ => gh_mk gh_y88 rfl (by decide +kernel) (Or.inl (gh_w 751 rfl rfl)), List.forall_mem_cons.mpr ⟨fun h => absurd h (by decide), List.forall_mem_cons.mpr ⟨fun _ => gh_mk gh_y90 rfl (by decide +kernel) (Or.inl (gh_w 759 rfl rfl)), List.forall_mem_cons.mpr ⟨fun h => absurd h (by decide), List.forall_mem_cons.mpr ⟨fun _ => gh_mk gh_y91 rfl (by decide +kernel) (Or.inl (gh_w 769 rfl rfl)), List.forall_mem_cons.mpr ⟨fun h => absurd h (by decide), List.forall_mem_cons.mpr ⟨fun _ => gh_mk gh_y92 rfl (by decide +kernel) (Or.inl (gh_w 777 rfl rfl)), List.forall_mem_cons.mpr ⟨fun h => absurd h (by decide), List.forall_mem_cons.mpr ⟨fun _ => gh_mk gh_y93 rfl (by decide +kernel) (Or.inl (gh_w 794 rfl rfl)), List.forall_mem_cons.mpr ⟨fun h => absurd h (by decide), List.forall_mem_cons.mpr ⟨fun _ => gh_mk gh_y94 rfl (by decide +kernel) (Or.inl (gh_w 817 rfl rfl)), List.forall_mem_cons.mpr ⟨fun h => absurd h (by decide), List.forall_mem_cons.mpr ⟨fun _ => gh_mk gh_y95 rfl (by decide +kernel) (Or.inl (gh_w 824 rfl rfl)), List.forall_mem_cons.mpr ⟨fun h => absurd h (by decide), List.forall_mem_cons.mpr ⟨fun _ => gh_mk gh_y96 rfl (by decide +kernel) (Or.inl (gh_w 843 rfl rfl)), List.forall_mem_cons.mpr ⟨fun h => absurd h (by decide), List.forall_mem_cons.mpr ⟨fun _ => gh_mk gh_y97 rfl (by decide +kernel) (Or.inl (gh_w 850 rfl rfl)), List.forall_mem_cons.mpr ⟨fun h => absurd h (by decide), List.forall_mem_cons.mpr ⟨fun _ => gh_mk gh_y98 rfl (by decide +kernel) (Or.inl (gh_w 862 rfl rfl)), List.forall_mem_cons.mpr ⟨fun h => absurd h (by decide), List.forall_mem_cons.mpr ⟨fun _ => gh_mk gh_y99 rfl (by decide +kernel) (Or.inl (gh_w 870 rfl rfl)), List.forall_mem_cons.mpr ⟨fun h => absurd h (by decide), List.forall_mem_cons.mpr ⟨fun _ => gh_mk gh_y100 rfl (by decide +kernel) (Or.inl (gh_w 889 rfl rfl)), List.forall_mem_cons.mpr ⟨fun h => absurd h (by decide), List.forall_mem_cons.mpr ⟨fun _ => gh_mk gh_y101 rfl (by decide +kernel) (Or.inl (gh_w 896 rfl rfl)), List.forall_mem_cons.mpr ⟨fun h => absurd h (by decide), List.forall_mem_cons.mpr ⟨fun _ => gh_mk gh_y102 rfl (by decide +kernel) (Or.inl (gh_w 911 rfl rfl)), List.forall_mem_cons.mpr ⟨fun h => absurd h (by decide), List.forall_mem_cons.mpr ⟨fun _ => gh_mk gh_y103 rfl (by decide +kernel) (Or.inl (gh_w 918 rfl rfl)), List.forall_mem_cons.mpr ⟨fun h => absurd h (by decide), List.forall_mem_cons.mpr ⟨fun _ => gh_mk gh_y104 rfl (by decide +kernel) (Or.inl (gh_w 939 rfl rfl)), List.forall_mem_cons.mpr ⟨fun h => absurd h (by decide), List.forall_mem_cons.mpr ⟨fun _ => gh_mk gh_y105 rfl (by decide +kernel) (Or.inl (gh_w 956 rfl rfl)), List.forall_mem_cons.mpr ⟨fun h => absurd h (by decide), List.forall_mem_cons.mpr ⟨fun _ => gh_mk gh_y106 rfl (by decide +kernel) (Or.inl (gh_w 968 rfl rfl)), List.forall_mem_cons.mpr ⟨fun h => absurd h (by decide), List.forall_mem_cons.mpr ⟨fun _ => gh_mk gh_y107 rfl (by decide +kernel) (Or.inl (gh_w 979 rfl rfl)), List.forall_mem_cons.mpr ⟨fun h => absurd h (by decide), List.forall_mem_cons.mpr ⟨fun _ => gh_mk gh_y109 rfl (by decide +kernel) (Or.inl (gh_w 987 rfl rfl)), List.forall_mem_cons.mpr ⟨fun _ => gh_mk gh_y124 rfl (by decide +kernel) (Or.inl (gh_w 1013 rfl rfl)), List.forall_mem_cons.mpr ⟨fun _ => gh_mk gh_y125 rfl (by decide +kernel) (Or.inl (gh_w 1150 rfl rfl)), List.forall_mem_cons.mpr ⟨fun _ => gh_mk gh_y135 rfl (by decide +kernel) (Or.inl (gh_w 1154 rfl rfl)), List.forall_mem_cons.mpr ⟨fun _ => gh_mk gh_y136 rfl (by decide +kernel) (Or.inl (gh_w 1165 rfl rfl)), List.forall_mem_cons.mpr ⟨fun _ => gh_mk gh_y137 rfl (by decide +kernel) (Or.inl (gh_w 1173 rfl rfl)), List.forall_mem_cons.mpr ⟨fun _ => gh_mk gh_y138 rfl (by decide +kernel) (Or.inl (gh_w 1177 rfl rfl)), List.forall_mem_cons.mpr ⟨fun _ => gh_mk gh_y139 rfl (by decide +kernel) (Or.inl (gh_w 1185 rfl rfl)), List.forall_mem_cons.mpr ⟨fun _ => gh_mk gh_y140 rfl (by decide +kernel) (Or.inl (gh_w 1189 rfl rfl)), List.forall_mem_cons.mpr ⟨fun _ => gh_mk gh_y145 rfl (by decide +kernel) (Or.inl (gh_w 1197 rfl rfl)), List.forall_mem_cons.mpr ⟨fun _ => gh_mk gh_y146 rfl (by decide +kernel) (Or.inl (gh_w 1277 rfl rfl)), List.forall_mem_cons.mpr ⟨fun _ => gh_mk gh_y147 rfl (by decide +kernel) (Or.inl (gh_w 1285 rfl rfl)), List.forall_mem_cons.mpr ⟨fun _ => gh_mk gh_y148 rfl (by decide +kernel) (Or.inl (gh_w 1317 rfl rfl)), List.forall_mem_cons.mpr ⟨fun _ => gh_mk gh_y149 rfl (by decide +kernel) (Or.inl (gh_w 1321 rfl rfl)), List.forall_mem_cons.mpr ⟨fun _ => gh_mk gh_y150 rfl (by decide +kernel) (Or.inl (gh_w 1325 rfl rfl)), List.forall_mem_cons.mpr ⟨fun _ => gh_mk gh_y151 rfl (by decide +kernel) (Or.inl (gh_w 1329 rfl rfl)), List.forall_mem_cons.mpr ⟨fun _ => gh_mk gh_y152 rfl (by decide +kernel) (Or.inl (gh_w 1333 rfl rfl)), List.forall_mem_cons.mpr ⟨fun _ => gh_mk gh_y154 rfl (by decide +kernel) (Or.inl (gh_w 1337 rfl rfl)), List.forall_mem_cons.mpr ⟨fun _ => gh_mk gh_y155 rfl (by decide +kernel) (Or.inl (gh_w 1341 rfl rfl)), List.forall_mem_cons.mpr ⟨fun _ => gh_mk gh_y156 rfl (by decide +kernel) (Or.inl (gh_w 1345 rfl rfl)), List.forall_mem_cons.mpr ⟨fun _ => gh_mk gh_y157 rfl (by decide +kernel) (Or.inl (gh_w 1353 rfl rfl)), List.forall_mem_cons.mpr ⟨fun _ => gh_mk gh_y174 rfl (by decide +kernel) (Or.inl (gh_w 1357 rfl rfl)), List.forall_mem_cons.mpr ⟨fun _ => gh_mk gh_y175 rfl (by decide +kernel) (Or.inl (gh_w 1365 rfl rfl)), List.forall_mem_cons.mpr ⟨fun _ => gh_mk gh_y176 rfl (by decide +kernel) (Or.inl (gh_w 1369 rfl rfl)), List.forall_mem_cons.mpr ⟨fun _ => gh_mk gh_y177 rfl (by decide +kernel) (Or.inl (gh_w 1374 rfl rfl)), List.forall_mem_cons.mpr ⟨fun _ => gh_mk gh_y178 rfl (by decide +kernel) (Or.inl (gh_w 1378 rfl rfl)), List.forall_mem_cons.mpr ⟨fun _ => gh_mk gh_y179 rfl (by decide +kernel) (Or.inl (gh_w 1382 rfl rfl)), List.forall_mem_cons.mpr ⟨fun _ => gh_mk gh_y186 rfl (by decide +kernel) (Or.inl (gh_w 1386 rfl rfl)), List.forall_mem_cons.mpr ⟨fun _ => gh_mk gh_y187 rfl (by decide +kernel) (Or.inl (gh_w 1396 rfl rfl)), List.forall_mem_cons.mpr ⟨fun _ => gh_mk gh_y188 rfl (by decide +kernel) (Or.inl (gh_w 1400 rfl rfl)), List.forall_mem_cons.mpr ⟨fun _ => gh_mk gh_y189 rfl (by decide +kernel) (Or.inl (gh_w 1404 rfl rfl)), List.forall_mem_cons.mpr ⟨fun _ => gh_mk gh_y190 rfl (by decide +kernel) (Or.inl (gh_w 1409 rfl rfl)), List.forall_mem_cons.mpr ⟨fun _ => gh_mk gh_y191 rfl (by decide +kernel) (Or.inl (gh_w 1413 rfl rfl)), List.forall_mem_cons.mpr ⟨fun _ => gh_mk gh_y192 rfl (by decide +kernel) (Or.inl (gh_w 1417 rfl rfl)), (fun _ h => absurd h List.not_mem_nil)⟩⟩⟩⟩⟩⟩⟩⟩⟩⟩⟩⟩⟩⟩⟩⟩⟩⟩⟩⟩⟩⟩⟩⟩⟩⟩⟩⟩⟩⟩⟩⟩⟩⟩⟩⟩⟩⟩⟩⟩⟩⟩⟩⟩⟩⟩⟩⟩⟩⟩⟩⟩⟩⟩⟩⟩⟩⟩⟩⟩⟩⟩⟩⟩⟩⟩⟩⟩⟩⟩⟩⟩⟩⟩⟩⟩⟩⟩⟩⟩⟩⟩⟩⟩⟩⟩⟩⟩⟩⟩⟩⟩
theorem gh_mAll (own : Nat) (e : Nat × Nat × Nat) (h : e ∈ gh_mrt.getD own []) (hlt : e.2.1 < 196) : gh_mOK own e := by
  match own, h with
  | 0, h => exact gh_m0 e h
  | 1, h => exact gh_m1 e h
  | 2, h => exact gh_m2 e h
  | 3, h => exact gh_m3 e h
  | 4, h => exact gh_m4 e h
  | 5, h => exact gh_m5 e h
  | 6, h => exact gh_m6 e h
  | 7, h => exact gh_m7 e h
  | 8, h => exact gh_m8 e h
  | 9, h => exact gh_m9 e h hlt
  | 10, h => exact gh_m10 e h
  | 11, h => exact gh_m11 e h
  | 12, h => exact gh_m12 e h
  | k + 13, h => exact absurd h (by simp [gh_mrt])
set_option maxRecDepth 100000 in
theorem gh_h0 : gh_chkB 0 196 "<init>" 1 gk_0 = true := by decide +kernel
set_option maxRecDepth 100000 in
theorem gh_h1 : gh_chkB 0 196 "shareFromHeads" 7 gk_1 = true := by decide +kernel
set_option maxRecDepth 100000 in
theorem gh_h2 : gh_chkB 0 196 "passOn" 7 gk_2 = true := by decide +kernel
set_option maxRecDepth 100000 in
theorem gh_h3 : gh_chkB 0 196 "shareFromPersons" 6 gk_3 = true := by decide +kernel
set_option maxRecDepth 100000 in
theorem gh_h4 : gh_chkB 0 196 "findComing" 4 gk_4 = true := by decide +kernel
set_option maxRecDepth 100000 in
theorem gh_h5 : gh_chkB 0 196 "addPartOf" 6 gk_5 = true := by decide +kernel
set_option maxRecDepth 100000 in
theorem gh_h6 : gh_chkB 0 196 "addAsHead" 2 gk_6 = true := by decide +kernel
set_option maxRecDepth 100000 in
theorem gh_h7 : gh_chkB 0 196 "lookAt" 4 gk_7 = true := by decide +kernel
set_option maxRecDepth 100000 in
theorem gh_h8 : gh_chkB 0 196 "findLivingLines" 9 gk_8 = true := by decide +kernel
set_option maxRecDepth 100000 in
theorem gh_h9 : gh_chkB 0 196 "findHeads" 5 gk_9 = true := by decide +kernel
set_option maxRecDepth 100000 in
theorem gh_h10 : gh_chkB 0 196 "joinWithWill" 8 gk_10 = true := by decide +kernel
set_option maxRecDepth 100000 in
theorem gh_h11 : gh_chkB 0 196 "weightFor" 3 gk_11 = true := by decide +kernel
set_option maxRecDepth 100000 in
theorem gh_h12 : gh_chkB 1 196 "<init>" 2 gk_12 = true := by decide +kernel
set_option maxRecDepth 100000 in
theorem gh_h13 : gh_chkB 1 196 "weightOf" 2 gk_13 = true := by decide +kernel
set_option maxRecDepth 100000 in
theorem gh_h14 : gh_chkB 1 196 "setWeight" 4 gk_14 = true := by decide +kernel
set_option maxRecDepth 100000 in
theorem gh_h15 : gh_chkB 1 196 "hasClaimOf" 2 gk_15 = true := by decide +kernel
set_option maxRecDepth 100000 in
theorem gh_h16 : gh_chkB 1 196 "addClaim" 2 gk_16 = true := by decide +kernel
set_option maxRecDepth 100000 in
theorem gh_h17 : gh_chkB 1 196 "dropClaim" 4 gk_17 = true := by decide +kernel
set_option maxRecDepth 100000 in
theorem gh_h18 : gh_chkB 1 196 "placeOf" 3 gk_18 = true := by decide +kernel
set_option maxRecDepth 100000 in
theorem gh_h19 : gh_chkB 1 196 "rankHeirs" 5 gk_19 = true := by decide +kernel
set_option maxRecDepth 100000 in
theorem gh_h20 : gh_chkB 1 196 "rankNext" 4 gk_20 = true := by decide +kernel
set_option maxRecDepth 100000 in
theorem gh_h21 : gh_chkB 2 196 "<init>" 1 gk_21 = true := by decide +kernel
set_option maxRecDepth 100000 in
theorem gh_h22 : gh_chkB 2 196 "enter" 4 gk_22 = true := by decide +kernel
set_option maxRecDepth 100000 in
theorem gh_h23 : gh_chkB 2 196 "bury" 3 gk_23 = true := by decide +kernel
set_option maxRecDepth 100000 in
theorem gh_h24 : gh_chkB 2 196 "isDead" 2 gk_24 = true := by decide +kernel
set_option maxRecDepth 100000 in
theorem gh_h25 : gh_chkB 2 196 "bornOn" 2 gk_25 = true := by decide +kernel
set_option maxRecDepth 100000 in
theorem gh_h26 : gh_chkB 2 196 "diedOn" 2 gk_26 = true := by decide +kernel
set_option maxRecDepth 100000 in
theorem gh_h27 : gh_chkB 2 196 "isOlder" 3 gk_27 = true := by decide +kernel
set_option maxRecDepth 100000 in
theorem gh_h28 : gh_chkB 2 196 "byAge" 2 gk_28 = true := by decide +kernel
set_option maxRecDepth 100000 in
theorem gh_h29 : gh_chkB 3 196 "<init>" 1 gk_29 = true := by decide +kernel
set_option maxRecDepth 100000 in
theorem gh_h30 : gh_chkB 3 196 "firstParent" 2 gk_30 = true := by decide +kernel
set_option maxRecDepth 100000 in
theorem gh_h31 : gh_chkB 3 196 "secondParent" 2 gk_31 = true := by decide +kernel
set_option maxRecDepth 100000 in
theorem gh_h32 : gh_chkB 3 196 "childSet" 2 gk_32 = true := by decide +kernel
set_option maxRecDepth 100000 in
theorem gh_h33 : gh_chkB 3 196 "parentSet" 2 gk_33 = true := by decide +kernel
set_option maxRecDepth 100000 in
theorem gh_h34 : gh_chkB 3 196 "setOf" 1 gk_34 = true := by decide +kernel
set_option maxRecDepth 100000 in
theorem gh_h35 : gh_chkB 3 196 "tell" 4 gk_35 = true := by decide +kernel
set_option maxRecDepth 100000 in
theorem gh_h36 : gh_chkB 3 196 "weigh" 6 gk_36 = true := by decide +kernel
set_option maxRecDepth 100000 in
theorem gh_h37 : gh_chkB 3 196 "strongestBut" 5 gk_37 = true := by decide +kernel
set_option maxRecDepth 100000 in
theorem gh_h38 : gh_chkB 3 196 "addChild" 3 gk_38 = true := by decide +kernel
set_option maxRecDepth 100000 in
theorem gh_h39 : gh_chkB 4 196 "<init>" 1 gk_39 = true := by decide +kernel
set_option maxRecDepth 100000 in
theorem gh_h40 : gh_chkB 4 196 "keptOwner" 2 gk_40 = true := by decide +kernel
set_option maxRecDepth 100000 in
theorem gh_h41 : gh_chkB 4 196 "isGrantedWithin" 4 gk_41 = true := by decide +kernel
set_option maxRecDepth 100000 in
theorem gh_h42 : gh_chkB 4 196 "countUnits" 4 gk_42 = true := by decide +kernel
set_option maxRecDepth 100000 in
theorem gh_h43 : gh_chkB 4 196 "parcelStart" 3 gk_43 = true := by decide +kernel
set_option maxRecDepth 100000 in
theorem gh_h44 : gh_chkB 4 196 "parcelEnd" 3 gk_44 = true := by decide +kernel
set_option maxRecDepth 100000 in
theorem gh_h45 : gh_chkB 4 196 "enterGrant" 5 gk_45 = true := by decide +kernel
set_option maxRecDepth 100000 in
theorem gh_h46 : gh_chkB 4 196 "enterHanding" 5 gk_46 = true := by decide +kernel
set_option maxRecDepth 100000 in
theorem gh_h47 : gh_chkB 4 196 "enterClosing" 3 gk_47 = true := by decide +kernel
set_option maxRecDepth 100000 in
theorem gh_h48 : gh_chkB 4 196 "enter" 5 gk_48 = true := by decide +kernel
set_option maxRecDepth 100000 in
theorem gh_h49 : gh_chkB 4 196 "redrawFrom" 5 gk_49 = true := by decide +kernel
set_option maxRecDepth 100000 in
theorem gh_h50 : gh_chkB 4 196 "foundOwner" 5 gk_50 = true := by decide +kernel
set_option maxRecDepth 100000 in
theorem gh_h51 : gh_chkB 4 196 "handOver" 4 gk_51 = true := by decide +kernel
set_option maxRecDepth 100000 in
theorem gh_h52 : gh_chkB 4 196 "drawKept" 2 gk_52 = true := by decide +kernel
set_option maxRecDepth 100000 in
theorem gh_h53 : gh_chkB 4 196 "draw" 7 gk_53 = true := by decide +kernel
set_option maxRecDepth 100000 in
theorem gh_h54 : gh_chkB 4 196 "takeFrom" 3 gk_54 = true := by decide +kernel
set_option maxRecDepth 100000 in
theorem gh_h55 : gh_chkB 4 196 "portionOut" 6 gk_55 = true := by decide +kernel
set_option maxRecDepth 100000 in
theorem gh_h56 : gh_chkB 4 196 "isPlace" 2 gk_56 = true := by decide +kernel
set_option maxRecDepth 100000 in
theorem gh_h57 : gh_chkB 4 196 "countIn" 6 gk_57 = true := by decide +kernel
set_option maxRecDepth 100000 in
theorem gh_h58 : gh_chkB 5 196 "<init>" 1 gk_58 = true := by decide +kernel
set_option maxRecDepth 100000 in
theorem gh_h59 : gh_chkB 5 196 "file" 4 gk_59 = true := by decide +kernel
set_option maxRecDepth 100000 in
theorem gh_h60 : gh_chkB 5 196 "fileDoubt" 3 gk_60 = true := by decide +kernel
set_option maxRecDepth 100000 in
theorem gh_h61 : gh_chkB 5 196 "settle" 5 gk_61 = true := by decide +kernel
set_option maxRecDepth 100000 in
theorem gh_h62 : gh_chkB 5 196 "lift" 3 gk_62 = true := by decide +kernel
set_option maxRecDepth 100000 in
theorem gh_h63 : gh_chkB 5 196 "isProof" 2 gk_63 = true := by decide +kernel
set_option maxRecDepth 100000 in
theorem gh_h64 : gh_chkB 5 196 "isOpen" 2 gk_64 = true := by decide +kernel
set_option maxRecDepth 100000 in
theorem gh_h65 : gh_chkB 5 196 "hasFallen" 2 gk_65 = true := by decide +kernel
set_option maxRecDepth 100000 in
theorem gh_h66 : gh_chkB 5 196 "countOpen" 4 gk_66 = true := by decide +kernel
set_option maxRecDepth 100000 in
theorem gh_h67 : gh_chkB 5 196 "strengthOf" 2 gk_67 = true := by decide +kernel
set_option maxRecDepth 100000 in
theorem gh_h68 : gh_chkB 6 196 "<init>" 1 gk_68 = true := by decide +kernel
set_option maxRecDepth 100000 in
theorem gh_h69 : gh_chkB 6 196 "clear" 1 gk_69 = true := by decide +kernel
set_option maxRecDepth 100000 in
theorem gh_h70 : gh_chkB 6 196 "copy" 2 gk_70 = true := by decide +kernel
set_option maxRecDepth 100000 in
theorem gh_h71 : gh_chkB 6 196 "aboveOf" 2 gk_71 = true := by decide +kernel
set_option maxRecDepth 100000 in
theorem gh_h72 : gh_chkB 6 196 "belowOf" 2 gk_72 = true := by decide +kernel
set_option maxRecDepth 100000 in
theorem gh_h73 : gh_chkB 6 196 "add" 12 gk_73 = true := by decide +kernel
set_option maxRecDepth 100000 in
theorem gh_h74 : gh_chkB 6 196 "unitsFor" 5 gk_74 = true := by decide +kernel
set_option maxRecDepth 100000 in
theorem gh_h75 : gh_chkB 6 196 "countHeirs" 3 gk_75 = true := by decide +kernel
set_option maxRecDepth 100000 in
theorem gh_h76 : gh_chkB 6 196 "isSame" 3 gk_76 = true := by decide +kernel
set_option maxRecDepth 100000 in
theorem gh_h77 : gh_chkB 6 196 "commonDivisor" 7 gk_77 = true := by decide +kernel
set_option maxRecDepth 100000 in
theorem gh_h78 : gh_chkB 7 196 "<init>" 2 gk_78 = true := by decide +kernel
set_option maxRecDepth 100000 in
theorem gh_h79 : gh_chkB 7 196 "pass" 2 gk_79 = true := by decide +kernel
set_option maxRecDepth 100000 in
theorem gh_h80 : gh_chkB 7 196 "today" 1 gk_80 = true := by decide +kernel
set_option maxRecDepth 100000 in
theorem gh_h81 : gh_chkB 7 196 "birth" 2 gk_81 = true := by decide +kernel
set_option maxRecDepth 100000 in
theorem gh_h82 : gh_chkB 7 196 "death" 4 gk_82 = true := by decide +kernel
set_option maxRecDepth 100000 in
theorem gh_h83 : gh_chkB 7 196 "people" 1 gk_83 = true := by decide +kernel
set_option maxRecDepth 100000 in
theorem gh_h84 : gh_chkB 7 196 "isAlive" 2 gk_84 = true := by decide +kernel
set_option maxRecDepth 100000 in
theorem gh_h85 : gh_chkB 7 196 "proof" 5 gk_85 = true := by decide +kernel
set_option maxRecDepth 100000 in
theorem gh_h86 : gh_chkB 7 196 "doubt" 4 gk_86 = true := by decide +kernel
set_option maxRecDepth 100000 in
theorem gh_h87 : gh_chkB 7 196 "judge" 3 gk_87 = true := by decide +kernel
set_option maxRecDepth 100000 in
theorem gh_h88 : gh_chkB 7 196 "strength" 2 gk_88 = true := by decide +kernel
set_option maxRecDepth 100000 in
theorem gh_h89 : gh_chkB 7 196 "openDoubts" 3 gk_89 = true := by decide +kernel
set_option maxRecDepth 100000 in
theorem gh_h90 : gh_chkB 7 196 "parentOf" 3 gk_90 = true := by decide +kernel
set_option maxRecDepth 100000 in
theorem gh_h91 : gh_chkB 7 196 "childrenOf" 2 gk_91 = true := by decide +kernel
set_option maxRecDepth 100000 in
theorem gh_h92 : gh_chkB 7 196 "will" 4 gk_92 = true := by decide +kernel
set_option maxRecDepth 100000 in
theorem gh_h93 : gh_chkB 7 196 "claim" 4 gk_93 = true := by decide +kernel
set_option maxRecDepth 100000 in
theorem gh_h94 : gh_chkB 7 196 "claims" 2 gk_94 = true := by decide +kernel
set_option maxRecDepth 100000 in
theorem gh_h95 : gh_chkB 7 196 "close" 3 gk_95 = true := by decide +kernel
set_option maxRecDepth 100000 in
theorem gh_h96 : gh_chkB 7 196 "isClosed" 2 gk_96 = true := by decide +kernel
set_option maxRecDepth 100000 in
theorem gh_h97 : gh_chkB 7 196 "shareAbove" 3 gk_97 = true := by decide +kernel
set_option maxRecDepth 100000 in
theorem gh_h98 : gh_chkB 7 196 "shareBelow" 3 gk_98 = true := by decide +kernel
set_option maxRecDepth 100000 in
theorem gh_h99 : gh_chkB 7 196 "shareAboveByWays" 3 gk_99 = true := by decide +kernel
set_option maxRecDepth 100000 in
theorem gh_h100 : gh_chkB 7 196 "heirs" 2 gk_100 = true := by decide +kernel
set_option maxRecDepth 100000 in
theorem gh_h101 : gh_chkB 7 196 "disputes" 6 gk_101 = true := by decide +kernel
set_option maxRecDepth 100000 in
theorem gh_h102 : gh_chkB 7 196 "reopenings" 2 gk_102 = true := by decide +kernel
set_option maxRecDepth 100000 in
theorem gh_h103 : gh_chkB 7 196 "grant" 4 gk_103 = true := by decide +kernel
set_option maxRecDepth 100000 in
theorem gh_h104 : gh_chkB 7 196 "hand" 6 gk_104 = true := by decide +kernel
set_option maxRecDepth 100000 in
theorem gh_h105 : gh_chkB 7 196 "owner" 2 gk_105 = true := by decide +kernel
set_option maxRecDepth 100000 in
theorem gh_h106 : gh_chkB 7 196 "ownerAnew" 3 gk_106 = true := by decide +kernel
set_option maxRecDepth 100000 in
theorem gh_h107 : gh_chkB 7 196 "area" 2 gk_107 = true := by decide +kernel
set_option maxRecDepth 100000 in
theorem gh_h108 : gh_chkB 7 196 "parcels" 3 gk_108 = true := by decide +kernel
set_option maxRecDepth 100000 in
theorem gh_h109 : gh_chkB 7 196 "parcelAt" 3 gk_109 = true := by decide +kernel
set_option maxRecDepth 100000 in
theorem gh_h110 : gh_chkB 7 196 "requirePerson" 2 gk_110 = true := by decide +kernel
set_option maxRecDepth 100000 in
theorem gh_h111 : gh_chkB 7 196 "requireProof" 2 gk_111 = true := by decide +kernel
set_option maxRecDepth 100000 in
theorem gh_h112 : gh_chkB 7 196 "requireUnit" 2 gk_112 = true := by decide +kernel
set_option maxRecDepth 100000 in
theorem gh_h113 : gh_chkB 7 196 "requireWeight" 3 gk_113 = true := by decide +kernel
set_option maxRecDepth 100000 in
theorem gh_h114 : gh_chkB 7 196 "requireOthers" 3 gk_114 = true := by decide +kernel
set_option maxRecDepth 100000 in
theorem gh_h115 : gh_chkB 7 196 "requireUnits" 3 gk_115 = true := by decide +kernel
set_option maxRecDepth 100000 in
theorem gh_h116 : gh_chkB 7 196 "requireAlive" 2 gk_116 = true := by decide +kernel
set_option maxRecDepth 100000 in
theorem gh_h117 : gh_chkB 7 196 "requireDead" 2 gk_117 = true := by decide +kernel
set_option maxRecDepth 100000 in
theorem gh_h118 : gh_chkB 7 196 "requireUnclosed" 2 gk_118 = true := by decide +kernel
set_option maxRecDepth 100000 in
theorem gh_h119 : gh_chkB 7 196 "sharesNow" 3 gk_119 = true := by decide +kernel
set_option maxRecDepth 100000 in
theorem gh_h120 : gh_chkB 7 196 "wouldBeOthers" 4 gk_120 = true := by decide +kernel
set_option maxRecDepth 100000 in
theorem gh_h121 : gh_chkB 7 196 "retellKin" 4 gk_121 = true := by decide +kernel
set_option maxRecDepth 100000 in
theorem gh_h122 : gh_chkB 7 196 "reopen" 2 gk_122 = true := by decide +kernel
set_option maxRecDepth 100000 in
theorem gh_h123 : gh_chkB 7 196 "isIn" 2 gk_123 = true := by decide +kernel
set_option maxRecDepth 100000 in
theorem gh_h124 : gh_chkB 8 196 "<init>" 1 gk_124 = true := by decide +kernel
set_option maxRecDepth 100000 in
theorem gh_h125 : gh_chkB 8 196 "thrown" 1 gk_125 = true := by decide +kernel
set_option maxRecDepth 100000 in
theorem gh_h126 : gh_chkB 8 196 "in" 3 gk_126 = true := by decide +kernel
set_option maxRecDepth 100000 in
theorem gh_h127 : gh_chkB 8 196 "asked" 2 gk_127 = true := by decide +kernel
set_option maxRecDepth 100000 in
theorem gh_h128 : gh_chkB 8 196 "asked" 3 gk_128 = true := by decide +kernel
set_option maxRecDepth 100000 in
theorem gh_h129 : gh_chkB 8 196 "asked" 4 gk_129 = true := by decide +kernel
set_option maxRecDepth 100000 in
theorem gh_h130 : gh_chkB 8 196 "told" 2 gk_130 = true := by decide +kernel
set_option maxRecDepth 100000 in
theorem gh_h131 : gh_chkB 8 196 "isPerson" 2 gk_131 = true := by decide +kernel
set_option maxRecDepth 100000 in
theorem gh_h132 : gh_chkB 8 196 "isProof" 2 gk_132 = true := by decide +kernel
set_option maxRecDepth 100000 in
theorem gh_h133 : gh_chkB 8 196 "isDoubt" 2 gk_133 = true := by decide +kernel
set_option maxRecDepth 100000 in
theorem gh_h134 : gh_chkB 8 196 "isUnit" 1 gk_134 = true := by decide +kernel
set_option maxRecDepth 100000 in
theorem gh_h135 : gh_chkB 8 196 "pass" 3 gk_135 = true := by decide +kernel
set_option maxRecDepth 100000 in
theorem gh_h136 : gh_chkB 8 196 "today" 1 gk_136 = true := by decide +kernel
set_option maxRecDepth 100000 in
theorem gh_h137 : gh_chkB 8 196 "birth" 3 gk_137 = true := by decide +kernel
set_option maxRecDepth 100000 in
theorem gh_h138 : gh_chkB 8 196 "death" 7 gk_138 = true := by decide +kernel
set_option maxRecDepth 100000 in
theorem gh_h139 : gh_chkB 8 196 "people" 1 gk_139 = true := by decide +kernel
set_option maxRecDepth 100000 in
theorem gh_h140 : gh_chkB 8 196 "isAlive" 2 gk_140 = true := by decide +kernel
set_option maxRecDepth 100000 in
theorem gh_h141 : gh_chkB 8 196 "strong" 4 gk_141 = true := by decide +kernel
set_option maxRecDepth 100000 in
theorem gh_h142 : gh_chkB 8 196 "strongOf" 6 gk_142 = true := by decide +kernel
set_option maxRecDepth 100000 in
theorem gh_h143 : gh_chkB 8 196 "findsKin" 4 gk_143 = true := by decide +kernel
set_option maxRecDepth 100000 in
theorem gh_h144 : gh_chkB 8 196 "isParent" 3 gk_144 = true := by decide +kernel
set_option maxRecDepth 100000 in
theorem gh_h145 : gh_chkB 8 196 "proof" 5 gk_145 = true := by decide +kernel
set_option maxRecDepth 100000 in
theorem gh_h146 : gh_chkB 8 196 "doubt" 4 gk_146 = true := by decide +kernel
set_option maxRecDepth 100000 in
theorem gh_h147 : gh_chkB 8 196 "judge" 6 gk_147 = true := by decide +kernel
set_option maxRecDepth 100000 in
theorem gh_h148 : gh_chkB 8 196 "strength" 2 gk_148 = true := by decide +kernel
set_option maxRecDepth 100000 in
theorem gh_h149 : gh_chkB 8 196 "openDoubts" 3 gk_149 = true := by decide +kernel
set_option maxRecDepth 100000 in
theorem gh_h150 : gh_chkB 8 196 "parentOf" 3 gk_150 = true := by decide +kernel
set_option maxRecDepth 100000 in
theorem gh_h151 : gh_chkB 8 196 "childrenOf" 4 gk_151 = true := by decide +kernel
set_option maxRecDepth 100000 in
theorem gh_h152 : gh_chkB 8 196 "will" 6 gk_152 = true := by decide +kernel
set_option maxRecDepth 100000 in
theorem gh_h153 : gh_chkB 8 196 "placeOfClaim" 5 gk_153 = true := by decide +kernel
set_option maxRecDepth 100000 in
theorem gh_h154 : gh_chkB 8 196 "claim" 4 gk_154 = true := by decide +kernel
set_option maxRecDepth 100000 in
theorem gh_h155 : gh_chkB 8 196 "claims" 2 gk_155 = true := by decide +kernel
set_option maxRecDepth 100000 in
theorem gh_h156 : gh_chkB 8 196 "close" 4 gk_156 = true := by decide +kernel
set_option maxRecDepth 100000 in
theorem gh_h157 : gh_chkB 8 196 "isClosed" 2 gk_157 = true := by decide +kernel
set_option maxRecDepth 100000 in
theorem gh_h158 : gh_chkB 8 196 "wasAlive" 3 gk_158 = true := by decide +kernel
set_option maxRecDepth 100000 in
theorem gh_h159 : gh_chkB 8 196 "counts" 3 gk_159 = true := by decide +kernel
set_option maxRecDepth 100000 in
theorem gh_h160 : gh_chkB 8 196 "findsLines" 5 gk_160 = true := by decide +kernel
set_option maxRecDepth 100000 in
theorem gh_h161 : gh_chkB 8 196 "heads" 3 gk_161 = true := by decide +kernel
set_option maxRecDepth 100000 in
theorem gh_h162 : gh_chkB 8 196 "goesUp" 4 gk_162 = true := by decide +kernel
set_option maxRecDepth 100000 in
theorem gh_h163 : gh_chkB 8 196 "common" 10 gk_163 = true := by decide +kernel
set_option maxRecDepth 100000 in
theorem gh_h164 : gh_chkB 8 196 "adds" 12 gk_164 = true := by decide +kernel
set_option maxRecDepth 100000 in
theorem gh_h165 : gh_chkB 8 196 "livingChildren" 4 gk_165 = true := by decide +kernel
set_option maxRecDepth 100000 in
theorem gh_h166 : gh_chkB 8 196 "sharesByKin" 5 gk_166 = true := by decide +kernel
set_option maxRecDepth 100000 in
theorem gh_h167 : gh_chkB 8 196 "sharesOut" 7 gk_167 = true := by decide +kernel
set_option maxRecDepth 100000 in
theorem gh_h168 : gh_chkB 8 196 "shares" 7 gk_168 = true := by decide +kernel
set_option maxRecDepth 100000 in
theorem gh_h169 : gh_chkB 8 196 "heirsOf" 4 gk_169 = true := by decide +kernel
set_option maxRecDepth 100000 in
theorem gh_h170 : gh_chkB 8 196 "keeps" 3 gk_170 = true := by decide +kernel
set_option maxRecDepth 100000 in
theorem gh_h171 : gh_chkB 8 196 "areOthers" 4 gk_171 = true := by decide +kernel
set_option maxRecDepth 100000 in
theorem gh_h172 : gh_chkB 8 196 "reopens" 2 gk_172 = true := by decide +kernel
set_option maxRecDepth 100000 in
theorem gh_h173 : gh_chkB 8 196 "isEstate" 5 gk_173 = true := by decide +kernel
set_option maxRecDepth 100000 in
theorem gh_h174 : gh_chkB 8 196 "shareAbove" 3 gk_174 = true := by decide +kernel
set_option maxRecDepth 100000 in
theorem gh_h175 : gh_chkB 8 196 "shareBelow" 3 gk_175 = true := by decide +kernel
set_option maxRecDepth 100000 in
theorem gh_h176 : gh_chkB 8 196 "shareAboveByWays" 3 gk_176 = true := by decide +kernel
set_option maxRecDepth 100000 in
theorem gh_h177 : gh_chkB 8 196 "heirs" 2 gk_177 = true := by decide +kernel
set_option maxRecDepth 100000 in
theorem gh_h178 : gh_chkB 8 196 "disputes" 4 gk_178 = true := by decide +kernel
set_option maxRecDepth 100000 in
theorem gh_h179 : gh_chkB 8 196 "reopenings" 2 gk_179 = true := by decide +kernel
set_option maxRecDepth 100000 in
theorem gh_h180 : gh_chkB 8 196 "does" 6 gk_180 = true := by decide +kernel
set_option maxRecDepth 100000 in
theorem gh_h181 : gh_chkB 8 196 "heirAt" 6 gk_181 = true := by decide +kernel
set_option maxRecDepth 100000 in
theorem gh_h182 : gh_chkB 8 196 "unitsOf" 4 gk_182 = true := by decide +kernel
set_option maxRecDepth 100000 in
theorem gh_h183 : gh_chkB 8 196 "inherits" 9 gk_183 = true := by decide +kernel
set_option maxRecDepth 100000 in
theorem gh_h184 : gh_chkB 8 196 "draws" 3 gk_184 = true := by decide +kernel
set_option maxRecDepth 100000 in
theorem gh_h185 : gh_chkB 8 196 "isRow" 2 gk_185 = true := by decide +kernel
set_option maxRecDepth 100000 in
theorem gh_h186 : gh_chkB 8 196 "grant" 8 gk_186 = true := by decide +kernel
set_option maxRecDepth 100000 in
theorem gh_h187 : gh_chkB 8 196 "hand" 9 gk_187 = true := by decide +kernel
set_option maxRecDepth 100000 in
theorem gh_h188 : gh_chkB 8 196 "owner" 2 gk_188 = true := by decide +kernel
set_option maxRecDepth 100000 in
theorem gh_h189 : gh_chkB 8 196 "ownerAnew" 2 gk_189 = true := by decide +kernel
set_option maxRecDepth 100000 in
theorem gh_h190 : gh_chkB 8 196 "area" 2 gk_190 = true := by decide +kernel
set_option maxRecDepth 100000 in
theorem gh_h191 : gh_chkB 8 196 "parcels" 3 gk_191 = true := by decide +kernel
set_option maxRecDepth 100000 in
theorem gh_h192 : gh_chkB 8 196 "parcelAt" 5 gk_192 = true := by decide +kernel
set_option maxRecDepth 100000 in
theorem gh_h193 : gh_chkB 10 196 "bitCount" 1 gk_193 = true := by decide +kernel
set_option maxRecDepth 100000 in
theorem gh_h194 : gh_chkB 12 196 "fill" 4 gk_194 = true := by decide +kernel
set_option maxRecDepth 100000 in
theorem gh_h195 : gh_chkB 12 196 "fill" 5 gk_195 = true := by decide +kernel
def gh_HOK (μ : Nat) : Prop := ∃ q m, gh_yt[μ]? = some q ∧ gh_mt[μ]? = some m ∧ gh_chkB m.1 196 q.1.name q.2.2.1 m.2.2.2 = true
theorem gh_H0 : gh_HOK 0 := ⟨_, _, rfl, rfl, gh_h0⟩
theorem gh_H1 : gh_HOK 1 := ⟨_, _, rfl, rfl, gh_h1⟩
theorem gh_H2 : gh_HOK 2 := ⟨_, _, rfl, rfl, gh_h2⟩
theorem gh_H3 : gh_HOK 3 := ⟨_, _, rfl, rfl, gh_h3⟩
theorem gh_H4 : gh_HOK 4 := ⟨_, _, rfl, rfl, gh_h4⟩
theorem gh_H5 : gh_HOK 5 := ⟨_, _, rfl, rfl, gh_h5⟩
theorem gh_H6 : gh_HOK 6 := ⟨_, _, rfl, rfl, gh_h6⟩
theorem gh_H7 : gh_HOK 7 := ⟨_, _, rfl, rfl, gh_h7⟩
theorem gh_H8 : gh_HOK 8 := ⟨_, _, rfl, rfl, gh_h8⟩
theorem gh_H9 : gh_HOK 9 := ⟨_, _, rfl, rfl, gh_h9⟩
theorem gh_H10 : gh_HOK 10 := ⟨_, _, rfl, rfl, gh_h10⟩
theorem gh_H11 : gh_HOK 11 := ⟨_, _, rfl, rfl, gh_h11⟩
theorem gh_H12 : gh_HOK 12 := ⟨_, _, rfl, rfl, gh_h12⟩
theorem gh_H13 : gh_HOK 13 := ⟨_, _, rfl, rfl, gh_h13⟩
theorem gh_H14 : gh_HOK 14 := ⟨_, _, rfl, rfl, gh_h14⟩
theorem gh_H15 : gh_HOK 15 := ⟨_, _, rfl, rfl, gh_h15⟩
theorem gh_H16 : gh_HOK 16 := ⟨_, _, rfl, rfl, gh_h16⟩
theorem gh_H17 : gh_HOK 17 := ⟨_, _, rfl, rfl, gh_h17⟩
theorem gh_H18 : gh_HOK 18 := ⟨_, _, rfl, rfl, gh_h18⟩
theorem gh_H19 : gh_HOK 19 := ⟨_, _, rfl, rfl, gh_h19⟩
theorem gh_H20 : gh_HOK 20 := ⟨_, _, rfl, rfl, gh_h20⟩
theorem gh_H21 : gh_HOK 21 := ⟨_, _, rfl, rfl, gh_h21⟩
theorem gh_H22 : gh_HOK 22 := ⟨_, _, rfl, rfl, gh_h22⟩
theorem gh_H23 : gh_HOK 23 := ⟨_, _, rfl, rfl, gh_h23⟩
theorem gh_H24 : gh_HOK 24 := ⟨_, _, rfl, rfl, gh_h24⟩
theorem gh_H25 : gh_HOK 25 := ⟨_, _, rfl, rfl, gh_h25⟩
theorem gh_H26 : gh_HOK 26 := ⟨_, _, rfl, rfl, gh_h26⟩
theorem gh_H27 : gh_HOK 27 := ⟨_, _, rfl, rfl, gh_h27⟩
theorem gh_H28 : gh_HOK 28 := ⟨_, _, rfl, rfl, gh_h28⟩
theorem gh_H29 : gh_HOK 29 := ⟨_, _, rfl, rfl, gh_h29⟩
theorem gh_H30 : gh_HOK 30 := ⟨_, _, rfl, rfl, gh_h30⟩
theorem gh_H31 : gh_HOK 31 := ⟨_, _, rfl, rfl, gh_h31⟩
theorem gh_H32 : gh_HOK 32 := ⟨_, _, rfl, rfl, gh_h32⟩
theorem gh_H33 : gh_HOK 33 := ⟨_, _, rfl, rfl, gh_h33⟩
theorem gh_H34 : gh_HOK 34 := ⟨_, _, rfl, rfl, gh_h34⟩
theorem gh_H35 : gh_HOK 35 := ⟨_, _, rfl, rfl, gh_h35⟩
theorem gh_H36 : gh_HOK 36 := ⟨_, _, rfl, rfl, gh_h36⟩
theorem gh_H37 : gh_HOK 37 := ⟨_, _, rfl, rfl, gh_h37⟩
theorem gh_H38 : gh_HOK 38 := ⟨_, _, rfl, rfl, gh_h38⟩
theorem gh_H39 : gh_HOK 39 := ⟨_, _, rfl, rfl, gh_h39⟩
theorem gh_H40 : gh_HOK 40 := ⟨_, _, rfl, rfl, gh_h40⟩
theorem gh_H41 : gh_HOK 41 := ⟨_, _, rfl, rfl, gh_h41⟩
theorem gh_H42 : gh_HOK 42 := ⟨_, _, rfl, rfl, gh_h42⟩
theorem gh_H43 : gh_HOK 43 := ⟨_, _, rfl, rfl, gh_h43⟩
theorem gh_H44 : gh_HOK 44 := ⟨_, _, rfl, rfl, gh_h44⟩
theorem gh_H45 : gh_HOK 45 := ⟨_, _, rfl, rfl, gh_h45⟩
theorem gh_H46 : gh_HOK 46 := ⟨_, _, rfl, rfl, gh_h46⟩
theorem gh_H47 : gh_HOK 47 := ⟨_, _, rfl, rfl, gh_h47⟩
theorem gh_H48 : gh_HOK 48 := ⟨_, _, rfl, rfl, gh_h48⟩
theorem gh_H49 : gh_HOK 49 := ⟨_, _, rfl, rfl, gh_h49⟩
theorem gh_H50 : gh_HOK 50 := ⟨_, _, rfl, rfl, gh_h50⟩
theorem gh_H51 : gh_HOK 51 := ⟨_, _, rfl, rfl, gh_h51⟩
theorem gh_H52 : gh_HOK 52 := ⟨_, _, rfl, rfl, gh_h52⟩
theorem gh_H53 : gh_HOK 53 := ⟨_, _, rfl, rfl, gh_h53⟩
theorem gh_H54 : gh_HOK 54 := ⟨_, _, rfl, rfl, gh_h54⟩
theorem gh_H55 : gh_HOK 55 := ⟨_, _, rfl, rfl, gh_h55⟩
theorem gh_H56 : gh_HOK 56 := ⟨_, _, rfl, rfl, gh_h56⟩
theorem gh_H57 : gh_HOK 57 := ⟨_, _, rfl, rfl, gh_h57⟩
theorem gh_H58 : gh_HOK 58 := ⟨_, _, rfl, rfl, gh_h58⟩
theorem gh_H59 : gh_HOK 59 := ⟨_, _, rfl, rfl, gh_h59⟩
theorem gh_H60 : gh_HOK 60 := ⟨_, _, rfl, rfl, gh_h60⟩
theorem gh_H61 : gh_HOK 61 := ⟨_, _, rfl, rfl, gh_h61⟩
theorem gh_H62 : gh_HOK 62 := ⟨_, _, rfl, rfl, gh_h62⟩
theorem gh_H63 : gh_HOK 63 := ⟨_, _, rfl, rfl, gh_h63⟩
theorem gh_H64 : gh_HOK 64 := ⟨_, _, rfl, rfl, gh_h64⟩
theorem gh_H65 : gh_HOK 65 := ⟨_, _, rfl, rfl, gh_h65⟩
theorem gh_H66 : gh_HOK 66 := ⟨_, _, rfl, rfl, gh_h66⟩
theorem gh_H67 : gh_HOK 67 := ⟨_, _, rfl, rfl, gh_h67⟩
theorem gh_H68 : gh_HOK 68 := ⟨_, _, rfl, rfl, gh_h68⟩
theorem gh_H69 : gh_HOK 69 := ⟨_, _, rfl, rfl, gh_h69⟩
theorem gh_H70 : gh_HOK 70 := ⟨_, _, rfl, rfl, gh_h70⟩
theorem gh_H71 : gh_HOK 71 := ⟨_, _, rfl, rfl, gh_h71⟩
theorem gh_H72 : gh_HOK 72 := ⟨_, _, rfl, rfl, gh_h72⟩
theorem gh_H73 : gh_HOK 73 := ⟨_, _, rfl, rfl, gh_h73⟩
theorem gh_H74 : gh_HOK 74 := ⟨_, _, rfl, rfl, gh_h74⟩
theorem gh_H75 : gh_HOK 75 := ⟨_, _, rfl, rfl, gh_h75⟩
theorem gh_H76 : gh_HOK 76 := ⟨_, _, rfl, rfl, gh_h76⟩
theorem gh_H77 : gh_HOK 77 := ⟨_, _, rfl, rfl, gh_h77⟩
theorem gh_H78 : gh_HOK 78 := ⟨_, _, rfl, rfl, gh_h78⟩
theorem gh_H79 : gh_HOK 79 := ⟨_, _, rfl, rfl, gh_h79⟩
theorem gh_H80 : gh_HOK 80 := ⟨_, _, rfl, rfl, gh_h80⟩
theorem gh_H81 : gh_HOK 81 := ⟨_, _, rfl, rfl, gh_h81⟩
theorem gh_H82 : gh_HOK 82 := ⟨_, _, rfl, rfl, gh_h82⟩
theorem gh_H83 : gh_HOK 83 := ⟨_, _, rfl, rfl, gh_h83⟩
theorem gh_H84 : gh_HOK 84 := ⟨_, _, rfl, rfl, gh_h84⟩
theorem gh_H85 : gh_HOK 85 := ⟨_, _, rfl, rfl, gh_h85⟩
theorem gh_H86 : gh_HOK 86 := ⟨_, _, rfl, rfl, gh_h86⟩
theorem gh_H87 : gh_HOK 87 := ⟨_, _, rfl, rfl, gh_h87⟩
theorem gh_H88 : gh_HOK 88 := ⟨_, _, rfl, rfl, gh_h88⟩
theorem gh_H89 : gh_HOK 89 := ⟨_, _, rfl, rfl, gh_h89⟩
theorem gh_H90 : gh_HOK 90 := ⟨_, _, rfl, rfl, gh_h90⟩
theorem gh_H91 : gh_HOK 91 := ⟨_, _, rfl, rfl, gh_h91⟩
theorem gh_H92 : gh_HOK 92 := ⟨_, _, rfl, rfl, gh_h92⟩
theorem gh_H93 : gh_HOK 93 := ⟨_, _, rfl, rfl, gh_h93⟩
theorem gh_H94 : gh_HOK 94 := ⟨_, _, rfl, rfl, gh_h94⟩
theorem gh_H95 : gh_HOK 95 := ⟨_, _, rfl, rfl, gh_h95⟩
theorem gh_H96 : gh_HOK 96 := ⟨_, _, rfl, rfl, gh_h96⟩
theorem gh_H97 : gh_HOK 97 := ⟨_, _, rfl, rfl, gh_h97⟩
theorem gh_H98 : gh_HOK 98 := ⟨_, _, rfl, rfl, gh_h98⟩
theorem gh_H99 : gh_HOK 99 := ⟨_, _, rfl, rfl, gh_h99⟩
theorem gh_H100 : gh_HOK 100 := ⟨_, _, rfl, rfl, gh_h100⟩
theorem gh_H101 : gh_HOK 101 := ⟨_, _, rfl, rfl, gh_h101⟩
theorem gh_H102 : gh_HOK 102 := ⟨_, _, rfl, rfl, gh_h102⟩
theorem gh_H103 : gh_HOK 103 := ⟨_, _, rfl, rfl, gh_h103⟩
theorem gh_H104 : gh_HOK 104 := ⟨_, _, rfl, rfl, gh_h104⟩
theorem gh_H105 : gh_HOK 105 := ⟨_, _, rfl, rfl, gh_h105⟩
theorem gh_H106 : gh_HOK 106 := ⟨_, _, rfl, rfl, gh_h106⟩
theorem gh_H107 : gh_HOK 107 := ⟨_, _, rfl, rfl, gh_h107⟩
theorem gh_H108 : gh_HOK 108 := ⟨_, _, rfl, rfl, gh_h108⟩
theorem gh_H109 : gh_HOK 109 := ⟨_, _, rfl, rfl, gh_h109⟩
theorem gh_H110 : gh_HOK 110 := ⟨_, _, rfl, rfl, gh_h110⟩
theorem gh_H111 : gh_HOK 111 := ⟨_, _, rfl, rfl, gh_h111⟩
theorem gh_H112 : gh_HOK 112 := ⟨_, _, rfl, rfl, gh_h112⟩
theorem gh_H113 : gh_HOK 113 := ⟨_, _, rfl, rfl, gh_h113⟩
theorem gh_H114 : gh_HOK 114 := ⟨_, _, rfl, rfl, gh_h114⟩
theorem gh_H115 : gh_HOK 115 := ⟨_, _, rfl, rfl, gh_h115⟩
theorem gh_H116 : gh_HOK 116 := ⟨_, _, rfl, rfl, gh_h116⟩
theorem gh_H117 : gh_HOK 117 := ⟨_, _, rfl, rfl, gh_h117⟩
theorem gh_H118 : gh_HOK 118 := ⟨_, _, rfl, rfl, gh_h118⟩
theorem gh_H119 : gh_HOK 119 := ⟨_, _, rfl, rfl, gh_h119⟩
theorem gh_H120 : gh_HOK 120 := ⟨_, _, rfl, rfl, gh_h120⟩
theorem gh_H121 : gh_HOK 121 := ⟨_, _, rfl, rfl, gh_h121⟩
theorem gh_H122 : gh_HOK 122 := ⟨_, _, rfl, rfl, gh_h122⟩
theorem gh_H123 : gh_HOK 123 := ⟨_, _, rfl, rfl, gh_h123⟩
theorem gh_H124 : gh_HOK 124 := ⟨_, _, rfl, rfl, gh_h124⟩
theorem gh_H125 : gh_HOK 125 := ⟨_, _, rfl, rfl, gh_h125⟩
theorem gh_H126 : gh_HOK 126 := ⟨_, _, rfl, rfl, gh_h126⟩
theorem gh_H127 : gh_HOK 127 := ⟨_, _, rfl, rfl, gh_h127⟩
theorem gh_H128 : gh_HOK 128 := ⟨_, _, rfl, rfl, gh_h128⟩
theorem gh_H129 : gh_HOK 129 := ⟨_, _, rfl, rfl, gh_h129⟩
theorem gh_H130 : gh_HOK 130 := ⟨_, _, rfl, rfl, gh_h130⟩
theorem gh_H131 : gh_HOK 131 := ⟨_, _, rfl, rfl, gh_h131⟩
theorem gh_H132 : gh_HOK 132 := ⟨_, _, rfl, rfl, gh_h132⟩
theorem gh_H133 : gh_HOK 133 := ⟨_, _, rfl, rfl, gh_h133⟩
theorem gh_H134 : gh_HOK 134 := ⟨_, _, rfl, rfl, gh_h134⟩
theorem gh_H135 : gh_HOK 135 := ⟨_, _, rfl, rfl, gh_h135⟩
theorem gh_H136 : gh_HOK 136 := ⟨_, _, rfl, rfl, gh_h136⟩
theorem gh_H137 : gh_HOK 137 := ⟨_, _, rfl, rfl, gh_h137⟩
theorem gh_H138 : gh_HOK 138 := ⟨_, _, rfl, rfl, gh_h138⟩
theorem gh_H139 : gh_HOK 139 := ⟨_, _, rfl, rfl, gh_h139⟩
theorem gh_H140 : gh_HOK 140 := ⟨_, _, rfl, rfl, gh_h140⟩
theorem gh_H141 : gh_HOK 141 := ⟨_, _, rfl, rfl, gh_h141⟩
theorem gh_H142 : gh_HOK 142 := ⟨_, _, rfl, rfl, gh_h142⟩
theorem gh_H143 : gh_HOK 143 := ⟨_, _, rfl, rfl, gh_h143⟩
theorem gh_H144 : gh_HOK 144 := ⟨_, _, rfl, rfl, gh_h144⟩
theorem gh_H145 : gh_HOK 145 := ⟨_, _, rfl, rfl, gh_h145⟩
theorem gh_H146 : gh_HOK 146 := ⟨_, _, rfl, rfl, gh_h146⟩
theorem gh_H147 : gh_HOK 147 := ⟨_, _, rfl, rfl, gh_h147⟩
theorem gh_H148 : gh_HOK 148 := ⟨_, _, rfl, rfl, gh_h148⟩
theorem gh_H149 : gh_HOK 149 := ⟨_, _, rfl, rfl, gh_h149⟩
theorem gh_H150 : gh_HOK 150 := ⟨_, _, rfl, rfl, gh_h150⟩
theorem gh_H151 : gh_HOK 151 := ⟨_, _, rfl, rfl, gh_h151⟩
theorem gh_H152 : gh_HOK 152 := ⟨_, _, rfl, rfl, gh_h152⟩
theorem gh_H153 : gh_HOK 153 := ⟨_, _, rfl, rfl, gh_h153⟩
theorem gh_H154 : gh_HOK 154 := ⟨_, _, rfl, rfl, gh_h154⟩
theorem gh_H155 : gh_HOK 155 := ⟨_, _, rfl, rfl, gh_h155⟩
theorem gh_H156 : gh_HOK 156 := ⟨_, _, rfl, rfl, gh_h156⟩
theorem gh_H157 : gh_HOK 157 := ⟨_, _, rfl, rfl, gh_h157⟩
theorem gh_H158 : gh_HOK 158 := ⟨_, _, rfl, rfl, gh_h158⟩
theorem gh_H159 : gh_HOK 159 := ⟨_, _, rfl, rfl, gh_h159⟩
theorem gh_H160 : gh_HOK 160 := ⟨_, _, rfl, rfl, gh_h160⟩
theorem gh_H161 : gh_HOK 161 := ⟨_, _, rfl, rfl, gh_h161⟩
theorem gh_H162 : gh_HOK 162 := ⟨_, _, rfl, rfl, gh_h162⟩
theorem gh_H163 : gh_HOK 163 := ⟨_, _, rfl, rfl, gh_h163⟩
theorem gh_H164 : gh_HOK 164 := ⟨_, _, rfl, rfl, gh_h164⟩
theorem gh_H165 : gh_HOK 165 := ⟨_, _, rfl, rfl, gh_h165⟩
theorem gh_H166 : gh_HOK 166 := ⟨_, _, rfl, rfl, gh_h166⟩
theorem gh_H167 : gh_HOK 167 := ⟨_, _, rfl, rfl, gh_h167⟩
theorem gh_H168 : gh_HOK 168 := ⟨_, _, rfl, rfl, gh_h168⟩
theorem gh_H169 : gh_HOK 169 := ⟨_, _, rfl, rfl, gh_h169⟩
theorem gh_H170 : gh_HOK 170 := ⟨_, _, rfl, rfl, gh_h170⟩
theorem gh_H171 : gh_HOK 171 := ⟨_, _, rfl, rfl, gh_h171⟩
theorem gh_H172 : gh_HOK 172 := ⟨_, _, rfl, rfl, gh_h172⟩
theorem gh_H173 : gh_HOK 173 := ⟨_, _, rfl, rfl, gh_h173⟩
theorem gh_H174 : gh_HOK 174 := ⟨_, _, rfl, rfl, gh_h174⟩
theorem gh_H175 : gh_HOK 175 := ⟨_, _, rfl, rfl, gh_h175⟩
theorem gh_H176 : gh_HOK 176 := ⟨_, _, rfl, rfl, gh_h176⟩
theorem gh_H177 : gh_HOK 177 := ⟨_, _, rfl, rfl, gh_h177⟩
theorem gh_H178 : gh_HOK 178 := ⟨_, _, rfl, rfl, gh_h178⟩
theorem gh_H179 : gh_HOK 179 := ⟨_, _, rfl, rfl, gh_h179⟩
theorem gh_H180 : gh_HOK 180 := ⟨_, _, rfl, rfl, gh_h180⟩
theorem gh_H181 : gh_HOK 181 := ⟨_, _, rfl, rfl, gh_h181⟩
theorem gh_H182 : gh_HOK 182 := ⟨_, _, rfl, rfl, gh_h182⟩
theorem gh_H183 : gh_HOK 183 := ⟨_, _, rfl, rfl, gh_h183⟩
theorem gh_H184 : gh_HOK 184 := ⟨_, _, rfl, rfl, gh_h184⟩
theorem gh_H185 : gh_HOK 185 := ⟨_, _, rfl, rfl, gh_h185⟩
theorem gh_H186 : gh_HOK 186 := ⟨_, _, rfl, rfl, gh_h186⟩
theorem gh_H187 : gh_HOK 187 := ⟨_, _, rfl, rfl, gh_h187⟩
theorem gh_H188 : gh_HOK 188 := ⟨_, _, rfl, rfl, gh_h188⟩
theorem gh_H189 : gh_HOK 189 := ⟨_, _, rfl, rfl, gh_h189⟩
theorem gh_H190 : gh_HOK 190 := ⟨_, _, rfl, rfl, gh_h190⟩
theorem gh_H191 : gh_HOK 191 := ⟨_, _, rfl, rfl, gh_h191⟩
theorem gh_H192 : gh_HOK 192 := ⟨_, _, rfl, rfl, gh_h192⟩
theorem gh_H193 : gh_HOK 193 := ⟨_, _, rfl, rfl, gh_h193⟩
theorem gh_H194 : gh_HOK 194 := ⟨_, _, rfl, rfl, gh_h194⟩
theorem gh_H195 : gh_HOK 195 := ⟨_, _, rfl, rfl, gh_h195⟩
theorem gh_Hg0 : ∀ μ ∈ ([0, 1, 2, 3, 4, 5, 6, 7, 8, 9, 10, 11, 12, 13, 14, 15, 16, 17, 18, 19, 20, 21, 22, 23, 24, 25, 26, 27] : List Nat), gh_HOK μ := List.forall_mem_cons.mpr ⟨gh_H0, List.forall_mem_cons.mpr ⟨gh_H1, List.forall_mem_cons.mpr ⟨gh_H2, List.forall_mem_cons.mpr ⟨gh_H3, List.forall_mem_cons.mpr ⟨gh_H4, List.forall_mem_cons.mpr ⟨gh_H5, List.forall_mem_cons.mpr ⟨gh_H6, List.forall_mem_cons.mpr ⟨gh_H7, List.forall_mem_cons.mpr ⟨gh_H8, List.forall_mem_cons.mpr ⟨gh_H9, List.forall_mem_cons.mpr ⟨gh_H10, List.forall_mem_cons.mpr ⟨gh_H11, List.forall_mem_cons.mpr ⟨gh_H12, List.forall_mem_cons.mpr ⟨gh_H13, List.forall_mem_cons.mpr ⟨gh_H14, List.forall_mem_cons.mpr ⟨gh_H15, List.forall_mem_cons.mpr ⟨gh_H16, List.forall_mem_cons.mpr ⟨gh_H17, List.forall_mem_cons.mpr ⟨gh_H18, List.forall_mem_cons.mpr ⟨gh_H19, List.forall_mem_cons.mpr ⟨gh_H20, List.forall_mem_cons.mpr ⟨gh_H21, List.forall_mem_cons.mpr ⟨gh_H22, List.forall_mem_cons.mpr ⟨gh_H23, List.forall_mem_cons.mpr ⟨gh_H24, List.forall_mem_cons.mpr ⟨gh_H25, List.forall_mem_cons.mpr ⟨gh_H26, List.forall_mem_cons.mpr ⟨gh_H27, (fun _ h => absurd h List.not_mem_nil)⟩⟩⟩⟩⟩⟩⟩⟩⟩⟩⟩⟩⟩⟩⟩⟩⟩⟩⟩⟩⟩⟩⟩⟩⟩⟩⟩⟩
theorem gh_Hg1 : ∀ μ ∈ ([28, 29, 30, 31, 32, 33, 34, 35, 36, 37, 38, 39, 40, 41, 42, 43, 44, 45, 46, 47, 48, 49, 50, 51, 52, 53, 54, 55] : List Nat), gh_HOK μ := List.forall_mem_cons.mpr ⟨gh_H28, List.forall_mem_cons.mpr ⟨gh_H29, List.forall_mem_cons.mpr ⟨gh_H30, List.forall_mem_cons.mpr ⟨gh_H31, List.forall_mem_cons.mpr ⟨gh_H32, List.forall_mem_cons.mpr ⟨gh_H33, List.forall_mem_cons.mpr ⟨gh_H34, List.forall_mem_cons.mpr ⟨gh_H35, List.forall_mem_cons.mpr ⟨gh_H36, List.forall_mem_cons.mpr ⟨gh_H37, List.forall_mem_cons.mpr ⟨gh_H38, List.forall_mem_cons.mpr ⟨gh_H39, List.forall_mem_cons.mpr ⟨gh_H40, List.forall_mem_cons.mpr ⟨gh_H41, List.forall_mem_cons.mpr ⟨gh_H42, List.forall_mem_cons.mpr ⟨gh_H43, List.forall_mem_cons.mpr ⟨gh_H44, List.forall_mem_cons.mpr ⟨gh_H45, List.forall_mem_cons.mpr ⟨gh_H46, List.forall_mem_cons.mpr ⟨gh_H47, List.forall_mem_cons.mpr ⟨gh_H48, List.forall_mem_cons.mpr ⟨gh_H49, List.forall_mem_cons.mpr ⟨gh_H50, List.forall_mem_cons.mpr ⟨gh_H51, List.forall_mem_cons.mpr ⟨gh_H52, List.forall_mem_cons.mpr ⟨gh_H53, List.forall_mem_cons.mpr ⟨gh_H54, List.forall_mem_cons.mpr ⟨gh_H55, (fun _ h => absurd h List.not_mem_nil)⟩⟩⟩⟩⟩⟩⟩⟩⟩⟩⟩⟩⟩⟩⟩⟩⟩⟩⟩⟩⟩⟩⟩⟩⟩⟩⟩⟩
theorem gh_Hg2 : ∀ μ ∈ ([56, 57, 58, 59, 60, 61, 62, 63, 64, 65, 66, 67, 68, 69, 70, 71, 72, 73, 74, 75, 76, 77, 78, 79, 80, 81, 82, 83] : List Nat), gh_HOK μ := List.forall_mem_cons.mpr ⟨gh_H56, List.forall_mem_cons.mpr ⟨gh_H57, List.forall_mem_cons.mpr ⟨gh_H58, List.forall_mem_cons.mpr ⟨gh_H59, List.forall_mem_cons.mpr ⟨gh_H60, List.forall_mem_cons.mpr ⟨gh_H61, List.forall_mem_cons.mpr ⟨gh_H62, List.forall_mem_cons.mpr ⟨gh_H63, List.forall_mem_cons.mpr ⟨gh_H64, List.forall_mem_cons.mpr ⟨gh_H65, List.forall_mem_cons.mpr ⟨gh_H66, List.forall_mem_cons.mpr ⟨gh_H67, List.forall_mem_cons.mpr ⟨gh_H68, List.forall_mem_cons.mpr ⟨gh_H69, List.forall_mem_cons.mpr ⟨gh_H70, List.forall_mem_cons.mpr ⟨gh_H71, List.forall_mem_cons.mpr ⟨gh_H72, List.forall_mem_cons.mpr ⟨gh_H73, List.forall_mem_cons.mpr ⟨gh_H74, List.forall_mem_cons.mpr ⟨gh_H75, List.forall_mem_cons.mpr ⟨gh_H76, List.forall_mem_cons.mpr ⟨gh_H77, List.forall_mem_cons.mpr ⟨gh_H78, List.forall_mem_cons.mpr ⟨gh_H79, List.forall_mem_cons.mpr ⟨gh_H80, List.forall_mem_cons.mpr ⟨gh_H81, List.forall_mem_cons.mpr ⟨gh_H82, List.forall_mem_cons.mpr ⟨gh_H83, (fun _ h => absurd h List.not_mem_nil)⟩⟩⟩⟩⟩⟩⟩⟩⟩⟩⟩⟩⟩⟩⟩⟩⟩⟩⟩⟩⟩⟩⟩⟩⟩⟩⟩⟩
theorem gh_Hg3 : ∀ μ ∈ ([84, 85, 86, 87, 88, 89, 90, 91, 92, 93, 94, 95, 96, 97, 98, 99, 100, 101, 102, 103, 104, 105, 106, 107, 108, 109, 110, 111] : List Nat), gh_HOK μ := List.forall_mem_cons.mpr ⟨gh_H84, List.forall_mem_cons.mpr ⟨gh_H85, List.forall_mem_cons.mpr ⟨gh_H86, List.forall_mem_cons.mpr ⟨gh_H87, List.forall_mem_cons.mpr ⟨gh_H88, List.forall_mem_cons.mpr ⟨gh_H89, List.forall_mem_cons.mpr ⟨gh_H90, List.forall_mem_cons.mpr ⟨gh_H91, List.forall_mem_cons.mpr ⟨gh_H92, List.forall_mem_cons.mpr ⟨gh_H93, List.forall_mem_cons.mpr ⟨gh_H94, List.forall_mem_cons.mpr ⟨gh_H95, List.forall_mem_cons.mpr ⟨gh_H96, List.forall_mem_cons.mpr ⟨gh_H97, List.forall_mem_cons.mpr ⟨gh_H98, List.forall_mem_cons.mpr ⟨gh_H99, List.forall_mem_cons.mpr ⟨gh_H100, List.forall_mem_cons.mpr ⟨gh_H101, List.forall_mem_cons.mpr ⟨gh_H102, List.forall_mem_cons.mpr ⟨gh_H103, List.forall_mem_cons.mpr ⟨gh_H104, List.forall_mem_cons.mpr ⟨gh_H105, List.forall_mem_cons.mpr ⟨gh_H106, List.forall_mem_cons.mpr ⟨gh_H107, List.forall_mem_cons.mpr ⟨gh_H108, List.forall_mem_cons.mpr ⟨gh_H109, List.forall_mem_cons.mpr ⟨gh_H110, List.forall_mem_cons.mpr ⟨gh_H111, (fun _ h => absurd h List.not_mem_nil)⟩⟩⟩⟩⟩⟩⟩⟩⟩⟩⟩⟩⟩⟩⟩⟩⟩⟩⟩⟩⟩⟩⟩⟩⟩⟩⟩⟩
theorem gh_Hg4 : ∀ μ ∈ ([112, 113, 114, 115, 116, 117, 118, 119, 120, 121, 122, 123, 124, 125, 126, 127, 128, 129, 130, 131, 132, 133, 134, 135, 136, 137, 138, 139] : List Nat), gh_HOK μ := List.forall_mem_cons.mpr ⟨gh_H112, List.forall_mem_cons.mpr ⟨gh_H113, List.forall_mem_cons.mpr ⟨gh_H114, List.forall_mem_cons.mpr ⟨gh_H115, List.forall_mem_cons.mpr ⟨gh_H116, List.forall_mem_cons.mpr ⟨gh_H117, List.forall_mem_cons.mpr ⟨gh_H118, List.forall_mem_cons.mpr ⟨gh_H119, List.forall_mem_cons.mpr ⟨gh_H120, List.forall_mem_cons.mpr ⟨gh_H121, List.forall_mem_cons.mpr ⟨gh_H122, List.forall_mem_cons.mpr ⟨gh_H123, List.forall_mem_cons.mpr ⟨gh_H124, List.forall_mem_cons.mpr ⟨gh_H125, List.forall_mem_cons.mpr ⟨gh_H126, List.forall_mem_cons.mpr ⟨gh_H127, List.forall_mem_cons.mpr ⟨gh_H128, List.forall_mem_cons.mpr ⟨gh_H129, List.forall_mem_cons.mpr ⟨gh_H130, List.forall_mem_cons.mpr ⟨gh_H131, List.forall_mem_cons.mpr ⟨gh_H132, List.forall_mem_cons.mpr ⟨gh_H133, List.forall_mem_cons.mpr ⟨gh_H134, List.forall_mem_cons.mpr ⟨gh_H135, List.forall_mem_cons.mpr ⟨gh_H136, List.forall_mem_cons.mpr ⟨gh_H137, List.forall_mem_cons.mpr ⟨gh_H138, List.forall_mem_cons.mpr ⟨gh_H139, (fun _ h => absurd h List.not_mem_nil)⟩⟩⟩⟩⟩⟩⟩⟩⟩⟩⟩⟩⟩⟩⟩⟩⟩⟩⟩⟩⟩⟩⟩⟩⟩⟩⟩⟩
theorem gh_Hg5 : ∀ μ ∈ ([140, 141, 142, 143, 144, 145, 146, 147, 148, 149, 150, 151, 152, 153, 154, 155, 156, 157, 158, 159, 160, 161, 162, 163, 164, 165, 166, 167] : List Nat), gh_HOK μ := List.forall_mem_cons.mpr ⟨gh_H140, List.forall_mem_cons.mpr ⟨gh_H141, List.forall_mem_cons.mpr ⟨gh_H142, List.forall_mem_cons.mpr ⟨gh_H143, List.forall_mem_cons.mpr ⟨gh_H144, List.forall_mem_cons.mpr ⟨gh_H145, List.forall_mem_cons.mpr ⟨gh_H146, List.forall_mem_cons.mpr ⟨gh_H147, List.forall_mem_cons.mpr ⟨gh_H148, List.forall_mem_cons.mpr ⟨gh_H149, List.forall_mem_cons.mpr ⟨gh_H150, List.forall_mem_cons.mpr ⟨gh_H151, List.forall_mem_cons.mpr ⟨gh_H152, List.forall_mem_cons.mpr ⟨gh_H153, List.forall_mem_cons.mpr ⟨gh_H154, List.forall_mem_cons.mpr ⟨gh_H155, List.forall_mem_cons.mpr ⟨gh_H156, List.forall_mem_cons.mpr ⟨gh_H157, List.forall_mem_cons.mpr ⟨gh_H158, List.forall_mem_cons.mpr ⟨gh_H159, List.forall_mem_cons.mpr ⟨gh_H160, List.forall_mem_cons.mpr ⟨gh_H161, List.forall_mem_cons.mpr ⟨gh_H162, List.forall_mem_cons.mpr ⟨gh_H163, List.forall_mem_cons.mpr ⟨gh_H164, List.forall_mem_cons.mpr ⟨gh_H165, List.forall_mem_cons.mpr ⟨gh_H166, List.forall_mem_cons.mpr ⟨gh_H167, (fun _ h => absurd h List.not_mem_nil)⟩⟩⟩⟩⟩⟩⟩⟩⟩⟩⟩⟩⟩⟩⟩⟩⟩⟩⟩⟩⟩⟩⟩⟩⟩⟩⟩⟩
theorem gh_Hg6 : ∀ μ ∈ ([168, 169, 170, 171, 172, 173, 174, 175, 176, 177, 178, 179, 180, 181, 182, 183, 184, 185, 186, 187, 188, 189, 190, 191, 192, 193, 194, 195] : List Nat), gh_HOK μ := List.forall_mem_cons.mpr ⟨gh_H168, List.forall_mem_cons.mpr ⟨gh_H169, List.forall_mem_cons.mpr ⟨gh_H170, List.forall_mem_cons.mpr ⟨gh_H171, List.forall_mem_cons.mpr ⟨gh_H172, List.forall_mem_cons.mpr ⟨gh_H173, List.forall_mem_cons.mpr ⟨gh_H174, List.forall_mem_cons.mpr ⟨gh_H175, List.forall_mem_cons.mpr ⟨gh_H176, List.forall_mem_cons.mpr ⟨gh_H177, List.forall_mem_cons.mpr ⟨gh_H178, List.forall_mem_cons.mpr ⟨gh_H179, List.forall_mem_cons.mpr ⟨gh_H180, List.forall_mem_cons.mpr ⟨gh_H181, List.forall_mem_cons.mpr ⟨gh_H182, List.forall_mem_cons.mpr ⟨gh_H183, List.forall_mem_cons.mpr ⟨gh_H184, List.forall_mem_cons.mpr ⟨gh_H185, List.forall_mem_cons.mpr ⟨gh_H186, List.forall_mem_cons.mpr ⟨gh_H187, List.forall_mem_cons.mpr ⟨gh_H188, List.forall_mem_cons.mpr ⟨gh_H189, List.forall_mem_cons.mpr ⟨gh_H190, List.forall_mem_cons.mpr ⟨gh_H191, List.forall_mem_cons.mpr ⟨gh_H192, List.forall_mem_cons.mpr ⟨gh_H193, List.forall_mem_cons.mpr ⟨gh_H194, List.forall_mem_cons.mpr ⟨gh_H195, (fun _ h => absurd h List.not_mem_nil)⟩⟩⟩⟩⟩⟩⟩⟩⟩⟩⟩⟩⟩⟩⟩⟩⟩⟩⟩⟩⟩⟩⟩⟩⟩⟩⟩⟩
theorem gh_Hall (μ : Nat) (h : μ < 196) : gh_HOK μ := by
  by_cases h0 : μ < 28
  · exact gh_Hg0 μ (by simp only [List.mem_cons, List.not_mem_nil, or_false]; omega)
  by_cases h1 : μ < 56
  · exact gh_Hg1 μ (by simp only [List.mem_cons, List.not_mem_nil, or_false]; omega)
  by_cases h2 : μ < 84
  · exact gh_Hg2 μ (by simp only [List.mem_cons, List.not_mem_nil, or_false]; omega)
  by_cases h3 : μ < 112
  · exact gh_Hg3 μ (by simp only [List.mem_cons, List.not_mem_nil, or_false]; omega)
  by_cases h4 : μ < 140
  · exact gh_Hg4 μ (by simp only [List.mem_cons, List.not_mem_nil, or_false]; omega)
  by_cases h5 : μ < 168
  · exact gh_Hg5 μ (by simp only [List.mem_cons, List.not_mem_nil, or_false]; omega)
  by_cases h6 : μ < 196
  · exact gh_Hg6 μ (by simp only [List.mem_cons, List.not_mem_nil, or_false]; omega)
  exact absurd h (by omega)
