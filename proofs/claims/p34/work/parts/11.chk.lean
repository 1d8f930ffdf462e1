/-! WHAT IS CHECKED OF EACH METHOD'S CODE, and the contracts -/
def gh_stB (nL : Nat) (K : List (Nat × Instr × Nat)) : Bool := K.all fun e => match e.2.1 with
  | .istore j => decide (j < nL)
  | .istore_n j => decide (j.val < nL)
  | .astore j => decide (j < nL)
  | .astore_n j => decide (j.val < nL)
  | .iinc j _ => decide (j < nL)
  | .lstore j => decide (j + 1 < nL)
  | .lstore_n j => decide (j.val + 1 < nL)
  | _ => true
/-- the calls: to plain methods, of the right kind -/
def gh_knB (own top : Nat) (K : List (Nat × Instr × Nat)) : Bool := K.all fun e => match e.2.1 with
  | .invokevirtual idx => match gh_mR own idx with
    | some (μ, _) => decide (μ < 128) && decide ((gh_mo.getD μ (0, 9)).2 = 0)
    | none => true
  | .invokestatic idx => match gh_mR own idx with
    | some (μ, _) => decide (μ < top) && decide ((gh_mo.getD μ (0, 9)).2 = 1)
    | none => true
  | .invokespecial idx => match gh_mR own idx with
    | some (μ, _) => decide (μ < 128) && decide ((gh_mo.getD μ (0, 9)).2 = 2)
    | none => true
  | _ => true
def gh_knP (own top : Nat) (i : Instr) : Prop := match i with
  | .invokevirtual idx => ∀ μ n, gh_mR own idx = some (μ, n) → μ < 128 ∧ (gh_mo.getD μ (0, 9)).2 = 0
  | .invokestatic idx => ∀ μ n, gh_mR own idx = some (μ, n) → μ < top ∧ (gh_mo.getD μ (0, 9)).2 = 1
  | .invokespecial idx => ∀ μ n, gh_mR own idx = some (μ, n) → μ < 128 ∧ (gh_mo.getD μ (0, 9)).2 = 2
  | _ => True
def gh_chkB (own top : Nat) (nm : String) (nL : Nat) (K : List (Nat × Instr × Nat)) : Bool := gh_lenB K && gh_putB own nm K && gh_stB nL K && gh_knB own top K
theorem gh_chk {own top : Nat} {nm : String} {nL : Nat} {K : List (Nat × Instr × Nat)} (h : gh_chkB own top nm nL K = true) {e : Nat × Instr × Nat} (he : e ∈ K) : gh_lenP e.2.1 e.2.2 ∧ gh_putP own nm e.2.1 ∧ (∀ k, gh_stP e.2.1 k → k < nL) ∧ gh_knP own top e.2.1 := by
  unfold gh_chkB at h
  simp only [Bool.and_eq_true] at h
  obtain ⟨⟨⟨h1, h2⟩, h3⟩, h4⟩ := h
  have h1 := List.all_eq_true.mp h1 e he
  have h2 := List.all_eq_true.mp h2 e he
  have h3 := List.all_eq_true.mp h3 e he
  have h4 := List.all_eq_true.mp h4 e he
  obtain ⟨pc, i, len⟩ := e
  dsimp only at h1 h2 h3 h4 ⊢
  refine ⟨?_, ?_, ?_, ?_⟩
  · cases i <;> first | exact trivial | exact (show len = gh_ilen _ from of_decide_eq_true h1)
  · cases i with
    | putfield idx =>
      intro ci k hf hfin
      dsimp only at h2
      rw [hf] at h2
      simpa [hfin] using h2
    | _ => exact trivial
  · intro k hk
    cases i with
    | istore j => cases hk; exact of_decide_eq_true h3
    | istore_n j => cases hk; exact of_decide_eq_true h3
    | astore j => cases hk; exact of_decide_eq_true h3
    | astore_n j => cases hk; exact of_decide_eq_true h3
    | iinc j n => cases hk; exact of_decide_eq_true h3
    | lstore j =>
      have h3 := of_decide_eq_true h3
      have hk : k = j ∨ k = j + 1 := hk
      omega
    | lstore_n j =>
      have h3 := of_decide_eq_true h3
      have hk : k = j.val ∨ k = j.val + 1 := hk
      omega
    | _ => exact absurd hk id
  · cases i with
    | invokevirtual idx => intro μ n hm; dsimp only at h4; rw [hm] at h4; simpa using h4
    | invokestatic idx => intro μ n hm; dsimp only at h4; rw [hm] at h4; simpa using h4
    | invokespecial idx => intro μ n hm; dsimp only at h4; rw [hm] at h4; simpa using h4
    | _ => exact trivial
def gh_moB (μ : Nat) : Bool := match gh_yt[μ]?, gh_mo[μ]? with
  | some q, some (o, k) => decide (k = q.2.2.2.2) && decide (gh_ml.getD μ 0 = q.2.2.1) && (decide (k ≠ 0) || (match vwCl[o]? with | some C => decide (C.1 = q.1.cls) | none => false))
  | _, _ => false
theorem gh_moA : (List.range 128).all gh_moB = true := by decide +kernel
theorem gh_moK {μ : Nat} (h : μ < 128) {q : MethodName × ByteArray × Nat × Option FieldType × Nat} (hq : gh_yt[μ]? = some q) : ∃ o, gh_mo[μ]? = some (o, q.2.2.2.2) ∧ gh_ml.getD μ 0 = q.2.2.1 ∧ (q.2.2.2.2 = 0 → ∃ T N, vwCl[o]? = some (q.1.cls, T, N)) := by
  have h1 := List.all_eq_true.mp gh_moA μ (List.mem_range.mpr h)
  unfold gh_moB at h1
  rw [hq] at h1
  cases hm : gh_mo[μ]? with
  | none => rw [hm] at h1; cases h1
  | some m =>
    obtain ⟨o, k⟩ := m
    rw [hm] at h1
    simp only [Bool.and_eq_true, Bool.or_eq_true, decide_eq_true_eq] at h1
    obtain ⟨⟨rfl, h3⟩, h2⟩ := h1
    refine ⟨o, rfl, h3, fun h0 => ?_⟩
    rcases h2 with h2 | h2
    · exact absurd h0 h2
    · split at h2
      · next C hC =>
        obtain ⟨C, T, N⟩ := C
        have h2 : C = q.1.cls := by simpa using h2
        subst h2
        exact ⟨T, N, hC⟩
      · cases h2
set_option maxRecDepth 100000 in
theorem gh_m9 : ∀ e ∈ gh_mrt.getD 9 [], e.2.1 < 128 → gh_mOK 9 e := by
  show ∀ e ∈ ([(138, 78, 1), (108, 80, 1), (142, 127, 2), (139, 128, 3), (8, 79, 2), (14, 81, 2), (17, 82, 2), (20, 95, 2), (150, 129, 4), (29, 86, 3), (33, 87, 3), (37, 93, 3), (146, 130, 5), (40, 85, 4), (44, 92, 4), (47, 103, 4), (154, 131, 5), (50, 104, 5), (156, 136, 4), (112, 83, 1), (115, 89, 1), (118, 108, 1), (121, 135, 2), (103, 109, 2), (127, 134, 3), (100, 90, 3), (131, 133, 3), (66, 84, 2), (70, 91, 2), (73, 94, 2), (76, 96, 2), (79, 100, 2), (82, 101, 2), (85, 102, 2), (88, 107, 2), (91, 88, 2), (94, 105, 2), (97, 106, 2), (134, 132, 4), (54, 97, 3), (58, 98, 3), (61, 99, 3)] : List (Nat × Nat × Nat)), e.2.1 < 128 → gh_mOK 9 e
  exact List.forall_mem_cons.mpr ⟨fun _ => gh_mk gh_y78 rfl (by decide +kernel) (Or.inl (gh_w 22 rfl rfl)), List.forall_mem_cons.mpr ⟨fun _ => gh_mk gh_y80 rfl (by decide +kernel) (Or.inl (gh_w 294 rfl rfl)), List.forall_mem_cons.mpr ⟨fun _ => gh_mk gh_y127 rfl (by decide +kernel) (Or.inl (gh_w 298 rfl rfl)), List.forall_mem_cons.mpr ⟨fun h => absurd h (by decide), List.forall_mem_cons.mpr ⟨fun _ => gh_mk gh_y79 rfl (by decide +kernel) (Or.inl (gh_w 308 rfl rfl)), List.forall_mem_cons.mpr ⟨fun _ => gh_mk gh_y81 rfl (by decide +kernel) (Or.inl (gh_w 397 rfl rfl)), List.forall_mem_cons.mpr ⟨fun _ => gh_mk gh_y82 rfl (by decide +kernel) (Or.inl (gh_w 411 rfl rfl)), List.forall_mem_cons.mpr ⟨fun _ => gh_mk gh_y95 rfl (by decide +kernel) (Or.inl (gh_w 459 rfl rfl)), List.forall_mem_cons.mpr ⟨fun h => absurd h (by decide), List.forall_mem_cons.mpr ⟨fun _ => gh_mk gh_y86 rfl (by decide +kernel) (Or.inl (gh_w 623 rfl rfl)), List.forall_mem_cons.mpr ⟨fun _ => gh_mk gh_y87 rfl (by decide +kernel) (Or.inl (gh_w 704 rfl rfl)), List.forall_mem_cons.mpr ⟨fun _ => gh_mk gh_y93 rfl (by decide +kernel) (Or.inl (gh_w 723 rfl rfl)), List.forall_mem_cons.mpr ⟨fun h => absurd h (by decide), List.forall_mem_cons.mpr ⟨fun _ => gh_mk gh_y85 rfl (by decide +kernel) (Or.inl (gh_w 736 rfl rfl)), List.forall_mem_cons.mpr ⟨fun _ => gh_mk gh_y92 rfl (by decide +kernel) (Or.inl (gh_w 750 rfl rfl)), List.forall_mem_cons.mpr ⟨fun _ => gh_mk gh_y103 rfl (by decide +kernel) (Or.inl (gh_w 764 rfl rfl)), List.forall_mem_cons.mpr ⟨fun h => absurd h (by decide), List.forall_mem_cons.mpr ⟨fun _ => gh_mk gh_y104 rfl (by decide +kernel) (Or.inl (gh_w 785 rfl rfl)), List.forall_mem_cons.mpr ⟨fun h => absurd h (by decide), List.forall_mem_cons.mpr ⟨fun _ => gh_mk gh_y83 rfl (by decide +kernel) (Or.inl (gh_w 802 rfl rfl)), List.forall_mem_cons.mpr ⟨fun _ => gh_mk gh_y89 rfl (by decide +kernel) (Or.inl (gh_w 806 rfl rfl)), List.forall_mem_cons.mpr ⟨fun _ => gh_mk gh_y108 rfl (by decide +kernel) (Or.inl (gh_w 810 rfl rfl)), List.forall_mem_cons.mpr ⟨fun h => absurd h (by decide), List.forall_mem_cons.mpr ⟨fun _ => gh_mk gh_y109 rfl (by decide +kernel) (Or.inl (gh_w 827 rfl rfl)), List.forall_mem_cons.mpr ⟨fun h => absurd h (by decide), List.forall_mem_cons.mpr ⟨fun _ => gh_mk gh_y90 rfl (by decide +kernel) (Or.inl (gh_w 859 rfl rfl)), List.forall_mem_cons.mpr ⟨fun h => absurd h (by decide), List.forall_mem_cons.mpr ⟨fun _ => gh_mk gh_y84 rfl (by decide +kernel) (Or.inl (gh_w 869 rfl rfl)), List.forall_mem_cons.mpr ⟨fun _ => gh_mk gh_y91 rfl (by decide +kernel) (Or.inl (gh_w 873 rfl rfl)), List.forall_mem_cons.mpr ⟨fun _ => gh_mk gh_y94 rfl (by decide +kernel) (Or.inl (gh_w 878 rfl rfl)), List.forall_mem_cons.mpr ⟨fun _ => gh_mk gh_y96 rfl (by decide +kernel) (Or.inl (gh_w 882 rfl rfl)), List.forall_mem_cons.mpr ⟨fun _ => gh_mk gh_y100 rfl (by decide +kernel) (Or.inl (gh_w 886 rfl rfl)), List.forall_mem_cons.mpr ⟨fun _ => gh_mk gh_y101 rfl (by decide +kernel) (Or.inl (gh_w 894 rfl rfl)), List.forall_mem_cons.mpr ⟨fun _ => gh_mk gh_y102 rfl (by decide +kernel) (Or.inl (gh_w 907 rfl rfl)), List.forall_mem_cons.mpr ⟨fun _ => gh_mk gh_y107 rfl (by decide +kernel) (Or.inl (gh_w 911 rfl rfl)), List.forall_mem_cons.mpr ⟨fun _ => gh_mk gh_y88 rfl (by decide +kernel) (Or.inl (gh_w 915 rfl rfl)), List.forall_mem_cons.mpr ⟨fun _ => gh_mk gh_y105 rfl (by decide +kernel) (Or.inl (gh_w 919 rfl rfl)), List.forall_mem_cons.mpr ⟨fun _ => gh_mk gh_y106 rfl (by decide +kernel) (Or.inl (gh_w 923 rfl rfl)), List.forall_mem_cons.mpr ⟨fun h => absurd h (by decide), List.forall_mem_cons.mpr ⟨fun _ => gh_mk gh_y97 rfl (by decide +kernel) (Or.inl (gh_w 946 rfl rfl)), List.forall_mem_cons.mpr ⟨fun _ => gh_mk gh_y98 rfl (by decide +kernel) (Or.inl (gh_w 951 rfl rfl)), List.forall_mem_cons.mpr ⟨fun _ => gh_mk gh_y99 rfl (by decide +kernel) (Or.inl (gh_w 956 rfl rfl)), (fun _ h => absurd h List.not_mem_nil)⟩⟩⟩⟩⟩⟩⟩⟩⟩⟩⟩⟩⟩⟩⟩⟩⟩⟩⟩⟩⟩⟩⟩⟩⟩⟩⟩⟩⟩⟩⟩⟩⟩⟩⟩⟩⟩⟩⟩⟩⟩⟩
theorem gh_mAll (own : Nat) (e : Nat × Nat × Nat) (h : e ∈ gh_mrt.getD own []) (hlt : e.2.1 < 128) : gh_mOK own e := by
  match own, h with
  | 0, h => exact gh_m0 e h
  | 1, h => exact gh_m1 e h
  | 2, h => exact gh_m2 e h
  | 3, h => exact gh_m3 e h
  | 4, h => exact gh_m4 e h
  | 5, h => exact gh_m5 e h
  | 6, h => exact gh_m6 e h
  | 7, h => exact gh_m7 e h
  | 8, h => exact gh_m8 e h
  | 9, h => exact gh_m9 e h hlt
  | 10, h => exact gh_m10 e h
  | 11, h => exact gh_m11 e h
  | 12, h => exact gh_m12 e h
  | k + 13, h => exact absurd h (by simp [gh_mrt])
set_option maxRecDepth 100000 in
theorem gh_h0 : gh_chkB 0 128 "<init>" 1 gk_0 = true := by decide +kernel
set_option maxRecDepth 100000 in
theorem gh_h1 : gh_chkB 0 128 "shareFromHeads" 7 gk_1 = true := by decide +kernel
set_option maxRecDepth 100000 in
theorem gh_h2 : gh_chkB 0 128 "passOn" 7 gk_2 = true := by decide +kernel
set_option maxRecDepth 100000 in
theorem gh_h3 : gh_chkB 0 128 "shareFromPersons" 6 gk_3 = true := by decide +kernel
set_option maxRecDepth 100000 in
theorem gh_h4 : gh_chkB 0 128 "findComing" 4 gk_4 = true := by decide +kernel
set_option maxRecDepth 100000 in
theorem gh_h5 : gh_chkB 0 128 "addPartOf" 6 gk_5 = true := by decide +kernel
set_option maxRecDepth 100000 in
theorem gh_h6 : gh_chkB 0 128 "addAsHead" 2 gk_6 = true := by decide +kernel
set_option maxRecDepth 100000 in
theorem gh_h7 : gh_chkB 0 128 "lookAt" 4 gk_7 = true := by decide +kernel
set_option maxRecDepth 100000 in
theorem gh_h8 : gh_chkB 0 128 "findLivingLines" 9 gk_8 = true := by decide +kernel
set_option maxRecDepth 100000 in
theorem gh_h9 : gh_chkB 0 128 "findHeads" 5 gk_9 = true := by decide +kernel
set_option maxRecDepth 100000 in
theorem gh_h10 : gh_chkB 0 128 "joinWithWill" 8 gk_10 = true := by decide +kernel
set_option maxRecDepth 100000 in
theorem gh_h11 : gh_chkB 0 128 "weightFor" 3 gk_11 = true := by decide +kernel
set_option maxRecDepth 100000 in
theorem gh_h12 : gh_chkB 1 128 "<init>" 2 gk_12 = true := by decide +kernel
set_option maxRecDepth 100000 in
theorem gh_h13 : gh_chkB 1 128 "weightOf" 2 gk_13 = true := by decide +kernel
set_option maxRecDepth 100000 in
theorem gh_h14 : gh_chkB 1 128 "setWeight" 4 gk_14 = true := by decide +kernel
set_option maxRecDepth 100000 in
theorem gh_h15 : gh_chkB 1 128 "hasClaimOf" 2 gk_15 = true := by decide +kernel
set_option maxRecDepth 100000 in
theorem gh_h16 : gh_chkB 1 128 "addClaim" 2 gk_16 = true := by decide +kernel
set_option maxRecDepth 100000 in
theorem gh_h17 : gh_chkB 1 128 "dropClaim" 4 gk_17 = true := by decide +kernel
set_option maxRecDepth 100000 in
theorem gh_h18 : gh_chkB 1 128 "placeOf" 3 gk_18 = true := by decide +kernel
set_option maxRecDepth 100000 in
theorem gh_h19 : gh_chkB 1 128 "rankHeirs" 5 gk_19 = true := by decide +kernel
set_option maxRecDepth 100000 in
theorem gh_h20 : gh_chkB 1 128 "rankNext" 4 gk_20 = true := by decide +kernel
set_option maxRecDepth 100000 in
theorem gh_h21 : gh_chkB 2 128 "<init>" 1 gk_21 = true := by decide +kernel
set_option maxRecDepth 100000 in
theorem gh_h22 : gh_chkB 2 128 "enter" 4 gk_22 = true := by decide +kernel
set_option maxRecDepth 100000 in
theorem gh_h23 : gh_chkB 2 128 "bury" 3 gk_23 = true := by decide +kernel
set_option maxRecDepth 100000 in
theorem gh_h24 : gh_chkB 2 128 "isDead" 2 gk_24 = true := by decide +kernel
set_option maxRecDepth 100000 in
theorem gh_h25 : gh_chkB 2 128 "bornOn" 2 gk_25 = true := by decide +kernel
set_option maxRecDepth 100000 in
theorem gh_h26 : gh_chkB 2 128 "diedOn" 2 gk_26 = true := by decide +kernel
set_option maxRecDepth 100000 in
theorem gh_h27 : gh_chkB 2 128 "isOlder" 3 gk_27 = true := by decide +kernel
set_option maxRecDepth 100000 in
theorem gh_h28 : gh_chkB 2 128 "byAge" 2 gk_28 = true := by decide +kernel
set_option maxRecDepth 100000 in
theorem gh_h29 : gh_chkB 3 128 "<init>" 1 gk_29 = true := by decide +kernel
set_option maxRecDepth 100000 in
theorem gh_h30 : gh_chkB 3 128 "firstParent" 2 gk_30 = true := by decide +kernel
set_option maxRecDepth 100000 in
theorem gh_h31 : gh_chkB 3 128 "secondParent" 2 gk_31 = true := by decide +kernel
set_option maxRecDepth 100000 in
theorem gh_h32 : gh_chkB 3 128 "childSet" 2 gk_32 = true := by decide +kernel
set_option maxRecDepth 100000 in
theorem gh_h33 : gh_chkB 3 128 "parentSet" 2 gk_33 = true := by decide +kernel
set_option maxRecDepth 100000 in
theorem gh_h34 : gh_chkB 3 128 "setOf" 1 gk_34 = true := by decide +kernel
set_option maxRecDepth 100000 in
theorem gh_h35 : gh_chkB 3 128 "tell" 4 gk_35 = true := by decide +kernel
set_option maxRecDepth 100000 in
theorem gh_h36 : gh_chkB 3 128 "weigh" 6 gk_36 = true := by decide +kernel
set_option maxRecDepth 100000 in
theorem gh_h37 : gh_chkB 3 128 "strongestBut" 5 gk_37 = true := by decide +kernel
set_option maxRecDepth 100000 in
theorem gh_h38 : gh_chkB 3 128 "addChild" 3 gk_38 = true := by decide +kernel
set_option maxRecDepth 100000 in
theorem gh_h39 : gh_chkB 4 128 "<init>" 1 gk_39 = true := by decide +kernel
set_option maxRecDepth 100000 in
theorem gh_h40 : gh_chkB 4 128 "keptOwner" 2 gk_40 = true := by decide +kernel
set_option maxRecDepth 100000 in
theorem gh_h41 : gh_chkB 4 128 "isGrantedWithin" 4 gk_41 = true := by decide +kernel
set_option maxRecDepth 100000 in
theorem gh_h42 : gh_chkB 4 128 "countUnits" 4 gk_42 = true := by decide +kernel
set_option maxRecDepth 100000 in
theorem gh_h43 : gh_chkB 4 128 "parcelStart" 3 gk_43 = true := by decide +kernel
set_option maxRecDepth 100000 in
theorem gh_h44 : gh_chkB 4 128 "parcelEnd" 3 gk_44 = true := by decide +kernel
set_option maxRecDepth 100000 in
theorem gh_h45 : gh_chkB 4 128 "enterGrant" 5 gk_45 = true := by decide +kernel
set_option maxRecDepth 100000 in
theorem gh_h46 : gh_chkB 4 128 "enterHanding" 5 gk_46 = true := by decide +kernel
set_option maxRecDepth 100000 in
theorem gh_h47 : gh_chkB 4 128 "enterClosing" 3 gk_47 = true := by decide +kernel
set_option maxRecDepth 100000 in
theorem gh_h48 : gh_chkB 4 128 "enter" 5 gk_48 = true := by decide +kernel
set_option maxRecDepth 100000 in
theorem gh_h49 : gh_chkB 4 128 "redrawFrom" 5 gk_49 = true := by decide +kernel
set_option maxRecDepth 100000 in
theorem gh_h50 : gh_chkB 4 128 "foundOwner" 5 gk_50 = true := by decide +kernel
set_option maxRecDepth 100000 in
theorem gh_h51 : gh_chkB 4 128 "handOver" 4 gk_51 = true := by decide +kernel
set_option maxRecDepth 100000 in
theorem gh_h52 : gh_chkB 4 128 "drawKept" 2 gk_52 = true := by decide +kernel
set_option maxRecDepth 100000 in
theorem gh_h53 : gh_chkB 4 128 "draw" 7 gk_53 = true := by decide +kernel
set_option maxRecDepth 100000 in
theorem gh_h54 : gh_chkB 4 128 "takeFrom" 3 gk_54 = true := by decide +kernel
set_option maxRecDepth 100000 in
theorem gh_h55 : gh_chkB 4 128 "portionOut" 6 gk_55 = true := by decide +kernel
set_option maxRecDepth 100000 in
theorem gh_h56 : gh_chkB 4 128 "isPlace" 2 gk_56 = true := by decide +kernel
set_option maxRecDepth 100000 in
theorem gh_h57 : gh_chkB 4 128 "countIn" 6 gk_57 = true := by decide +kernel
set_option maxRecDepth 100000 in
theorem gh_h58 : gh_chkB 5 128 "<init>" 1 gk_58 = true := by decide +kernel
set_option maxRecDepth 100000 in
theorem gh_h59 : gh_chkB 5 128 "file" 4 gk_59 = true := by decide +kernel
set_option maxRecDepth 100000 in
theorem gh_h60 : gh_chkB 5 128 "fileDoubt" 3 gk_60 = true := by decide +kernel
set_option maxRecDepth 100000 in
theorem gh_h61 : gh_chkB 5 128 "settle" 5 gk_61 = true := by decide +kernel
set_option maxRecDepth 100000 in
theorem gh_h62 : gh_chkB 5 128 "lift" 3 gk_62 = true := by decide +kernel
set_option maxRecDepth 100000 in
theorem gh_h63 : gh_chkB 5 128 "isProof" 2 gk_63 = true := by decide +kernel
set_option maxRecDepth 100000 in
theorem gh_h64 : gh_chkB 5 128 "isOpen" 2 gk_64 = true := by decide +kernel
set_option maxRecDepth 100000 in
theorem gh_h65 : gh_chkB 5 128 "hasFallen" 2 gk_65 = true := by decide +kernel
set_option maxRecDepth 100000 in
theorem gh_h66 : gh_chkB 5 128 "countOpen" 4 gk_66 = true := by decide +kernel
set_option maxRecDepth 100000 in
theorem gh_h67 : gh_chkB 5 128 "strengthOf" 2 gk_67 = true := by decide +kernel
set_option maxRecDepth 100000 in
theorem gh_h68 : gh_chkB 6 128 "<init>" 1 gk_68 = true := by decide +kernel
set_option maxRecDepth 100000 in
theorem gh_h69 : gh_chkB 6 128 "clear" 1 gk_69 = true := by decide +kernel
set_option maxRecDepth 100000 in
theorem gh_h70 : gh_chkB 6 128 "copy" 2 gk_70 = true := by decide +kernel
set_option maxRecDepth 100000 in
theorem gh_h71 : gh_chkB 6 128 "aboveOf" 2 gk_71 = true := by decide +kernel
set_option maxRecDepth 100000 in
theorem gh_h72 : gh_chkB 6 128 "belowOf" 2 gk_72 = true := by decide +kernel
set_option maxRecDepth 100000 in
theorem gh_h73 : gh_chkB 6 128 "add" 12 gk_73 = true := by decide +kernel
set_option maxRecDepth 100000 in
theorem gh_h74 : gh_chkB 6 128 "unitsFor" 5 gk_74 = true := by decide +kernel
set_option maxRecDepth 100000 in
theorem gh_h75 : gh_chkB 6 128 "countHeirs" 3 gk_75 = true := by decide +kernel
set_option maxRecDepth 100000 in
theorem gh_h76 : gh_chkB 6 128 "isSame" 3 gk_76 = true := by decide +kernel
set_option maxRecDepth 100000 in
theorem gh_h77 : gh_chkB 6 128 "commonDivisor" 7 gk_77 = true := by decide +kernel
set_option maxRecDepth 100000 in
theorem gh_h78 : gh_chkB 7 128 "<init>" 2 gk_78 = true := by decide +kernel
set_option maxRecDepth 100000 in
theorem gh_h79 : gh_chkB 7 128 "pass" 2 gk_79 = true := by decide +kernel
set_option maxRecDepth 100000 in
theorem gh_h80 : gh_chkB 7 128 "today" 1 gk_80 = true := by decide +kernel
set_option maxRecDepth 100000 in
theorem gh_h81 : gh_chkB 7 128 "birth" 2 gk_81 = true := by decide +kernel
set_option maxRecDepth 100000 in
theorem gh_h82 : gh_chkB 7 128 "death" 4 gk_82 = true := by decide +kernel
set_option maxRecDepth 100000 in
theorem gh_h83 : gh_chkB 7 128 "people" 1 gk_83 = true := by decide +kernel
set_option maxRecDepth 100000 in
theorem gh_h84 : gh_chkB 7 128 "isAlive" 2 gk_84 = true := by decide +kernel
set_option maxRecDepth 100000 in
theorem gh_h85 : gh_chkB 7 128 "proof" 5 gk_85 = true := by decide +kernel
set_option maxRecDepth 100000 in
theorem gh_h86 : gh_chkB 7 128 "doubt" 4 gk_86 = true := by decide +kernel
set_option maxRecDepth 100000 in
theorem gh_h87 : gh_chkB 7 128 "judge" 3 gk_87 = true := by decide +kernel
set_option maxRecDepth 100000 in
theorem gh_h88 : gh_chkB 7 128 "strength" 2 gk_88 = true := by decide +kernel
set_option maxRecDepth 100000 in
theorem gh_h89 : gh_chkB 7 128 "openDoubts" 3 gk_89 = true := by decide +kernel
set_option maxRecDepth 100000 in
theorem gh_h90 : gh_chkB 7 128 "parentOf" 3 gk_90 = true := by decide +kernel
set_option maxRecDepth 100000 in
theorem gh_h91 : gh_chkB 7 128 "childrenOf" 2 gk_91 = true := by decide +kernel
set_option maxRecDepth 100000 in
theorem gh_h92 : gh_chkB 7 128 "will" 4 gk_92 = true := by decide +kernel
set_option maxRecDepth 100000 in
theorem gh_h93 : gh_chkB 7 128 "claim" 4 gk_93 = true := by decide +kernel
set_option maxRecDepth 100000 in
theorem gh_h94 : gh_chkB 7 128 "claims" 2 gk_94 = true := by decide +kernel
set_option maxRecDepth 100000 in
theorem gh_h95 : gh_chkB 7 128 "close" 3 gk_95 = true := by decide +kernel
set_option maxRecDepth 100000 in
theorem gh_h96 : gh_chkB 7 128 "isClosed" 2 gk_96 = true := by decide +kernel
set_option maxRecDepth 100000 in
theorem gh_h97 : gh_chkB 7 128 "shareAbove" 3 gk_97 = true := by decide +kernel
set_option maxRecDepth 100000 in
theorem gh_h98 : gh_chkB 7 128 "shareBelow" 3 gk_98 = true := by decide +kernel
set_option maxRecDepth 100000 in
theorem gh_h99 : gh_chkB 7 128 "shareAboveByWays" 3 gk_99 = true := by decide +kernel
set_option maxRecDepth 100000 in
theorem gh_h100 : gh_chkB 7 128 "heirs" 2 gk_100 = true := by decide +kernel
set_option maxRecDepth 100000 in
theorem gh_h101 : gh_chkB 7 128 "disputes" 6 gk_101 = true := by decide +kernel
set_option maxRecDepth 100000 in
theorem gh_h102 : gh_chkB 7 128 "reopenings" 2 gk_102 = true := by decide +kernel
set_option maxRecDepth 100000 in
theorem gh_h103 : gh_chkB 7 128 "grant" 4 gk_103 = true := by decide +kernel
set_option maxRecDepth 100000 in
theorem gh_h104 : gh_chkB 7 128 "hand" 6 gk_104 = true := by decide +kernel
set_option maxRecDepth 100000 in
theorem gh_h105 : gh_chkB 7 128 "owner" 2 gk_105 = true := by decide +kernel
set_option maxRecDepth 100000 in
theorem gh_h106 : gh_chkB 7 128 "ownerAnew" 3 gk_106 = true := by decide +kernel
set_option maxRecDepth 100000 in
theorem gh_h107 : gh_chkB 7 128 "area" 2 gk_107 = true := by decide +kernel
set_option maxRecDepth 100000 in
theorem gh_h108 : gh_chkB 7 128 "parcels" 3 gk_108 = true := by decide +kernel
set_option maxRecDepth 100000 in
theorem gh_h109 : gh_chkB 7 128 "parcelAt" 3 gk_109 = true := by decide +kernel
set_option maxRecDepth 100000 in
theorem gh_h110 : gh_chkB 7 128 "requirePerson" 2 gk_110 = true := by decide +kernel
set_option maxRecDepth 100000 in
theorem gh_h111 : gh_chkB 7 128 "requireProof" 2 gk_111 = true := by decide +kernel
set_option maxRecDepth 100000 in
theorem gh_h112 : gh_chkB 7 128 "requireUnit" 2 gk_112 = true := by decide +kernel
set_option maxRecDepth 100000 in
theorem gh_h113 : gh_chkB 7 128 "requireWeight" 3 gk_113 = true := by decide +kernel
set_option maxRecDepth 100000 in
theorem gh_h114 : gh_chkB 7 128 "requireOthers" 3 gk_114 = true := by decide +kernel
set_option maxRecDepth 100000 in
theorem gh_h115 : gh_chkB 7 128 "requireUnits" 3 gk_115 = true := by decide +kernel
set_option maxRecDepth 100000 in
theorem gh_h116 : gh_chkB 7 128 "requireAlive" 2 gk_116 = true := by decide +kernel
set_option maxRecDepth 100000 in
theorem gh_h117 : gh_chkB 7 128 "requireDead" 2 gk_117 = true := by decide +kernel
set_option maxRecDepth 100000 in
theorem gh_h118 : gh_chkB 7 128 "requireUnclosed" 2 gk_118 = true := by decide +kernel
set_option maxRecDepth 100000 in
theorem gh_h119 : gh_chkB 7 128 "sharesNow" 3 gk_119 = true := by decide +kernel
set_option maxRecDepth 100000 in
theorem gh_h120 : gh_chkB 7 128 "wouldBeOthers" 4 gk_120 = true := by decide +kernel
set_option maxRecDepth 100000 in
theorem gh_h121 : gh_chkB 7 128 "retellKin" 4 gk_121 = true := by decide +kernel
set_option maxRecDepth 100000 in
theorem gh_h122 : gh_chkB 7 128 "reopen" 2 gk_122 = true := by decide +kernel
set_option maxRecDepth 100000 in
theorem gh_h123 : gh_chkB 7 128 "isIn" 2 gk_123 = true := by decide +kernel
set_option maxRecDepth 100000 in
theorem gh_h124 : gh_chkB 10 128 "bitCount" 1 gk_124 = true := by decide +kernel
set_option maxRecDepth 100000 in
theorem gh_h125 : gh_chkB 12 128 "fill" 4 gk_125 = true := by decide +kernel
set_option maxRecDepth 100000 in
theorem gh_h126 : gh_chkB 12 128 "fill" 5 gk_126 = true := by decide +kernel
set_option maxRecDepth 100000 in
theorem gh_h127 : gh_chkB 9 128 "drawn" 3 gk_127 = true := by decide +kernel
def gh_HOK (μ : Nat) : Prop := ∃ q m, gh_yt[μ]? = some q ∧ gh_mt[μ]? = some m ∧ gh_chkB m.1 128 q.1.name q.2.2.1 m.2.2.2 = true
theorem gh_H0 : gh_HOK 0 := ⟨_, _, rfl, rfl, gh_h0⟩
theorem gh_H1 : gh_HOK 1 := ⟨_, _, rfl, rfl, gh_h1⟩
theorem gh_H2 : gh_HOK 2 := ⟨_, _, rfl, rfl, gh_h2⟩
theorem gh_H3 : gh_HOK 3 := ⟨_, _, rfl, rfl, gh_h3⟩
theorem gh_H4 : gh_HOK 4 := ⟨_, _, rfl, rfl, gh_h4⟩
theorem gh_H5 : gh_HOK 5 := ⟨_, _, rfl, rfl, gh_h5⟩
theorem gh_H6 : gh_HOK 6 := ⟨_, _, rfl, rfl, gh_h6⟩
theorem gh_H7 : gh_HOK 7 := ⟨_, _, rfl, rfl, gh_h7⟩
theorem gh_H8 : gh_HOK 8 := ⟨_, _, rfl, rfl, gh_h8⟩
theorem gh_H9 : gh_HOK 9 := ⟨_, _, rfl, rfl, gh_h9⟩
theorem gh_H10 : gh_HOK 10 := ⟨_, _, rfl, rfl, gh_h10⟩
theorem gh_H11 : gh_HOK 11 := ⟨_, _, rfl, rfl, gh_h11⟩
theorem gh_H12 : gh_HOK 12 := ⟨_, _, rfl, rfl, gh_h12⟩
theorem gh_H13 : gh_HOK 13 := ⟨_, _, rfl, rfl, gh_h13⟩
theorem gh_H14 : gh_HOK 14 := ⟨_, _, rfl, rfl, gh_h14⟩
theorem gh_H15 : gh_HOK 15 := ⟨_, _, rfl, rfl, gh_h15⟩
theorem gh_H16 : gh_HOK 16 := ⟨_, _, rfl, rfl, gh_h16⟩
theorem gh_H17 : gh_HOK 17 := ⟨_, _, rfl, rfl, gh_h17⟩
theorem gh_H18 : gh_HOK 18 := ⟨_, _, rfl, rfl, gh_h18⟩
theorem gh_H19 : gh_HOK 19 := ⟨_, _, rfl, rfl, gh_h19⟩
theorem gh_H20 : gh_HOK 20 := ⟨_, _, rfl, rfl, gh_h20⟩
theorem gh_H21 : gh_HOK 21 := ⟨_, _, rfl, rfl, gh_h21⟩
theorem gh_H22 : gh_HOK 22 := ⟨_, _, rfl, rfl, gh_h22⟩
theorem gh_H23 : gh_HOK 23 := ⟨_, _, rfl, rfl, gh_h23⟩
theorem gh_H24 : gh_HOK 24 := ⟨_, _, rfl, rfl, gh_h24⟩
theorem gh_H25 : gh_HOK 25 := ⟨_, _, rfl, rfl, gh_h25⟩
theorem gh_H26 : gh_HOK 26 := ⟨_, _, rfl, rfl, gh_h26⟩
theorem gh_H27 : gh_HOK 27 := ⟨_, _, rfl, rfl, gh_h27⟩
theorem gh_H28 : gh_HOK 28 := ⟨_, _, rfl, rfl, gh_h28⟩
theorem gh_H29 : gh_HOK 29 := ⟨_, _, rfl, rfl, gh_h29⟩
theorem gh_H30 : gh_HOK 30 := ⟨_, _, rfl, rfl, gh_h30⟩
theorem gh_H31 : gh_HOK 31 := ⟨_, _, rfl, rfl, gh_h31⟩
theorem gh_H32 : gh_HOK 32 := ⟨_, _, rfl, rfl, gh_h32⟩
theorem gh_H33 : gh_HOK 33 := ⟨_, _, rfl, rfl, gh_h33⟩
theorem gh_H34 : gh_HOK 34 := ⟨_, _, rfl, rfl, gh_h34⟩
theorem gh_H35 : gh_HOK 35 := ⟨_, _, rfl, rfl, gh_h35⟩
theorem gh_H36 : gh_HOK 36 := ⟨_, _, rfl, rfl, gh_h36⟩
theorem gh_H37 : gh_HOK 37 := ⟨_, _, rfl, rfl, gh_h37⟩
theorem gh_H38 : gh_HOK 38 := ⟨_, _, rfl, rfl, gh_h38⟩
theorem gh_H39 : gh_HOK 39 := ⟨_, _, rfl, rfl, gh_h39⟩
theorem gh_H40 : gh_HOK 40 := ⟨_, _, rfl, rfl, gh_h40⟩
theorem gh_H41 : gh_HOK 41 := ⟨_, _, rfl, rfl, gh_h41⟩
theorem gh_H42 : gh_HOK 42 := ⟨_, _, rfl, rfl, gh_h42⟩
theorem gh_H43 : gh_HOK 43 := ⟨_, _, rfl, rfl, gh_h43⟩
theorem gh_H44 : gh_HOK 44 := ⟨_, _, rfl, rfl, gh_h44⟩
theorem gh_H45 : gh_HOK 45 := ⟨_, _, rfl, rfl, gh_h45⟩
theorem gh_H46 : gh_HOK 46 := ⟨_, _, rfl, rfl, gh_h46⟩
theorem gh_H47 : gh_HOK 47 := ⟨_, _, rfl, rfl, gh_h47⟩
theorem gh_H48 : gh_HOK 48 := ⟨_, _, rfl, rfl, gh_h48⟩
theorem gh_H49 : gh_HOK 49 := ⟨_, _, rfl, rfl, gh_h49⟩
theorem gh_H50 : gh_HOK 50 := ⟨_, _, rfl, rfl, gh_h50⟩
theorem gh_H51 : gh_HOK 51 := ⟨_, _, rfl, rfl, gh_h51⟩
theorem gh_H52 : gh_HOK 52 := ⟨_, _, rfl, rfl, gh_h52⟩
theorem gh_H53 : gh_HOK 53 := ⟨_, _, rfl, rfl, gh_h53⟩
theorem gh_H54 : gh_HOK 54 := ⟨_, _, rfl, rfl, gh_h54⟩
theorem gh_H55 : gh_HOK 55 := ⟨_, _, rfl, rfl, gh_h55⟩
theorem gh_H56 : gh_HOK 56 := ⟨_, _, rfl, rfl, gh_h56⟩
theorem gh_H57 : gh_HOK 57 := ⟨_, _, rfl, rfl, gh_h57⟩
theorem gh_H58 : gh_HOK 58 := ⟨_, _, rfl, rfl, gh_h58⟩
theorem gh_H59 : gh_HOK 59 := ⟨_, _, rfl, rfl, gh_h59⟩
theorem gh_H60 : gh_HOK 60 := ⟨_, _, rfl, rfl, gh_h60⟩
theorem gh_H61 : gh_HOK 61 := ⟨_, _, rfl, rfl, gh_h61⟩
theorem gh_H62 : gh_HOK 62 := ⟨_, _, rfl, rfl, gh_h62⟩
theorem gh_H63 : gh_HOK 63 := ⟨_, _, rfl, rfl, gh_h63⟩
theorem gh_H64 : gh_HOK 64 := ⟨_, _, rfl, rfl, gh_h64⟩
theorem gh_H65 : gh_HOK 65 := ⟨_, _, rfl, rfl, gh_h65⟩
theorem gh_H66 : gh_HOK 66 := ⟨_, _, rfl, rfl, gh_h66⟩
theorem gh_H67 : gh_HOK 67 := ⟨_, _, rfl, rfl, gh_h67⟩
theorem gh_H68 : gh_HOK 68 := ⟨_, _, rfl, rfl, gh_h68⟩
theorem gh_H69 : gh_HOK 69 := ⟨_, _, rfl, rfl, gh_h69⟩
theorem gh_H70 : gh_HOK 70 := ⟨_, _, rfl, rfl, gh_h70⟩
theorem gh_H71 : gh_HOK 71 := ⟨_, _, rfl, rfl, gh_h71⟩
theorem gh_H72 : gh_HOK 72 := ⟨_, _, rfl, rfl, gh_h72⟩
theorem gh_H73 : gh_HOK 73 := ⟨_, _, rfl, rfl, gh_h73⟩
theorem gh_H74 : gh_HOK 74 := ⟨_, _, rfl, rfl, gh_h74⟩
theorem gh_H75 : gh_HOK 75 := ⟨_, _, rfl, rfl, gh_h75⟩
theorem gh_H76 : gh_HOK 76 := ⟨_, _, rfl, rfl, gh_h76⟩
theorem gh_H77 : gh_HOK 77 := ⟨_, _, rfl, rfl, gh_h77⟩
theorem gh_H78 : gh_HOK 78 := ⟨_, _, rfl, rfl, gh_h78⟩
theorem gh_H79 : gh_HOK 79 := ⟨_, _, rfl, rfl, gh_h79⟩
theorem gh_H80 : gh_HOK 80 := ⟨_, _, rfl, rfl, gh_h80⟩
theorem gh_H81 : gh_HOK 81 := ⟨_, _, rfl, rfl, gh_h81⟩
theorem gh_H82 : gh_HOK 82 := ⟨_, _, rfl, rfl, gh_h82⟩
theorem gh_H83 : gh_HOK 83 := ⟨_, _, rfl, rfl, gh_h83⟩
theorem gh_H84 : gh_HOK 84 := ⟨_, _, rfl, rfl, gh_h84⟩
theorem gh_H85 : gh_HOK 85 := ⟨_, _, rfl, rfl, gh_h85⟩
theorem gh_H86 : gh_HOK 86 := ⟨_, _, rfl, rfl, gh_h86⟩
theorem gh_H87 : gh_HOK 87 := ⟨_, _, rfl, rfl, gh_h87⟩
theorem gh_H88 : gh_HOK 88 := ⟨_, _, rfl, rfl, gh_h88⟩
theorem gh_H89 : gh_HOK 89 := ⟨_, _, rfl, rfl, gh_h89⟩
theorem gh_H90 : gh_HOK 90 := ⟨_, _, rfl, rfl, gh_h90⟩
theorem gh_H91 : gh_HOK 91 := ⟨_, _, rfl, rfl, gh_h91⟩
theorem gh_H92 : gh_HOK 92 := ⟨_, _, rfl, rfl, gh_h92⟩
theorem gh_H93 : gh_HOK 93 := ⟨_, _, rfl, rfl, gh_h93⟩
theorem gh_H94 : gh_HOK 94 := ⟨_, _, rfl, rfl, gh_h94⟩
theorem gh_H95 : gh_HOK 95 := ⟨_, _, rfl, rfl, gh_h95⟩
theorem gh_H96 : gh_HOK 96 := ⟨_, _, rfl, rfl, gh_h96⟩
theorem gh_H97 : gh_HOK 97 := ⟨_, _, rfl, rfl, gh_h97⟩
theorem gh_H98 : gh_HOK 98 := ⟨_, _, rfl, rfl, gh_h98⟩
theorem gh_H99 : gh_HOK 99 := ⟨_, _, rfl, rfl, gh_h99⟩
theorem gh_H100 : gh_HOK 100 := ⟨_, _, rfl, rfl, gh_h100⟩
theorem gh_H101 : gh_HOK 101 := ⟨_, _, rfl, rfl, gh_h101⟩
theorem gh_H102 : gh_HOK 102 := ⟨_, _, rfl, rfl, gh_h102⟩
theorem gh_H103 : gh_HOK 103 := ⟨_, _, rfl, rfl, gh_h103⟩
theorem gh_H104 : gh_HOK 104 := ⟨_, _, rfl, rfl, gh_h104⟩
theorem gh_H105 : gh_HOK 105 := ⟨_, _, rfl, rfl, gh_h105⟩
theorem gh_H106 : gh_HOK 106 := ⟨_, _, rfl, rfl, gh_h106⟩
theorem gh_H107 : gh_HOK 107 := ⟨_, _, rfl, rfl, gh_h107⟩
theorem gh_H108 : gh_HOK 108 := ⟨_, _, rfl, rfl, gh_h108⟩
theorem gh_H109 : gh_HOK 109 := ⟨_, _, rfl, rfl, gh_h109⟩
theorem gh_H110 : gh_HOK 110 := ⟨_, _, rfl, rfl, gh_h110⟩
theorem gh_H111 : gh_HOK 111 := ⟨_, _, rfl, rfl, gh_h111⟩
theorem gh_H112 : gh_HOK 112 := ⟨_, _, rfl, rfl, gh_h112⟩
theorem gh_H113 : gh_HOK 113 := ⟨_, _, rfl, rfl, gh_h113⟩
theorem gh_H114 : gh_HOK 114 := ⟨_, _, rfl, rfl, gh_h114⟩
theorem gh_H115 : gh_HOK 115 := ⟨_, _, rfl, rfl, gh_h115⟩
theorem gh_H116 : gh_HOK 116 := ⟨_, _, rfl, rfl, gh_h116⟩
theorem gh_H117 : gh_HOK 117 := ⟨_, _, rfl, rfl, gh_h117⟩
theorem gh_H118 : gh_HOK 118 := ⟨_, _, rfl, rfl, gh_h118⟩
theorem gh_H119 : gh_HOK 119 := ⟨_, _, rfl, rfl, gh_h119⟩
theorem gh_H120 : gh_HOK 120 := ⟨_, _, rfl, rfl, gh_h120⟩
theorem gh_H121 : gh_HOK 121 := ⟨_, _, rfl, rfl, gh_h121⟩
theorem gh_H122 : gh_HOK 122 := ⟨_, _, rfl, rfl, gh_h122⟩
theorem gh_H123 : gh_HOK 123 := ⟨_, _, rfl, rfl, gh_h123⟩
theorem gh_H124 : gh_HOK 124 := ⟨_, _, rfl, rfl, gh_h124⟩
theorem gh_H125 : gh_HOK 125 := ⟨_, _, rfl, rfl, gh_h125⟩
theorem gh_H126 : gh_HOK 126 := ⟨_, _, rfl, rfl, gh_h126⟩
theorem gh_H127 : gh_HOK 127 := ⟨_, _, rfl, rfl, gh_h127⟩
theorem gh_Hg0 : ∀ μ ∈ ([0, 1, 2, 3, 4, 5, 6, 7, 8, 9, 10, 11, 12, 13, 14, 15, 16, 17, 18, 19, 20, 21, 22, 23, 24, 25, 26, 27] : List Nat), gh_HOK μ := List.forall_mem_cons.mpr ⟨gh_H0, List.forall_mem_cons.mpr ⟨gh_H1, List.forall_mem_cons.mpr ⟨gh_H2, List.forall_mem_cons.mpr ⟨gh_H3, List.forall_mem_cons.mpr ⟨gh_H4, List.forall_mem_cons.mpr ⟨gh_H5, List.forall_mem_cons.mpr ⟨gh_H6, List.forall_mem_cons.mpr ⟨gh_H7, List.forall_mem_cons.mpr ⟨gh_H8, List.forall_mem_cons.mpr ⟨gh_H9, List.forall_mem_cons.mpr ⟨gh_H10, List.forall_mem_cons.mpr ⟨gh_H11, List.forall_mem_cons.mpr ⟨gh_H12, List.forall_mem_cons.mpr ⟨gh_H13, List.forall_mem_cons.mpr ⟨gh_H14, List.forall_mem_cons.mpr ⟨gh_H15, List.forall_mem_cons.mpr ⟨gh_H16, List.forall_mem_cons.mpr ⟨gh_H17, List.forall_mem_cons.mpr ⟨gh_H18, List.forall_mem_cons.mpr ⟨gh_H19, List.forall_mem_cons.mpr ⟨gh_H20, List.forall_mem_cons.mpr ⟨gh_H21, List.forall_mem_cons.mpr ⟨gh_H22, List.forall_mem_cons.mpr ⟨gh_H23, List.forall_mem_cons.mpr ⟨gh_H24, List.forall_mem_cons.mpr ⟨gh_H25, List.forall_mem_cons.mpr ⟨gh_H26, List.forall_mem_cons.mpr ⟨gh_H27, (fun _ h => absurd h List.not_mem_nil)⟩⟩⟩⟩⟩⟩⟩⟩⟩⟩⟩⟩⟩⟩⟩⟩⟩⟩⟩⟩⟩⟩⟩⟩⟩⟩⟩⟩
theorem gh_Hg1 : ∀ μ ∈ ([28, 29, 30, 31, 32, 33, 34, 35, 36, 37, 38, 39, 40, 41, 42, 43, 44, 45, 46, 47, 48, 49, 50, 51, 52, 53, 54, 55] : List Nat), gh_HOK μ := List.forall_mem_cons.mpr ⟨gh_H28, List.forall_mem_cons.mpr ⟨gh_H29, List.forall_mem_cons.mpr ⟨gh_H30, List.forall_mem_cons.mpr ⟨gh_H31, List.forall_mem_cons.mpr ⟨gh_H32, List.forall_mem_cons.mpr ⟨gh_H33, List.forall_mem_cons.mpr ⟨gh_H34, List.forall_mem_cons.mpr ⟨gh_H35, List.forall_mem_cons.mpr ⟨gh_H36, List.forall_mem_cons.mpr ⟨gh_H37, List.forall_mem_cons.mpr ⟨gh_H38, List.forall_mem_cons.mpr ⟨gh_H39, List.forall_mem_cons.mpr ⟨gh_H40, List.forall_mem_cons.mpr ⟨gh_H41, List.forall_mem_cons.mpr ⟨gh_H42, List.forall_mem_cons.mpr ⟨gh_H43, List.forall_mem_cons.mpr ⟨gh_H44, List.forall_mem_cons.mpr ⟨gh_H45, List.forall_mem_cons.mpr ⟨gh_H46, List.forall_mem_cons.mpr ⟨gh_H47, List.forall_mem_cons.mpr ⟨gh_H48, List.forall_mem_cons.mpr ⟨gh_H49, List.forall_mem_cons.mpr ⟨gh_H50, List.forall_mem_cons.mpr ⟨gh_H51, List.forall_mem_cons.mpr ⟨gh_H52, List.forall_mem_cons.mpr ⟨gh_H53, List.forall_mem_cons.mpr ⟨gh_H54, List.forall_mem_cons.mpr ⟨gh_H55, (fun _ h => absurd h List.not_mem_nil)⟩⟩⟩⟩⟩⟩⟩⟩⟩⟩⟩⟩⟩⟩⟩⟩⟩⟩⟩⟩⟩⟩⟩⟩⟩⟩⟩⟩
theorem gh_Hg2 : ∀ μ ∈ ([56, 57, 58, 59, 60, 61, 62, 63, 64, 65, 66, 67, 68, 69, 70, 71, 72, 73, 74, 75, 76, 77, 78, 79, 80, 81, 82, 83] : List Nat), gh_HOK μ := List.forall_mem_cons.mpr ⟨gh_H56, List.forall_mem_cons.mpr ⟨gh_H57, List.forall_mem_cons.mpr ⟨gh_H58, List.forall_mem_cons.mpr ⟨gh_H59, List.forall_mem_cons.mpr ⟨gh_H60, List.forall_mem_cons.mpr ⟨gh_H61, List.forall_mem_cons.mpr ⟨gh_H62, List.forall_mem_cons.mpr ⟨gh_H63, List.forall_mem_cons.mpr ⟨gh_H64, List.forall_mem_cons.mpr ⟨gh_H65, List.forall_mem_cons.mpr ⟨gh_H66, List.forall_mem_cons.mpr ⟨gh_H67, List.forall_mem_cons.mpr ⟨gh_H68, List.forall_mem_cons.mpr ⟨gh_H69, List.forall_mem_cons.mpr ⟨gh_H70, List.forall_mem_cons.mpr ⟨gh_H71, List.forall_mem_cons.mpr ⟨gh_H72, List.forall_mem_cons.mpr ⟨gh_H73, List.forall_mem_cons.mpr ⟨gh_H74, List.forall_mem_cons.mpr ⟨gh_H75, List.forall_mem_cons.mpr ⟨gh_H76, List.forall_mem_cons.mpr ⟨gh_H77, List.forall_mem_cons.mpr ⟨gh_H78, List.forall_mem_cons.mpr ⟨gh_H79, List.forall_mem_cons.mpr ⟨gh_H80, List.forall_mem_cons.mpr ⟨gh_H81, List.forall_mem_cons.mpr ⟨gh_H82, List.forall_mem_cons.mpr ⟨gh_H83, (fun _ h => absurd h List.not_mem_nil)⟩⟩⟩⟩⟩⟩⟩⟩⟩⟩⟩⟩⟩⟩⟩⟩⟩⟩⟩⟩⟩⟩⟩⟩⟩⟩⟩⟩
theorem gh_Hg3 : ∀ μ ∈ ([84, 85, 86, 87, 88, 89, 90, 91, 92, 93, 94, 95, 96, 97, 98, 99, 100, 101, 102, 103, 104, 105, 106, 107, 108, 109, 110, 111] : List Nat), gh_HOK μ := List.forall_mem_cons.mpr ⟨gh_H84, List.forall_mem_cons.mpr ⟨gh_H85, List.forall_mem_cons.mpr ⟨gh_H86, List.forall_mem_cons.mpr ⟨gh_H87, List.forall_mem_cons.mpr ⟨gh_H88, List.forall_mem_cons.mpr ⟨gh_H89, List.forall_mem_cons.mpr ⟨gh_H90, List.forall_mem_cons.mpr ⟨gh_H91, List.forall_mem_cons.mpr ⟨gh_H92, List.forall_mem_cons.mpr ⟨gh_H93, List.forall_mem_cons.mpr ⟨gh_H94, List.forall_mem_cons.mpr ⟨gh_H95, List.forall_mem_cons.mpr ⟨gh_H96, List.forall_mem_cons.mpr ⟨gh_H97, List.forall_mem_cons.mpr ⟨gh_H98, List.forall_mem_cons.mpr ⟨gh_H99, List.forall_mem_cons.mpr ⟨gh_H100, List.forall_mem_cons.mpr ⟨gh_H101, List.forall_mem_cons.mpr ⟨gh_H102, List.forall_mem_cons.mpr ⟨gh_H103, List.forall_mem_cons.mpr ⟨gh_H104, List.forall_mem_cons.mpr ⟨gh_H105, List.forall_mem_cons.mpr ⟨gh_H106, List.forall_mem_cons.mpr ⟨gh_H107, List.forall_mem_cons.mpr ⟨gh_H108, List.forall_mem_cons.mpr ⟨gh_H109, List.forall_mem_cons.mpr ⟨gh_H110, List.forall_mem_cons.mpr ⟨gh_H111, (fun _ h => absurd h List.not_mem_nil)⟩⟩⟩⟩⟩⟩⟩⟩⟩⟩⟩⟩⟩⟩⟩⟩⟩⟩⟩⟩⟩⟩⟩⟩⟩⟩⟩⟩
theorem gh_Hg4 : ∀ μ ∈ ([112, 113, 114, 115, 116, 117, 118, 119, 120, 121, 122, 123, 124, 125, 126, 127] : List Nat), gh_HOK μ := List.forall_mem_cons.mpr ⟨gh_H112, List.forall_mem_cons.mpr ⟨gh_H113, List.forall_mem_cons.mpr ⟨gh_H114, List.forall_mem_cons.mpr ⟨gh_H115, List.forall_mem_cons.mpr ⟨gh_H116, List.forall_mem_cons.mpr ⟨gh_H117, List.forall_mem_cons.mpr ⟨gh_H118, List.forall_mem_cons.mpr ⟨gh_H119, List.forall_mem_cons.mpr ⟨gh_H120, List.forall_mem_cons.mpr ⟨gh_H121, List.forall_mem_cons.mpr ⟨gh_H122, List.forall_mem_cons.mpr ⟨gh_H123, List.forall_mem_cons.mpr ⟨gh_H124, List.forall_mem_cons.mpr ⟨gh_H125, List.forall_mem_cons.mpr ⟨gh_H126, List.forall_mem_cons.mpr ⟨gh_H127, (fun _ h => absurd h List.not_mem_nil)⟩⟩⟩⟩⟩⟩⟩⟩⟩⟩⟩⟩⟩⟩⟩⟩
theorem gh_Hall (μ : Nat) (h : μ < 128) : gh_HOK μ := by
  by_cases h0 : μ < 28
  · exact gh_Hg0 μ (by simp only [List.mem_cons, List.not_mem_nil, or_false]; omega)
  by_cases h1 : μ < 56
  · exact gh_Hg1 μ (by simp only [List.mem_cons, List.not_mem_nil, or_false]; omega)
  by_cases h2 : μ < 84
  · exact gh_Hg2 μ (by simp only [List.mem_cons, List.not_mem_nil, or_false]; omega)
  by_cases h3 : μ < 112
  · exact gh_Hg3 μ (by simp only [List.mem_cons, List.not_mem_nil, or_false]; omega)
  by_cases h4 : μ < 128
  · exact gh_Hg4 μ (by simp only [List.mem_cons, List.not_mem_nil, or_false]; omega)
  exact absurd h (by omega)
