/-! THE LAW's HELPERS: a call of the class, its exceptions caught -/
set_option maxRecDepth 100000 in
theorem gh_xl9 : ∀ e ∈ gh_xrt.getD 9 [], Cond.classLink "TreeclerkLaw" e.1 (gh_es e.2) ∈ gh_wsG := by
  show ∀ e ∈ ([(13, 1), (15, 2), (23, 0), (103, 3)] : List (Nat × Nat)), Cond.classLink "TreeclerkLaw" e.1 (gh_es e.2) ∈ gh_wsG
  exact List.forall_mem_cons.mpr ⟨gh_w 327 rfl rfl, List.forall_mem_cons.mpr ⟨gh_w 328 rfl rfl, List.forall_mem_cons.mpr ⟨gh_w 438 rfl rfl, List.forall_mem_cons.mpr ⟨gh_w 986 rfl rfl, (fun _ h => absurd h List.not_mem_nil)⟩⟩⟩⟩
set_option maxRecDepth 100000 in
theorem gh_ca0 : Cond.castable "java/lang/IndexOutOfBoundsException" "java/lang/IndexOutOfBoundsException" ∈ gh_nst := gh_n 449 rfl rfl
set_option maxRecDepth 100000 in
theorem gh_ca1 : Cond.castable "java/lang/IllegalArgumentException" "java/lang/IllegalArgumentException" ∈ gh_nst := gh_n 335 rfl rfl
set_option maxRecDepth 100000 in
theorem gh_ca2 : Cond.castable "java/lang/IllegalStateException" "java/lang/IllegalStateException" ∈ gh_nst := gh_n 404 rfl rfl
set_option maxRecDepth 100000 in
theorem gh_ca3 : Cond.castable "java/util/NoSuchElementException" "java/util/NoSuchElementException" ∈ gh_nst := gh_n 993 rfl rfl
theorem gh_ca (E : Nat) (h : E < 4) : Cond.castable (gh_es E) (gh_es E) ∈ gh_nst := by
  match E, h with
  | 0, _ => exact gh_ca0
  | 1, _ => exact gh_ca1
  | 2, _ => exact gh_ca2
  | 3, _ => exact gh_ca3
  | k + 4, h => exact absurd h (by omega)
/-- where an exception caught goes on: the row of the table that takes it, the handler's three instructions -/
def gh_hB (nL : Nat) (hnd : Nat → Nat → Option (Nat × Nat)) (hh : List (Nat × Nat × Nat × Nat)) (K : List (Nat × Instr × Nat)) : Bool :=
  (hh.all fun r => decide (r.2.2.2 ≠ 0) && (match gh_xR 9 r.2.2.2 with | some E => decide (E < 4) | none => false)) &&
  K.all fun e => (List.range 4).all fun E => match hnd e.1 E with
    | none => true
    | some (pc', k) => match hh.find? (fun r => decide (r.1 ≤ e.1) && decide (e.1 < r.2.1) && decide (gh_xR 9 r.2.2.2 = some E)) with
      | none => false
      | some r => (match K.lookup r.2.2.1 with
          | some (.astore_n j, 1) => decide (j.val = k) && decide (pc' = r.2.2.1 + 1) && decide (k < nL)
          | some (.astore j, 2) => decide (j = k) && decide (pc' = r.2.2.1 + 2) && decide (k < nL)
          | _ => false) && (match K.lookup pc' with
          | some (.iconst _, 1) => true
          | _ => false) && decide (K.lookup (pc' + 1) = some (.ireturn, 1))
set_option maxRecDepth 100000 in
theorem gh_hb196 : gh_hB 4 (fun pc E => if pc = 4 then [(1, 13, 3), (2, 16, 3)].lookup E else none) [(0, 9, 12, 13), (0, 9, 15, 15)] gk_196 = true := by decide +kernel
set_option maxRecDepth 100000 in
theorem gh_h196 : gh_chkB 9 196 "pass" 4 gk_196 = true := by decide +kernel
set_option maxRecDepth 100000 in
theorem gh_hb197 : gh_hB 4 (fun pc E => if pc = 4 then [(1, 13, 3), (2, 16, 3)].lookup E else none) [(0, 9, 12, 13), (0, 9, 15, 15)] gk_197 = true := by decide +kernel
set_option maxRecDepth 100000 in
theorem gh_h197 : gh_chkB 9 196 "birth" 4 gk_197 = true := by decide +kernel
set_option maxRecDepth 100000 in
theorem gh_hb198 : gh_hB 4 (fun pc E => if pc = 4 then [(0, 13, 3), (2, 16, 3)].lookup E else none) [(0, 9, 12, 23), (0, 9, 15, 15)] gk_198 = true := by decide +kernel
set_option maxRecDepth 100000 in
theorem gh_h198 : gh_chkB 9 196 "death" 4 gk_198 = true := by decide +kernel
set_option maxRecDepth 100000 in
theorem gh_hb199 : gh_hB 4 (fun pc E => if pc = 4 then [(0, 20, 3)].lookup E else none) [(0, 16, 19, 23)] gk_199 = true := by decide +kernel
set_option maxRecDepth 100000 in
theorem gh_h199 : gh_chkB 9 196 "isAlive" 4 gk_199 = true := by decide +kernel
set_option maxRecDepth 100000 in
theorem gh_hb200 : gh_hB 6 (fun pc E => if pc = 7 then [(0, 17, 5), (1, 21, 5), (2, 25, 5)].lookup E else none) [(0, 12, 15, 23), (0, 12, 19, 13), (0, 12, 23, 15)] gk_200 = true := by decide +kernel
set_option maxRecDepth 100000 in
theorem gh_h200 : gh_chkB 9 196 "proof" 6 gk_200 = true := by decide +kernel
set_option maxRecDepth 100000 in
theorem gh_hb201 : gh_hB 5 (fun pc E => if pc = 5 then [(0, 15, 4), (1, 19, 4), (2, 23, 4)].lookup E else none) [(0, 10, 13, 23), (0, 10, 17, 13), (0, 10, 21, 15)] gk_201 = true := by decide +kernel
set_option maxRecDepth 100000 in
theorem gh_h201 : gh_chkB 9 196 "doubt" 5 gk_201 = true := by decide +kernel
set_option maxRecDepth 100000 in
theorem gh_hb202 : gh_hB 5 (fun pc E => if pc = 5 then [(0, 15, 4), (2, 19, 4)].lookup E else none) [(0, 10, 13, 23), (0, 10, 17, 15)] gk_202 = true := by decide +kernel
set_option maxRecDepth 100000 in
theorem gh_h202 : gh_chkB 9 196 "judge" 5 gk_202 = true := by decide +kernel
set_option maxRecDepth 100000 in
theorem gh_hb203 : gh_hB 4 (fun pc E => if pc = 4 then [(0, 13, 3)].lookup E else none) [(0, 9, 12, 23)] gk_203 = true := by decide +kernel
set_option maxRecDepth 100000 in
theorem gh_h203 : gh_chkB 9 196 "strength" 4 gk_203 = true := by decide +kernel
set_option maxRecDepth 100000 in
theorem gh_hb204 : gh_hB 5 (fun pc E => if pc = 5 then [(0, 15, 4), (1, 19, 4)].lookup E else none) [(0, 10, 13, 23), (0, 10, 17, 13)] gk_204 = true := by decide +kernel
set_option maxRecDepth 100000 in
theorem gh_h204 : gh_chkB 9 196 "parentOf" 5 gk_204 = true := by decide +kernel
set_option maxRecDepth 100000 in
theorem gh_hb205 : gh_hB 4 (fun pc E => if pc = 4 then [(0, 13, 3)].lookup E else none) [(0, 9, 12, 23)] gk_205 = true := by decide +kernel
set_option maxRecDepth 100000 in
theorem gh_h205 : gh_chkB 9 196 "childrenOf" 4 gk_205 = true := by decide +kernel
set_option maxRecDepth 100000 in
theorem gh_hb206 : gh_hB 6 (fun pc E => if pc = 7 then [(0, 17, 5), (1, 21, 5), (2, 25, 5)].lookup E else none) [(0, 12, 15, 23), (0, 12, 19, 13), (0, 12, 23, 15)] gk_206 = true := by decide +kernel
set_option maxRecDepth 100000 in
theorem gh_h206 : gh_chkB 9 196 "will" 6 gk_206 = true := by decide +kernel
set_option maxRecDepth 100000 in
theorem gh_hb207 : gh_hB 5 (fun pc E => if pc = 5 then [(0, 15, 4), (2, 19, 4)].lookup E else none) [(0, 10, 13, 23), (0, 10, 17, 15)] gk_207 = true := by decide +kernel
set_option maxRecDepth 100000 in
theorem gh_h207 : gh_chkB 9 196 "claim" 5 gk_207 = true := by decide +kernel
set_option maxRecDepth 100000 in
theorem gh_hb208 : gh_hB 4 (fun pc E => if pc = 4 then [(0, 13, 3)].lookup E else none) [(0, 9, 12, 23)] gk_208 = true := by decide +kernel
set_option maxRecDepth 100000 in
theorem gh_h208 : gh_chkB 9 196 "claims" 4 gk_208 = true := by decide +kernel
set_option maxRecDepth 100000 in
theorem gh_hb209 : gh_hB 4 (fun pc E => if pc = 4 then [(0, 13, 3), (2, 16, 3)].lookup E else none) [(0, 9, 12, 23), (0, 9, 15, 15)] gk_209 = true := by decide +kernel
set_option maxRecDepth 100000 in
theorem gh_h209 : gh_chkB 9 196 "close" 4 gk_209 = true := by decide +kernel
set_option maxRecDepth 100000 in
theorem gh_hb210 : gh_hB 4 (fun pc E => if pc = 4 then [(0, 20, 3)].lookup E else none) [(0, 16, 19, 23)] gk_210 = true := by decide +kernel
set_option maxRecDepth 100000 in
theorem gh_h210 : gh_chkB 9 196 "isClosed" 4 gk_210 = true := by decide +kernel
set_option maxRecDepth 100000 in
theorem gh_hb211 : gh_hB 5 (fun pc E => if pc = 5 then [(0, 14, 4), (2, 18, 4)].lookup E else none) [(0, 9, 12, 23), (0, 9, 16, 15)] gk_211 = true := by decide +kernel
set_option maxRecDepth 100000 in
theorem gh_h211 : gh_chkB 9 196 "shareAbove" 5 gk_211 = true := by decide +kernel
set_option maxRecDepth 100000 in
theorem gh_hb212 : gh_hB 5 (fun pc E => if pc = 5 then [(0, 14, 4), (2, 18, 4)].lookup E else none) [(0, 9, 12, 23), (0, 9, 16, 15)] gk_212 = true := by decide +kernel
set_option maxRecDepth 100000 in
theorem gh_h212 : gh_chkB 9 196 "shareBelow" 5 gk_212 = true := by decide +kernel
set_option maxRecDepth 100000 in
theorem gh_hb213 : gh_hB 5 (fun pc E => if pc = 5 then [(0, 14, 4), (2, 18, 4)].lookup E else none) [(0, 9, 12, 23), (0, 9, 16, 15)] gk_213 = true := by decide +kernel
set_option maxRecDepth 100000 in
theorem gh_h213 : gh_chkB 9 196 "shareAboveByWays" 5 gk_213 = true := by decide +kernel
set_option maxRecDepth 100000 in
theorem gh_hb214 : gh_hB 4 (fun pc E => if pc = 4 then [(0, 13, 3), (2, 16, 3)].lookup E else none) [(0, 9, 12, 23), (0, 9, 15, 15)] gk_214 = true := by decide +kernel
set_option maxRecDepth 100000 in
theorem gh_h214 : gh_chkB 9 196 "heirs" 4 gk_214 = true := by decide +kernel
set_option maxRecDepth 100000 in
theorem gh_hb215 : gh_hB 4 (fun pc E => if pc = 4 then [(0, 13, 3), (2, 16, 3)].lookup E else none) [(0, 9, 12, 23), (0, 9, 15, 15)] gk_215 = true := by decide +kernel
set_option maxRecDepth 100000 in
theorem gh_h215 : gh_chkB 9 196 "disputes" 4 gk_215 = true := by decide +kernel
set_option maxRecDepth 100000 in
theorem gh_hb216 : gh_hB 4 (fun pc E => if pc = 4 then [(0, 13, 3)].lookup E else none) [(0, 9, 12, 23)] gk_216 = true := by decide +kernel
set_option maxRecDepth 100000 in
theorem gh_h216 : gh_chkB 9 196 "reopenings" 4 gk_216 = true := by decide +kernel
set_option maxRecDepth 100000 in
theorem gh_hb217 : gh_hB 6 (fun pc E => if pc = 7 then [(0, 17, 5), (1, 21, 5), (2, 25, 5)].lookup E else none) [(0, 12, 15, 23), (0, 12, 19, 13), (0, 12, 23, 15)] gk_217 = true := by decide +kernel
set_option maxRecDepth 100000 in
theorem gh_h217 : gh_chkB 9 196 "grant" 6 gk_217 = true := by decide +kernel
set_option maxRecDepth 100000 in
theorem gh_hb218 : gh_hB 7 (fun pc E => if pc = 9 then [(0, 19, 6), (1, 23, 6), (2, 27, 6)].lookup E else none) [(0, 14, 17, 23), (0, 14, 21, 13), (0, 14, 25, 15)] gk_218 = true := by decide +kernel
set_option maxRecDepth 100000 in
theorem gh_h218 : gh_chkB 9 196 "hand" 7 gk_218 = true := by decide +kernel
set_option maxRecDepth 100000 in
theorem gh_hb219 : gh_hB 4 (fun pc E => if pc = 4 then [(0, 13, 3)].lookup E else none) [(0, 9, 12, 23)] gk_219 = true := by decide +kernel
set_option maxRecDepth 100000 in
theorem gh_h219 : gh_chkB 9 196 "owner" 4 gk_219 = true := by decide +kernel
set_option maxRecDepth 100000 in
theorem gh_hb220 : gh_hB 4 (fun pc E => if pc = 4 then [(0, 13, 3)].lookup E else none) [(0, 9, 12, 23)] gk_220 = true := by decide +kernel
set_option maxRecDepth 100000 in
theorem gh_h220 : gh_chkB 9 196 "ownerAnew" 4 gk_220 = true := by decide +kernel
set_option maxRecDepth 100000 in
theorem gh_hb221 : gh_hB 4 (fun pc E => if pc = 4 then [(0, 13, 3)].lookup E else none) [(0, 9, 12, 23)] gk_221 = true := by decide +kernel
set_option maxRecDepth 100000 in
theorem gh_h221 : gh_chkB 9 196 "area" 4 gk_221 = true := by decide +kernel
set_option maxRecDepth 100000 in
theorem gh_hb222 : gh_hB 4 (fun pc E => if pc = 4 then [(0, 13, 3), (3, 16, 3)].lookup E else none) [(0, 9, 12, 23), (0, 9, 15, 103)] gk_222 = true := by decide +kernel
set_option maxRecDepth 100000 in
theorem gh_h222 : gh_chkB 9 196 "parcelAt" 4 gk_222 = true := by decide +kernel
/-- a helper's own words -/
def gh_hOK (q : MethodName × ByteArray × Nat × Option FieldType × Nat) (hh : List (Nat × Nat × Nat × Nat)) : Prop := Cond.codeWith q.1 q.2.1 q.2.2.1 q.2.2.2.1 hh ∈ gh_wsG ∧ Cond.initialized q.1.cls ∈ gh_wsG ∧ (q.1.cls ≠ "java/lang/invoke/MethodHandle" ∧ q.1.cls ≠ "java/lang/invoke/VarHandle") ∧ plainName q.1.cls = true ∧ q.2.2.1 ≤ 12 ∧ Cond.static q.1 ∈ gh_wsG
/-- all that is known of the helper μ, which the law calls by the entry idx with n arguments -/
def gh_XOK (μ : Nat) : Prop := ∃ q m hh, gh_yt[μ]? = some q ∧ gh_mt[μ]? = some m ∧ gh_hOK q hh ∧ (∀ e ∈ m.2.2.2, decode q.2.1 e.1 = .ok e.2) ∧ m.2.1 = q.2.2.2.1 ∧ m.2.1 = some .int ∧ m.1 = 9 ∧ q.1.cls = "TreeclerkLaw" ∧ gh_ml.getD μ 0 = q.2.2.1 ∧ gh_hB q.2.2.1 m.2.2.1 hh m.2.2.2 = true ∧ gh_chkB 9 196 q.1.name q.2.2.1 m.2.2.2 = true ∧
  ∃ idx n, (idx, μ, n) ∈ gh_mrt.getD 9 [] ∧ Cond.methodLink "TreeclerkLaw" idx q.1 ∈ gh_wsG ∧ (parseMethodDescriptor q.1.desc).map (fun d => d.parameters.length) = some n ∧ (∀ e ∈ gh_mrt.getD 9 [], e.2.1 = μ → e = (idx, μ, n))
set_option maxRecDepth 100000 in
theorem gh_X196 : gh_XOK 196 := ⟨_, _, [(0, 9, 12, 13), (0, 9, 15, 15)], rfl, rfl, ⟨gh_w 326 rfl rfl, gh_w 0 rfl rfl, ⟨by decide, by decide⟩, by decide +kernel, by decide, gh_w 325 rfl rfl⟩, gh_d196, rfl, rfl, rfl, rfl, rfl, gh_hb196, gh_h196, 109, 3, by decide +kernel, gh_w 324 rfl rfl, by decide +kernel, by decide +kernel⟩
set_option maxRecDepth 100000 in
theorem gh_X197 : gh_XOK 197 := ⟨_, _, [(0, 9, 12, 13), (0, 9, 15, 15)], rfl, rfl, ⟨gh_w 420 rfl rfl, gh_w 0 rfl rfl, ⟨by decide, by decide⟩, by decide +kernel, by decide, gh_w 419 rfl rfl⟩, gh_d197, rfl, rfl, rfl, rfl, rfl, gh_hb197, gh_h197, 123, 3, by decide +kernel, gh_w 418 rfl rfl, by decide +kernel, by decide +kernel⟩
set_option maxRecDepth 100000 in
theorem gh_X198 : gh_XOK 198 := ⟨_, _, [(0, 9, 12, 23), (0, 9, 15, 15)], rfl, rfl, ⟨gh_w 437 rfl rfl, gh_w 0 rfl rfl, ⟨by decide, by decide⟩, by decide +kernel, by decide, gh_w 436 rfl rfl⟩, gh_d198, rfl, rfl, rfl, rfl, rfl, gh_hb198, gh_h198, 126, 3, by decide +kernel, gh_w 435 rfl rfl, by decide +kernel, by decide +kernel⟩
set_option maxRecDepth 100000 in
theorem gh_X199 : gh_XOK 199 := ⟨_, _, [(0, 16, 19, 23)], rfl, rfl, ⟨gh_w 489 rfl rfl, gh_w 0 rfl rfl, ⟨by decide, by decide⟩, by decide +kernel, by decide, gh_w 488 rfl rfl⟩, gh_d199, rfl, rfl, rfl, rfl, rfl, gh_hb199, gh_h199, 133, 3, by decide +kernel, gh_w 487 rfl rfl, by decide +kernel, by decide +kernel⟩
set_option maxRecDepth 100000 in
theorem gh_X200 : gh_XOK 200 := ⟨_, _, [(0, 12, 15, 23), (0, 12, 19, 13), (0, 12, 23, 15)], rfl, rfl, ⟨gh_w 496 rfl rfl, gh_w 0 rfl rfl, ⟨by decide, by decide⟩, by decide +kernel, by decide, gh_w 495 rfl rfl⟩, gh_d200, rfl, rfl, rfl, rfl, rfl, gh_hb200, gh_h200, 136, 5, by decide +kernel, gh_w 494 rfl rfl, by decide +kernel, by decide +kernel⟩
set_option maxRecDepth 100000 in
theorem gh_X201 : gh_XOK 201 := ⟨_, _, [(0, 10, 13, 23), (0, 10, 17, 13), (0, 10, 21, 15)], rfl, rfl, ⟨gh_w 710 rfl rfl, gh_w 0 rfl rfl, ⟨by decide, by decide⟩, by decide +kernel, by decide, gh_w 709 rfl rfl⟩, gh_d201, rfl, rfl, rfl, rfl, rfl, gh_hb201, gh_h201, 140, 4, by decide +kernel, gh_w 708 rfl rfl, by decide +kernel, by decide +kernel⟩
set_option maxRecDepth 100000 in
theorem gh_X202 : gh_XOK 202 := ⟨_, _, [(0, 10, 13, 23), (0, 10, 17, 15)], rfl, rfl, ⟨gh_w 732 rfl rfl, gh_w 0 rfl rfl, ⟨by decide, by decide⟩, by decide +kernel, by decide, gh_w 731 rfl rfl⟩, gh_d202, rfl, rfl, rfl, rfl, rfl, gh_hb202, gh_h202, 144, 4, by decide +kernel, gh_w 730 rfl rfl, by decide +kernel, by decide +kernel⟩
set_option maxRecDepth 100000 in
theorem gh_X203 : gh_XOK 203 := ⟨_, _, [(0, 9, 12, 23)], rfl, rfl, ⟨gh_w 750 rfl rfl, gh_w 0 rfl rfl, ⟨by decide, by decide⟩, by decide +kernel, by decide, gh_w 749 rfl rfl⟩, gh_d203, rfl, rfl, rfl, rfl, rfl, gh_hb203, gh_h203, 148, 3, by decide +kernel, gh_w 748 rfl rfl, by decide +kernel, by decide +kernel⟩
set_option maxRecDepth 100000 in
theorem gh_X204 : gh_XOK 204 := ⟨_, _, [(0, 10, 13, 23), (0, 10, 17, 13)], rfl, rfl, ⟨gh_w 758 rfl rfl, gh_w 0 rfl rfl, ⟨by decide, by decide⟩, by decide +kernel, by decide, gh_w 757 rfl rfl⟩, gh_d204, rfl, rfl, rfl, rfl, rfl, gh_hb204, gh_h204, 155, 4, by decide +kernel, gh_w 756 rfl rfl, by decide +kernel, by decide +kernel⟩
set_option maxRecDepth 100000 in
theorem gh_X205 : gh_XOK 205 := ⟨_, _, [(0, 9, 12, 23)], rfl, rfl, ⟨gh_w 768 rfl rfl, gh_w 0 rfl rfl, ⟨by decide, by decide⟩, by decide +kernel, by decide, gh_w 767 rfl rfl⟩, gh_d205, rfl, rfl, rfl, rfl, rfl, gh_hb205, gh_h205, 158, 3, by decide +kernel, gh_w 766 rfl rfl, by decide +kernel, by decide +kernel⟩
set_option maxRecDepth 100000 in
theorem gh_X206 : gh_XOK 206 := ⟨_, _, [(0, 12, 15, 23), (0, 12, 19, 13), (0, 12, 23, 15)], rfl, rfl, ⟨gh_w 776 rfl rfl, gh_w 0 rfl rfl, ⟨by decide, by decide⟩, by decide +kernel, by decide, gh_w 775 rfl rfl⟩, gh_d206, rfl, rfl, rfl, rfl, rfl, gh_hb206, gh_h206, 161, 5, by decide +kernel, gh_w 774 rfl rfl, by decide +kernel, by decide +kernel⟩
set_option maxRecDepth 100000 in
theorem gh_X207 : gh_XOK 207 := ⟨_, _, [(0, 10, 13, 23), (0, 10, 17, 15)], rfl, rfl, ⟨gh_w 793 rfl rfl, gh_w 0 rfl rfl, ⟨by decide, by decide⟩, by decide +kernel, by decide, gh_w 792 rfl rfl⟩, gh_d207, rfl, rfl, rfl, rfl, rfl, gh_hb207, gh_h207, 164, 4, by decide +kernel, gh_w 791 rfl rfl, by decide +kernel, by decide +kernel⟩
set_option maxRecDepth 100000 in
theorem gh_X208 : gh_XOK 208 := ⟨_, _, [(0, 9, 12, 23)], rfl, rfl, ⟨gh_w 816 rfl rfl, gh_w 0 rfl rfl, ⟨by decide, by decide⟩, by decide +kernel, by decide, gh_w 815 rfl rfl⟩, gh_d208, rfl, rfl, rfl, rfl, rfl, gh_hb208, gh_h208, 167, 3, by decide +kernel, gh_w 814 rfl rfl, by decide +kernel, by decide +kernel⟩
set_option maxRecDepth 100000 in
theorem gh_X209 : gh_XOK 209 := ⟨_, _, [(0, 9, 12, 23), (0, 9, 15, 15)], rfl, rfl, ⟨gh_w 823 rfl rfl, gh_w 0 rfl rfl, ⟨by decide, by decide⟩, by decide +kernel, by decide, gh_w 822 rfl rfl⟩, gh_d209, rfl, rfl, rfl, rfl, rfl, gh_hb209, gh_h209, 170, 3, by decide +kernel, gh_w 821 rfl rfl, by decide +kernel, by decide +kernel⟩
set_option maxRecDepth 100000 in
theorem gh_X210 : gh_XOK 210 := ⟨_, _, [(0, 16, 19, 23)], rfl, rfl, ⟨gh_w 842 rfl rfl, gh_w 0 rfl rfl, ⟨by decide, by decide⟩, by decide +kernel, by decide, gh_w 841 rfl rfl⟩, gh_d210, rfl, rfl, rfl, rfl, rfl, gh_hb210, gh_h210, 173, 3, by decide +kernel, gh_w 840 rfl rfl, by decide +kernel, by decide +kernel⟩
set_option maxRecDepth 100000 in
theorem gh_X211 : gh_XOK 211 := ⟨_, _, [(0, 9, 12, 23), (0, 9, 16, 15)], rfl, rfl, ⟨gh_w 849 rfl rfl, gh_w 0 rfl rfl, ⟨by decide, by decide⟩, by decide +kernel, by decide, gh_w 848 rfl rfl⟩, gh_d211, rfl, rfl, rfl, rfl, rfl, gh_hb211, gh_h211, 176, 4, by decide +kernel, gh_w 847 rfl rfl, by decide +kernel, by decide +kernel⟩
set_option maxRecDepth 100000 in
theorem gh_X212 : gh_XOK 212 := ⟨_, _, [(0, 9, 12, 23), (0, 9, 16, 15)], rfl, rfl, ⟨gh_w 861 rfl rfl, gh_w 0 rfl rfl, ⟨by decide, by decide⟩, by decide +kernel, by decide, gh_w 860 rfl rfl⟩, gh_d212, rfl, rfl, rfl, rfl, rfl, gh_hb212, gh_h212, 179, 4, by decide +kernel, gh_w 859 rfl rfl, by decide +kernel, by decide +kernel⟩
set_option maxRecDepth 100000 in
theorem gh_X213 : gh_XOK 213 := ⟨_, _, [(0, 9, 12, 23), (0, 9, 16, 15)], rfl, rfl, ⟨gh_w 869 rfl rfl, gh_w 0 rfl rfl, ⟨by decide, by decide⟩, by decide +kernel, by decide, gh_w 868 rfl rfl⟩, gh_d213, rfl, rfl, rfl, rfl, rfl, gh_hb213, gh_h213, 182, 4, by decide +kernel, gh_w 867 rfl rfl, by decide +kernel, by decide +kernel⟩
set_option maxRecDepth 100000 in
theorem gh_X214 : gh_XOK 214 := ⟨_, _, [(0, 9, 12, 23), (0, 9, 15, 15)], rfl, rfl, ⟨gh_w 888 rfl rfl, gh_w 0 rfl rfl, ⟨by decide, by decide⟩, by decide +kernel, by decide, gh_w 887 rfl rfl⟩, gh_d214, rfl, rfl, rfl, rfl, rfl, gh_hb214, gh_h214, 185, 3, by decide +kernel, gh_w 886 rfl rfl, by decide +kernel, by decide +kernel⟩
set_option maxRecDepth 100000 in
theorem gh_X215 : gh_XOK 215 := ⟨_, _, [(0, 9, 12, 23), (0, 9, 15, 15)], rfl, rfl, ⟨gh_w 895 rfl rfl, gh_w 0 rfl rfl, ⟨by decide, by decide⟩, by decide +kernel, by decide, gh_w 894 rfl rfl⟩, gh_d215, rfl, rfl, rfl, rfl, rfl, gh_hb215, gh_h215, 188, 3, by decide +kernel, gh_w 893 rfl rfl, by decide +kernel, by decide +kernel⟩
set_option maxRecDepth 100000 in
theorem gh_X216 : gh_XOK 216 := ⟨_, _, [(0, 9, 12, 23)], rfl, rfl, ⟨gh_w 910 rfl rfl, gh_w 0 rfl rfl, ⟨by decide, by decide⟩, by decide +kernel, by decide, gh_w 909 rfl rfl⟩, gh_d216, rfl, rfl, rfl, rfl, rfl, gh_hb216, gh_h216, 191, 3, by decide +kernel, gh_w 908 rfl rfl, by decide +kernel, by decide +kernel⟩
set_option maxRecDepth 100000 in
theorem gh_X217 : gh_XOK 217 := ⟨_, _, [(0, 12, 15, 23), (0, 12, 19, 13), (0, 12, 23, 15)], rfl, rfl, ⟨gh_w 917 rfl rfl, gh_w 0 rfl rfl, ⟨by decide, by decide⟩, by decide +kernel, by decide, gh_w 916 rfl rfl⟩, gh_d217, rfl, rfl, rfl, rfl, rfl, gh_hb217, gh_h217, 194, 5, by decide +kernel, gh_w 915 rfl rfl, by decide +kernel, by decide +kernel⟩
set_option maxRecDepth 100000 in
theorem gh_X218 : gh_XOK 218 := ⟨_, _, [(0, 14, 17, 23), (0, 14, 21, 13), (0, 14, 25, 15)], rfl, rfl, ⟨gh_w 938 rfl rfl, gh_w 0 rfl rfl, ⟨by decide, by decide⟩, by decide +kernel, by decide, gh_w 937 rfl rfl⟩, gh_d218, rfl, rfl, rfl, rfl, rfl, gh_hb218, gh_h218, 197, 6, by decide +kernel, gh_w 936 rfl rfl, by decide +kernel, by decide +kernel⟩
set_option maxRecDepth 100000 in
theorem gh_X219 : gh_XOK 219 := ⟨_, _, [(0, 9, 12, 23)], rfl, rfl, ⟨gh_w 955 rfl rfl, gh_w 0 rfl rfl, ⟨by decide, by decide⟩, by decide +kernel, by decide, gh_w 954 rfl rfl⟩, gh_d219, rfl, rfl, rfl, rfl, rfl, gh_hb219, gh_h219, 201, 3, by decide +kernel, gh_w 953 rfl rfl, by decide +kernel, by decide +kernel⟩
set_option maxRecDepth 100000 in
theorem gh_X220 : gh_XOK 220 := ⟨_, _, [(0, 9, 12, 23)], rfl, rfl, ⟨gh_w 967 rfl rfl, gh_w 0 rfl rfl, ⟨by decide, by decide⟩, by decide +kernel, by decide, gh_w 966 rfl rfl⟩, gh_d220, rfl, rfl, rfl, rfl, rfl, gh_hb220, gh_h220, 204, 3, by decide +kernel, gh_w 965 rfl rfl, by decide +kernel, by decide +kernel⟩
set_option maxRecDepth 100000 in
theorem gh_X221 : gh_XOK 221 := ⟨_, _, [(0, 9, 12, 23)], rfl, rfl, ⟨gh_w 978 rfl rfl, gh_w 0 rfl rfl, ⟨by decide, by decide⟩, by decide +kernel, by decide, gh_w 977 rfl rfl⟩, gh_d221, rfl, rfl, rfl, rfl, rfl, gh_hb221, gh_h221, 207, 3, by decide +kernel, gh_w 976 rfl rfl, by decide +kernel, by decide +kernel⟩
set_option maxRecDepth 100000 in
theorem gh_X222 : gh_XOK 222 := ⟨_, _, [(0, 9, 12, 23), (0, 9, 15, 103)], rfl, rfl, ⟨gh_w 985 rfl rfl, gh_w 0 rfl rfl, ⟨by decide, by decide⟩, by decide +kernel, by decide, gh_w 984 rfl rfl⟩, gh_d222, rfl, rfl, rfl, rfl, rfl, gh_hb222, gh_h222, 214, 3, by decide +kernel, gh_w 983 rfl rfl, by decide +kernel, by decide +kernel⟩
theorem gh_Xg : ∀ μ ∈ ([196, 197, 198, 199, 200, 201, 202, 203, 204, 205, 206, 207, 208, 209, 210, 211, 212, 213, 214, 215, 216, 217, 218, 219, 220, 221, 222] : List Nat), gh_XOK μ := List.forall_mem_cons.mpr ⟨gh_X196, List.forall_mem_cons.mpr ⟨gh_X197, List.forall_mem_cons.mpr ⟨gh_X198, List.forall_mem_cons.mpr ⟨gh_X199, List.forall_mem_cons.mpr ⟨gh_X200, List.forall_mem_cons.mpr ⟨gh_X201, List.forall_mem_cons.mpr ⟨gh_X202, List.forall_mem_cons.mpr ⟨gh_X203, List.forall_mem_cons.mpr ⟨gh_X204, List.forall_mem_cons.mpr ⟨gh_X205, List.forall_mem_cons.mpr ⟨gh_X206, List.forall_mem_cons.mpr ⟨gh_X207, List.forall_mem_cons.mpr ⟨gh_X208, List.forall_mem_cons.mpr ⟨gh_X209, List.forall_mem_cons.mpr ⟨gh_X210, List.forall_mem_cons.mpr ⟨gh_X211, List.forall_mem_cons.mpr ⟨gh_X212, List.forall_mem_cons.mpr ⟨gh_X213, List.forall_mem_cons.mpr ⟨gh_X214, List.forall_mem_cons.mpr ⟨gh_X215, List.forall_mem_cons.mpr ⟨gh_X216, List.forall_mem_cons.mpr ⟨gh_X217, List.forall_mem_cons.mpr ⟨gh_X218, List.forall_mem_cons.mpr ⟨gh_X219, List.forall_mem_cons.mpr ⟨gh_X220, List.forall_mem_cons.mpr ⟨gh_X221, List.forall_mem_cons.mpr ⟨gh_X222, (fun _ h => absurd h List.not_mem_nil)⟩⟩⟩⟩⟩⟩⟩⟩⟩⟩⟩⟩⟩⟩⟩⟩⟩⟩⟩⟩⟩⟩⟩⟩⟩⟩⟩
theorem gh_Xall (μ : Nat) (h1 : 196 ≤ μ) (h2 : μ < 223) : gh_XOK μ := gh_Xg μ (by simp only [List.mem_cons, List.not_mem_nil, or_false]; omega)
