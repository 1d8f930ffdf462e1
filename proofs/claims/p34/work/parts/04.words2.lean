def gh_es (E : Nat) : String := (["java/lang/IndexOutOfBoundsException", "java/lang/IllegalArgumentException", "java/lang/IllegalStateException", "java/util/NoSuchElementException"] : List String).getD E ""
def gh_ic (E : Nat) : Nat := ([155, 74, 81, 296] : List Nat).getD E 0
def gh_nm : List String := ["java/lang/RuntimeException", "java/lang/Exception"]
def gh_str : List (Nat × String) := [(72, "days are 1 to 100"), (79, "today would be above 2000"), (82, "a day of birth is 0 to today"), (87, "there are 14 people"), (300, "there is no such person"), (312, "the person is dead"), (314, "the person is alive"), (316, "the estate is closed"), (302, "there is no such proof"), (306, "the weight is out of range"), (140, "the proof has fallen"), (145, "there are 30 doubts"), (153, "there is no such doubt"), (159, "the doubt is not open"), (195, "the person has filed a claim to it"), (121, "a child is born on a later day than its parent"), (124, "there are 30 proofs"), (308, "both persons are the same"), (310, "from is 0 to 59, and to is from + 1 to 60"), (256, "one of the units was granted before"), (265, "none of the units belongs to the first one now"), (270, "there were 60 handings"), (304, "there is no such unit"), (294, "the unit belongs to nobody"), (168, "a place is 0 or 1")]
/-- every throw is the printed stretch: new, dup, ldc, the constructor, athrow -/
def gh_thrB (own : Nat) (K : List (Nat × Instr × Nat)) : Bool := K.all fun e => match e.2.1 with
  | .new ik => match gh_xR own ik with
    | none => true
    | some E => decide (own = 7) && decide (E < 4) && decide (K.lookup (e.1 + 3) = some (.dup, 1)) && (match K.lookup (e.1 + 4) with
      | some (.ldc is, 2) => (gh_str.lookup is).isSome && decide (K.lookup (e.1 + 6) = some (.invokespecial (gh_ic E), 3)) && decide (K.lookup (e.1 + 9) = some (.athrow, 1))
      | some (.ldc_w is, 3) => (gh_str.lookup is).isSome && decide (K.lookup (e.1 + 7) = some (.invokespecial (gh_ic E), 3)) && decide (K.lookup (e.1 + 10) = some (.athrow, 1))
      | _ => false)
  | _ => true
theorem gh_xa0 : ∀ w ∈ (vx_atS "Treeclerk" 155 "java/lang/IndexOutOfBoundsException" ["java/lang/RuntimeException", "java/lang/Exception"]).filter goodWord, w ∈ lw_tbl := by decide +kernel
theorem gh_xb0 : ∀ w ∈ (vx_atS "Treeclerk" 155 "java/lang/IndexOutOfBoundsException" ["java/lang/RuntimeException", "java/lang/Exception"]).filter (fun w => !goodWord w), w ∈ gh_nst := by decide +kernel
theorem gh_xc0 : ∀ w ∈ vx_atS "Treeclerk" 155 "java/lang/IndexOutOfBoundsException" ["java/lang/RuntimeException", "java/lang/Exception"], vx_ot w = true := by decide +kernel
set_option maxRecDepth 100000 in
theorem gh_xi0 : Cond.initialized "java/lang/IndexOutOfBoundsException" ∈ gh_wsG := gh_w 15 rfl rfl
theorem gh_xa1 : ∀ w ∈ (vx_atS "Treeclerk" 74 "java/lang/IllegalArgumentException" ["java/lang/RuntimeException", "java/lang/Exception"]).filter goodWord, w ∈ lw_tbl := by decide +kernel
theorem gh_xb1 : ∀ w ∈ (vx_atS "Treeclerk" 74 "java/lang/IllegalArgumentException" ["java/lang/RuntimeException", "java/lang/Exception"]).filter (fun w => !goodWord w), w ∈ gh_nst := by decide +kernel
theorem gh_xc1 : ∀ w ∈ vx_atS "Treeclerk" 74 "java/lang/IllegalArgumentException" ["java/lang/RuntimeException", "java/lang/Exception"], vx_ot w = true := by decide +kernel
set_option maxRecDepth 100000 in
theorem gh_xi1 : Cond.initialized "java/lang/IllegalArgumentException" ∈ gh_wsG := gh_w 13 rfl rfl
theorem gh_xa2 : ∀ w ∈ (vx_atS "Treeclerk" 81 "java/lang/IllegalStateException" ["java/lang/RuntimeException", "java/lang/Exception"]).filter goodWord, w ∈ lw_tbl := by decide +kernel
theorem gh_xb2 : ∀ w ∈ (vx_atS "Treeclerk" 81 "java/lang/IllegalStateException" ["java/lang/RuntimeException", "java/lang/Exception"]).filter (fun w => !goodWord w), w ∈ gh_nst := by decide +kernel
theorem gh_xc2 : ∀ w ∈ vx_atS "Treeclerk" 81 "java/lang/IllegalStateException" ["java/lang/RuntimeException", "java/lang/Exception"], vx_ot w = true := by decide +kernel
set_option maxRecDepth 100000 in
theorem gh_xi2 : Cond.initialized "java/lang/IllegalStateException" ∈ gh_wsG := gh_w 14 rfl rfl
def gh_cOK (own : Nat) (e : Nat × Nat) : Prop := ∃ (C : String) (T : u_T) (N : Nat), vwCl[e.2]? = some (C, T, N) ∧ Cond.classLink (gh_on own) e.1 C ∈ gh_wsG ∧ Cond.instantiable C N ∈ gh_wsG ∧ Cond.initialized C ∈ gh_wsG
set_option maxRecDepth 100000 in
theorem gh_k0 : ∀ e ∈ gh_crt.getD 0 [], gh_cOK 0 e := by
  show ∀ e ∈ ([(9, 6)] : List (Nat × Nat)), gh_cOK 0 e
  exact List.forall_mem_cons.mpr ⟨⟨_, _, _, rfl, gh_w 128 rfl rfl, gh_w 129 rfl rfl, gh_w 7 rfl rfl⟩, (fun _ h => absurd h List.not_mem_nil)⟩
set_option maxRecDepth 100000 in
theorem gh_k1 : ∀ e ∈ gh_crt.getD 1 [], gh_cOK 1 e := by
  show ∀ e ∈ ([(35, 6)] : List (Nat × Nat)), gh_cOK 1 e
  exact List.forall_mem_cons.mpr ⟨⟨_, _, _, rfl, gh_w 213 rfl rfl, gh_w 129 rfl rfl, gh_w 7 rfl rfl⟩, (fun _ h => absurd h List.not_mem_nil)⟩
set_option maxRecDepth 100000 in
theorem gh_k2 : ∀ e ∈ gh_crt.getD 2 [], gh_cOK 2 e := by
  show ∀ e ∈ ([] : List (Nat × Nat)), gh_cOK 2 e
  exact (fun _ h => absurd h List.not_mem_nil)
set_option maxRecDepth 100000 in
theorem gh_k3 : ∀ e ∈ gh_crt.getD 3 [], gh_cOK 3 e := by
  show ∀ e ∈ ([] : List (Nat × Nat)), gh_cOK 3 e
  exact (fun _ h => absurd h List.not_mem_nil)
set_option maxRecDepth 100000 in
theorem gh_k4 : ∀ e ∈ gh_crt.getD 4 [], gh_cOK 4 e := by
  show ∀ e ∈ ([] : List (Nat × Nat)), gh_cOK 4 e
  exact (fun _ h => absurd h List.not_mem_nil)
set_option maxRecDepth 100000 in
theorem gh_k5 : ∀ e ∈ gh_crt.getD 5 [], gh_cOK 5 e := by
  show ∀ e ∈ ([] : List (Nat × Nat)), gh_cOK 5 e
  exact (fun _ h => absurd h List.not_mem_nil)
set_option maxRecDepth 100000 in
theorem gh_k6 : ∀ e ∈ gh_crt.getD 6 [], gh_cOK 6 e := by
  show ∀ e ∈ ([] : List (Nat × Nat)), gh_cOK 6 e
  exact (fun _ h => absurd h List.not_mem_nil)
set_option maxRecDepth 100000 in
theorem gh_k7 : ∀ e ∈ gh_crt.getD 7 [], gh_cOK 7 e := by
  show ∀ e ∈ ([(9, 2), (16, 5), (23, 3), (33, 1), (39, 0), (46, 4), (53, 6)] : List (Nat × Nat)), gh_cOK 7 e
  exact List.forall_mem_cons.mpr ⟨⟨_, _, _, rfl, gh_w 28 rfl rfl, gh_w 29 rfl rfl, gh_w 2 rfl rfl⟩, List.forall_mem_cons.mpr ⟨⟨_, _, _, rfl, gh_w 55 rfl rfl, gh_w 56 rfl rfl, gh_w 3 rfl rfl⟩, List.forall_mem_cons.mpr ⟨⟨_, _, _, rfl, gh_w 98 rfl rfl, gh_w 99 rfl rfl, gh_w 4 rfl rfl⟩, List.forall_mem_cons.mpr ⟨⟨_, _, _, rfl, gh_w 120 rfl rfl, gh_w 208 rfl rfl, gh_w 9 rfl rfl⟩, List.forall_mem_cons.mpr ⟨⟨_, _, _, rfl, gh_w 122 rfl rfl, gh_w 123 rfl rfl, gh_w 6 rfl rfl⟩, List.forall_mem_cons.mpr ⟨⟨_, _, _, rfl, gh_w 161 rfl rfl, gh_w 162 rfl rfl, gh_w 8 rfl rfl⟩, List.forall_mem_cons.mpr ⟨⟨_, _, _, rfl, gh_w 206 rfl rfl, gh_w 129 rfl rfl, gh_w 7 rfl rfl⟩, (fun _ h => absurd h List.not_mem_nil)⟩⟩⟩⟩⟩⟩⟩
set_option maxRecDepth 100000 in
theorem gh_k8 : ∀ e ∈ gh_crt.getD 8 [], gh_cOK 8 e := by
  show ∀ e ∈ ([] : List (Nat × Nat)), gh_cOK 8 e
  exact (fun _ h => absurd h List.not_mem_nil)
set_option maxRecDepth 100000 in
theorem gh_k9 : ∀ e ∈ gh_crt.getD 9 [], gh_cOK 9 e := by
  show ∀ e ∈ ([(9, 7)] : List (Nat × Nat)), gh_cOK 9 e
  exact List.forall_mem_cons.mpr ⟨⟨_, _, _, rfl, gh_w 20 rfl rfl, gh_w 21 rfl rfl, gh_w 1 rfl rfl⟩, (fun _ h => absurd h List.not_mem_nil)⟩
set_option maxRecDepth 100000 in
theorem gh_k10 : ∀ e ∈ gh_crt.getD 10 [], gh_cOK 10 e := by
  show ∀ e ∈ ([] : List (Nat × Nat)), gh_cOK 10 e
  exact (fun _ h => absurd h List.not_mem_nil)
set_option maxRecDepth 100000 in
theorem gh_k11 : ∀ e ∈ gh_crt.getD 11 [], gh_cOK 11 e := by
  show ∀ e ∈ ([] : List (Nat × Nat)), gh_cOK 11 e
  exact (fun _ h => absurd h List.not_mem_nil)
set_option maxRecDepth 100000 in
theorem gh_k12 : ∀ e ∈ gh_crt.getD 12 [], gh_cOK 12 e := by
  show ∀ e ∈ ([] : List (Nat × Nat)), gh_cOK 12 e
  exact (fun _ h => absurd h List.not_mem_nil)
set_option maxRecDepth 100000 in
theorem gh_xl : ∀ e ∈ gh_xrt.getD 7 [], Cond.classLink "Treeclerk" e.1 (gh_es e.2) ∈ gh_wsG := by
  show ∀ e ∈ ([(70, 1), (77, 2), (151, 0), (292, 3)] : List (Nat × Nat)), Cond.classLink "Treeclerk" e.1 (gh_es e.2) ∈ gh_wsG
  exact List.forall_mem_cons.mpr ⟨gh_w 312 rfl rfl, List.forall_mem_cons.mpr ⟨gh_w 381 rfl rfl, List.forall_mem_cons.mpr ⟨gh_w 419 rfl rfl, List.forall_mem_cons.mpr ⟨gh_w 836 rfl rfl, (fun _ h => absurd h List.not_mem_nil)⟩⟩⟩⟩
set_option maxRecDepth 100000 in
theorem gh_ic0 : ∀ e ∈ gh_irt.getD 0 [], Cond.constant (gh_on 0) e.1 e.2 ∈ gh_wsG := by
  show ∀ e ∈ ([] : List (Nat × Int32)), Cond.constant (gh_on 0) e.1 e.2 ∈ gh_wsG
  exact (fun _ h => absurd h List.not_mem_nil)
set_option maxRecDepth 100000 in
theorem gh_ic1 : ∀ e ∈ gh_irt.getD 1 [], Cond.constant (gh_on 1) e.1 e.2 ∈ gh_wsG := by
  show ∀ e ∈ ([] : List (Nat × Int32)), Cond.constant (gh_on 1) e.1 e.2 ∈ gh_wsG
  exact (fun _ h => absurd h List.not_mem_nil)
set_option maxRecDepth 100000 in
theorem gh_ic2 : ∀ e ∈ gh_irt.getD 2 [], Cond.constant (gh_on 2) e.1 e.2 ∈ gh_wsG := by
  show ∀ e ∈ ([] : List (Nat × Int32)), Cond.constant (gh_on 2) e.1 e.2 ∈ gh_wsG
  exact (fun _ h => absurd h List.not_mem_nil)
set_option maxRecDepth 100000 in
theorem gh_ic3 : ∀ e ∈ gh_irt.getD 3 [], Cond.constant (gh_on 3) e.1 e.2 ∈ gh_wsG := by
  show ∀ e ∈ ([] : List (Nat × Int32)), Cond.constant (gh_on 3) e.1 e.2 ∈ gh_wsG
  exact (fun _ h => absurd h List.not_mem_nil)
set_option maxRecDepth 100000 in
theorem gh_ic4 : ∀ e ∈ gh_irt.getD 4 [], Cond.constant (gh_on 4) e.1 e.2 ∈ gh_wsG := by
  show ∀ e ∈ ([] : List (Nat × Int32)), Cond.constant (gh_on 4) e.1 e.2 ∈ gh_wsG
  exact (fun _ h => absurd h List.not_mem_nil)
set_option maxRecDepth 100000 in
theorem gh_ic5 : ∀ e ∈ gh_irt.getD 5 [], Cond.constant (gh_on 5) e.1 e.2 ∈ gh_wsG := by
  show ∀ e ∈ ([] : List (Nat × Int32)), Cond.constant (gh_on 5) e.1 e.2 ∈ gh_wsG
  exact (fun _ h => absurd h List.not_mem_nil)
set_option maxRecDepth 100000 in
theorem gh_ic6 : ∀ e ∈ gh_irt.getD 6 [], Cond.constant (gh_on 6) e.1 e.2 ∈ gh_wsG := by
  show ∀ e ∈ ([] : List (Nat × Int32)), Cond.constant (gh_on 6) e.1 e.2 ∈ gh_wsG
  exact (fun _ h => absurd h List.not_mem_nil)
set_option maxRecDepth 100000 in
theorem gh_ic7 : ∀ e ∈ gh_irt.getD 7 [], Cond.constant (gh_on 7) e.1 e.2 ∈ gh_wsG := by
  show ∀ e ∈ ([] : List (Nat × Int32)), Cond.constant (gh_on 7) e.1 e.2 ∈ gh_wsG
  exact (fun _ h => absurd h List.not_mem_nil)
set_option maxRecDepth 100000 in
theorem gh_ic8 : ∀ e ∈ gh_irt.getD 8 [], Cond.constant (gh_on 8) e.1 e.2 ∈ gh_wsG := by
  show ∀ e ∈ ([] : List (Nat × Int32)), Cond.constant (gh_on 8) e.1 e.2 ∈ gh_wsG
  exact (fun _ h => absurd h List.not_mem_nil)
set_option maxRecDepth 100000 in
theorem gh_ic9 : ∀ e ∈ gh_irt.getD 9 [], Cond.constant (gh_on 9) e.1 e.2 ∈ gh_wsG := by
  show ∀ e ∈ ([(7, 1073741823)] : List (Nat × Int32)), Cond.constant (gh_on 9) e.1 e.2 ∈ gh_wsG
  exact List.forall_mem_cons.mpr ⟨gh_w 301 rfl rfl, (fun _ h => absurd h List.not_mem_nil)⟩
set_option maxRecDepth 100000 in
theorem gh_ic10 : ∀ e ∈ gh_irt.getD 10 [], Cond.constant (gh_on 10) e.1 e.2 ∈ gh_wsG := by
  show ∀ e ∈ ([(265, 1431655765), (266, 858993459), (267, 252645135)] : List (Nat × Int32)), Cond.constant (gh_on 10) e.1 e.2 ∈ gh_wsG
  exact List.forall_mem_cons.mpr ⟨gh_w 531 rfl rfl, List.forall_mem_cons.mpr ⟨gh_w 532 rfl rfl, List.forall_mem_cons.mpr ⟨gh_w 533 rfl rfl, (fun _ h => absurd h List.not_mem_nil)⟩⟩⟩
set_option maxRecDepth 100000 in
theorem gh_ic11 : ∀ e ∈ gh_irt.getD 11 [], Cond.constant (gh_on 11) e.1 e.2 ∈ gh_wsG := by
  show ∀ e ∈ ([] : List (Nat × Int32)), Cond.constant (gh_on 11) e.1 e.2 ∈ gh_wsG
  exact (fun _ h => absurd h List.not_mem_nil)
set_option maxRecDepth 100000 in
theorem gh_ic12 : ∀ e ∈ gh_irt.getD 12 [], Cond.constant (gh_on 12) e.1 e.2 ∈ gh_wsG := by
  show ∀ e ∈ ([] : List (Nat × Int32)), Cond.constant (gh_on 12) e.1 e.2 ∈ gh_wsG
  exact (fun _ h => absurd h List.not_mem_nil)
set_option maxRecDepth 100000 in
theorem gh_jc0 : ∀ e ∈ gh_jrt.getD 0 [], Cond.constantLong (gh_on 0) e.1 e.2 ∈ gh_wsG := by
  show ∀ e ∈ ([] : List (Nat × Int64)), Cond.constantLong (gh_on 0) e.1 e.2 ∈ gh_wsG
  exact (fun _ h => absurd h List.not_mem_nil)
set_option maxRecDepth 100000 in
theorem gh_jc1 : ∀ e ∈ gh_jrt.getD 1 [], Cond.constantLong (gh_on 1) e.1 e.2 ∈ gh_wsG := by
  show ∀ e ∈ ([] : List (Nat × Int64)), Cond.constantLong (gh_on 1) e.1 e.2 ∈ gh_wsG
  exact (fun _ h => absurd h List.not_mem_nil)
set_option maxRecDepth 100000 in
theorem gh_jc2 : ∀ e ∈ gh_jrt.getD 2 [], Cond.constantLong (gh_on 2) e.1 e.2 ∈ gh_wsG := by
  show ∀ e ∈ ([] : List (Nat × Int64)), Cond.constantLong (gh_on 2) e.1 e.2 ∈ gh_wsG
  exact (fun _ h => absurd h List.not_mem_nil)
set_option maxRecDepth 100000 in
theorem gh_jc3 : ∀ e ∈ gh_jrt.getD 3 [], Cond.constantLong (gh_on 3) e.1 e.2 ∈ gh_wsG := by
  show ∀ e ∈ ([] : List (Nat × Int64)), Cond.constantLong (gh_on 3) e.1 e.2 ∈ gh_wsG
  exact (fun _ h => absurd h List.not_mem_nil)
set_option maxRecDepth 100000 in
theorem gh_jc4 : ∀ e ∈ gh_jrt.getD 4 [], Cond.constantLong (gh_on 4) e.1 e.2 ∈ gh_wsG := by
  show ∀ e ∈ ([] : List (Nat × Int64)), Cond.constantLong (gh_on 4) e.1 e.2 ∈ gh_wsG
  exact (fun _ h => absurd h List.not_mem_nil)
set_option maxRecDepth 100000 in
theorem gh_jc5 : ∀ e ∈ gh_jrt.getD 5 [], Cond.constantLong (gh_on 5) e.1 e.2 ∈ gh_wsG := by
  show ∀ e ∈ ([] : List (Nat × Int64)), Cond.constantLong (gh_on 5) e.1 e.2 ∈ gh_wsG
  exact (fun _ h => absurd h List.not_mem_nil)
set_option maxRecDepth 100000 in
theorem gh_jc6 : ∀ e ∈ gh_jrt.getD 6 [], Cond.constantLong (gh_on 6) e.1 e.2 ∈ gh_wsG := by
  show ∀ e ∈ ([] : List (Nat × Int64)), Cond.constantLong (gh_on 6) e.1 e.2 ∈ gh_wsG
  exact (fun _ h => absurd h List.not_mem_nil)
set_option maxRecDepth 100000 in
theorem gh_jc7 : ∀ e ∈ gh_jrt.getD 7 [], Cond.constantLong (gh_on 7) e.1 e.2 ∈ gh_wsG := by
  show ∀ e ∈ ([] : List (Nat × Int64)), Cond.constantLong (gh_on 7) e.1 e.2 ∈ gh_wsG
  exact (fun _ h => absurd h List.not_mem_nil)
set_option maxRecDepth 100000 in
theorem gh_jc8 : ∀ e ∈ gh_jrt.getD 8 [], Cond.constantLong (gh_on 8) e.1 e.2 ∈ gh_wsG := by
  show ∀ e ∈ ([] : List (Nat × Int64)), Cond.constantLong (gh_on 8) e.1 e.2 ∈ gh_wsG
  exact (fun _ h => absurd h List.not_mem_nil)
set_option maxRecDepth 100000 in
theorem gh_jc9 : ∀ e ∈ gh_jrt.getD 9 [], Cond.constantLong (gh_on 9) e.1 e.2 ∈ gh_wsG := by
  show ∀ e ∈ ([(64, -8)] : List (Nat × Int64)), Cond.constantLong (gh_on 9) e.1 e.2 ∈ gh_wsG
  exact List.forall_mem_cons.mpr ⟨gh_w 960 rfl rfl, (fun _ h => absurd h List.not_mem_nil)⟩
set_option maxRecDepth 100000 in
theorem gh_jc10 : ∀ e ∈ gh_jrt.getD 10 [], Cond.constantLong (gh_on 10) e.1 e.2 ∈ gh_wsG := by
  show ∀ e ∈ ([] : List (Nat × Int64)), Cond.constantLong (gh_on 10) e.1 e.2 ∈ gh_wsG
  exact (fun _ h => absurd h List.not_mem_nil)
set_option maxRecDepth 100000 in
theorem gh_jc11 : ∀ e ∈ gh_jrt.getD 11 [], Cond.constantLong (gh_on 11) e.1 e.2 ∈ gh_wsG := by
  show ∀ e ∈ ([] : List (Nat × Int64)), Cond.constantLong (gh_on 11) e.1 e.2 ∈ gh_wsG
  exact (fun _ h => absurd h List.not_mem_nil)
set_option maxRecDepth 100000 in
theorem gh_jc12 : ∀ e ∈ gh_jrt.getD 12 [], Cond.constantLong (gh_on 12) e.1 e.2 ∈ gh_wsG := by
  show ∀ e ∈ ([] : List (Nat × Int64)), Cond.constantLong (gh_on 12) e.1 e.2 ∈ gh_wsG
  exact (fun _ h => absurd h List.not_mem_nil)
set_option maxRecDepth 100000 in
theorem gh_ao : Cond.arrayOver (.object RX1) ∈ lw_tbl := List.mem_append_right _ (List.mem_of_getElem? (i := 121) rfl)
set_option maxRecDepth 100000 in
theorem gh_ac_int : Cond.arrayClass .int ∈ gh_wsG := gh_w 54 rfl rfl
set_option maxRecDepth 100000 in
theorem gh_ac_long : Cond.arrayClass .long ∈ gh_wsG := gh_w 144 rfl rfl
set_option maxRecDepth 100000 in
theorem gh_ac_boolean : Cond.arrayClass .boolean ∈ gh_wsG := gh_w 97 rfl rfl
set_option maxRecDepth 100000 in
theorem gh_el : ∀ own idx : Nat, gh_eR own idx = true → Cond.classLink (gh_on own) idx RX1 ∈ gh_wsG ∧ own = 7 ∧ idx = 33 := by
  intro own idx h
  have h2 : own = 7 ∧ idx = 33 := by
    match own, h with
    | 7, h => simp [gh_eR, gh_ert] at h; exact ⟨rfl, h⟩
    | 0, h => simp [gh_eR, gh_ert] at h
    | 1, h => simp [gh_eR, gh_ert] at h
    | 2, h => simp [gh_eR, gh_ert] at h
    | 3, h => simp [gh_eR, gh_ert] at h
    | 4, h => simp [gh_eR, gh_ert] at h
    | 5, h => simp [gh_eR, gh_ert] at h
    | 6, h => simp [gh_eR, gh_ert] at h
    | 8, h => simp [gh_eR, gh_ert] at h
    | 9, h => simp [gh_eR, gh_ert] at h
    | 10, h => simp [gh_eR, gh_ert] at h
    | 11, h => simp [gh_eR, gh_ert] at h
    | 12, h => simp [gh_eR, gh_ert] at h
    | k + 13, h => simp [gh_eR, gh_ert] at h
  obtain ⟨rfl, rfl⟩ := h2
  exact ⟨gh_w 120 rfl rfl, rfl, rfl⟩
set_option maxRecDepth 100000 in
theorem gh_o0 : ∀ e ∈ gh_ort.getD 0 [], Cond.methodLink (gh_on 0) e objectInit ∈ gh_wsG := by
  show ∀ e ∈ ([3] : List Nat), Cond.methodLink (gh_on 0) e objectInit ∈ gh_wsG
  exact List.forall_mem_cons.mpr ⟨gh_w 127 rfl rfl, (fun _ h => absurd h List.not_mem_nil)⟩
set_option maxRecDepth 100000 in
theorem gh_o1 : ∀ e ∈ gh_ort.getD 1 [], Cond.methodLink (gh_on 1) e objectInit ∈ gh_wsG := by
  show ∀ e ∈ ([3] : List Nat), Cond.methodLink (gh_on 1) e objectInit ∈ gh_wsG
  exact List.forall_mem_cons.mpr ⟨gh_w 212 rfl rfl, (fun _ h => absurd h List.not_mem_nil)⟩
set_option maxRecDepth 100000 in
theorem gh_o2 : ∀ e ∈ gh_ort.getD 2 [], Cond.methodLink (gh_on 2) e objectInit ∈ gh_wsG := by
  show ∀ e ∈ ([3] : List Nat), Cond.methodLink (gh_on 2) e objectInit ∈ gh_wsG
  exact List.forall_mem_cons.mpr ⟨gh_w 33 rfl rfl, (fun _ h => absurd h List.not_mem_nil)⟩
set_option maxRecDepth 100000 in
theorem gh_o3 : ∀ e ∈ gh_ort.getD 3 [], Cond.methodLink (gh_on 3) e objectInit ∈ gh_wsG := by
  show ∀ e ∈ ([3] : List Nat), Cond.methodLink (gh_on 3) e objectInit ∈ gh_wsG
  exact List.forall_mem_cons.mpr ⟨gh_w 103 rfl rfl, (fun _ h => absurd h List.not_mem_nil)⟩
set_option maxRecDepth 100000 in
theorem gh_o4 : ∀ e ∈ gh_ort.getD 4 [], Cond.methodLink (gh_on 4) e objectInit ∈ gh_wsG := by
  show ∀ e ∈ ([3] : List Nat), Cond.methodLink (gh_on 4) e objectInit ∈ gh_wsG
  exact List.forall_mem_cons.mpr ⟨gh_w 166 rfl rfl, (fun _ h => absurd h List.not_mem_nil)⟩
set_option maxRecDepth 100000 in
theorem gh_o5 : ∀ e ∈ gh_ort.getD 5 [], Cond.methodLink (gh_on 5) e objectInit ∈ gh_wsG := by
  show ∀ e ∈ ([3] : List Nat), Cond.methodLink (gh_on 5) e objectInit ∈ gh_wsG
  exact List.forall_mem_cons.mpr ⟨gh_w 60 rfl rfl, (fun _ h => absurd h List.not_mem_nil)⟩
set_option maxRecDepth 100000 in
theorem gh_o6 : ∀ e ∈ gh_ort.getD 6 [], Cond.methodLink (gh_on 6) e objectInit ∈ gh_wsG := by
  show ∀ e ∈ ([3] : List Nat), Cond.methodLink (gh_on 6) e objectInit ∈ gh_wsG
  exact List.forall_mem_cons.mpr ⟨gh_w 133 rfl rfl, (fun _ h => absurd h List.not_mem_nil)⟩
set_option maxRecDepth 100000 in
theorem gh_o7 : ∀ e ∈ gh_ort.getD 7 [], Cond.methodLink (gh_on 7) e objectInit ∈ gh_wsG := by
  show ∀ e ∈ ([3] : List Nat), Cond.methodLink (gh_on 7) e objectInit ∈ gh_wsG
  exact List.forall_mem_cons.mpr ⟨gh_w 25 rfl rfl, (fun _ h => absurd h List.not_mem_nil)⟩
set_option maxRecDepth 100000 in
theorem gh_o8 : ∀ e ∈ gh_ort.getD 8 [], Cond.methodLink (gh_on 8) e objectInit ∈ gh_wsG := by
  show ∀ e ∈ ([] : List Nat), Cond.methodLink (gh_on 8) e objectInit ∈ gh_wsG
  exact (fun _ h => absurd h List.not_mem_nil)
set_option maxRecDepth 100000 in
theorem gh_o9 : ∀ e ∈ gh_ort.getD 9 [], Cond.methodLink (gh_on 9) e objectInit ∈ gh_wsG := by
  show ∀ e ∈ ([] : List Nat), Cond.methodLink (gh_on 9) e objectInit ∈ gh_wsG
  exact (fun _ h => absurd h List.not_mem_nil)
set_option maxRecDepth 100000 in
theorem gh_o10 : ∀ e ∈ gh_ort.getD 10 [], Cond.methodLink (gh_on 10) e objectInit ∈ gh_wsG := by
  show ∀ e ∈ ([] : List Nat), Cond.methodLink (gh_on 10) e objectInit ∈ gh_wsG
  exact (fun _ h => absurd h List.not_mem_nil)
set_option maxRecDepth 100000 in
theorem gh_o11 : ∀ e ∈ gh_ort.getD 11 [], Cond.methodLink (gh_on 11) e objectInit ∈ gh_wsG := by
  show ∀ e ∈ ([] : List Nat), Cond.methodLink (gh_on 11) e objectInit ∈ gh_wsG
  exact (fun _ h => absurd h List.not_mem_nil)
set_option maxRecDepth 100000 in
theorem gh_o12 : ∀ e ∈ gh_ort.getD 12 [], Cond.methodLink (gh_on 12) e objectInit ∈ gh_wsG := by
  show ∀ e ∈ ([] : List Nat), Cond.methodLink (gh_on 12) e objectInit ∈ gh_wsG
  exact (fun _ h => absurd h List.not_mem_nil)
set_option maxRecDepth 100000 in
theorem gh_oi : Cond.instanceMethod objectInit ∈ gh_wsG := gh_w 26 rfl rfl
set_option maxRecDepth 100000 in
theorem gh_oc : Cond.code objectInit ⟨#[0xb1]⟩ 1 none ∈ gh_wsG := gh_w 27 rfl rfl
set_option maxRecDepth 100000 in
theorem gh_a0 : ∀ e ∈ gh_art.getD 0 [], Cond.methodLink (gh_on 0) e arraycopyName ∈ gh_wsG := by
  show ∀ e ∈ ([] : List Nat), Cond.methodLink (gh_on 0) e arraycopyName ∈ gh_wsG
  exact (fun _ h => absurd h List.not_mem_nil)
set_option maxRecDepth 100000 in
theorem gh_a1 : ∀ e ∈ gh_art.getD 1 [], Cond.methodLink (gh_on 1) e arraycopyName ∈ gh_wsG := by
  show ∀ e ∈ ([] : List Nat), Cond.methodLink (gh_on 1) e arraycopyName ∈ gh_wsG
  exact (fun _ h => absurd h List.not_mem_nil)
set_option maxRecDepth 100000 in
theorem gh_a2 : ∀ e ∈ gh_art.getD 2 [], Cond.methodLink (gh_on 2) e arraycopyName ∈ gh_wsG := by
  show ∀ e ∈ ([] : List Nat), Cond.methodLink (gh_on 2) e arraycopyName ∈ gh_wsG
  exact (fun _ h => absurd h List.not_mem_nil)
set_option maxRecDepth 100000 in
theorem gh_a3 : ∀ e ∈ gh_art.getD 3 [], Cond.methodLink (gh_on 3) e arraycopyName ∈ gh_wsG := by
  show ∀ e ∈ ([] : List Nat), Cond.methodLink (gh_on 3) e arraycopyName ∈ gh_wsG
  exact (fun _ h => absurd h List.not_mem_nil)
set_option maxRecDepth 100000 in
theorem gh_a4 : ∀ e ∈ gh_art.getD 4 [], Cond.methodLink (gh_on 4) e arraycopyName ∈ gh_wsG := by
  show ∀ e ∈ ([90] : List Nat), Cond.methodLink (gh_on 4) e arraycopyName ∈ gh_wsG
  exact List.forall_mem_cons.mpr ⟨gh_w 577 rfl rfl, (fun _ h => absurd h List.not_mem_nil)⟩
set_option maxRecDepth 100000 in
theorem gh_a5 : ∀ e ∈ gh_art.getD 5 [], Cond.methodLink (gh_on 5) e arraycopyName ∈ gh_wsG := by
  show ∀ e ∈ ([] : List Nat), Cond.methodLink (gh_on 5) e arraycopyName ∈ gh_wsG
  exact (fun _ h => absurd h List.not_mem_nil)
set_option maxRecDepth 100000 in
theorem gh_a6 : ∀ e ∈ gh_art.getD 6 [], Cond.methodLink (gh_on 6) e arraycopyName ∈ gh_wsG := by
  show ∀ e ∈ ([24] : List Nat), Cond.methodLink (gh_on 6) e arraycopyName ∈ gh_wsG
  exact List.forall_mem_cons.mpr ⟨gh_w 689 rfl rfl, (fun _ h => absurd h List.not_mem_nil)⟩
set_option maxRecDepth 100000 in
theorem gh_a7 : ∀ e ∈ gh_art.getD 7 [], Cond.methodLink (gh_on 7) e arraycopyName ∈ gh_wsG := by
  show ∀ e ∈ ([] : List Nat), Cond.methodLink (gh_on 7) e arraycopyName ∈ gh_wsG
  exact (fun _ h => absurd h List.not_mem_nil)
set_option maxRecDepth 100000 in
theorem gh_a8 : ∀ e ∈ gh_art.getD 8 [], Cond.methodLink (gh_on 8) e arraycopyName ∈ gh_wsG := by
  show ∀ e ∈ ([] : List Nat), Cond.methodLink (gh_on 8) e arraycopyName ∈ gh_wsG
  exact (fun _ h => absurd h List.not_mem_nil)
set_option maxRecDepth 100000 in
theorem gh_a9 : ∀ e ∈ gh_art.getD 9 [], Cond.methodLink (gh_on 9) e arraycopyName ∈ gh_wsG := by
  show ∀ e ∈ ([] : List Nat), Cond.methodLink (gh_on 9) e arraycopyName ∈ gh_wsG
  exact (fun _ h => absurd h List.not_mem_nil)
set_option maxRecDepth 100000 in
theorem gh_a10 : ∀ e ∈ gh_art.getD 10 [], Cond.methodLink (gh_on 10) e arraycopyName ∈ gh_wsG := by
  show ∀ e ∈ ([] : List Nat), Cond.methodLink (gh_on 10) e arraycopyName ∈ gh_wsG
  exact (fun _ h => absurd h List.not_mem_nil)
set_option maxRecDepth 100000 in
theorem gh_a11 : ∀ e ∈ gh_art.getD 11 [], Cond.methodLink (gh_on 11) e arraycopyName ∈ gh_wsG := by
  show ∀ e ∈ ([] : List Nat), Cond.methodLink (gh_on 11) e arraycopyName ∈ gh_wsG
  exact (fun _ h => absurd h List.not_mem_nil)
set_option maxRecDepth 100000 in
theorem gh_a12 : ∀ e ∈ gh_art.getD 12 [], Cond.methodLink (gh_on 12) e arraycopyName ∈ gh_wsG := by
  show ∀ e ∈ ([] : List Nat), Cond.methodLink (gh_on 12) e arraycopyName ∈ gh_wsG
  exact (fun _ h => absurd h List.not_mem_nil)
set_option maxRecDepth 100000 in
theorem gh_an : Cond.native arraycopyName ∈ gh_wsG := gh_w 579 rfl rfl
set_option maxRecDepth 100000 in
theorem gh_as : Cond.static arraycopyName ∈ gh_wsG := gh_w 578 rfl rfl
set_option maxRecDepth 100000 in
theorem gh_ai : Cond.initialized "java/lang/System" ∈ gh_wsG := gh_w 17 rfl rfl
set_option maxRecDepth 100000 in
theorem gh_t0 : ∀ e ∈ gh_trt.getD 0 [], Cond.methodLink (gh_on 0) e.1 (if e.2 = 0 then Lib.Math.max.name else Lib.Math.min.name) ∈ gh_wsG := by
  show ∀ e ∈ ([] : List (Nat × Nat)), Cond.methodLink (gh_on 0) e.1 (if e.2 = 0 then Lib.Math.max.name else Lib.Math.min.name) ∈ gh_wsG
  exact (fun _ h => absurd h List.not_mem_nil)
set_option maxRecDepth 100000 in
theorem gh_t1 : ∀ e ∈ gh_trt.getD 1 [], Cond.methodLink (gh_on 1) e.1 (if e.2 = 0 then Lib.Math.max.name else Lib.Math.min.name) ∈ gh_wsG := by
  show ∀ e ∈ ([] : List (Nat × Nat)), Cond.methodLink (gh_on 1) e.1 (if e.2 = 0 then Lib.Math.max.name else Lib.Math.min.name) ∈ gh_wsG
  exact (fun _ h => absurd h List.not_mem_nil)
set_option maxRecDepth 100000 in
theorem gh_t2 : ∀ e ∈ gh_trt.getD 2 [], Cond.methodLink (gh_on 2) e.1 (if e.2 = 0 then Lib.Math.max.name else Lib.Math.min.name) ∈ gh_wsG := by
  show ∀ e ∈ ([] : List (Nat × Nat)), Cond.methodLink (gh_on 2) e.1 (if e.2 = 0 then Lib.Math.max.name else Lib.Math.min.name) ∈ gh_wsG
  exact (fun _ h => absurd h List.not_mem_nil)
set_option maxRecDepth 100000 in
theorem gh_t3 : ∀ e ∈ gh_trt.getD 3 [], Cond.methodLink (gh_on 3) e.1 (if e.2 = 0 then Lib.Math.max.name else Lib.Math.min.name) ∈ gh_wsG := by
  show ∀ e ∈ ([(66, 0)] : List (Nat × Nat)), Cond.methodLink (gh_on 3) e.1 (if e.2 = 0 then Lib.Math.max.name else Lib.Math.min.name) ∈ gh_wsG
  exact List.forall_mem_cons.mpr ⟨gh_w 668 rfl rfl, (fun _ h => absurd h List.not_mem_nil)⟩
set_option maxRecDepth 100000 in
theorem gh_t4 : ∀ e ∈ gh_trt.getD 4 [], Cond.methodLink (gh_on 4) e.1 (if e.2 = 0 then Lib.Math.max.name else Lib.Math.min.name) ∈ gh_wsG := by
  show ∀ e ∈ ([(56, 0)] : List (Nat × Nat)), Cond.methodLink (gh_on 4) e.1 (if e.2 = 0 then Lib.Math.max.name else Lib.Math.min.name) ∈ gh_wsG
  exact List.forall_mem_cons.mpr ⟨gh_w 599 rfl rfl, (fun _ h => absurd h List.not_mem_nil)⟩
set_option maxRecDepth 100000 in
theorem gh_t5 : ∀ e ∈ gh_trt.getD 5 [], Cond.methodLink (gh_on 5) e.1 (if e.2 = 0 then Lib.Math.max.name else Lib.Math.min.name) ∈ gh_wsG := by
  show ∀ e ∈ ([(55, 0)] : List (Nat × Nat)), Cond.methodLink (gh_on 5) e.1 (if e.2 = 0 then Lib.Math.max.name else Lib.Math.min.name) ∈ gh_wsG
  exact List.forall_mem_cons.mpr ⟨gh_w 667 rfl rfl, (fun _ h => absurd h List.not_mem_nil)⟩
set_option maxRecDepth 100000 in
theorem gh_t6 : ∀ e ∈ gh_trt.getD 6 [], Cond.methodLink (gh_on 6) e.1 (if e.2 = 0 then Lib.Math.max.name else Lib.Math.min.name) ∈ gh_wsG := by
  show ∀ e ∈ ([] : List (Nat × Nat)), Cond.methodLink (gh_on 6) e.1 (if e.2 = 0 then Lib.Math.max.name else Lib.Math.min.name) ∈ gh_wsG
  exact (fun _ h => absurd h List.not_mem_nil)
set_option maxRecDepth 100000 in
theorem gh_t7 : ∀ e ∈ gh_trt.getD 7 [], Cond.methodLink (gh_on 7) e.1 (if e.2 = 0 then Lib.Math.max.name else Lib.Math.min.name) ∈ gh_wsG := by
  show ∀ e ∈ ([(330, 1)] : List (Nat × Nat)), Cond.methodLink (gh_on 7) e.1 (if e.2 = 0 then Lib.Math.max.name else Lib.Math.min.name) ∈ gh_wsG
  exact List.forall_mem_cons.mpr ⟨gh_w 690 rfl rfl, (fun _ h => absurd h List.not_mem_nil)⟩
set_option maxRecDepth 100000 in
theorem gh_t8 : ∀ e ∈ gh_trt.getD 8 [], Cond.methodLink (gh_on 8) e.1 (if e.2 = 0 then Lib.Math.max.name else Lib.Math.min.name) ∈ gh_wsG := by
  show ∀ e ∈ ([] : List (Nat × Nat)), Cond.methodLink (gh_on 8) e.1 (if e.2 = 0 then Lib.Math.max.name else Lib.Math.min.name) ∈ gh_wsG
  exact (fun _ h => absurd h List.not_mem_nil)
set_option maxRecDepth 100000 in
theorem gh_t9 : ∀ e ∈ gh_trt.getD 9 [], Cond.methodLink (gh_on 9) e.1 (if e.2 = 0 then Lib.Math.max.name else Lib.Math.min.name) ∈ gh_wsG := by
  show ∀ e ∈ ([] : List (Nat × Nat)), Cond.methodLink (gh_on 9) e.1 (if e.2 = 0 then Lib.Math.max.name else Lib.Math.min.name) ∈ gh_wsG
  exact (fun _ h => absurd h List.not_mem_nil)
set_option maxRecDepth 100000 in
theorem gh_t10 : ∀ e ∈ gh_trt.getD 10 [], Cond.methodLink (gh_on 10) e.1 (if e.2 = 0 then Lib.Math.max.name else Lib.Math.min.name) ∈ gh_wsG := by
  show ∀ e ∈ ([] : List (Nat × Nat)), Cond.methodLink (gh_on 10) e.1 (if e.2 = 0 then Lib.Math.max.name else Lib.Math.min.name) ∈ gh_wsG
  exact (fun _ h => absurd h List.not_mem_nil)
set_option maxRecDepth 100000 in
theorem gh_t11 : ∀ e ∈ gh_trt.getD 11 [], Cond.methodLink (gh_on 11) e.1 (if e.2 = 0 then Lib.Math.max.name else Lib.Math.min.name) ∈ gh_wsG := by
  show ∀ e ∈ ([] : List (Nat × Nat)), Cond.methodLink (gh_on 11) e.1 (if e.2 = 0 then Lib.Math.max.name else Lib.Math.min.name) ∈ gh_wsG
  exact (fun _ h => absurd h List.not_mem_nil)
set_option maxRecDepth 100000 in
theorem gh_t12 : ∀ e ∈ gh_trt.getD 12 [], Cond.methodLink (gh_on 12) e.1 (if e.2 = 0 then Lib.Math.max.name else Lib.Math.min.name) ∈ gh_wsG := by
  show ∀ e ∈ ([] : List (Nat × Nat)), Cond.methodLink (gh_on 12) e.1 (if e.2 = 0 then Lib.Math.max.name else Lib.Math.min.name) ∈ gh_wsG
  exact (fun _ h => absurd h List.not_mem_nil)
set_option maxRecDepth 100000 in
theorem gh_t_max : Cond.static Lib.Math.max.name ∈ gh_wsG := gh_w 600 rfl rfl
set_option maxRecDepth 100000 in
theorem gh_tc_max : Cond.code Lib.Math.max.name Lib.Math.max.code 2 (some .int) ∈ gh_wsG := gh_w 601 rfl rfl
set_option maxRecDepth 100000 in
theorem gh_t_min : Cond.static Lib.Math.min.name ∈ gh_wsG := gh_w 691 rfl rfl
set_option maxRecDepth 100000 in
theorem gh_tc_min : Cond.code Lib.Math.min.name Lib.Math.min.code 2 (some .int) ∈ gh_wsG := gh_w 692 rfl rfl
set_option maxRecDepth 100000 in
theorem gh_ti : Cond.initialized "java/lang/Math" ∈ gh_wsG := gh_w 18 rfl rfl
