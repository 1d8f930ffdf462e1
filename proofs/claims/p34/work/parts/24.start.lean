section GSt
set_option maxRecDepth 100000 in
theorem gs_ins : ∀ q ∈ ([(RX0, 5), (RX1, 11), (RX2, 5), (RX3, 4), (RX4, 12), (RX5, 10), (RX6, 2), (RX7, 10)] : List (String × Nat)), Cond.instantiable q.1 q.2 ∈ lw_tbl := by decide +kernel
/-- the words of lw_tbl serve what the words of gh_wsG serve -/
theorem gs_sub {s : State} {A : Array Value} (hts : ∀ w ∈ lw_tbl, w.before A s = true) : ∀ w ∈ gh_wsG, w.before A s = true := fun w hw => hts w (List.mem_filter.mp hw).1
theorem gs_cls {s : State} {A : Array Value} (hts : ∀ w ∈ lw_tbl, w.before A s = true) : ∃ (dC : Nat → ClassId) (dI : Nat → Nat → Nat), ∀ (k : Nat) (q : vw_C), vwCl[k]? = some q → u_Kn s q.1 q.2.1 q.2.2 (dC k) (dI k) := by
  have hg := gs_sub hts
  obtain ⟨c0, i0, h0⟩ := u_known (n := 5) hg gh_c0 (hts (.instantiable RX0 5) (gs_ins (RX0, 5) (by simp)))
  obtain ⟨c1, i1, h1⟩ := u_known (n := 11) hg gh_c1 (hts (.instantiable RX1 11) (gs_ins (RX1, 11) (by simp)))
  obtain ⟨c2, i2, h2⟩ := u_known (n := 5) hg gh_c2 (hts (.instantiable RX2 5) (gs_ins (RX2, 5) (by simp)))
  obtain ⟨c3, i3, h3⟩ := u_known (n := 4) hg gh_c3 (hts (.instantiable RX3 4) (gs_ins (RX3, 4) (by simp)))
  obtain ⟨c4, i4, h4⟩ := u_known (n := 12) hg gh_c4 (hts (.instantiable RX4 12) (gs_ins (RX4, 12) (by simp)))
  obtain ⟨c5, i5, h5⟩ := u_known (n := 10) hg gh_c5 (hts (.instantiable RX5 10) (gs_ins (RX5, 10) (by simp)))
  obtain ⟨c6, i6, h6⟩ := u_known (n := 2) hg gh_c6 (hts (.instantiable RX6 2) (gs_ins (RX6, 2) (by simp)))
  obtain ⟨c7, i7, h7⟩ := u_known (n := 10) hg gh_c7 (hts (.instantiable RX7 10) (gs_ins (RX7, 10) (by simp)))
  refine ⟨fun k => [c0, c1, c2, c3, c4, c5, c6, c7].getD k c0, fun k => [i0, i1, i2, i3, i4, i5, i6, i7].getD k i0, fun k q hq => ?_⟩
  match k, hq with
  | 0, hq => cases hq; exact h0
  | 1, hq => cases hq; exact h1
  | 2, hq => cases hq; exact h2
  | 3, hq => cases hq; exact h3
  | 4, hq => cases hq; exact h4
  | 5, hq => cases hq; exact h5
  | 6, hq => cases hq; exact h6
  | 7, hq => cases hq; exact h7
  | k + 8, hq => cases hq
theorem gs_arr {s : State} {A : Array Value} {ty : FieldType} (h : (Cond.arrayClass ty).before A s = true) : ∃ cA : ClassId, ArrOfT s cA ty ∧ s.vm.findClass ("[" ++ ty.toString) = some cA := by
  obtain ⟨cA, kA, comp, h1, h2, h3⟩ := Cond.arrayClass_spec h
  exact ⟨cA, fun n z => ⟨fun k h => (by cases h), kA, h2, comp, h3⟩, h1⟩
theorem gs_tys {s : State} {A : Array Value} (hts : ∀ w ∈ lw_tbl, w.before A s = true) : ∃ cI cJ cZ cE : ClassId, ∀ (k : Nat) (q : ClassId × FieldType), ([(cI, .int), (cJ, .long), (cZ, .boolean), (cE, .object RX1)] : List (ClassId × FieldType))[k]? = some q → ArrOfT s q.1 q.2 ∧ va_RA s q.1 q.2 := by
  have hg := gs_sub hts
  obtain ⟨cI, h1, h1'⟩ := gs_arr (hg _ gh_ac_int)
  obtain ⟨cJ, h2, h2'⟩ := gs_arr (hg _ gh_ac_long)
  obtain ⟨cZ, h3, h3'⟩ := gs_arr (hg _ gh_ac_boolean)
  obtain ⟨comp, cE, kE, hcomp, hidx, hkE, hkind, hname⟩ := Cond.arrayOver_spec (hts _ gh_ao)
  refine ⟨cI, cJ, cZ, cE, fun k q hq => ?_⟩
  match k, hq with
  | 0, hq => cases hq; exact ⟨h1, h1'⟩
  | 1, hq => cases hq; exact ⟨h2, h2'⟩
  | 2, hq => cases hq; exact ⟨h3, h3'⟩
  | 3, hq => cases hq; exact ⟨fun n z => ⟨fun k h => (by cases h), kE, hkE, comp, hkind⟩, kE, comp, hkE, hkind, hcomp, hname⟩
  | k + 4, hq => cases hq
theorem gs_flat {s : State} {A : Array Value} (hgv : (Jvm.Cond.and given_1 narrow_1).before A s = true) : ∀ w ∈ flatC (Jvm.Cond.and given_1 narrow_1), w.before A s = true := flat_of_before _ hgv
set_option maxRecDepth 100000 in
theorem gs_st1 : ∀ q ∈ gh_str, Cond.exactly (.string "Treeclerk" q.1) "java/lang/String" ∈ flatC (Jvm.Cond.and given_1 narrow_1) := by decide +kernel
set_option maxRecDepth 100000 in
theorem gs_st2 : ∀ q ∈ gh_str, Cond.stringRef "Treeclerk" q.1 q.2 ∈ lw_tbl := by decide +kernel
theorem gs_str {s : State} {A : Array Value} (hts : ∀ w ∈ lw_tbl, w.before A s = true) (hgv : (Jvm.Cond.and given_1 narrow_1).before A s = true) : ∀ q ∈ gh_str, ∃ sa, vk_R "Treeclerk" q.1 q.2 sa s := by
  intro q hq
  obtain ⟨a, c, cell, k, h1, -⟩ := Cond.exactly_spec (gs_flat hgv _ (gs_st1 q hq))
  exact ⟨a, vk_R.of (hts _ (gs_st2 q hq)) h1⟩
set_option maxRecDepth 100000 in
theorem gs_nc : ∀ E ∈ List.range 4, ∀ E' ∈ List.range 4, E ≠ E' → Cond.not (.castable (gh_es E) (gh_es E')) ∈ flatC (Jvm.Cond.and given_1 narrow_1) := by decide +kernel
set_option maxRecDepth 100000 in
theorem gs_z1 : Cond.laysStatic Bundle.tN "UNASSIGNED_STACK" Bundle.steD ∈ lw_tbl ∧ Cond.laysStatic Bundle.tN "SUPPRESSED_SENTINEL" Bundle.listD ∈ lw_tbl ∧ Cond.initialized Bundle.tN ∈ lw_tbl := by decide +kernel
set_option maxRecDepth 100000 in
theorem gs_z2 : Cond.isRef (.static Bundle.tN "UNASSIGNED_STACK" Bundle.steD) ∈ flatC (Jvm.Cond.and given_1 narrow_1) ∧ Cond.isRef (.static Bundle.tN "SUPPRESSED_SENTINEL" Bundle.listD) ∈ flatC (Jvm.Cond.and given_1 narrow_1) := by decide +kernel
/-- what holds at the law's entry -/
def lw_At (p : Program) (s : State) (m : MethodId) (meth : Method) (c : Code) (b L : Nat) (xs : Nat → Int32) : Prop :=
  p.tables.exec = Jvm.exec ∧ c.code = code ∧ meth.sig.returnType = ret ∧ c.maxLocals = 15 ∧ s.vm.findClass R_law = some m.cls ∧ (∀ w ∈ lw_tbl, w.before #[Value.ref b] s = true) ∧ va_X b L xs s s.heap ∧ b < s.heap.size ∧ meth.locks = false ∧ (Jvm.Cond.and given_1 narrow_1).before #[Value.ref b] s = true
/-- what the law's entry owes the ghost machine -/
theorem gs_KB {p : Program} {s : State} {m : MethodId} {meth : Method} {c : Code} {b L : Nat} {xs : Nat → Int32} (C0 : lw_At p s m meth c b L xs) : ∃ D : va_G, ∃ ty : ClassId × ClassId × ClassId × ClassId, gh_KB (D, ty, b, s.heap.size, (List.range L).map xs) s := by
  obtain ⟨hx, hb, hr, hml, hown, hts, hX, hbl, hlocks, hgv⟩ := id C0
  obtain ⟨dC, dI, hcl⟩ := gs_cls hts
  obtain ⟨cI, cJ, cZ, cE, hty⟩ := gs_tys hts
  have hA : ∀ a : Nat, a < s.heap.size → ¬ (fun q : Nat => s.heap.size ≤ q) a := fun a h => Nat.not_le.mpr h
  refine ⟨(dC, dI), (cI, cJ, cZ, cE), ⟨hcl, hty⟩, ?_, hbl, Nat.le_refl _, fun w hw => va_Nw.of (gh_nstT w hw) (hts w (List.mem_append_right _ (List.mem_filter.mp hw).1)), gs_str hts hgv, ?_, ?_, fun E E' h1 h2 h3 => va_Nc.of (gs_flat hgv _ (gs_nc E (List.mem_range.mpr h1) E' (List.mem_range.mpr h2) h3)), va_AO.of (hts _ gh_ao)⟩
  · obtain ⟨scr, e1, e2, e3, e4, e5⟩ := hX
    show va_X b ((List.range L).map xs).length (fun j => ((List.range L).map xs).getD j 0) s s.heap
    have hl : ((List.range L).map xs).length = L := by rw [List.length_map, List.length_range]
    refine ⟨scr, e1, e2, e3, by rw [hl]; exact e4, fun j hj => ?_⟩
    rw [hl] at hj
    rw [e5 j hj]
    simp [List.getD, hj]
  · exact vx_Zqof (hts _ gs_z1.1) (hts _ gs_z1.2.2) (gs_flat hgv _ gs_z2.1) hA
  · exact vx_Zqof (hts _ gs_z1.2.1) (hts _ gs_z1.2.2) (gs_flat hgv _ gs_z2.2) hA
end GSt
