/-! THROWS -/
theorem gh_names : ∀ n ∈ (["java/lang/RuntimeException", "java/lang/Exception"] : List String), Bundle.fit n = true := by decide +kernel
theorem gh_xfacts (E : Nat) (hE : E < 3) : (∀ w ∈ (vx_atS "Treeclerk" (gh_ic E) (gh_es E) ["java/lang/RuntimeException", "java/lang/Exception"]).filter goodWord, w ∈ lw_tbl) ∧ (∀ w ∈ (vx_atS "Treeclerk" (gh_ic E) (gh_es E) ["java/lang/RuntimeException", "java/lang/Exception"]).filter (fun w => !goodWord w), w ∈ gh_nst) ∧
    (∀ w ∈ vx_atS "Treeclerk" (gh_ic E) (gh_es E) ["java/lang/RuntimeException", "java/lang/Exception"], vx_ot w = true) ∧ Bundle.fit (gh_es E) = true ∧ Cond.initialized (gh_es E) ∈ gh_wsG := by
  match E, hE with
  | 0, _ => exact ⟨gh_xa0, gh_xb0, gh_xc0, by decide +kernel, gh_xi0⟩
  | 1, _ => exact ⟨gh_xa1, gh_xb1, gh_xc1, by decide +kernel, gh_xi1⟩
  | 2, _ => exact ⟨gh_xa2, gh_xb2, gh_xc2, by decide +kernel, gh_xi2⟩
  | k + 3, h => exact absurd h (by omega)
theorem gh_thr_inv {own : Nat} {K : List (Nat × Instr × Nat)} (h : gh_thrB own K = true) {pc ik len E : Nat} (hm : (pc, Instr.new ik, len) ∈ K) (hx : gh_xR own ik = some E) : own = 7 ∧ E < 4 ∧ K.lookup (pc + 3) = some (.dup, 1) ∧
    ((∃ is, K.lookup (pc + 4) = some (.ldc is, 2) ∧ (∃ text, (is, text) ∈ gh_str) ∧ K.lookup (pc + 6) = some (.invokespecial (gh_ic E), 3) ∧ K.lookup (pc + 9) = some (.athrow, 1)) ∨
     (∃ is, K.lookup (pc + 4) = some (.ldc_w is, 3) ∧ (∃ text, (is, text) ∈ gh_str) ∧ K.lookup (pc + 7) = some (.invokespecial (gh_ic E), 3) ∧ K.lookup (pc + 10) = some (.athrow, 1))) := by
  have h1 := List.all_eq_true.mp h _ hm
  dsimp only at h1
  rw [hx] at h1
  simp only [Bool.and_eq_true, decide_eq_true_eq] at h1
  obtain ⟨⟨⟨h2, h3⟩, h4⟩, h5⟩ := h1
  refine ⟨h2, h3, h4, ?_⟩
  split at h5
  · next is hl =>
    simp only [Bool.and_eq_true, decide_eq_true_eq, Option.isSome_iff_exists] at h5
    obtain ⟨⟨⟨text, ht⟩, h6⟩, h7⟩ := h5
    exact Or.inl ⟨is, hl, ⟨text, gh_look ht⟩, h6, h7⟩
  · next is hl =>
    simp only [Bool.and_eq_true, decide_eq_true_eq, Option.isSome_iff_exists] at h5
    obtain ⟨⟨⟨text, ht⟩, h6⟩, h7⟩ := h5
    exact Or.inr ⟨is, hl, ⟨text, gh_look ht⟩, h6, h7⟩
  · cases h5
/-- the words of NoSuchElementException's throw: its own constructor hands on by another entry than the rest -/
def gh_nsB : ByteArray := ⟨#[0x2a, 0x2b, 0xb7, 0x00, 0x0d, 0xb1]⟩
theorem gh_ns0 : decode gh_nsB 0 = .ok (.aload_n 0, 1) := by decide +kernel
theorem gh_ns1 : decode gh_nsB 1 = .ok (.aload_n 1, 1) := by decide +kernel
theorem gh_ns2 : decode gh_nsB 2 = .ok (.invokespecial 13, 3) := by decide +kernel
theorem gh_ns5 : decode gh_nsB 5 = .ok (.return_, 1) := by decide +kernel
set_option maxRecDepth 100000 in
theorem gh_xi3 : Cond.initialized "java/util/NoSuchElementException" ∈ gh_wsG := gh_w 19 rfl rfl
def gh_nsX : String := "java/util/NoSuchElementException"
def gh_nsY : String := "java/lang/RuntimeException"
/-- what is asked beside the four words that speak of the heap -/
def gh_nsA : List Cond := Bundle.throwableAtoms ++ Bundle.throwableSAtoms ++ (Bundle.passSAtoms "java/util/NoSuchElementException" "java/lang/RuntimeException" 13 gh_nsB ++ Bundle.chainSAtoms "java/lang/RuntimeException" ["java/lang/Exception"]) ++
  [.methodLink "Treeclerk" 296 (Bundle.initS "java/util/NoSuchElementException"), .instantiable "java/util/NoSuchElementException" 6, .castable "java/util/NoSuchElementException" "java/util/NoSuchElementException", .selects "java/util/NoSuchElementException" Bundle.tFill0 Bundle.tFill0, .selects "java/util/NoSuchElementException" Bundle.tFill Bundle.tFill,
   .lays "java/util/NoSuchElementException" Bundle.tN "cause" "Ljava/lang/Throwable;", .lays "java/util/NoSuchElementException" Bundle.tN "stackTrace" Bundle.steD, .lays "java/util/NoSuchElementException" Bundle.tN "suppressedExceptions" Bundle.listD, .lays "java/util/NoSuchElementException" Bundle.tN "detailMessage" "Ljava/lang/String;",
   .isRef (.static Bundle.tN "UNASSIGNED_STACK" Bundle.steD), .isRef (.static Bundle.tN "SUPPRESSED_SENTINEL" Bundle.listD),
   .fieldLink Bundle.tN 198 Bundle.tN "backtrace" "Ljava/lang/Object;", .lays Bundle.tN Bundle.tN "backtrace" "Ljava/lang/Object;", .lays "java/util/NoSuchElementException" Bundle.tN "backtrace" "Ljava/lang/Object;"]
theorem gh_nsa : ∀ w ∈ (gh_nsA.filter vx_no).filter goodWord, w ∈ lw_tbl := by decide +kernel
theorem gh_nsb : ∀ w ∈ (gh_nsA.filter vx_no).filter (fun w => !goodWord w), w ∈ gh_nst := by decide +kernel
theorem gh_nsc : ∀ w ∈ gh_nsA.filter vx_no, vx_ot w = true := by decide +kernel
section GX
variable {p : Program} {l : Launch} {e : Env} {R : Room} {s : State} {m₀ : MethodId} {args : Array Value} {below : List Frame} {meth : Method} {c : Code} {W9 : State} {locs : List Loc} {cells slots : Nat}
set_option maxHeartbeats 2000000 in
/-- NoSuchElementException's constructor, then the throw: the way of the library's ctorThrowS, with one more kind of constructor ahead of the chain -/
theorem gh_ctorN (X : Stand p l e R s m₀ args below meth c W9 locs cells slots) (hexec : p.tables.exec = Jvm.exec) (htr : e.platform.stackTraces = false)
    (hown : s.vm.findClass "Treeclerk" = some m₀.cls) (h : ∀ a ∈ gh_nsA, a.before args s = true)
    (hlocs : ∀ x ∈ locs, ∀ cell, s.heap[x.base]? = some cell → cell.vm.isStatics = false)
    {a : Addr} {cX : ClassId} {kX : Class} (hfoundX : s.vm.findClass "java/util/NoSuchElementException" = some cX) (hkX : s.vm.classes[cX]? = some kX) (hcell : W9.heap[a]? = some (freshCell cX kX)) (hnew : s.heap.size ≤ a)
    {msg : Value} (hmsg : msg.isRef = true)
    {g : JFrame} (hg : g.method = m₀) (hsize : g.locals.size = c.maxLocals) (hlocked : g.locked = none) (hentered : g.entered = []) {rest : List Value} (hstack : g.stack = msg :: .ref a :: .ref a :: rest)
    (hd6 : decode c.code g.pc = .ok (.invokespecial 296, 3)) (hd9 : decode c.code (g.pc + 3) = .ok (.athrow, 1)) (hout : ∀ x ∈ c.exceptionTable.toList, covers x (g.pc + 3) = false)
    (hRframes : 6 < R.frames) (hRlocals : 2 * g.monitorRoom + ((Value.ref a :: rest).map fun v => v.category).sum + (13 * 3 + 42) ≤ R.locals) (hlocks : meth.locks = false) :
    ∃ U : State, Steps p.tables e below (W9.setTop g) U ∧ U.status = .running ∧ Ended U below (.threw a) ∧ s.WarmedH U.vm ∧ s.sameButNew ({ U with vm := s.vm } : State) locs cells slots ∧
      ∃ ce : Cell, U.heap[a]? = some ce ∧ ce.vm = .none ∧ s.vm.findClass "java/util/NoSuchElementException" = some ce.cls := by
  have howns : e.platform.frameOwnsMonitors = true := by rw [X.admits.platform]
  have hfin : e.platform.finalization = false := by rw [X.admits.platform]
  have hpl : e.platform.magicAccessors = ({} : Platform).magicAccessors := by rw [X.admits.platform]
  have a' : ∀ x, x ∈ gh_nsA → x.holds args s none s [] = true := fun x hx => h x hx
  obtain ⟨T, Z0, L, -, Y⟩ := ThrowableC.of_atoms (args := args) howns hfin hpl (fun x hx => h x (by simp [gh_nsA, hx]))
  obtain ⟨Z, M, LZ, LM, hnZ⟩ := Init0T.ofS_atoms (args := args) hpl L Y (fun x hx => h x (by simp [gh_nsA, hx]))
  obtain ⟨P1, Ps, hlen, L1, hL, hP1m, hlink1, hlink⟩ := Bundle.chainS (args := args) hpl hnZ ["java/lang/Exception"] "java/lang/RuntimeException" (by decide +kernel) (by decide +kernel) (fun x hx => h x (by simp [gh_nsA, hx]))
  obtain ⟨P0, L0, hP0m, hP0s⟩ := PassC.ofS_atoms (args := args) (s := s) hpl (X := "java/util/NoSuchElementException") (Y := "java/lang/RuntimeException") (by decide +kernel) (by decide) gh_ns0 gh_ns1 gh_ns2 gh_ns5 (fun x hx => h x (by simp [gh_nsA, hx]))
  have hsup : P0.sup = P1.m := Option.some.inj (hP0s.symm.trans hP1m)
  have hfound : s.vm.findClass "java/util/NoSuchElementException" = some P0.m.cls := findClass_of_methodNamed hP0m
  cases Option.some.inj (hfoundX.symm.trans hfound)
  obtain ⟨c1, kX', hc1, hk, hord, -, -, hn6⟩ := Cond.instantiable_spec (a' (.instantiable "java/util/NoSuchElementException" 6) (by simp [gh_nsA]))
  cases Option.some.inj (hc1.symm.trans hfound)
  cases Option.some.inj (hkX.symm.trans hk)
  have hsel0 : selectMethod e.platform s.vm P0.m.cls T.fill0 = .method T.fill0 := by
    obtain ⟨c2, r2, m2, q1, q2, q3, q4, -⟩ := Cond.selects_spec (a' (.selects "java/util/NoSuchElementException" Bundle.tFill0 Bundle.tFill0) (by simp [gh_nsA]))
    cases Option.some.inj (q1.symm.trans hfound)
    cases Option.some.inj (q2.symm.trans (State.methodFound?_of_named Y.fill0 (by decide)))
    cases Option.some.inj (q3.symm.trans Y.fill0)
    rw [Launch.admits_selectMethod X.admits]; exact q4
  have hselF : selectMethod e.platform s.vm P0.m.cls T.fill = .method T.fill := by
    obtain ⟨c2, r2, m2, q1, q2, q3, q4, -⟩ := Cond.selects_spec (a' (.selects "java/util/NoSuchElementException" Bundle.tFill Bundle.tFill) (by simp [gh_nsA]))
    cases Option.some.inj (q1.symm.trans hfound)
    cases Option.some.inj (q2.symm.trans (State.methodFound?_of_named Y.fill (by decide)))
    cases Option.some.inj (q3.symm.trans Y.fill)
    rw [Launch.admits_selectMethod X.admits]; exact q4
  obtain ⟨cellS0, hcS0, hiss⟩ := Y.statics
  obtain ⟨u0, hu0⟩ := Cond.staticRefV Y.unassigned L.unassignedStatic L.statics hcS0 hiss (a' (.isRef (.static Bundle.tN "UNASSIGNED_STACK" Bundle.steD)) (by simp [gh_nsA]))
  obtain ⟨sen, hsen⟩ := Cond.staticRefV Y.sentinel L.sentinelStatic L.statics hcS0 hiss (a' (.isRef (.static Bundle.tN "SUPPRESSED_SENTINEL" Bundle.listD)) (by simp [gh_nsA]))
  obtain ⟨ci198, i198, fB, hk198, hg198, ha198, hsB, -, hnB, htB, hffB⟩ := Cond.ownField (t := .object "java/lang/Object") Y.found L.cls (by decide +kernel) (a' (.fieldLink Bundle.tN 198 Bundle.tN "backtrace" "Ljava/lang/Object;") (by simp [gh_nsA])) (a' (.lays Bundle.tN Bundle.tN "backtrace" "Ljava/lang/Object;") (by simp [gh_nsA])) e.platform hpl
  obtain ⟨cellS, hcS', heS, -, hkeep⟩ := X.same.2.2.2.2.2 T.aS cellS0 hcS0
  have hcellS : W9.heap[T.aS]? = some cellS := hcS'
  have hout' : ∀ i, (⟨T.aS, i⟩ : Loc) ∉ locs := fun i hmem => by
    have := hlocs _ hmem cellS0 hcS0
    rw [hiss] at this; cases this
  have hknownS : cellS.vm ≠ .unknown := by
    rw [heS]; intro hu
    rw [show cellS0.vm = .unknown from hu] at hiss
    cases hiss
  have hneS : T.aS ≠ a := Nat.ne_of_lt (Nat.lt_of_lt_of_le (Array.getElem?_eq_some_iff.mp hcS0).1 hnew)
  obtain ⟨iM, hffM⟩ := Y.msg
  obtain ⟨tyC, dC, hdC, hdnC⟩ := Cond.laysAt hfound hk Y.cause (a' (.lays "java/util/NoSuchElementException" Bundle.tN "cause" "Ljava/lang/Throwable;") (by simp [gh_nsA]))
  obtain ⟨tyS, dS, hdS, hdnS⟩ := Cond.laysAt hfound hk Y.stack (a' (.lays "java/util/NoSuchElementException" Bundle.tN "stackTrace" Bundle.steD) (by simp [gh_nsA]))
  obtain ⟨tyP, dP, hdP, hdnP⟩ := Cond.laysAt hfound hk Y.supp (a' (.lays "java/util/NoSuchElementException" Bundle.tN "suppressedExceptions" Bundle.listD) (by simp [gh_nsA]))
  obtain ⟨tyM, dM, hdM, hdnM⟩ := Cond.laysAt hfound hk hffM (a' (.lays "java/util/NoSuchElementException" Bundle.tN "detailMessage" "Ljava/lang/String;") (by simp [gh_nsA]))
  obtain ⟨tyB, dB, hdB, hdnB⟩ := Cond.laysAt hfound hk hffB (a' (.lays "java/util/NoSuchElementException" Bundle.tN "backtrace" "Ljava/lang/Object;") (by simp [gh_nsA]))
  have bC := Cond.laysApart hdB hdC hdnB hdnC (by rw [hnB, Y.causeName]; decide)
  have bS := Cond.laysApart hdB hdS hdnB hdnS (by rw [hnB, Y.stackName]; decide)
  have bP := Cond.laysApart hdB hdP hdnB hdnP (by rw [hnB, Y.suppName]; decide)
  have hskip : SkipFacts T e.platform s (fun u => u) u0 ((preparedCellV T.toThrowableT (freshCell P0.m.cls kX) a u0 sen).withEntry W9.cur) :=
    ⟨{ ci198 := ci198, i198 := i198, fBack := fB }, ⟨hk198, hg198, ha198, hsB⟩, by
      have := fresh_default (c := P0.m.cls) tyB
      rw [htB] at this
      simpa [preparedCellV, Cell.setSlot, Cell.withEntry, Array.getElem?_setIfInBounds, bC, bS, bP, bC.symm, bS.symm, bP.symm, defaultValue] using this, fun _ _ => rfl⟩
  obtain ⟨tm, methC, cdC, kC, vm₁, hnC, -, -, -, -, -, -, -, hW₁, st1⟩ := Steps.initColdS (tb := p.tables) (e := e) (below := below) (s := s) (U := W9) X.here hexec X.warmed hpl hown (t := Bundle.initS "java/util/NoSuchElementException") rfl rfl (by decide)
    (a' (.methodLink "Treeclerk" 296 (Bundle.initS "java/util/NoSuchElementException")) (by simp [gh_nsA])) (h (.instanceMethod (Bundle.initS "java/util/NoSuchElementException")) (by simp [gh_nsA, Bundle.passSAtoms])) (bytes := gh_nsB) (maxL := 2) (h (.code (Bundle.initS "java/util/NoSuchElementException") gh_nsB 2 none) (by simp [gh_nsA, Bundle.passSAtoms]))
    (f := g) hg (a := a) (msg := msg) (rest := .ref a :: rest) hstack hd6
  cases Option.some.inj (hnC.symm.trans hP0m)
  have X₁ := X.noted hW₁
  obtain ⟨vm₂, X₂, st2⟩ := X₁.ctorMessageOffV hexec (g := { g with stack := .ref a :: rest }) hg hsize T L Z LZ M LM (P0 :: P1 :: Ps)
    (fun P hP => by
      rcases List.mem_cons.mp hP with rfl | hP
      · exact L0
      · rcases List.mem_cons.mp hP with rfl | hP
        · exact L1
        · exact hL P hP) ⟨hsup, hlink1, hlink⟩ (u0 := u0) (sen := sen) (self := a) hmsg (cell := freshCell P0.m.cls kX) (cellS := cellS)
    hcell (fun _ => by simp) (by simp) rfl rfl hsel0 hselF hcellS hneS hknownS (by rw [hkeep _ (hout' _)]; exact hu0) (by rw [hkeep _ (hout' _)]; exact hsen)
    (Takes.of_laid hk hord tyC (by rw [Y.causeType]; rfl)) (Takes.of_laid hk hord tyS (by rw [Y.stackType]; exact fits_refV_array _ u0)) (Takes.of_laid hk hord tyP (by rw [Y.suppType]; exact fits_refV_object _ sen))
    (Takes.of_laid hk hord tyM (by rw [Y.msgType]; exact fits_refV_object _ ⟨msg, hmsg⟩)) Y.objLocals hskip htr [] hd6
    (by simp only [List.length_cons, hlen, List.length_nil]; omega) (by simp only [List.length_cons, hlen, List.length_nil]; exact hRlocals)
  obtain ⟨hwalk, hrun, hended, hWU, hsame⟩ := X₂.athrowLeaves hexec (g := { g with stack := .ref a :: rest, pc := g.pc + 3 }) hg hlocked hentered hout (a := a) (rest := rest) rfl hd9
  have hlt : a < ((W9.setVm vm₁).setVm vm₂).heap.size := (Array.getElem?_eq_some_iff.mp hcell).1
  have hU := heapAt_setCell_self (s := (W9.setVm vm₁).setVm vm₂) (plainBareV T.toThrowableT (freshCell P0.m.cls kX) a u0 sen msg) hlt
  refine ⟨_, st1 _ (fun acts => ?_), hrun, hended, hWU, hsame.weaken (fun y hy hlt' => ?_) (Nat.le_refl _) (Nat.le_refl _), _, hU, rfl, hfound⟩
  · rw [doInvoke_state]
    exact st2 _ hwalk
  · rcases List.mem_append.mp hy with h1 | h1
    · exact h1
    · exfalso
      have hb : y.base = a := by
        simp only [List.mem_cons, List.not_mem_nil, or_false] at h1
        rcases h1 with rfl | rfl | rfl | rfl | rfl <;> rfl
      rw [hb] at hlt'
      exact Nat.not_lt.mpr hnew hlt'
end GX
section GY
variable {p : Program} {l : Launch} {e : Env} {R : Room} {s : State} {m : MethodId} {args : Array Value} {below : List Frame} {meth : Method} {c : Code} {H : Heap} {locs : List Loc} {cells slots : Nat} {ls : Array Slot} {rest : List Value} {Qc : Array Value → State → Outcome → State → Prop} {XC : String → State → State → Prop} {free : Addr → Prop}
set_option maxHeartbeats 2000000 in
/-- 'throw new NoSuchElementException("text")': the way of vx_throwS; w: a wide index of the text -/
theorem gh_throwN {cc : ByteArray} {pc : Nat} (hexec : p.tables.exec = Jvm.exec) (hb : c.code = cc) (hl : l.stackTraces = false) {text : String} {ik is mc ms sa w : Nat} {A : Nat → Prop}
    (hown : s.vm.findClass "Treeclerk" = some m.cls)
    (hk : (Cond.classLink "Treeclerk" ik "java/util/NoSuchElementException").before args s = true) (hini : (Cond.initialized "java/util/NoSuchElementException").before args s = true) (hstr : vk_R "Treeclerk" is text sa s) (hat : ∀ w ∈ gh_nsA.filter vx_no, w.before args s = true)
    (hU : vx_Zq Bundle.tN "UNASSIGNED_STACK" Bundle.steD A s s.heap) (hN : vx_Zq Bundle.tN "SUPPRESSED_SENTINEL" Bundle.listD A s s.heap) (hS : va_S A s.heap H locs) (hsize : ls.size = c.maxLocals)
    (d0 : decode cc pc = .ok (.new ik, 3)) (d3 : decode cc (pc + 3) = .ok (.dup, 1)) (d4 : (w = 2 ∧ decode cc (pc + 4) = .ok (.ldc is, 2)) ∨ (w = 3 ∧ decode cc (pc + 4) = .ok (.ldc_w is, 3))) (d6 : decode cc (pc + 4 + w) = .ok (.invokespecial 296, 3)) (d9 : decode cc (pc + 4 + w + 3) = .ok (.athrow, 1))
    (hout : ∀ x ∈ c.exceptionTable.toList, False)
    (hRframes : 6 < R.frames) (hRlocals : (rest.map fun v => v.category).sum + 90 ≤ R.locals) (hRcells : cells + 1 ≤ R.cells) (hRslots : slots + 6 ≤ R.slots) (hlocks : meth.locks = false)
    (hx : ∀ t : State, s.vm.Alike t.vm → H.size ≤ t.heap.size → (∀ q : Nat, q < H.size → t.heap[q]? = H[q]?) → XC "java/util/NoSuchElementException" s t)
    (hf : ∀ z ∈ locs, free z.base) (hc : cells + 1 ≤ mc) (hs : slots + 6 ≤ ms) :
    W p l e R s m args below meth c H locs cells slots (vx_MQ below Qc XC args s mc ms free) (F0 m pc ls rest) := by
  intro T hT X
  have htr : e.platform.stackTraces = false := (show e.platform.stackTraces = l.stackTraces by rw [X.admits.platform]).trans hl
  have Y := vx_rebase X (R' := { frames := R.frames, locals := R.locals, cells := 1, slots := 6 }) (Nat.le_refl _) (Nat.le_refl _) hRcells hRslots
  obtain ⟨s', hA⟩ : ∃ z, z = (T.setVm s.vm).setFrames (.invoking m args :: below) := ⟨_, rfl⟩
  rw [← hA] at Y
  have hvm : s'.vm = s.vm := by rw [hA]; rfl
  have hhp : s'.heap = H := by rw [hA]; exact hT
  have hW0 : s.WarmedH s'.vm := by rw [hvm]; exact State.WarmedH.refl s
  have hat' : ∀ w ∈ gh_nsA.filter vx_no, w.before args s' = true := fun w hw => vx_ot_at hW0 hvm.symm (gh_nsc w hw) (hat w hw)
  have hk' : (Cond.classLink "Treeclerk" ik "java/util/NoSuchElementException").before args s' = true := vx_ot_at hW0 hvm.symm rfl hk
  have hini' : (Cond.initialized "java/util/NoSuchElementException").before args s' = true := vx_ot_at hW0 hvm.symm rfl hini
  have hU' : vx_Zq Bundle.tN "UNASSIGNED_STACK" Bundle.steD A s' s'.heap := by rw [hhp]; exact vx_Zq.moved hW0.alike (hU.kept hS.2.1)
  have hN' : vx_Zq Bundle.tN "SUPPRESSED_SENTINEL" Bundle.listD A s' s'.heap := by rw [hhp]; exact vx_Zq.moved hW0.alike (hN.kept hS.2.1)
  have h : ∀ w ∈ gh_nsA, w.before args s' = true := vx_own hat' (vx_isRefq hU'.1) (vx_isRefq hN'.1) hU'.2.word hN'.2.word
  have hown' : s'.vm.findClass "Treeclerk" = some m.cls := by rw [hvm]; exact hown
  have hins : (Cond.instantiable "java/util/NoSuchElementException" 6).before args s' = true := h _ (by simp [gh_nsA])
  obtain ⟨vm₁, cX, kX, hfX, hkX, -, -, X₁, st1⟩ := Y.newCold hexec (own := "Treeclerk") (C := "java/util/NoSuchElementException") (index := ik) (n := 6) hown' hk' hins hini'
    (g := F0 m pc ls rest) rfl (by rw [hb]; exact d0) (Nat.le_refl _) (Nat.le_refl _)
  generalize hT1 : (T.setVm vm₁).pushCell { cls := cX, slots := kX.instanceTypes.map defaultValue, vm := .none } = T1 at X₁ st1
  have hcat : (Value.ref T.heap.size).category = 1 := rfl
  have hcellA : T1.heap[T.heap.size]? = some (freshCell cX kX) := by rw [← hT1]; exact State.heap_pushCell_size _ _
  have d3' : decode c.code (pc + 3) = .ok (.dup, 1) := by rw [hb]; exact d3
  have hstr' : vk_R "Treeclerk" is text sa s' := vk_R.warm hW0 hstr
  obtain ⟨U, hsteps, hrun, hend, hW, hsame, ce, hce, hcv, hccl⟩ := gh_ctorN X₁ hexec htr hown' h (fun x hx => nomatch hx) hfX hkX hcellA (by rw [hhp, hT]; exact Nat.le_refl _) (msg := .ref sa) rfl
    (g := { method := m, pc := pc + 4 + w, locals := ls, stack := .ref sa :: .ref T.heap.size :: .ref T.heap.size :: rest, locked := none }) rfl hsize rfl rfl (rest := rest) rfl
    (by rw [hb]; exact d6) (by rw [hb]; exact d9) (fun x hx => (hout x hx).elim) hRframes (by simp only [List.map_cons, List.sum_cons, hcat]; show 2 * 0 + _ + _ ≤ _; omega) hlocks
  obtain ⟨f1, f2⟩ := vx_frame hsame
  rw [hhp] at f1 f2
  have hWs : s.WarmedH U.vm := State.WarmedH.trans hW0 hW
  have hcl : s.vm.findClass "java/util/NoSuchElementException" = some ce.cls := by
    rw [hvm] at hccl
    exact hccl
  have hall : s.sameButNew ({ U with vm := s.vm } : State) locs mc ms := by
    subst hA
    obtain ⟨e1, e2⟩ := hsame
    rw [State.setFrames_setFrames] at e1
    have h2 : (T.setVm s.vm).sameButNew ({ U with vm := s.vm } : State) [] (0 + 1) (0 + 6) := ⟨e1, e2⟩
    have h3 := X.same.trans h2
    rw [List.append_nil] at h3
    exact h3.mono hc hs
  refine ⟨U, ?_, .threw T.heap.size, hrun, hend, Or.inr ⟨T.heap.size, rfl, "java/util/NoSuchElementException", ce, locs, hx U hWs.alike f1 (fun q hq => f2 q hq (fun z hz => nomatch hz)), hce, hcv, hcl, hWs, hall, hf⟩⟩
  refine st1 _ ?_
  show Steps p.tables e below (T1.setTop { method := m, pc := pc + 3, locals := ls, stack := .ref T.heap.size :: rest, locked := none }) _
  jvm_step X₁.here [X₁.here.top, hexec, d3', Value.category]
  rcases d4 with ⟨rfl, d4⟩ | ⟨rfl, d4⟩
  · exact X₁.ldcString hexec (own := "Treeclerk") (text := text) (index := is) (a := sa) hown' hstr'.1 hstr'.2
      (g := { method := m, pc := pc + 4, locals := ls, stack := .ref T.heap.size :: .ref T.heap.size :: rest, locked := none }) rfl (by rw [hb]; exact d4) _ hsteps
  · exact X₁.ldcStringW hexec (own := "Treeclerk") (text := text) (index := is) (a := sa) hown' hstr'.1 hstr'.2
      (g := { method := m, pc := pc + 4, locals := ls, stack := .ref T.heap.size :: .ref T.heap.size :: rest, locked := none }) rfl (by rw [hb]; exact d4) _ hsteps
end GY
section GZ
variable {z : gh_Z} {p : Program} {l : Launch} {e : Env} {R : Room} {s : State} {m : MethodId} {args : Array Value} {below : List Frame} {meth : Method} {c : Code} {nL g0 z0 k0 y0 own : Nat} {Q : State → Prop} {cc : ByteArray} {rt : Option FieldType} {nm : String} {pc pc' : Nat} {lo lo' : gh_L} {st st' : List Value} {G G' : gh_H}
theorem gh_thrT (hC : gh_Cx z p s m args meth c own cc nL rt nm) (hst : l.stackTraces = false) (htab : ∀ x ∈ c.exceptionTable.toList, False) {K : List (Nat × Instr × Nat)} (hK : ∀ e ∈ K, decode cc e.1 = .ok e.2) (hB : gh_thrB own K = true) {ik len E : Nat} {fz : Bool} (hmem : (pc, Instr.new ik, len) ∈ K) (hlen : len = 3) (h : gh_step fz own rt pc (.new ik) len lo st G = some (.inr (.inl (.inr E)))) (hfr : 8 ≤ R.frames) (hlo : 200 ≤ R.locals) (hrc : G.length - g0 + k0 + 1 ≤ R.cells) (hrs : gh_sz G - z0 + y0 + 6 ≤ R.slots) :
    gh_T z p l e R s m args below meth c nL g0 z0 (vx_MQ below (gh_Qo z (.inr E) G) (gh_Xo z (.inr E) G) args s (G.length - g0 + k0 + 1) (gh_sz G - z0 + y0 + 6) (gh_A z)) k0 y0 pc lo st G := by
  obtain ⟨hx, hb, hml, hr, hlk, hown, hts, hKB, -⟩ := hC
  subst hlen
  have hK9 : ∀ {a n : Nat} {b : Instr}, K.lookup a = some (b, n) → decode cc a = .ok (b, n) := fun {a n b} q => hK (a, b, n) (gh_look q)
  have h' : gh_new fz own ik pc lo st G = some (.inr (.inl (.inr E))) := h
  unfold gh_new at h'
  split at h'
  · next E' hxr =>
    split at h'
    · next hq =>
      cases h'
      obtain ⟨rfl, hE4, hdup, hpat⟩ := gh_thr_inv hB hmem hxr
      have hcl := gh_xl _ (gh_look hxr)
      intro H locs ls hR hS hl
      have hcat := hq.2
      have hX : ∀ t : State, s.vm.Alike t.vm → H.size ≤ t.heap.size → (∀ q : Nat, q < H.size → t.heap[q]? = H[q]?) → gh_Xo z (.inr E) G (gh_es E) s t := fun t _ h1 h2 =>
        ⟨E, rfl, rfl, ⟨hR.1.kept (fun k q hk => h2 _ (hR.1 k q hk).lt), hR.2⟩, Nat.le_trans hS.1 h1, fun q h3 h4 => (h2 q (Nat.lt_of_lt_of_le h3 hS.1)).trans (hS.2.1 q h3 h4)⟩
      have hsz : ls.size = c.maxLocals := hl.1.trans hml.symm
      have d0 : decode cc pc = .ok (.new ik, 3) := hK (pc, Instr.new ik, 3) hmem
      have d3 : decode cc (pc + 3) = .ok (.dup, 1) := hK9 hdup
      have hlocals : ((st.map (gh_em z)).map fun v => v.category).sum + (13 * (2 + 1) + 43) ≤ R.locals := by rw [gh_es_cat]; omega
      by_cases hE : E < 3
      · obtain ⟨x1, x2, x3, x4, x5⟩ := gh_xfacts E hE
        have hat : ∀ w ∈ vx_atS "Treeclerk" (gh_ic E) (gh_es E) ["java/lang/RuntimeException", "java/lang/Exception"], w.before args s = true := by
          intro w hw
          by_cases g : goodWord w = true
          · exact hts w (List.mem_filter.mpr ⟨x1 w (List.mem_filter.mpr ⟨hw, g⟩), g⟩)
          · have hn := x2 w (List.mem_filter.mpr ⟨hw, by simpa using g⟩)
            exact va_Nw.use (gh_nstT w hn) (hKB.2.2.2.2.1 w hn)
        have hgood : ∀ w ∈ Cond.classLink "Treeclerk" ik (gh_es E) :: Cond.initialized (gh_es E) :: vx_atS "Treeclerk" (gh_ic E) (gh_es E) ["java/lang/RuntimeException", "java/lang/Exception"], vx_ot w = true := by
          intro w hw
          rcases List.mem_cons.mp hw with rfl | hw
          · rfl
          · rcases List.mem_cons.mp hw with rfl | hw
            · rfl
            · exact x3 w hw
        rcases hpat with ⟨is, hl4, ⟨text, htx⟩, hl6, hl9⟩ | ⟨is, hl4, ⟨text, htx⟩, hl7, hl10⟩
        · obtain ⟨sa, hsa⟩ := hKB.2.2.2.2.2.1 _ htx
          exact vx_throwS hx hb hst (own := "Treeclerk") (names := ["java/lang/RuntimeException", "java/lang/Exception"]) hown x4 gh_names (hts _ hcl) (hts _ x5) hsa hat hgood hKB.2.2.2.2.2.2.1 hKB.2.2.2.2.2.2.2.1 hS hsz d0 d3 (hK9 hl4) (hK9 hl6) (hK9 hl9) (fun x hx9 => (htab x hx9).elim) (by show 2 + 3 < _; omega) hlocals hrc hrs hlk hX hS.2.2 (Nat.le_refl _) (Nat.le_refl _)
        · obtain ⟨sa, hsa⟩ := hKB.2.2.2.2.2.1 _ htx
          exact vx_throwSW hx hb hst (own := "Treeclerk") (names := ["java/lang/RuntimeException", "java/lang/Exception"]) hown x4 gh_names (hts _ hcl) (hts _ x5) hsa hat hgood hKB.2.2.2.2.2.2.1 hKB.2.2.2.2.2.2.2.1 hS hsz d0 d3 (hK9 hl4) (hK9 hl7) (hK9 hl10) (fun x hx9 => (htab x hx9).elim) (by show 2 + 3 < _; omega) hlocals hrc hrs hlk hX hS.2.2 (Nat.le_refl _) (Nat.le_refl _)
      · have hE3 : E = 3 := by omega
        subst hE3
        have hat : ∀ w ∈ gh_nsA.filter vx_no, w.before args s = true := by
          intro w hw
          by_cases g : goodWord w = true
          · exact hts w (List.mem_filter.mpr ⟨gh_nsa w (List.mem_filter.mpr ⟨hw, g⟩), g⟩)
          · have hn := gh_nsb w (List.mem_filter.mpr ⟨hw, by simpa using g⟩)
            exact va_Nw.use (gh_nstT w hn) (hKB.2.2.2.2.1 w hn)
        rcases hpat with ⟨is, hl4, ⟨text, htx⟩, hl6, hl9⟩ | ⟨is, hl4, ⟨text, htx⟩, hl7, hl10⟩
        · obtain ⟨sa, hsa⟩ := hKB.2.2.2.2.2.1 _ htx
          exact gh_throwN (w := 2) hx hb hst hown (hts _ hcl) (hts _ gh_xi3) hsa hat hKB.2.2.2.2.2.2.1 hKB.2.2.2.2.2.2.2.1 hS hsz d0 d3 (Or.inl ⟨rfl, hK9 hl4⟩) (hK9 hl6) (hK9 hl9) htab (by omega) (by rw [gh_es_cat]; omega) hrc hrs hlk hX hS.2.2 (Nat.le_refl _) (Nat.le_refl _)
        · obtain ⟨sa, hsa⟩ := hKB.2.2.2.2.2.1 _ htx
          exact gh_throwN (w := 3) hx hb hst hown (hts _ hcl) (hts _ gh_xi3) hsa hat hKB.2.2.2.2.2.2.1 hKB.2.2.2.2.2.2.2.1 hS hsz d0 d3 (Or.inr ⟨rfl, hK9 hl4⟩) (hK9 hl7) (hK9 hl10) htab (by omega) (by rw [gh_es_cat]; omega) hrc hrs hlk hX hS.2.2 (Nat.le_refl _) (Nat.le_refl _)
    · cases h'
  · split at h'
    · split at h'
      · simp only [gh_go] at h'; cases h'
      · cases h'
    · cases h'
end GZ
