section
/-! ===== BEGIN words of one list among another's, by their places ===== -/
theorem goodIn_r {big : List Cond} (ws : List Cond) (ps : List Nat) (hp : ws = ps.filterMap (fun i => big[i]?)) (h : ws.all goodWord = true) : GoodIn big ws := by
  intro w hw
  have h1 := List.all_eq_true.mp h w hw
  rw [hp] at hw
  obtain ⟨i, -, hi⟩ := List.mem_filterMap.mp hw
  have hm : w ∈ big := by first | exact List.mem_of_getElem? hi | exact List.getElem?_mem hi
  exact ⟨hm, good_of_word h1⟩
theorem goodIn_app {big a b : List Cond} (ha : GoodIn big a) (hb : GoodIn big b) : GoodIn big (a ++ b) := fun w h => (List.mem_append.mp h).elim (ha w) (hb w)
theorem goodIn_ca {big a b : List Cond} {c : Cond} (ha : GoodIn big (c :: a)) (hb : GoodIn big b) : GoodIn big (c :: (a ++ b)) := fun w h => (List.mem_cons.mp h).elim (fun e => ha w (List.mem_cons.mpr (Or.inl e))) (fun h => (List.mem_append.mp h).elim (fun h => ha w (List.mem_cons.mpr (Or.inr h))) (hb w))
theorem goodIn_sub {big ws : List Cond} (hm : ∀ w ∈ ws, w ∈ big) (h : ws.all goodWord = true) : GoodIn big ws := fun w hw => ⟨hm w hw, good_of_word (List.all_eq_true.mp h w hw)⟩
/-! ===== END ===== -/

/-! ===== BEGIN exceptions that leave a method, and their catching by the caller (launches without stack traces) ===== -/
section VXA
/-! The laws vx_back, vx_callV, vx_callS, vx_callSW, vx_throw0, vx_throwS follow proofs of the library, with one case more: JvmDerived/Free/Laws.lean (Back.of_free), Shelf42/LK1.lean (callV, callS), Shelf/KitTraced.lean (throwNew0V, throwNewS). -/
/-- where a method has thrown q: the class by its name, the cell, what was written, the world -/
def vx_T (XC : String → State → State → Prop) (st : State) (q : Addr) (t : State) (mc ms : Nat) (free : Addr → Prop) : Prop :=
  ∃ (E : String) (ce : Cell) (L : List Loc), XC E st t ∧ t.heap[q]? = some ce ∧ ce.vm = .none ∧ st.vm.findClass E = some ce.cls ∧ st.WarmedH t.vm ∧ st.sameButNew ({ t with vm := st.vm } : State) L mc ms ∧ ∀ z ∈ L, free z.base
def vx_Q (Qc : Array Value → State → Outcome → State → Prop) (XC : String → State → State → Prop) (mc ms : Nat) (free : Addr → Prop) : Array Value → State → Outcome → State → Prop := fun a st o t =>
  (Qc a st o t ∧ ∃ L, FrameEnd st o t L mc ms ∧ ∀ q ∈ L, free q.base) ∨ ∃ q, o = .threw q ∧ vx_T XC st q t mc ms free
/-- a callee that returns or throws -/
def vx_Met (l : Launch) (y : MethodName) (ws : List Cond) (rm : Room) (Pc : Array Value → State → Prop) (Qc : Array Value → State → Outcome → State → Prop) (XC : String → State → State → Prop) (mc ms : Nat) (free : Addr → Prop) : Prop :=
  MetFree l y (headSpec ws rm) Pc (fun _ _ _ _ _ => True) (vx_Q Qc XC mc ms free)
def vx_Post (XC : String → State → State → Prop) (mc ms : Nat) (free : Addr → Prop) : Pt → Array Value → Addr → Pt → Prop := fun A a q B =>
  ∃ (g : JFrame) (mk : MethodId) (t : State) (L : List Loc) (E : String) (ce : Cell), B.U.heap = t.heap ∧ B.U.vm = t.vm ∧ XC E (A.U.calling g mk a) t ∧ t.heap[q]? = some ce ∧ ce.vm = .none ∧ A.U.vm.findClass E = some ce.cls ∧ B.locs = A.locs ++ L ∧ (∀ z ∈ L, free z.base) ∧ B.cells = A.cells + mc ∧ B.slots = A.slots + ms
def vx_Back (l : Launch) (R : Room) (p : Program) (e : Env) (below : List Frame) (s : State) (sargs : Array Value) (y : MethodName) (len W9 : Nat)
    (Pre : Pt → Array Value → Prop) (Post : Pt → Array Value → Option Value → Pt → Prop) (PostX : Pt → Array Value → Addr → Pt → Prop) : Prop :=
  ∀ (m : MethodId) (meth : Method) (c : Code) (A : Pt) (g : JFrame) (ig : Instr) (mk : MethodId) (a : Array Value),
    Stand p l e R s m sargs below meth c A.U A.locs A.cells A.slots → g.method = m → g.locals.size = c.maxLocals → decode c.code g.pc = .ok (ig, len) →
    2 * g.monitorRoom + (g.stack.map fun v => v.category).sum ≤ W9 → A.U.methodNamed? y = some mk → Pre A a →
    (∃ (v : Option Value) (B : Pt), Stand p l e R s m sargs below meth c B.U B.locs B.cells B.slots ∧ Post A a v B ∧
      Steps p.tables e below (doInvoke e (A.U.setTop g) [] mk a).1 (B.U.setTop { g with pc := g.pc + len, stack := v.toList ++ g.stack })) ∨
    (∃ (q : Addr) (B : Pt), Stand p l e R s m sargs below meth c B.U B.locs B.cells B.slots ∧ PostX A a q B ∧
      Steps p.tables e below (doInvoke e (A.U.setTop g) [] mk a).1 ((B.U.setTop g).pushFrame (.throwing q)))
section Payer
variable {l : Launch} {R : Room} {p : Program} {e : Env} {below : List Frame} {s : State} {sargs : Array Value} {y : MethodName} {len W9 : Nat}
theorem vx_back {ws : List Cond} {rm : Room} {Pc : Array Value → State → Prop} {Qc : Array Value → State → Outcome → State → Prop} {XC : String → State → State → Prop} {mc ms : Nat} {free : Addr → Prop} {bytes : ByteArray} {maxL : Nat} {ret : Option FieldType}
    (hM : vx_Met l y ws rm Pc Qc XC mc ms free) (hblind : FrameBlind Pc) (hrc : rm.cells = mc) (hrs : rm.slots = ms)
    (hframes : rm.frames + 1 ≤ R.frames) (hlocals : W9 + (maxL + 11) + rm.locals ≤ R.locals)
    (hws : ∀ w ∈ ws, ∀ a' U, s.WarmedH U.vm → w.before a' U = true) (hcode : Cond.code y bytes maxL ret ∈ ws) (hinit : ∀ a' U, s.WarmedH U.vm → (Cond.initialized y.cls).before a' U = true) :
    vx_Back l R p e below s sargs y len W9 (PreOf R mc ms Pc) (PostOf Qc mc ms free) (vx_Post XC mc ms free) := by
  intro m meth c A g ig mk a X hg hsize hdg hW hn hp
  have h1 : (headSpec ws rm).pre.before a A.U = true := atoms_intro fun w hw => hws w hw _ _ X.warmed
  have h2 : (Cond.code y bytes maxL ret).before a A.U = true := hws _ hcode _ _ X.warmed
  have h3 : (Cond.initialized y.cls).before a A.U = true := hinit _ _ X.warmed
  have h4 : A.cells + (headSpec ws rm).room.cells ≤ R.cells := by rw [show (headSpec ws rm).room.cells = mc from hrc]; exact hp.1
  have h5 : A.slots + (headSpec ws rm).room.slots ≤ R.slots := by rw [show (headSpec ws rm).room.slots = ms from hrs]; exact hp.2.1
  have hPc : Pc a (A.U.calling g mk a) := hblind _ _ _ _ hp.2.2
  obtain ⟨U, Ls, c0, s0⟩ := A
  dsimp only [Pt.U, Pt.locs, Pt.cells, Pt.slots] at h1 h2 h3 h4 h5 X hn hPc ⊢
  obtain ⟨methY, cY, hmY, hcY, -, hlY, -, -, -, -⟩ := Cond.code_spec hn h2
  obtain ⟨kY, hkY, -⟩ := className_of_methodNamed hn
  have hinitY : kY.init = .initialized := Cond.initialized_spec (findClass_of_methodNamed hn) hkY h3
  have h : At U g.method c below := by rw [hg]; exact X.here
  have hlocals9 : W9 + (maxL + 11) + (headSpec ws rm).room.locals ≤ R.locals := hlocals
  have happ : (headSpec ws rm).appliesLoose y e.platform (U.calling g mk a) = true :=
    Spec.appliesLoose_calling (g := g) h hdg hn hkY hinitY
      (X.room_calling (g := g) (R' := (headSpec ws rm).room) hsize hmY hcY hframes (by rw [hlY]; omega) h4 h5) h1
  obtain ⟨mid, hmid⟩ := h.above
  have hfr : (U.setTop g).frames = (.java g :: mid) ++ below := by rw [State.frames_setTop' g h.top, hmid]; rfl
  obtain ⟨o, s₂, hsteps, -, hend, hq⟩ := Steps.callFree hM p X.admits X.cas X.clock (acts := []) hfr happ hPc trivial
  have hq' : vx_Q Qc XC mc ms free a (U.calling g mk a) o s₂ := hq
  rw [State.frames_setTop' g h.top] at hend
  obtain ⟨g₀, hg0⟩ := Option.isSome_iff_exists.mp h.top
  obtain ⟨r, hr⟩ := State.topJava?_eq_some.mp hg0
  have hr' : (({ U with heap := s₂.heap, slotsUsed := s₂.slotsUsed } : State).setVm s₂.vm).frames = .java g₀ :: r := hr
  rcases hq' with ⟨hqc, L, hfe, hL⟩ | ⟨q, rfl, E, ce, L, hx, hce, hcv, hcl, hW₂, hsm, hL⟩
  · obtain ⟨⟨v, rfl⟩, hW₂, e2, q2, q3, q4, q5, q6⟩ := id hfe
    have e3 : s₂ = ({ (U.calling g mk a).setFrames s₂.frames with heap := s₂.heap, slotsUsed := s₂.slotsUsed } : State).setVm s₂.vm := by
      have : s₂ = ({ s₂ with vm := (U.calling g mk a).vm } : State).setVm s₂.vm := rfl
      rw [e2] at this
      exact this
    obtain ⟨c₂, i₂, len₂, hc₂, hd₂, hf₂⟩ := hend
    have hW' : U.WarmedH s₂.vm := hW₂
    have hcc : c₂ = c := by
      have h1 : s₂.code? g.method = U.code? g.method := by
        rw [State.code?_eq, State.code?_eq, hW'.alike.method?]
      exact Option.some.inj (hc₂.symm.trans (h1.trans h.code))
    subst hcc
    have hlen : len₂ = len := by rw [hdg] at hd₂; cases hd₂; rfl
    subst hlen
    have hs₂ : s₂ = (({ U with heap := s₂.heap, slotsUsed := s₂.slotsUsed } : State).setVm s₂.vm).setTop { g with pc := g.pc + len₂, stack := v.toList ++ g.stack } := by
      refine e3.trans ?_
      rw [hf₂, State.calling_eq h.top, State.setFrames_setFrames, State.setTop_of_frames _ hr', hr]
      rfl
    have hsame : U.sameButNew ({ U with heap := s₂.heap, slotsUsed := s₂.slotsUsed } : State) L mc ms := by
      refine ⟨?_, q2, q3, q4, q5, q6⟩
      obtain ⟨t, ht, -⟩ := State.frames_cons hr
      show ({ U with heap := s₂.heap, slotsUsed := s₂.slotsUsed } : State) = { U.setFrames U.frames with heap := s₂.heap, slotsUsed := s₂.slotsUsed }
      rw [State.setFrames_self ht]
    subst hg
    refine Or.inl ⟨v, ⟨(({ U with heap := s₂.heap, slotsUsed := s₂.slotsUsed } : State).setVm s₂.vm), Ls ++ L, c0 + mc, s0 + ms⟩,
      ⟨X.admits, X.cas, X.clock, X.frames, X.room, X.hears, X.method, X.code, (X.here.setHeapUsed s₂.heap s₂.slotsUsed).setVm hW'.alike, X.tail, State.WarmedH.trans X.warmed hW', X.limits, X.bytes, X.same.trans (hsame.setVm s.vm)⟩,
      ⟨g, mk, s₂, L, rfl, rfl, hqc, rfl, hL, rfl, rfl⟩, ?_⟩
    show Steps p.tables e below _ ((({ U with heap := s₂.heap, slotsUsed := s₂.slotsUsed } : State).setVm s₂.vm).setTop { g with pc := g.pc + len₂, stack := v.toList ++ g.stack })
    rw [← hs₂]
    exact hsteps
  · obtain ⟨e2, q2, q3, q4, q5, q6⟩ := id hsm
    have e3 : s₂ = ({ (U.calling g mk a).setFrames s₂.frames with heap := s₂.heap, slotsUsed := s₂.slotsUsed } : State).setVm s₂.vm := by
      have : s₂ = ({ s₂ with vm := (U.calling g mk a).vm } : State).setVm s₂.vm := rfl
      rw [e2] at this
      exact this
    have hf₂ : s₂.frames = .throwing q :: .java g :: U.frames.tail := hend
    have hW' : U.WarmedH s₂.vm := hW₂
    have hs₂ : s₂ = ((({ U with heap := s₂.heap, slotsUsed := s₂.slotsUsed } : State).setVm s₂.vm).setTop g).pushFrame (.throwing q) := by
      refine e3.trans ?_
      rw [hf₂, State.calling_eq h.top, State.setFrames_setFrames, State.pushFrame, State.frames_setTop _ hr', State.setTop_of_frames _ hr', State.setFrames_setFrames, hr]
      rfl
    have hsame : U.sameButNew ({ U with heap := s₂.heap, slotsUsed := s₂.slotsUsed } : State) L mc ms := by
      refine ⟨?_, q2, q3, q4, q5, q6⟩
      obtain ⟨t, ht, -⟩ := State.frames_cons hr
      show ({ U with heap := s₂.heap, slotsUsed := s₂.slotsUsed } : State) = { U.setFrames U.frames with heap := s₂.heap, slotsUsed := s₂.slotsUsed }
      rw [State.setFrames_self ht]
    subst hg
    refine Or.inr ⟨q, ⟨(({ U with heap := s₂.heap, slotsUsed := s₂.slotsUsed } : State).setVm s₂.vm), Ls ++ L, c0 + mc, s0 + ms⟩,
      ⟨X.admits, X.cas, X.clock, X.frames, X.room, X.hears, X.method, X.code, (X.here.setHeapUsed s₂.heap s₂.slotsUsed).setVm hW'.alike, X.tail, State.WarmedH.trans X.warmed hW', X.limits, X.bytes, X.same.trans (hsame.setVm s.vm)⟩,
      ⟨g, mk, s₂, L, E, ce, rfl, rfl, hx, hce, hcv, hcl, rfl, hL, rfl, rfl⟩, ?_⟩
    show Steps p.tables e below _ (((({ U with heap := s₂.heap, slotsUsed := s₂.slotsUsed } : State).setVm s₂.vm).setTop g).pushFrame (.throwing q))
    rw [← hs₂]
    exact hsteps
end Payer
section Calls
variable {p : Program} {l : Launch} {e : Env} {R : Room} {s : State} {m : MethodId} {args : Array Value} {below : List Frame} {meth : Method} {c : Code} {T : State} {locs : List Loc} {cells slots : Nat}
theorem vx_callV (X : Stand p l e R s m args below meth c T locs cells slots) (hexec : p.tables.exec = Jvm.exec) {own C : String} {index : Nat} {y : MethodName} {bytes : ByteArray} {maxL : Nat} {ret : Option FieldType}
    (hown : s.vm.findClass own = some m.cls) (hlink : (Cond.methodLink own index y).before args s = true) (hinst : (Cond.instanceMethod y).before args s = true) (hsel : (Cond.selects C y y).before args s = true)
    (hcode : (Cond.code y bytes maxL ret).before args s = true) (hy : y.cls ≠ "java/lang/invoke/MethodHandle" ∧ y.cls ≠ "java/lang/invoke/VarHandle")
    {W9 : Nat} {Pre : Pt → Array Value → Prop} {Post : Pt → Array Value → Option Value → Pt → Prop} {PostX : Pt → Array Value → Addr → Pt → Prop} (hK : vx_Back l R p e below s args y 3 W9 Pre Post PostX)
    {b : Addr} {cellB : Cell} (hcell : T.heap[b]? = some cellB) (hobj : cellB.vm.isStatics = false) (hcls : s.vm.findClass C = some cellB.cls)
    {g : JFrame} (hg : g.method = m) (hsize : g.locals.size = c.maxLocals) {argsL rest : List Value} (hlen : ∀ sig, parseMethodDescriptor y.desc = some sig → argsL.length = sig.parameters.length)
    (hstack : g.stack = argsL.reverse ++ .ref b :: rest) (hW : 2 * g.monitorRoom + (rest.map fun v => v.category).sum ≤ W9) (hdg : decode c.code g.pc = .ok (.invokevirtual index, 3))
    (hpre : ∀ vm₁, s.WarmedH vm₁ → Pre ⟨T.setVm vm₁, locs, cells, slots⟩ (Value.ref b :: argsL).toArray) :
    (∃ (v : Option Value) (vm₁ : Vm) (B : Pt), s.WarmedH vm₁ ∧ Stand p l e R s m args below meth c B.U B.locs B.cells B.slots ∧ Post ⟨T.setVm vm₁, locs, cells, slots⟩ (Value.ref b :: argsL).toArray v B ∧
      ∀ target, Steps p.tables e below (B.U.setTop { g with pc := g.pc + 3, stack := v.toList ++ rest }) target → Steps p.tables e below (T.setTop g) target) ∨
    (∃ (q : Addr) (vm₁ : Vm) (B : Pt), s.WarmedH vm₁ ∧ Stand p l e R s m args below meth c B.U B.locs B.cells B.slots ∧ PostX ⟨T.setVm vm₁, locs, cells, slots⟩ (Value.ref b :: argsL).toArray q B ∧
      Steps p.tables e below (T.setTop g) ((B.U.setTop { g with stack := rest }).pushFrame (.throwing q))) := by
  obtain ⟨mk, methM, hnamed, hmethM, hstM, habM⟩ := Cond.instanceMethod_spec hinst
  obtain ⟨methM', cM, hmethM', -, -, -, -, -, -, hsigM⟩ := Cond.code_spec hnamed hcode
  cases hmethM.symm.trans hmethM'
  obtain ⟨c2, r2, m2, q1, q2, q3, q4, kP, hkP, hkPi⟩ := Cond.selects_spec hsel
  cases hcls.symm.trans q1
  cases (State.methodFound?_of_named hnamed hy).symm.trans q2
  cases hnamed.symm.trans q3
  have hselP : selectMethod e.platform s.vm cellB.cls mk = .method mk := by rw [Launch.admits_selectMethod X.admits]; exact q4
  obtain ⟨vm₁, X₁, hstep₁⟩ := X.invokevirtual hexec hown hlink hnamed hmethM hstM hkP hkPi hy (a := b) (cell := cellB) hcell
    (fun z h => by rw [h] at hobj; cases hobj) hselP hmethM habM hkP hkPi (g := g) hg (argsL := argsL) (rest := rest) (hlen _ hsigM) hstack hdg
  rcases hK m meth c ⟨T.setVm vm₁, locs, cells, slots⟩ { g with stack := rest } (.invokevirtual index) mk (Value.ref b :: argsL).toArray X₁ hg hsize hdg hW (X₁.named hnamed) (hpre vm₁ X₁.warmed) with ⟨v, B, X', hpost, hsteps⟩ | ⟨q, B, X', hpost, hsteps⟩
  · exact Or.inl ⟨v, vm₁, B, X₁.warmed, X', hpost, fun target h => hstep₁ _ fun acts => by rw [doInvoke_state]; exact hsteps.trans h⟩
  · exact Or.inr ⟨q, vm₁, B, X₁.warmed, X', hpost, hstep₁ _ fun acts => by rw [doInvoke_state]; exact hsteps⟩
theorem vx_callS (X : Stand p l e R s m args below meth c T locs cells slots) (hexec : p.tables.exec = Jvm.exec) {own : String} {index : Nat} {y : MethodName} {bytes : ByteArray} {maxL : Nat} {ret : Option FieldType}
    (hown : s.vm.findClass own = some m.cls) (hlink : (Cond.methodLink own index y).before args s = true) (hstat : (Cond.static y).before args s = true) (hinit : (Cond.initialized y.cls).before args s = true)
    (hcode : (Cond.code y bytes maxL ret).before args s = true) (hy : y.cls ≠ "java/lang/invoke/MethodHandle" ∧ y.cls ≠ "java/lang/invoke/VarHandle")
    {W9 : Nat} {Pre : Pt → Array Value → Prop} {Post : Pt → Array Value → Option Value → Pt → Prop} {PostX : Pt → Array Value → Addr → Pt → Prop} (hK : vx_Back l R p e below s args y 3 W9 Pre Post PostX)
    {g : JFrame} (hg : g.method = m) (hsize : g.locals.size = c.maxLocals) {argsL rest : List Value} (hlen : ∀ sig, parseMethodDescriptor y.desc = some sig → argsL.length = sig.parameters.length)
    (hstack : g.stack = argsL.reverse ++ rest) (hW : 2 * g.monitorRoom + (rest.map fun v => v.category).sum ≤ W9) (hdg : decode c.code g.pc = .ok (.invokestatic index, 3))
    (hpre : ∀ vm₁, s.WarmedH vm₁ → Pre ⟨T.setVm vm₁, locs, cells, slots⟩ argsL.toArray) :
    (∃ (v : Option Value) (vm₁ : Vm) (B : Pt), s.WarmedH vm₁ ∧ Stand p l e R s m args below meth c B.U B.locs B.cells B.slots ∧ Post ⟨T.setVm vm₁, locs, cells, slots⟩ argsL.toArray v B ∧
      ∀ target, Steps p.tables e below (B.U.setTop { g with pc := g.pc + 3, stack := v.toList ++ rest }) target → Steps p.tables e below (T.setTop g) target) ∨
    (∃ (q : Addr) (vm₁ : Vm) (B : Pt), s.WarmedH vm₁ ∧ Stand p l e R s m args below meth c B.U B.locs B.cells B.slots ∧ PostX ⟨T.setVm vm₁, locs, cells, slots⟩ argsL.toArray q B ∧
      Steps p.tables e below (T.setTop g) ((B.U.setTop { g with stack := rest }).pushFrame (.throwing q))) := by
  obtain ⟨mk, hnamed⟩ := Cond.code_named hcode
  obtain ⟨methM, cM, hmethM, -, -, -, -, -, -, hsigM⟩ := Cond.code_spec hnamed hcode
  have hstatic : methM.isStatic = true := Cond.static_spec hnamed hmethM hstat
  obtain ⟨kP, hkP, -⟩ := className_of_methodNamed hnamed
  have hinitP : kP.init = .initialized := Cond.initialized_spec (findClass_of_methodNamed hnamed) hkP hinit
  obtain ⟨vm₁, X₁, hstep₁⟩ := X.invokestatic hexec hown hlink hnamed hmethM hstatic hkP hinitP hy (g := g) hg (argsL := argsL) (rest := rest) (hlen _ hsigM) hstack hdg
  rcases hK m meth c ⟨T.setVm vm₁, locs, cells, slots⟩ { g with stack := rest } (.invokestatic index) mk argsL.toArray X₁ hg hsize hdg hW (X₁.named hnamed) (hpre vm₁ X₁.warmed) with ⟨v, B, X', hpost, hsteps⟩ | ⟨q, B, X', hpost, hsteps⟩
  · exact Or.inl ⟨v, vm₁, B, X₁.warmed, X', hpost, fun target h => hstep₁ _ fun acts => by rw [doInvoke_state]; exact hsteps.trans h⟩
  · exact Or.inr ⟨q, vm₁, B, X₁.warmed, X', hpost, hstep₁ _ fun acts => by rw [doInvoke_state]; exact hsteps⟩
end Calls
theorem vx_cls {s : State} {T : State} {vm₁ : Vm} {E : String} {k : ClassId} (hW : s.WarmedH vm₁) (h : (T.setVm vm₁).vm.findClass E = some k) : s.vm.findClass E = some k := by
  have h1 : vm₁.findClass E = some k := h
  rw [hW.alike.findClass] at h1
  exact h1
/-- the method's frame g, with q thrown over it -/
def vx_W (p : Program) (l : Launch) (e : Env) (R : Room) (s : State) (m : MethodId) (args : Array Value) (below : List Frame) (meth : Method) (c : Code) (H : Heap) (locs : List Loc) (cells slots : Nat) (Q : State → Prop) (g : JFrame) (q : Addr) : Prop :=
  ∀ T : State, T.heap = H → Stand p l e R s m args below meth c T locs cells slots → ∃ t, Steps p.tables e below ((T.setTop g).pushFrame (.throwing q)) t ∧ Q t
def vx_Run (p : Program) (l : Launch) (e : Env) (R : Room) (s : State) (m : MethodId) (args : Array Value) (below : List Frame) (meth : Method) (c : Code) (H : Heap) (locs : List Loc) (cells slots mc ms : Nat) (g : JFrame) (rest : List Value) (Qa : State → Outcome → State → Prop) (XC : String → State → State → Prop) (free : Addr → Prop) : Prop :=
  ∀ T : State, T.heap = H → Stand p l e R s m args below meth c T locs cells slots →
    (∃ (v : Option Value) (st₀ t T' : State) (L : List Loc), st₀.heap = H ∧ Stand p l e R s m args below meth c T' (locs ++ L) (cells + mc) (slots + ms) ∧ (∀ q ∈ L, free q.base) ∧ T'.heap = t.heap ∧ T'.vm = t.vm ∧ Qa st₀ (.returned v) t ∧
      Goes p e below T g T' { g with pc := g.pc + 3, stack := v.toList ++ rest }) ∨
    (∃ (q : Addr) (st₀ t T' : State) (L : List Loc) (E : String) (ce : Cell), st₀.heap = H ∧ Stand p l e R s m args below meth c T' (locs ++ L) (cells + mc) (slots + ms) ∧ (∀ z ∈ L, free z.base) ∧ T'.heap = t.heap ∧ T'.vm = t.vm ∧ XC E st₀ t ∧ t.heap[q]? = some ce ∧ ce.vm = .none ∧ s.vm.findClass E = some ce.cls ∧
      Steps p.tables e below (T.setTop g) ((T'.setTop { g with stack := rest }).pushFrame (.throwing q)))
def vx_X {S : Type} (px : S → Prop) (B : String → S → State → Prop) (A : Nat → Prop) : String → State → State → Prop := fun E st t => ∃ u : S, px u ∧ B E u t ∧ va_F A st t
section Runs
variable {p : Program} {l : Launch} {e : Env} {R : Room} {s : State} {m : MethodId} {args : Array Value} {below : List Frame} {meth : Method} {c : Code} {H : Heap} {locs : List Loc} {cells slots : Nat}
variable {y : MethodName} {bytes cc : ByteArray} {maxL nL mc ms n index : Nat} {ret : Option FieldType} {ws : List Cond} {rm : Room} {Pc : Array Value → State → Prop} {Qc : Array Value → State → Outcome → State → Prop} {XC : String → State → State → Prop} {free : Addr → Prop} {Ts : List Cond} {own C : String} {b : Addr} {As rest : List Value} {g : JFrame}
theorem vx_callBack (cb : CallB R s args own index y bytes maxL ret ws rm mc ms n) (hM : vx_Met l y ws rm Pc Qc XC mc ms free) (hbl : FrameBlind Pc) : vx_Back l R p e below s args y 3 8 (PreOf R mc ms Pc) (PostOf Qc mc ms free) (vx_Post XC mc ms free) := by
  obtain ⟨hrc, hrs, hfr, hlo, hws, hcw, -, hini, -⟩ := cb
  exact vx_back (bytes := bytes) (maxL := maxL) (ret := ret) hM hbl hrc hrs hfr hlo hws hcw (fun a' U hW => word_at hW (Or.inl (by first | rfl | simp [Cond.onTables, Cond.keeps, Cond.steady])) hini)
theorem vx_runV (S : CallFix p m c cc nL s args Ts own) (hM : vx_Met l y ws rm Pc Qc XC mc ms free) (cw : CallW R s args own C index y bytes maxL ret ws rm mc ms n) (hp : PreV s H C b Pc As)
    (hg : g.method = m) (hn : As.length = n) (hsize : g.locals.size = nL) (hstack : g.stack = As.reverse ++ .ref b :: rest) (hW : 2 * g.monitorRoom + (rest.map fun v => v.category).sum ≤ 8) (hdg : decode cc g.pc = .ok (.invokevirtual index, 3)) (hf : cells + mc ≤ R.cells ∧ slots + ms ≤ R.slots) :
    vx_Run p l e R s m args below meth c H locs cells slots mc ms g rest (Qc (Value.ref b :: As).toArray) XC free := by
  have hK : vx_Back l R p e below s args y 3 8 (PreOf R mc ms Pc) (PostOf Qc mc ms free) (vx_Post XC mc ms free) := vx_callBack cw.1 hM hp.1
  obtain ⟨⟨-, -, -, -, -, -, hcode, -, hy, hlen, hl⟩, hin, hse⟩ := cw
  obtain ⟨hx, hb, hml, ho, -⟩ := S
  obtain ⟨-, ⟨cellB, hcB, hoB, hclB⟩, hPc⟩ := hp
  intro T hT X
  rcases vx_callV X hx (C := C) (bytes := bytes) (maxL := maxL) (ret := ret) ho hl hin hse hcode hy hK (by rw [hT]; exact hcB) hoB hclB hg (hsize.trans hml.symm) (argsL := As) (rest := rest) (fun sig h => hn.trans (hlen sig h)) hstack hW (by rw [hb]; exact hdg)
    (fun vm₁ hW₁ => ⟨hf.1, hf.2, hPc (T.setVm vm₁) hT hW₁⟩) with ⟨v, vm₁, ⟨U', l2, c2, s2⟩, hW₁, X', ⟨g', mk, t, L, e1, e2, hq, h1, hL, h2, h3⟩, st⟩ | ⟨q, vm₁, ⟨U', l2, c2, s2⟩, hW₁, X', ⟨g', mk, t, L, E, ce, e1, e2, hq, hce, hcv, hcl, h1, hL, h2, h3⟩, st⟩
  · dsimp only [Pt.U, Pt.locs, Pt.cells, Pt.slots] at X' e1 e2 h1 h2 h3 st
    subst h1; subst h2; subst h3
    exact Or.inl ⟨v, (T.setVm vm₁).calling g' mk (Value.ref b :: As).toArray, t, U', L, hT, X', hL, e1, e2, hq, st⟩
  · dsimp only [Pt.U, Pt.locs, Pt.cells, Pt.slots] at X' e1 e2 h1 h2 h3 st hcl
    subst h1; subst h2; subst h3
    exact Or.inr ⟨q, (T.setVm vm₁).calling g' mk (Value.ref b :: As).toArray, t, U', L, E, ce, hT, X', hL, e1, e2, hq, hce, hcv, vx_cls hW₁ hcl, st⟩
theorem vx_runS (S : CallFix p m c cc nL s args Ts own) (hM : vx_Met l y ws rm Pc Qc XC mc ms free) (cw : CallB R s args own index y bytes maxL ret ws rm mc ms n ∧ (Cond.static y).before args s = true) (hp : PreS s H Pc As)
    (hg : g.method = m) (hn : As.length = n) (hsize : g.locals.size = nL) (hstack : g.stack = As.reverse ++ rest) (hW : 2 * g.monitorRoom + (rest.map fun v => v.category).sum ≤ 8) (hdg : decode cc g.pc = .ok (.invokestatic index, 3)) (hf : cells + mc ≤ R.cells ∧ slots + ms ≤ R.slots) :
    vx_Run p l e R s m args below meth c H locs cells slots mc ms g rest (Qc As.toArray) XC free := by
  have hK : vx_Back l R p e below s args y 3 8 (PreOf R mc ms Pc) (PostOf Qc mc ms free) (vx_Post XC mc ms free) := vx_callBack cw.1 hM hp.1
  obtain ⟨⟨-, -, -, -, -, -, hcode, hini, hy, hlen, hl⟩, hstt⟩ := cw
  obtain ⟨hx, hb, hml, ho, -⟩ := S
  intro T hT X
  rcases vx_callS X hx (bytes := bytes) (maxL := maxL) (ret := ret) ho hl hstt hini hcode hy hK hg (hsize.trans hml.symm) (argsL := As) (rest := rest) (fun sig h => hn.trans (hlen sig h)) hstack hW (by rw [hb]; exact hdg)
    (fun vm₁ hW₁ => ⟨hf.1, hf.2, hp.2 (T.setVm vm₁) hT hW₁⟩) with ⟨v, vm₁, ⟨U', l2, c2, s2⟩, hW₁, X', ⟨g', mk, t, L, e1, e2, hq, h1, hL, h2, h3⟩, st⟩ | ⟨q, vm₁, ⟨U', l2, c2, s2⟩, hW₁, X', ⟨g', mk, t, L, E, ce, e1, e2, hq, hce, hcv, hcl, h1, hL, h2, h3⟩, st⟩
  · dsimp only [Pt.U, Pt.locs, Pt.cells, Pt.slots] at X' e1 e2 h1 h2 h3 st
    subst h1; subst h2; subst h3
    exact Or.inl ⟨v, (T.setVm vm₁).calling g' mk As.toArray, t, U', L, hT, X', hL, e1, e2, hq, st⟩
  · dsimp only [Pt.U, Pt.locs, Pt.cells, Pt.slots] at X' e1 e2 h1 h2 h3 st hcl
    subst h1; subst h2; subst h3
    exact Or.inr ⟨q, (T.setVm vm₁).calling g' mk As.toArray, t, U', L, E, ce, hT, X', hL, e1, e2, hq, hce, hcv, vx_cls hW₁ hcl, st⟩
end Runs
section Rows
variable {p : Program} {l : Launch} {e : Env} {R : Room} {s : State} {m : MethodId} {args : Array Value} {below : List Frame} {meth : Method} {c : Code} {H : Heap} {locs : List Loc} {cells slots : Nat} {Q : State → Prop}
variable {mc ms : Nat} {free : Addr → Prop} {A0 A1 : Nat → Prop} {H0 : Heap} {a : Array Value} {pc : Nat} {ls : Array Slot} {st0 rest : List Value}
theorem vx_keep {st₀ t T' : State} {L : List Loc} (h0 : st₀.heap = H) (e1 : T'.heap = t.heap) (hS : va_S A0 H0 H locs) (hA : ∀ q, q < H.size → A1 q → A0 q) (hf : ∀ q, free q → A0 q) (hL : ∀ q ∈ L, free q.base) (hF : va_F A1 st₀ t) :
    H.size ≤ T'.heap.size ∧ (∀ q : Nat, q < H.size → ¬ A1 q → T'.heap[q]? = H[q]?) ∧ va_S A0 H0 T'.heap (locs ++ L) := by
  obtain ⟨hz, hk⟩ := hF
  rw [h0] at hz hk
  exact ⟨by rw [e1]; exact hz, fun q h1 h2 => by rw [e1]; exact hk q h1 h2,
    ⟨Nat.le_trans hS.1 (by rw [e1]; exact hz), fun q h1 h2 => by rw [e1, hk q (Nat.lt_of_lt_of_le h1 hS.1) (fun z => h2 (hA q (Nat.lt_of_lt_of_le h1 hS.1) z))]; exact hS.2.1 q h1 h2, fun q hq => by
      rcases List.mem_append.mp hq with h | h
      · exact hS.2.2 q h
      · exact hf _ (hL q h)⟩⟩
theorem vx_calli {S SX : Type} {post : Int32 → S → Prop} {px : SX → Prop} {B : S → State → Prop} {BX : String → SX → State → Prop} {AX : Nat → Prop} (hr : vx_Run p l e R s m args below meth c H locs cells slots mc ms (F0 m pc ls st0) rest (va_Qi post B A1 a) (vx_X px BX AX) free) (hS : va_S A0 H0 H locs) (hA : ∀ q, q < H.size → A1 q → A0 q) (hf : ∀ q, free q → A0 q) (hAX : ∀ q, q < H.size → AX q → A0 q)
    (kx : ∀ (E : String) (ce : Cell) (q9 : Addr) (u : SX) (t : State) (H1 : Heap) (locs1 : List Loc), t.heap = H1 → s.vm.Alike t.vm → px u → BX E u t → H.size ≤ H1.size → (∀ q : Nat, q < H.size → ¬ AX q → H1[q]? = H[q]?) → va_S A0 H0 H1 locs1 → H1[q9]? = some ce → ce.vm = .none → s.vm.findClass E = some ce.cls → vx_W p l e R s m args below meth c H1 locs1 (cells + mc) (slots + ms) Q (F0 m pc ls rest) q9)
    (kk : ∀ (r : Int32) (u : S) (t : State) (H1 : Heap) (locs1 : List Loc), t.heap = H1 → s.vm.Alike t.vm → post r u → B u t → H.size ≤ H1.size → (∀ q : Nat, q < H.size → ¬ A1 q → H1[q]? = H[q]?) → va_S A0 H0 H1 locs1 → W p l e R s m args below meth c H1 locs1 (cells + mc) (slots + ms) Q (F0 m (pc + 3) ls (.int r :: rest))) : W p l e R s m args below meth c H locs cells slots Q (F0 m pc ls st0) := by
  intro T hT X
  rcases hr T hT X with ⟨v, st₀, t, T', L, h0, X', hL, e1, e2, ⟨⟨r, u, hv, hp, hb⟩, hF⟩, st⟩ | ⟨q, st₀, t, T', L, E, ce, h0, X', hL, e1, e2, ⟨u, hp, hb, hF⟩, hce, hcv, hcl, st⟩
  · cases hv
    obtain ⟨k1, k2, k3⟩ := vx_keep h0 e1 hS hA hf hL hF
    obtain ⟨t2, a1, b1⟩ := kk r u t T'.heap (locs ++ L) e1.symm (by rw [← e2]; exact X'.warmed.alike) hp hb k1 k2 k3 T' rfl X'
    exact ⟨t2, st t2 a1, b1⟩
  · obtain ⟨k1, k2, k3⟩ := vx_keep h0 e1 hS hAX hf hL hF
    obtain ⟨t2, a1, b1⟩ := kx E ce q u t T'.heap (locs ++ L) e1.symm (by rw [← e2]; exact X'.warmed.alike) hp hb k1 k2 k3 (by rw [e1]; exact hce) hcv hcl T' rfl X'
    exact ⟨t2, st.trans a1, b1⟩
theorem vx_calll {S SX : Type} {post : Int64 → S → Prop} {px : SX → Prop} {B : S → State → Prop} {BX : String → SX → State → Prop} {AX : Nat → Prop} (hr : vx_Run p l e R s m args below meth c H locs cells slots mc ms (F0 m pc ls st0) rest (va_Ql post B A1 a) (vx_X px BX AX) free) (hS : va_S A0 H0 H locs) (hA : ∀ q, q < H.size → A1 q → A0 q) (hf : ∀ q, free q → A0 q) (hAX : ∀ q, q < H.size → AX q → A0 q)
    (kx : ∀ (E : String) (ce : Cell) (q9 : Addr) (u : SX) (t : State) (H1 : Heap) (locs1 : List Loc), t.heap = H1 → s.vm.Alike t.vm → px u → BX E u t → H.size ≤ H1.size → (∀ q : Nat, q < H.size → ¬ AX q → H1[q]? = H[q]?) → va_S A0 H0 H1 locs1 → H1[q9]? = some ce → ce.vm = .none → s.vm.findClass E = some ce.cls → vx_W p l e R s m args below meth c H1 locs1 (cells + mc) (slots + ms) Q (F0 m pc ls rest) q9)
    (kk : ∀ (r : Int64) (u : S) (t : State) (H1 : Heap) (locs1 : List Loc), t.heap = H1 → s.vm.Alike t.vm → post r u → B u t → H.size ≤ H1.size → (∀ q : Nat, q < H.size → ¬ A1 q → H1[q]? = H[q]?) → va_S A0 H0 H1 locs1 → W p l e R s m args below meth c H1 locs1 (cells + mc) (slots + ms) Q (F0 m (pc + 3) ls (.long r :: rest))) : W p l e R s m args below meth c H locs cells slots Q (F0 m pc ls st0) := by
  intro T hT X
  rcases hr T hT X with ⟨v, st₀, t, T', L, h0, X', hL, e1, e2, ⟨⟨r, u, hv, hp, hb⟩, hF⟩, st⟩ | ⟨q, st₀, t, T', L, E, ce, h0, X', hL, e1, e2, ⟨u, hp, hb, hF⟩, hce, hcv, hcl, st⟩
  · cases hv
    obtain ⟨k1, k2, k3⟩ := vx_keep h0 e1 hS hA hf hL hF
    obtain ⟨t2, a1, b1⟩ := kk r u t T'.heap (locs ++ L) e1.symm (by rw [← e2]; exact X'.warmed.alike) hp hb k1 k2 k3 T' rfl X'
    exact ⟨t2, st t2 a1, b1⟩
  · obtain ⟨k1, k2, k3⟩ := vx_keep h0 e1 hS hAX hf hL hF
    obtain ⟨t2, a1, b1⟩ := kx E ce q u t T'.heap (locs ++ L) e1.symm (by rw [← e2]; exact X'.warmed.alike) hp hb k1 k2 k3 (by rw [e1]; exact hce) hcv hcl T' rfl X'
    exact ⟨t2, st.trans a1, b1⟩
theorem vx_callf {S SX : Type} {post : UInt32 → S → Prop} {px : SX → Prop} {B : S → State → Prop} {BX : String → SX → State → Prop} {AX : Nat → Prop} (hr : vx_Run p l e R s m args below meth c H locs cells slots mc ms (F0 m pc ls st0) rest (va_Qf post B A1 a) (vx_X px BX AX) free) (hS : va_S A0 H0 H locs) (hA : ∀ q, q < H.size → A1 q → A0 q) (hf : ∀ q, free q → A0 q) (hAX : ∀ q, q < H.size → AX q → A0 q)
    (kx : ∀ (E : String) (ce : Cell) (q9 : Addr) (u : SX) (t : State) (H1 : Heap) (locs1 : List Loc), t.heap = H1 → s.vm.Alike t.vm → px u → BX E u t → H.size ≤ H1.size → (∀ q : Nat, q < H.size → ¬ AX q → H1[q]? = H[q]?) → va_S A0 H0 H1 locs1 → H1[q9]? = some ce → ce.vm = .none → s.vm.findClass E = some ce.cls → vx_W p l e R s m args below meth c H1 locs1 (cells + mc) (slots + ms) Q (F0 m pc ls rest) q9)
    (kk : ∀ (r : UInt32) (u : S) (t : State) (H1 : Heap) (locs1 : List Loc), t.heap = H1 → s.vm.Alike t.vm → post r u → B u t → H.size ≤ H1.size → (∀ q : Nat, q < H.size → ¬ A1 q → H1[q]? = H[q]?) → va_S A0 H0 H1 locs1 → W p l e R s m args below meth c H1 locs1 (cells + mc) (slots + ms) Q (F0 m (pc + 3) ls (.float r :: rest))) : W p l e R s m args below meth c H locs cells slots Q (F0 m pc ls st0) := by
  intro T hT X
  rcases hr T hT X with ⟨v, st₀, t, T', L, h0, X', hL, e1, e2, ⟨⟨r, u, hv, hp, hb⟩, hF⟩, st⟩ | ⟨q, st₀, t, T', L, E, ce, h0, X', hL, e1, e2, ⟨u, hp, hb, hF⟩, hce, hcv, hcl, st⟩
  · cases hv
    obtain ⟨k1, k2, k3⟩ := vx_keep h0 e1 hS hA hf hL hF
    obtain ⟨t2, a1, b1⟩ := kk r u t T'.heap (locs ++ L) e1.symm (by rw [← e2]; exact X'.warmed.alike) hp hb k1 k2 k3 T' rfl X'
    exact ⟨t2, st t2 a1, b1⟩
  · obtain ⟨k1, k2, k3⟩ := vx_keep h0 e1 hS hAX hf hL hF
    obtain ⟨t2, a1, b1⟩ := kx E ce q u t T'.heap (locs ++ L) e1.symm (by rw [← e2]; exact X'.warmed.alike) hp hb k1 k2 k3 (by rw [e1]; exact hce) hcv hcl T' rfl X'
    exact ⟨t2, st.trans a1, b1⟩
theorem vx_calld {S SX : Type} {post : UInt64 → S → Prop} {px : SX → Prop} {B : S → State → Prop} {BX : String → SX → State → Prop} {AX : Nat → Prop} (hr : vx_Run p l e R s m args below meth c H locs cells slots mc ms (F0 m pc ls st0) rest (va_Qd post B A1 a) (vx_X px BX AX) free) (hS : va_S A0 H0 H locs) (hA : ∀ q, q < H.size → A1 q → A0 q) (hf : ∀ q, free q → A0 q) (hAX : ∀ q, q < H.size → AX q → A0 q)
    (kx : ∀ (E : String) (ce : Cell) (q9 : Addr) (u : SX) (t : State) (H1 : Heap) (locs1 : List Loc), t.heap = H1 → s.vm.Alike t.vm → px u → BX E u t → H.size ≤ H1.size → (∀ q : Nat, q < H.size → ¬ AX q → H1[q]? = H[q]?) → va_S A0 H0 H1 locs1 → H1[q9]? = some ce → ce.vm = .none → s.vm.findClass E = some ce.cls → vx_W p l e R s m args below meth c H1 locs1 (cells + mc) (slots + ms) Q (F0 m pc ls rest) q9)
    (kk : ∀ (r : UInt64) (u : S) (t : State) (H1 : Heap) (locs1 : List Loc), t.heap = H1 → s.vm.Alike t.vm → post r u → B u t → H.size ≤ H1.size → (∀ q : Nat, q < H.size → ¬ A1 q → H1[q]? = H[q]?) → va_S A0 H0 H1 locs1 → W p l e R s m args below meth c H1 locs1 (cells + mc) (slots + ms) Q (F0 m (pc + 3) ls (.double r :: rest))) : W p l e R s m args below meth c H locs cells slots Q (F0 m pc ls st0) := by
  intro T hT X
  rcases hr T hT X with ⟨v, st₀, t, T', L, h0, X', hL, e1, e2, ⟨⟨r, u, hv, hp, hb⟩, hF⟩, st⟩ | ⟨q, st₀, t, T', L, E, ce, h0, X', hL, e1, e2, ⟨u, hp, hb, hF⟩, hce, hcv, hcl, st⟩
  · cases hv
    obtain ⟨k1, k2, k3⟩ := vx_keep h0 e1 hS hA hf hL hF
    obtain ⟨t2, a1, b1⟩ := kk r u t T'.heap (locs ++ L) e1.symm (by rw [← e2]; exact X'.warmed.alike) hp hb k1 k2 k3 T' rfl X'
    exact ⟨t2, st t2 a1, b1⟩
  · obtain ⟨k1, k2, k3⟩ := vx_keep h0 e1 hS hAX hf hL hF
    obtain ⟨t2, a1, b1⟩ := kx E ce q u t T'.heap (locs ++ L) e1.symm (by rw [← e2]; exact X'.warmed.alike) hp hb k1 k2 k3 (by rw [e1]; exact hce) hcv hcl T' rfl X'
    exact ⟨t2, st.trans a1, b1⟩
theorem vx_callv {S SX : Type} {post : S → Prop} {px : SX → Prop} {B : S → State → Prop} {BX : String → SX → State → Prop} {AX : Nat → Prop} (hr : vx_Run p l e R s m args below meth c H locs cells slots mc ms (F0 m pc ls st0) rest (va_Qv post B A1 a) (vx_X px BX AX) free) (hS : va_S A0 H0 H locs) (hA : ∀ q, q < H.size → A1 q → A0 q) (hf : ∀ q, free q → A0 q) (hAX : ∀ q, q < H.size → AX q → A0 q)
    (kx : ∀ (E : String) (ce : Cell) (q9 : Addr) (u : SX) (t : State) (H1 : Heap) (locs1 : List Loc), t.heap = H1 → s.vm.Alike t.vm → px u → BX E u t → H.size ≤ H1.size → (∀ q : Nat, q < H.size → ¬ AX q → H1[q]? = H[q]?) → va_S A0 H0 H1 locs1 → H1[q9]? = some ce → ce.vm = .none → s.vm.findClass E = some ce.cls → vx_W p l e R s m args below meth c H1 locs1 (cells + mc) (slots + ms) Q (F0 m pc ls rest) q9)
    (kk : ∀ (u : S) (t : State) (H1 : Heap) (locs1 : List Loc), t.heap = H1 → s.vm.Alike t.vm → post u → B u t → H.size ≤ H1.size → (∀ q : Nat, q < H.size → ¬ A1 q → H1[q]? = H[q]?) → va_S A0 H0 H1 locs1 → W p l e R s m args below meth c H1 locs1 (cells + mc) (slots + ms) Q (F0 m (pc + 3) ls (rest))) : W p l e R s m args below meth c H locs cells slots Q (F0 m pc ls st0) := by
  intro T hT X
  rcases hr T hT X with ⟨v, st₀, t, T', L, h0, X', hL, e1, e2, ⟨⟨u, hv, hp, hb⟩, hF⟩, st⟩ | ⟨q, st₀, t, T', L, E, ce, h0, X', hL, e1, e2, ⟨u, hp, hb, hF⟩, hce, hcv, hcl, st⟩
  · cases hv
    obtain ⟨k1, k2, k3⟩ := vx_keep h0 e1 hS hA hf hL hF
    obtain ⟨t2, a1, b1⟩ := kk u t T'.heap (locs ++ L) e1.symm (by rw [← e2]; exact X'.warmed.alike) hp hb k1 k2 k3 T' rfl X'
    exact ⟨t2, st t2 a1, b1⟩
  · obtain ⟨k1, k2, k3⟩ := vx_keep h0 e1 hS hAX hf hL hF
    obtain ⟨t2, a1, b1⟩ := kx E ce q u t T'.heap (locs ++ L) e1.symm (by rw [← e2]; exact X'.warmed.alike) hp hb k1 k2 k3 (by rw [e1]; exact hce) hcv hcl T' rfl X'
    exact ⟨t2, st.trans a1, b1⟩
/-- caught by the row x of this method's table; the rows ahead don't take it -/
theorem vx_catch {own name : String} {E : String} {ce : Cell} {q : Addr} (hown : s.vm.findClass own = some m.cls) (pre : List ExceptionTableEntry) (x : ExceptionTableEntry) (suf : List ExceptionTableEntry) (hsplit : c.exceptionTable.toList = pre ++ x :: suf)
    (hpass : ∀ z ∈ pre, covers z pc = false ∨ (z.catchType ≠ 0 ∧ ∃ nm : String, (Cond.classLink own z.catchType nm).before args s = true ∧ va_Nc E nm s)) (hx : covers x pc = true) (h0 : x.catchType ≠ 0)
    (hlink : (Cond.classLink own x.catchType name).before args s = true) (hcast : (Cond.castable E name).before args s = true) (hcell : H[q]? = some ce) (hv : ce.vm = .none) (hcl : s.vm.findClass E = some ce.cls)
    (kk : W p l e R s m args below meth c H locs cells slots Q (F0 m x.handlerPc ls [.ref q])) : vx_W p l e R s m args below meth c H locs cells slots Q (F0 m pc ls rest) q := by
  intro T hT X
  have hpl : e.platform.magicAccessors = ({} : Platform).magicAccessors := by rw [X.admits.platform]
  obtain ⟨c3, c4, hc3, hc4, hasg⟩ := Cond.castable_spec hcast
  cases Option.some.inj (hc3.symm.trans hcl)
  obtain ⟨c5, hc5, hcl5⟩ := Cond.classLink_spec hown hlink e.platform hpl
  cases Option.some.inj (hc4.symm.trans hc5)
  obtain ⟨vm', X', st⟩ := X.thenCaughtThrough q (g := F0 m pc ls rest) rfl (Steps.refl _) (by rw [hT]; exact hcell) (by rw [hv]; rfl) (by obtain ⟨k9, h9, -⟩ := Vm.findClass_spec hcl; exact ⟨k9, h9⟩) pre x suf hsplit
    (fun z hz => by
      rcases hpass z hz with h | ⟨hz0, nm, hl1, hn1⟩
      · exact Or.inl h
      · obtain ⟨c6, hc6, hcl6⟩ := Cond.classLink_spec hown hl1 e.platform hpl
        obtain ⟨a8, b8, h1, h2, h3⟩ := hn1
        cases Option.some.inj (h1.symm.trans hcl)
        cases Option.some.inj (h2.symm.trans hc6)
        exact Or.inr ⟨hz0, _, hcl6, h3⟩) hx (Or.inr ⟨h0, c4, hcl5, hasg⟩)
  obtain ⟨t, a1, b1⟩ := kk (T.setVm vm') hT X'
  exact ⟨t, st.trans a1, b1⟩
end Rows
section Ends
variable {p : Program} {l : Launch} {e : Env} {R : Room} {s : State} {m : MethodId} {args : Array Value} {below : List Frame} {meth : Method} {c : Code} {H : Heap} {locs : List Loc} {cells slots : Nat} {Q : State → Prop}
variable {mc ms : Nat} {free : Addr → Prop} {A0 A1 : Nat → Prop} {H0 : Heap} {a : Array Value} {ls : Array Slot} {st0 rest : List Value}
variable {Qc : Array Value → State → Outcome → State → Prop} {XC : String → State → State → Prop}
/-- what a body that may throw owes at its end -/
def vx_MQ (below : List Frame) (Qc : Array Value → State → Outcome → State → Prop) (XC : String → State → State → Prop) (a : Array Value) (s : State) (mc ms : Nat) (free : Addr → Prop) : State → Prop := fun t =>
  ∃ o, t.status = .running ∧ Ended t below o ∧ vx_Q Qc XC mc ms free a s o t
theorem vx_ret {g : JFrame} {mc ms : Nat} (k : W p l e R s m args below meth c H locs cells slots (MQ below Qc args s mc ms free) g) : W p l e R s m args below meth c H locs cells slots (vx_MQ below Qc XC args s mc ms free) g := by
  intro T hT X
  obtain ⟨t, a1, o, b1, b2, b3, b4⟩ := k T hT X
  exact ⟨t, a1, o, b1, b2, Or.inl ⟨b3, b4⟩⟩
/-- not caught here: it goes on to the caller -/
theorem vx_widen {g : JFrame} {q : Addr} {k n : Nat} (h1 : cells ≤ k) (h2 : slots ≤ n) (kk : vx_W p l e R s m args below meth c H locs k n Q g q) : vx_W p l e R s m args below meth c H locs cells slots Q g q := fun T hT X => kk T hT (stand_widen X h1 h2)
theorem vx_out {pc : Nat} {E : String} {ce : Cell} {q : Addr} {mc ms : Nat} (hout : ∀ x ∈ c.exceptionTable.toList, covers x pc = false) (hlocks : meth.locks = false) (hcell : H[q]? = some ce) (hv : ce.vm = .none) (hcl : s.vm.findClass E = some ce.cls)
    (hx : ∀ t : State, t.heap = H → s.vm.Alike t.vm → XC E s t) (hf : ∀ z ∈ locs, free z.base) (hc : cells ≤ mc) (hs : slots ≤ ms) :
    vx_W p l e R s m args below meth c H locs cells slots (vx_MQ below Qc XC args s mc ms free) (F0 m pc ls rest) q := by
  intro T hT X
  obtain ⟨st1, hrun, hend, hW, hsm⟩ := X.leaveThrown q (g := F0 m pc ls rest) rfl rfl rfl hout hlocks
  have hcell9 : (T.setFrames (.throwing q :: below)).heap[q]? = some ce := by
    show T.heap[q]? = some ce
    rw [hT]; exact hcell
  exact ⟨_, st1, .threw q, hrun, hend, Or.inr ⟨q, rfl, E, ce, locs, hx _ hT hW.alike, hcell9, hv, hcl, hW, hsm.mono hc hs, hf⟩⟩
theorem vx_frame {U : State} {k n : Nat} (h : s.sameButNew ({ U with vm := s.vm } : State) locs k n) : s.heap.size ≤ U.heap.size ∧ ∀ q : Nat, q < s.heap.size → (∀ z ∈ locs, z.base ≠ q) → U.heap[q]? = s.heap[q]? := by
  obtain ⟨-, h2, -, -, -, h6⟩ := h
  refine ⟨h2, fun q hq hz => ?_⟩
  obtain ⟨c9, e1, e2, e3, e4⟩ := h6 q _ (Array.getElem?_eq_getElem hq)
  have hs : c9.slots = (s.heap[q]).slots := Array.ext_getElem? fun i => e4 i fun hm => hz _ hm rfl
  have h9 : c9 = s.heap[q] := by
    rw [hs] at e2
    exact e2
  have e5 : U.heap[q]? = some c9 := e1
  rw [e5, h9, Array.getElem?_eq_getElem hq]
/-- the words of a throw but the four that speak of the heap -/
def vx_no (w : Cond) : Bool := decide (w ≠ .isRef (.static Bundle.tN "UNASSIGNED_STACK" Bundle.steD)) && decide (w ≠ .isRef (.static Bundle.tN "SUPPRESSED_SENTINEL" Bundle.listD)) && decide (w ≠ .laysStatic Bundle.tN "UNASSIGNED_STACK" Bundle.steD) && decide (w ≠ .laysStatic Bundle.tN "SUPPRESSED_SENTINEL" Bundle.listD)
def vx_at0 (own : String) (ic : Nat) (X : String) (names : List String) : List Cond := (Bundle.ownAtoms0 own ic X names).filter vx_no
def vx_atS (own : String) (ic : Nat) (X : String) (names : List String) : List Cond := (Bundle.ownAtoms own ic X names).filter vx_no
/-- a word that the tables alone decide, or a good one -/
def vx_ot (w : Cond) : Bool := w.onTables || goodWord w
theorem vx_ot_at {args a' : Array Value} {s U : State} {w : Cond} (hW : s.WarmedH U.vm) (hvm : s.vm = U.vm) (hg : vx_ot w = true) (h : w.before args s = true) : w.before a' U = true := by
  simp only [vx_ot, Bool.or_eq_true] at hg
  rcases hg with hg | hg
  · exact va_tabs hg hvm h
  · exact word_at hW (good_of_word hg) h
/-- a list's words: the good ones out of the method's own list, the others by premises of their own -/
theorem vx_hat {args : Array Value} {s : State} {L B : List Cond} (h1 : ∀ w ∈ L.filter goodWord, w.before args s = true) (h2 : ∀ w ∈ L.filter (fun w => !goodWord w), w ∈ B) (h3 : ∀ w ∈ B, w.before args s = true) : ∀ w ∈ L, w.before args s = true := by
  intro w hw
  by_cases g : goodWord w = true
  · exact h1 w (List.mem_filter.mpr ⟨hw, g⟩)
  · refine h3 w (h2 w (List.mem_filter.mpr ⟨hw, ?_⟩))
    show (!goodWord w) = true
    cases hgw : goodWord w
    · rfl
    · exact absurd hgw g
theorem vx_c {args : Array Value} {s : State} {w : Cond} {B : List Cond} (h : w.before args s = true) (t : ∀ w ∈ B, w.before args s = true) : ∀ w' ∈ w :: B, w'.before args s = true := fun w' h' => (List.mem_cons.mp h').elim (fun e => by rw [e]; exact h) (t w')
theorem vx_n {args : Array Value} {s : State} : ∀ w ∈ ([] : List Cond), w.before args s = true := fun _ h => nomatch h
theorem vx_own {args : Array Value} {s : State} {L : List Cond} (h1 : ∀ w ∈ L.filter vx_no, w.before args s = true)
    (hU : (Cond.isRef (.static Bundle.tN "UNASSIGNED_STACK" Bundle.steD)).before args s = true) (hN : (Cond.isRef (.static Bundle.tN "SUPPRESSED_SENTINEL" Bundle.listD)).before args s = true)
    (lU : (Cond.laysStatic Bundle.tN "UNASSIGNED_STACK" Bundle.steD).before args s = true) (lN : (Cond.laysStatic Bundle.tN "SUPPRESSED_SENTINEL" Bundle.listD).before args s = true) : ∀ w ∈ L, w.before args s = true := by
  intro w hw
  by_cases e1 : w = .isRef (.static Bundle.tN "UNASSIGNED_STACK" Bundle.steD)
  · rw [e1]; exact hU
  · by_cases e2 : w = .isRef (.static Bundle.tN "SUPPRESSED_SENTINEL" Bundle.listD)
    · rw [e2]; exact hN
    · by_cases e3 : w = .laysStatic Bundle.tN "UNASSIGNED_STACK" Bundle.steD
      · rw [e3]; exact lU
      · by_cases e4 : w = .laysStatic Bundle.tN "SUPPRESSED_SENTINEL" Bundle.listD
        · rw [e4]; exact lN
        · exact h1 w (List.mem_filter.mpr ⟨hw, by unfold vx_no; rw [decide_eq_true e1, decide_eq_true e2, decide_eq_true e3, decide_eq_true e4]; rfl⟩)
/-- where a static field lies, its class's statics cell in H -/
def vx_L (C n d : String) (A : Nat → Prop) (U : State) (H : Heap) : Prop := ∃ (c : ClassId) (k : Class) (i : Nat) (f : Field) (a : Nat) (cell : Cell), U.vm.findClass C = some c ∧ U.fieldFound? C n d = some (c, k, i, f) ∧ f.isStatic = true ∧ k.statics = some a ∧ H[a]? = some cell ∧ cell.vm.isStatics = true ∧ cell.cls = c ∧ f.slot < cell.slots.size ∧ k.staticTypes[f.slot]? = some f.type ∧ ¬ A a
theorem vx_L.moved {C n d : String} {A : Nat → Prop} {u U : State} {H : Heap} (hvm : u.vm.Alike U.vm) (h : vx_L C n d A u H) : vx_L C n d A U H := by
  obtain ⟨c, k, i, f, a, cell, h1, h2, h3, h4, h5, h6, h7, h8, h9, h10⟩ := h
  obtain ⟨k', hi', he⟩ := State.fieldFound?_setVm hvm h2
  exact ⟨c, k', i, f, a, cell, by rw [hvm.findClass]; exact h1, hi', h3, by rw [he]; exact h4, h5, h6, h7, h8, by rw [he]; exact h9, h10⟩
theorem vx_L.kept {C n d : String} {A : Nat → Prop} {U : State} {H H1 : Heap} (h : vx_L C n d A U H) (hq : ∀ a : Nat, a < H.size → ¬ A a → H1[a]? = H[a]?) : vx_L C n d A U H1 := by
  obtain ⟨c, k, i, f, a, cell, h1, h2, h3, h4, h5, h6, h7, h8, h9, h10⟩ := h
  exact ⟨c, k, i, f, a, cell, h1, h2, h3, h4, by rw [hq a (Array.getElem?_eq_some_iff.mp h5).1 h10]; exact h5, h6, h7, h8, h9, h10⟩
theorem vx_L.narrow {C n d : String} {A B : Nat → Prop} {U : State} {H : Heap} (h : vx_L C n d A U H) (hAB : ∀ q, B q → A q) : vx_L C n d B U H := by
  obtain ⟨c, k, i, f, a, cell, h1, h2, h3, h4, h5, h6, h7, h8, h9, h10⟩ := h
  exact ⟨c, k, i, f, a, cell, h1, h2, h3, h4, h5, h6, h7, h8, h9, fun z => h10 (hAB _ z)⟩
theorem vx_L.word {C n d : String} {A : Nat → Prop} {s : State} {args : Array Value} (h : vx_L C n d A s s.heap) : (Cond.laysStatic C n d).before args s = true := by
  obtain ⟨c, k, i, f, a, cell, h1, h2, h3, h4, h5, h6, h7, h8, h9, -⟩ := h
  show (Cond.laysStatic C n d).holds args s none s [] = true
  exact Cond.laysStatic_of h1 h2 h3 h4 h5 h6 h7 h8 h9
/-- .. and what it holds: null or some reference -/
def vx_Zq (C n d : String) (A : Nat → Prop) (U : State) (H : Heap) : Prop := va_Zq C n d A U H ∧ vx_L C n d A U H
theorem vx_Zq.moved {C n d : String} {A : Nat → Prop} {u U : State} {H : Heap} (hvm : u.vm.Alike U.vm) (h : vx_Zq C n d A u H) : vx_Zq C n d A U H := ⟨va_Zq.moved hvm h.1, vx_L.moved hvm h.2⟩
theorem vx_Zq.kept {C n d : String} {A : Nat → Prop} {U : State} {H H1 : Heap} (h : vx_Zq C n d A U H) (hq : ∀ a : Nat, a < H.size → ¬ A a → H1[a]? = H[a]?) : vx_Zq C n d A U H1 := ⟨va_Zq.kept h.1 hq, vx_L.kept h.2 hq⟩
theorem vx_Zq.narrow {C n d : String} {A B : Nat → Prop} {U : State} {H : Heap} (h : vx_Zq C n d A U H) (hAB : ∀ q, B q → A q) : vx_Zq C n d B U H := ⟨va_Zq.narrow h.1 hAB, vx_L.narrow h.2 hAB⟩
theorem vx_Zqof {args : Array Value} {s : State} {C n d : String} {A : Nat → Prop} (hl : (Cond.laysStatic C n d).before args s = true) (hini : (Cond.initialized C).before args s = true) (h : (Cond.isRef (.static C n d)).before args s = true) (hA : ∀ a : Nat, a < s.heap.size → ¬ A a) : vx_Zq C n d A s s.heap := by
  refine ⟨va_Zqof hl hini h hA, ?_⟩
  obtain ⟨c, k, i, f, a, cell, h1, h2, h3, h4, h5, h6, h7, h8, h9⟩ := Cond.laysStatic_spec hl
  exact ⟨c, k, i, f, a, cell, h1, h2, h3, h4, h5, h6, h7, h8, h9, hA a (Array.getElem?_eq_some_iff.mp h5).1⟩
theorem vx_isRef {C n d : String} {v : Value} {A : Nat → Prop} {s : State} {args : Array Value} (h : va_Z C n d v A s s.heap) (hv : v.isRef = true) : (Cond.isRef (.static C n d)).before args s = true := by
  obtain ⟨cf, kf, fi, f, a, cell, h1, h2, h3, h4, h5, h6, h7, -⟩ := h
  have he : (Term.static C n d).eval args s none [] s = some v := by
    simp [Term.eval, State.fieldNamed?, h1, h2, h4, h5, h6, h7]
  simp only [Cond.before, Cond.holds, Cond.value, he]
  cases v <;> simp_all [Value.isRef]
theorem vx_isRefq {C n d : String} {A : Nat → Prop} {s : State} {args : Array Value} (h : va_Zq C n d A s s.heap) : (Cond.isRef (.static C n d)).before args s = true := by
  rcases h with h | ⟨t, h⟩
  · exact vx_isRef h rfl
  · exact vx_isRef h rfl
/-- the same frame, seen from here: as if the method were called anew in this heap -/
theorem vx_rebase {T : State} (X : Stand p l e R s m args below meth c T locs cells slots) {R' : Room} (hf : R'.frames ≤ R.frames) (hl : R'.locals ≤ R.locals) (hc : cells + R'.cells ≤ R.cells) (hs : slots + R'.slots ≤ R.slots) :
    Stand p l e R' ((T.setVm s.vm).setFrames (.invoking m args :: below)) m args below meth c T [] 0 0 := by
  have htop : (T.setVm s.vm).topJava?.isSome := X.here.top
  have hF : ((T.setVm s.vm).setFrames (.invoking m args :: below)).frames = .invoking m args :: below := State.frames_setFrames _ (State.cur_lt_of_top htop)
  obtain ⟨g₀, hg0⟩ := Option.isSome_iff_exists.mp htop
  obtain ⟨r, hr⟩ := State.topJava?_eq_some.mp hg0
  have hl9 : e.platform.stackLimits (T.setVm s.vm).me = e.platform.stackLimits s.me := X.limits
  have hb9 : (T.setVm s.vm).me.stackBytes = s.me.stackBytes := X.bytes
  refine ⟨X.admits, X.cas, X.clock, hF, ?_, X.hears, X.method, X.code, X.here, X.tail, X.warmed, ?_, ?_, ?_⟩
  · have h := X.room
    have hU : ((T.setVm s.vm).setFrames (.invoking m args :: below)).localsInUse = s.localsInUse := by
      rw [State.localsInUse_invoking hF (meth := meth) (c := c) X.method X.code, State.localsInUse_invoking X.frames X.method X.code]
    simp only [State.hasRoom, Bool.and_eq_true, decide_eq_true_eq] at h ⊢
    obtain ⟨⟨⟨⟨h1, h2, h3, h4, h5, h6⟩, h7⟩, h8⟩, h9⟩ := h
    rw [X.frames, List.length_cons] at h2 h3
    have q1 := X.heapSize
    have q2 := X.used
    simp only [hF, hU, List.length_cons, State.stackLimits_setFrames, State.stackBytes_setFrames, hl9, hb9]
    refine ⟨⟨⟨⟨by omega, by omega, by omega, by omega, by omega, h6⟩, ?_⟩, ?_⟩, X.book⟩
    · show T.heap.size + R'.cells ≤ e.platform.maxCells
      omega
    · show T.slotsUsed + R'.slots ≤ e.platform.maxSlots
      omega
  · rw [State.stackLimits_setFrames]; rfl
  · rw [State.stackBytes_setFrames]; rfl
  · refine ⟨?_, Nat.le_refl _, Nat.le_refl _, ?_, ?_, fun a c9 h9 => ⟨c9, h9, rfl, rfl, fun _ _ => rfl⟩⟩
    · obtain ⟨t, ht, -⟩ := State.frames_cons hr
      show T.setVm s.vm = { ((T.setVm s.vm).setFrames (.invoking m args :: below)).setFrames (T.setVm s.vm).frames with heap := T.heap, slotsUsed := T.slotsUsed }
      rw [State.setFrames_setFrames, State.setFrames_self ht]
      rfl
    · show T.slotsUsed = T.slotsUsed + ((T.heap.toList.drop T.heap.size).map (·.slots.size)).sum
      rw [List.drop_eq_nil_of_le (Nat.le_of_eq Array.length_toList)]
      rfl
    · show ((T.heap.toList.drop T.heap.size).map (·.slots.size)).sum ≤ 0
      rw [List.drop_eq_nil_of_le (Nat.le_of_eq Array.length_toList)]
      exact Nat.le_refl _
/-- 'throw new E()': new; dup; invokespecial; athrow -/
theorem vx_throw0 {cc : ByteArray} {pc : Nat} (hexec : p.tables.exec = Jvm.exec) (hb : c.code = cc) (hl : l.stackTraces = false) {own cls : String} {names : List String} {ik ic mc ms : Nat} {A : Nat → Prop}
    (hown : s.vm.findClass own = some m.cls) (hcls : Bundle.fit cls = true) (hnames : ∀ n ∈ names, Bundle.fit n = true)
    (hk : (Cond.classLink own ik cls).before args s = true) (hini : (Cond.initialized cls).before args s = true) (hat : ∀ w ∈ vx_at0 own ic cls names, w.before args s = true)
    (hgood : ∀ w ∈ Cond.classLink own ik cls :: Cond.initialized cls :: vx_at0 own ic cls names, vx_ot w = true)
    (hU : vx_Zq Bundle.tN "UNASSIGNED_STACK" Bundle.steD A s s.heap) (hN : vx_Zq Bundle.tN "SUPPRESSED_SENTINEL" Bundle.listD A s s.heap) (hS : va_S A s.heap H locs) (hsize : ls.size = c.maxLocals)
    (d0 : decode cc pc = .ok (.new ik, 3)) (d3 : decode cc (pc + 3) = .ok (.dup, 1)) (d4 : decode cc (pc + 4) = .ok (.invokespecial ic, 3)) (d7 : decode cc (pc + 7) = .ok (.athrow, 1))
    (hout : ∀ x ∈ c.exceptionTable.toList, covers x (pc + 7) = false)
    (hRframes : names.length + 3 < R.frames) (hRlocals : (rest.map fun v => v.category).sum + (13 * (names.length + 1) + 42) ≤ R.locals) (hRcells : cells + 1 ≤ R.cells) (hRslots : slots + 6 ≤ R.slots) (hlocks : meth.locks = false)
    (hx : ∀ t : State, s.vm.Alike t.vm → H.size ≤ t.heap.size → (∀ q : Nat, q < H.size → t.heap[q]? = H[q]?) → XC cls s t)
    (hf : ∀ z ∈ locs, free z.base) (hc : cells + 1 ≤ mc) (hs : slots + 6 ≤ ms) :
    W p l e R s m args below meth c H locs cells slots (vx_MQ below Qc XC args s mc ms free) (F0 m pc ls rest) := by
  intro T hT X
  have htr : e.platform.stackTraces = false := (show e.platform.stackTraces = l.stackTraces by rw [X.admits.platform]).trans hl
  have Y := vx_rebase X (R' := { frames := R.frames, locals := R.locals, cells := 1, slots := 6 }) (Nat.le_refl _) (Nat.le_refl _) hRcells hRslots
  obtain ⟨s', hA⟩ : ∃ z, z = (T.setVm s.vm).setFrames (.invoking m args :: below) := ⟨_, rfl⟩
  rw [← hA] at Y
  have hvm : s'.vm = s.vm := by rw [hA]; rfl
  have hhp : s'.heap = H := by rw [hA]; exact hT
  have hW0 : s.WarmedH s'.vm := by rw [hvm]; exact State.WarmedH.refl s
  have hat' : ∀ w ∈ vx_at0 own ic cls names, w.before args s' = true := fun w hw => vx_ot_at hW0 hvm.symm (hgood w (List.mem_cons_of_mem _ (List.mem_cons_of_mem _ hw))) (hat w hw)
  have hk' : (Cond.classLink own ik cls).before args s' = true := vx_ot_at hW0 hvm.symm (hgood _ List.mem_cons_self) hk
  have hini' : (Cond.initialized cls).before args s' = true := vx_ot_at hW0 hvm.symm (hgood _ (List.mem_cons_of_mem _ List.mem_cons_self)) hini
  have hU' : vx_Zq Bundle.tN "UNASSIGNED_STACK" Bundle.steD A s' s'.heap := by rw [hhp]; exact vx_Zq.moved hW0.alike (hU.kept hS.2.1)
  have hN' : vx_Zq Bundle.tN "SUPPRESSED_SENTINEL" Bundle.listD A s' s'.heap := by rw [hhp]; exact vx_Zq.moved hW0.alike (hN.kept hS.2.1)
  have h : ∀ w ∈ Bundle.ownAtoms0 own ic cls names, w.before args s' = true := vx_own hat' (vx_isRefq hU'.1) (vx_isRefq hN'.1) hU'.2.word hN'.2.word
  have hown' : s'.vm.findClass own = some m.cls := by rw [hvm]; exact hown
  have hins : (Cond.instantiable cls 6).before args s' = true := h _ (by simp [Bundle.ownAtoms0])
  obtain ⟨vm₁, cX, kX, hfX, hkX, -, -, X₁, st1⟩ := Y.newCold hexec (own := own) (C := cls) (index := ik) (n := 6) hown' hk' hins hini'
    (g := F0 m pc ls rest) rfl (by rw [hb]; exact d0) (Nat.le_refl _) (Nat.le_refl _)
  generalize hT1 : (T.setVm vm₁).pushCell { cls := cX, slots := kX.instanceTypes.map defaultValue, vm := .none } = T1 at X₁ st1
  have hcat : (Value.ref T.heap.size).category = 1 := rfl
  have hcellA : T1.heap[T.heap.size]? = some (freshCell cX kX) := by rw [← hT1]; exact State.heap_pushCell_size _ _
  have d3' : decode c.code (pc + 3) = .ok (.dup, 1) := by rw [hb]; exact d3
  obtain ⟨U, hsteps, hrun, hend, hW, hsame, ce, hce, hO⟩ := X₁.ctorThrow0 hexec htr (own := own) (cls := cls) (names := names) (ic := ic) hown' hcls hnames h (fun x hx => nomatch hx) hfX hkX hcellA (by rw [hhp, hT]; exact Nat.le_refl _)
    (g := { method := m, pc := pc + 4, locals := ls, stack := .ref T.heap.size :: .ref T.heap.size :: rest, locked := none }) rfl hsize rfl rfl (rest := rest) rfl
    (by rw [hb]; exact d4) (by rw [hb]; exact d7) hout hRframes (by simp only [List.map_cons, List.sum_cons, hcat]; omega) hlocks
  obtain ⟨f1, f2⟩ := vx_frame hsame
  rw [hhp] at f1 f2
  have hWs : s.WarmedH U.vm := State.WarmedH.trans hW0 hW
  have hcl : s.vm.findClass cls = some ce.cls := by
    have h9 := hO.cls
    rw [hvm] at h9
    exact h9
  have hall : s.sameButNew ({ U with vm := s.vm } : State) locs mc ms := by
    subst hA
    obtain ⟨e1, e2⟩ := hsame
    rw [State.setFrames_setFrames] at e1
    have h2 : (T.setVm s.vm).sameButNew ({ U with vm := s.vm } : State) [] (0 + 1) (0 + 6) := ⟨e1, e2⟩
    have h3 := X.same.trans h2
    rw [List.append_nil] at h3
    exact h3.mono hc hs
  refine ⟨U, ?_, .threw T.heap.size, hrun, hend, Or.inr ⟨T.heap.size, rfl, cls, ce, locs, hx U hWs.alike f1 (fun q hq => f2 q hq (fun z hz => nomatch hz)), hce, hO.vm, hcl, hWs, hall, hf⟩⟩
  refine st1 _ ?_
  show Steps p.tables e below (T1.setTop { method := m, pc := pc + 3, locals := ls, stack := .ref T.heap.size :: rest, locked := none }) _
  jvm_step X₁.here [X₁.here.top, hexec, d3', Value.category]
  exact hsteps
/-- 'throw new E("text")': new; dup; ldc; invokespecial; athrow -/
theorem vx_throwS {cc : ByteArray} {pc : Nat} (hexec : p.tables.exec = Jvm.exec) (hb : c.code = cc) (hl : l.stackTraces = false) {own cls text : String} {names : List String} {ik is ic mc ms sa : Nat} {A : Nat → Prop}
    (hown : s.vm.findClass own = some m.cls) (hcls : Bundle.fit cls = true) (hnames : ∀ n ∈ names, Bundle.fit n = true)
    (hk : (Cond.classLink own ik cls).before args s = true) (hini : (Cond.initialized cls).before args s = true) (hstr : vk_R own is text sa s) (hat : ∀ w ∈ vx_atS own ic cls names, w.before args s = true)
    (hgood : ∀ w ∈ Cond.classLink own ik cls :: Cond.initialized cls :: vx_atS own ic cls names, vx_ot w = true)
    (hU : vx_Zq Bundle.tN "UNASSIGNED_STACK" Bundle.steD A s s.heap) (hN : vx_Zq Bundle.tN "SUPPRESSED_SENTINEL" Bundle.listD A s s.heap) (hS : va_S A s.heap H locs) (hsize : ls.size = c.maxLocals)
    (d0 : decode cc pc = .ok (.new ik, 3)) (d3 : decode cc (pc + 3) = .ok (.dup, 1)) (d4 : decode cc (pc + 4) = .ok (.ldc is, 2)) (d6 : decode cc (pc + 6) = .ok (.invokespecial ic, 3)) (d9 : decode cc (pc + 9) = .ok (.athrow, 1))
    (hout : ∀ x ∈ c.exceptionTable.toList, covers x (pc + 9) = false)
    (hRframes : names.length + 3 < R.frames) (hRlocals : (rest.map fun v => v.category).sum + (13 * (names.length + 1) + 43) ≤ R.locals) (hRcells : cells + 1 ≤ R.cells) (hRslots : slots + 6 ≤ R.slots) (hlocks : meth.locks = false)
    (hx : ∀ t : State, s.vm.Alike t.vm → H.size ≤ t.heap.size → (∀ q : Nat, q < H.size → t.heap[q]? = H[q]?) → XC cls s t)
    (hf : ∀ z ∈ locs, free z.base) (hc : cells + 1 ≤ mc) (hs : slots + 6 ≤ ms) :
    W p l e R s m args below meth c H locs cells slots (vx_MQ below Qc XC args s mc ms free) (F0 m pc ls rest) := by
  intro T hT X
  have htr : e.platform.stackTraces = false := (show e.platform.stackTraces = l.stackTraces by rw [X.admits.platform]).trans hl
  have Y := vx_rebase X (R' := { frames := R.frames, locals := R.locals, cells := 1, slots := 6 }) (Nat.le_refl _) (Nat.le_refl _) hRcells hRslots
  obtain ⟨s', hA⟩ : ∃ z, z = (T.setVm s.vm).setFrames (.invoking m args :: below) := ⟨_, rfl⟩
  rw [← hA] at Y
  have hvm : s'.vm = s.vm := by rw [hA]; rfl
  have hhp : s'.heap = H := by rw [hA]; exact hT
  have hW0 : s.WarmedH s'.vm := by rw [hvm]; exact State.WarmedH.refl s
  have hat' : ∀ w ∈ vx_atS own ic cls names, w.before args s' = true := fun w hw => vx_ot_at hW0 hvm.symm (hgood w (List.mem_cons_of_mem _ (List.mem_cons_of_mem _ hw))) (hat w hw)
  have hk' : (Cond.classLink own ik cls).before args s' = true := vx_ot_at hW0 hvm.symm (hgood _ List.mem_cons_self) hk
  have hini' : (Cond.initialized cls).before args s' = true := vx_ot_at hW0 hvm.symm (hgood _ (List.mem_cons_of_mem _ List.mem_cons_self)) hini
  have hU' : vx_Zq Bundle.tN "UNASSIGNED_STACK" Bundle.steD A s' s'.heap := by rw [hhp]; exact vx_Zq.moved hW0.alike (hU.kept hS.2.1)
  have hN' : vx_Zq Bundle.tN "SUPPRESSED_SENTINEL" Bundle.listD A s' s'.heap := by rw [hhp]; exact vx_Zq.moved hW0.alike (hN.kept hS.2.1)
  have h : ∀ w ∈ Bundle.ownAtoms own ic cls names, w.before args s' = true := vx_own hat' (vx_isRefq hU'.1) (vx_isRefq hN'.1) hU'.2.word hN'.2.word
  have hown' : s'.vm.findClass own = some m.cls := by rw [hvm]; exact hown
  have hins : (Cond.instantiable cls 6).before args s' = true := h _ (by simp [Bundle.ownAtoms])
  obtain ⟨vm₁, cX, kX, hfX, hkX, -, -, X₁, st1⟩ := Y.newCold hexec (own := own) (C := cls) (index := ik) (n := 6) hown' hk' hins hini'
    (g := F0 m pc ls rest) rfl (by rw [hb]; exact d0) (Nat.le_refl _) (Nat.le_refl _)
  generalize hT1 : (T.setVm vm₁).pushCell { cls := cX, slots := kX.instanceTypes.map defaultValue, vm := .none } = T1 at X₁ st1
  have hcat : (Value.ref T.heap.size).category = 1 := rfl
  have hcellA : T1.heap[T.heap.size]? = some (freshCell cX kX) := by rw [← hT1]; exact State.heap_pushCell_size _ _
  have d3' : decode c.code (pc + 3) = .ok (.dup, 1) := by rw [hb]; exact d3
  have d4' : decode c.code (pc + 4) = .ok (.ldc is, 2) := by rw [hb]; exact d4
  have hstr' : vk_R own is text sa s' := vk_R.warm hW0 hstr
  obtain ⟨U, hsteps, hrun, hend, hW, hsame, ce, hce, hO⟩ := X₁.ctorThrowS hexec htr (own := own) (cls := cls) (names := names) (ic := ic) hown' hcls hnames h (fun x hx => nomatch hx) hfX hkX hcellA (by rw [hhp, hT]; exact Nat.le_refl _) (msg := .ref sa) rfl
    (g := { method := m, pc := pc + 6, locals := ls, stack := .ref sa :: .ref T.heap.size :: .ref T.heap.size :: rest, locked := none }) rfl hsize rfl rfl (rest := rest) rfl
    (by rw [hb]; exact d6) (by rw [hb]; exact d9) hout hRframes (by simp only [List.map_cons, List.sum_cons, hcat]; omega) hlocks
  obtain ⟨f1, f2⟩ := vx_frame hsame
  rw [hhp] at f1 f2
  have hWs : s.WarmedH U.vm := State.WarmedH.trans hW0 hW
  have hcl : s.vm.findClass cls = some ce.cls := by
    have h9 := hO.cls
    rw [hvm] at h9
    exact h9
  have hall : s.sameButNew ({ U with vm := s.vm } : State) locs mc ms := by
    subst hA
    obtain ⟨e1, e2⟩ := hsame
    rw [State.setFrames_setFrames] at e1
    have h2 : (T.setVm s.vm).sameButNew ({ U with vm := s.vm } : State) [] (0 + 1) (0 + 6) := ⟨e1, e2⟩
    have h3 := X.same.trans h2
    rw [List.append_nil] at h3
    exact h3.mono hc hs
  refine ⟨U, ?_, .threw T.heap.size, hrun, hend, Or.inr ⟨T.heap.size, rfl, cls, ce, locs, hx U hWs.alike f1 (fun q hq => f2 q hq (fun z hz => nomatch hz)), hce, hO.vm, hcl, hWs, hall, hf⟩⟩
  refine st1 _ ?_
  show Steps p.tables e below (T1.setTop { method := m, pc := pc + 3, locals := ls, stack := .ref T.heap.size :: rest, locked := none }) _
  jvm_step X₁.here [X₁.here.top, hexec, d3', Value.category]
  exact X₁.ldcString hexec (own := own) (text := text) (index := is) (a := sa) hown' hstr'.1 hstr'.2
    (g := { method := m, pc := pc + 4, locals := ls, stack := .ref T.heap.size :: .ref T.heap.size :: rest, locked := none }) rfl d4' _ hsteps
/-- 'throw new E("text")', the text by a wide index -/
theorem vx_throwSW {cc : ByteArray} {pc : Nat} (hexec : p.tables.exec = Jvm.exec) (hb : c.code = cc) (hl : l.stackTraces = false) {own cls text : String} {names : List String} {ik is ic mc ms sa : Nat} {A : Nat → Prop}
    (hown : s.vm.findClass own = some m.cls) (hcls : Bundle.fit cls = true) (hnames : ∀ n ∈ names, Bundle.fit n = true)
    (hk : (Cond.classLink own ik cls).before args s = true) (hini : (Cond.initialized cls).before args s = true) (hstr : vk_R own is text sa s) (hat : ∀ w ∈ vx_atS own ic cls names, w.before args s = true)
    (hgood : ∀ w ∈ Cond.classLink own ik cls :: Cond.initialized cls :: vx_atS own ic cls names, vx_ot w = true)
    (hU : vx_Zq Bundle.tN "UNASSIGNED_STACK" Bundle.steD A s s.heap) (hN : vx_Zq Bundle.tN "SUPPRESSED_SENTINEL" Bundle.listD A s s.heap) (hS : va_S A s.heap H locs) (hsize : ls.size = c.maxLocals)
    (d0 : decode cc pc = .ok (.new ik, 3)) (d3 : decode cc (pc + 3) = .ok (.dup, 1)) (d4 : decode cc (pc + 4) = .ok (.ldc_w is, 3)) (d7 : decode cc (pc + 7) = .ok (.invokespecial ic, 3)) (d10 : decode cc (pc + 10) = .ok (.athrow, 1))
    (hout : ∀ x ∈ c.exceptionTable.toList, covers x (pc + 10) = false)
    (hRframes : names.length + 3 < R.frames) (hRlocals : (rest.map fun v => v.category).sum + (13 * (names.length + 1) + 43) ≤ R.locals) (hRcells : cells + 1 ≤ R.cells) (hRslots : slots + 6 ≤ R.slots) (hlocks : meth.locks = false)
    (hx : ∀ t : State, s.vm.Alike t.vm → H.size ≤ t.heap.size → (∀ q : Nat, q < H.size → t.heap[q]? = H[q]?) → XC cls s t)
    (hf : ∀ z ∈ locs, free z.base) (hc : cells + 1 ≤ mc) (hs : slots + 6 ≤ ms) :
    W p l e R s m args below meth c H locs cells slots (vx_MQ below Qc XC args s mc ms free) (F0 m pc ls rest) := by
  intro T hT X
  have htr : e.platform.stackTraces = false := (show e.platform.stackTraces = l.stackTraces by rw [X.admits.platform]).trans hl
  have Y := vx_rebase X (R' := { frames := R.frames, locals := R.locals, cells := 1, slots := 6 }) (Nat.le_refl _) (Nat.le_refl _) hRcells hRslots
  obtain ⟨s', hA⟩ : ∃ z, z = (T.setVm s.vm).setFrames (.invoking m args :: below) := ⟨_, rfl⟩
  rw [← hA] at Y
  have hvm : s'.vm = s.vm := by rw [hA]; rfl
  have hhp : s'.heap = H := by rw [hA]; exact hT
  have hW0 : s.WarmedH s'.vm := by rw [hvm]; exact State.WarmedH.refl s
  have hat' : ∀ w ∈ vx_atS own ic cls names, w.before args s' = true := fun w hw => vx_ot_at hW0 hvm.symm (hgood w (List.mem_cons_of_mem _ (List.mem_cons_of_mem _ hw))) (hat w hw)
  have hk' : (Cond.classLink own ik cls).before args s' = true := vx_ot_at hW0 hvm.symm (hgood _ List.mem_cons_self) hk
  have hini' : (Cond.initialized cls).before args s' = true := vx_ot_at hW0 hvm.symm (hgood _ (List.mem_cons_of_mem _ List.mem_cons_self)) hini
  have hU' : vx_Zq Bundle.tN "UNASSIGNED_STACK" Bundle.steD A s' s'.heap := by rw [hhp]; exact vx_Zq.moved hW0.alike (hU.kept hS.2.1)
  have hN' : vx_Zq Bundle.tN "SUPPRESSED_SENTINEL" Bundle.listD A s' s'.heap := by rw [hhp]; exact vx_Zq.moved hW0.alike (hN.kept hS.2.1)
  have h : ∀ w ∈ Bundle.ownAtoms own ic cls names, w.before args s' = true := vx_own hat' (vx_isRefq hU'.1) (vx_isRefq hN'.1) hU'.2.word hN'.2.word
  have hown' : s'.vm.findClass own = some m.cls := by rw [hvm]; exact hown
  have hins : (Cond.instantiable cls 6).before args s' = true := h _ (by simp [Bundle.ownAtoms])
  obtain ⟨vm₁, cX, kX, hfX, hkX, -, -, X₁, st1⟩ := Y.newCold hexec (own := own) (C := cls) (index := ik) (n := 6) hown' hk' hins hini'
    (g := F0 m pc ls rest) rfl (by rw [hb]; exact d0) (Nat.le_refl _) (Nat.le_refl _)
  generalize hT1 : (T.setVm vm₁).pushCell { cls := cX, slots := kX.instanceTypes.map defaultValue, vm := .none } = T1 at X₁ st1
  have hcat : (Value.ref T.heap.size).category = 1 := rfl
  have hcellA : T1.heap[T.heap.size]? = some (freshCell cX kX) := by rw [← hT1]; exact State.heap_pushCell_size _ _
  have d3' : decode c.code (pc + 3) = .ok (.dup, 1) := by rw [hb]; exact d3
  have d4' : decode c.code (pc + 4) = .ok (.ldc_w is, 3) := by rw [hb]; exact d4
  have hstr' : vk_R own is text sa s' := vk_R.warm hW0 hstr
  obtain ⟨U, hsteps, hrun, hend, hW, hsame, ce, hce, hO⟩ := X₁.ctorThrowS hexec htr (own := own) (cls := cls) (names := names) (ic := ic) hown' hcls hnames h (fun x hx => nomatch hx) hfX hkX hcellA (by rw [hhp, hT]; exact Nat.le_refl _) (msg := .ref sa) rfl
    (g := { method := m, pc := pc + 7, locals := ls, stack := .ref sa :: .ref T.heap.size :: .ref T.heap.size :: rest, locked := none }) rfl hsize rfl rfl (rest := rest) rfl
    (by rw [hb]; exact d7) (by rw [hb]; exact d10) hout hRframes (by simp only [List.map_cons, List.sum_cons, hcat]; omega) hlocks
  obtain ⟨f1, f2⟩ := vx_frame hsame
  rw [hhp] at f1 f2
  have hWs : s.WarmedH U.vm := State.WarmedH.trans hW0 hW
  have hcl : s.vm.findClass cls = some ce.cls := by
    have h9 := hO.cls
    rw [hvm] at h9
    exact h9
  have hall : s.sameButNew ({ U with vm := s.vm } : State) locs mc ms := by
    subst hA
    obtain ⟨e1, e2⟩ := hsame
    rw [State.setFrames_setFrames] at e1
    have h2 : (T.setVm s.vm).sameButNew ({ U with vm := s.vm } : State) [] (0 + 1) (0 + 6) := ⟨e1, e2⟩
    have h3 := X.same.trans h2
    rw [List.append_nil] at h3
    exact h3.mono hc hs
  refine ⟨U, ?_, .threw T.heap.size, hrun, hend, Or.inr ⟨T.heap.size, rfl, cls, ce, locs, hx U hWs.alike f1 (fun q hq => f2 q hq (fun z hz => nomatch hz)), hce, hO.vm, hcl, hWs, hall, hf⟩⟩
  refine st1 _ ?_
  show Steps p.tables e below (T1.setTop { method := m, pc := pc + 3, locals := ls, stack := .ref T.heap.size :: rest, locked := none }) _
  jvm_step X₁.here [X₁.here.top, hexec, d3', Value.category]
  exact X₁.ldcStringW hexec (own := own) (text := text) (index := is) (a := sa) hown' hstr'.1 hstr'.2
    (g := { method := m, pc := pc + 4, locals := ls, stack := .ref T.heap.size :: .ref T.heap.size :: rest, locked := none }) rfl d4' _ hsteps
end Ends
section Bodies
variable {l : Launch}
theorem vx_ofW {y : MethodName} {ws ws' : List Cond} {rm : Room} {Pc : Array Value → State → Prop} {Qc : Array Value → State → Outcome → State → Prop} {XC : String → State → State → Prop} {mc ms : Nat} {free : Addr → Prop} {cc : ByteArray} {maxL : Nat} {ret : Option FieldType}
    (hy : plainName y.cls = true) (hw : ws = Cond.code y cc maxL ret :: ws')
    (body : ∀ p e s m args below meth c s₁, BodyLoose p l y (headSpec ws rm) cc maxL ret e s m args below meth c s₁ → c.maxLocals = maxL → (∀ x ∈ c.exceptionTable.toList, False) → Pc args s →
      W p l e (headSpec ws rm).room s m args below meth c s.heap [] 0 0 (vx_MQ below Qc XC args s mc ms free) (entryFrame m args maxL)) : vx_Met l y ws rm Pc Qc XC mc ms free := by
  refine MetFree.of_bodyS (code := cc) (maxLocals := maxL) (ret := ret) hy ?_ ?_
  · intro args s m h hn
    obtain ⟨meth, c, h1, h2, h3, h4, h5, h6, -, -⟩ := Cond.code_spec hn (atoms_spec (ws := ws) h _ (by rw [hw]; exact List.mem_cons_self))
    exact ⟨meth, c, h1, h2, h3, h4, h5, h6⟩
  · intro p e s m args below meth c s₁ B hml hP _
    have hh0 : s₁.heap = s.heap := by rw [B.state]; rfl
    have ht : ∀ x ∈ c.exceptionTable.toList, False := by
      obtain ⟨meth9, c9, h1, h2, -, -, -, -, h7, -⟩ := Cond.code_spec B.named (atoms_spec (ws := ws) B.pre _ (by rw [hw]; exact List.mem_cons_self))
      cases Option.some.inj (h1.symm.trans B.method)
      cases Option.some.inj (h2.symm.trans (Stand.of_body B).code)
      intro x hx
      rw [Array.isEmpty_iff.mp h7] at hx
      cases hx
    obtain ⟨t, a1, o, b1, b2, b3⟩ := body p e s m args below meth c s₁ B hml ht hP s₁ hh0 (Stand.of_body B)
    exact ⟨t, o, a1, b1, b2, b3⟩
/-- the table of a body with handlers -/
theorem vx_table {p : Program} {x y : MethodName} {S : Spec} {cc bytes : ByteArray} {maxL maxL' : Nat} {ret ret' : Option FieldType} {e : Env} {s s₁ : State} {m : MethodId} {args : Array Value} {below : List Frame} {meth : Method} {c : Code} {hh : List (Nat × Nat × Nat × Nat)}
    (B : BodyLoose p l y S cc maxL ret e s m args below meth c s₁) (h : (Cond.codeWith y bytes maxL' ret' hh).before args s = true) : c.exceptionTable.toList = tableOf hh := by
  obtain ⟨m9, meth9, c9, hn9, h1, h2, -, -, h6, -⟩ := Cond.codeWith_spec h
  cases Option.some.inj (hn9.symm.trans B.named)
  cases Option.some.inj (h1.symm.trans B.method)
  cases Option.some.inj (h2.symm.trans (Stand.of_body B).code)
  rw [← h6, table_eq]
end Bodies
end VXA
/-! ===== END ===== -/
/-! ===== BEGIN a static call of a method with an exception table ===== -/
section VXS
variable {p : Program} {l : Launch} {e : Env} {R : Room} {s : State} {m : MethodId} {args : Array Value} {below : List Frame} {meth : Method} {c : Code} {T : State} {H : Heap} {locs : List Loc} {cells slots : Nat}
abbrev vx_CSW (R : Room) (s : State) (args : Array Value) (own : String) (index : Nat) (y : MethodName) (bytes : ByteArray) (maxL : Nat) (ret : Option FieldType) (hh : List (Nat × Nat × Nat × Nat)) (ws : List Cond) (rm : Room) (mc ms n : Nat) : Prop :=
  (rm.cells = mc ∧ rm.slots = ms ∧ rm.frames + 1 ≤ R.frames ∧ 8 + (maxL + 11) + rm.locals ≤ R.locals ∧ (∀ w ∈ ws, ∀ (a' : Array Value) (U : State), s.WarmedH U.vm → w.before a' U = true) ∧ Cond.codeWith y bytes maxL ret hh ∈ ws) ∧
  (Cond.codeWith y bytes maxL ret hh).before args s = true ∧ (Cond.initialized y.cls).before args s = true ∧ (y.cls ≠ "java/lang/invoke/MethodHandle" ∧ y.cls ≠ "java/lang/invoke/VarHandle") ∧
  (∀ sig, parseMethodDescriptor y.desc = some sig → n = sig.parameters.length) ∧ (Cond.methodLink own index y).before args s = true ∧ (Cond.static y).before args s = true
theorem vx_cwSW {own : String} {index maxL mc ms : Nat} {y : MethodName} {bytes : ByteArray} {ret : Option FieldType} {hh : List (Nat × Nat × Nat × Nat)} {Ts ws ws' : List Cond} {rm : Room} (n : Nat) (ht : ∀ w ∈ Ts, w.before args s = true) (hT : GoodIn Ts (va_wsS own index y ws)) (hw : ws = Cond.codeWith y bytes maxL ret hh :: ws') (hrc : rm.cells = mc) (hrs : rm.slots = ms)
    (hd : y.cls ≠ "java/lang/invoke/MethodHandle" ∧ y.cls ≠ "java/lang/invoke/VarHandle" ∧ (parseMethodDescriptor y.desc).map (fun d => d.parameters.length) = some n) (hR : rm.frames + 1 ≤ R.frames ∧ 8 + (maxL + 11) + rm.locals ≤ R.locals) :
    vx_CSW R s args own index y bytes maxL ret hh ws rm mc ms n := by
  have ok : ∀ w ∈ va_wsS own index y ws, w.before args s = true := fun w h => ht w (hT w h).1
  have hG : GoodIn Ts ws := fun w h => hT w (by unfold va_wsS; exact List.mem_append_right _ h)
  have hc : Cond.codeWith y bytes maxL ret hh ∈ ws := by rw [hw]; exact List.mem_cons_self
  refine ⟨⟨hrc, hrs, hR.1, hR.2, pay_in ht hG, hc⟩, ht _ (hG _ hc).1, ok _ (by simp [va_wsS]), ⟨hd.1, hd.2.1⟩, fun sig h => ?_, ok _ (by simp [va_wsS]), ok _ (by simp [va_wsS])⟩
  have h2 := hd.2.2
  rw [h] at h2
  exact (Option.some.inj h2).symm
theorem vx_callSW (X : Stand p l e R s m args below meth c T locs cells slots) (hexec : p.tables.exec = Jvm.exec) {own : String} {index : Nat} {y : MethodName} {bytes : ByteArray} {maxL : Nat} {ret : Option FieldType} {hh : List (Nat × Nat × Nat × Nat)}
    (hown : s.vm.findClass own = some m.cls) (hlink : (Cond.methodLink own index y).before args s = true) (hstat : (Cond.static y).before args s = true) (hinit : (Cond.initialized y.cls).before args s = true)
    (hcode : (Cond.codeWith y bytes maxL ret hh).before args s = true) (hy : y.cls ≠ "java/lang/invoke/MethodHandle" ∧ y.cls ≠ "java/lang/invoke/VarHandle")
    {W9 : Nat} {Pre : Pt → Array Value → Prop} {Post : Pt → Array Value → Option Value → Pt → Prop} (hK : Back l R p e below s args y 3 W9 Pre Post)
    {g : JFrame} (hg : g.method = m) (hsize : g.locals.size = c.maxLocals) {argsL rest : List Value} (hlen : ∀ sig, parseMethodDescriptor y.desc = some sig → argsL.length = sig.parameters.length)
    (hstack : g.stack = argsL.reverse ++ rest) (hW : 2 * g.monitorRoom + (rest.map fun v => v.category).sum ≤ W9) (hdg : decode c.code g.pc = .ok (.invokestatic index, 3))
    (hpre : ∀ vm₁, s.WarmedH vm₁ → Pre ⟨T.setVm vm₁, locs, cells, slots⟩ argsL.toArray) :
    ∃ (v : Option Value) (vm₁ : Vm) (B : Pt), s.WarmedH vm₁ ∧ Stand p l e R s m args below meth c B.U B.locs B.cells B.slots ∧ Post ⟨T.setVm vm₁, locs, cells, slots⟩ argsL.toArray v B ∧
      ∀ target, Steps p.tables e below (B.U.setTop { g with pc := g.pc + 3, stack := v.toList ++ rest }) target → Steps p.tables e below (T.setTop g) target := by
  obtain ⟨mk, methM, cM, hnamed, hmethM, -, -, -, -, -, -, hsigM⟩ := Cond.codeWith_spec hcode
  have hstatic : methM.isStatic = true := Cond.static_spec hnamed hmethM hstat
  obtain ⟨kP, hkP, -⟩ := className_of_methodNamed hnamed
  have hinitP : kP.init = .initialized := Cond.initialized_spec (findClass_of_methodNamed hnamed) hkP hinit
  obtain ⟨vm₁, X₁, hstep₁⟩ := X.invokestatic hexec hown hlink hnamed hmethM hstatic hkP hinitP hy (g := g) hg (argsL := argsL) (rest := rest) (hlen _ hsigM) hstack hdg
  obtain ⟨v, B, X', hpost, hsteps⟩ := hK m meth c ⟨T.setVm vm₁, locs, cells, slots⟩ { g with stack := rest } (.invokestatic index) mk argsL.toArray X₁ hg hsize hdg hW (X₁.named hnamed) (hpre vm₁ X₁.warmed)
  exact ⟨v, vm₁, B, X₁.warmed, X', hpost, fun target h => hstep₁ _ fun acts => by rw [doInvoke_state]; exact hsteps.trans h⟩
theorem vx_runSW {y : MethodName} {bytes cc : ByteArray} {maxL nL mc ms n index : Nat} {ret : Option FieldType} {hh : List (Nat × Nat × Nat × Nat)} {ws : List Cond} {rm : Room} {Pc : Array Value → State → Prop} {Qc : Array Value → State → Outcome → State → Prop} {free : Addr → Prop} {Ts : List Cond} {own : String} {As rest : List Value} {g : JFrame}
    (S : CallFix p m c cc nL s args Ts own) (hM : Met l y ws rm Pc Qc mc ms free) (cw : vx_CSW R s args own index y bytes maxL ret hh ws rm mc ms n) (hp : PreS s H Pc As)
    (hg : g.method = m) (hn : As.length = n) (hsize : g.locals.size = nL) (hstack : g.stack = As.reverse ++ rest) (hW : 2 * g.monitorRoom + (rest.map fun v => v.category).sum ≤ 8) (hdg : decode cc g.pc = .ok (.invokestatic index, 3)) (hf : cells + mc ≤ R.cells ∧ slots + ms ≤ R.slots) :
    va_Run p l e R s m args below meth c H locs cells slots mc ms g rest (Qc As.toArray) (free) := by
  obtain ⟨⟨hrc, hrs, hfr, hlo, hws, hcw⟩, hcode, hini, hy, hlen, hl, hstt⟩ := cw
  have hK : Back l R p e below s args y 3 8 (PreOf R mc ms Pc) (PostOf Qc mc ms free) := va_backW (hh := hh) (bytes := bytes) (maxL := maxL) (ret := ret) hM hp.1 hrc hrs hfr hlo hws hcw (fun a' U hW => word_at hW (Or.inl (by first | rfl | simp [Cond.onTables, Cond.keeps, Cond.steady])) hini)
  obtain ⟨hx, hb, hml, ho, -⟩ := S
  intro T hT X
  obtain ⟨v, vm₁, ⟨U', l2, c2, s2⟩, hW₁, X', ⟨g', mk, t, L, e1, e2, hq, h1, hL, h2, h3⟩, st⟩ := vx_callSW X hx (hh := hh) (bytes := bytes) (maxL := maxL) (ret := ret) ho hl hstt hini hcode hy hK hg (hsize.trans hml.symm) (argsL := As) (rest := rest) (fun sig h => hn.trans (hlen sig h)) hstack hW (by rw [hb]; exact hdg)
    (fun vm₁ hW₁ => ⟨hf.1, hf.2, hp.2 (T.setVm vm₁) hT hW₁⟩)
  dsimp only [Pt.U, Pt.locs, Pt.cells, Pt.slots] at X' e1 e2 h1 h2 h3 st
  subst h1; subst h2; subst h3
  exact ⟨v, (T.setVm vm₁).calling g' mk As.toArray, t, U', L, hT, X', hL, e1, e2, hq, st⟩
/-- not caught here, past rows that name other classes: it goes on to the caller -/
theorem vx_outP {p : Program} {l : Launch} {e : Env} {R : Room} {s : State} {m : MethodId} {args : Array Value} {below : List Frame} {meth : Method} {c : Code} {H : Heap} {locs : List Loc} {cells slots : Nat} {free : Addr → Prop} {ls : Array Slot} {rest : List Value} {Qc : Array Value → State → Outcome → State → Prop} {XC : String → State → State → Prop}
    {pc : Nat} {own E : String} {ce : Cell} {q : Addr} {mc ms : Nat} (hown : s.vm.findClass own = some m.cls) (hlocks : meth.locks = false)
    (hpass : ∀ z ∈ c.exceptionTable.toList, covers z pc = false ∨ (z.catchType ≠ 0 ∧ ∃ nm : String, (Cond.classLink own z.catchType nm).before args s = true ∧ va_Nc E nm s)) (hcell : H[q]? = some ce) (hv : ce.vm = .none) (hcl : s.vm.findClass E = some ce.cls)
    (hx : ∀ t : State, t.heap = H → s.vm.Alike t.vm → XC E s t) (hf : ∀ z ∈ locs, free z.base) (hc : cells ≤ mc) (hs : slots ≤ ms) :
    vx_W p l e R s m args below meth c H locs cells slots (vx_MQ below Qc XC args s mc ms free) (F0 m pc ls rest) q := by
  intro T hT X
  have hpl : e.platform.magicAccessors = ({} : Platform).magicAccessors := by rw [X.admits.platform]
  obtain ⟨vm', hW', X', st⟩ := X.outThrough hlocks q (g := F0 m pc ls rest) rfl rfl rfl (cell := ce) (by rw [hT]; exact hcell) (by rw [hv]; rfl)
    (by obtain ⟨k9, h9, -⟩ := Vm.findClass_spec hcl; exact ⟨k9, h9⟩) (fun z hz => by
      rcases hpass z hz with h | ⟨hz0, nm, hl1, hn1⟩
      · exact Or.inl h
      · obtain ⟨c6, hc6, hcl6⟩ := Cond.classLink_spec hown hl1 e.platform hpl
        obtain ⟨a8, b8, h1, h2, h3⟩ := hn1
        cases Option.some.inj (h1.symm.trans hcl)
        cases Option.some.inj (h2.symm.trans hc6)
        exact Or.inr ⟨hz0, _, hcl6, h3⟩)
  obtain ⟨g₀, hfr⟩ := X'.frames_eq
  have hcell9 : ((T.setVm vm').setFrames (.throwing q :: below)).heap[q]? = some ce := by
    show T.heap[q]? = some ce
    rw [hT]; exact hcell
  have hend : Ended ((T.setVm vm').setFrames (.throwing q :: below)) below (.threw q) := State.frames_setFrames _ (State.cur_lt_of_frames hfr)
  refine ⟨(T.setVm vm').setFrames (.throwing q :: below), ?_, .threw q, X'.here.running, hend, Or.inr ⟨q, rfl, E, ce, locs, hx _ hT (X'.ends _).1.alike, hcell9, hv, hcl, (X'.ends _).1, (X'.ends _).2.mono hc hs, hf⟩⟩
  rw [X.pushThrowing_eq]
  exact st
/-- a thing of a world lies in the heap -/
theorem vx_lt {D : va_G} {cl : List vw_C} {ws : va_W} {H1 : Heap} (h : va_P D cl ws H1) {k : Nat} {q : Nat × va_E} (hk : ws[k]? = some q) : q.1 < H1.size := (h k q hk).lt
end VXS
/-! ===== END ===== -/
/-! ===== BEGIN methods with a table of their own: called by a name, returning or throwing ===== -/
section VXH
/-! vx_backW, vx_callVX, vx_callSX, vx_callVW, vx_runVW, vx_runVX, vx_runSX, vx_ofWH follow the same proofs as their sisters above (Free/Laws.lean, Shelf42/LK1.lean); vx_outP calls Shelf42/NT130.lean (outThrough). -/
section
variable {l : Launch} {R : Room} {p : Program} {e : Env} {below : List Frame} {s : State} {sargs : Array Value} {y : MethodName} {len W9 : Nat}
theorem vx_backW {ws : List Cond} {rm : Room} {Pc : Array Value → State → Prop} {Qc : Array Value → State → Outcome → State → Prop} {XC : String → State → State → Prop} {mc ms : Nat} {free : Addr → Prop} {bytes : ByteArray} {maxL : Nat} {ret : Option FieldType} {hh : List (Nat × Nat × Nat × Nat)}
    (hM : vx_Met l y ws rm Pc Qc XC mc ms free) (hblind : FrameBlind Pc) (hrc : rm.cells = mc) (hrs : rm.slots = ms)
    (hframes : rm.frames + 1 ≤ R.frames) (hlocals : W9 + (maxL + 11) + rm.locals ≤ R.locals)
    (hws : ∀ w ∈ ws, ∀ a' U, s.WarmedH U.vm → w.before a' U = true) (hcode : Cond.codeWith y bytes maxL ret hh ∈ ws) (hinit : ∀ a' U, s.WarmedH U.vm → (Cond.initialized y.cls).before a' U = true) :
    vx_Back l R p e below s sargs y len W9 (PreOf R mc ms Pc) (PostOf Qc mc ms free) (vx_Post XC mc ms free) := by
  intro m meth c A g ig mk a X hg hsize hdg hW hn hp
  have h1 : (headSpec ws rm).pre.before a A.U = true := atoms_intro fun w hw => hws w hw _ _ X.warmed
  have h2 : (Cond.codeWith y bytes maxL ret hh).before a A.U = true := hws _ hcode _ _ X.warmed
  have h3 : (Cond.initialized y.cls).before a A.U = true := hinit _ _ X.warmed
  have h4 : A.cells + (headSpec ws rm).room.cells ≤ R.cells := by rw [show (headSpec ws rm).room.cells = mc from hrc]; exact hp.1
  have h5 : A.slots + (headSpec ws rm).room.slots ≤ R.slots := by rw [show (headSpec ws rm).room.slots = ms from hrs]; exact hp.2.1
  have hPc : Pc a (A.U.calling g mk a) := hblind _ _ _ _ hp.2.2
  obtain ⟨U, Ls, c0, s0⟩ := A
  dsimp only [Pt.U, Pt.locs, Pt.cells, Pt.slots] at h1 h2 h3 h4 h5 X hn hPc ⊢
  obtain ⟨m9, methY, cY, hn9, hmY, hcY, -, hlY, -⟩ := Cond.codeWith_spec h2
  cases Option.some.inj (hn9.symm.trans hn)
  obtain ⟨kY, hkY, -⟩ := className_of_methodNamed hn
  have hinitY : kY.init = .initialized := Cond.initialized_spec (findClass_of_methodNamed hn) hkY h3
  have h : At U g.method c below := by rw [hg]; exact X.here
  have hlocals9 : W9 + (maxL + 11) + (headSpec ws rm).room.locals ≤ R.locals := hlocals
  have happ : (headSpec ws rm).appliesLoose y e.platform (U.calling g mk a) = true :=
    Spec.appliesLoose_calling (g := g) h hdg hn hkY hinitY
      (X.room_calling (g := g) (R' := (headSpec ws rm).room) hsize hmY hcY hframes (by rw [hlY]; omega) h4 h5) h1
  obtain ⟨mid, hmid⟩ := h.above
  have hfr : (U.setTop g).frames = (.java g :: mid) ++ below := by rw [State.frames_setTop' g h.top, hmid]; rfl
  obtain ⟨o, s₂, hsteps, -, hend, hq⟩ := Steps.callFree hM p X.admits X.cas X.clock (acts := []) hfr happ hPc trivial
  have hq' : vx_Q Qc XC mc ms free a (U.calling g mk a) o s₂ := hq
  rw [State.frames_setTop' g h.top] at hend
  obtain ⟨g₀, hg0⟩ := Option.isSome_iff_exists.mp h.top
  obtain ⟨r, hr⟩ := State.topJava?_eq_some.mp hg0
  have hr' : (({ U with heap := s₂.heap, slotsUsed := s₂.slotsUsed } : State).setVm s₂.vm).frames = .java g₀ :: r := hr
  rcases hq' with ⟨hqc, L, hfe, hL⟩ | ⟨q, rfl, E, ce, L, hx, hce, hcv, hcl, hW₂, hsm, hL⟩
  · obtain ⟨⟨v, rfl⟩, hW₂, e2, q2, q3, q4, q5, q6⟩ := id hfe
    have e3 : s₂ = ({ (U.calling g mk a).setFrames s₂.frames with heap := s₂.heap, slotsUsed := s₂.slotsUsed } : State).setVm s₂.vm := by
      have : s₂ = ({ s₂ with vm := (U.calling g mk a).vm } : State).setVm s₂.vm := rfl
      rw [e2] at this
      exact this
    obtain ⟨c₂, i₂, len₂, hc₂, hd₂, hf₂⟩ := hend
    have hW' : U.WarmedH s₂.vm := hW₂
    have hcc : c₂ = c := by
      have h1 : s₂.code? g.method = U.code? g.method := by
        rw [State.code?_eq, State.code?_eq, hW'.alike.method?]
      exact Option.some.inj (hc₂.symm.trans (h1.trans h.code))
    subst hcc
    have hlen : len₂ = len := by rw [hdg] at hd₂; cases hd₂; rfl
    subst hlen
    have hs₂ : s₂ = (({ U with heap := s₂.heap, slotsUsed := s₂.slotsUsed } : State).setVm s₂.vm).setTop { g with pc := g.pc + len₂, stack := v.toList ++ g.stack } := by
      refine e3.trans ?_
      rw [hf₂, State.calling_eq h.top, State.setFrames_setFrames, State.setTop_of_frames _ hr', hr]
      rfl
    have hsame : U.sameButNew ({ U with heap := s₂.heap, slotsUsed := s₂.slotsUsed } : State) L mc ms := by
      refine ⟨?_, q2, q3, q4, q5, q6⟩
      obtain ⟨t, ht, -⟩ := State.frames_cons hr
      show ({ U with heap := s₂.heap, slotsUsed := s₂.slotsUsed } : State) = { U.setFrames U.frames with heap := s₂.heap, slotsUsed := s₂.slotsUsed }
      rw [State.setFrames_self ht]
    subst hg
    refine Or.inl ⟨v, ⟨(({ U with heap := s₂.heap, slotsUsed := s₂.slotsUsed } : State).setVm s₂.vm), Ls ++ L, c0 + mc, s0 + ms⟩,
      ⟨X.admits, X.cas, X.clock, X.frames, X.room, X.hears, X.method, X.code, (X.here.setHeapUsed s₂.heap s₂.slotsUsed).setVm hW'.alike, X.tail, State.WarmedH.trans X.warmed hW', X.limits, X.bytes, X.same.trans (hsame.setVm s.vm)⟩,
      ⟨g, mk, s₂, L, rfl, rfl, hqc, rfl, hL, rfl, rfl⟩, ?_⟩
    show Steps p.tables e below _ ((({ U with heap := s₂.heap, slotsUsed := s₂.slotsUsed } : State).setVm s₂.vm).setTop { g with pc := g.pc + len₂, stack := v.toList ++ g.stack })
    rw [← hs₂]
    exact hsteps
  · obtain ⟨e2, q2, q3, q4, q5, q6⟩ := id hsm
    have e3 : s₂ = ({ (U.calling g mk a).setFrames s₂.frames with heap := s₂.heap, slotsUsed := s₂.slotsUsed } : State).setVm s₂.vm := by
      have : s₂ = ({ s₂ with vm := (U.calling g mk a).vm } : State).setVm s₂.vm := rfl
      rw [e2] at this
      exact this
    have hf₂ : s₂.frames = .throwing q :: .java g :: U.frames.tail := hend
    have hW' : U.WarmedH s₂.vm := hW₂
    have hs₂ : s₂ = ((({ U with heap := s₂.heap, slotsUsed := s₂.slotsUsed } : State).setVm s₂.vm).setTop g).pushFrame (.throwing q) := by
      refine e3.trans ?_
      rw [hf₂, State.calling_eq h.top, State.setFrames_setFrames, State.pushFrame, State.frames_setTop _ hr', State.setTop_of_frames _ hr', State.setFrames_setFrames, hr]
      rfl
    have hsame : U.sameButNew ({ U with heap := s₂.heap, slotsUsed := s₂.slotsUsed } : State) L mc ms := by
      refine ⟨?_, q2, q3, q4, q5, q6⟩
      obtain ⟨t, ht, -⟩ := State.frames_cons hr
      show ({ U with heap := s₂.heap, slotsUsed := s₂.slotsUsed } : State) = { U.setFrames U.frames with heap := s₂.heap, slotsUsed := s₂.slotsUsed }
      rw [State.setFrames_self ht]
    subst hg
    refine Or.inr ⟨q, ⟨(({ U with heap := s₂.heap, slotsUsed := s₂.slotsUsed } : State).setVm s₂.vm), Ls ++ L, c0 + mc, s0 + ms⟩,
      ⟨X.admits, X.cas, X.clock, X.frames, X.room, X.hears, X.method, X.code, (X.here.setHeapUsed s₂.heap s₂.slotsUsed).setVm hW'.alike, X.tail, State.WarmedH.trans X.warmed hW', X.limits, X.bytes, X.same.trans (hsame.setVm s.vm)⟩,
      ⟨g, mk, s₂, L, E, ce, rfl, rfl, hx, hce, hcv, hcl, rfl, hL, rfl, rfl⟩, ?_⟩
    show Steps p.tables e below _ (((({ U with heap := s₂.heap, slotsUsed := s₂.slotsUsed } : State).setVm s₂.vm).setTop g).pushFrame (.throwing q))
    rw [← hs₂]
    exact hsteps
end
variable {p : Program} {l : Launch} {e : Env} {R : Room} {s : State} {m : MethodId} {args : Array Value} {below : List Frame} {meth : Method} {c : Code} {T : State} {H : Heap} {locs : List Loc} {cells slots : Nat}
theorem vx_callVX (X : Stand p l e R s m args below meth c T locs cells slots) (hexec : p.tables.exec = Jvm.exec) {own C : String} {index : Nat} {y : MethodName} {bytes : ByteArray} {maxL : Nat} {ret : Option FieldType} {hh : List (Nat × Nat × Nat × Nat)}
    (hown : s.vm.findClass own = some m.cls) (hlink : (Cond.methodLink own index y).before args s = true) (hinst : (Cond.instanceMethod y).before args s = true) (hsel : (Cond.selects C y y).before args s = true)
    (hcode : (Cond.codeWith y bytes maxL ret hh).before args s = true) (hy : y.cls ≠ "java/lang/invoke/MethodHandle" ∧ y.cls ≠ "java/lang/invoke/VarHandle")
    {W9 : Nat} {Pre : Pt → Array Value → Prop} {Post : Pt → Array Value → Option Value → Pt → Prop} {PostX : Pt → Array Value → Addr → Pt → Prop} (hK : vx_Back l R p e below s args y 3 W9 Pre Post PostX)
    {b : Addr} {cellB : Cell} (hcell : T.heap[b]? = some cellB) (hobj : cellB.vm.isStatics = false) (hcls : s.vm.findClass C = some cellB.cls)
    {g : JFrame} (hg : g.method = m) (hsize : g.locals.size = c.maxLocals) {argsL rest : List Value} (hlen : ∀ sig, parseMethodDescriptor y.desc = some sig → argsL.length = sig.parameters.length)
    (hstack : g.stack = argsL.reverse ++ .ref b :: rest) (hW : 2 * g.monitorRoom + (rest.map fun v => v.category).sum ≤ W9) (hdg : decode c.code g.pc = .ok (.invokevirtual index, 3))
    (hpre : ∀ vm₁, s.WarmedH vm₁ → Pre ⟨T.setVm vm₁, locs, cells, slots⟩ (Value.ref b :: argsL).toArray) :
    (∃ (v : Option Value) (vm₁ : Vm) (B : Pt), s.WarmedH vm₁ ∧ Stand p l e R s m args below meth c B.U B.locs B.cells B.slots ∧ Post ⟨T.setVm vm₁, locs, cells, slots⟩ (Value.ref b :: argsL).toArray v B ∧
      ∀ target, Steps p.tables e below (B.U.setTop { g with pc := g.pc + 3, stack := v.toList ++ rest }) target → Steps p.tables e below (T.setTop g) target) ∨
    (∃ (q : Addr) (vm₁ : Vm) (B : Pt), s.WarmedH vm₁ ∧ Stand p l e R s m args below meth c B.U B.locs B.cells B.slots ∧ PostX ⟨T.setVm vm₁, locs, cells, slots⟩ (Value.ref b :: argsL).toArray q B ∧
      Steps p.tables e below (T.setTop g) ((B.U.setTop { g with stack := rest }).pushFrame (.throwing q))) := by
  obtain ⟨mk, methM, hnamed, hmethM, hstM, habM⟩ := Cond.instanceMethod_spec hinst
  obtain ⟨m8, methM', cM, hn8, hmethM', -, -, -, -, -, -, hsigM⟩ := Cond.codeWith_spec hcode
  cases Option.some.inj (hn8.symm.trans hnamed)
  cases hmethM.symm.trans hmethM'
  obtain ⟨c2, r2, m2, q1, q2, q3, q4, kP, hkP, hkPi⟩ := Cond.selects_spec hsel
  cases hcls.symm.trans q1
  cases (State.methodFound?_of_named hnamed hy).symm.trans q2
  cases hnamed.symm.trans q3
  have hselP : selectMethod e.platform s.vm cellB.cls mk = .method mk := by rw [Launch.admits_selectMethod X.admits]; exact q4
  obtain ⟨vm₁, X₁, hstep₁⟩ := X.invokevirtual hexec hown hlink hnamed hmethM hstM hkP hkPi hy (a := b) (cell := cellB) hcell
    (fun z h => by rw [h] at hobj; cases hobj) hselP hmethM habM hkP hkPi (g := g) hg (argsL := argsL) (rest := rest) (hlen _ hsigM) hstack hdg
  rcases hK m meth c ⟨T.setVm vm₁, locs, cells, slots⟩ { g with stack := rest } (.invokevirtual index) mk (Value.ref b :: argsL).toArray X₁ hg hsize hdg hW (X₁.named hnamed) (hpre vm₁ X₁.warmed) with ⟨v, B, X', hpost, hsteps⟩ | ⟨q, B, X', hpost, hsteps⟩
  · exact Or.inl ⟨v, vm₁, B, X₁.warmed, X', hpost, fun target h => hstep₁ _ fun acts => by rw [doInvoke_state]; exact hsteps.trans h⟩
  · exact Or.inr ⟨q, vm₁, B, X₁.warmed, X', hpost, hstep₁ _ fun acts => by rw [doInvoke_state]; exact hsteps⟩
theorem vx_callSX (X : Stand p l e R s m args below meth c T locs cells slots) (hexec : p.tables.exec = Jvm.exec) {own : String} {index : Nat} {y : MethodName} {bytes : ByteArray} {maxL : Nat} {ret : Option FieldType} {hh : List (Nat × Nat × Nat × Nat)}
    (hown : s.vm.findClass own = some m.cls) (hlink : (Cond.methodLink own index y).before args s = true) (hstat : (Cond.static y).before args s = true) (hinit : (Cond.initialized y.cls).before args s = true)
    (hcode : (Cond.codeWith y bytes maxL ret hh).before args s = true) (hy : y.cls ≠ "java/lang/invoke/MethodHandle" ∧ y.cls ≠ "java/lang/invoke/VarHandle")
    {W9 : Nat} {Pre : Pt → Array Value → Prop} {Post : Pt → Array Value → Option Value → Pt → Prop} {PostX : Pt → Array Value → Addr → Pt → Prop} (hK : vx_Back l R p e below s args y 3 W9 Pre Post PostX)
    {g : JFrame} (hg : g.method = m) (hsize : g.locals.size = c.maxLocals) {argsL rest : List Value} (hlen : ∀ sig, parseMethodDescriptor y.desc = some sig → argsL.length = sig.parameters.length)
    (hstack : g.stack = argsL.reverse ++ rest) (hW : 2 * g.monitorRoom + (rest.map fun v => v.category).sum ≤ W9) (hdg : decode c.code g.pc = .ok (.invokestatic index, 3))
    (hpre : ∀ vm₁, s.WarmedH vm₁ → Pre ⟨T.setVm vm₁, locs, cells, slots⟩ argsL.toArray) :
    (∃ (v : Option Value) (vm₁ : Vm) (B : Pt), s.WarmedH vm₁ ∧ Stand p l e R s m args below meth c B.U B.locs B.cells B.slots ∧ Post ⟨T.setVm vm₁, locs, cells, slots⟩ argsL.toArray v B ∧
      ∀ target, Steps p.tables e below (B.U.setTop { g with pc := g.pc + 3, stack := v.toList ++ rest }) target → Steps p.tables e below (T.setTop g) target) ∨
    (∃ (q : Addr) (vm₁ : Vm) (B : Pt), s.WarmedH vm₁ ∧ Stand p l e R s m args below meth c B.U B.locs B.cells B.slots ∧ PostX ⟨T.setVm vm₁, locs, cells, slots⟩ argsL.toArray q B ∧
      Steps p.tables e below (T.setTop g) ((B.U.setTop { g with stack := rest }).pushFrame (.throwing q))) := by
  obtain ⟨mk, methM, cM, hnamed, hmethM, -, -, -, -, -, -, hsigM⟩ := Cond.codeWith_spec hcode
  have hstatic : methM.isStatic = true := Cond.static_spec hnamed hmethM hstat
  obtain ⟨kP, hkP, -⟩ := className_of_methodNamed hnamed
  have hinitP : kP.init = .initialized := Cond.initialized_spec (findClass_of_methodNamed hnamed) hkP hinit
  obtain ⟨vm₁, X₁, hstep₁⟩ := X.invokestatic hexec hown hlink hnamed hmethM hstatic hkP hinitP hy (g := g) hg (argsL := argsL) (rest := rest) (hlen _ hsigM) hstack hdg
  rcases hK m meth c ⟨T.setVm vm₁, locs, cells, slots⟩ { g with stack := rest } (.invokestatic index) mk argsL.toArray X₁ hg hsize hdg hW (X₁.named hnamed) (hpre vm₁ X₁.warmed) with ⟨v, B, X', hpost, hsteps⟩ | ⟨q, B, X', hpost, hsteps⟩
  · exact Or.inl ⟨v, vm₁, B, X₁.warmed, X', hpost, fun target h => hstep₁ _ fun acts => by rw [doInvoke_state]; exact hsteps.trans h⟩
  · exact Or.inr ⟨q, vm₁, B, X₁.warmed, X', hpost, hstep₁ _ fun acts => by rw [doInvoke_state]; exact hsteps⟩
theorem vx_callVW (X : Stand p l e R s m args below meth c T locs cells slots) (hexec : p.tables.exec = Jvm.exec) {own C : String} {index : Nat} {y : MethodName} {bytes : ByteArray} {maxL : Nat} {ret : Option FieldType} {hh : List (Nat × Nat × Nat × Nat)}
    (hown : s.vm.findClass own = some m.cls) (hlink : (Cond.methodLink own index y).before args s = true) (hinst : (Cond.instanceMethod y).before args s = true) (hsel : (Cond.selects C y y).before args s = true)
    (hcode : (Cond.codeWith y bytes maxL ret hh).before args s = true) (hy : y.cls ≠ "java/lang/invoke/MethodHandle" ∧ y.cls ≠ "java/lang/invoke/VarHandle")
    {W9 : Nat} {Pre : Pt → Array Value → Prop} {Post : Pt → Array Value → Option Value → Pt → Prop} (hK : Back l R p e below s args y 3 W9 Pre Post)
    {b : Addr} {cellB : Cell} (hcell : T.heap[b]? = some cellB) (hobj : cellB.vm.isStatics = false) (hcls : s.vm.findClass C = some cellB.cls)
    {g : JFrame} (hg : g.method = m) (hsize : g.locals.size = c.maxLocals) {argsL rest : List Value} (hlen : ∀ sig, parseMethodDescriptor y.desc = some sig → argsL.length = sig.parameters.length)
    (hstack : g.stack = argsL.reverse ++ .ref b :: rest) (hW : 2 * g.monitorRoom + (rest.map fun v => v.category).sum ≤ W9) (hdg : decode c.code g.pc = .ok (.invokevirtual index, 3))
    (hpre : ∀ vm₁, s.WarmedH vm₁ → Pre ⟨T.setVm vm₁, locs, cells, slots⟩ (Value.ref b :: argsL).toArray) :
    ∃ (v : Option Value) (vm₁ : Vm) (B : Pt), s.WarmedH vm₁ ∧ Stand p l e R s m args below meth c B.U B.locs B.cells B.slots ∧ Post ⟨T.setVm vm₁, locs, cells, slots⟩ (Value.ref b :: argsL).toArray v B ∧
      ∀ target, Steps p.tables e below (B.U.setTop { g with pc := g.pc + 3, stack := v.toList ++ rest }) target → Steps p.tables e below (T.setTop g) target := by
  obtain ⟨mk, methM, hnamed, hmethM, hstM, habM⟩ := Cond.instanceMethod_spec hinst
  obtain ⟨m8, methM', cM, hn8, hmethM', -, -, -, -, -, -, hsigM⟩ := Cond.codeWith_spec hcode
  cases Option.some.inj (hn8.symm.trans hnamed)
  cases hmethM.symm.trans hmethM'
  obtain ⟨c2, r2, m2, q1, q2, q3, q4, kP, hkP, hkPi⟩ := Cond.selects_spec hsel
  cases hcls.symm.trans q1
  cases (State.methodFound?_of_named hnamed hy).symm.trans q2
  cases hnamed.symm.trans q3
  have hselP : selectMethod e.platform s.vm cellB.cls mk = .method mk := by rw [Launch.admits_selectMethod X.admits]; exact q4
  obtain ⟨vm₁, X₁, hstep₁⟩ := X.invokevirtual hexec hown hlink hnamed hmethM hstM hkP hkPi hy (a := b) (cell := cellB) hcell
    (fun z h => by rw [h] at hobj; cases hobj) hselP hmethM habM hkP hkPi (g := g) hg (argsL := argsL) (rest := rest) (hlen _ hsigM) hstack hdg
  obtain ⟨v, B, X', hpost, hsteps⟩ := hK m meth c ⟨T.setVm vm₁, locs, cells, slots⟩ { g with stack := rest } (.invokevirtual index) mk (Value.ref b :: argsL).toArray X₁ hg hsize hdg hW (X₁.named hnamed) (hpre vm₁ X₁.warmed)
  exact ⟨v, vm₁, B, X₁.warmed, X', hpost, fun target h => hstep₁ _ fun acts => by rw [doInvoke_state]; exact hsteps.trans h⟩
abbrev vx_CVW (R : Room) (s : State) (args : Array Value) (own C : String) (index : Nat) (y : MethodName) (bytes : ByteArray) (maxL : Nat) (ret : Option FieldType) (hh : List (Nat × Nat × Nat × Nat)) (ws : List Cond) (rm : Room) (mc ms n : Nat) : Prop :=
  (rm.cells = mc ∧ rm.slots = ms ∧ rm.frames + 1 ≤ R.frames ∧ 8 + (maxL + 11) + rm.locals ≤ R.locals ∧ (∀ w ∈ ws, ∀ (a' : Array Value) (U : State), s.WarmedH U.vm → w.before a' U = true) ∧ Cond.codeWith y bytes maxL ret hh ∈ ws) ∧
  (Cond.codeWith y bytes maxL ret hh).before args s = true ∧ (Cond.initialized y.cls).before args s = true ∧ (y.cls ≠ "java/lang/invoke/MethodHandle" ∧ y.cls ≠ "java/lang/invoke/VarHandle") ∧
  (∀ sig, parseMethodDescriptor y.desc = some sig → n = sig.parameters.length) ∧ (Cond.methodLink own index y).before args s = true ∧ (Cond.instanceMethod y).before args s = true ∧ (Cond.selects C y y).before args s = true
theorem vx_cwVW {own C : String} {index maxL mc ms : Nat} {y : MethodName} {bytes : ByteArray} {ret : Option FieldType} {hh : List (Nat × Nat × Nat × Nat)} {Ts ws ws' : List Cond} {rm : Room} (n : Nat) (ht : ∀ w ∈ Ts, w.before args s = true) (hT : GoodIn Ts (wsV own index C y ws)) (hw : ws = Cond.codeWith y bytes maxL ret hh :: ws') (hrc : rm.cells = mc) (hrs : rm.slots = ms)
    (hd : y.cls = C ∧ y.cls ≠ "java/lang/invoke/MethodHandle" ∧ y.cls ≠ "java/lang/invoke/VarHandle" ∧ (parseMethodDescriptor y.desc).map (fun d => d.parameters.length) = some n) (hR : rm.frames + 1 ≤ R.frames ∧ 8 + (maxL + 11) + rm.locals ≤ R.locals) :
    vx_CVW R s args own C index y bytes maxL ret hh ws rm mc ms n := by
  obtain ⟨hC, hd⟩ := hd
  subst hC
  have ok : ∀ w ∈ wsV own index y.cls y ws, w.before args s = true := fun w h => ht w (hT w h).1
  have hG : GoodIn Ts ws := fun w h => hT w (by unfold wsV; exact List.mem_append_right _ h)
  have hc : Cond.codeWith y bytes maxL ret hh ∈ ws := by rw [hw]; exact List.mem_cons_self
  refine ⟨⟨hrc, hrs, hR.1, hR.2, pay_in ht hG, hc⟩, ht _ (hG _ hc).1, ok _ (by simp [wsV]), ⟨hd.1, hd.2.1⟩, fun sig h => ?_, ok _ (by simp [wsV]), ok _ (by simp [wsV]), ok _ (by simp [wsV])⟩
  have h2 := hd.2.2
  rw [h] at h2
  exact (Option.some.inj h2).symm
theorem vx_runVW {y : MethodName} {bytes cc : ByteArray} {maxL nL mc ms n index : Nat} {ret : Option FieldType} {hh : List (Nat × Nat × Nat × Nat)} {ws : List Cond} {rm : Room} {Pc : Array Value → State → Prop} {Qc : Array Value → State → Outcome → State → Prop} {free : Addr → Prop} {Ts : List Cond} {own C : String} {b : Addr} {As rest : List Value} {g : JFrame}
    (S : CallFix p m c cc nL s args Ts own) (hM : Met l y ws rm Pc Qc mc ms free) (cw : vx_CVW R s args own C index y bytes maxL ret hh ws rm mc ms n) (hp : PreV s H C b Pc As)
    (hg : g.method = m) (hn : As.length = n) (hsize : g.locals.size = nL) (hstack : g.stack = As.reverse ++ .ref b :: rest) (hW : 2 * g.monitorRoom + (rest.map fun v => v.category).sum ≤ 8) (hdg : decode cc g.pc = .ok (.invokevirtual index, 3)) (hf : cells + mc ≤ R.cells ∧ slots + ms ≤ R.slots) :
    va_Run p l e R s m args below meth c H locs cells slots mc ms g rest (Qc (Value.ref b :: As).toArray) free := by
  obtain ⟨⟨hrc, hrs, hfr, hlo, hws, hcw⟩, hcode, hini, hy, hlen, hl, hin, hse⟩ := cw
  have hK : Back l R p e below s args y 3 8 (PreOf R mc ms Pc) (PostOf Qc mc ms free) := va_backW (hh := hh) (bytes := bytes) (maxL := maxL) (ret := ret) hM hp.1 hrc hrs hfr hlo hws hcw (fun a' U hW => word_at hW (Or.inl (by first | rfl | simp [Cond.onTables, Cond.keeps, Cond.steady])) hini)
  obtain ⟨hx, hb, hml, ho, -⟩ := S
  obtain ⟨-, ⟨cellB, hcB, hoB, hclB⟩, hPc⟩ := hp
  intro T hT X
  obtain ⟨v, vm₁, ⟨U', l2, c2, s2⟩, hW₁, X', ⟨g', mk, t, L, e1, e2, hq, h1, hL, h2, h3⟩, st⟩ := vx_callVW X hx (C := C) (hh := hh) (bytes := bytes) (maxL := maxL) (ret := ret) ho hl hin hse hcode hy hK (by rw [hT]; exact hcB) hoB hclB hg (hsize.trans hml.symm) (argsL := As) (rest := rest) (fun sig h => hn.trans (hlen sig h)) hstack hW (by rw [hb]; exact hdg)
    (fun vm₁ hW₁ => ⟨hf.1, hf.2, hPc (T.setVm vm₁) hT hW₁⟩)
  dsimp only [Pt.U, Pt.locs, Pt.cells, Pt.slots] at X' e1 e2 h1 h2 h3 st
  subst h1; subst h2; subst h3
  exact ⟨v, (T.setVm vm₁).calling g' mk (Value.ref b :: As).toArray, t, U', L, hT, X', hL, e1, e2, hq, st⟩
section
variable {y : MethodName} {bytes cc : ByteArray} {maxL nL mc ms n index : Nat} {ret : Option FieldType} {ws : List Cond} {rm : Room} {Pc : Array Value → State → Prop} {Qc : Array Value → State → Outcome → State → Prop} {XC : String → State → State → Prop} {free : Addr → Prop} {Ts : List Cond} {own C : String} {b : Addr} {As rest : List Value} {g : JFrame}
theorem vx_runVX {hh : List (Nat × Nat × Nat × Nat)} (S : CallFix p m c cc nL s args Ts own) (hM : vx_Met l y ws rm Pc Qc XC mc ms free) (cw : vx_CVW R s args own C index y bytes maxL ret hh ws rm mc ms n) (hp : PreV s H C b Pc As)
    (hg : g.method = m) (hn : As.length = n) (hsize : g.locals.size = nL) (hstack : g.stack = As.reverse ++ .ref b :: rest) (hW : 2 * g.monitorRoom + (rest.map fun v => v.category).sum ≤ 8) (hdg : decode cc g.pc = .ok (.invokevirtual index, 3)) (hf : cells + mc ≤ R.cells ∧ slots + ms ≤ R.slots) :
    vx_Run p l e R s m args below meth c H locs cells slots mc ms g rest (Qc (Value.ref b :: As).toArray) XC free := by
  obtain ⟨⟨hrc, hrs, hfr, hlo, hws, hcw⟩, hcode, hini, hy, hlen, hl, hin, hse⟩ := cw
  have hK : vx_Back l R p e below s args y 3 8 (PreOf R mc ms Pc) (PostOf Qc mc ms free) (vx_Post XC mc ms free) := vx_backW (hh := hh) (bytes := bytes) (maxL := maxL) (ret := ret) hM hp.1 hrc hrs hfr hlo hws hcw (fun a' U hW => word_at hW (Or.inl (by first | rfl | simp [Cond.onTables, Cond.keeps, Cond.steady])) hini)
  obtain ⟨hx, hb, hml, ho, -⟩ := S
  obtain ⟨-, ⟨cellB, hcB, hoB, hclB⟩, hPc⟩ := hp
  intro T hT X
  rcases vx_callVX X hx (C := C) (hh := hh) (bytes := bytes) (maxL := maxL) (ret := ret) ho hl hin hse hcode hy hK (by rw [hT]; exact hcB) hoB hclB hg (hsize.trans hml.symm) (argsL := As) (rest := rest) (fun sig h => hn.trans (hlen sig h)) hstack hW (by rw [hb]; exact hdg)
    (fun vm₁ hW₁ => ⟨hf.1, hf.2, hPc (T.setVm vm₁) hT hW₁⟩) with ⟨v, vm₁, ⟨U', l2, c2, s2⟩, hW₁, X', ⟨g', mk, t, L, e1, e2, hq, h1, hL, h2, h3⟩, st⟩ | ⟨q, vm₁, ⟨U', l2, c2, s2⟩, hW₁, X', ⟨g', mk, t, L, E, ce, e1, e2, hq, hce, hcv, hcl, h1, hL, h2, h3⟩, st⟩
  · dsimp only [Pt.U, Pt.locs, Pt.cells, Pt.slots] at X' e1 e2 h1 h2 h3 st
    subst h1; subst h2; subst h3
    exact Or.inl ⟨v, (T.setVm vm₁).calling g' mk (Value.ref b :: As).toArray, t, U', L, hT, X', hL, e1, e2, hq, st⟩
  · dsimp only [Pt.U, Pt.locs, Pt.cells, Pt.slots] at X' e1 e2 h1 h2 h3 st hcl
    subst h1; subst h2; subst h3
    exact Or.inr ⟨q, (T.setVm vm₁).calling g' mk (Value.ref b :: As).toArray, t, U', L, E, ce, hT, X', hL, e1, e2, hq, hce, hcv, vx_cls hW₁ hcl, st⟩
theorem vx_runSX {hh : List (Nat × Nat × Nat × Nat)} (S : CallFix p m c cc nL s args Ts own) (hM : vx_Met l y ws rm Pc Qc XC mc ms free) (cw : vx_CSW R s args own index y bytes maxL ret hh ws rm mc ms n) (hp : PreS s H Pc As)
    (hg : g.method = m) (hn : As.length = n) (hsize : g.locals.size = nL) (hstack : g.stack = As.reverse ++ rest) (hW : 2 * g.monitorRoom + (rest.map fun v => v.category).sum ≤ 8) (hdg : decode cc g.pc = .ok (.invokestatic index, 3)) (hf : cells + mc ≤ R.cells ∧ slots + ms ≤ R.slots) :
    vx_Run p l e R s m args below meth c H locs cells slots mc ms g rest (Qc As.toArray) XC free := by
  obtain ⟨⟨hrc, hrs, hfr, hlo, hws, hcw⟩, hcode, hini, hy, hlen, hl, hstt⟩ := cw
  have hK : vx_Back l R p e below s args y 3 8 (PreOf R mc ms Pc) (PostOf Qc mc ms free) (vx_Post XC mc ms free) := vx_backW (hh := hh) (bytes := bytes) (maxL := maxL) (ret := ret) hM hp.1 hrc hrs hfr hlo hws hcw (fun a' U hW => word_at hW (Or.inl (by first | rfl | simp [Cond.onTables, Cond.keeps, Cond.steady])) hini)
  obtain ⟨hx, hb, hml, ho, -⟩ := S
  intro T hT X
  rcases vx_callSX X hx (hh := hh) (bytes := bytes) (maxL := maxL) (ret := ret) ho hl hstt hini hcode hy hK hg (hsize.trans hml.symm) (argsL := As) (rest := rest) (fun sig h => hn.trans (hlen sig h)) hstack hW (by rw [hb]; exact hdg)
    (fun vm₁ hW₁ => ⟨hf.1, hf.2, hp.2 (T.setVm vm₁) hT hW₁⟩) with ⟨v, vm₁, ⟨U', l2, c2, s2⟩, hW₁, X', ⟨g', mk, t, L, e1, e2, hq, h1, hL, h2, h3⟩, st⟩ | ⟨q, vm₁, ⟨U', l2, c2, s2⟩, hW₁, X', ⟨g', mk, t, L, E, ce, e1, e2, hq, hce, hcv, hcl, h1, hL, h2, h3⟩, st⟩
  · dsimp only [Pt.U, Pt.locs, Pt.cells, Pt.slots] at X' e1 e2 h1 h2 h3 st
    subst h1; subst h2; subst h3
    exact Or.inl ⟨v, (T.setVm vm₁).calling g' mk As.toArray, t, U', L, hT, X', hL, e1, e2, hq, st⟩
  · dsimp only [Pt.U, Pt.locs, Pt.cells, Pt.slots] at X' e1 e2 h1 h2 h3 st hcl
    subst h1; subst h2; subst h3
    exact Or.inr ⟨q, (T.setVm vm₁).calling g' mk As.toArray, t, U', L, E, ce, hT, X', hL, e1, e2, hq, hce, hcv, vx_cls hW₁ hcl, st⟩
end
end VXH
theorem vx_ofWH {l : Launch} {y : MethodName} {ws ws' : List Cond} {rm : Room} {Pc : Array Value → State → Prop} {Qc : Array Value → State → Outcome → State → Prop} {XC : String → State → State → Prop} {mc ms : Nat} {free : Addr → Prop} {cc : ByteArray} {maxL : Nat} {ret : Option FieldType} {hh : List (Nat × Nat × Nat × Nat)}
    (hy : plainName y.cls = true) (hw : ws = Cond.codeWith y cc maxL ret hh :: ws')
    (body : ∀ p e s m args below meth c s₁, BodyLoose p l y (headSpec ws rm) cc maxL ret e s m args below meth c s₁ → c.maxLocals = maxL → Pc args s →
      W p l e (headSpec ws rm).room s m args below meth c s.heap [] 0 0 (vx_MQ below Qc XC args s mc ms free) (entryFrame m args maxL)) : vx_Met l y ws rm Pc Qc XC mc ms free := by
  refine MetFree.of_bodyS (code := cc) (maxLocals := maxL) (ret := ret) hy ?_ ?_
  · intro args s m h hn
    obtain ⟨m9, meth, c, hn9, h1, h2, h3, h4, -, h5, h6, -⟩ := Cond.codeWith_spec (atoms_spec (ws := ws) h _ (by rw [hw]; exact List.mem_cons_self))
    cases hn.symm.trans hn9
    exact ⟨meth, c, h1, h2, h3, h4, h5, h6⟩
  · intro p e s m args below meth c s₁ B hml hP _
    have hh0 : s₁.heap = s.heap := by rw [B.state]; rfl
    obtain ⟨t, a1, o, b1, b2, b3⟩ := body p e s m args below meth c s₁ B hml hP s₁ hh0 (Stand.of_body B)
    exact ⟨t, o, a1, b1, b2, b3⟩
/-! ===== END ===== -/

/-! ===== BEGIN printed: names, fields, word lists, decode rows ===== -/
/-! ===== BEGIN a constructor that throws (launches without stack traces) ===== -/
section VXIA
variable {p : Program} {l : Launch} {e : Env} {R : Room} {s : State} {m : MethodId} {args : Array Value} {below : List Frame} {meth : Method} {c : Code} {T : State} {locs : List Loc} {cells slots : Nat}
theorem vx_callI (X : Stand p l e R s m args below meth c T locs cells slots) (hexec : p.tables.exec = Jvm.exec) {own : String} {index : Nat} {y : MethodName} {bytes : ByteArray} {maxL : Nat}
    (hown : s.vm.findClass own = some m.cls) (hy1 : y.name = "<init>") (hlink : (Cond.methodLink own index y).before args s = true) (hinst : (Cond.instanceMethod y).before args s = true)
    (hcode : (Cond.code y bytes maxL none).before args s = true) (hy : y.cls ≠ "java/lang/invoke/MethodHandle" ∧ y.cls ≠ "java/lang/invoke/VarHandle")
    {W9 : Nat} {Pre : Pt → Array Value → Prop} {Post : Pt → Array Value → Option Value → Pt → Prop} {PostX : Pt → Array Value → Addr → Pt → Prop} (hK : vx_Back l R p e below s args y 3 W9 Pre Post PostX)
    {g : JFrame} (hg : g.method = m) (hsize : g.locals.size = c.maxLocals) {a : Addr} {argsL rest : List Value} (hlen : ∀ sig, parseMethodDescriptor y.desc = some sig → argsL.length = sig.parameters.length)
    (hstack : g.stack = argsL.reverse ++ .ref a :: rest) (hW : 2 * g.monitorRoom + (rest.map fun v => v.category).sum ≤ W9) (hdg : decode c.code g.pc = .ok (.invokespecial index, 3))
    (hpre : ∀ vm₁, s.WarmedH vm₁ → Pre ⟨T.setVm vm₁, locs, cells, slots⟩ (Value.ref a :: argsL).toArray) :
    (∃ (v : Option Value) (vm₁ : Vm) (B : Pt), s.WarmedH vm₁ ∧ Stand p l e R s m args below meth c B.U B.locs B.cells B.slots ∧ Post ⟨T.setVm vm₁, locs, cells, slots⟩ (Value.ref a :: argsL).toArray v B ∧
      ∀ target, Steps p.tables e below (B.U.setTop { g with pc := g.pc + 3, stack := v.toList ++ rest }) target → Steps p.tables e below (T.setTop g) target) ∨
    (∃ (q : Addr) (vm₁ : Vm) (B : Pt), s.WarmedH vm₁ ∧ Stand p l e R s m args below meth c B.U B.locs B.cells B.slots ∧ PostX ⟨T.setVm vm₁, locs, cells, slots⟩ (Value.ref a :: argsL).toArray q B ∧
      Steps p.tables e below (T.setTop g) ((B.U.setTop { g with stack := rest }).pushFrame (.throwing q))) := by
  subst hg
  have hpl : e.platform.magicAccessors = ({} : Platform).magicAccessors := by rw [X.admits.platform]
  obtain ⟨mk, methM, cM, kP, vm₁, hnamed, hmethM, hcodeM, -, hlocalsM, -, hkP, -, hW₁, hstep₁⟩ := Steps.initColdArgs (e := e) X.here hexec X.warmed hpl hown hy1 hy hlink hinst hcode (f := g) rfl hlen hstack hdg
  have X₁ := X.noted hW₁
  rcases hK g.method meth c ⟨T.setVm vm₁, locs, cells, slots⟩ { g with stack := rest } (.invokespecial index) mk (Value.ref a :: argsL).toArray X₁ rfl hsize hdg hW (X₁.named hnamed) (hpre vm₁ X₁.warmed) with ⟨v, B, X', hpost, hsteps⟩ | ⟨q, B, X', hpost, hsteps⟩
  · exact Or.inl ⟨v, vm₁, B, X₁.warmed, X', hpost, fun target h => hstep₁ _ fun acts => by rw [doInvoke_state]; exact hsteps.trans h⟩
  · exact Or.inr ⟨q, vm₁, B, X₁.warmed, X', hpost, hstep₁ _ fun acts => by rw [doInvoke_state]; exact hsteps⟩
end VXIA
section VXIB
variable {p : Program} {l : Launch} {e : Env} {R : Room} {s : State} {m : MethodId} {args : Array Value} {below : List Frame} {meth : Method} {c : Code} {H : Heap} {locs : List Loc} {cells slots : Nat}
variable {y : MethodName} {bytes cc : ByteArray} {maxL nL mc ms n index : Nat} {ret : Option FieldType} {ws : List Cond} {rm : Room} {Pc : Array Value → State → Prop} {Qc : Array Value → State → Outcome → State → Prop} {XC : String → State → State → Prop} {free : Addr → Prop} {Ts : List Cond} {own C : String} {b : Addr} {As rest : List Value} {g : JFrame}
theorem vx_runI (S : CallFix p m c cc nL s args Ts own) (hM : vx_Met l y ws rm Pc Qc XC mc ms free) (cw : CallB R s args own index y bytes maxL none ws rm mc ms n ∧ y.name = "<init>" ∧ (Cond.instanceMethod y).before args s = true) (hp : PreS s H Pc (.ref b :: As))
    (hg : g.method = m) (hn : As.length = n) (hsize : g.locals.size = nL) (hstack : g.stack = As.reverse ++ .ref b :: rest) (hW : 2 * g.monitorRoom + (rest.map fun v => v.category).sum ≤ 8) (hdg : decode cc g.pc = .ok (.invokespecial index, 3)) (hf : cells + mc ≤ R.cells ∧ slots + ms ≤ R.slots) :
    vx_Run p l e R s m args below meth c H locs cells slots mc ms g rest (Qc (Value.ref b :: As).toArray) XC free := by
  have hK : vx_Back l R p e below s args y 3 8 (PreOf R mc ms Pc) (PostOf Qc mc ms free) (vx_Post XC mc ms free) := vx_callBack cw.1 hM hp.1
  obtain ⟨⟨-, -, -, -, -, -, hcode, -, hy, hlen, hl⟩, hy1, hin⟩ := cw
  obtain ⟨hx, hb, hml, ho, -⟩ := S
  have hPc := hp.2
  intro T hT X
  rcases vx_callI X hx (bytes := bytes) (maxL := maxL) ho hy1 hl hin hcode hy hK hg (hsize.trans hml.symm) (a := b) (argsL := As) (rest := rest) (fun sig h => hn.trans (hlen sig h)) hstack hW (by rw [hb]; exact hdg)
    (fun vm₁ hW₁ => ⟨hf.1, hf.2, hPc (T.setVm vm₁) hT hW₁⟩) with ⟨v, vm₁, ⟨U', l2, c2, s2⟩, hW₁, X', ⟨g', mk, t, L, e1, e2, hq, h1, hL, h2, h3⟩, st⟩ | ⟨q, vm₁, ⟨U', l2, c2, s2⟩, hW₁, X', ⟨g', mk, t, L, E, ce, e1, e2, hq, hce, hcv, hcl, h1, hL, h2, h3⟩, st⟩
  · dsimp only [Pt.U, Pt.locs, Pt.cells, Pt.slots] at X' e1 e2 h1 h2 h3 st
    subst h1; subst h2; subst h3
    exact Or.inl ⟨v, (T.setVm vm₁).calling g' mk (Value.ref b :: As).toArray, t, U', L, hT, X', hL, e1, e2, hq, st⟩
  · dsimp only [Pt.U, Pt.locs, Pt.cells, Pt.slots] at X' e1 e2 h1 h2 h3 st hcl
    subst h1; subst h2; subst h3
    exact Or.inr ⟨q, (T.setVm vm₁).calling g' mk (Value.ref b :: As).toArray, t, U', L, E, ce, hT, X', hL, e1, e2, hq, hce, hcv, vx_cls hW₁ hcl, st⟩
end VXIB
/-! ===== END ===== -/
/-! ===== BEGIN a private constructor of a nest mate that throws ===== -/
section VXIC
variable {p : Program} {l : Launch} {e : Env} {R : Room} {s : State} {m : MethodId} {args : Array Value} {below : List Frame} {meth : Method} {c : Code} {T : State} {locs : List Loc} {cells slots : Nat}
theorem vx_callIN (X : Stand p l e R s m args below meth c T locs cells slots) (hexec : p.tables.exec = Jvm.exec) {own : String} {index : Nat} {host : String} {y : MethodName} {bytes : ByteArray} {maxL : Nat}
    (hown : s.vm.findClass own = some m.cls) (hy1 : y.name = "<init>") (hlink : (Cond.methodLinkNest own index y host).before args s = true) (hinst : (Cond.instanceMethod y).before args s = true)
    (hcode : (Cond.code y bytes maxL none).before args s = true) (hy : y.cls ≠ "java/lang/invoke/MethodHandle" ∧ y.cls ≠ "java/lang/invoke/VarHandle")
    {W9 : Nat} {Pre : Pt → Array Value → Prop} {Post : Pt → Array Value → Option Value → Pt → Prop} {PostX : Pt → Array Value → Addr → Pt → Prop} (hK : vx_Back l R p e below s args y 3 W9 Pre Post PostX)
    {g : JFrame} (hg : g.method = m) (hsize : g.locals.size = c.maxLocals) {a : Addr} {argsL rest : List Value} (hlen : ∀ sig, parseMethodDescriptor y.desc = some sig → argsL.length = sig.parameters.length)
    (hstack : g.stack = argsL.reverse ++ .ref a :: rest) (hW : 2 * g.monitorRoom + (rest.map fun v => v.category).sum ≤ W9) (hdg : decode c.code g.pc = .ok (.invokespecial index, 3))
    (hpre : ∀ vm₁, s.WarmedH vm₁ → Pre ⟨T.setVm vm₁, locs, cells, slots⟩ (Value.ref a :: argsL).toArray) :
    (∃ (v : Option Value) (vm₁ : Vm) (B : Pt), s.WarmedH vm₁ ∧ Stand p l e R s m args below meth c B.U B.locs B.cells B.slots ∧ Post ⟨T.setVm vm₁, locs, cells, slots⟩ (Value.ref a :: argsL).toArray v B ∧
      ∀ target, Steps p.tables e below (B.U.setTop { g with pc := g.pc + 3, stack := v.toList ++ rest }) target → Steps p.tables e below (T.setTop g) target) ∨
    (∃ (q : Addr) (vm₁ : Vm) (B : Pt), s.WarmedH vm₁ ∧ Stand p l e R s m args below meth c B.U B.locs B.cells B.slots ∧ PostX ⟨T.setVm vm₁, locs, cells, slots⟩ (Value.ref a :: argsL).toArray q B ∧
      Steps p.tables e below (T.setTop g) ((B.U.setTop { g with stack := rest }).pushFrame (.throwing q))) := by
  subst hg
  have hpl : e.platform.magicAccessors = ({} : Platform).magicAccessors := by rw [X.admits.platform]
  obtain ⟨mk, methM, cM, kP, vm₁, hnamed, hmethM, hcodeM, -, hlocalsM, -, hkP, -, hW₁, hstep₁⟩ := Steps.initColdArgsNest (e := e) X.here hexec X.warmed hpl hown hy1 hy hlink hinst hcode (f := g) rfl hlen hstack hdg
  have X₁ := X.noted hW₁
  rcases hK g.method meth c ⟨T.setVm vm₁, locs, cells, slots⟩ { g with stack := rest } (.invokespecial index) mk (Value.ref a :: argsL).toArray X₁ rfl hsize hdg hW (X₁.named hnamed) (hpre vm₁ X₁.warmed) with ⟨v, B, X', hpost, hsteps⟩ | ⟨q, B, X', hpost, hsteps⟩
  · exact Or.inl ⟨v, vm₁, B, X₁.warmed, X', hpost, fun target h => hstep₁ _ fun acts => by rw [doInvoke_state]; exact hsteps.trans h⟩
  · exact Or.inr ⟨q, vm₁, B, X₁.warmed, X', hpost, hstep₁ _ fun acts => by rw [doInvoke_state]; exact hsteps⟩
end VXIC
section VXID
variable {p : Program} {l : Launch} {e : Env} {R : Room} {s : State} {m : MethodId} {args : Array Value} {below : List Frame} {meth : Method} {c : Code} {H : Heap} {locs : List Loc} {cells slots : Nat}
theorem vx_runIN {y : MethodName} {bytes cc : ByteArray} {maxL nL mc ms n index : Nat} {ws : List Cond} {rm : Room} {Pc : Array Value → State → Prop} {Qc : Array Value → State → Outcome → State → Prop} {XC : String → State → State → Prop} {free : Addr → Prop} {Ts : List Cond} {own host : String} {b : Addr} {As rest : List Value} {g : JFrame}
    (S : CallFix p m c cc nL s args Ts own) (hM : vx_Met l y ws rm Pc Qc XC mc ms free) (cw : va_CN R s args own index y host bytes maxL none ws rm mc ms n ∧ y.name = "<init>" ∧ (Cond.instanceMethod y).before args s = true) (hp : PreS s H Pc (.ref b :: As))
    (hg : g.method = m) (hn : As.length = n) (hsize : g.locals.size = nL) (hstack : g.stack = As.reverse ++ .ref b :: rest) (hW : 2 * g.monitorRoom + (rest.map fun v => v.category).sum ≤ 8) (hdg : decode cc g.pc = .ok (.invokespecial index, 3)) (hf : cells + mc ≤ R.cells ∧ slots + ms ≤ R.slots) :
    vx_Run p l e R s m args below meth c H locs cells slots mc ms g rest (Qc (Value.ref b :: As).toArray) XC free := by
  obtain ⟨⟨⟨hrc, hrs, hfr, hlo, hws, hcw⟩, hcode, hini, hy, hlen, hl⟩, hx1, hx2⟩ := cw
  have hK : vx_Back l R p e below s args y 3 8 (PreOf R mc ms Pc) (PostOf Qc mc ms free) (vx_Post XC mc ms free) := vx_back (bytes := bytes) (maxL := maxL) (ret := none) hM hp.1 hrc hrs hfr hlo hws hcw (fun a' U hW => word_at hW (Or.inl (by first | rfl | simp [Cond.onTables, Cond.keeps, Cond.steady])) hini)
  obtain ⟨hx, hb, hml, ho, -⟩ := S
  have hPc := hp.2
  intro T hT X
  rcases vx_callIN X hx (bytes := bytes) (maxL := maxL) ho hx1 hl hx2 hcode hy hK hg (hsize.trans hml.symm) (a := b) (argsL := As) (rest := rest) (fun sig h => hn.trans (hlen sig h)) hstack hW (by rw [hb]; exact hdg)
    (fun vm₁ hW₁ => ⟨hf.1, hf.2, hPc (T.setVm vm₁) hT hW₁⟩) with ⟨v, vm₁, ⟨U', l2, c2, s2⟩, hW₁, X', ⟨g', mk, t, L, e1, e2, hq, h1, hL, h2, h3⟩, st⟩ | ⟨q, vm₁, ⟨U', l2, c2, s2⟩, hW₁, X', ⟨g', mk, t, L, E, ce, e1, e2, hq, hce, hcv, hcl, h1, hL, h2, h3⟩, st⟩
  · dsimp only [Pt.U, Pt.locs, Pt.cells, Pt.slots] at X' e1 e2 h1 h2 h3 st
    subst h1; subst h2; subst h3
    exact Or.inl ⟨v, (T.setVm vm₁).calling g' mk (Value.ref b :: As).toArray, t, U', L, hT, X', hL, e1, e2, hq, st⟩
  · dsimp only [Pt.U, Pt.locs, Pt.cells, Pt.slots] at X' e1 e2 h1 h2 h3 st hcl
    subst h1; subst h2; subst h3
    exact Or.inr ⟨q, (T.setVm vm₁).calling g' mk (Value.ref b :: As).toArray, t, U', L, E, ce, hT, X', hL, e1, e2, hq, hce, hcv, vx_cls hW₁ hcl, st⟩
end VXID
/-! ===== END ===== -/
/-! ===== BEGIN a private method of a nest mate that may throw (follows va_callVN, va_callSN, va_runVN, va_runSN) ===== -/
section
variable {p : Program} {l : Launch} {e : Env} {R : Room} {s : State} {m : MethodId} {args : Array Value} {below : List Frame} {meth : Method} {c : Code} {H : Heap} {locs : List Loc} {cells slots : Nat}
variable {T : State}
theorem vx_callVN (X : Stand p l e R s m args below meth c T locs cells slots) (hexec : p.tables.exec = Jvm.exec) {own C : String} {index : Nat} {host : String} {y : MethodName} {bytes : ByteArray} {maxL : Nat} {ret : Option FieldType}
    (hown : s.vm.findClass own = some m.cls) (hlink : (Cond.methodLinkNest own index y host).before args s = true) (hinst : (Cond.instanceMethod y).before args s = true) (hsel : (Cond.selects C y y).before args s = true)
    (hcode : (Cond.code y bytes maxL ret).before args s = true) (hy : y.cls ≠ "java/lang/invoke/MethodHandle" ∧ y.cls ≠ "java/lang/invoke/VarHandle")
    {W : Nat} {Pre : Pt → Array Value → Prop} {Post : Pt → Array Value → Option Value → Pt → Prop} {PostX : Pt → Array Value → Addr → Pt → Prop} (hK : vx_Back l R p e below s args y 3 W Pre Post PostX)
    {b : Addr} {cellB : Cell} (hcell : T.heap[b]? = some cellB) (hobj : cellB.vm.isStatics = false) (hcls : s.vm.findClass C = some cellB.cls)
    {g : JFrame} (hg : g.method = m) (hsize : g.locals.size = c.maxLocals) {argsL rest : List Value} (hlen : ∀ sig, parseMethodDescriptor y.desc = some sig → argsL.length = sig.parameters.length)
    (hstack : g.stack = argsL.reverse ++ .ref b :: rest) (hW : 2 * g.monitorRoom + (rest.map fun v => v.category).sum ≤ W) (hdg : decode c.code g.pc = .ok (.invokevirtual index, 3))
    (hpre : ∀ vm₁, s.WarmedH vm₁ → Pre ⟨T.setVm vm₁, locs, cells, slots⟩ (Value.ref b :: argsL).toArray) :
    (∃ (v : Option Value) (vm₁ : Vm) (B : Pt), s.WarmedH vm₁ ∧ Stand p l e R s m args below meth c B.U B.locs B.cells B.slots ∧ Post ⟨T.setVm vm₁, locs, cells, slots⟩ (Value.ref b :: argsL).toArray v B ∧
      ∀ target, Steps p.tables e below (B.U.setTop { g with pc := g.pc + 3, stack := v.toList ++ rest }) target → Steps p.tables e below (T.setTop g) target) ∨
    (∃ (q : Addr) (vm₁ : Vm) (B : Pt), s.WarmedH vm₁ ∧ Stand p l e R s m args below meth c B.U B.locs B.cells B.slots ∧ PostX ⟨T.setVm vm₁, locs, cells, slots⟩ (Value.ref b :: argsL).toArray q B ∧
      Steps p.tables e below (T.setTop g) ((B.U.setTop { g with stack := rest }).pushFrame (.throwing q))) := by
  obtain ⟨mk, methM, hnamed, hmethM, hstM, habM⟩ := Cond.instanceMethod_spec hinst
  obtain ⟨methM', cM, hmethM', -, -, -, -, -, -, hsigM⟩ := Cond.code_spec hnamed hcode
  cases hmethM.symm.trans hmethM'
  obtain ⟨c2, r2, m2, q1, q2, q3, q4, kP, hkP, hkPi⟩ := Cond.selects_spec hsel
  cases hcls.symm.trans q1
  cases (State.methodFound?_of_named hnamed hy).symm.trans q2
  cases hnamed.symm.trans q3
  have hselP : selectMethod e.platform s.vm cellB.cls mk = .method mk := by rw [Launch.admits_selectMethod X.admits]; exact q4
  obtain ⟨vm₁, X₁, hstep₁⟩ := X.invokevirtualNest hexec hown hlink hnamed hmethM hstM hkP hkPi hy (a := b) (cell := cellB) hcell
    (fun z h => by rw [h] at hobj; cases hobj) hselP hmethM habM hkP hkPi (g := g) hg (argsL := argsL) (rest := rest) (hlen _ hsigM) hstack hdg
  rcases hK m meth c ⟨T.setVm vm₁, locs, cells, slots⟩ { g with stack := rest } (.invokevirtual index) mk (Value.ref b :: argsL).toArray X₁ hg hsize hdg hW (X₁.named hnamed) (hpre vm₁ X₁.warmed) with ⟨v, B, X', hpost, hsteps⟩ | ⟨q, B, X', hpost, hsteps⟩
  · exact Or.inl ⟨v, vm₁, B, X₁.warmed, X', hpost, fun target h => hstep₁ _ fun acts => by rw [doInvoke_state]; exact hsteps.trans h⟩
  · exact Or.inr ⟨q, vm₁, B, X₁.warmed, X', hpost, hstep₁ _ fun acts => by rw [doInvoke_state]; exact hsteps⟩
theorem vx_callSN (X : Stand p l e R s m args below meth c T locs cells slots) (hexec : p.tables.exec = Jvm.exec) {own : String} {index : Nat} {host : String} {y : MethodName} {bytes : ByteArray} {maxL : Nat} {ret : Option FieldType}
    (hown : s.vm.findClass own = some m.cls) (hlink : (Cond.methodLinkNest own index y host).before args s = true) (hstat : (Cond.static y).before args s = true) (hinit : (Cond.initialized y.cls).before args s = true)
    (hcode : (Cond.code y bytes maxL ret).before args s = true) (hy : y.cls ≠ "java/lang/invoke/MethodHandle" ∧ y.cls ≠ "java/lang/invoke/VarHandle")
    {W : Nat} {Pre : Pt → Array Value → Prop} {Post : Pt → Array Value → Option Value → Pt → Prop} {PostX : Pt → Array Value → Addr → Pt → Prop} (hK : vx_Back l R p e below s args y 3 W Pre Post PostX)
    {g : JFrame} (hg : g.method = m) (hsize : g.locals.size = c.maxLocals) {argsL rest : List Value} (hlen : ∀ sig, parseMethodDescriptor y.desc = some sig → argsL.length = sig.parameters.length)
    (hstack : g.stack = argsL.reverse ++ rest) (hW : 2 * g.monitorRoom + (rest.map fun v => v.category).sum ≤ W) (hdg : decode c.code g.pc = .ok (.invokestatic index, 3))
    (hpre : ∀ vm₁, s.WarmedH vm₁ → Pre ⟨T.setVm vm₁, locs, cells, slots⟩ argsL.toArray) :
    (∃ (v : Option Value) (vm₁ : Vm) (B : Pt), s.WarmedH vm₁ ∧ Stand p l e R s m args below meth c B.U B.locs B.cells B.slots ∧ Post ⟨T.setVm vm₁, locs, cells, slots⟩ argsL.toArray v B ∧
      ∀ target, Steps p.tables e below (B.U.setTop { g with pc := g.pc + 3, stack := v.toList ++ rest }) target → Steps p.tables e below (T.setTop g) target) ∨
    (∃ (q : Addr) (vm₁ : Vm) (B : Pt), s.WarmedH vm₁ ∧ Stand p l e R s m args below meth c B.U B.locs B.cells B.slots ∧ PostX ⟨T.setVm vm₁, locs, cells, slots⟩ argsL.toArray q B ∧
      Steps p.tables e below (T.setTop g) ((B.U.setTop { g with stack := rest }).pushFrame (.throwing q))) := by
  obtain ⟨mk, hnamed⟩ := Cond.code_named hcode
  obtain ⟨methM, cM, hmethM, -, -, -, -, -, -, hsigM⟩ := Cond.code_spec hnamed hcode
  have hstatic : methM.isStatic = true := Cond.static_spec hnamed hmethM hstat
  obtain ⟨kP, hkP, -⟩ := className_of_methodNamed hnamed
  have hinitP : kP.init = .initialized := Cond.initialized_spec (findClass_of_methodNamed hnamed) hkP hinit
  obtain ⟨vm₁, X₁, hstep₁⟩ := X.invokestaticNest hexec hown hlink hnamed hmethM hstatic hkP hinitP hy (g := g) hg (argsL := argsL) (rest := rest) (hlen _ hsigM) hstack hdg
  rcases hK m meth c ⟨T.setVm vm₁, locs, cells, slots⟩ { g with stack := rest } (.invokestatic index) mk argsL.toArray X₁ hg hsize hdg hW (X₁.named hnamed) (hpre vm₁ X₁.warmed) with ⟨v, B, X', hpost, hsteps⟩ | ⟨q, B, X', hpost, hsteps⟩
  · exact Or.inl ⟨v, vm₁, B, X₁.warmed, X', hpost, fun target h => hstep₁ _ fun acts => by rw [doInvoke_state]; exact hsteps.trans h⟩
  · exact Or.inr ⟨q, vm₁, B, X₁.warmed, X', hpost, hstep₁ _ fun acts => by rw [doInvoke_state]; exact hsteps⟩
theorem vx_runVN {y : MethodName} {bytes cc : ByteArray} {maxL nL mc ms n index : Nat} {ret : Option FieldType} {ws : List Cond} {rm : Room} {Pc : Array Value → State → Prop} {Qc : Array Value → State → Outcome → State → Prop} {XC : String → State → State → Prop} {free : Addr → Prop} {Ts : List Cond} {own C host : String} {b : Addr} {As rest : List Value} {g : JFrame}
    (S : CallFix p m c cc nL s args Ts own) (hM : vx_Met l y ws rm Pc Qc XC mc ms free) (cw : va_CN R s args own index y host bytes maxL ret ws rm mc ms n ∧ (Cond.instanceMethod y).before args s = true ∧ (Cond.selects C y y).before args s = true) (hp : PreV s H C b Pc As)
    (hg : g.method = m) (hn : As.length = n) (hsize : g.locals.size = nL) (hstack : g.stack = As.reverse ++ .ref b :: rest) (hW : 2 * g.monitorRoom + (rest.map fun v => v.category).sum ≤ 8) (hdg : decode cc g.pc = .ok (.invokevirtual index, 3)) (hf : cells + mc ≤ R.cells ∧ slots + ms ≤ R.slots) :
    vx_Run p l e R s m args below meth c H locs cells slots mc ms g rest (Qc (Value.ref b :: As).toArray) XC free := by
  obtain ⟨⟨⟨hrc, hrs, hfr, hlo, hws, hcw⟩, hcode, hini, hy, hlen, hl⟩, hx1, hx2⟩ := cw
  have hK : vx_Back l R p e below s args y 3 8 (PreOf R mc ms Pc) (PostOf Qc mc ms free) (vx_Post XC mc ms free) := vx_back (bytes := bytes) (maxL := maxL) (ret := ret) hM hp.1 hrc hrs hfr hlo hws hcw (fun a' U hW => word_at hW (Or.inl (by first | rfl | simp [Cond.onTables, Cond.keeps, Cond.steady])) hini)
  obtain ⟨hx, hb, hml, ho, -⟩ := S
  obtain ⟨-, ⟨cellB, hcB, hoB, hclB⟩, hPc⟩ := hp
  intro T hT X
  rcases vx_callVN X hx (C := C) (bytes := bytes) (maxL := maxL) (ret := ret) ho hl hx1 hx2 hcode hy hK (by rw [hT]; exact hcB) hoB hclB hg (hsize.trans hml.symm) (argsL := As) (rest := rest) (fun sig h => hn.trans (hlen sig h)) hstack hW (by rw [hb]; exact hdg)
    (fun vm₁ hW₁ => ⟨hf.1, hf.2, hPc (T.setVm vm₁) hT hW₁⟩) with ⟨v, vm₁, ⟨U', l2, c2, s2⟩, hW₁, X', ⟨g', mk, t, L, e1, e2, hq, h1, hL, h2, h3⟩, st⟩ | ⟨q, vm₁, ⟨U', l2, c2, s2⟩, hW₁, X', ⟨g', mk, t, L, E, ce, e1, e2, hq, hce, hcv, hcl, h1, hL, h2, h3⟩, st⟩
  · dsimp only [Pt.U, Pt.locs, Pt.cells, Pt.slots] at X' e1 e2 h1 h2 h3 st
    subst h1; subst h2; subst h3
    exact Or.inl ⟨v, (T.setVm vm₁).calling g' mk (Value.ref b :: As).toArray, t, U', L, hT, X', hL, e1, e2, hq, st⟩
  · dsimp only [Pt.U, Pt.locs, Pt.cells, Pt.slots] at X' e1 e2 h1 h2 h3 st hcl
    subst h1; subst h2; subst h3
    exact Or.inr ⟨q, (T.setVm vm₁).calling g' mk (Value.ref b :: As).toArray, t, U', L, E, ce, hT, X', hL, e1, e2, hq, hce, hcv, vx_cls hW₁ hcl, st⟩
theorem vx_runSN {y : MethodName} {bytes cc : ByteArray} {maxL nL mc ms n index : Nat} {ret : Option FieldType} {ws : List Cond} {rm : Room} {Pc : Array Value → State → Prop} {Qc : Array Value → State → Outcome → State → Prop} {XC : String → State → State → Prop} {free : Addr → Prop} {Ts : List Cond} {own host : String} {As rest : List Value} {g : JFrame}
    (S : CallFix p m c cc nL s args Ts own) (hM : vx_Met l y ws rm Pc Qc XC mc ms free) (cw : va_CN R s args own index y host bytes maxL ret ws rm mc ms n ∧ (Cond.static y).before args s = true ∧ True) (hp : PreS s H Pc As)
    (hg : g.method = m) (hn : As.length = n) (hsize : g.locals.size = nL) (hstack : g.stack = As.reverse ++ rest) (hW : 2 * g.monitorRoom + (rest.map fun v => v.category).sum ≤ 8) (hdg : decode cc g.pc = .ok (.invokestatic index, 3)) (hf : cells + mc ≤ R.cells ∧ slots + ms ≤ R.slots) :
    vx_Run p l e R s m args below meth c H locs cells slots mc ms g rest (Qc As.toArray) XC free := by
  obtain ⟨⟨⟨hrc, hrs, hfr, hlo, hws, hcw⟩, hcode, hini, hy, hlen, hl⟩, hx1, hx2⟩ := cw
  have hK : vx_Back l R p e below s args y 3 8 (PreOf R mc ms Pc) (PostOf Qc mc ms free) (vx_Post XC mc ms free) := vx_back (bytes := bytes) (maxL := maxL) (ret := ret) hM hp.1 hrc hrs hfr hlo hws hcw (fun a' U hW => word_at hW (Or.inl (by first | rfl | simp [Cond.onTables, Cond.keeps, Cond.steady])) hini)
  obtain ⟨hx, hb, hml, ho, -⟩ := S
  have hPc := hp.2
  intro T hT X
  rcases vx_callSN X hx (bytes := bytes) (maxL := maxL) (ret := ret) ho hl hx1 hini hcode hy hK hg (hsize.trans hml.symm) (argsL := As) (rest := rest) (fun sig h => hn.trans (hlen sig h)) hstack hW (by rw [hb]; exact hdg)
    (fun vm₁ hW₁ => ⟨hf.1, hf.2, hPc (T.setVm vm₁) hT hW₁⟩) with ⟨v, vm₁, ⟨U', l2, c2, s2⟩, hW₁, X', ⟨g', mk, t, L, e1, e2, hq, h1, hL, h2, h3⟩, st⟩ | ⟨q, vm₁, ⟨U', l2, c2, s2⟩, hW₁, X', ⟨g', mk, t, L, E, ce, e1, e2, hq, hce, hcv, hcl, h1, hL, h2, h3⟩, st⟩
  · dsimp only [Pt.U, Pt.locs, Pt.cells, Pt.slots] at X' e1 e2 h1 h2 h3 st
    subst h1; subst h2; subst h3
    exact Or.inl ⟨v, (T.setVm vm₁).calling g' mk As.toArray, t, U', L, hT, X', hL, e1, e2, hq, st⟩
  · dsimp only [Pt.U, Pt.locs, Pt.cells, Pt.slots] at X' e1 e2 h1 h2 h3 st hcl
    subst h1; subst h2; subst h3
    exact Or.inr ⟨q, (T.setVm vm₁).calling g' mk As.toArray, t, U', L, E, ce, hT, X', hL, e1, e2, hq, hce, hcv, vx_cls hW₁ hcl, st⟩
end
/-! ===== END ===== -/
-- ===== PART A: goes FIRST, ahead of the names: the tables' words, and 'selects' of the private methods out of them =====
/-- a private method of a class that the tables say can be made, by its rows of tables_1 -/
def lw_okq (q : MethodName × Nat) : Prop := (q.1.cls ≠ "java/lang/invoke/MethodHandle" ∧ q.1.cls ≠ "java/lang/invoke/VarHandle") ∧ Cond.instantiable q.1.cls q.2 ∈ tables_1 ∧ Cond.privateMethod q.1 ∈ tables_1 ∧ Cond.instanceMethod q.1 ∈ tables_1
theorem lw_p0 : lw_okq (⟨"java/lang/Throwable", "fillInStackTrace", "(I)Ljava/lang/Throwable;"⟩, 6) := ⟨⟨by decide +kernel, by decide +kernel⟩, List.mem_of_getElem? (i := 352) (by decide +kernel), List.mem_of_getElem? (i := 350) (by decide +kernel), List.mem_of_getElem? (i := 351) (by decide +kernel)⟩
theorem lw_p1 : lw_okq (⟨"Treeclerk", "requirePerson", "(I)V"⟩, 10) := ⟨⟨by decide +kernel, by decide +kernel⟩, List.mem_of_getElem? (i := 21) (by decide +kernel), List.mem_of_getElem? (i := 416) (by decide +kernel), List.mem_of_getElem? (i := 417) (by decide +kernel)⟩
theorem lw_p2 : lw_okq (⟨"Treeclerk", "requireAlive", "(I)V"⟩, 10) := ⟨⟨by decide +kernel, by decide +kernel⟩, List.mem_of_getElem? (i := 21) (by decide +kernel), List.mem_of_getElem? (i := 436) (by decide +kernel), List.mem_of_getElem? (i := 437) (by decide +kernel)⟩
theorem lw_p3 : lw_okq (⟨"Treeclerk$Estate", "placeOf", "(I)I"⟩, 11) := ⟨⟨by decide +kernel, by decide +kernel⟩, List.mem_of_getElem? (i := 208) (by decide +kernel), List.mem_of_getElem? (i := 456) (by decide +kernel), List.mem_of_getElem? (i := 457) (by decide +kernel)⟩
theorem lw_p4 : lw_okq (⟨"Treeclerk", "requireDead", "(I)V"⟩, 10) := ⟨⟨by decide +kernel, by decide +kernel⟩, List.mem_of_getElem? (i := 21) (by decide +kernel), List.mem_of_getElem? (i := 464) (by decide +kernel), List.mem_of_getElem? (i := 465) (by decide +kernel)⟩
theorem lw_p5 : lw_okq (⟨"Treeclerk", "requireUnclosed", "(LTreeclerk$Estate;)V"⟩, 10) := ⟨⟨by decide +kernel, by decide +kernel⟩, List.mem_of_getElem? (i := 21) (by decide +kernel), List.mem_of_getElem? (i := 469) (by decide +kernel), List.mem_of_getElem? (i := 470) (by decide +kernel)⟩
theorem lw_p6 : lw_okq (⟨"Treeclerk$Court", "lookAt", "(LTreeclerk$Folk;LTreeclerk$Kin;LTreeclerk$Estate;)V"⟩, 5) := ⟨⟨by decide +kernel, by decide +kernel⟩, List.mem_of_getElem? (i := 123) (by decide +kernel), List.mem_of_getElem? (i := 478) (by decide +kernel), List.mem_of_getElem? (i := 479) (by decide +kernel)⟩
theorem lw_p7 : lw_okq (⟨"Treeclerk$Court", "findLivingLines", "(LTreeclerk$Folk;LTreeclerk$Kin;LTreeclerk$Estate;)I"⟩, 5) := ⟨⟨by decide +kernel, by decide +kernel⟩, List.mem_of_getElem? (i := 123) (by decide +kernel), List.mem_of_getElem? (i := 482) (by decide +kernel), List.mem_of_getElem? (i := 483) (by decide +kernel)⟩
theorem lw_p8 : lw_okq (⟨"Treeclerk$Court", "findHeads", "(LTreeclerk$Kin;I)I"⟩, 5) := ⟨⟨by decide +kernel, by decide +kernel⟩, List.mem_of_getElem? (i := 123) (by decide +kernel), List.mem_of_getElem? (i := 500) (by decide +kernel), List.mem_of_getElem? (i := 501) (by decide +kernel)⟩
theorem lw_p9 : lw_okq (⟨"Treeclerk$Court", "addAsHead", "(I)V"⟩, 5) := ⟨⟨by decide +kernel, by decide +kernel⟩, List.mem_of_getElem? (i := 123) (by decide +kernel), List.mem_of_getElem? (i := 525) (by decide +kernel), List.mem_of_getElem? (i := 526) (by decide +kernel)⟩
theorem lw_p10 : lw_okq (⟨"Treeclerk$Court", "passOn", "(ILTreeclerk$Kin;)V"⟩, 5) := ⟨⟨by decide +kernel, by decide +kernel⟩, List.mem_of_getElem? (i := 123) (by decide +kernel), List.mem_of_getElem? (i := 546) (by decide +kernel), List.mem_of_getElem? (i := 547) (by decide +kernel)⟩
theorem lw_p11 : lw_okq (⟨"Treeclerk$Court", "joinWithWill", "(LTreeclerk$Estate;LTreeclerk$Shares;)V"⟩, 5) := ⟨⟨by decide +kernel, by decide +kernel⟩, List.mem_of_getElem? (i := 123) (by decide +kernel), List.mem_of_getElem? (i := 554) (by decide +kernel), List.mem_of_getElem? (i := 555) (by decide +kernel)⟩
theorem lw_p12 : lw_okq (⟨"Treeclerk$Court", "weightFor", "(LTreeclerk$Estate;I)I"⟩, 5) := ⟨⟨by decide +kernel, by decide +kernel⟩, List.mem_of_getElem? (i := 123) (by decide +kernel), List.mem_of_getElem? (i := 558) (by decide +kernel), List.mem_of_getElem? (i := 559) (by decide +kernel)⟩
theorem lw_p13 : lw_okq (⟨"Treeclerk$Land", "enter", "(IIII)I"⟩, 12) := ⟨⟨by decide +kernel, by decide +kernel⟩, List.mem_of_getElem? (i := 162) (by decide +kernel), List.mem_of_getElem? (i := 570) (by decide +kernel), List.mem_of_getElem? (i := 571) (by decide +kernel)⟩
theorem lw_p14 : lw_okq (⟨"Treeclerk$Land", "drawKept", "(LTreeclerk$Estate;)V"⟩, 12) := ⟨⟨by decide +kernel, by decide +kernel⟩, List.mem_of_getElem? (i := 162) (by decide +kernel), List.mem_of_getElem? (i := 574) (by decide +kernel), List.mem_of_getElem? (i := 575) (by decide +kernel)⟩
theorem lw_p15 : lw_okq (⟨"Treeclerk$Land", "draw", "([ILTreeclerk$Estate;LTreeclerk$Shares;)V"⟩, 12) := ⟨⟨by decide +kernel, by decide +kernel⟩, List.mem_of_getElem? (i := 162) (by decide +kernel), List.mem_of_getElem? (i := 581) (by decide +kernel), List.mem_of_getElem? (i := 582) (by decide +kernel)⟩
def lw_privs_1 : List (MethodName × Nat) := [(⟨"java/lang/Throwable", "fillInStackTrace", "(I)Ljava/lang/Throwable;"⟩, 6), (⟨"Treeclerk", "requirePerson", "(I)V"⟩, 10), (⟨"Treeclerk", "requireAlive", "(I)V"⟩, 10), (⟨"Treeclerk$Estate", "placeOf", "(I)I"⟩, 11), (⟨"Treeclerk", "requireDead", "(I)V"⟩, 10), (⟨"Treeclerk", "requireUnclosed", "(LTreeclerk$Estate;)V"⟩, 10), (⟨"Treeclerk$Court", "lookAt", "(LTreeclerk$Folk;LTreeclerk$Kin;LTreeclerk$Estate;)V"⟩, 5), (⟨"Treeclerk$Court", "findLivingLines", "(LTreeclerk$Folk;LTreeclerk$Kin;LTreeclerk$Estate;)I"⟩, 5), (⟨"Treeclerk$Court", "findHeads", "(LTreeclerk$Kin;I)I"⟩, 5), (⟨"Treeclerk$Court", "addAsHead", "(I)V"⟩, 5), (⟨"Treeclerk$Court", "passOn", "(ILTreeclerk$Kin;)V"⟩, 5), (⟨"Treeclerk$Court", "joinWithWill", "(LTreeclerk$Estate;LTreeclerk$Shares;)V"⟩, 5), (⟨"Treeclerk$Court", "weightFor", "(LTreeclerk$Estate;I)I"⟩, 5), (⟨"Treeclerk$Land", "enter", "(IIII)I"⟩, 12), (⟨"Treeclerk$Land", "drawKept", "(LTreeclerk$Estate;)V"⟩, 12), (⟨"Treeclerk$Land", "draw", "([ILTreeclerk$Estate;LTreeclerk$Shares;)V"⟩, 12)]
theorem lw_r1 : ∀ q ∈ lw_privs_1, lw_okq q := List.forall_mem_cons.mpr ⟨lw_p0, List.forall_mem_cons.mpr ⟨lw_p1, List.forall_mem_cons.mpr ⟨lw_p2, List.forall_mem_cons.mpr ⟨lw_p3, List.forall_mem_cons.mpr ⟨lw_p4, List.forall_mem_cons.mpr ⟨lw_p5, List.forall_mem_cons.mpr ⟨lw_p6, List.forall_mem_cons.mpr ⟨lw_p7, List.forall_mem_cons.mpr ⟨lw_p8, List.forall_mem_cons.mpr ⟨lw_p9, List.forall_mem_cons.mpr ⟨lw_p10, List.forall_mem_cons.mpr ⟨lw_p11, List.forall_mem_cons.mpr ⟨lw_p12, List.forall_mem_cons.mpr ⟨lw_p13, List.forall_mem_cons.mpr ⟨lw_p14, List.forall_mem_cons.mpr ⟨lw_p15, fun _ h => absurd h List.not_mem_nil⟩⟩⟩⟩⟩⟩⟩⟩⟩⟩⟩⟩⟩⟩⟩⟩
theorem lw_p16 : lw_okq (⟨"Treeclerk$Land", "portionOut", "(IILTreeclerk$Shares;)V"⟩, 12) := ⟨⟨by decide +kernel, by decide +kernel⟩, List.mem_of_getElem? (i := 162) (by decide +kernel), List.mem_of_getElem? (i := 603) (by decide +kernel), List.mem_of_getElem? (i := 604) (by decide +kernel)⟩
theorem lw_p17 : lw_okq (⟨"Treeclerk$Land", "takeFrom", "(II)I"⟩, 12) := ⟨⟨by decide +kernel, by decide +kernel⟩, List.mem_of_getElem? (i := 162) (by decide +kernel), List.mem_of_getElem? (i := 613) (by decide +kernel), List.mem_of_getElem? (i := 614) (by decide +kernel)⟩
theorem lw_p18 : lw_okq (⟨"Treeclerk", "requireProof", "(I)V"⟩, 10) := ⟨⟨by decide +kernel, by decide +kernel⟩, List.mem_of_getElem? (i := 21) (by decide +kernel), List.mem_of_getElem? (i := 628) (by decide +kernel), List.mem_of_getElem? (i := 629) (by decide +kernel)⟩
theorem lw_p19 : lw_okq (⟨"Treeclerk", "requireWeight", "(II)V"⟩, 10) := ⟨⟨by decide +kernel, by decide +kernel⟩, List.mem_of_getElem? (i := 21) (by decide +kernel), List.mem_of_getElem? (i := 633) (by decide +kernel), List.mem_of_getElem? (i := 634) (by decide +kernel)⟩
theorem lw_p20 : lw_okq (⟨"Treeclerk", "retellKin", "()I"⟩, 10) := ⟨⟨by decide +kernel, by decide +kernel⟩, List.mem_of_getElem? (i := 21) (by decide +kernel), List.mem_of_getElem? (i := 652) (by decide +kernel), List.mem_of_getElem? (i := 653) (by decide +kernel)⟩
theorem lw_p21 : lw_okq (⟨"Treeclerk$Kin", "weigh", "(LTreeclerk$Proofs;II)V"⟩, 4) := ⟨⟨by decide +kernel, by decide +kernel⟩, List.mem_of_getElem? (i := 99) (by decide +kernel), List.mem_of_getElem? (i := 660) (by decide +kernel), List.mem_of_getElem? (i := 661) (by decide +kernel)⟩
theorem lw_p22 : lw_okq (⟨"Treeclerk$Kin", "strongestBut", "(I)I"⟩, 4) := ⟨⟨by decide +kernel, by decide +kernel⟩, List.mem_of_getElem? (i := 99) (by decide +kernel), List.mem_of_getElem? (i := 670) (by decide +kernel), List.mem_of_getElem? (i := 671) (by decide +kernel)⟩
theorem lw_p23 : lw_okq (⟨"Treeclerk$Kin", "addChild", "(II)V"⟩, 4) := ⟨⟨by decide +kernel, by decide +kernel⟩, List.mem_of_getElem? (i := 99) (by decide +kernel), List.mem_of_getElem? (i := 674) (by decide +kernel), List.mem_of_getElem? (i := 675) (by decide +kernel)⟩
theorem lw_p24 : lw_okq (⟨"Treeclerk", "reopen", "(LTreeclerk$Estate;)Z"⟩, 10) := ⟨⟨by decide +kernel, by decide +kernel⟩, List.mem_of_getElem? (i := 21) (by decide +kernel), List.mem_of_getElem? (i := 678) (by decide +kernel), List.mem_of_getElem? (i := 679) (by decide +kernel)⟩
theorem lw_p25 : lw_okq (⟨"Treeclerk$Land", "handOver", "([II)V"⟩, 12) := ⟨⟨by decide +kernel, by decide +kernel⟩, List.mem_of_getElem? (i := 162) (by decide +kernel), List.mem_of_getElem? (i := 701) (by decide +kernel), List.mem_of_getElem? (i := 702) (by decide +kernel)⟩
theorem lw_p26 : lw_okq (⟨"Treeclerk$Proofs", "lift", "(I)V"⟩, 10) := ⟨⟨by decide +kernel, by decide +kernel⟩, List.mem_of_getElem? (i := 56) (by decide +kernel), List.mem_of_getElem? (i := 720) (by decide +kernel), List.mem_of_getElem? (i := 721) (by decide +kernel)⟩
theorem lw_p27 : lw_okq (⟨"Treeclerk", "requireOthers", "(II)V"⟩, 10) := ⟨⟨by decide +kernel, by decide +kernel⟩, List.mem_of_getElem? (i := 21) (by decide +kernel), List.mem_of_getElem? (i := 755) (by decide +kernel), List.mem_of_getElem? (i := 756) (by decide +kernel)⟩
theorem lw_p28 : lw_okq (⟨"Treeclerk", "requireUnits", "(II)V"⟩, 10) := ⟨⟨by decide +kernel, by decide +kernel⟩, List.mem_of_getElem? (i := 21) (by decide +kernel), List.mem_of_getElem? (i := 769) (by decide +kernel), List.mem_of_getElem? (i := 770) (by decide +kernel)⟩
theorem lw_p29 : lw_okq (⟨"Treeclerk", "requireUnit", "(I)V"⟩, 10) := ⟨⟨by decide +kernel, by decide +kernel⟩, List.mem_of_getElem? (i := 21) (by decide +kernel), List.mem_of_getElem? (i := 832) (by decide +kernel), List.mem_of_getElem? (i := 833) (by decide +kernel)⟩
theorem lw_p30 : lw_okq (⟨"Treeclerk", "sharesNow", "(I)LTreeclerk$Shares;"⟩, 10) := ⟨⟨by decide +kernel, by decide +kernel⟩, List.mem_of_getElem? (i := 21) (by decide +kernel), List.mem_of_getElem? (i := 891) (by decide +kernel), List.mem_of_getElem? (i := 892) (by decide +kernel)⟩
theorem lw_p31 : lw_okq (⟨"Treeclerk", "wouldBeOthers", "(LTreeclerk$Estate;LTreeclerk$Shares;I)Z"⟩, 10) := ⟨⟨by decide +kernel, by decide +kernel⟩, List.mem_of_getElem? (i := 21) (by decide +kernel), List.mem_of_getElem? (i := 903) (by decide +kernel), List.mem_of_getElem? (i := 904) (by decide +kernel)⟩
def lw_privs_2 : List (MethodName × Nat) := [(⟨"Treeclerk$Land", "portionOut", "(IILTreeclerk$Shares;)V"⟩, 12), (⟨"Treeclerk$Land", "takeFrom", "(II)I"⟩, 12), (⟨"Treeclerk", "requireProof", "(I)V"⟩, 10), (⟨"Treeclerk", "requireWeight", "(II)V"⟩, 10), (⟨"Treeclerk", "retellKin", "()I"⟩, 10), (⟨"Treeclerk$Kin", "weigh", "(LTreeclerk$Proofs;II)V"⟩, 4), (⟨"Treeclerk$Kin", "strongestBut", "(I)I"⟩, 4), (⟨"Treeclerk$Kin", "addChild", "(II)V"⟩, 4), (⟨"Treeclerk", "reopen", "(LTreeclerk$Estate;)Z"⟩, 10), (⟨"Treeclerk$Land", "handOver", "([II)V"⟩, 12), (⟨"Treeclerk$Proofs", "lift", "(I)V"⟩, 10), (⟨"Treeclerk", "requireOthers", "(II)V"⟩, 10), (⟨"Treeclerk", "requireUnits", "(II)V"⟩, 10), (⟨"Treeclerk", "requireUnit", "(I)V"⟩, 10), (⟨"Treeclerk", "sharesNow", "(I)LTreeclerk$Shares;"⟩, 10), (⟨"Treeclerk", "wouldBeOthers", "(LTreeclerk$Estate;LTreeclerk$Shares;I)Z"⟩, 10)]
theorem lw_r2 : ∀ q ∈ lw_privs_2, lw_okq q := List.forall_mem_cons.mpr ⟨lw_p16, List.forall_mem_cons.mpr ⟨lw_p17, List.forall_mem_cons.mpr ⟨lw_p18, List.forall_mem_cons.mpr ⟨lw_p19, List.forall_mem_cons.mpr ⟨lw_p20, List.forall_mem_cons.mpr ⟨lw_p21, List.forall_mem_cons.mpr ⟨lw_p22, List.forall_mem_cons.mpr ⟨lw_p23, List.forall_mem_cons.mpr ⟨lw_p24, List.forall_mem_cons.mpr ⟨lw_p25, List.forall_mem_cons.mpr ⟨lw_p26, List.forall_mem_cons.mpr ⟨lw_p27, List.forall_mem_cons.mpr ⟨lw_p28, List.forall_mem_cons.mpr ⟨lw_p29, List.forall_mem_cons.mpr ⟨lw_p30, List.forall_mem_cons.mpr ⟨lw_p31, fun _ h => absurd h List.not_mem_nil⟩⟩⟩⟩⟩⟩⟩⟩⟩⟩⟩⟩⟩⟩⟩⟩
theorem lw_p32 : lw_okq (⟨"Treeclerk$Court", "findComing", "(ILTreeclerk$Kin;I)V"⟩, 5) := ⟨⟨by decide +kernel, by decide +kernel⟩, List.mem_of_getElem? (i := 123) (by decide +kernel), List.mem_of_getElem? (i := 932) (by decide +kernel), List.mem_of_getElem? (i := 933) (by decide +kernel)⟩
theorem lw_p33 : lw_okq (⟨"Treeclerk$Court", "addPartOf", "(IILTreeclerk$Kin;I)V"⟩, 5) := ⟨⟨by decide +kernel, by decide +kernel⟩, List.mem_of_getElem? (i := 123) (by decide +kernel), List.mem_of_getElem? (i := 936) (by decide +kernel), List.mem_of_getElem? (i := 937) (by decide +kernel)⟩
def lw_privs_3 : List (MethodName × Nat) := [(⟨"Treeclerk$Court", "findComing", "(ILTreeclerk$Kin;I)V"⟩, 5), (⟨"Treeclerk$Court", "addPartOf", "(IILTreeclerk$Kin;I)V"⟩, 5)]
theorem lw_r3 : ∀ q ∈ lw_privs_3, lw_okq q := List.forall_mem_cons.mpr ⟨lw_p32, List.forall_mem_cons.mpr ⟨lw_p33, fun _ h => absurd h List.not_mem_nil⟩⟩
def lw_privs : List (MethodName × Nat) := lw_privs_1 ++ (lw_privs_2 ++ (lw_privs_3))
def lw_tbl : List Cond := k2_sels lw_privs ++ tables_1
theorem lw_privs_ok : ∀ q ∈ lw_privs, lw_okq q := by
  show ∀ q ∈ lw_privs_1 ++ (lw_privs_2 ++ (lw_privs_3)), lw_okq q
  exact List.forall_mem_append.mpr ⟨lw_r1, List.forall_mem_append.mpr ⟨lw_r2, lw_r3⟩⟩

def RX0 : String := "Treeclerk$Court"
def TX0 : u_T := fun k => match k with
  | 0 => ("Treeclerk$Court", "coming", "LTreeclerk$Shares;", true)
  | 1 => ("Treeclerk$Court", "aliveSet", "I", false)
  | 2 => ("Treeclerk$Court", "livingSet", "I", false)
  | 3 => ("Treeclerk$Court", "headSet", "I", false)
  | _ => ("Treeclerk$Court", "foundSet", "I", false)
def tyX0 : Nat → FieldType := fun k => match k with
  | 0 => .object "Treeclerk$Shares"
  | 1 => .int
  | 2 => .int
  | 3 => .int
  | _ => .int
abbrev wsX00 : List Cond := u_ws RX0 TX0 5
theorem nmX0 : ∀ a, a < 5 → ∀ b, b < 5 → a ≠ b → (TX0 a).2.1 ≠ (TX0 b).2.1 := by decide +kernel
theorem tyX0_ok : ∀ k, k < 5 → parseFieldDescriptor (TX0 k).2.2.1 = some (tyX0 k) := by decide +kernel
def RX1 : String := "Treeclerk$Estate"
def TX1 : u_T := fun k => match k with
  | 0 => ("Treeclerk$Estate", "dead", "I", true)
  | 1 => ("Treeclerk$Estate", "weights", "[I", true)
  | 2 => ("Treeclerk$Estate", "claimants", "[I", true)
  | 3 => ("Treeclerk$Estate", "claimCount", "I", false)
  | 4 => ("Treeclerk$Estate", "closed", "Z", false)
  | 5 => ("Treeclerk$Estate", "deadAtClosing", "I", false)
  | 6 => ("Treeclerk$Estate", "closingDeed", "I", false)
  | 7 => ("Treeclerk$Estate", "reopenings", "I", false)
  | 8 => ("Treeclerk$Estate", "shares", "LTreeclerk$Shares;", true)
  | 9 => ("Treeclerk$Estate", "sharesAnew", "LTreeclerk$Shares;", true)
  | _ => ("Treeclerk$Estate", "landBefore", "[I", true)
def tyX1 : Nat → FieldType := fun k => match k with
  | 0 => .int
  | 1 => .array .int
  | 2 => .array .int
  | 3 => .int
  | 4 => .boolean
  | 5 => .int
  | 6 => .int
  | 7 => .int
  | 8 => .object "Treeclerk$Shares"
  | 9 => .object "Treeclerk$Shares"
  | _ => .array .int
abbrev wsX10 : List Cond := u_ws RX1 TX1 11
theorem nmX1 : ∀ a, a < 11 → ∀ b, b < 11 → a ≠ b → (TX1 a).2.1 ≠ (TX1 b).2.1 := by decide +kernel
theorem tyX1_ok : ∀ k, k < 11 → parseFieldDescriptor (TX1 k).2.2.1 = some (tyX1 k) := by decide +kernel
def RX2 : String := "Treeclerk$Folk"
def TX2 : u_T := fun k => match k with
  | 0 => ("Treeclerk$Folk", "birthDays", "[I", true)
  | 1 => ("Treeclerk$Folk", "deathDays", "[I", true)
  | 2 => ("Treeclerk$Folk", "oldestFirst", "[I", true)
  | 3 => ("Treeclerk$Folk", "count", "I", false)
  | _ => ("Treeclerk$Folk", "deadSet", "I", false)
def tyX2 : Nat → FieldType := fun k => match k with
  | 0 => .array .int
  | 1 => .array .int
  | 2 => .array .int
  | 3 => .int
  | _ => .int
abbrev wsX20 : List Cond := u_ws RX2 TX2 5
theorem nmX2 : ∀ a, a < 5 → ∀ b, b < 5 → a ≠ b → (TX2 a).2.1 ≠ (TX2 b).2.1 := by decide +kernel
theorem tyX2_ok : ∀ k, k < 5 → parseFieldDescriptor (TX2 k).2.2.1 = some (tyX2 k) := by decide +kernel
def RX3 : String := "Treeclerk$Kin"
def TX3 : u_T := fun k => match k with
  | 0 => ("Treeclerk$Kin", "firstParents", "[I", true)
  | 1 => ("Treeclerk$Kin", "secondParents", "[I", true)
  | 2 => ("Treeclerk$Kin", "childSets", "[I", true)
  | _ => ("Treeclerk$Kin", "strengths", "[I", true)
def tyX3 : Nat → FieldType := fun k => match k with
  | 0 => .array .int
  | 1 => .array .int
  | 2 => .array .int
  | _ => .array .int
abbrev wsX30 : List Cond := u_ws RX3 TX3 4
theorem nmX3 : ∀ a, a < 4 → ∀ b, b < 4 → a ≠ b → (TX3 a).2.1 ≠ (TX3 b).2.1 := by decide +kernel
theorem tyX3_ok : ∀ k, k < 4 → parseFieldDescriptor (TX3 k).2.2.1 = some (tyX3 k) := by decide +kernel
def RX4 : String := "Treeclerk$Land"
def TX4 : u_T := fun k => match k with
  | 0 => ("Treeclerk$Land", "givers", "[I", true)
  | 1 => ("Treeclerk$Land", "takers", "[I", true)
  | 2 => ("Treeclerk$Land", "froms", "[I", true)
  | 3 => ("Treeclerk$Land", "tos", "[I", true)
  | 4 => ("Treeclerk$Land", "closings", "[Z", true)
  | 5 => ("Treeclerk$Land", "deeds", "I", false)
  | 6 => ("Treeclerk$Land", "handings", "I", false)
  | 7 => ("Treeclerk$Land", "granted", "[Z", true)
  | 8 => ("Treeclerk$Land", "owners", "[I", true)
  | 9 => ("Treeclerk$Land", "otherOwners", "[I", true)
  | 10 => ("Treeclerk$Land", "ranked", "[I", true)
  | _ => ("Treeclerk$Land", "portions", "[I", true)
def tyX4 : Nat → FieldType := fun k => match k with
  | 0 => .array .int
  | 1 => .array .int
  | 2 => .array .int
  | 3 => .array .int
  | 4 => .array .boolean
  | 5 => .int
  | 6 => .int
  | 7 => .array .boolean
  | 8 => .array .int
  | 9 => .array .int
  | 10 => .array .int
  | _ => .array .int
abbrev wsX40 : List Cond := u_ws RX4 TX4 12
theorem nmX4 : ∀ a, a < 12 → ∀ b, b < 12 → a ≠ b → (TX4 a).2.1 ≠ (TX4 b).2.1 := by decide +kernel
theorem tyX4_ok : ∀ k, k < 12 → parseFieldDescriptor (TX4 k).2.2.1 = some (tyX4 k) := by decide +kernel
def RX5 : String := "Treeclerk$Proofs"
def TX5 : u_T := fun k => match k with
  | 0 => ("Treeclerk$Proofs", "parents", "[I", true)
  | 1 => ("Treeclerk$Proofs", "children", "[I", true)
  | 2 => ("Treeclerk$Proofs", "weights", "[I", true)
  | 3 => ("Treeclerk$Proofs", "openWeights", "[I", true)
  | 4 => ("Treeclerk$Proofs", "fallen", "[Z", true)
  | 5 => ("Treeclerk$Proofs", "count", "I", false)
  | 6 => ("Treeclerk$Proofs", "doubtedProofs", "[I", true)
  | 7 => ("Treeclerk$Proofs", "doubtWeights", "[I", true)
  | 8 => ("Treeclerk$Proofs", "open", "[Z", true)
  | _ => ("Treeclerk$Proofs", "doubtCount", "I", false)
def tyX5 : Nat → FieldType := fun k => match k with
  | 0 => .array .int
  | 1 => .array .int
  | 2 => .array .int
  | 3 => .array .int
  | 4 => .array .boolean
  | 5 => .int
  | 6 => .array .int
  | 7 => .array .int
  | 8 => .array .boolean
  | _ => .int
abbrev wsX50 : List Cond := u_ws RX5 TX5 10
theorem nmX5 : ∀ a, a < 10 → ∀ b, b < 10 → a ≠ b → (TX5 a).2.1 ≠ (TX5 b).2.1 := by decide +kernel
theorem tyX5_ok : ∀ k, k < 10 → parseFieldDescriptor (TX5 k).2.2.1 = some (tyX5 k) := by decide +kernel
def RX6 : String := "Treeclerk$Shares"
def TX6 : u_T := fun k => match k with
  | 0 => ("Treeclerk$Shares", "above", "[J", true)
  | _ => ("Treeclerk$Shares", "below", "[J", true)
def tyX6 : Nat → FieldType := fun k => match k with
  | 0 => .array .long
  | _ => .array .long
abbrev wsX60 : List Cond := u_ws RX6 TX6 2
theorem nmX6 : ∀ a, a < 2 → ∀ b, b < 2 → a ≠ b → (TX6 a).2.1 ≠ (TX6 b).2.1 := by decide +kernel
theorem tyX6_ok : ∀ k, k < 2 → parseFieldDescriptor (TX6 k).2.2.1 = some (tyX6 k) := by decide +kernel
def RX7 : String := "Treeclerk"
def TX7 : u_T := fun k => match k with
  | 0 => ("Treeclerk", "folk", "LTreeclerk$Folk;", true)
  | 1 => ("Treeclerk", "proofs", "LTreeclerk$Proofs;", true)
  | 2 => ("Treeclerk", "kin", "LTreeclerk$Kin;", true)
  | 3 => ("Treeclerk", "supposedKin", "LTreeclerk$Kin;", true)
  | 4 => ("Treeclerk", "estates", "[LTreeclerk$Estate;", true)
  | 5 => ("Treeclerk", "court", "LTreeclerk$Court;", true)
  | 6 => ("Treeclerk", "land", "LTreeclerk$Land;", true)
  | 7 => ("Treeclerk", "found", "LTreeclerk$Shares;", true)
  | 8 => ("Treeclerk", "supposedShares", "LTreeclerk$Shares;", true)
  | _ => ("Treeclerk", "today", "I", false)
def tyX7 : Nat → FieldType := fun k => match k with
  | 0 => .object "Treeclerk$Folk"
  | 1 => .object "Treeclerk$Proofs"
  | 2 => .object "Treeclerk$Kin"
  | 3 => .object "Treeclerk$Kin"
  | 4 => .array (.object "Treeclerk$Estate")
  | 5 => .object "Treeclerk$Court"
  | 6 => .object "Treeclerk$Land"
  | 7 => .object "Treeclerk$Shares"
  | 8 => .object "Treeclerk$Shares"
  | _ => .int
abbrev wsX70 : List Cond := u_ws RX7 TX7 10
theorem nmX7 : ∀ a, a < 10 → ∀ b, b < 10 → a ≠ b → (TX7 a).2.1 ≠ (TX7 b).2.1 := by decide +kernel
theorem tyX7_ok : ∀ k, k < 10 → parseFieldDescriptor (TX7 k).2.2.1 = some (tyX7 k) := by decide +kernel
def RX8 : String := "TreeclerkModel"
def TX8 : u_T := fun k => match k with
  | _ => ("", "", "", false)
def tyX8 : Nat → FieldType := fun k => match k with
  | _ => .int
abbrev wsX80 : List Cond := u_ws RX8 TX8 0
theorem nmX8 : ∀ a, a < 0 → ∀ b, b < 0 → a ≠ b → (TX8 a).2.1 ≠ (TX8 b).2.1 := by decide +kernel
theorem tyX8_ok : ∀ k, k < 0 → parseFieldDescriptor (TX8 k).2.2.1 = some (tyX8 k) := by decide +kernel
def RJx145de : String := "java/io/Serializable"
def TJx145de : u_T := fun k => match k with
  | _ => ("", "", "", false)
def tyJx145de : Nat → FieldType := fun k => match k with
  | _ => .int
abbrev wsJx145de0 : List Cond := u_ws RJx145de TJx145de 0
theorem nmJx145de : ∀ a, a < 0 → ∀ b, b < 0 → a ≠ b → (TJx145de a).2.1 ≠ (TJx145de b).2.1 := by decide +kernel
theorem tyJx145de_ok : ∀ k, k < 0 → parseFieldDescriptor (TJx145de k).2.2.1 = some (tyJx145de k) := by decide +kernel
def RJ6 : String := "java/lang/Integer"
def TJ6 : u_T := fun k => match k with
  | _ => ("", "", "", false)
def tyJ6 : Nat → FieldType := fun k => match k with
  | _ => .int
abbrev wsJ60 : List Cond := u_ws RJ6 TJ6 0
theorem nmJ6 : ∀ a, a < 0 → ∀ b, b < 0 → a ≠ b → (TJ6 a).2.1 ≠ (TJ6 b).2.1 := by decide +kernel
theorem tyJ6_ok : ∀ k, k < 0 → parseFieldDescriptor (TJ6 k).2.2.1 = some (tyJ6 k) := by decide +kernel
abbrev vwCl : List vw_C := [(RX0, TX0, 5), (RX1, TX1, 11), (RX2, TX2, 5), (RX3, TX3, 4), (RX4, TX4, 12), (RX5, TX5, 10), (RX6, TX6, 2), (RX7, TX7, 10)]
end
section
/-! TABLES by program out of the listing: classes by their place in vwCl (0 to 8), 9: the law, 10 Integer, 11 Math, 12 Arrays; exceptions: 0 IndexOutOfBounds, 1 IllegalArgument, 2 IllegalState, 3 NoSuchElement -/
def gh_ft : List (List (Nat × Nat × Nat)) := [[(12, 0, 0), (18, 0, 1), (22, 0, 2), (25, 0, 3), (28, 0, 4), (42, 2, 3), (98, 1, 4), (104, 1, 5), (107, 2, 4), (114, 1, 0)], [(9, 1, 1), (15, 1, 2), (18, 1, 3), (22, 1, 4), (26, 1, 5), (29, 1, 6), (32, 1, 7), (38, 1, 8), (42, 1, 9), (45, 1, 10), (48, 1, 0)], [(9, 2, 0), (15, 2, 1), (18, 2, 2), (21, 2, 3), (25, 2, 4)], [(9, 3, 0), (15, 3, 1), (18, 3, 2), (21, 3, 3), (51, 5, 5), (57, 5, 0), (60, 5, 1)], [(9, 4, 0), (15, 4, 1), (18, 4, 2), (21, 4, 3), (24, 4, 4), (28, 4, 5), (32, 4, 6), (35, 4, 7), (38, 4, 8), (41, 4, 9), (44, 4, 10), (47, 4, 11), (77, 1, 0), (96, 1, 10), (99, 1, 9), (107, 1, 8)], [(9, 5, 0), (15, 5, 1), (18, 5, 2), (21, 5, 3), (24, 5, 4), (28, 5, 5), (32, 5, 6), (35, 5, 7), (38, 5, 8), (41, 5, 9)], [(9, 6, 0), (15, 6, 1)], [(12, 7, 0), (19, 7, 1), (26, 7, 2), (30, 7, 3), (35, 7, 4), (42, 7, 5), (49, 7, 6), (56, 7, 7), (60, 7, 8), (63, 7, 9), (84, 2, 3), (103, 1, 4), (123, 5, 5), (142, 5, 9), (200, 1, 3), (203, 1, 8), (210, 2, 4), (213, 1, 5), (220, 1, 6), (247, 1, 7), (267, 4, 6), (282, 1, 9)], [], [], [], [], []]
def gh_mrt : List (List (Nat × Nat × Nat)) := [[(11, 68, 1), (31, 7, 4), (110, 8, 4), (121, 26, 2), (47, 28, 2), (51, 123, 2), (124, 25, 2), (67, 32, 2), (117, 9, 3), (127, 33, 2), (88, 30, 2), (95, 31, 2), (35, 69, 1), (38, 6, 2), (75, 124, 1), (80, 73, 4), (55, 71, 2), (59, 2, 3), (72, 72, 2), (63, 10, 3), (130, 11, 3), (134, 13, 2), (84, 4, 4), (91, 5, 5)], [(37, 68, 1), (55, 18, 2), (58, 20, 4), (66, 71, 2), (62, 15, 2), (51, 13, 2)], [(28, 25, 2), (32, 123, 2)], [(24, 125, 2), (30, 30, 2), (34, 34, 1), (37, 31, 2), (40, 36, 4), (63, 67, 2), (44, 37, 2), (47, 38, 3)], [(50, 125, 2), (70, 48, 5), (82, 52, 2), (103, 53, 4), (110, 19, 3), (62, 57, 4), (114, 55, 4), (121, 74, 3), (118, 54, 3), (86, 56, 2), (74, 51, 3), (66, 40, 2)], [(44, 63, 2), (48, 64, 2), (51, 62, 2)], [(18, 126, 2), (30, 77, 2), (34, 72, 2), (38, 71, 2)], [(11, 21, 1), (18, 58, 1), (25, 29, 1), (41, 0, 1), (48, 39, 1), (55, 68, 1), (67, 12, 2), (89, 22, 2), (93, 110, 2), (96, 116, 2), (111, 24, 2), (99, 23, 3), (107, 17, 2), (185, 117, 2), (188, 118, 2), (206, 1, 5), (216, 47, 2), (223, 75, 1), (134, 111, 2), (114, 113, 3), (137, 65, 2), (147, 60, 3), (130, 121, 1), (318, 35, 3), (326, 122, 2), (322, 76, 2), (338, 70, 2), (335, 49, 3), (156, 64, 2), (161, 61, 3), (192, 15, 2), (197, 16, 2), (117, 27, 3), (126, 59, 4), (179, 114, 3), (182, 14, 3), (250, 115, 3), (253, 41, 3), (258, 45, 4), (262, 42, 4), (272, 46, 5), (279, 40, 2), (289, 43, 2), (276, 112, 2), (297, 44, 2), (170, 30, 2), (173, 31, 2), (176, 32, 2), (226, 119, 2), (240, 66, 2), (243, 120, 4), (165, 67, 2), (237, 3, 5), (285, 50, 3), (230, 71, 2), (234, 72, 2)], [], [(138, 78, 1), (108, 80, 1), (142, 127, 2), (139, 128, 3), (8, 79, 2), (14, 81, 2), (17, 82, 2), (20, 95, 2), (150, 129, 4), (29, 86, 3), (33, 87, 3), (37, 93, 3), (146, 130, 5), (40, 85, 4), (44, 92, 4), (47, 103, 4), (154, 131, 5), (50, 104, 5), (156, 136, 4), (112, 83, 1), (115, 89, 1), (118, 108, 1), (121, 135, 2), (103, 109, 2), (127, 134, 3), (100, 90, 3), (131, 133, 3), (66, 84, 2), (70, 91, 2), (73, 94, 2), (76, 96, 2), (79, 100, 2), (82, 101, 2), (85, 102, 2), (88, 107, 2), (91, 88, 2), (94, 105, 2), (97, 106, 2), (134, 132, 4), (54, 97, 3), (58, 98, 3), (61, 99, 3)], [], [], []]
def gh_crt : List (List (Nat × Nat)) := [[(9, 6)], [(35, 6)], [], [], [], [], [], [(9, 2), (16, 5), (23, 3), (33, 1), (39, 0), (46, 4), (53, 6)], [], [(9, 7)], [], [], []]
def gh_xrt : List (List (Nat × Nat)) := [[], [], [], [], [], [], [], [(70, 1), (77, 2), (151, 0), (292, 3)], [], [(23, 0), (25, 1), (27, 2), (106, 3)], [], [], []]
def gh_ert : List (List Nat) := [[], [], [], [], [], [], [], [33], [], [], [], [], []]
def gh_ort : List (List Nat) := [[3], [3], [3], [3], [3], [3], [3], [3], [], [], [], [], []]
def gh_art : List (List Nat) := [[], [], [], [], [90], [], [24], [], [], [], [], [], []]
def gh_trt : List (List (Nat × Nat)) := [[], [], [], [(66, 0)], [(56, 0)], [(55, 0)], [], [(330, 1)], [], [], [], [], []]
def gh_irt : List (List (Nat × Int32)) := [[], [], [], [], [], [], [], [], [], [(7, 1073741823)], [(265, 1431655765), (266, 858993459), (267, 252645135)], [], []]
def gh_jrt : List (List (Nat × Int64)) := [[], [], [], [], [], [], [], [], [], [(64, -8)], [], [], []]
def gh_fR (own idx : Nat) : Option (Nat × Nat) := (gh_ft.getD own []).lookup idx
def gh_mR (own idx : Nat) : Option (Nat × Nat) := (gh_mrt.getD own []).lookup idx
def gh_cR (own idx : Nat) : Option Nat := (gh_crt.getD own []).lookup idx
def gh_xR (own idx : Nat) : Option Nat := (gh_xrt.getD own []).lookup idx
def gh_eR (own idx : Nat) : Bool := (gh_ert.getD own []).contains idx
def gh_oR (own idx : Nat) : Bool := (gh_ort.getD own []).contains idx
def gh_aR (own idx : Nat) : Bool := (gh_art.getD own []).contains idx
def gh_tR (own idx : Nat) : Option Nat := (gh_trt.getD own []).lookup idx
def gh_iR (own idx : Nat) : Option Int32 := (gh_irt.getD own []).lookup idx
def gh_jR (own idx : Nat) : Option Int64 := (gh_jrt.getD own []).lookup idx
def gh_fty (ci k : Nat) : FieldType := match ci with
  | 0 => tyX0 k
  | 1 => tyX1 k
  | 2 => tyX2 k
  | 3 => tyX3 k
  | 4 => tyX4 k
  | 5 => tyX5 k
  | 6 => tyX6 k
  | 7 => tyX7 k
  | _ => tyX8 k
/-- Treeclerk$Court.<init>()V -/
def gk_0 : List (Nat × Instr × Nat) := [(0, .aload_n 0, 1), (1, .invokespecial 3, 3), (4, .aload_n 0, 1), (5, .new 9, 3), (8, .dup, 1), (9, .invokespecial 11, 3), (12, .putfield 12, 3), (15, .aload_n 0, 1), (16, .iconst 0, 1), (17, .putfield 18, 3), (20, .aload_n 0, 1), (21, .iconst 0, 1), (22, .putfield 22, 3), (25, .aload_n 0, 1), (26, .iconst 0, 1), (27, .putfield 25, 3), (30, .aload_n 0, 1), (31, .iconst 0, 1), (32, .putfield 28, 3), (35, .return_, 1)]
/-- Treeclerk$Court.shareFromHeads(LTreeclerk$Folk;LTreeclerk$Kin;LTreeclerk$Estate;LTreeclerk$Shares;)V -/
def gk_1 : List (Nat × Instr × Nat) := [(0, .aload_n 0, 1), (1, .aload_n 1, 1), (2, .aload_n 2, 1), (3, .aload_n 3, 1), (4, .invokevirtual 31, 3), (7, .aload_n 0, 1), (8, .getfield 12, 3), (11, .invokevirtual 35, 3), (14, .iconst 0, 1), (15, .istore 5, 2), (17, .iload 5, 2), (19, .bipush 14, 2), (21, .if_icmp .ge 15, 3), (24, .aload_n 0, 1), (25, .iload 5, 2), (27, .invokevirtual 38, 3), (30, .iinc 5 1, 3), (33, .goto (-16), 3), (36, .iconst 0, 1), (37, .istore 5, 2), (39, .iload 5, 2), (41, .aload_n 1, 1), (42, .getfield 42, 3), (45, .if_icmp .ge 50, 3), (48, .aload_n 1, 1), (49, .iload 5, 2), (51, .invokevirtual 47, 3), (54, .istore 6, 2), (56, .aload_n 0, 1), (57, .getfield 18, 3), (60, .iload 6, 2), (62, .invokestatic 51, 3), (65, .ifCond .ne 24, 3), (68, .aload_n 0, 1), (69, .getfield 12, 3), (72, .iload 6, 2), (74, .invokevirtual 55, 3), (77, .lconst 0, 1), (78, .lcmp, 1), (79, .ifCond .le 10, 3), (82, .aload_n 0, 1), (83, .iload 6, 2), (85, .aload_n 2, 1), (86, .invokevirtual 59, 3), (89, .iinc 5 1, 3), (92, .goto (-53), 3), (95, .aload_n 0, 1), (96, .aload_n 3, 1), (97, .aload 4, 2), (99, .invokevirtual 63, 3), (102, .return_, 1)]
/-- Treeclerk$Court.passOn(ILTreeclerk$Kin;)V -/
def gk_2 : List (Nat × Instr × Nat) := [(0, .aload_n 2, 1), (1, .iload_n 1, 1), (2, .invokevirtual 67, 3), (5, .aload_n 0, 1), (6, .getfield 22, 3), (9, .iand, 1), (10, .istore_n 3, 1), (11, .aload_n 0, 1), (12, .getfield 12, 3), (15, .iload_n 1, 1), (16, .invokevirtual 72, 3), (19, .iload_n 3, 1), (20, .invokestatic 75, 3), (23, .i2l, 1), (24, .lmul, 1), (25, .lstore 4, 2), (27, .iconst 0, 1), (28, .istore 6, 2), (30, .iload 6, 2), (32, .bipush 14, 2), (34, .if_icmp .ge 37, 3), (37, .iload_n 3, 1), (38, .iload 6, 2), (40, .invokestatic 51, 3), (43, .ifCond .eq 22, 3), (46, .aload_n 0, 1), (47, .getfield 12, 3), (50, .iload 6, 2), (52, .aload_n 0, 1), (53, .getfield 12, 3), (56, .iload_n 1, 1), (57, .invokevirtual 55, 3), (60, .lload 4, 2), (62, .invokevirtual 80, 3), (65, .iinc 6 1, 3), (68, .goto (-38), 3), (71, .return_, 1)]
/-- Treeclerk$Court.shareFromPersons(LTreeclerk$Folk;LTreeclerk$Kin;LTreeclerk$Estate;LTreeclerk$Shares;)V -/
def gk_3 : List (Nat × Instr × Nat) := [(0, .aload_n 0, 1), (1, .aload_n 1, 1), (2, .aload_n 2, 1), (3, .aload_n 3, 1), (4, .invokevirtual 31, 3), (7, .aload_n 0, 1), (8, .getfield 12, 3), (11, .invokevirtual 35, 3), (14, .aload_n 0, 1), (15, .iconst 0, 1), (16, .putfield 28, 3), (19, .iconst 0, 1), (20, .istore 5, 2), (22, .iload 5, 2), (24, .aload_n 1, 1), (25, .getfield 42, 3), (28, .if_icmp .ge 29, 3), (31, .aload_n 0, 1), (32, .getfield 18, 3), (35, .iload 5, 2), (37, .invokestatic 51, 3), (40, .ifCond .eq 11, 3), (43, .aload_n 0, 1), (44, .iload 5, 2), (46, .aload_n 2, 1), (47, .iconst 0, 1), (48, .invokevirtual 84, 3), (51, .iinc 5 1, 3), (54, .goto (-32), 3), (57, .aload_n 0, 1), (58, .aload_n 3, 1), (59, .aload 4, 2), (61, .invokevirtual 63, 3), (64, .return_, 1)]
/-- Treeclerk$Court.findComing(ILTreeclerk$Kin;I)V -/
def gk_4 : List (Nat × Instr × Nat) := [(0, .iload_n 3, 1), (1, .bipush 14, 2), (3, .if_icmp .ge 25, 3), (6, .aload_n 0, 1), (7, .getfield 28, 3), (10, .iload_n 1, 1), (11, .invokestatic 51, 3), (14, .ifCond .ne 14, 3), (17, .aload_n 0, 1), (18, .getfield 22, 3), (21, .iload_n 1, 1), (22, .invokestatic 51, 3), (25, .ifCond .ne 4, 3), (28, .return_, 1), (29, .aload_n 0, 1), (30, .dup, 1), (31, .getfield 28, 3), (34, .iconst 1, 1), (35, .iload_n 1, 1), (36, .ishl, 1), (37, .ior, 1), (38, .putfield 28, 3), (41, .aload_n 0, 1), (42, .iload_n 1, 1), (43, .invokevirtual 38, 3), (46, .aload_n 0, 1), (47, .aload_n 2, 1), (48, .iload_n 1, 1), (49, .invokevirtual 88, 3), (52, .iload_n 1, 1), (53, .aload_n 2, 1), (54, .iload_n 3, 1), (55, .invokevirtual 91, 3), (58, .aload_n 0, 1), (59, .aload_n 2, 1), (60, .iload_n 1, 1), (61, .invokevirtual 95, 3), (64, .iload_n 1, 1), (65, .aload_n 2, 1), (66, .iload_n 3, 1), (67, .invokevirtual 91, 3), (70, .return_, 1)]
/-- Treeclerk$Court.addPartOf(IILTreeclerk$Kin;I)V -/
def gk_5 : List (Nat × Instr × Nat) := [(0, .iload_n 1, 1), (1, .iconst (-1), 1), (2, .if_icmp .eq 14, 3), (5, .aload_n 0, 1), (6, .getfield 18, 3), (9, .iload_n 1, 1), (10, .invokestatic 51, 3), (13, .ifCond .eq 4, 3), (16, .return_, 1), (17, .aload_n 0, 1), (18, .iload_n 1, 1), (19, .aload_n 3, 1), (20, .iload 4, 2), (22, .iconst 1, 1), (23, .iadd, 1), (24, .invokevirtual 84, 3), (27, .aload_n 3, 1), (28, .iload_n 1, 1), (29, .invokevirtual 67, 3), (32, .aload_n 0, 1), (33, .getfield 22, 3), (36, .iand, 1), (37, .invokestatic 75, 3), (40, .istore 5, 2), (42, .aload_n 0, 1), (43, .getfield 12, 3), (46, .iload_n 2, 1), (47, .aload_n 0, 1), (48, .getfield 12, 3), (51, .iload_n 1, 1), (52, .invokevirtual 55, 3), (55, .aload_n 0, 1), (56, .getfield 12, 3), (59, .iload_n 1, 1), (60, .invokevirtual 72, 3), (63, .iload 5, 2), (65, .i2l, 1), (66, .lmul, 1), (67, .invokevirtual 80, 3), (70, .return_, 1)]
/-- Treeclerk$Court.addAsHead(I)V -/
def gk_6 : List (Nat × Instr × Nat) := [(0, .aload_n 0, 1), (1, .getfield 25, 3), (4, .iload_n 1, 1), (5, .invokestatic 51, 3), (8, .ifCond .eq 20, 3), (11, .aload_n 0, 1), (12, .getfield 12, 3), (15, .iload_n 1, 1), (16, .lconst 1, 1), (17, .aload_n 0, 1), (18, .getfield 25, 3), (21, .invokestatic 75, 3), (24, .i2l, 1), (25, .invokevirtual 80, 3), (28, .return_, 1)]
/-- Treeclerk$Court.lookAt(LTreeclerk$Folk;LTreeclerk$Kin;LTreeclerk$Estate;)V -/
def gk_7 : List (Nat × Instr × Nat) := [(0, .aload_n 0, 1), (1, .aload_n 3, 1), (2, .getfield 98, 3), (5, .ifCond .eq 10, 3), (8, .aload_n 3, 1), (9, .getfield 104, 3), (12, .goto 7, 3), (15, .aload_n 1, 1), (16, .getfield 107, 3), (19, .iconst (-1), 1), (20, .ixor, 1), (21, .putfield 18, 3), (24, .aload_n 0, 1), (25, .aload_n 0, 1), (26, .aload_n 1, 1), (27, .aload_n 2, 1), (28, .aload_n 3, 1), (29, .invokevirtual 110, 3), (32, .putfield 22, 3), (35, .aload_n 0, 1), (36, .aload_n 0, 1), (37, .aload_n 2, 1), (38, .aload_n 3, 1), (39, .getfield 114, 3), (42, .invokevirtual 117, 3), (45, .putfield 25, 3), (48, .return_, 1)]
/-- Treeclerk$Court.findLivingLines(LTreeclerk$Folk;LTreeclerk$Kin;LTreeclerk$Estate;)I -/
def gk_8 : List (Nat × Instr × Nat) := [(0, .iconst 0, 1), (1, .istore 4, 2), (3, .aload_n 1, 1), (4, .aload_n 3, 1), (5, .getfield 114, 3), (8, .invokevirtual 121, 3), (11, .istore 5, 2), (13, .aload_n 1, 1), (14, .getfield 42, 3), (17, .iconst 1, 1), (18, .isub, 1), (19, .istore 6, 2), (21, .iload 6, 2), (23, .ifCond .lt 73, 3), (26, .aload_n 1, 1), (27, .iload 6, 2), (29, .invokevirtual 47, 3), (32, .istore 7, 2), (34, .aload_n 0, 1), (35, .getfield 18, 3), (38, .iload 7, 2), (40, .invokestatic 51, 3), (43, .ifCond .eq 18, 3), (46, .aload_n 1, 1), (47, .iload 7, 2), (49, .invokevirtual 124, 3), (52, .iload 5, 2), (54, .if_icmp .gt 7, 3), (57, .iconst 1, 1), (58, .goto 4, 3), (61, .iconst 0, 1), (62, .istore 8, 2), (64, .iload 8, 2), (66, .ifCond .ne 15, 3), (69, .aload_n 2, 1), (70, .iload 7, 2), (72, .invokevirtual 67, 3), (75, .iload 4, 2), (77, .iand, 1), (78, .ifCond .eq 12, 3), (81, .iload 4, 2), (83, .iconst 1, 1), (84, .iload 7, 2), (86, .ishl, 1), (87, .ior, 1), (88, .istore 4, 2), (90, .iinc 6 (-1), 3), (93, .goto (-72), 3), (96, .iload 4, 2), (98, .ireturn, 1)]
/-- Treeclerk$Court.findHeads(LTreeclerk$Kin;I)I -/
def gk_9 : List (Nat × Instr × Nat) := [(0, .aload_n 0, 1), (1, .getfield 22, 3), (4, .iload_n 2, 1), (5, .invokestatic 51, 3), (8, .ifCond .eq 7, 3), (11, .iconst 1, 1), (12, .iload_n 2, 1), (13, .ishl, 1), (14, .ireturn, 1), (15, .aload_n 1, 1), (16, .iload_n 2, 1), (17, .invokevirtual 127, 3), (20, .istore_n 3, 1), (21, .iload_n 3, 1), (22, .aload_n 0, 1), (23, .getfield 22, 3), (26, .iand, 1), (27, .ifCond .eq 10, 3), (30, .iload_n 3, 1), (31, .aload_n 0, 1), (32, .getfield 22, 3), (35, .iand, 1), (36, .ireturn, 1), (37, .aload_n 1, 1), (38, .aload_n 1, 1), (39, .iload_n 2, 1), (40, .invokevirtual 88, 3), (43, .invokevirtual 127, 3), (46, .aload_n 1, 1), (47, .aload_n 1, 1), (48, .iload_n 2, 1), (49, .invokevirtual 95, 3), (52, .invokevirtual 127, 3), (55, .ior, 1), (56, .istore 4, 2), (58, .iload 4, 2), (60, .aload_n 0, 1), (61, .getfield 22, 3), (64, .iand, 1), (65, .ireturn, 1)]
/-- Treeclerk$Court.joinWithWill(LTreeclerk$Estate;LTreeclerk$Shares;)V -/
def gk_10 : List (Nat × Instr × Nat) := [(0, .iconst 0, 1), (1, .istore_n 3, 1), (2, .iconst 0, 1), (3, .istore 4, 2), (5, .iload 4, 2), (7, .bipush 14, 2), (9, .if_icmp .ge 19, 3), (12, .iload_n 3, 1), (13, .aload_n 0, 1), (14, .aload_n 1, 1), (15, .iload 4, 2), (17, .invokevirtual 130, 3), (20, .iadd, 1), (21, .istore_n 3, 1), (22, .iinc 4 1, 3), (25, .goto (-20), 3), (28, .iload_n 3, 1), (29, .ifCond .le 7, 3), (32, .iconst 1, 1), (33, .goto 4, 3), (36, .iconst 0, 1), (37, .istore 4, 2), (39, .iload 4, 2), (41, .ifCond .eq 17, 3), (44, .aload_n 0, 1), (45, .getfield 22, 3), (48, .aload_n 1, 1), (49, .getfield 114, 3), (52, .invokestatic 51, 3), (55, .ifCond .eq 7, 3), (58, .iconst 1, 1), (59, .goto 4, 3), (62, .iconst 0, 1), (63, .istore 5, 2), (65, .iload 4, 2), (67, .ifCond .eq 12, 3), (70, .iload 5, 2), (72, .ifCond .eq 7, 3), (75, .iconst 2, 1), (76, .goto 4, 3), (79, .iconst 1, 1), (80, .istore 6, 2), (82, .aload_n 2, 1), (83, .invokevirtual 35, 3), (86, .iconst 0, 1), (87, .istore 7, 2), (89, .iload 7, 2), (91, .bipush 14, 2), (93, .if_icmp .ge 79, 3), (96, .iload 4, 2), (98, .ifCond .eq 23, 3), (101, .aload_n 2, 1), (102, .iload 7, 2), (104, .aload_n 0, 1), (105, .aload_n 1, 1), (106, .iload 7, 2), (108, .invokevirtual 130, 3), (111, .i2l, 1), (112, .iload_n 3, 1), (113, .i2l, 1), (114, .iload 6, 2), (116, .i2l, 1), (117, .lmul, 1), (118, .invokevirtual 80, 3), (121, .iload 5, 2), (123, .ifCond .eq 43, 3), (126, .aload_n 0, 1), (127, .getfield 18, 3), (130, .iload 7, 2), (132, .invokestatic 51, 3), (135, .ifCond .eq 31, 3), (138, .aload_n 2, 1), (139, .iload 7, 2), (141, .aload_n 0, 1), (142, .getfield 12, 3), (145, .iload 7, 2), (147, .invokevirtual 55, 3), (150, .aload_n 0, 1), (151, .getfield 12, 3), (154, .iload 7, 2), (156, .invokevirtual 72, 3), (159, .iload 6, 2), (161, .i2l, 1), (162, .lmul, 1), (163, .invokevirtual 80, 3), (166, .iinc 7 1, 3), (169, .goto (-80), 3), (172, .return_, 1)]
/-- Treeclerk$Court.weightFor(LTreeclerk$Estate;I)I -/
def gk_11 : List (Nat × Instr × Nat) := [(0, .aload_n 0, 1), (1, .getfield 18, 3), (4, .iload_n 2, 1), (5, .invokestatic 51, 3), (8, .ifCond .eq 11, 3), (11, .aload_n 1, 1), (12, .iload_n 2, 1), (13, .invokevirtual 134, 3), (16, .goto 4, 3), (19, .iconst 0, 1), (20, .ireturn, 1)]
/-- Treeclerk$Estate.<init>(I)V -/
def gk_12 : List (Nat × Instr × Nat) := [(0, .aload_n 0, 1), (1, .invokespecial 3, 3), (4, .aload_n 0, 1), (5, .bipush 14, 2), (7, .newarray .int, 2), (9, .putfield 9, 3), (12, .aload_n 0, 1), (13, .bipush 14, 2), (15, .newarray .int, 2), (17, .putfield 15, 3), (20, .aload_n 0, 1), (21, .iconst 0, 1), (22, .putfield 18, 3), (25, .aload_n 0, 1), (26, .iconst 0, 1), (27, .putfield 22, 3), (30, .aload_n 0, 1), (31, .iconst 0, 1), (32, .putfield 26, 3), (35, .aload_n 0, 1), (36, .sipush 134, 3), (39, .putfield 29, 3), (42, .aload_n 0, 1), (43, .iconst 0, 1), (44, .putfield 32, 3), (47, .aload_n 0, 1), (48, .new 35, 3), (51, .dup, 1), (52, .invokespecial 37, 3), (55, .putfield 38, 3), (58, .aload_n 0, 1), (59, .new 35, 3), (62, .dup, 1), (63, .invokespecial 37, 3), (66, .putfield 42, 3), (69, .aload_n 0, 1), (70, .bipush 60, 2), (72, .newarray .int, 2), (74, .putfield 45, 3), (77, .aload_n 0, 1), (78, .iload_n 1, 1), (79, .putfield 48, 3), (82, .return_, 1)]
/-- Treeclerk$Estate.weightOf(I)I -/
def gk_13 : List (Nat × Instr × Nat) := [(0, .iload_n 1, 1), (1, .ifCond .lt 18, 3), (4, .iload_n 1, 1), (5, .bipush 14, 2), (7, .if_icmp .ge 12, 3), (10, .aload_n 0, 1), (11, .getfield 9, 3), (14, .iload_n 1, 1), (15, .iaload, 1), (16, .goto 4, 3), (19, .iconst 0, 1), (20, .ireturn, 1)]
/-- Treeclerk$Estate.setWeight(II)I -/
def gk_14 : List (Nat × Instr × Nat) := [(0, .aload_n 0, 1), (1, .iload_n 1, 1), (2, .invokevirtual 51, 3), (5, .istore_n 3, 1), (6, .iload_n 1, 1), (7, .ifCond .lt 16, 3), (10, .iload_n 1, 1), (11, .bipush 14, 2), (13, .if_icmp .ge 10, 3), (16, .aload_n 0, 1), (17, .getfield 9, 3), (20, .iload_n 1, 1), (21, .iload_n 2, 1), (22, .iastore, 1), (23, .iload_n 3, 1), (24, .ireturn, 1)]
/-- Treeclerk$Estate.hasClaimOf(I)Z -/
def gk_15 : List (Nat × Instr × Nat) := [(0, .aload_n 0, 1), (1, .iload_n 1, 1), (2, .invokevirtual 55, 3), (5, .iconst (-1), 1), (6, .if_icmp .eq 7, 3), (9, .iconst 1, 1), (10, .goto 4, 3), (13, .iconst 0, 1), (14, .ireturn, 1)]
/-- Treeclerk$Estate.addClaim(I)V -/
def gk_16 : List (Nat × Instr × Nat) := [(0, .aload_n 0, 1), (1, .getfield 18, 3), (4, .bipush 14, 2), (6, .if_icmp .ge 23, 3), (9, .aload_n 0, 1), (10, .getfield 15, 3), (13, .aload_n 0, 1), (14, .getfield 18, 3), (17, .iload_n 1, 1), (18, .iastore, 1), (19, .aload_n 0, 1), (20, .dup, 1), (21, .getfield 18, 3), (24, .iconst 1, 1), (25, .iadd, 1), (26, .putfield 18, 3), (29, .return_, 1)]
/-- Treeclerk$Estate.dropClaim(I)Z -/
def gk_17 : List (Nat × Instr × Nat) := [(0, .aload_n 0, 1), (1, .iload_n 1, 1), (2, .invokevirtual 55, 3), (5, .istore_n 2, 1), (6, .iload_n 2, 1), (7, .iconst (-1), 1), (8, .if_icmp .ne 5, 3), (11, .iconst 0, 1), (12, .ireturn, 1), (13, .iload_n 2, 1), (14, .iconst 1, 1), (15, .iadd, 1), (16, .istore_n 3, 1), (17, .iload_n 3, 1), (18, .aload_n 0, 1), (19, .getfield 18, 3), (22, .if_icmp .ge 23, 3), (25, .aload_n 0, 1), (26, .getfield 15, 3), (29, .iload_n 3, 1), (30, .iconst 1, 1), (31, .isub, 1), (32, .aload_n 0, 1), (33, .getfield 15, 3), (36, .iload_n 3, 1), (37, .iaload, 1), (38, .iastore, 1), (39, .iinc 3 1, 3), (42, .goto (-25), 3), (45, .aload_n 0, 1), (46, .dup, 1), (47, .getfield 18, 3), (50, .iconst 1, 1), (51, .isub, 1), (52, .putfield 18, 3), (55, .iconst 1, 1), (56, .ireturn, 1)]
/-- Treeclerk$Estate.placeOf(I)I -/
def gk_18 : List (Nat × Instr × Nat) := [(0, .iconst 0, 1), (1, .istore_n 2, 1), (2, .iload_n 2, 1), (3, .aload_n 0, 1), (4, .getfield 18, 3), (7, .if_icmp .ge 21, 3), (10, .aload_n 0, 1), (11, .getfield 15, 3), (14, .iload_n 2, 1), (15, .iaload, 1), (16, .iload_n 1, 1), (17, .if_icmp .ne 5, 3), (20, .iload_n 2, 1), (21, .ireturn, 1), (22, .iinc 2 1, 3), (25, .goto (-23), 3), (28, .iconst (-1), 1), (29, .ireturn, 1)]
/-- Treeclerk$Estate.rankHeirs(LTreeclerk$Shares;[I)I -/
def gk_19 : List (Nat × Instr × Nat) := [(0, .iconst 0, 1), (1, .istore_n 3, 1), (2, .iconst 0, 1), (3, .istore 4, 2), (5, .iload 4, 2), (7, .aload_n 0, 1), (8, .getfield 18, 3), (11, .if_icmp .ge 23, 3), (14, .aload_n 0, 1), (15, .getfield 15, 3), (18, .iload 4, 2), (20, .iaload, 1), (21, .aload_n 1, 1), (22, .aload_n 2, 1), (23, .iload_n 3, 1), (24, .invokestatic 58, 3), (27, .istore_n 3, 1), (28, .iinc 4 1, 3), (31, .goto (-26), 3), (34, .iconst 0, 1), (35, .istore 4, 2), (37, .iload 4, 2), (39, .bipush 14, 2), (41, .if_icmp .ge 27, 3), (44, .aload_n 0, 1), (45, .iload 4, 2), (47, .invokevirtual 62, 3), (50, .ifCond .ne 12, 3), (53, .iload 4, 2), (55, .aload_n 1, 1), (56, .aload_n 2, 1), (57, .iload_n 3, 1), (58, .invokestatic 58, 3), (61, .istore_n 3, 1), (62, .iinc 4 1, 3), (65, .goto (-28), 3), (68, .iload_n 3, 1), (69, .ireturn, 1)]
/-- Treeclerk$Estate.rankNext(ILTreeclerk$Shares;[II)I -/
def gk_20 : List (Nat × Instr × Nat) := [(0, .aload_n 1, 1), (1, .iload_n 0, 1), (2, .invokevirtual 66, 3), (5, .lconst 0, 1), (6, .lcmp, 1), (7, .ifCond .eq 9, 3), (10, .iload_n 3, 1), (11, .aload_n 2, 1), (12, .arraylength, 1), (13, .if_icmp .lt 5, 3), (16, .iload_n 3, 1), (17, .ireturn, 1), (18, .aload_n 2, 1), (19, .iload_n 3, 1), (20, .iload_n 0, 1), (21, .iastore, 1), (22, .iload_n 3, 1), (23, .iconst 1, 1), (24, .iadd, 1), (25, .ireturn, 1)]
/-- Treeclerk$Folk.<init>()V -/
def gk_21 : List (Nat × Instr × Nat) := [(0, .aload_n 0, 1), (1, .invokespecial 3, 3), (4, .aload_n 0, 1), (5, .bipush 14, 2), (7, .newarray .int, 2), (9, .putfield 9, 3), (12, .aload_n 0, 1), (13, .bipush 14, 2), (15, .newarray .int, 2), (17, .putfield 15, 3), (20, .aload_n 0, 1), (21, .bipush 14, 2), (23, .newarray .int, 2), (25, .putfield 18, 3), (28, .aload_n 0, 1), (29, .iconst 0, 1), (30, .putfield 21, 3), (33, .aload_n 0, 1), (34, .iconst 0, 1), (35, .putfield 25, 3), (38, .return_, 1)]
/-- Treeclerk$Folk.enter(I)I -/
def gk_22 : List (Nat × Instr × Nat) := [(0, .aload_n 0, 1), (1, .getfield 21, 3), (4, .bipush 14, 2), (6, .if_icmp .lt 5, 3), (9, .iconst (-1), 1), (10, .ireturn, 1), (11, .aload_n 0, 1), (12, .getfield 21, 3), (15, .istore_n 2, 1), (16, .aload_n 0, 1), (17, .getfield 21, 3), (20, .istore_n 3, 1), (21, .aload_n 0, 1), (22, .getfield 9, 3), (25, .iload_n 2, 1), (26, .iload_n 1, 1), (27, .iastore, 1), (28, .iload_n 3, 1), (29, .ifCond .le 39, 3), (32, .aload_n 0, 1), (33, .aload_n 0, 1), (34, .getfield 18, 3), (37, .iload_n 3, 1), (38, .iconst 1, 1), (39, .isub, 1), (40, .iaload, 1), (41, .invokevirtual 28, 3), (44, .iload_n 1, 1), (45, .if_icmp .le 23, 3), (48, .aload_n 0, 1), (49, .getfield 18, 3), (52, .iload_n 3, 1), (53, .aload_n 0, 1), (54, .getfield 18, 3), (57, .iload_n 3, 1), (58, .iconst 1, 1), (59, .isub, 1), (60, .iaload, 1), (61, .iastore, 1), (62, .iinc 3 (-1), 3), (65, .goto (-37), 3), (68, .aload_n 0, 1), (69, .getfield 18, 3), (72, .iload_n 3, 1), (73, .iload_n 2, 1), (74, .iastore, 1), (75, .aload_n 0, 1), (76, .dup, 1), (77, .getfield 21, 3), (80, .iconst 1, 1), (81, .iadd, 1), (82, .putfield 21, 3), (85, .iload_n 2, 1), (86, .ireturn, 1)]
/-- Treeclerk$Folk.bury(II)V -/
def gk_23 : List (Nat × Instr × Nat) := [(0, .iload_n 1, 1), (1, .ifCond .lt 28, 3), (4, .iload_n 1, 1), (5, .bipush 14, 2), (7, .if_icmp .ge 22, 3), (10, .aload_n 0, 1), (11, .getfield 15, 3), (14, .iload_n 1, 1), (15, .iload_n 2, 1), (16, .iastore, 1), (17, .aload_n 0, 1), (18, .dup, 1), (19, .getfield 25, 3), (22, .iconst 1, 1), (23, .iload_n 1, 1), (24, .ishl, 1), (25, .ior, 1), (26, .putfield 25, 3), (29, .return_, 1)]
/-- Treeclerk$Folk.isDead(I)Z -/
def gk_24 : List (Nat × Instr × Nat) := [(0, .aload_n 0, 1), (1, .getfield 25, 3), (4, .iload_n 1, 1), (5, .invokestatic 32, 3), (8, .ireturn, 1)]
/-- Treeclerk$Folk.bornOn(I)I -/
def gk_25 : List (Nat × Instr × Nat) := [(0, .iload_n 1, 1), (1, .ifCond .lt 18, 3), (4, .iload_n 1, 1), (5, .bipush 14, 2), (7, .if_icmp .ge 12, 3), (10, .aload_n 0, 1), (11, .getfield 9, 3), (14, .iload_n 1, 1), (15, .iaload, 1), (16, .goto 4, 3), (19, .iconst 0, 1), (20, .ireturn, 1)]
/-- Treeclerk$Folk.diedOn(I)I -/
def gk_26 : List (Nat × Instr × Nat) := [(0, .iload_n 1, 1), (1, .ifCond .lt 18, 3), (4, .iload_n 1, 1), (5, .bipush 14, 2), (7, .if_icmp .ge 12, 3), (10, .aload_n 0, 1), (11, .getfield 15, 3), (14, .iload_n 1, 1), (15, .iaload, 1), (16, .goto 4, 3), (19, .iconst 0, 1), (20, .ireturn, 1)]
/-- Treeclerk$Folk.isOlder(II)Z -/
def gk_27 : List (Nat × Instr × Nat) := [(0, .aload_n 0, 1), (1, .iload_n 1, 1), (2, .invokevirtual 28, 3), (5, .aload_n 0, 1), (6, .iload_n 2, 1), (7, .invokevirtual 28, 3), (10, .if_icmp .ge 7, 3), (13, .iconst 1, 1), (14, .goto 4, 3), (17, .iconst 0, 1), (18, .ireturn, 1)]
/-- Treeclerk$Folk.byAge(I)I -/
def gk_28 : List (Nat × Instr × Nat) := [(0, .iload_n 1, 1), (1, .ifCond .lt 18, 3), (4, .iload_n 1, 1), (5, .bipush 14, 2), (7, .if_icmp .ge 12, 3), (10, .aload_n 0, 1), (11, .getfield 18, 3), (14, .iload_n 1, 1), (15, .iaload, 1), (16, .goto 4, 3), (19, .iconst (-1), 1), (20, .ireturn, 1)]
/-- Treeclerk$Kin.<init>()V -/
def gk_29 : List (Nat × Instr × Nat) := [(0, .aload_n 0, 1), (1, .invokespecial 3, 3), (4, .aload_n 0, 1), (5, .bipush 14, 2), (7, .newarray .int, 2), (9, .putfield 9, 3), (12, .aload_n 0, 1), (13, .bipush 14, 2), (15, .newarray .int, 2), (17, .putfield 15, 3), (20, .aload_n 0, 1), (21, .bipush 14, 2), (23, .newarray .int, 2), (25, .putfield 18, 3), (28, .aload_n 0, 1), (29, .bipush 14, 2), (31, .newarray .int, 2), (33, .putfield 21, 3), (36, .aload_n 0, 1), (37, .getfield 9, 3), (40, .iconst (-1), 1), (41, .invokestatic 24, 3), (44, .aload_n 0, 1), (45, .getfield 15, 3), (48, .iconst (-1), 1), (49, .invokestatic 24, 3), (52, .return_, 1)]
/-- Treeclerk$Kin.firstParent(I)I -/
def gk_30 : List (Nat × Instr × Nat) := [(0, .iload_n 1, 1), (1, .ifCond .lt 18, 3), (4, .iload_n 1, 1), (5, .bipush 14, 2), (7, .if_icmp .ge 12, 3), (10, .aload_n 0, 1), (11, .getfield 9, 3), (14, .iload_n 1, 1), (15, .iaload, 1), (16, .goto 4, 3), (19, .iconst (-1), 1), (20, .ireturn, 1)]
/-- Treeclerk$Kin.secondParent(I)I -/
def gk_31 : List (Nat × Instr × Nat) := [(0, .iload_n 1, 1), (1, .ifCond .lt 18, 3), (4, .iload_n 1, 1), (5, .bipush 14, 2), (7, .if_icmp .ge 12, 3), (10, .aload_n 0, 1), (11, .getfield 15, 3), (14, .iload_n 1, 1), (15, .iaload, 1), (16, .goto 4, 3), (19, .iconst (-1), 1), (20, .ireturn, 1)]
/-- Treeclerk$Kin.childSet(I)I -/
def gk_32 : List (Nat × Instr × Nat) := [(0, .iload_n 1, 1), (1, .ifCond .lt 18, 3), (4, .iload_n 1, 1), (5, .bipush 14, 2), (7, .if_icmp .ge 12, 3), (10, .aload_n 0, 1), (11, .getfield 18, 3), (14, .iload_n 1, 1), (15, .iaload, 1), (16, .goto 4, 3), (19, .iconst 0, 1), (20, .ireturn, 1)]
/-- Treeclerk$Kin.parentSet(I)I -/
def gk_33 : List (Nat × Instr × Nat) := [(0, .aload_n 0, 1), (1, .iload_n 1, 1), (2, .invokevirtual 30, 3), (5, .invokestatic 34, 3), (8, .aload_n 0, 1), (9, .iload_n 1, 1), (10, .invokevirtual 37, 3), (13, .invokestatic 34, 3), (16, .ior, 1), (17, .ireturn, 1)]
/-- Treeclerk$Kin.setOf(I)I -/
def gk_34 : List (Nat × Instr × Nat) := [(0, .iload_n 0, 1), (1, .iconst (-1), 1), (2, .if_icmp .ne 7, 3), (5, .iconst 0, 1), (6, .goto 6, 3), (9, .iconst 1, 1), (10, .iload_n 0, 1), (11, .ishl, 1), (12, .ireturn, 1)]
/-- Treeclerk$Kin.tell(LTreeclerk$Proofs;I)V -/
def gk_35 : List (Nat × Instr × Nat) := [(0, .aload_n 0, 1), (1, .getfield 18, 3), (4, .iconst 0, 1), (5, .invokestatic 24, 3), (8, .iconst 0, 1), (9, .istore_n 3, 1), (10, .iload_n 3, 1), (11, .bipush 14, 2), (13, .if_icmp .ge 65, 3), (16, .aload_n 0, 1), (17, .aload_n 1, 1), (18, .iload_n 3, 1), (19, .iload_n 2, 1), (20, .invokevirtual 40, 3), (23, .aload_n 0, 1), (24, .getfield 9, 3), (27, .iload_n 3, 1), (28, .aload_n 0, 1), (29, .iconst (-1), 1), (30, .invokevirtual 44, 3), (33, .iastore, 1), (34, .aload_n 0, 1), (35, .getfield 15, 3), (38, .iload_n 3, 1), (39, .aload_n 0, 1), (40, .aload_n 0, 1), (41, .getfield 9, 3), (44, .iload_n 3, 1), (45, .iaload, 1), (46, .invokevirtual 44, 3), (49, .iastore, 1), (50, .aload_n 0, 1), (51, .aload_n 0, 1), (52, .getfield 9, 3), (55, .iload_n 3, 1), (56, .iaload, 1), (57, .iload_n 3, 1), (58, .invokevirtual 47, 3), (61, .aload_n 0, 1), (62, .aload_n 0, 1), (63, .getfield 15, 3), (66, .iload_n 3, 1), (67, .iaload, 1), (68, .iload_n 3, 1), (69, .invokevirtual 47, 3), (72, .iinc 3 1, 3), (75, .goto (-65), 3), (78, .return_, 1)]
/-- Treeclerk$Kin.weigh(LTreeclerk$Proofs;II)V -/
def gk_36 : List (Nat × Instr × Nat) := [(0, .aload_n 0, 1), (1, .getfield 21, 3), (4, .iconst 0, 1), (5, .invokestatic 24, 3), (8, .iconst 0, 1), (9, .istore 4, 2), (11, .iload 4, 2), (13, .aload_n 1, 1), (14, .getfield 51, 3), (17, .if_icmp .ge 70, 3), (20, .aload_n 1, 1), (21, .getfield 57, 3), (24, .iload 4, 2), (26, .iaload, 1), (27, .istore 5, 2), (29, .aload_n 1, 1), (30, .getfield 60, 3), (33, .iload 4, 2), (35, .iaload, 1), (36, .iload_n 2, 1), (37, .if_icmp .ne 44, 3), (40, .iload 4, 2), (42, .iload_n 3, 1), (43, .if_icmp .eq 38, 3), (46, .iload 5, 2), (48, .ifCond .lt 33, 3), (51, .iload 5, 2), (53, .bipush 14, 2), (55, .if_icmp .ge 26, 3), (58, .aload_n 0, 1), (59, .getfield 21, 3), (62, .iload 5, 2), (64, .aload_n 0, 1), (65, .getfield 21, 3), (68, .iload 5, 2), (70, .iaload, 1), (71, .aload_n 1, 1), (72, .iload 4, 2), (74, .invokevirtual 63, 3), (77, .invokestatic 66, 3), (80, .iastore, 1), (81, .iinc 4 1, 3), (84, .goto (-73), 3), (87, .return_, 1)]
/-- Treeclerk$Kin.strongestBut(I)I -/
def gk_37 : List (Nat × Instr × Nat) := [(0, .iconst (-1), 1), (1, .istore_n 2, 1), (2, .iconst 0, 1), (3, .istore_n 3, 1), (4, .iconst 0, 1), (5, .istore 4, 2), (7, .iload 4, 2), (9, .bipush 14, 2), (11, .if_icmp .ge 37, 3), (14, .iload 4, 2), (16, .iload_n 1, 1), (17, .if_icmp .eq 25, 3), (20, .aload_n 0, 1), (21, .getfield 21, 3), (24, .iload 4, 2), (26, .iaload, 1), (27, .iload_n 3, 1), (28, .if_icmp .le 14, 3), (31, .iload 4, 2), (33, .istore_n 2, 1), (34, .aload_n 0, 1), (35, .getfield 21, 3), (38, .iload 4, 2), (40, .iaload, 1), (41, .istore_n 3, 1), (42, .iinc 4 1, 3), (45, .goto (-38), 3), (48, .iload_n 2, 1), (49, .ireturn, 1)]
/-- Treeclerk$Kin.addChild(II)V -/
def gk_38 : List (Nat × Instr × Nat) := [(0, .iload_n 1, 1), (1, .ifCond .lt 21, 3), (4, .iload_n 1, 1), (5, .bipush 14, 2), (7, .if_icmp .ge 15, 3), (10, .aload_n 0, 1), (11, .getfield 18, 3), (14, .iload_n 1, 1), (15, .dup2, 1), (16, .iaload, 1), (17, .iconst 1, 1), (18, .iload_n 2, 1), (19, .ishl, 1), (20, .ior, 1), (21, .iastore, 1), (22, .return_, 1)]
/-- Treeclerk$Land.<init>()V -/
def gk_39 : List (Nat × Instr × Nat) := [(0, .aload_n 0, 1), (1, .invokespecial 3, 3), (4, .aload_n 0, 1), (5, .sipush 134, 3), (8, .newarray .int, 2), (10, .putfield 9, 3), (13, .aload_n 0, 1), (14, .sipush 134, 3), (17, .newarray .int, 2), (19, .putfield 15, 3), (22, .aload_n 0, 1), (23, .sipush 134, 3), (26, .newarray .int, 2), (28, .putfield 18, 3), (31, .aload_n 0, 1), (32, .sipush 134, 3), (35, .newarray .int, 2), (37, .putfield 21, 3), (40, .aload_n 0, 1), (41, .sipush 134, 3), (44, .newarray .boolean, 2), (46, .putfield 24, 3), (49, .aload_n 0, 1), (50, .iconst 0, 1), (51, .putfield 28, 3), (54, .aload_n 0, 1), (55, .iconst 0, 1), (56, .putfield 32, 3), (59, .aload_n 0, 1), (60, .bipush 60, 2), (62, .newarray .boolean, 2), (64, .putfield 35, 3), (67, .aload_n 0, 1), (68, .bipush 60, 2), (70, .newarray .int, 2), (72, .putfield 38, 3), (75, .aload_n 0, 1), (76, .bipush 60, 2), (78, .newarray .int, 2), (80, .putfield 41, 3), (83, .aload_n 0, 1), (84, .bipush 14, 2), (86, .newarray .int, 2), (88, .putfield 44, 3), (91, .aload_n 0, 1), (92, .bipush 14, 2), (94, .newarray .int, 2), (96, .putfield 47, 3), (99, .aload_n 0, 1), (100, .getfield 38, 3), (103, .iconst (-1), 1), (104, .invokestatic 50, 3), (107, .return_, 1)]
/-- Treeclerk$Land.keptOwner(I)I -/
def gk_40 : List (Nat × Instr × Nat) := [(0, .iload_n 1, 1), (1, .ifCond .lt 18, 3), (4, .iload_n 1, 1), (5, .bipush 60, 2), (7, .if_icmp .ge 12, 3), (10, .aload_n 0, 1), (11, .getfield 38, 3), (14, .iload_n 1, 1), (15, .iaload, 1), (16, .goto 4, 3), (19, .iconst (-1), 1), (20, .ireturn, 1)]
/-- Treeclerk$Land.isGrantedWithin(II)Z -/
def gk_41 : List (Nat × Instr × Nat) := [(0, .iload_n 1, 1), (1, .iconst 0, 1), (2, .invokestatic 56, 3), (5, .istore_n 3, 1), (6, .iload_n 3, 1), (7, .iload_n 2, 1), (8, .if_icmp .ge 26, 3), (11, .iload_n 3, 1), (12, .bipush 60, 2), (14, .if_icmp .ge 20, 3), (17, .aload_n 0, 1), (18, .getfield 35, 3), (21, .iload_n 3, 1), (22, .baload, 1), (23, .ifCond .eq 5, 3), (26, .iconst 1, 1), (27, .ireturn, 1), (28, .iinc 3 1, 3), (31, .goto (-25), 3), (34, .iconst 0, 1), (35, .ireturn, 1)]
/-- Treeclerk$Land.countUnits(III)I -/
def gk_42 : List (Nat × Instr × Nat) := [(0, .aload_n 0, 1), (1, .getfield 38, 3), (4, .iload_n 1, 1), (5, .iload_n 2, 1), (6, .iload_n 3, 1), (7, .invokestatic 62, 3), (10, .ireturn, 1)]
/-- Treeclerk$Land.parcelStart(I)I -/
def gk_43 : List (Nat × Instr × Nat) := [(0, .iload_n 1, 1), (1, .istore_n 2, 1), (2, .iload_n 2, 1), (3, .ifCond .le 24, 3), (6, .aload_n 0, 1), (7, .iload_n 2, 1), (8, .iconst 1, 1), (9, .isub, 1), (10, .invokevirtual 66, 3), (13, .aload_n 0, 1), (14, .iload_n 1, 1), (15, .invokevirtual 66, 3), (18, .if_icmp .ne 9, 3), (21, .iinc 2 (-1), 3), (24, .goto (-22), 3), (27, .iload_n 2, 1), (28, .ireturn, 1)]
/-- Treeclerk$Land.parcelEnd(I)I -/
def gk_44 : List (Nat × Instr × Nat) := [(0, .iload_n 1, 1), (1, .iconst 1, 1), (2, .iadd, 1), (3, .istore_n 2, 1), (4, .iload_n 2, 1), (5, .bipush 60, 2), (7, .if_icmp .ge 22, 3), (10, .aload_n 0, 1), (11, .iload_n 2, 1), (12, .invokevirtual 66, 3), (15, .aload_n 0, 1), (16, .iload_n 1, 1), (17, .invokevirtual 66, 3), (20, .if_icmp .ne 9, 3), (23, .iinc 2 1, 3), (26, .goto (-22), 3), (29, .iload_n 2, 1), (30, .ireturn, 1)]
/-- Treeclerk$Land.enterGrant(III)V -/
def gk_45 : List (Nat × Instr × Nat) := [(0, .iload_n 2, 1), (1, .iconst 0, 1), (2, .invokestatic 56, 3), (5, .istore 4, 2), (7, .iload 4, 2), (9, .iload_n 3, 1), (10, .if_icmp .ge 24, 3), (13, .iload 4, 2), (15, .bipush 60, 2), (17, .if_icmp .ge 17, 3), (20, .aload_n 0, 1), (21, .getfield 35, 3), (24, .iload 4, 2), (26, .iconst 1, 1), (27, .bastore, 1), (28, .iinc 4 1, 3), (31, .goto (-24), 3), (34, .aload_n 0, 1), (35, .aload_n 0, 1), (36, .getfield 38, 3), (39, .aload_n 0, 1), (40, .iconst (-1), 1), (41, .iload_n 1, 1), (42, .iload_n 2, 1), (43, .iload_n 3, 1), (44, .invokevirtual 70, 3), (47, .invokevirtual 74, 3), (50, .return_, 1)]
/-- Treeclerk$Land.enterHanding(IIII)V -/
def gk_46 : List (Nat × Instr × Nat) := [(0, .aload_n 0, 1), (1, .dup, 1), (2, .getfield 32, 3), (5, .iconst 1, 1), (6, .iadd, 1), (7, .putfield 32, 3), (10, .aload_n 0, 1), (11, .aload_n 0, 1), (12, .getfield 38, 3), (15, .aload_n 0, 1), (16, .iload_n 1, 1), (17, .iload_n 2, 1), (18, .iload_n 3, 1), (19, .iload 4, 2), (21, .invokevirtual 70, 3), (24, .invokevirtual 74, 3), (27, .return_, 1)]
/-- Treeclerk$Land.enterClosing(LTreeclerk$Estate;)I -/
def gk_47 : List (Nat × Instr × Nat) := [(0, .aload_n 0, 1), (1, .aload_n 1, 1), (2, .getfield 77, 3), (5, .iconst (-1), 1), (6, .iconst 0, 1), (7, .bipush 60, 2), (9, .invokevirtual 70, 3), (12, .istore_n 2, 1), (13, .iload_n 2, 1), (14, .sipush 134, 3), (17, .if_icmp .ge 10, 3), (20, .aload_n 0, 1), (21, .getfield 24, 3), (24, .iload_n 2, 1), (25, .iconst 1, 1), (26, .bastore, 1), (27, .aload_n 0, 1), (28, .aload_n 1, 1), (29, .invokevirtual 82, 3), (32, .iload_n 2, 1), (33, .ireturn, 1)]
/-- Treeclerk$Land.enter(IIII)I -/
def gk_48 : List (Nat × Instr × Nat) := [(0, .aload_n 0, 1), (1, .getfield 28, 3), (4, .sipush 134, 3), (7, .if_icmp .lt 7, 3), (10, .sipush 134, 3), (13, .ireturn, 1), (14, .aload_n 0, 1), (15, .getfield 9, 3), (18, .aload_n 0, 1), (19, .getfield 28, 3), (22, .iload_n 1, 1), (23, .iastore, 1), (24, .aload_n 0, 1), (25, .getfield 15, 3), (28, .aload_n 0, 1), (29, .getfield 28, 3), (32, .iload_n 2, 1), (33, .iastore, 1), (34, .aload_n 0, 1), (35, .getfield 18, 3), (38, .aload_n 0, 1), (39, .getfield 28, 3), (42, .iload_n 3, 1), (43, .iastore, 1), (44, .aload_n 0, 1), (45, .getfield 21, 3), (48, .aload_n 0, 1), (49, .getfield 28, 3), (52, .iload 4, 2), (54, .iastore, 1), (55, .aload_n 0, 1), (56, .dup, 1), (57, .getfield 28, 3), (60, .iconst 1, 1), (61, .iadd, 1), (62, .putfield 28, 3), (65, .aload_n 0, 1), (66, .getfield 28, 3), (69, .iconst 1, 1), (70, .isub, 1), (71, .ireturn, 1)]
/-- Treeclerk$Land.redrawFrom(I[LTreeclerk$Estate;)I -/
def gk_49 : List (Nat × Instr × Nat) := [(0, .iload_n 1, 1), (1, .ifCond .lt 24, 3), (4, .iload_n 1, 1), (5, .aload_n 0, 1), (6, .getfield 28, 3), (9, .if_icmp .ge 16, 3), (12, .aload_n 0, 1), (13, .getfield 9, 3), (16, .iload_n 1, 1), (17, .iaload, 1), (18, .aload_n 2, 1), (19, .invokestatic 86, 3), (22, .ifCond .ne 5, 3), (25, .iconst 0, 1), (26, .ireturn, 1), (27, .aload_n 0, 1), (28, .getfield 38, 3), (31, .iconst 0, 1), (32, .aload_n 0, 1), (33, .getfield 41, 3), (36, .iconst 0, 1), (37, .bipush 60, 2), (39, .invokestatic 90, 3), (42, .aload_n 2, 1), (43, .aload_n 0, 1), (44, .getfield 9, 3), (47, .iload_n 1, 1), (48, .iaload, 1), (49, .aaload, 1), (50, .getfield 96, 3), (53, .iconst 0, 1), (54, .aload_n 0, 1), (55, .getfield 38, 3), (58, .iconst 0, 1), (59, .bipush 60, 2), (61, .invokestatic 90, 3), (64, .iload_n 1, 1), (65, .istore_n 3, 1), (66, .iload_n 3, 1), (67, .aload_n 0, 1), (68, .getfield 28, 3), (71, .if_icmp .ge 55, 3), (74, .aload_n 0, 1), (75, .getfield 24, 3), (78, .iload_n 3, 1), (79, .baload, 1), (80, .ifCond .ne 15, 3), (83, .aload_n 0, 1), (84, .aload_n 0, 1), (85, .getfield 38, 3), (88, .iload_n 3, 1), (89, .invokevirtual 74, 3), (92, .goto 28, 3), (95, .aload_n 0, 1), (96, .getfield 9, 3), (99, .iload_n 3, 1), (100, .iaload, 1), (101, .aload_n 2, 1), (102, .invokestatic 86, 3), (105, .ifCond .eq 15, 3), (108, .aload_n 0, 1), (109, .aload_n 2, 1), (110, .aload_n 0, 1), (111, .getfield 9, 3), (114, .iload_n 3, 1), (115, .iaload, 1), (116, .aaload, 1), (117, .invokevirtual 82, 3), (120, .iinc 3 1, 3), (123, .goto (-57), 3), (126, .iconst 0, 1), (127, .istore_n 3, 1), (128, .iconst 0, 1), (129, .istore 4, 2), (131, .iload 4, 2), (133, .bipush 60, 2), (135, .if_icmp .ge 29, 3), (138, .aload_n 0, 1), (139, .getfield 38, 3), (142, .iload 4, 2), (144, .iaload, 1), (145, .aload_n 0, 1), (146, .getfield 41, 3), (149, .iload 4, 2), (151, .iaload, 1), (152, .if_icmp .eq 6, 3), (155, .iinc 3 1, 3), (158, .iinc 4 1, 3), (161, .goto (-30), 3), (164, .iload_n 3, 1), (165, .ireturn, 1)]
/-- Treeclerk$Land.foundOwner(I[LTreeclerk$Estate;)I -/
def gk_50 : List (Nat × Instr × Nat) := [(0, .aload_n 0, 1), (1, .getfield 41, 3), (4, .iconst (-1), 1), (5, .invokestatic 50, 3), (8, .iconst 0, 1), (9, .istore_n 3, 1), (10, .iload_n 3, 1), (11, .aload_n 0, 1), (12, .getfield 28, 3), (15, .if_icmp .ge 68, 3), (18, .aload_n 0, 1), (19, .getfield 24, 3), (22, .iload_n 3, 1), (23, .baload, 1), (24, .ifCond .ne 15, 3), (27, .aload_n 0, 1), (28, .aload_n 0, 1), (29, .getfield 41, 3), (32, .iload_n 3, 1), (33, .invokevirtual 74, 3), (36, .goto 41, 3), (39, .aload_n 0, 1), (40, .getfield 9, 3), (43, .iload_n 3, 1), (44, .iaload, 1), (45, .aload_n 2, 1), (46, .invokestatic 86, 3), (49, .ifCond .eq 28, 3), (52, .aload_n 2, 1), (53, .aload_n 0, 1), (54, .getfield 9, 3), (57, .iload_n 3, 1), (58, .iaload, 1), (59, .aaload, 1), (60, .astore 4, 2), (62, .aload_n 0, 1), (63, .aload_n 0, 1), (64, .getfield 41, 3), (67, .aload 4, 2), (69, .aload 4, 2), (71, .getfield 99, 3), (74, .invokevirtual 103, 3), (77, .iinc 3 1, 3), (80, .goto (-70), 3), (83, .iload_n 1, 1), (84, .ifCond .lt 18, 3), (87, .iload_n 1, 1), (88, .bipush 60, 2), (90, .if_icmp .ge 12, 3), (93, .aload_n 0, 1), (94, .getfield 41, 3), (97, .iload_n 1, 1), (98, .iaload, 1), (99, .goto 4, 3), (102, .iconst (-1), 1), (103, .ireturn, 1)]
/-- Treeclerk$Land.handOver([II)V -/
def gk_51 : List (Nat × Instr × Nat) := [(0, .iload_n 2, 1), (1, .ifCond .lt 11, 3), (4, .iload_n 2, 1), (5, .aload_n 0, 1), (6, .getfield 28, 3), (9, .if_icmp .lt 4, 3), (12, .return_, 1), (13, .aload_n 0, 1), (14, .getfield 18, 3), (17, .iload_n 2, 1), (18, .iaload, 1), (19, .iconst 0, 1), (20, .invokestatic 56, 3), (23, .istore_n 3, 1), (24, .iload_n 3, 1), (25, .aload_n 0, 1), (26, .getfield 21, 3), (29, .iload_n 2, 1), (30, .iaload, 1), (31, .if_icmp .ge 36, 3), (34, .iload_n 3, 1), (35, .aload_n 1, 1), (36, .arraylength, 1), (37, .if_icmp .ge 30, 3), (40, .aload_n 1, 1), (41, .iload_n 3, 1), (42, .iaload, 1), (43, .aload_n 0, 1), (44, .getfield 9, 3), (47, .iload_n 2, 1), (48, .iaload, 1), (49, .if_icmp .ne 12, 3), (52, .aload_n 1, 1), (53, .iload_n 3, 1), (54, .aload_n 0, 1), (55, .getfield 15, 3), (58, .iload_n 2, 1), (59, .iaload, 1), (60, .iastore, 1), (61, .iinc 3 1, 3), (64, .goto (-40), 3), (67, .return_, 1)]
/-- Treeclerk$Land.drawKept(LTreeclerk$Estate;)V -/
def gk_52 : List (Nat × Instr × Nat) := [(0, .aload_n 0, 1), (1, .getfield 38, 3), (4, .iconst 0, 1), (5, .aload_n 1, 1), (6, .getfield 96, 3), (9, .iconst 0, 1), (10, .bipush 60, 2), (12, .invokestatic 90, 3), (15, .aload_n 0, 1), (16, .aload_n 0, 1), (17, .getfield 38, 3), (20, .aload_n 1, 1), (21, .aload_n 1, 1), (22, .getfield 107, 3), (25, .invokevirtual 103, 3), (28, .return_, 1)]
/-- Treeclerk$Land.draw([ILTreeclerk$Estate;LTreeclerk$Shares;)V -/
def gk_53 : List (Nat × Instr × Nat) := [(0, .aload_n 2, 1), (1, .aload_n 3, 1), (2, .aload_n 0, 1), (3, .getfield 44, 3), (6, .invokevirtual 110, 3), (9, .istore 4, 2), (11, .aload_n 0, 1), (12, .aload_n 1, 1), (13, .aload_n 2, 1), (14, .getfield 77, 3), (17, .iconst 0, 1), (18, .bipush 60, 2), (20, .invokestatic 62, 3), (23, .iload 4, 2), (25, .aload_n 3, 1), (26, .invokevirtual 114, 3), (29, .iconst 0, 1), (30, .istore 5, 2), (32, .iconst 0, 1), (33, .istore 6, 2), (35, .iload 6, 2), (37, .aload_n 1, 1), (38, .arraylength, 1), (39, .if_icmp .ge 62, 3), (42, .aload_n 1, 1), (43, .iload 6, 2), (45, .iaload, 1), (46, .aload_n 2, 1), (47, .getfield 77, 3), (50, .if_icmp .ne 45, 3), (53, .iload 5, 2), (55, .iload 4, 2), (57, .if_icmp .ge 26, 3), (60, .iload 5, 2), (62, .bipush 14, 2), (64, .if_icmp .ge 19, 3), (67, .aload_n 0, 1), (68, .getfield 47, 3), (71, .iload 5, 2), (73, .iaload, 1), (74, .ifCond .ne 9, 3), (77, .iinc 5 1, 3), (80, .goto (-27), 3), (83, .aload_n 1, 1), (84, .iload 6, 2), (86, .aload_n 0, 1), (87, .iload 5, 2), (89, .iload 4, 2), (91, .invokevirtual 118, 3), (94, .iastore, 1), (95, .iinc 6 1, 3), (98, .goto (-63), 3), (101, .return_, 1)]
/-- Treeclerk$Land.takeFrom(II)I -/
def gk_54 : List (Nat × Instr × Nat) := [(0, .iload_n 1, 1), (1, .ifCond .lt 14, 3), (4, .iload_n 1, 1), (5, .iload_n 2, 1), (6, .if_icmp .ge 9, 3), (9, .iload_n 1, 1), (10, .bipush 14, 2), (12, .if_icmp .lt 5, 3), (15, .iconst (-1), 1), (16, .ireturn, 1), (17, .aload_n 0, 1), (18, .getfield 47, 3), (21, .iload_n 1, 1), (22, .dup2, 1), (23, .iaload, 1), (24, .iconst 1, 1), (25, .isub, 1), (26, .iastore, 1), (27, .aload_n 0, 1), (28, .getfield 44, 3), (31, .iload_n 1, 1), (32, .iaload, 1), (33, .ireturn, 1)]
/-- Treeclerk$Land.portionOut(IILTreeclerk$Shares;)V -/
def gk_55 : List (Nat × Instr × Nat) := [(0, .iload_n 1, 1), (1, .istore 4, 2), (3, .iconst 0, 1), (4, .istore 5, 2), (6, .iload 5, 2), (8, .iload_n 2, 1), (9, .if_icmp .ge 47, 3), (12, .iload 5, 2), (14, .bipush 14, 2), (16, .if_icmp .ge 40, 3), (19, .aload_n 0, 1), (20, .getfield 47, 3), (23, .iload 5, 2), (25, .aload_n 3, 1), (26, .aload_n 0, 1), (27, .getfield 44, 3), (30, .iload 5, 2), (32, .iaload, 1), (33, .iload_n 1, 1), (34, .invokevirtual 121, 3), (37, .iastore, 1), (38, .iload 4, 2), (40, .aload_n 0, 1), (41, .getfield 47, 3), (44, .iload 5, 2), (46, .iaload, 1), (47, .isub, 1), (48, .istore 4, 2), (50, .iinc 5 1, 3), (53, .goto (-47), 3), (56, .iconst 0, 1), (57, .istore 5, 2), (59, .iload 5, 2), (61, .iload_n 2, 1), (62, .if_icmp .ge 35, 3), (65, .iload 5, 2), (67, .bipush 14, 2), (69, .if_icmp .ge 28, 3), (72, .iload 4, 2), (74, .ifCond .le 23, 3), (77, .aload_n 0, 1), (78, .getfield 47, 3), (81, .iload 5, 2), (83, .dup2, 1), (84, .iaload, 1), (85, .iconst 1, 1), (86, .iadd, 1), (87, .iastore, 1), (88, .iinc 4 (-1), 3), (91, .iinc 5 1, 3), (94, .goto (-35), 3), (97, .return_, 1)]
/-- Treeclerk$Land.isPlace(I[LTreeclerk$Estate;)Z -/
def gk_56 : List (Nat × Instr × Nat) := [(0, .iload_n 0, 1), (1, .ifCond .lt 13, 3), (4, .iload_n 0, 1), (5, .aload_n 1, 1), (6, .arraylength, 1), (7, .if_icmp .ge 7, 3), (10, .iconst 1, 1), (11, .goto 4, 3), (14, .iconst 0, 1), (15, .ireturn, 1)]
/-- Treeclerk$Land.countIn([IIII)I -/
def gk_57 : List (Nat × Instr × Nat) := [(0, .iconst 0, 1), (1, .istore 4, 2), (3, .iload_n 2, 1), (4, .iconst 0, 1), (5, .invokestatic 56, 3), (8, .istore 5, 2), (10, .iload 5, 2), (12, .iload_n 3, 1), (13, .if_icmp .ge 27, 3), (16, .iload 5, 2), (18, .aload_n 0, 1), (19, .arraylength, 1), (20, .if_icmp .ge 20, 3), (23, .aload_n 0, 1), (24, .iload 5, 2), (26, .iaload, 1), (27, .iload_n 1, 1), (28, .if_icmp .ne 6, 3), (31, .iinc 4 1, 3), (34, .iinc 5 1, 3), (37, .goto (-27), 3), (40, .iload 4, 2), (42, .ireturn, 1)]
/-- Treeclerk$Proofs.<init>()V -/
def gk_58 : List (Nat × Instr × Nat) := [(0, .aload_n 0, 1), (1, .invokespecial 3, 3), (4, .aload_n 0, 1), (5, .bipush 30, 2), (7, .newarray .int, 2), (9, .putfield 9, 3), (12, .aload_n 0, 1), (13, .bipush 30, 2), (15, .newarray .int, 2), (17, .putfield 15, 3), (20, .aload_n 0, 1), (21, .bipush 30, 2), (23, .newarray .int, 2), (25, .putfield 18, 3), (28, .aload_n 0, 1), (29, .bipush 30, 2), (31, .newarray .int, 2), (33, .putfield 21, 3), (36, .aload_n 0, 1), (37, .bipush 30, 2), (39, .newarray .boolean, 2), (41, .putfield 24, 3), (44, .aload_n 0, 1), (45, .iconst 0, 1), (46, .putfield 28, 3), (49, .aload_n 0, 1), (50, .bipush 30, 2), (52, .newarray .int, 2), (54, .putfield 32, 3), (57, .aload_n 0, 1), (58, .bipush 30, 2), (60, .newarray .int, 2), (62, .putfield 35, 3), (65, .aload_n 0, 1), (66, .bipush 30, 2), (68, .newarray .boolean, 2), (70, .putfield 38, 3), (73, .aload_n 0, 1), (74, .iconst 0, 1), (75, .putfield 41, 3), (78, .return_, 1)]
/-- Treeclerk$Proofs.file(III)I -/
def gk_59 : List (Nat × Instr × Nat) := [(0, .aload_n 0, 1), (1, .getfield 28, 3), (4, .bipush 30, 2), (6, .if_icmp .lt 5, 3), (9, .iconst (-1), 1), (10, .ireturn, 1), (11, .aload_n 0, 1), (12, .getfield 9, 3), (15, .aload_n 0, 1), (16, .getfield 28, 3), (19, .iload_n 1, 1), (20, .iastore, 1), (21, .aload_n 0, 1), (22, .getfield 15, 3), (25, .aload_n 0, 1), (26, .getfield 28, 3), (29, .iload_n 2, 1), (30, .iastore, 1), (31, .aload_n 0, 1), (32, .getfield 18, 3), (35, .aload_n 0, 1), (36, .getfield 28, 3), (39, .iload_n 3, 1), (40, .iastore, 1), (41, .aload_n 0, 1), (42, .dup, 1), (43, .getfield 28, 3), (46, .iconst 1, 1), (47, .iadd, 1), (48, .putfield 28, 3), (51, .aload_n 0, 1), (52, .getfield 28, 3), (55, .iconst 1, 1), (56, .isub, 1), (57, .ireturn, 1)]
/-- Treeclerk$Proofs.fileDoubt(II)I -/
def gk_60 : List (Nat × Instr × Nat) := [(0, .aload_n 0, 1), (1, .getfield 41, 3), (4, .bipush 30, 2), (6, .if_icmp .ge 11, 3), (9, .aload_n 0, 1), (10, .iload_n 1, 1), (11, .invokevirtual 44, 3), (14, .ifCond .ne 5, 3), (17, .iconst (-1), 1), (18, .ireturn, 1), (19, .aload_n 0, 1), (20, .getfield 32, 3), (23, .aload_n 0, 1), (24, .getfield 41, 3), (27, .iload_n 1, 1), (28, .iastore, 1), (29, .aload_n 0, 1), (30, .getfield 35, 3), (33, .aload_n 0, 1), (34, .getfield 41, 3), (37, .iload_n 2, 1), (38, .iastore, 1), (39, .aload_n 0, 1), (40, .getfield 38, 3), (43, .aload_n 0, 1), (44, .getfield 41, 3), (47, .iconst 1, 1), (48, .bastore, 1), (49, .aload_n 0, 1), (50, .getfield 21, 3), (53, .iload_n 1, 1), (54, .dup2, 1), (55, .iaload, 1), (56, .iload_n 2, 1), (57, .iadd, 1), (58, .iastore, 1), (59, .aload_n 0, 1), (60, .dup, 1), (61, .getfield 41, 3), (64, .iconst 1, 1), (65, .iadd, 1), (66, .putfield 41, 3), (69, .aload_n 0, 1), (70, .getfield 41, 3), (73, .iconst 1, 1), (74, .isub, 1), (75, .ireturn, 1)]
/-- Treeclerk$Proofs.settle(IZ)V -/
def gk_61 : List (Nat × Instr × Nat) := [(0, .aload_n 0, 1), (1, .iload_n 1, 1), (2, .invokevirtual 48, 3), (5, .ifCond .ne 4, 3), (8, .return_, 1), (9, .aload_n 0, 1), (10, .getfield 32, 3), (13, .iload_n 1, 1), (14, .iaload, 1), (15, .istore_n 3, 1), (16, .aload_n 0, 1), (17, .iload_n 1, 1), (18, .invokevirtual 51, 3), (21, .iload_n 2, 1), (22, .ifCond .eq 53, 3), (25, .aload_n 0, 1), (26, .iload_n 3, 1), (27, .invokevirtual 44, 3), (30, .ifCond .eq 45, 3), (33, .aload_n 0, 1), (34, .getfield 24, 3), (37, .iload_n 3, 1), (38, .iconst 1, 1), (39, .bastore, 1), (40, .iconst 0, 1), (41, .istore 4, 2), (43, .iload 4, 2), (45, .aload_n 0, 1), (46, .getfield 41, 3), (49, .if_icmp .ge 26, 3), (52, .aload_n 0, 1), (53, .getfield 32, 3), (56, .iload 4, 2), (58, .iaload, 1), (59, .iload_n 3, 1), (60, .if_icmp .ne 9, 3), (63, .aload_n 0, 1), (64, .iload 4, 2), (66, .invokevirtual 51, 3), (69, .iinc 4 1, 3), (72, .goto (-29), 3), (75, .return_, 1)]
/-- Treeclerk$Proofs.lift(I)V -/
def gk_62 : List (Nat × Instr × Nat) := [(0, .aload_n 0, 1), (1, .iload_n 1, 1), (2, .invokevirtual 48, 3), (5, .ifCond .ne 4, 3), (8, .return_, 1), (9, .aload_n 0, 1), (10, .getfield 38, 3), (13, .iload_n 1, 1), (14, .iconst 0, 1), (15, .bastore, 1), (16, .aload_n 0, 1), (17, .getfield 32, 3), (20, .iload_n 1, 1), (21, .iaload, 1), (22, .istore_n 2, 1), (23, .aload_n 0, 1), (24, .iload_n 2, 1), (25, .invokevirtual 44, 3), (28, .ifCond .eq 18, 3), (31, .aload_n 0, 1), (32, .getfield 21, 3), (35, .iload_n 2, 1), (36, .dup2, 1), (37, .iaload, 1), (38, .aload_n 0, 1), (39, .getfield 35, 3), (42, .iload_n 1, 1), (43, .iaload, 1), (44, .isub, 1), (45, .iastore, 1), (46, .return_, 1)]
/-- Treeclerk$Proofs.isProof(I)Z -/
def gk_63 : List (Nat × Instr × Nat) := [(0, .iload_n 1, 1), (1, .ifCond .lt 15, 3), (4, .iload_n 1, 1), (5, .aload_n 0, 1), (6, .getfield 28, 3), (9, .if_icmp .ge 7, 3), (12, .iconst 1, 1), (13, .goto 4, 3), (16, .iconst 0, 1), (17, .ireturn, 1)]
/-- Treeclerk$Proofs.isOpen(I)Z -/
def gk_64 : List (Nat × Instr × Nat) := [(0, .iload_n 1, 1), (1, .ifCond .lt 24, 3), (4, .iload_n 1, 1), (5, .aload_n 0, 1), (6, .getfield 41, 3), (9, .if_icmp .ge 16, 3), (12, .aload_n 0, 1), (13, .getfield 38, 3), (16, .iload_n 1, 1), (17, .baload, 1), (18, .ifCond .eq 7, 3), (21, .iconst 1, 1), (22, .goto 4, 3), (25, .iconst 0, 1), (26, .ireturn, 1)]
/-- Treeclerk$Proofs.hasFallen(I)Z -/
def gk_65 : List (Nat × Instr × Nat) := [(0, .aload_n 0, 1), (1, .iload_n 1, 1), (2, .invokevirtual 44, 3), (5, .ifCond .eq 16, 3), (8, .aload_n 0, 1), (9, .getfield 24, 3), (12, .iload_n 1, 1), (13, .baload, 1), (14, .ifCond .eq 7, 3), (17, .iconst 1, 1), (18, .goto 4, 3), (21, .iconst 0, 1), (22, .ireturn, 1)]
/-- Treeclerk$Proofs.countOpen(I)I -/
def gk_66 : List (Nat × Instr × Nat) := [(0, .iconst 0, 1), (1, .istore_n 2, 1), (2, .iconst 0, 1), (3, .istore_n 3, 1), (4, .iload_n 3, 1), (5, .aload_n 0, 1), (6, .getfield 41, 3), (9, .if_icmp .ge 31, 3), (12, .aload_n 0, 1), (13, .getfield 32, 3), (16, .iload_n 3, 1), (17, .iaload, 1), (18, .iload_n 1, 1), (19, .if_icmp .ne 15, 3), (22, .aload_n 0, 1), (23, .getfield 38, 3), (26, .iload_n 3, 1), (27, .baload, 1), (28, .ifCond .eq 6, 3), (31, .iinc 2 1, 3), (34, .iinc 3 1, 3), (37, .goto (-33), 3), (40, .iload_n 2, 1), (41, .ireturn, 1)]
/-- Treeclerk$Proofs.strengthOf(I)I -/
def gk_67 : List (Nat × Instr × Nat) := [(0, .aload_n 0, 1), (1, .iload_n 1, 1), (2, .invokevirtual 44, 3), (5, .ifCond .eq 12, 3), (8, .aload_n 0, 1), (9, .getfield 24, 3), (12, .iload_n 1, 1), (13, .baload, 1), (14, .ifCond .eq 5, 3), (17, .iconst 0, 1), (18, .ireturn, 1), (19, .iconst 0, 1), (20, .aload_n 0, 1), (21, .getfield 18, 3), (24, .iload_n 1, 1), (25, .iaload, 1), (26, .aload_n 0, 1), (27, .getfield 21, 3), (30, .iload_n 1, 1), (31, .iaload, 1), (32, .isub, 1), (33, .invokestatic 55, 3), (36, .ireturn, 1)]
/-- Treeclerk$Shares.<init>()V -/
def gk_68 : List (Nat × Instr × Nat) := [(0, .aload_n 0, 1), (1, .invokespecial 3, 3), (4, .aload_n 0, 1), (5, .bipush 14, 2), (7, .newarray .long, 2), (9, .putfield 9, 3), (12, .aload_n 0, 1), (13, .bipush 14, 2), (15, .newarray .long, 2), (17, .putfield 15, 3), (20, .aload_n 0, 1), (21, .getfield 15, 3), (24, .lconst 1, 1), (25, .invokestatic 18, 3), (28, .return_, 1)]
/-- Treeclerk$Shares.clear()V -/
def gk_69 : List (Nat × Instr × Nat) := [(0, .aload_n 0, 1), (1, .getfield 9, 3), (4, .lconst 0, 1), (5, .invokestatic 18, 3), (8, .aload_n 0, 1), (9, .getfield 15, 3), (12, .lconst 1, 1), (13, .invokestatic 18, 3), (16, .return_, 1)]
/-- Treeclerk$Shares.copy(LTreeclerk$Shares;)V -/
def gk_70 : List (Nat × Instr × Nat) := [(0, .aload_n 1, 1), (1, .getfield 9, 3), (4, .iconst 0, 1), (5, .aload_n 0, 1), (6, .getfield 9, 3), (9, .iconst 0, 1), (10, .bipush 14, 2), (12, .invokestatic 24, 3), (15, .aload_n 1, 1), (16, .getfield 15, 3), (19, .iconst 0, 1), (20, .aload_n 0, 1), (21, .getfield 15, 3), (24, .iconst 0, 1), (25, .bipush 14, 2), (27, .invokestatic 24, 3), (30, .return_, 1)]
/-- Treeclerk$Shares.aboveOf(I)J -/
def gk_71 : List (Nat × Instr × Nat) := [(0, .iload_n 1, 1), (1, .ifCond .lt 18, 3), (4, .iload_n 1, 1), (5, .bipush 14, 2), (7, .if_icmp .ge 12, 3), (10, .aload_n 0, 1), (11, .getfield 9, 3), (14, .iload_n 1, 1), (15, .laload, 1), (16, .goto 4, 3), (19, .lconst 0, 1), (20, .lreturn, 1)]
/-- Treeclerk$Shares.belowOf(I)J -/
def gk_72 : List (Nat × Instr × Nat) := [(0, .iload_n 1, 1), (1, .ifCond .lt 18, 3), (4, .iload_n 1, 1), (5, .bipush 14, 2), (7, .if_icmp .ge 12, 3), (10, .aload_n 0, 1), (11, .getfield 15, 3), (14, .iload_n 1, 1), (15, .laload, 1), (16, .goto 4, 3), (19, .lconst 1, 1), (20, .lreturn, 1)]
/-- Treeclerk$Shares.add(IJJ)V -/
def gk_73 : List (Nat × Instr × Nat) := [(0, .iload_n 1, 1), (1, .ifCond .lt 16, 3), (4, .iload_n 1, 1), (5, .bipush 14, 2), (7, .if_icmp .ge 10, 3), (10, .lload 4, 2), (12, .lconst 0, 1), (13, .lcmp, 1), (14, .ifCond .gt 4, 3), (17, .return_, 1), (18, .aload_n 0, 1), (19, .getfield 9, 3), (22, .iload_n 1, 1), (23, .laload, 1), (24, .lload 4, 2), (26, .lmul, 1), (27, .lload_n 2, 1), (28, .aload_n 0, 1), (29, .getfield 15, 3), (32, .iload_n 1, 1), (33, .laload, 1), (34, .lmul, 1), (35, .ladd, 1), (36, .lstore 6, 2), (38, .aload_n 0, 1), (39, .getfield 15, 3), (42, .iload_n 1, 1), (43, .laload, 1), (44, .lload 4, 2), (46, .lmul, 1), (47, .lstore 8, 2), (49, .lload 6, 2), (51, .lload 8, 2), (53, .invokestatic 30, 3), (56, .lstore 10, 2), (58, .lload 10, 2), (60, .lconst 0, 1), (61, .lcmp, 1), (62, .ifCond .le 25, 3), (65, .aload_n 0, 1), (66, .getfield 9, 3), (69, .iload_n 1, 1), (70, .lload 6, 2), (72, .lload 10, 2), (74, .ldiv, 1), (75, .lastore, 1), (76, .aload_n 0, 1), (77, .getfield 15, 3), (80, .iload_n 1, 1), (81, .lload 8, 2), (83, .lload 10, 2), (85, .ldiv, 1), (86, .lastore, 1), (87, .return_, 1)]
/-- Treeclerk$Shares.unitsFor(II)I -/
def gk_74 : List (Nat × Instr × Nat) := [(0, .aload_n 0, 1), (1, .iload_n 1, 1), (2, .invokevirtual 34, 3), (5, .lstore_n 3, 1), (6, .lload_n 3, 1), (7, .lconst 0, 1), (8, .lcmp, 1), (9, .ifCond .le 17, 3), (12, .iload_n 2, 1), (13, .i2l, 1), (14, .aload_n 0, 1), (15, .iload_n 1, 1), (16, .invokevirtual 38, 3), (19, .lmul, 1), (20, .lload_n 3, 1), (21, .ldiv, 1), (22, .l2i, 1), (23, .goto 4, 3), (26, .iconst 0, 1), (27, .ireturn, 1)]
/-- Treeclerk$Shares.countHeirs()I -/
def gk_75 : List (Nat × Instr × Nat) := [(0, .iconst 0, 1), (1, .istore_n 1, 1), (2, .iconst 0, 1), (3, .istore_n 2, 1), (4, .iload_n 2, 1), (5, .bipush 14, 2), (7, .if_icmp .ge 23, 3), (10, .aload_n 0, 1), (11, .getfield 9, 3), (14, .iload_n 2, 1), (15, .laload, 1), (16, .lconst 0, 1), (17, .lcmp, 1), (18, .ifCond .le 6, 3), (21, .iinc 1 1, 3), (24, .iinc 2 1, 3), (27, .goto (-23), 3), (30, .iload_n 1, 1), (31, .ireturn, 1)]
/-- Treeclerk$Shares.isSame(LTreeclerk$Shares;)Z -/
def gk_76 : List (Nat × Instr × Nat) := [(0, .iconst 0, 1), (1, .istore_n 2, 1), (2, .iload_n 2, 1), (3, .bipush 14, 2), (5, .if_icmp .ge 43, 3), (8, .aload_n 0, 1), (9, .getfield 9, 3), (12, .iload_n 2, 1), (13, .laload, 1), (14, .aload_n 1, 1), (15, .getfield 9, 3), (18, .iload_n 2, 1), (19, .laload, 1), (20, .lcmp, 1), (21, .ifCond .ne 19, 3), (24, .aload_n 0, 1), (25, .getfield 15, 3), (28, .iload_n 2, 1), (29, .laload, 1), (30, .aload_n 1, 1), (31, .getfield 15, 3), (34, .iload_n 2, 1), (35, .laload, 1), (36, .lcmp, 1), (37, .ifCond .eq 5, 3), (40, .iconst 0, 1), (41, .ireturn, 1), (42, .iinc 2 1, 3), (45, .goto (-43), 3), (48, .iconst 1, 1), (49, .ireturn, 1)]
/-- Treeclerk$Shares.commonDivisor(JJ)J -/
def gk_77 : List (Nat × Instr × Nat) := [(0, .iconst 0, 1), (1, .istore 4, 2), (3, .iload 4, 2), (5, .bipush 100, 2), (7, .if_icmp .ge 25, 3), (10, .lload_n 2, 1), (11, .lconst 0, 1), (12, .lcmp, 1), (13, .ifCond .eq 19, 3), (16, .lload_n 0, 1), (17, .lload_n 2, 1), (18, .lrem, 1), (19, .lstore 5, 2), (21, .lload_n 2, 1), (22, .lstore_n 0, 1), (23, .lload 5, 2), (25, .lstore_n 2, 1), (26, .iinc 4 1, 3), (29, .goto (-26), 3), (32, .lload_n 0, 1), (33, .lreturn, 1)]
/-- Treeclerk.<init>()V -/
def gk_78 : List (Nat × Instr × Nat) := [(0, .aload_n 0, 1), (1, .invokespecial 3, 3), (4, .aload_n 0, 1), (5, .new 9, 3), (8, .dup, 1), (9, .invokespecial 11, 3), (12, .putfield 12, 3), (15, .aload_n 0, 1), (16, .new 16, 3), (19, .dup, 1), (20, .invokespecial 18, 3), (23, .putfield 19, 3), (26, .aload_n 0, 1), (27, .new 23, 3), (30, .dup, 1), (31, .invokespecial 25, 3), (34, .putfield 26, 3), (37, .aload_n 0, 1), (38, .new 23, 3), (41, .dup, 1), (42, .invokespecial 25, 3), (45, .putfield 30, 3), (48, .aload_n 0, 1), (49, .bipush 14, 2), (51, .anewarray 33, 3), (54, .putfield 35, 3), (57, .aload_n 0, 1), (58, .new 39, 3), (61, .dup, 1), (62, .invokespecial 41, 3), (65, .putfield 42, 3), (68, .aload_n 0, 1), (69, .new 46, 3), (72, .dup, 1), (73, .invokespecial 48, 3), (76, .putfield 49, 3), (79, .aload_n 0, 1), (80, .new 53, 3), (83, .dup, 1), (84, .invokespecial 55, 3), (87, .putfield 56, 3), (90, .aload_n 0, 1), (91, .new 53, 3), (94, .dup, 1), (95, .invokespecial 55, 3), (98, .putfield 60, 3), (101, .aload_n 0, 1), (102, .iconst 0, 1), (103, .putfield 63, 3), (106, .iconst 0, 1), (107, .istore_n 1, 1), (108, .iload_n 1, 1), (109, .bipush 14, 2), (111, .if_icmp .ge 23, 3), (114, .aload_n 0, 1), (115, .getfield 35, 3), (118, .iload_n 1, 1), (119, .new 33, 3), (122, .dup, 1), (123, .iload_n 1, 1), (124, .invokespecial 67, 3), (127, .aastore, 1), (128, .iinc 1 1, 3), (131, .goto (-23), 3), (134, .return_, 1)]
/-- Treeclerk.pass(I)I -/
def gk_79 : List (Nat × Instr × Nat) := [(0, .iload_n 1, 1), (1, .iconst 1, 1), (2, .if_icmp .lt 9, 3), (5, .iload_n 1, 1), (6, .bipush 100, 2), (8, .if_icmp .le 13, 3), (11, .new 70, 3), (14, .dup, 1), (15, .ldc 72, 2), (17, .invokespecial 74, 3), (20, .athrow, 1), (21, .aload_n 0, 1), (22, .getfield 63, 3), (25, .iload_n 1, 1), (26, .iadd, 1), (27, .sipush 2000, 3), (30, .if_icmp .le 13, 3), (33, .new 77, 3), (36, .dup, 1), (37, .ldc 79, 2), (39, .invokespecial 81, 3), (42, .athrow, 1), (43, .aload_n 0, 1), (44, .dup, 1), (45, .getfield 63, 3), (48, .iload_n 1, 1), (49, .iadd, 1), (50, .putfield 63, 3), (53, .aload_n 0, 1), (54, .getfield 63, 3), (57, .ireturn, 1)]
/-- Treeclerk.today()I -/
def gk_80 : List (Nat × Instr × Nat) := [(0, .aload_n 0, 1), (1, .getfield 63, 3), (4, .ireturn, 1)]
/-- Treeclerk.birth(I)I -/
def gk_81 : List (Nat × Instr × Nat) := [(0, .iload_n 1, 1), (1, .ifCond .lt 11, 3), (4, .iload_n 1, 1), (5, .aload_n 0, 1), (6, .getfield 63, 3), (9, .if_icmp .le 13, 3), (12, .new 70, 3), (15, .dup, 1), (16, .ldc 82, 2), (18, .invokespecial 74, 3), (21, .athrow, 1), (22, .aload_n 0, 1), (23, .getfield 12, 3), (26, .getfield 84, 3), (29, .bipush 14, 2), (31, .if_icmp .lt 13, 3), (34, .new 77, 3), (37, .dup, 1), (38, .ldc 87, 2), (40, .invokespecial 81, 3), (43, .athrow, 1), (44, .aload_n 0, 1), (45, .getfield 12, 3), (48, .iload_n 1, 1), (49, .invokevirtual 89, 3), (52, .ireturn, 1)]
/-- Treeclerk.death(I)I -/
def gk_82 : List (Nat × Instr × Nat) := [(0, .aload_n 0, 1), (1, .iload_n 1, 1), (2, .invokevirtual 93, 3), (5, .aload_n 0, 1), (6, .iload_n 1, 1), (7, .invokevirtual 96, 3), (10, .aload_n 0, 1), (11, .getfield 12, 3), (14, .iload_n 1, 1), (15, .aload_n 0, 1), (16, .getfield 63, 3), (19, .invokevirtual 99, 3), (22, .iconst 0, 1), (23, .istore_n 2, 1), (24, .iconst 0, 1), (25, .istore_n 3, 1), (26, .iload_n 3, 1), (27, .bipush 14, 2), (29, .if_icmp .ge 37, 3), (32, .aload_n 0, 1), (33, .getfield 35, 3), (36, .iload_n 3, 1), (37, .aaload, 1), (38, .getfield 103, 3), (41, .ifCond .ne 19, 3), (44, .aload_n 0, 1), (45, .getfield 35, 3), (48, .iload_n 3, 1), (49, .aaload, 1), (50, .iload_n 1, 1), (51, .invokevirtual 107, 3), (54, .ifCond .eq 6, 3), (57, .iinc 2 1, 3), (60, .iinc 3 1, 3), (63, .goto (-37), 3), (66, .iload_n 2, 1), (67, .ireturn, 1)]
/-- Treeclerk.people()I -/
def gk_83 : List (Nat × Instr × Nat) := [(0, .aload_n 0, 1), (1, .getfield 12, 3), (4, .getfield 84, 3), (7, .ireturn, 1)]
/-- Treeclerk.isAlive(I)Z -/
def gk_84 : List (Nat × Instr × Nat) := [(0, .aload_n 0, 1), (1, .iload_n 1, 1), (2, .invokevirtual 93, 3), (5, .aload_n 0, 1), (6, .getfield 12, 3), (9, .iload_n 1, 1), (10, .invokevirtual 111, 3), (13, .ifCond .ne 7, 3), (16, .iconst 1, 1), (17, .goto 4, 3), (20, .iconst 0, 1), (21, .ireturn, 1)]
/-- Treeclerk.proof(III)I -/
def gk_85 : List (Nat × Instr × Nat) := [(0, .aload_n 0, 1), (1, .iload_n 1, 1), (2, .invokevirtual 93, 3), (5, .aload_n 0, 1), (6, .iload_n 2, 1), (7, .invokevirtual 93, 3), (10, .aload_n 0, 1), (11, .iload_n 3, 1), (12, .iconst 1, 1), (13, .invokevirtual 114, 3), (16, .aload_n 0, 1), (17, .getfield 12, 3), (20, .iload_n 1, 1), (21, .iload_n 2, 1), (22, .invokevirtual 117, 3), (25, .ifCond .ne 13, 3), (28, .new 70, 3), (31, .dup, 1), (32, .ldc 121, 2), (34, .invokespecial 74, 3), (37, .athrow, 1), (38, .aload_n 0, 1), (39, .getfield 19, 3), (42, .getfield 123, 3), (45, .bipush 30, 2), (47, .if_icmp .lt 13, 3), (50, .new 77, 3), (53, .dup, 1), (54, .ldc 124, 2), (56, .invokespecial 81, 3), (59, .athrow, 1), (60, .aload_n 0, 1), (61, .getfield 19, 3), (64, .iload_n 1, 1), (65, .iload_n 2, 1), (66, .iload_n 3, 1), (67, .invokevirtual 126, 3), (70, .istore 4, 2), (72, .aload_n 0, 1), (73, .invokevirtual 130, 3), (76, .pop, 1), (77, .iload 4, 2), (79, .ireturn, 1)]
/-- Treeclerk.doubt(II)I -/
def gk_86 : List (Nat × Instr × Nat) := [(0, .aload_n 0, 1), (1, .iload_n 1, 1), (2, .invokevirtual 134, 3), (5, .aload_n 0, 1), (6, .iload_n 2, 1), (7, .iconst 1, 1), (8, .invokevirtual 114, 3), (11, .aload_n 0, 1), (12, .getfield 19, 3), (15, .iload_n 1, 1), (16, .invokevirtual 137, 3), (19, .ifCond .eq 13, 3), (22, .new 77, 3), (25, .dup, 1), (26, .ldc 140, 2), (28, .invokespecial 81, 3), (31, .athrow, 1), (32, .aload_n 0, 1), (33, .getfield 19, 3), (36, .getfield 142, 3), (39, .bipush 30, 2), (41, .if_icmp .lt 13, 3), (44, .new 77, 3), (47, .dup, 1), (48, .ldc 145, 2), (50, .invokespecial 81, 3), (53, .athrow, 1), (54, .aload_n 0, 1), (55, .getfield 19, 3), (58, .iload_n 1, 1), (59, .iload_n 2, 1), (60, .invokevirtual 147, 3), (63, .istore_n 3, 1), (64, .aload_n 0, 1), (65, .invokevirtual 130, 3), (68, .pop, 1), (69, .iload_n 3, 1), (70, .ireturn, 1)]
/-- Treeclerk.judge(IZ)I -/
def gk_87 : List (Nat × Instr × Nat) := [(0, .iload_n 1, 1), (1, .ifCond .lt 14, 3), (4, .iload_n 1, 1), (5, .aload_n 0, 1), (6, .getfield 19, 3), (9, .getfield 142, 3), (12, .if_icmp .lt 13, 3), (15, .new 151, 3), (18, .dup, 1), (19, .ldc 153, 2), (21, .invokespecial 155, 3), (24, .athrow, 1), (25, .aload_n 0, 1), (26, .getfield 19, 3), (29, .iload_n 1, 1), (30, .invokevirtual 156, 3), (33, .ifCond .ne 13, 3), (36, .new 77, 3), (39, .dup, 1), (40, .ldc 159, 2), (42, .invokespecial 81, 3), (45, .athrow, 1), (46, .aload_n 0, 1), (47, .getfield 19, 3), (50, .iload_n 1, 1), (51, .iload_n 2, 1), (52, .invokevirtual 161, 3), (55, .aload_n 0, 1), (56, .invokevirtual 130, 3), (59, .ireturn, 1)]
/-- Treeclerk.strength(I)I -/
def gk_88 : List (Nat × Instr × Nat) := [(0, .aload_n 0, 1), (1, .iload_n 1, 1), (2, .invokevirtual 134, 3), (5, .aload_n 0, 1), (6, .getfield 19, 3), (9, .iload_n 1, 1), (10, .invokevirtual 165, 3), (13, .ireturn, 1)]
/-- Treeclerk.openDoubts()I -/
def gk_89 : List (Nat × Instr × Nat) := [(0, .iconst 0, 1), (1, .istore_n 1, 1), (2, .iconst 0, 1), (3, .istore_n 2, 1), (4, .iload_n 2, 1), (5, .aload_n 0, 1), (6, .getfield 19, 3), (9, .getfield 142, 3), (12, .if_icmp .ge 23, 3), (15, .aload_n 0, 1), (16, .getfield 19, 3), (19, .iload_n 2, 1), (20, .invokevirtual 156, 3), (23, .ifCond .eq 6, 3), (26, .iinc 1 1, 3), (29, .iinc 2 1, 3), (32, .goto (-28), 3), (35, .iload_n 1, 1), (36, .ireturn, 1)]
/-- Treeclerk.parentOf(II)I -/
def gk_90 : List (Nat × Instr × Nat) := [(0, .aload_n 0, 1), (1, .iload_n 1, 1), (2, .invokevirtual 93, 3), (5, .iload_n 2, 1), (6, .ifCond .eq 18, 3), (9, .iload_n 2, 1), (10, .iconst 1, 1), (11, .if_icmp .eq 13, 3), (14, .new 70, 3), (17, .dup, 1), (18, .ldc 168, 2), (20, .invokespecial 74, 3), (23, .athrow, 1), (24, .iload_n 2, 1), (25, .ifCond .ne 14, 3), (28, .aload_n 0, 1), (29, .getfield 26, 3), (32, .iload_n 1, 1), (33, .invokevirtual 170, 3), (36, .goto 11, 3), (39, .aload_n 0, 1), (40, .getfield 26, 3), (43, .iload_n 1, 1), (44, .invokevirtual 173, 3), (47, .ireturn, 1)]
/-- Treeclerk.childrenOf(I)I -/
def gk_91 : List (Nat × Instr × Nat) := [(0, .aload_n 0, 1), (1, .iload_n 1, 1), (2, .invokevirtual 93, 3), (5, .aload_n 0, 1), (6, .getfield 26, 3), (9, .iload_n 1, 1), (10, .invokevirtual 176, 3), (13, .ireturn, 1)]
/-- Treeclerk.will(III)I -/
def gk_92 : List (Nat × Instr × Nat) := [(0, .aload_n 0, 1), (1, .iload_n 1, 1), (2, .invokevirtual 93, 3), (5, .aload_n 0, 1), (6, .iload_n 2, 1), (7, .invokevirtual 93, 3), (10, .aload_n 0, 1), (11, .iload_n 1, 1), (12, .iload_n 2, 1), (13, .invokevirtual 179, 3), (16, .aload_n 0, 1), (17, .iload_n 3, 1), (18, .iconst 0, 1), (19, .invokevirtual 114, 3), (22, .aload_n 0, 1), (23, .iload_n 1, 1), (24, .invokevirtual 96, 3), (27, .aload_n 0, 1), (28, .getfield 35, 3), (31, .iload_n 1, 1), (32, .aaload, 1), (33, .iload_n 2, 1), (34, .iload_n 3, 1), (35, .invokevirtual 182, 3), (38, .ireturn, 1)]
/-- Treeclerk.claim(II)I -/
def gk_93 : List (Nat × Instr × Nat) := [(0, .aload_n 0, 1), (1, .iload_n 1, 1), (2, .invokevirtual 93, 3), (5, .aload_n 0, 1), (6, .iload_n 2, 1), (7, .invokevirtual 93, 3), (10, .aload_n 0, 1), (11, .iload_n 1, 1), (12, .invokevirtual 96, 3), (15, .aload_n 0, 1), (16, .iload_n 2, 1), (17, .invokevirtual 185, 3), (20, .aload_n 0, 1), (21, .getfield 35, 3), (24, .iload_n 2, 1), (25, .aaload, 1), (26, .astore_n 3, 1), (27, .aload_n 0, 1), (28, .aload_n 3, 1), (29, .invokevirtual 188, 3), (32, .aload_n 3, 1), (33, .iload_n 1, 1), (34, .invokevirtual 192, 3), (37, .ifCond .eq 13, 3), (40, .new 77, 3), (43, .dup, 1), (44, .ldc 195, 2), (46, .invokespecial 81, 3), (49, .athrow, 1), (50, .aload_n 3, 1), (51, .iload_n 1, 1), (52, .invokevirtual 197, 3), (55, .aload_n 3, 1), (56, .getfield 200, 3), (59, .ireturn, 1)]
/-- Treeclerk.claims(I)I -/
def gk_94 : List (Nat × Instr × Nat) := [(0, .aload_n 0, 1), (1, .iload_n 1, 1), (2, .invokevirtual 93, 3), (5, .aload_n 0, 1), (6, .getfield 35, 3), (9, .iload_n 1, 1), (10, .aaload, 1), (11, .getfield 200, 3), (14, .ireturn, 1)]
/-- Treeclerk.close(I)I -/
def gk_95 : List (Nat × Instr × Nat) := [(0, .aload_n 0, 1), (1, .iload_n 1, 1), (2, .invokevirtual 93, 3), (5, .aload_n 0, 1), (6, .iload_n 1, 1), (7, .invokevirtual 185, 3), (10, .aload_n 0, 1), (11, .getfield 35, 3), (14, .iload_n 1, 1), (15, .aaload, 1), (16, .astore_n 2, 1), (17, .aload_n 0, 1), (18, .aload_n 2, 1), (19, .invokevirtual 188, 3), (22, .aload_n 0, 1), (23, .getfield 42, 3), (26, .aload_n 0, 1), (27, .getfield 12, 3), (30, .aload_n 0, 1), (31, .getfield 26, 3), (34, .aload_n 2, 1), (35, .aload_n 2, 1), (36, .getfield 203, 3), (39, .invokevirtual 206, 3), (42, .aload_n 2, 1), (43, .iconst 1, 1), (44, .putfield 103, 3), (47, .aload_n 2, 1), (48, .aload_n 0, 1), (49, .getfield 12, 3), (52, .getfield 210, 3), (55, .putfield 213, 3), (58, .aload_n 2, 1), (59, .aload_n 0, 1), (60, .getfield 49, 3), (63, .aload_n 2, 1), (64, .invokevirtual 216, 3), (67, .putfield 220, 3), (70, .aload_n 2, 1), (71, .getfield 203, 3), (74, .invokevirtual 223, 3), (77, .ireturn, 1)]
/-- Treeclerk.isClosed(I)Z -/
def gk_96 : List (Nat × Instr × Nat) := [(0, .aload_n 0, 1), (1, .iload_n 1, 1), (2, .invokevirtual 93, 3), (5, .aload_n 0, 1), (6, .getfield 35, 3), (9, .iload_n 1, 1), (10, .aaload, 1), (11, .getfield 103, 3), (14, .ireturn, 1)]
/-- Treeclerk.shareAbove(II)J -/
def gk_97 : List (Nat × Instr × Nat) := [(0, .aload_n 0, 1), (1, .iload_n 1, 1), (2, .invokevirtual 93, 3), (5, .aload_n 0, 1), (6, .iload_n 2, 1), (7, .invokevirtual 93, 3), (10, .aload_n 0, 1), (11, .iload_n 2, 1), (12, .invokevirtual 185, 3), (15, .aload_n 0, 1), (16, .iload_n 2, 1), (17, .invokevirtual 226, 3), (20, .iload_n 1, 1), (21, .invokevirtual 230, 3), (24, .lreturn, 1)]
/-- Treeclerk.shareBelow(II)J -/
def gk_98 : List (Nat × Instr × Nat) := [(0, .aload_n 0, 1), (1, .iload_n 1, 1), (2, .invokevirtual 93, 3), (5, .aload_n 0, 1), (6, .iload_n 2, 1), (7, .invokevirtual 93, 3), (10, .aload_n 0, 1), (11, .iload_n 2, 1), (12, .invokevirtual 185, 3), (15, .aload_n 0, 1), (16, .iload_n 2, 1), (17, .invokevirtual 226, 3), (20, .iload_n 1, 1), (21, .invokevirtual 234, 3), (24, .lreturn, 1)]
/-- Treeclerk.shareAboveByWays(II)J -/
def gk_99 : List (Nat × Instr × Nat) := [(0, .aload_n 0, 1), (1, .iload_n 1, 1), (2, .invokevirtual 93, 3), (5, .aload_n 0, 1), (6, .iload_n 2, 1), (7, .invokevirtual 93, 3), (10, .aload_n 0, 1), (11, .iload_n 2, 1), (12, .invokevirtual 185, 3), (15, .aload_n 0, 1), (16, .getfield 42, 3), (19, .aload_n 0, 1), (20, .getfield 12, 3), (23, .aload_n 0, 1), (24, .getfield 26, 3), (27, .aload_n 0, 1), (28, .getfield 35, 3), (31, .iload_n 2, 1), (32, .aaload, 1), (33, .aload_n 0, 1), (34, .getfield 56, 3), (37, .invokevirtual 237, 3), (40, .aload_n 0, 1), (41, .getfield 56, 3), (44, .iload_n 1, 1), (45, .invokevirtual 230, 3), (48, .lreturn, 1)]
/-- Treeclerk.heirs(I)I -/
def gk_100 : List (Nat × Instr × Nat) := [(0, .aload_n 0, 1), (1, .iload_n 1, 1), (2, .invokevirtual 93, 3), (5, .aload_n 0, 1), (6, .iload_n 1, 1), (7, .invokevirtual 185, 3), (10, .aload_n 0, 1), (11, .iload_n 1, 1), (12, .invokevirtual 226, 3), (15, .invokevirtual 223, 3), (18, .ireturn, 1)]
/-- Treeclerk.disputes(I)I -/
def gk_101 : List (Nat × Instr × Nat) := [(0, .aload_n 0, 1), (1, .iload_n 1, 1), (2, .invokevirtual 93, 3), (5, .aload_n 0, 1), (6, .iload_n 1, 1), (7, .invokevirtual 185, 3), (10, .aload_n 0, 1), (11, .iload_n 1, 1), (12, .invokevirtual 226, 3), (15, .astore_n 2, 1), (16, .iconst 0, 1), (17, .istore_n 3, 1), (18, .iconst 0, 1), (19, .istore 4, 2), (21, .iload 4, 2), (23, .aload_n 0, 1), (24, .getfield 19, 3), (27, .getfield 123, 3), (30, .if_icmp .ge 46, 3), (33, .aload_n 0, 1), (34, .getfield 19, 3), (37, .iload 4, 2), (39, .invokevirtual 240, 3), (42, .istore 5, 2), (44, .iload 5, 2), (46, .ifCond .le 24, 3), (49, .aload_n 0, 1), (50, .aload_n 0, 1), (51, .getfield 35, 3), (54, .iload_n 1, 1), (55, .aaload, 1), (56, .aload_n 2, 1), (57, .iload 4, 2), (59, .invokevirtual 243, 3), (62, .ifCond .eq 8, 3), (65, .iload_n 3, 1), (66, .iload 5, 2), (68, .iadd, 1), (69, .istore_n 3, 1), (70, .iinc 4 1, 3), (73, .goto (-52), 3), (76, .iload_n 3, 1), (77, .ireturn, 1)]
/-- Treeclerk.reopenings(I)I -/
def gk_102 : List (Nat × Instr × Nat) := [(0, .aload_n 0, 1), (1, .iload_n 1, 1), (2, .invokevirtual 93, 3), (5, .aload_n 0, 1), (6, .getfield 35, 3), (9, .iload_n 1, 1), (10, .aaload, 1), (11, .getfield 247, 3), (14, .ireturn, 1)]
/-- Treeclerk.grant(III)I -/
def gk_103 : List (Nat × Instr × Nat) := [(0, .aload_n 0, 1), (1, .iload_n 1, 1), (2, .invokevirtual 93, 3), (5, .aload_n 0, 1), (6, .iload_n 2, 1), (7, .iload_n 3, 1), (8, .invokevirtual 250, 3), (11, .aload_n 0, 1), (12, .iload_n 1, 1), (13, .invokevirtual 96, 3), (16, .aload_n 0, 1), (17, .getfield 49, 3), (20, .iload_n 2, 1), (21, .iload_n 3, 1), (22, .invokevirtual 253, 3), (25, .ifCond .eq 14, 3), (28, .new 77, 3), (31, .dup, 1), (32, .ldc_w 256, 3), (35, .invokespecial 81, 3), (38, .athrow, 1), (39, .aload_n 0, 1), (40, .getfield 49, 3), (43, .iload_n 1, 1), (44, .iload_n 2, 1), (45, .iload_n 3, 1), (46, .invokevirtual 258, 3), (49, .iload_n 3, 1), (50, .iload_n 2, 1), (51, .isub, 1), (52, .ireturn, 1)]
/-- Treeclerk.hand(IIII)I -/
def gk_104 : List (Nat × Instr × Nat) := [(0, .aload_n 0, 1), (1, .iload_n 1, 1), (2, .invokevirtual 93, 3), (5, .aload_n 0, 1), (6, .iload_n 2, 1), (7, .invokevirtual 93, 3), (10, .aload_n 0, 1), (11, .iload_n 1, 1), (12, .iload_n 2, 1), (13, .invokevirtual 179, 3), (16, .aload_n 0, 1), (17, .iload_n 3, 1), (18, .iload 4, 2), (20, .invokevirtual 250, 3), (23, .aload_n 0, 1), (24, .iload_n 1, 1), (25, .invokevirtual 96, 3), (28, .aload_n 0, 1), (29, .iload_n 2, 1), (30, .invokevirtual 96, 3), (33, .aload_n 0, 1), (34, .getfield 49, 3), (37, .iload_n 1, 1), (38, .iload_n 3, 1), (39, .iload 4, 2), (41, .invokevirtual 262, 3), (44, .istore 5, 2), (46, .iload 5, 2), (48, .ifCond .ne 14, 3), (51, .new 77, 3), (54, .dup, 1), (55, .ldc_w 265, 3), (58, .invokespecial 81, 3), (61, .athrow, 1), (62, .aload_n 0, 1), (63, .getfield 49, 3), (66, .getfield 267, 3), (69, .bipush 60, 2), (71, .if_icmp .lt 14, 3), (74, .new 77, 3), (77, .dup, 1), (78, .ldc_w 270, 3), (81, .invokespecial 81, 3), (84, .athrow, 1), (85, .aload_n 0, 1), (86, .getfield 49, 3), (89, .iload_n 1, 1), (90, .iload_n 2, 1), (91, .iload_n 3, 1), (92, .iload 4, 2), (94, .invokevirtual 272, 3), (97, .iload 5, 2), (99, .ireturn, 1)]
/-- Treeclerk.owner(I)I -/
def gk_105 : List (Nat × Instr × Nat) := [(0, .aload_n 0, 1), (1, .iload_n 1, 1), (2, .invokevirtual 276, 3), (5, .aload_n 0, 1), (6, .getfield 49, 3), (9, .iload_n 1, 1), (10, .invokevirtual 279, 3), (13, .ireturn, 1)]
/-- Treeclerk.ownerAnew(I)I -/
def gk_106 : List (Nat × Instr × Nat) := [(0, .aload_n 0, 1), (1, .iload_n 1, 1), (2, .invokevirtual 276, 3), (5, .iconst 0, 1), (6, .istore_n 2, 1), (7, .iload_n 2, 1), (8, .bipush 14, 2), (10, .if_icmp .ge 51, 3), (13, .aload_n 0, 1), (14, .getfield 35, 3), (17, .iload_n 2, 1), (18, .aaload, 1), (19, .getfield 103, 3), (22, .ifCond .eq 33, 3), (25, .aload_n 0, 1), (26, .getfield 42, 3), (29, .aload_n 0, 1), (30, .getfield 12, 3), (33, .aload_n 0, 1), (34, .getfield 26, 3), (37, .aload_n 0, 1), (38, .getfield 35, 3), (41, .iload_n 2, 1), (42, .aaload, 1), (43, .aload_n 0, 1), (44, .getfield 35, 3), (47, .iload_n 2, 1), (48, .aaload, 1), (49, .getfield 282, 3), (52, .invokevirtual 237, 3), (55, .iinc 2 1, 3), (58, .goto (-51), 3), (61, .aload_n 0, 1), (62, .getfield 49, 3), (65, .iload_n 1, 1), (66, .aload_n 0, 1), (67, .getfield 35, 3), (70, .invokevirtual 285, 3), (73, .ireturn, 1)]
/-- Treeclerk.area(I)I -/
def gk_107 : List (Nat × Instr × Nat) := [(0, .aload_n 0, 1), (1, .iload_n 1, 1), (2, .invokevirtual 93, 3), (5, .aload_n 0, 1), (6, .getfield 49, 3), (9, .iload_n 1, 1), (10, .iconst 0, 1), (11, .bipush 60, 2), (13, .invokevirtual 262, 3), (16, .ireturn, 1)]
/-- Treeclerk.parcels()I -/
def gk_108 : List (Nat × Instr × Nat) := [(0, .iconst 0, 1), (1, .istore_n 1, 1), (2, .iconst 0, 1), (3, .istore_n 2, 1), (4, .iload_n 2, 1), (5, .bipush 60, 2), (7, .if_icmp .ge 36, 3), (10, .aload_n 0, 1), (11, .getfield 49, 3), (14, .iload_n 2, 1), (15, .invokevirtual 279, 3), (18, .iconst (-1), 1), (19, .if_icmp .eq 18, 3), (22, .aload_n 0, 1), (23, .getfield 49, 3), (26, .iload_n 2, 1), (27, .invokevirtual 289, 3), (30, .iload_n 2, 1), (31, .if_icmp .ne 6, 3), (34, .iinc 1 1, 3), (37, .iinc 2 1, 3), (40, .goto (-36), 3), (43, .iload_n 1, 1), (44, .ireturn, 1)]
/-- Treeclerk.parcelAt(I)I -/
def gk_109 : List (Nat × Instr × Nat) := [(0, .aload_n 0, 1), (1, .iload_n 1, 1), (2, .invokevirtual 276, 3), (5, .aload_n 0, 1), (6, .getfield 49, 3), (9, .iload_n 1, 1), (10, .invokevirtual 279, 3), (13, .iconst (-1), 1), (14, .if_icmp .ne 14, 3), (17, .new 292, 3), (20, .dup, 1), (21, .ldc_w 294, 3), (24, .invokespecial 296, 3), (27, .athrow, 1), (28, .aload_n 0, 1), (29, .getfield 49, 3), (32, .iload_n 1, 1), (33, .invokevirtual 289, 3), (36, .istore_n 2, 1), (37, .bipush 100, 2), (39, .iload_n 2, 1), (40, .imul, 1), (41, .aload_n 0, 1), (42, .getfield 49, 3), (45, .iload_n 1, 1), (46, .invokevirtual 297, 3), (49, .iadd, 1), (50, .iload_n 2, 1), (51, .isub, 1), (52, .ireturn, 1)]
/-- Treeclerk.requirePerson(I)V -/
def gk_110 : List (Nat × Instr × Nat) := [(0, .iload_n 1, 1), (1, .ifCond .lt 14, 3), (4, .iload_n 1, 1), (5, .aload_n 0, 1), (6, .getfield 12, 3), (9, .getfield 84, 3), (12, .if_icmp .lt 14, 3), (15, .new 151, 3), (18, .dup, 1), (19, .ldc_w 300, 3), (22, .invokespecial 155, 3), (25, .athrow, 1), (26, .return_, 1)]
/-- Treeclerk.requireProof(I)V -/
def gk_111 : List (Nat × Instr × Nat) := [(0, .iload_n 1, 1), (1, .ifCond .lt 14, 3), (4, .iload_n 1, 1), (5, .aload_n 0, 1), (6, .getfield 19, 3), (9, .getfield 123, 3), (12, .if_icmp .lt 14, 3), (15, .new 151, 3), (18, .dup, 1), (19, .ldc_w 302, 3), (22, .invokespecial 155, 3), (25, .athrow, 1), (26, .return_, 1)]
/-- Treeclerk.requireUnit(I)V -/
def gk_112 : List (Nat × Instr × Nat) := [(0, .iload_n 1, 1), (1, .ifCond .lt 9, 3), (4, .iload_n 1, 1), (5, .bipush 60, 2), (7, .if_icmp .lt 14, 3), (10, .new 151, 3), (13, .dup, 1), (14, .ldc_w 304, 3), (17, .invokespecial 155, 3), (20, .athrow, 1), (21, .return_, 1)]
/-- Treeclerk.requireWeight(II)V -/
def gk_113 : List (Nat × Instr × Nat) := [(0, .iload_n 1, 1), (1, .iload_n 2, 1), (2, .if_icmp .lt 9, 3), (5, .iload_n 1, 1), (6, .bipush 9, 2), (8, .if_icmp .le 14, 3), (11, .new 70, 3), (14, .dup, 1), (15, .ldc_w 306, 3), (18, .invokespecial 74, 3), (21, .athrow, 1), (22, .return_, 1)]
/-- Treeclerk.requireOthers(II)V -/
def gk_114 : List (Nat × Instr × Nat) := [(0, .iload_n 1, 1), (1, .iload_n 2, 1), (2, .if_icmp .ne 14, 3), (5, .new 70, 3), (8, .dup, 1), (9, .ldc_w 308, 3), (12, .invokespecial 74, 3), (15, .athrow, 1), (16, .return_, 1)]
/-- Treeclerk.requireUnits(II)V -/
def gk_115 : List (Nat × Instr × Nat) := [(0, .iload_n 1, 1), (1, .ifCond .lt 20, 3), (4, .iload_n 1, 1), (5, .bipush 60, 2), (7, .if_icmp .ge 14, 3), (10, .iload_n 2, 1), (11, .iload_n 1, 1), (12, .if_icmp .le 9, 3), (15, .iload_n 2, 1), (16, .bipush 60, 2), (18, .if_icmp .le 14, 3), (21, .new 70, 3), (24, .dup, 1), (25, .ldc_w 310, 3), (28, .invokespecial 74, 3), (31, .athrow, 1), (32, .return_, 1)]
/-- Treeclerk.requireAlive(I)V -/
def gk_116 : List (Nat × Instr × Nat) := [(0, .aload_n 0, 1), (1, .getfield 12, 3), (4, .iload_n 1, 1), (5, .invokevirtual 111, 3), (8, .ifCond .eq 14, 3), (11, .new 77, 3), (14, .dup, 1), (15, .ldc_w 312, 3), (18, .invokespecial 81, 3), (21, .athrow, 1), (22, .return_, 1)]
/-- Treeclerk.requireDead(I)V -/
def gk_117 : List (Nat × Instr × Nat) := [(0, .aload_n 0, 1), (1, .getfield 12, 3), (4, .iload_n 1, 1), (5, .invokevirtual 111, 3), (8, .ifCond .ne 14, 3), (11, .new 77, 3), (14, .dup, 1), (15, .ldc_w 314, 3), (18, .invokespecial 81, 3), (21, .athrow, 1), (22, .return_, 1)]
/-- Treeclerk.requireUnclosed(LTreeclerk$Estate;)V -/
def gk_118 : List (Nat × Instr × Nat) := [(0, .aload_n 1, 1), (1, .getfield 103, 3), (4, .ifCond .eq 14, 3), (7, .new 77, 3), (10, .dup, 1), (11, .ldc_w 316, 3), (14, .invokespecial 81, 3), (17, .athrow, 1), (18, .return_, 1)]
/-- Treeclerk.sharesNow(I)LTreeclerk$Shares; -/
def gk_119 : List (Nat × Instr × Nat) := [(0, .aload_n 0, 1), (1, .getfield 35, 3), (4, .iload_n 1, 1), (5, .aaload, 1), (6, .astore_n 2, 1), (7, .aload_n 2, 1), (8, .getfield 103, 3), (11, .ifCond .eq 8, 3), (14, .aload_n 2, 1), (15, .getfield 203, 3), (18, .areturn, 1), (19, .aload_n 0, 1), (20, .getfield 42, 3), (23, .aload_n 0, 1), (24, .getfield 12, 3), (27, .aload_n 0, 1), (28, .getfield 26, 3), (31, .aload_n 2, 1), (32, .aload_n 0, 1), (33, .getfield 56, 3), (36, .invokevirtual 206, 3), (39, .aload_n 0, 1), (40, .getfield 56, 3), (43, .areturn, 1)]
/-- Treeclerk.wouldBeOthers(LTreeclerk$Estate;LTreeclerk$Shares;I)Z -/
def gk_120 : List (Nat × Instr × Nat) := [(0, .aload_n 0, 1), (1, .getfield 19, 3), (4, .iload_n 3, 1), (5, .invokevirtual 165, 3), (8, .ifCond .ne 5, 3), (11, .iconst 0, 1), (12, .ireturn, 1), (13, .aload_n 0, 1), (14, .getfield 30, 3), (17, .aload_n 0, 1), (18, .getfield 19, 3), (21, .iload_n 3, 1), (22, .invokevirtual 318, 3), (25, .aload_n 0, 1), (26, .getfield 42, 3), (29, .aload_n 0, 1), (30, .getfield 12, 3), (33, .aload_n 0, 1), (34, .getfield 30, 3), (37, .aload_n 1, 1), (38, .aload_n 0, 1), (39, .getfield 60, 3), (42, .invokevirtual 206, 3), (45, .aload_n 0, 1), (46, .getfield 60, 3), (49, .aload_n 2, 1), (50, .invokevirtual 322, 3), (53, .ifCond .ne 7, 3), (56, .iconst 1, 1), (57, .goto 4, 3), (60, .iconst 0, 1), (61, .ireturn, 1)]
/-- Treeclerk.retellKin()I -/
def gk_121 : List (Nat × Instr × Nat) := [(0, .aload_n 0, 1), (1, .getfield 26, 3), (4, .aload_n 0, 1), (5, .getfield 19, 3), (8, .iconst (-1), 1), (9, .invokevirtual 318, 3), (12, .sipush 134, 3), (15, .istore_n 1, 1), (16, .iconst 0, 1), (17, .istore_n 2, 1), (18, .iload_n 2, 1), (19, .bipush 14, 2), (21, .if_icmp .ge 40, 3), (24, .aload_n 0, 1), (25, .getfield 35, 3), (28, .iload_n 2, 1), (29, .aaload, 1), (30, .astore_n 3, 1), (31, .aload_n 3, 1), (32, .getfield 103, 3), (35, .ifCond .eq 20, 3), (38, .aload_n 0, 1), (39, .aload_n 3, 1), (40, .invokevirtual 326, 3), (43, .ifCond .eq 12, 3), (46, .iload_n 1, 1), (47, .aload_n 3, 1), (48, .getfield 220, 3), (51, .invokestatic 330, 3), (54, .istore_n 1, 1), (55, .iinc 2 1, 3), (58, .goto (-40), 3), (61, .aload_n 0, 1), (62, .getfield 49, 3), (65, .iload_n 1, 1), (66, .aload_n 0, 1), (67, .getfield 35, 3), (70, .invokevirtual 335, 3), (73, .ireturn, 1)]
/-- Treeclerk.reopen(LTreeclerk$Estate;)Z -/
def gk_122 : List (Nat × Instr × Nat) := [(0, .aload_n 0, 1), (1, .getfield 42, 3), (4, .aload_n 0, 1), (5, .getfield 12, 3), (8, .aload_n 0, 1), (9, .getfield 26, 3), (12, .aload_n 1, 1), (13, .aload_n 0, 1), (14, .getfield 56, 3), (17, .invokevirtual 206, 3), (20, .aload_n 0, 1), (21, .getfield 56, 3), (24, .aload_n 1, 1), (25, .getfield 203, 3), (28, .invokevirtual 322, 3), (31, .ifCond .eq 5, 3), (34, .iconst 0, 1), (35, .ireturn, 1), (36, .aload_n 1, 1), (37, .getfield 203, 3), (40, .aload_n 0, 1), (41, .getfield 56, 3), (44, .invokevirtual 338, 3), (47, .aload_n 1, 1), (48, .dup, 1), (49, .getfield 247, 3), (52, .iconst 1, 1), (53, .iadd, 1), (54, .putfield 247, 3), (57, .iconst 1, 1), (58, .ireturn, 1)]
/-- Treeclerk.isIn(II)Z -/
def gk_123 : List (Nat × Instr × Nat) := [(0, .iload_n 1, 1), (1, .ifCond .lt 21, 3), (4, .iload_n 1, 1), (5, .bipush 14, 2), (7, .if_icmp .ge 15, 3), (10, .iload_n 0, 1), (11, .iload_n 1, 1), (12, .ishr, 1), (13, .iconst 1, 1), (14, .iand, 1), (15, .ifCond .eq 7, 3), (18, .iconst 1, 1), (19, .goto 4, 3), (22, .iconst 0, 1), (23, .ireturn, 1)]
/-- java/lang/Integer.bitCount(I)I -/
def gk_124 : List (Nat × Instr × Nat) := [(0, .iload_n 0, 1), (1, .iload_n 0, 1), (2, .iconst 1, 1), (3, .iushr, 1), (4, .ldc_w 265, 3), (7, .iand, 1), (8, .isub, 1), (9, .istore_n 0, 1), (10, .iload_n 0, 1), (11, .ldc_w 266, 3), (14, .iand, 1), (15, .iload_n 0, 1), (16, .iconst 2, 1), (17, .iushr, 1), (18, .ldc_w 266, 3), (21, .iand, 1), (22, .iadd, 1), (23, .istore_n 0, 1), (24, .iload_n 0, 1), (25, .iload_n 0, 1), (26, .iconst 4, 1), (27, .iushr, 1), (28, .iadd, 1), (29, .ldc_w 267, 3), (32, .iand, 1), (33, .istore_n 0, 1), (34, .iload_n 0, 1), (35, .iload_n 0, 1), (36, .bipush 8, 2), (38, .iushr, 1), (39, .iadd, 1), (40, .istore_n 0, 1), (41, .iload_n 0, 1), (42, .iload_n 0, 1), (43, .bipush 16, 2), (45, .iushr, 1), (46, .iadd, 1), (47, .istore_n 0, 1), (48, .iload_n 0, 1), (49, .bipush 63, 2), (51, .iand, 1), (52, .ireturn, 1)]
/-- java/util/Arrays.fill([II)V -/
def gk_125 : List (Nat × Instr × Nat) := [(0, .iconst 0, 1), (1, .istore_n 2, 1), (2, .aload_n 0, 1), (3, .arraylength, 1), (4, .istore_n 3, 1), (5, .iload_n 2, 1), (6, .iload_n 3, 1), (7, .if_icmp .ge 13, 3), (10, .aload_n 0, 1), (11, .iload_n 2, 1), (12, .iload_n 1, 1), (13, .iastore, 1), (14, .iinc 2 1, 3), (17, .goto (-12), 3), (20, .return_, 1)]
/-- java/util/Arrays.fill([JJ)V -/
def gk_126 : List (Nat × Instr × Nat) := [(0, .iconst 0, 1), (1, .istore_n 3, 1), (2, .aload_n 0, 1), (3, .arraylength, 1), (4, .istore 4, 2), (6, .iload_n 3, 1), (7, .iload 4, 2), (9, .if_icmp .ge 13, 3), (12, .aload_n 0, 1), (13, .iload_n 3, 1), (14, .lload_n 1, 1), (15, .lastore, 1), (16, .iinc 3 1, 3), (19, .goto (-13), 3), (22, .return_, 1)]
/-- TreeclerkLaw.drawn([II)I -/
def gk_127 : List (Nat × Instr × Nat) := [(0, .iload_n 1, 1), (1, .aload_n 0, 1), (2, .arraylength, 1), (3, .if_icmp .ge 9, 3), (6, .aload_n 0, 1), (7, .iload_n 1, 1), (8, .iaload, 1), (9, .goto 12, 3), (12, .sipush 12413, 3), (15, .iload_n 1, 1), (16, .imul, 1), (17, .sipush 8017, 3), (20, .iadd, 1), (21, .istore_n 2, 1), (22, .iload_n 2, 1), (23, .ldc 7, 2), (25, .iand, 1), (26, .ireturn, 1)]
/-- TreeclerkLaw.act(LTreeclerk;II)I -/
def gk_128 : List (Nat × Instr × Nat) := [(0, .iload_n 1, 1), (1, .ifCond .ne 11, 3), (4, .aload_n 0, 1), (5, .iload_n 2, 1), (6, .invokevirtual 8, 3), (9, .goto 34, 3), (12, .iload_n 1, 1), (13, .iconst 1, 1), (14, .if_icmp .ne 11, 3), (17, .aload_n 0, 1), (18, .iload_n 2, 1), (19, .invokevirtual 14, 3), (22, .goto 21, 3), (25, .iload_n 1, 1), (26, .iconst 2, 1), (27, .if_icmp .ne 11, 3), (30, .aload_n 0, 1), (31, .iload_n 2, 1), (32, .invokevirtual 17, 3), (35, .goto 8, 3), (38, .aload_n 0, 1), (39, .iload_n 2, 1), (40, .invokevirtual 20, 3), (43, .ireturn, 1), (44, .astore_n 3, 1), (45, .bipush (-8), 2), (47, .ireturn, 1), (48, .astore_n 3, 1), (49, .bipush (-8), 2), (51, .ireturn, 1), (52, .astore_n 3, 1), (53, .bipush (-8), 2), (55, .ireturn, 1)]
/-- TreeclerkLaw.does(LTreeclerk;III)I -/
def gk_129 : List (Nat × Instr × Nat) := [(0, .iload_n 1, 1), (1, .ifCond .ne 12, 3), (4, .aload_n 0, 1), (5, .iload_n 2, 1), (6, .iload_n 3, 1), (7, .invokevirtual 29, 3), (10, .goto 32, 3), (13, .iload_n 1, 1), (14, .iconst 1, 1), (15, .if_icmp .ne 21, 3), (18, .aload_n 0, 1), (19, .iload_n 2, 1), (20, .iload_n 3, 1), (21, .iconst 1, 1), (22, .if_icmp .ne 7, 3), (25, .iconst 1, 1), (26, .goto 4, 3), (29, .iconst 0, 1), (30, .invokevirtual 33, 3), (33, .goto 9, 3), (36, .aload_n 0, 1), (37, .iload_n 2, 1), (38, .iload_n 3, 1), (39, .invokevirtual 37, 3), (42, .ireturn, 1), (43, .astore 4, 2), (45, .bipush (-8), 2), (47, .ireturn, 1), (48, .astore 4, 2), (50, .bipush (-8), 2), (52, .ireturn, 1), (53, .astore 4, 2), (55, .bipush (-8), 2), (57, .ireturn, 1)]
/-- TreeclerkLaw.tell(LTreeclerk;IIII)I -/
def gk_130 : List (Nat × Instr × Nat) := [(0, .iload_n 1, 1), (1, .ifCond .ne 14, 3), (4, .aload_n 0, 1), (5, .iload_n 2, 1), (6, .iload_n 3, 1), (7, .iload 4, 2), (9, .invokevirtual 40, 3), (12, .goto 27, 3), (15, .iload_n 1, 1), (16, .iconst 1, 1), (17, .if_icmp .ne 14, 3), (20, .aload_n 0, 1), (21, .iload_n 2, 1), (22, .iload_n 3, 1), (23, .iload 4, 2), (25, .invokevirtual 44, 3), (28, .goto 11, 3), (31, .aload_n 0, 1), (32, .iload_n 2, 1), (33, .iload_n 3, 1), (34, .iload 4, 2), (36, .invokevirtual 47, 3), (39, .ireturn, 1), (40, .astore 5, 2), (42, .bipush (-8), 2), (44, .ireturn, 1), (45, .astore 5, 2), (47, .bipush (-8), 2), (49, .ireturn, 1), (50, .astore 5, 2), (52, .bipush (-8), 2), (54, .ireturn, 1)]
/-- TreeclerkLaw.hand(LTreeclerk;IIII)I -/
def gk_131 : List (Nat × Instr × Nat) := [(0, .aload_n 0, 1), (1, .iload_n 1, 1), (2, .iload_n 2, 1), (3, .iload_n 3, 1), (4, .iload 4, 2), (6, .invokevirtual 50, 3), (9, .ireturn, 1), (10, .astore 5, 2), (12, .bipush (-8), 2), (14, .ireturn, 1), (15, .astore 5, 2), (17, .bipush (-8), 2), (19, .ireturn, 1), (20, .astore 5, 2), (22, .bipush (-8), 2), (24, .ireturn, 1)]
/-- TreeclerkLaw.share(LTreeclerk;III)J -/
def gk_132 : List (Nat × Instr × Nat) := [(0, .iload_n 1, 1), (1, .ifCond .ne 12, 3), (4, .aload_n 0, 1), (5, .iload_n 2, 1), (6, .iload_n 3, 1), (7, .invokevirtual 54, 3), (10, .goto 23, 3), (13, .iload_n 1, 1), (14, .iconst 1, 1), (15, .if_icmp .ne 12, 3), (18, .aload_n 0, 1), (19, .iload_n 2, 1), (20, .iload_n 3, 1), (21, .invokevirtual 58, 3), (24, .goto 9, 3), (27, .aload_n 0, 1), (28, .iload_n 2, 1), (29, .iload_n 3, 1), (30, .invokevirtual 61, 3), (33, .lreturn, 1), (34, .astore 4, 2), (36, .ldc2_w 64, 3), (39, .lreturn, 1), (40, .astore 4, 2), (42, .ldc2_w 64, 3), (45, .lreturn, 1)]
/-- TreeclerkLaw.of(LTreeclerk;II)I -/
def gk_133 : List (Nat × Instr × Nat) := [(0, .iload_n 1, 1), (1, .ifCond .ne 19, 3), (4, .aload_n 0, 1), (5, .iload_n 2, 1), (6, .invokevirtual 66, 3), (9, .ifCond .eq 7, 3), (12, .iconst 1, 1), (13, .goto 141, 3), (16, .iconst 0, 1), (17, .goto 137, 3), (20, .iload_n 1, 1), (21, .iconst 1, 1), (22, .if_icmp .ne 11, 3), (25, .aload_n 0, 1), (26, .iload_n 2, 1), (27, .invokevirtual 70, 3), (30, .goto 124, 3), (33, .iload_n 1, 1), (34, .iconst 2, 1), (35, .if_icmp .ne 11, 3), (38, .aload_n 0, 1), (39, .iload_n 2, 1), (40, .invokevirtual 73, 3), (43, .goto 111, 3), (46, .iload_n 1, 1), (47, .iconst 3, 1), (48, .if_icmp .ne 19, 3), (51, .aload_n 0, 1), (52, .iload_n 2, 1), (53, .invokevirtual 76, 3), (56, .ifCond .eq 7, 3), (59, .iconst 1, 1), (60, .goto 94, 3), (63, .iconst 0, 1), (64, .goto 90, 3), (67, .iload_n 1, 1), (68, .iconst 4, 1), (69, .if_icmp .ne 11, 3), (72, .aload_n 0, 1), (73, .iload_n 2, 1), (74, .invokevirtual 79, 3), (77, .goto 77, 3), (80, .iload_n 1, 1), (81, .iconst 5, 1), (82, .if_icmp .ne 11, 3), (85, .aload_n 0, 1), (86, .iload_n 2, 1), (87, .invokevirtual 82, 3), (90, .goto 64, 3), (93, .iload_n 1, 1), (94, .bipush 6, 2), (96, .if_icmp .ne 11, 3), (99, .aload_n 0, 1), (100, .iload_n 2, 1), (101, .invokevirtual 85, 3), (104, .goto 50, 3), (107, .iload_n 1, 1), (108, .bipush 7, 2), (110, .if_icmp .ne 11, 3), (113, .aload_n 0, 1), (114, .iload_n 2, 1), (115, .invokevirtual 88, 3), (118, .goto 36, 3), (121, .iload_n 1, 1), (122, .bipush 8, 2), (124, .if_icmp .ne 11, 3), (127, .aload_n 0, 1), (128, .iload_n 2, 1), (129, .invokevirtual 91, 3), (132, .goto 22, 3), (135, .iload_n 1, 1), (136, .bipush 9, 2), (138, .if_icmp .ne 11, 3), (141, .aload_n 0, 1), (142, .iload_n 2, 1), (143, .invokevirtual 94, 3), (146, .goto 8, 3), (149, .aload_n 0, 1), (150, .iload_n 2, 1), (151, .invokevirtual 97, 3), (154, .ireturn, 1), (155, .astore_n 3, 1), (156, .bipush (-8), 2), (158, .ireturn, 1), (159, .astore_n 3, 1), (160, .bipush (-8), 2), (162, .ireturn, 1)]
/-- TreeclerkLaw.parent(LTreeclerk;II)I -/
def gk_134 : List (Nat × Instr × Nat) := [(0, .aload_n 0, 1), (1, .iload_n 1, 1), (2, .iload_n 2, 1), (3, .invokevirtual 100, 3), (6, .ireturn, 1), (7, .astore_n 3, 1), (8, .bipush (-8), 2), (10, .ireturn, 1), (11, .astore_n 3, 1), (12, .bipush (-8), 2), (14, .ireturn, 1)]
/-- TreeclerkLaw.parcel(LTreeclerk;I)I -/
def gk_135 : List (Nat × Instr × Nat) := [(0, .aload_n 0, 1), (1, .iload_n 1, 1), (2, .invokevirtual 103, 3), (5, .ireturn, 1), (6, .astore_n 2, 1), (7, .bipush (-8), 2), (9, .ireturn, 1), (10, .astore_n 2, 1), (11, .bipush (-8), 2), (13, .ireturn, 1)]
/-- TreeclerkLaw.same(LTreeclerk;LTreeclerk;II)Z -/
def gk_136 : List (Nat × Instr × Nat) := [(0, .iload_n 2, 1), (1, .ifCond .ne 7, 3), (4, .iconst 0, 1), (5, .goto 6, 3), (8, .iload_n 3, 1), (9, .iload_n 2, 1), (10, .irem, 1), (11, .istore 4, 2), (13, .iload_n 2, 1), (14, .ifCond .ne 7, 3), (17, .iconst 0, 1), (18, .goto 9, 3), (21, .iload_n 3, 1), (22, .bipush 14, 2), (24, .idiv, 1), (25, .iload_n 2, 1), (26, .irem, 1), (27, .istore 5, 2), (29, .iload_n 3, 1), (30, .sipush 196, 3), (33, .idiv, 1), (34, .bipush 12, 2), (36, .irem, 1), (37, .istore 6, 2), (39, .iload_n 3, 1), (40, .bipush 7, 2), (42, .idiv, 1), (43, .bipush 60, 2), (45, .irem, 1), (46, .istore 7, 2), (48, .aload_n 1, 1), (49, .invokevirtual 108, 3), (52, .iconst 2, 1), (53, .aload_n 0, 1), (54, .invokevirtual 108, 3), (57, .imul, 1), (58, .if_icmp .ne 76, 3), (61, .aload_n 0, 1), (62, .invokevirtual 112, 3), (65, .aload_n 1, 1), (66, .invokevirtual 112, 3), (69, .if_icmp .ne 65, 3), (72, .aload_n 0, 1), (73, .invokevirtual 115, 3), (76, .aload_n 1, 1), (77, .invokevirtual 115, 3), (80, .if_icmp .ne 54, 3), (83, .aload_n 0, 1), (84, .invokevirtual 118, 3), (87, .aload_n 1, 1), (88, .invokevirtual 118, 3), (91, .if_icmp .ne 43, 3), (94, .aload_n 0, 1), (95, .iload 7, 2), (97, .invokestatic 121, 3), (100, .aload_n 1, 1), (101, .iload 7, 2), (103, .invokestatic 121, 3), (106, .if_icmp .ne 28, 3), (109, .aload_n 0, 1), (110, .iload 4, 2), (112, .iload_n 3, 1), (113, .iconst 2, 1), (114, .irem, 1), (115, .invokestatic 127, 3), (118, .aload_n 1, 1), (119, .iload 4, 2), (121, .iload_n 3, 1), (122, .iconst 2, 1), (123, .irem, 1), (124, .invokestatic 127, 3), (127, .if_icmp .ne 7, 3), (130, .iconst 1, 1), (131, .goto 4, 3), (134, .iconst 0, 1), (135, .istore 8, 2), (137, .iconst 0, 1), (138, .istore 9, 2), (140, .iload 9, 2), (142, .bipush 11, 2), (144, .if_icmp .ge 68, 3), (147, .iload 8, 2), (149, .ifCond .eq 63, 3), (152, .iload 9, 2), (154, .bipush 8, 2), (156, .if_icmp .ge 8, 3), (159, .iload 4, 2), (161, .goto 17, 3), (164, .iload 9, 2), (166, .bipush 8, 2), (168, .if_icmp .ne 8, 3), (171, .iload 6, 2), (173, .goto 5, 3), (176, .iload 7, 2), (178, .istore 10, 2), (180, .aload_n 0, 1), (181, .iload 9, 2), (183, .iload 10, 2), (185, .invokestatic 131, 3), (188, .aload_n 1, 1), (189, .iload 9, 2), (191, .iload 10, 2), (193, .invokestatic 131, 3), (196, .if_icmp .ne 7, 3), (199, .iconst 1, 1), (200, .goto 4, 3), (203, .iconst 0, 1), (204, .istore 8, 2), (206, .iinc 9 1, 3), (209, .goto (-69), 3), (212, .iconst 0, 1), (213, .istore 9, 2), (215, .iload 9, 2), (217, .iconst 3, 1), (218, .if_icmp .ge 45, 3), (221, .iload 8, 2), (223, .ifCond .eq 40, 3), (226, .aload_n 0, 1), (227, .iload 9, 2), (229, .iload 4, 2), (231, .iload 5, 2), (233, .invokestatic 134, 3), (236, .aload_n 1, 1), (237, .iload 9, 2), (239, .iload 4, 2), (241, .iload 5, 2), (243, .invokestatic 134, 3), (246, .lcmp, 1), (247, .ifCond .ne 7, 3), (250, .iconst 1, 1), (251, .goto 4, 3), (254, .iconst 0, 1), (255, .istore 8, 2), (257, .iinc 9 1, 3), (260, .goto (-45), 3), (263, .iload 8, 2), (265, .ireturn, 1)]
/-- the law -/
def gk_law : List (Nat × Instr × Nat) := [(0, .new 9, 3), (3, .dup, 1), (4, .invokespecial 138, 3), (7, .astore_n 1, 1), (8, .new 9, 3), (11, .dup, 1), (12, .invokespecial 138, 3), (15, .astore_n 2, 1), (16, .iconst 0, 1), (17, .istore_n 3, 1), (18, .aload_n 1, 1), (19, .iconst 0, 1), (20, .bipush 40, 2), (22, .invokestatic 139, 3), (25, .bipush 40, 2), (27, .if_icmp .ne 19, 3), (30, .aload_n 2, 1), (31, .iconst 0, 1), (32, .bipush 80, 2), (34, .invokestatic 139, 3), (37, .bipush 80, 2), (39, .if_icmp .ne 7, 3), (42, .iconst 1, 1), (43, .goto 4, 3), (46, .iconst 0, 1), (47, .istore 4, 2), (49, .iconst 0, 1), (50, .istore 5, 2), (52, .iload 5, 2), (54, .bipush 120, 2), (56, .if_icmp .ge 719, 3), (59, .iload 4, 2), (61, .ifCond .eq 714, 3), (64, .aload_n 0, 1), (65, .iload 5, 2), (67, .bipush 60, 2), (69, .irem, 1), (70, .invokestatic 142, 3), (73, .iconst 1, 1), (74, .iload 5, 2), (76, .bipush 60, 2), (78, .idiv, 1), (79, .iadd, 1), (80, .idiv, 1), (81, .bipush 7, 2), (83, .iload 5, 2), (85, .bipush 60, 2), (87, .idiv, 1), (88, .imul, 1), (89, .iadd, 1), (90, .istore 6, 2), (92, .iload 5, 2), (94, .iconst 4, 1), (95, .if_icmp .ge 7, 3), (98, .iconst 0, 1), (99, .goto 8, 3), (102, .iload 6, 2), (104, .bipush 34, 2), (106, .irem, 1), (107, .istore 7, 2), (109, .iload 6, 2), (111, .bipush 34, 2), (113, .idiv, 1), (114, .istore 8, 2), (116, .iload_n 3, 1), (117, .ifCond .ne 7, 3), (120, .iconst 0, 1), (121, .goto 7, 3), (124, .iload 8, 2), (126, .iload_n 3, 1), (127, .irem, 1), (128, .istore 9, 2), (130, .iload_n 3, 1), (131, .ifCond .ne 7, 3), (134, .iconst 0, 1), (135, .goto 10, 3), (138, .iload 8, 2), (140, .bipush 14, 2), (142, .idiv, 1), (143, .iload_n 3, 1), (144, .irem, 1), (145, .istore 10, 2), (147, .iload 8, 2), (149, .sipush 196, 3), (152, .idiv, 1), (153, .bipush 60, 2), (155, .irem, 1), (156, .istore 11, 2), (158, .iload 11, 2), (160, .iconst 1, 1), (161, .iadd, 1), (162, .iload 8, 2), (164, .bipush 15, 2), (166, .irem, 1), (167, .iadd, 1), (168, .istore 12, 2), (170, .iload 7, 2), (172, .iconst 2, 1), (173, .if_icmp .ge 60, 3), (176, .iload 8, 2), (178, .aload_n 1, 1), (179, .invokevirtual 108, 3), (182, .iconst 1, 1), (183, .iadd, 1), (184, .irem, 1), (185, .istore 13, 2), (187, .aload_n 1, 1), (188, .iconst 1, 1), (189, .iload 13, 2), (191, .invokestatic 139, 3), (194, .istore 14, 2), (196, .iload_n 3, 1), (197, .iload 14, 2), (199, .ifCond .lt 7, 3), (202, .iconst 1, 1), (203, .goto 4, 3), (206, .iconst 0, 1), (207, .iadd, 1), (208, .istore_n 3, 1), (209, .aload_n 2, 1), (210, .iconst 1, 1), (211, .iconst 2, 1), (212, .iload 13, 2), (214, .imul, 1), (215, .invokestatic 139, 3), (218, .iload 14, 2), (220, .if_icmp .ne 7, 3), (223, .iconst 1, 1), (224, .goto 4, 3), (227, .iconst 0, 1), (228, .istore 4, 2), (230, .goto 506, 3), (233, .iload 7, 2), (235, .iconst 4, 1), (236, .if_icmp .ge 78, 3), (239, .aload_n 1, 1), (240, .invokevirtual 108, 3), (243, .sipush 900, 3), (246, .if_icmp .le 7, 3), (249, .iconst 0, 1), (250, .goto 10, 3), (253, .iconst 1, 1), (254, .iload 8, 2), (256, .bipush 12, 2), (258, .irem, 1), (259, .iadd, 1), (260, .istore 13, 2), (262, .iload 13, 2), (264, .ifCond .ne 10, 3), (267, .aload_n 1, 1), (268, .invokevirtual 108, 3), (271, .goto 10, 3), (274, .aload_n 1, 1), (275, .iconst 0, 1), (276, .iload 13, 2), (278, .invokestatic 139, 3), (281, .istore 14, 2), (283, .iload 13, 2), (285, .ifCond .eq 19, 3), (288, .aload_n 2, 1), (289, .iconst 0, 1), (290, .iconst 2, 1), (291, .iload 13, 2), (293, .imul, 1), (294, .invokestatic 139, 3), (297, .iconst 2, 1), (298, .iload 14, 2), (300, .imul, 1), (301, .if_icmp .ne 7, 3), (304, .iconst 1, 1), (305, .goto 4, 3), (308, .iconst 0, 1), (309, .istore 4, 2), (311, .goto 425, 3), (314, .iload 7, 2), (316, .bipush 12, 2), (318, .if_icmp .ge 56, 3), (321, .aload_n 1, 1), (322, .iconst 0, 1), (323, .iload 9, 2), (325, .iload 10, 2), (327, .iconst 1, 1), (328, .iload 8, 2), (330, .sipush 196, 3), (333, .idiv, 1), (334, .bipush 9, 2), (336, .irem, 1), (337, .iadd, 1), (338, .invokestatic 146, 3), (341, .aload_n 2, 1), (342, .iconst 0, 1), (343, .iload 9, 2), (345, .iload 10, 2), (347, .iconst 1, 1), (348, .iload 8, 2), (350, .sipush 196, 3), (353, .idiv, 1), (354, .bipush 9, 2), (356, .irem, 1), (357, .iadd, 1), (358, .invokestatic 146, 3), (361, .if_icmp .ne 7, 3), (364, .iconst 1, 1), (365, .goto 4, 3), (368, .iconst 0, 1), (369, .istore 4, 2), (371, .goto 365, 3), (374, .iload 7, 2), (376, .bipush 15, 2), (378, .if_icmp .ge 56, 3), (381, .aload_n 1, 1), (382, .iconst 0, 1), (383, .iload 8, 2), (385, .bipush 12, 2), (387, .irem, 1), (388, .iconst 1, 1), (389, .iload 8, 2), (391, .bipush 12, 2), (393, .idiv, 1), (394, .bipush 9, 2), (396, .irem, 1), (397, .iadd, 1), (398, .invokestatic 150, 3), (401, .aload_n 2, 1), (402, .iconst 0, 1), (403, .iload 8, 2), (405, .bipush 12, 2), (407, .irem, 1), (408, .iconst 1, 1), (409, .iload 8, 2), (411, .bipush 12, 2), (413, .idiv, 1), (414, .bipush 9, 2), (416, .irem, 1), (417, .iadd, 1), (418, .invokestatic 150, 3), (421, .if_icmp .ne 7, 3), (424, .iconst 1, 1), (425, .goto 4, 3), (428, .iconst 0, 1), (429, .istore 4, 2), (431, .goto 305, 3), (434, .iload 7, 2), (436, .bipush 18, 2), (438, .if_icmp .ge 50, 3), (441, .aload_n 1, 1), (442, .iconst 1, 1), (443, .iload 8, 2), (445, .bipush 8, 2), (447, .irem, 1), (448, .iload 8, 2), (450, .bipush 8, 2), (452, .idiv, 1), (453, .iconst 2, 1), (454, .irem, 1), (455, .invokestatic 150, 3), (458, .aload_n 2, 1), (459, .iconst 1, 1), (460, .iload 8, 2), (462, .bipush 8, 2), (464, .irem, 1), (465, .iload 8, 2), (467, .bipush 8, 2), (469, .idiv, 1), (470, .iconst 2, 1), (471, .irem, 1), (472, .invokestatic 150, 3), (475, .if_icmp .ne 7, 3), (478, .iconst 1, 1), (479, .goto 4, 3), (482, .iconst 0, 1), (483, .istore 4, 2), (485, .goto 251, 3), (488, .iload 7, 2), (490, .bipush 20, 2), (492, .if_icmp .ge 40, 3), (495, .iload 8, 2), (497, .bipush 14, 2), (499, .idiv, 1), (500, .iconst 2, 1), (501, .irem, 1), (502, .ifCond .gt 20, 3), (505, .aload_n 1, 1), (506, .iconst 2, 1), (507, .iload 9, 2), (509, .invokestatic 139, 3), (512, .aload_n 2, 1), (513, .iconst 2, 1), (514, .iload 9, 2), (516, .invokestatic 139, 3), (519, .if_icmp .ne 7, 3), (522, .iconst 1, 1), (523, .goto 4, 3), (526, .iconst 0, 1), (527, .istore 4, 2), (529, .goto 207, 3), (532, .iload 7, 2), (534, .bipush 23, 2), (536, .if_icmp .ge 52, 3), (539, .aload_n 1, 1), (540, .iconst 1, 1), (541, .iload 9, 2), (543, .iload 10, 2), (545, .iload 8, 2), (547, .sipush 196, 3), (550, .idiv, 1), (551, .bipush 10, 2), (553, .irem, 1), (554, .invokestatic 146, 3), (557, .aload_n 2, 1), (558, .iconst 1, 1), (559, .iload 9, 2), (561, .iload 10, 2), (563, .iload 8, 2), (565, .sipush 196, 3), (568, .idiv, 1), (569, .bipush 10, 2), (571, .irem, 1), (572, .invokestatic 146, 3), (575, .if_icmp .ne 7, 3), (578, .iconst 1, 1), (579, .goto 4, 3), (582, .iconst 0, 1), (583, .istore 4, 2), (585, .goto 151, 3), (588, .iload 7, 2), (590, .bipush 25, 2), (592, .if_icmp .ge 34, 3), (595, .aload_n 1, 1), (596, .iconst 2, 1), (597, .iload 9, 2), (599, .iload 10, 2), (601, .invokestatic 150, 3), (604, .aload_n 2, 1), (605, .iconst 2, 1), (606, .iload 9, 2), (608, .iload 10, 2), (610, .invokestatic 150, 3), (613, .if_icmp .ne 7, 3), (616, .iconst 1, 1), (617, .goto 4, 3), (620, .iconst 0, 1), (621, .istore 4, 2), (623, .goto 113, 3), (626, .iload 7, 2), (628, .bipush 27, 2), (630, .if_icmp .ge 30, 3), (633, .aload_n 1, 1), (634, .iconst 3, 1), (635, .iload 9, 2), (637, .invokestatic 139, 3), (640, .aload_n 2, 1), (641, .iconst 3, 1), (642, .iload 9, 2), (644, .invokestatic 139, 3), (647, .if_icmp .ne 7, 3), (650, .iconst 1, 1), (651, .goto 4, 3), (654, .iconst 0, 1), (655, .istore 4, 2), (657, .goto 79, 3), (660, .iload 7, 2), (662, .bipush 30, 2), (664, .if_icmp .ge 40, 3), (667, .aload_n 1, 1), (668, .iload 9, 2), (670, .iload 10, 2), (672, .iload 11, 2), (674, .iload 12, 2), (676, .invokestatic 154, 3), (679, .aload_n 2, 1), (680, .iload 9, 2), (682, .iload 10, 2), (684, .iload 11, 2), (686, .iload 12, 2), (688, .invokestatic 154, 3), (691, .if_icmp .ne 7, 3), (694, .iconst 1, 1), (695, .goto 4, 3), (698, .iconst 0, 1), (699, .istore 4, 2), (701, .goto 35, 3), (704, .aload_n 1, 1), (705, .iconst 2, 1), (706, .iload 9, 2), (708, .iload 11, 2), (710, .iload 12, 2), (712, .invokestatic 146, 3), (715, .aload_n 2, 1), (716, .iconst 2, 1), (717, .iload 9, 2), (719, .iload 11, 2), (721, .iload 12, 2), (723, .invokestatic 146, 3), (726, .if_icmp .ne 7, 3), (729, .iconst 1, 1), (730, .goto 4, 3), (733, .iconst 0, 1), (734, .istore 4, 2), (736, .iload 4, 2), (738, .ifCond .eq 28, 3), (741, .iload 5, 2), (743, .iconst 3, 1), (744, .irem, 1), (745, .iconst 2, 1), (746, .if_icmp .lt 16, 3), (749, .aload_n 1, 1), (750, .aload_n 2, 1), (751, .iload_n 3, 1), (752, .iload 6, 2), (754, .iconst 3, 1), (755, .idiv, 1), (756, .invokestatic 156, 3), (759, .ifCond .eq 7, 3), (762, .iconst 1, 1), (763, .goto 4, 3), (766, .iconst 0, 1), (767, .istore 4, 2), (769, .iinc 5 1, 3), (772, .goto (-720), 3), (775, .iload 4, 2), (777, .ireturn, 1)]
def gh_mt0 : List (Nat × Option FieldType × (Nat → Nat → Option (Nat × Nat)) × List (Nat × Instr × Nat)) := [(0, none, fun _ _ => none, gk_0), (0, none, fun _ _ => none, gk_1), (0, none, fun _ _ => none, gk_2), (0, none, fun _ _ => none, gk_3), (0, none, fun _ _ => none, gk_4), (0, none, fun _ _ => none, gk_5), (0, none, fun _ _ => none, gk_6), (0, none, fun _ _ => none, gk_7), (0, some Jvm.ClassFile.FieldType.int, fun _ _ => none, gk_8), (0, some Jvm.ClassFile.FieldType.int, fun _ _ => none, gk_9), (0, none, fun _ _ => none, gk_10), (0, some Jvm.ClassFile.FieldType.int, fun _ _ => none, gk_11), (1, none, fun _ _ => none, gk_12), (1, some Jvm.ClassFile.FieldType.int, fun _ _ => none, gk_13), (1, some Jvm.ClassFile.FieldType.int, fun _ _ => none, gk_14), (1, some Jvm.ClassFile.FieldType.boolean, fun _ _ => none, gk_15), (1, none, fun _ _ => none, gk_16), (1, some Jvm.ClassFile.FieldType.boolean, fun _ _ => none, gk_17), (1, some Jvm.ClassFile.FieldType.int, fun _ _ => none, gk_18), (1, some Jvm.ClassFile.FieldType.int, fun _ _ => none, gk_19), (1, some Jvm.ClassFile.FieldType.int, fun _ _ => none, gk_20), (2, none, fun _ _ => none, gk_21), (2, some Jvm.ClassFile.FieldType.int, fun _ _ => none, gk_22), (2, none, fun _ _ => none, gk_23), (2, some Jvm.ClassFile.FieldType.boolean, fun _ _ => none, gk_24)]
def gh_mt1 : List (Nat × Option FieldType × (Nat → Nat → Option (Nat × Nat)) × List (Nat × Instr × Nat)) := [(2, some Jvm.ClassFile.FieldType.int, fun _ _ => none, gk_25), (2, some Jvm.ClassFile.FieldType.int, fun _ _ => none, gk_26), (2, some Jvm.ClassFile.FieldType.boolean, fun _ _ => none, gk_27), (2, some Jvm.ClassFile.FieldType.int, fun _ _ => none, gk_28), (3, none, fun _ _ => none, gk_29), (3, some Jvm.ClassFile.FieldType.int, fun _ _ => none, gk_30), (3, some Jvm.ClassFile.FieldType.int, fun _ _ => none, gk_31), (3, some Jvm.ClassFile.FieldType.int, fun _ _ => none, gk_32), (3, some Jvm.ClassFile.FieldType.int, fun _ _ => none, gk_33), (3, some Jvm.ClassFile.FieldType.int, fun _ _ => none, gk_34), (3, none, fun _ _ => none, gk_35), (3, none, fun _ _ => none, gk_36), (3, some Jvm.ClassFile.FieldType.int, fun _ _ => none, gk_37), (3, none, fun _ _ => none, gk_38), (4, none, fun _ _ => none, gk_39), (4, some Jvm.ClassFile.FieldType.int, fun _ _ => none, gk_40), (4, some Jvm.ClassFile.FieldType.boolean, fun _ _ => none, gk_41), (4, some Jvm.ClassFile.FieldType.int, fun _ _ => none, gk_42), (4, some Jvm.ClassFile.FieldType.int, fun _ _ => none, gk_43), (4, some Jvm.ClassFile.FieldType.int, fun _ _ => none, gk_44), (4, none, fun _ _ => none, gk_45), (4, none, fun _ _ => none, gk_46), (4, some Jvm.ClassFile.FieldType.int, fun _ _ => none, gk_47), (4, some Jvm.ClassFile.FieldType.int, fun _ _ => none, gk_48), (4, some Jvm.ClassFile.FieldType.int, fun _ _ => none, gk_49)]
def gh_mt2 : List (Nat × Option FieldType × (Nat → Nat → Option (Nat × Nat)) × List (Nat × Instr × Nat)) := [(4, some Jvm.ClassFile.FieldType.int, fun _ _ => none, gk_50), (4, none, fun _ _ => none, gk_51), (4, none, fun _ _ => none, gk_52), (4, none, fun _ _ => none, gk_53), (4, some Jvm.ClassFile.FieldType.int, fun _ _ => none, gk_54), (4, none, fun _ _ => none, gk_55), (4, some Jvm.ClassFile.FieldType.boolean, fun _ _ => none, gk_56), (4, some Jvm.ClassFile.FieldType.int, fun _ _ => none, gk_57), (5, none, fun _ _ => none, gk_58), (5, some Jvm.ClassFile.FieldType.int, fun _ _ => none, gk_59), (5, some Jvm.ClassFile.FieldType.int, fun _ _ => none, gk_60), (5, none, fun _ _ => none, gk_61), (5, none, fun _ _ => none, gk_62), (5, some Jvm.ClassFile.FieldType.boolean, fun _ _ => none, gk_63), (5, some Jvm.ClassFile.FieldType.boolean, fun _ _ => none, gk_64), (5, some Jvm.ClassFile.FieldType.boolean, fun _ _ => none, gk_65), (5, some Jvm.ClassFile.FieldType.int, fun _ _ => none, gk_66), (5, some Jvm.ClassFile.FieldType.int, fun _ _ => none, gk_67), (6, none, fun _ _ => none, gk_68), (6, none, fun _ _ => none, gk_69), (6, none, fun _ _ => none, gk_70), (6, some Jvm.ClassFile.FieldType.long, fun _ _ => none, gk_71), (6, some Jvm.ClassFile.FieldType.long, fun _ _ => none, gk_72), (6, none, fun _ _ => none, gk_73), (6, some Jvm.ClassFile.FieldType.int, fun _ _ => none, gk_74)]
def gh_mt3 : List (Nat × Option FieldType × (Nat → Nat → Option (Nat × Nat)) × List (Nat × Instr × Nat)) := [(6, some Jvm.ClassFile.FieldType.int, fun _ _ => none, gk_75), (6, some Jvm.ClassFile.FieldType.boolean, fun _ _ => none, gk_76), (6, some Jvm.ClassFile.FieldType.long, fun _ _ => none, gk_77), (7, none, fun _ _ => none, gk_78), (7, some Jvm.ClassFile.FieldType.int, fun _ _ => none, gk_79), (7, some Jvm.ClassFile.FieldType.int, fun _ _ => none, gk_80), (7, some Jvm.ClassFile.FieldType.int, fun _ _ => none, gk_81), (7, some Jvm.ClassFile.FieldType.int, fun _ _ => none, gk_82), (7, some Jvm.ClassFile.FieldType.int, fun _ _ => none, gk_83), (7, some Jvm.ClassFile.FieldType.boolean, fun _ _ => none, gk_84), (7, some Jvm.ClassFile.FieldType.int, fun _ _ => none, gk_85), (7, some Jvm.ClassFile.FieldType.int, fun _ _ => none, gk_86), (7, some Jvm.ClassFile.FieldType.int, fun _ _ => none, gk_87), (7, some Jvm.ClassFile.FieldType.int, fun _ _ => none, gk_88), (7, some Jvm.ClassFile.FieldType.int, fun _ _ => none, gk_89), (7, some Jvm.ClassFile.FieldType.int, fun _ _ => none, gk_90), (7, some Jvm.ClassFile.FieldType.int, fun _ _ => none, gk_91), (7, some Jvm.ClassFile.FieldType.int, fun _ _ => none, gk_92), (7, some Jvm.ClassFile.FieldType.int, fun _ _ => none, gk_93), (7, some Jvm.ClassFile.FieldType.int, fun _ _ => none, gk_94), (7, some Jvm.ClassFile.FieldType.int, fun _ _ => none, gk_95), (7, some Jvm.ClassFile.FieldType.boolean, fun _ _ => none, gk_96), (7, some Jvm.ClassFile.FieldType.long, fun _ _ => none, gk_97), (7, some Jvm.ClassFile.FieldType.long, fun _ _ => none, gk_98), (7, some Jvm.ClassFile.FieldType.long, fun _ _ => none, gk_99)]
def gh_mt4 : List (Nat × Option FieldType × (Nat → Nat → Option (Nat × Nat)) × List (Nat × Instr × Nat)) := [(7, some Jvm.ClassFile.FieldType.int, fun _ _ => none, gk_100), (7, some Jvm.ClassFile.FieldType.int, fun _ _ => none, gk_101), (7, some Jvm.ClassFile.FieldType.int, fun _ _ => none, gk_102), (7, some Jvm.ClassFile.FieldType.int, fun _ _ => none, gk_103), (7, some Jvm.ClassFile.FieldType.int, fun _ _ => none, gk_104), (7, some Jvm.ClassFile.FieldType.int, fun _ _ => none, gk_105), (7, some Jvm.ClassFile.FieldType.int, fun _ _ => none, gk_106), (7, some Jvm.ClassFile.FieldType.int, fun _ _ => none, gk_107), (7, some Jvm.ClassFile.FieldType.int, fun _ _ => none, gk_108), (7, some Jvm.ClassFile.FieldType.int, fun _ _ => none, gk_109), (7, none, fun _ _ => none, gk_110), (7, none, fun _ _ => none, gk_111), (7, none, fun _ _ => none, gk_112), (7, none, fun _ _ => none, gk_113), (7, none, fun _ _ => none, gk_114), (7, none, fun _ _ => none, gk_115), (7, none, fun _ _ => none, gk_116), (7, none, fun _ _ => none, gk_117), (7, none, fun _ _ => none, gk_118), (7, some (Jvm.ClassFile.FieldType.object "Treeclerk$Shares"), fun _ _ => none, gk_119), (7, some Jvm.ClassFile.FieldType.boolean, fun _ _ => none, gk_120), (7, some Jvm.ClassFile.FieldType.int, fun _ _ => none, gk_121), (7, some Jvm.ClassFile.FieldType.boolean, fun _ _ => none, gk_122), (7, some Jvm.ClassFile.FieldType.boolean, fun _ _ => none, gk_123), (10, some Jvm.ClassFile.FieldType.int, fun _ _ => none, gk_124)]
def gh_mt5 : List (Nat × Option FieldType × (Nat → Nat → Option (Nat × Nat)) × List (Nat × Instr × Nat)) := [(12, none, fun _ _ => none, gk_125), (12, none, fun _ _ => none, gk_126), (9, some Jvm.ClassFile.FieldType.int, fun _ _ => none, gk_127), (9, some Jvm.ClassFile.FieldType.int, fun pc E => if ([6, 19, 32, 40] : List Nat).contains pc = true then [(0, 45, 3), (1, 49, 3), (2, 53, 3)].lookup E else none, gk_128), (9, some Jvm.ClassFile.FieldType.int, fun pc E => if ([7, 30, 39] : List Nat).contains pc = true then [(0, 45, 4), (1, 50, 4), (2, 55, 4)].lookup E else none, gk_129), (9, some Jvm.ClassFile.FieldType.int, fun pc E => if ([9, 25, 36] : List Nat).contains pc = true then [(0, 42, 5), (1, 47, 5), (2, 52, 5)].lookup E else none, gk_130), (9, some Jvm.ClassFile.FieldType.int, fun pc E => if ([6] : List Nat).contains pc = true then [(0, 12, 5), (1, 17, 5), (2, 22, 5)].lookup E else none, gk_131), (9, some Jvm.ClassFile.FieldType.long, fun pc E => if ([7, 21, 30] : List Nat).contains pc = true then [(0, 36, 4), (2, 42, 4)].lookup E else none, gk_132), (9, some Jvm.ClassFile.FieldType.int, fun pc E => if ([6, 27, 40, 53, 74, 87, 101, 115, 129, 143, 151] : List Nat).contains pc = true then [(0, 156, 3), (2, 160, 3)].lookup E else none, gk_133), (9, some Jvm.ClassFile.FieldType.int, fun pc E => if ([3] : List Nat).contains pc = true then [(0, 8, 3), (1, 12, 3)].lookup E else none, gk_134), (9, some Jvm.ClassFile.FieldType.int, fun pc E => if ([2] : List Nat).contains pc = true then [(0, 7, 2), (3, 11, 2)].lookup E else none, gk_135), (9, some Jvm.ClassFile.FieldType.boolean, fun _ _ => none, gk_136)]
def gh_mt : List (Nat × Option FieldType × (Nat → Nat → Option (Nat × Nat)) × List (Nat × Instr × Nat)) := gh_mt0 ++ (gh_mt1 ++ (gh_mt2 ++ (gh_mt3 ++ (gh_mt4 ++ (gh_mt5)))))
/-- the class of each method, its kind: 0 of an object, 1 static, 2 a constructor -/
def gh_mo : List (Nat × Nat) := [(0, 2), (0, 0), (0, 0), (0, 0), (0, 0), (0, 0), (0, 0), (0, 0), (0, 0), (0, 0), (0, 0), (0, 0), (1, 2), (1, 0), (1, 0), (1, 0), (1, 0), (1, 0), (1, 0), (1, 0), (1, 1), (2, 2), (2, 0), (2, 0), (2, 0), (2, 0), (2, 0), (2, 0), (2, 0), (3, 2), (3, 0), (3, 0), (3, 0), (3, 0), (3, 1), (3, 0), (3, 0), (3, 0), (3, 0), (4, 2), (4, 0), (4, 0), (4, 0), (4, 0), (4, 0), (4, 0), (4, 0), (4, 0), (4, 0), (4, 0), (4, 0), (4, 0), (4, 0), (4, 0), (4, 0), (4, 0), (4, 1), (4, 1), (5, 2), (5, 0), (5, 0), (5, 0), (5, 0), (5, 0), (5, 0), (5, 0), (5, 0), (5, 0), (6, 2), (6, 0), (6, 0), (6, 0), (6, 0), (6, 0), (6, 0), (6, 0), (6, 0), (6, 1), (7, 2), (7, 0), (7, 0), (7, 0), (7, 0), (7, 0), (7, 0), (7, 0), (7, 0), (7, 0), (7, 0), (7, 0), (7, 0), (7, 0), (7, 0), (7, 0), (7, 0), (7, 0), (7, 0), (7, 0), (7, 0), (7, 0), (7, 0), (7, 0), (7, 0), (7, 0), (7, 0), (7, 0), (7, 0), (7, 0), (7, 0), (7, 0), (7, 0), (7, 0), (7, 0), (7, 0), (7, 0), (7, 0), (7, 0), (7, 0), (7, 0), (7, 0), (7, 0), (7, 0), (7, 0), (7, 1), (10, 1), (12, 1), (12, 1), (9, 1), (9, 1), (9, 1), (9, 1), (9, 1), (9, 1), (9, 1), (9, 1), (9, 1), (9, 1)]
/-- how many locals each method has -/
def gh_ml : List Nat := [1, 7, 7, 6, 4, 6, 2, 4, 9, 5, 8, 3, 2, 2, 4, 2, 2, 4, 3, 5, 4, 1, 4, 3, 2, 2, 2, 3, 2, 1, 2, 2, 2, 2, 1, 4, 6, 5, 3, 1, 2, 4, 4, 3, 3, 5, 5, 3, 5, 5, 5, 4, 2, 7, 3, 6, 2, 6, 1, 4, 3, 5, 3, 2, 2, 2, 4, 2, 1, 1, 2, 2, 2, 12, 5, 3, 3, 7, 2, 2, 1, 2, 4, 1, 2, 5, 4, 3, 2, 3, 3, 2, 4, 4, 2, 3, 2, 3, 3, 3, 2, 6, 2, 4, 6, 2, 3, 2, 3, 3, 2, 2, 2, 3, 3, 3, 2, 2, 2, 3, 4, 4, 2, 2, 1, 4, 5, 3, 4, 5, 6, 6, 5, 4, 4, 3, 11]
/-! THE GHOST MACHINE: the part of the Java machine that the class, the reference and the law use, as a function on lists. A cell: its kind (0 to 8: an object of that class of vwCl; 20: int[]; 21: long[]; 22: boolean[]; 23: Estate[]) and what it holds; a reference is the cell's place in the heap; cell 0 is the script. -/
abbrev gh_C : Type := Nat × List Value
abbrev gh_H : Type := List gh_C
abbrev gh_L : Type := List (Nat × Value)
/-- an outcome: a value (or none) is returned, or the exception of that number is thrown -/
abbrev gh_O : Type := Option Value ⊕ Nat
abbrev gh_N : Type := Nat × gh_L × List Value × gh_H
/-- what an instruction does: on to another place, out of the method, or a call (method, arguments, the stack below) -/
abbrev gh_R : Type := gh_N ⊕ (gh_O ⊕ (Nat × List Value × List Value))
def gh_st1 (l : gh_L) (i : Nat) (v : Value) : gh_L := (i, v) :: l.filter (fun q => !(q.1 == i) && !(q.1 + 1 == i && q.2.category == 2))
def gh_st2 (l : gh_L) (i : Nat) (v : Value) : gh_L := (i, v) :: l.filter (fun q => !(q.1 == i) && (!(q.1 == i + 1) && !(q.1 + 1 == i && q.2.category == 2)))
def gh_isI (v : Value) : Bool := match v with
  | .int _ => true
  | _ => false
def gh_isJ (v : Value) : Bool := match v with
  | .long _ => true
  | _ => false
def gh_isA (v : Value) : Bool := match v with
  | .ref _ => true
  | _ => false
def gh_toI (v : Value) : Int32 := match v with
  | .int x => x
  | _ => 0
def gh_toJ (v : Value) : Int64 := match v with
  | .long x => x
  | _ => 0
def gh_toA (v : Value) : Value := match v with
  | .ref a => .ref a
  | _ => .null
def gh_ld (p : Value → Bool) (l : gh_L) (k : Nat) : Option Value := match l.lookup k with
  | some v => if p v = true then some v else none
  | none => none
def gh_sz (G : gh_H) : Nat := (G.map (fun c => c.2.length)).sum
def gh_cat (st : List Value) : Nat := (st.map fun v => v.category).sum
def gh_tgt (pc : Nat) (off : Int) : Nat := ((pc : Int) + off).toNat
/-- on to pc with what stands there -/
def gh_go (pc : Nat) (l : gh_L) (st : List Value) (G : gh_H) : Option gh_R := some (.inl (pc, l, st, G))
def gh_jmp (b : Bool) (pc len : Nat) (off : Int) (l : gh_L) (st : List Value) (G : gh_H) : Option gh_R :=
  if 0 ≤ (pc : Int) + off then gh_go (if b = true then gh_tgt pc off else pc + len) l st G else none
def gh_cmp (c : ClassFile.Cond) (x y : Int32) : Bool := match c with
  | .eq => decide (x = y)
  | .ne => decide (¬ x = y)
  | .lt => decide (x < y)
  | .ge => decide (y ≤ x)
  | .gt => decide (y < x)
  | .le => decide (x ≤ y)
def gh_bin (f : Int32 → Int32 → Int32) (pc : Nat) (l : gh_L) (st : List Value) (G : gh_H) : Option gh_R := match st with
  | .int y :: .int x :: r => gh_go (pc + 1) l (.int (f x y) :: r) G
  | _ => none
def gh_binJ (f : Int64 → Int64 → Int64) (pc : Nat) (l : gh_L) (st : List Value) (G : gh_H) : Option gh_R := match st with
  | .long y :: .long x :: r => gh_go (pc + 1) l (.long (f x y) :: r) G
  | _ => none
def gh_binD (f : Int64 → Int64 → Int64) (pc : Nat) (l : gh_L) (st : List Value) (G : gh_H) : Option gh_R := match st with
  | .long y :: .long x :: r => if y = 0 then none else gh_go (pc + 1) l (.long (f x y) :: r) G
  | _ => none
def gh_binZ (f : Int32 → Int32 → Int32) (pc : Nat) (l : gh_L) (st : List Value) (G : gh_H) : Option gh_R := match st with
  | .int y :: .int x :: r => if y = 0 then none else gh_go (pc + 1) l (.int (f x y) :: r) G
  | _ => none
def gh_push (v : Option Value) (pc : Nat) (l : gh_L) (st : List Value) (G : gh_H) : Option gh_R := match v with
  | some v => gh_go pc l (v :: st) G
  | none => none
def gh_pop1 (p : Value → Bool) (k pc : Nat) (l : gh_L) (st : List Value) (G : gh_H) : Option gh_R := match st with
  | v :: r => if p v = true then gh_go pc (gh_st1 l k v) r G else none
  | _ => none
def gh_pop2 (k pc : Nat) (l : gh_L) (st : List Value) (G : gh_H) : Option gh_R := match st with
  | .long v :: r => gh_go pc (gh_st2 l k (.long v)) r G
  | _ => none
/-- the cell of kind kd at a, and what it holds -/
def gh_at (G : gh_H) (kd a : Nat) : Option (List Value) := match G[a]? with
  | some (k, vs) => if k = kd then some vs else none
  | none => none
def gh_get (ci k pc : Nat) (l : gh_L) (st : List Value) (G : gh_H) : Option gh_R := match st with
  | .ref a :: r => match gh_at G ci a with
    | some vs => match vs[k]? with
      | some v => gh_go (pc + 3) l (v :: r) G
      | none => none
    | none => none
  | _ => none
def gh_put (ty : FieldType) (ci k pc : Nat) (l : gh_L) (st : List Value) (G : gh_H) : Option gh_R := match st with
  | v :: .ref a :: r => match gh_at G ci a with
    | some vs => if k < vs.length ∧ fits ty v = true ∧ narrow ty v = v then gh_go (pc + 3) l r (G.set a (ci, vs.set k v)) else none
    | none => none
  | _ => none
def gh_ix (i : Int32) (n : Nat) : Bool := !(decide (i < 0) || decide (n ≤ i.toNatClampNeg))
def gh_ald (kd pc : Nat) (f : Value → Value) (l : gh_L) (st : List Value) (G : gh_H) : Option gh_R := match st with
  | .int i :: .ref a :: r => match gh_at G kd a with
    | some vs => if gh_ix i vs.length = true then gh_go (pc + 1) l (f (vs.getD i.toNatClampNeg .null) :: r) G else none
    | none => none
  | _ => none
def gh_ast (kd pc : Nat) (p : Value → Bool) (l : gh_L) (st : List Value) (G : gh_H) : Option gh_R := match st with
  | v :: .int i :: .ref a :: r => match gh_at G kd a with
    | some vs => if a = 0 then none else if gh_ix i vs.length = true ∧ p v = true then gh_go (pc + 1) l r (G.set a (kd, vs.set i.toNatClampNeg v)) else none
    | none => none
  | _ => none
def gh_len (pc : Nat) (l : gh_L) (st : List Value) (G : gh_H) : Option gh_R := match st with
  | .ref a :: r => match G[a]? with
    | some (k, vs) => if k = 20 ∨ (a ≠ 0 ∧ (k = 21 ∨ k = 23)) then gh_go (pc + 1) l (.int (Int32.ofNat vs.length) :: r) G else none
    | none => none
  | _ => none
def gh_kd (t : ArrayType) : Option (Nat × Value) := match t with
  | .int => some (20, .int 0)
  | .long => some (21, .long 0)
  | .boolean => some (22, .int 0)
  | _ => none
def gh_newa (fz : Bool) (kv : Option (Nat × Value)) (pc : Nat) (l : gh_L) (st : List Value) (G : gh_H) : Option gh_R := match kv, st with
  | some (kd, v), .int n :: r => if fz = false ∧ ¬ n < 0 ∧ n.toNatClampNeg ≤ 10000 then gh_go pc l (.ref G.length :: r) (G ++ [(kd, List.replicate n.toNatClampNeg v)]) else none
  | _, _ => none
def gh_dfl (ci : Nat) : List Value := (List.range (vwCl.getD ci ("", fun _ => ("", "", "", false), 0)).2.2).map (fun j => defaultValue (gh_fty ci j))
def gh_new (fz : Bool) (own idx pc : Nat) (l : gh_L) (st : List Value) (G : gh_H) : Option gh_R := match gh_xR own idx with
  | some E => if fz = true ∧ gh_cat st ≤ 8 then some (.inr (.inl (.inr E))) else none
  | none => match gh_cR own idx with
    | some ci => if fz = false then gh_go (pc + 3) l (.ref G.length :: st) (G ++ [(ci, gh_dfl ci)]) else none
    | none => none
/-- a call: its arguments off the stack -/
def gh_call (μn : Option (Nat × Nat)) (st : List Value) : Option gh_R := match μn with
  | some (μ, n) => if n ≤ st.length ∧ gh_cat (st.drop n) ≤ 8 then some (.inr (.inr (μ, (st.take n).reverse, st.drop n))) else none
  | none => none
/-- the receiver is an object of the method's class -/
def gh_rcv (G : gh_H) (μn : Option (Nat × Nat)) (st : List Value) : Bool := match μn with
  | some (μ, n) => match st[n - 1]?, gh_mo[μ]? with
    | some (.ref a), some (o, 0) => decide (0 < n) && (gh_at G o a).isSome
    | _, _ => false
  | none => false
def gh_rcs (μn : Option (Nat × Nat)) (st : List Value) : Bool := match μn with
  | some (_, n) => match st[n - 1]? with
    | some (.ref _) => decide (0 < n)
    | _ => false
  | none => false
def gh_cpy (vs ws : List Value) (sp dp n : Nat) : List Value := (List.range ws.length).map (fun k => if dp ≤ k ∧ k < dp + n then vs.getD (sp + (k - dp)) .null else ws.getD k .null)
def gh_acopy (pc : Nat) (l : gh_L) (st : List Value) (G : gh_H) : Option gh_R := match st with
  | .int n :: .int dp :: .ref a1 :: .int sp :: .ref a0 :: r => match G[a0]?, G[a1]? with
    | some (k0, vs), some (k1, ws) =>
      if a0 ≠ 0 ∧ a1 ≠ 0 ∧ k0 = k1 ∧ (k0 = 20 ∨ k0 = 21) ∧ ¬ sp < 0 ∧ ¬ dp < 0 ∧ ¬ n < 0 ∧ sp.toNatClampNeg + n.toNatClampNeg ≤ vs.length ∧ dp.toNatClampNeg + n.toNatClampNeg ≤ ws.length ∧ gh_cat r ≤ 8
      then gh_go (pc + 3) l r (G.set a1 (k1, gh_cpy vs ws sp.toNatClampNeg dp.toNatClampNeg n.toNatClampNeg)) else none
    | _, _ => none
  | _ => none
def gh_nok (rt : Option FieldType) (v : Value) : Bool := match rt with
  | some ty => decide (narrow ty v = v)
  | none => false
def gh_mm (b pc : Nat) (l : gh_L) (st : List Value) (G : gh_H) : Option gh_R := match st with
  | .int y :: .int x :: r => if gh_cat r ≤ 8 then gh_go (pc + 3) l (.int (if b = 0 then (if x < y then y else x) else (if y < x then y else x)) :: r) G else none
  | _ => none
def gh_isO (rt : Option FieldType) : Bool := match rt with
  | some (.object _) => true
  | _ => false
def gh_ret (p : Value → Bool) (rt : Option FieldType) (st : List Value) : Option gh_R := match st with
  | [v] => if p v = true ∧ gh_nok rt v = true then some (.inr (.inl (.inl (some v)))) else none
  | _ => none
def gh_sw (dflt lo hi : Int) (offs : Array Int) (pc : Nat) (l : gh_L) (st : List Value) (G : gh_H) : Option gh_R := match st with
  | .int x :: r => if x.toInt < lo ∨ hi < x.toInt then (if 0 ≤ (pc : Int) + dflt then gh_go (gh_tgt pc dflt) l r G else none)
    else match offs[(x.toInt - lo).toNat]? with
      | some off => if 0 ≤ (pc : Int) + off then gh_go (gh_tgt pc off) l r G else none
      | none => none
  | _ => none
def gh_step (fz : Bool) (own : Nat) (rt : Option FieldType) (pc : Nat) (i : Instr) (len : Nat) (l : gh_L) (st : List Value) (G : gh_H) : Option gh_R := match i with
  | .iconst n => gh_go (pc + 1) l (.int (Int32.ofInt n) :: st) G
  | .bipush n => gh_go (pc + 2) l (.int (Int8.ofInt n).toInt32 :: st) G
  | .sipush n => gh_go (pc + 3) l (.int (Int16.ofInt n).toInt32 :: st) G
  | .lconst n => gh_go (pc + 1) l (.long (Int64.ofNat n.val) :: st) G
  | .ldc idx => gh_push ((gh_iR own idx).map .int) (pc + 2) l st G
  | .ldc_w idx => gh_push ((gh_iR own idx).map .int) (pc + 3) l st G
  | .ldc2_w idx => gh_push ((gh_jR own idx).map .long) (pc + 3) l st G
  | .iload k => gh_push (gh_ld gh_isI l k) (pc + 2) l st G
  | .iload_n k => gh_push (gh_ld gh_isI l k.val) (pc + 1) l st G
  | .lload k => gh_push (gh_ld gh_isJ l k) (pc + 2) l st G
  | .lload_n k => gh_push (gh_ld gh_isJ l k.val) (pc + 1) l st G
  | .aload k => gh_push (gh_ld gh_isA l k) (pc + 2) l st G
  | .aload_n k => gh_push (gh_ld gh_isA l k.val) (pc + 1) l st G
  | .istore k => gh_pop1 gh_isI k (pc + 2) l st G
  | .istore_n k => gh_pop1 gh_isI k.val (pc + 1) l st G
  | .astore k => gh_pop1 gh_isA k (pc + 2) l st G
  | .astore_n k => gh_pop1 gh_isA k.val (pc + 1) l st G
  | .lstore k => gh_pop2 k (pc + 2) l st G
  | .lstore_n k => gh_pop2 k.val (pc + 1) l st G
  | .iinc k n => match gh_ld gh_isI l k with
    | some v => gh_go (pc + 3) (gh_st1 l k (.int (gh_toI v + Int32.ofInt n))) st G
    | none => none
  | .iadd => gh_bin (fun x y => x + y) pc l st G
  | .isub => gh_bin (fun x y => x - y) pc l st G
  | .imul => gh_bin (fun x y => x * y) pc l st G
  | .idiv => gh_binZ (fun x y => x / y) pc l st G
  | .irem => gh_binZ (fun x y => x - x / y * y) pc l st G
  | .iand => gh_bin (fun x y => x &&& y) pc l st G
  | .ior => gh_bin (fun x y => x ||| y) pc l st G
  | .ixor => gh_bin (fun x y => x ^^^ y) pc l st G
  | .ishl => gh_bin (fun x y => x <<< (y &&& 31)) pc l st G
  | .ishr => gh_bin (fun x y => x >>> (y &&& 31)) pc l st G
  | .iushr => gh_bin (fun x y => (x.toUInt32 >>> (y.toUInt32 &&& Int32.toUInt32 31)).toInt32) pc l st G
  | .ladd => gh_binJ (fun x y => x + y) pc l st G
  | .lmul => gh_binJ (fun x y => x * y) pc l st G
  | .ldiv => gh_binD (fun x y => x / y) pc l st G
  | .lrem => gh_binD (fun x y => x - x / y * y) pc l st G
  | .lcmp => match st with
    | .long y :: .long x :: r => gh_go (pc + 1) l (.int (lg_cmp x y) :: r) G
    | _ => none
  | .i2l => match st with
    | .int x :: r => gh_go (pc + 1) l (.long x.toInt64 :: r) G
    | _ => none
  | .l2i => match st with
    | .long x :: r => gh_go (pc + 1) l (.int x.toInt32 :: r) G
    | _ => none
  | .dup => match st with
    | v :: r => if v.category = 1 then gh_go (pc + 1) l (v :: v :: r) G else none
    | _ => none
  | .dup2 => match st with
    | v :: w :: r => if v.category = 1 ∧ w.category = 1 then gh_go (pc + 1) l (v :: w :: v :: w :: r) G else none
    | _ => none
  | .pop => match st with
    | v :: r => if v.category = 1 then gh_go (pc + 1) l r G else none
    | _ => none
  | .ifCond c off => match st with
    | .int x :: r => gh_jmp (gh_cmp c x 0) pc 3 off l r G
    | _ => none
  | .if_icmp c off => match st with
    | .int y :: .int x :: r => gh_jmp (gh_cmp c x y) pc 3 off l r G
    | _ => none
  | .goto off => gh_jmp true pc 3 off l st G
  | .tableswitch dflt lo hi offs => gh_sw dflt lo hi offs pc l st G
  | .getfield idx => match gh_fR own idx with
    | some (ci, k) => gh_get ci k pc l st G
    | none => none
  | .putfield idx => match gh_fR own idx with
    | some (ci, k) => gh_put (gh_fty ci k) ci k pc l st G
    | none => none
  | .iaload => gh_ald 20 pc (fun v => .int (gh_toI v)) l st G
  | .laload => gh_ald 21 pc (fun v => .long (gh_toJ v)) l st G
  | .baload => gh_ald 22 pc (fun v => .int (gh_toI v)) l st G
  | .aaload => gh_ald 23 pc gh_toA l st G
  | .iastore => gh_ast 20 pc gh_isI l st G
  | .lastore => gh_ast 21 pc gh_isJ l st G
  | .bastore => gh_ast 22 pc (fun v => fits .boolean v) l st G
  | .aastore => gh_ast 23 pc (fun v => match v with | .ref a => decide (a ≠ 0) && (gh_at G 1 a).isSome | _ => false) l st G
  | .arraylength => gh_len pc l st G
  | .new idx => gh_new fz own idx pc l st G
  | .newarray t => gh_newa fz (gh_kd t) (pc + 2) l st G
  | .anewarray idx => if gh_eR own idx = true then gh_newa fz (some (23, .null)) (pc + 3) l st G else none
  | .invokevirtual idx => if gh_rcv G (gh_mR own idx) st = true then gh_call (gh_mR own idx) st else none
  | .invokestatic idx => match gh_tR own idx with
    | some b => gh_mm b pc l st G
    | none => if gh_aR own idx = true then gh_acopy pc l st G else gh_call (gh_mR own idx) st
  | .invokespecial idx => if gh_oR own idx = true then (match st with
      | .ref _ :: r => if gh_cat r ≤ 8 then gh_go (pc + 3) l r G else none
      | _ => none) else if gh_rcs (gh_mR own idx) st = true then gh_call (gh_mR own idx) st else none
  | .ireturn => gh_ret gh_isI rt st
  | .lreturn => if rt = some .long then gh_ret gh_isJ rt st else none
  | .areturn => if gh_isO rt = true then gh_ret gh_isA rt st else none
  | .return_ => match st with
    | [] => if rt = none then some (.inr (.inl (.inl none))) else none
    | _ => none
  | _ => none
/-- a method's body from pc on: C gives what a call does; hnd: where a thrown exception goes on, and which local takes it -/
def gh_ex (fz : Bool) (C : Nat → List Value → gh_H → Option (gh_O × gh_H)) (own : Nat) (rt : Option FieldType) (hnd : Nat → Nat → Option (Nat × Nat)) (K : List (Nat × Instr × Nat)) : Nat → Nat → gh_L → List Value → gh_H → Option (gh_O × gh_H)
  | 0, _, _, _, _ => none
  | n + 1, pc, l, st, G => match K.lookup pc with
    | none => none
    | some (i, len) => match gh_step fz own rt pc i len l st G with
      | none => none
      | some (.inl (pc', l', st', G')) => gh_ex fz C own rt hnd K n pc' l' st' G'
      | some (.inr (.inl o)) => some (o, G)
      | some (.inr (.inr (μ, as, r))) => match C μ as G with
        | none => none
        | some (.inl v, G') => gh_ex fz C own rt hnd K n (pc + 3) l (v.toList ++ r) G'
        | some (.inr E, G') => match hnd pc E with
          | none => some (.inr E, G')
          | some (pc', k) => gh_ex fz C own rt hnd K n pc' (l.filter (fun q => !(q.1 == k) && !(q.1 + 1 == k && q.2.category == 2))) [] G'
/-- a call of method μ, d calls deep at most, N steps in each body at most -/
def gh_cl (fz : Bool) (N : Nat) : Nat → Nat → List Value → gh_H → Option (gh_O × gh_H)
  | 0, _, _, _ => none
  | d + 1, μ, as, G => match gh_mt[μ]? with
    | some (own, rt, hnd, K) => if gh_cat as ≤ gh_ml.getD μ 0 then gh_ex fz (gh_cl fz N d) own rt hnd K N 0 (lv_args 0 as) [] G else none
    | none => none
end
section
/-! THE WORDS that the machine's tables hold, by their places -/
def gh_wsG : List Cond := lw_tbl.filter goodWord
theorem gh_w (i : Nat) {w : Cond} (h : tables_1[i]? = some w) (g : goodWord w = true) : w ∈ gh_wsG := List.mem_filter.mpr ⟨List.mem_append_right _ (List.mem_of_getElem? h), g⟩
theorem gh_wp (i : Nat) {q : MethodName × Nat} (h : lw_privs[i]? = some q) : Cond.selects q.1.cls q.1 q.1 ∈ gh_wsG := List.mem_filter.mpr ⟨List.mem_append_left _ (List.mem_map.mpr ⟨q, List.mem_of_getElem? h, rfl⟩), rfl⟩
def gh_isN (w : Cond) : Bool := match w with
  | .fieldLinkNest _ _ _ _ _ _ => true
  | .methodLinkNest _ _ _ _ => true
  | .castable _ _ => true
  | .declares _ => true
  | _ => false
/-- the words of nest mates: these are carried along with the state -/
def gh_nst : List Cond := tables_1.filter gh_isN
theorem gh_n (i : Nat) {w : Cond} (h : tables_1[i]? = some w) (g : gh_isN w = true) : w ∈ gh_nst := List.mem_filter.mpr ⟨List.mem_of_getElem? h, g⟩
theorem gh_nstW {s U : State} (hW : s.WarmedH U.vm) : ∀ w ∈ gh_nst, va_Nw w s → va_Nw w U := by
  intro w hw h
  have hi := (List.mem_filter.mp hw).2
  cases w with
  | fieldLinkNest a i b n d h9 => exact va_Nw.warmF hW h
  | methodLinkNest a i x h9 => exact va_Nw.warmM hW h
  | castable C T => exact va_Nw.warmC hW h
  | declares x => exact va_Nw.warmD hW h
  | _ => cases hi
theorem gh_nstT : ∀ w ∈ gh_nst, w.onTables = true := by
  intro w hw
  have hi := (List.mem_filter.mp hw).2
  cases w with
  | fieldLinkNest a i b n d h9 => rfl
  | methodLinkNest a i x h9 => rfl
  | castable C T => rfl
  | declares x => rfl
  | _ => cases hi
theorem gh_goodIn : GoodIn gh_wsG gh_wsG := fun w h => ⟨h, good_of_word (List.mem_filter.mp h).2⟩
def gh_on (own : Nat) : String := (["Treeclerk$Court", "Treeclerk$Estate", "Treeclerk$Folk", "Treeclerk$Kin", "Treeclerk$Land", "Treeclerk$Proofs", "Treeclerk$Shares", "Treeclerk", "TreeclerkModel", "TreeclerkLaw", "java/lang/Integer", "java/lang/Math", "java/util/Arrays"] : List String).getD own ""
set_option maxRecDepth 100000 in
theorem gh_c0 : ∀ w ∈ u_ws RX0 TX0 5, w ∈ gh_wsG := by
  intro w hw
  obtain ⟨k, hk, rfl⟩ := List.mem_map.mp hw
  have hk := List.mem_range.mp hk
  match k, hk with
  | 0, _ => exact gh_w 150 rfl rfl
  | 1, _ => exact gh_w 152 rfl rfl
  | 2, _ => exact gh_w 154 rfl rfl
  | 3, _ => exact gh_w 156 rfl rfl
  | 4, _ => exact gh_w 158 rfl rfl
  | k + 5, h => exact absurd h (by omega)
set_option maxRecDepth 100000 in
theorem gh_c1 : ∀ w ∈ u_ws RX1 TX1 11, w ∈ gh_wsG := by
  intro w hw
  obtain ⟨k, hk, rfl⟩ := List.mem_map.mp hw
  have hk := List.mem_range.mp hk
  match k, hk with
  | 0, _ => exact gh_w 240 rfl rfl
  | 1, _ => exact gh_w 242 rfl rfl
  | 2, _ => exact gh_w 244 rfl rfl
  | 3, _ => exact gh_w 246 rfl rfl
  | 4, _ => exact gh_w 248 rfl rfl
  | 5, _ => exact gh_w 250 rfl rfl
  | 6, _ => exact gh_w 252 rfl rfl
  | 7, _ => exact gh_w 254 rfl rfl
  | 8, _ => exact gh_w 256 rfl rfl
  | 9, _ => exact gh_w 258 rfl rfl
  | 10, _ => exact gh_w 260 rfl rfl
  | k + 11, h => exact absurd h (by omega)
set_option maxRecDepth 100000 in
theorem gh_c2 : ∀ w ∈ u_ws RX2 TX2 5, w ∈ gh_wsG := by
  intro w hw
  obtain ⟨k, hk, rfl⟩ := List.mem_map.mp hw
  have hk := List.mem_range.mp hk
  match k, hk with
  | 0, _ => exact gh_w 43 rfl rfl
  | 1, _ => exact gh_w 45 rfl rfl
  | 2, _ => exact gh_w 47 rfl rfl
  | 3, _ => exact gh_w 49 rfl rfl
  | 4, _ => exact gh_w 51 rfl rfl
  | k + 5, h => exact absurd h (by omega)
set_option maxRecDepth 100000 in
theorem gh_c3 : ∀ w ∈ u_ws RX3 TX3 4, w ∈ gh_wsG := by
  intro w hw
  obtain ⟨k, hk, rfl⟩ := List.mem_map.mp hw
  have hk := List.mem_range.mp hk
  match k, hk with
  | 0, _ => exact gh_w 111 rfl rfl
  | 1, _ => exact gh_w 113 rfl rfl
  | 2, _ => exact gh_w 115 rfl rfl
  | 3, _ => exact gh_w 117 rfl rfl
  | k + 4, h => exact absurd h (by omega)
set_option maxRecDepth 100000 in
theorem gh_c4 : ∀ w ∈ u_ws RX4 TX4 12, w ∈ gh_wsG := by
  intro w hw
  obtain ⟨k, hk, rfl⟩ := List.mem_map.mp hw
  have hk := List.mem_range.mp hk
  match k, hk with
  | 0, _ => exact gh_w 181 rfl rfl
  | 1, _ => exact gh_w 183 rfl rfl
  | 2, _ => exact gh_w 185 rfl rfl
  | 3, _ => exact gh_w 187 rfl rfl
  | 4, _ => exact gh_w 189 rfl rfl
  | 5, _ => exact gh_w 191 rfl rfl
  | 6, _ => exact gh_w 193 rfl rfl
  | 7, _ => exact gh_w 195 rfl rfl
  | 8, _ => exact gh_w 197 rfl rfl
  | 9, _ => exact gh_w 199 rfl rfl
  | 10, _ => exact gh_w 201 rfl rfl
  | 11, _ => exact gh_w 203 rfl rfl
  | k + 12, h => exact absurd h (by omega)
set_option maxRecDepth 100000 in
theorem gh_c5 : ∀ w ∈ u_ws RX5 TX5 10, w ∈ gh_wsG := by
  intro w hw
  obtain ⟨k, hk, rfl⟩ := List.mem_map.mp hw
  have hk := List.mem_range.mp hk
  match k, hk with
  | 0, _ => exact gh_w 76 rfl rfl
  | 1, _ => exact gh_w 78 rfl rfl
  | 2, _ => exact gh_w 80 rfl rfl
  | 3, _ => exact gh_w 82 rfl rfl
  | 4, _ => exact gh_w 84 rfl rfl
  | 5, _ => exact gh_w 86 rfl rfl
  | 6, _ => exact gh_w 88 rfl rfl
  | 7, _ => exact gh_w 90 rfl rfl
  | 8, _ => exact gh_w 92 rfl rfl
  | 9, _ => exact gh_w 94 rfl rfl
  | k + 10, h => exact absurd h (by omega)
set_option maxRecDepth 100000 in
theorem gh_c6 : ∀ w ∈ u_ws RX6 TX6 2, w ∈ gh_wsG := by
  intro w hw
  obtain ⟨k, hk, rfl⟩ := List.mem_map.mp hw
  have hk := List.mem_range.mp hk
  match k, hk with
  | 0, _ => exact gh_w 139 rfl rfl
  | 1, _ => exact gh_w 141 rfl rfl
  | k + 2, h => exact absurd h (by omega)
set_option maxRecDepth 100000 in
theorem gh_c7 : ∀ w ∈ u_ws RX7 TX7 10, w ∈ gh_wsG := by
  intro w hw
  obtain ⟨k, hk, rfl⟩ := List.mem_map.mp hw
  have hk := List.mem_range.mp hk
  match k, hk with
  | 0, _ => exact gh_w 273 rfl rfl
  | 1, _ => exact gh_w 275 rfl rfl
  | 2, _ => exact gh_w 277 rfl rfl
  | 3, _ => exact gh_w 279 rfl rfl
  | 4, _ => exact gh_w 281 rfl rfl
  | 5, _ => exact gh_w 283 rfl rfl
  | 6, _ => exact gh_w 285 rfl rfl
  | 7, _ => exact gh_w 287 rfl rfl
  | 8, _ => exact gh_w 289 rfl rfl
  | 9, _ => exact gh_w 291 rfl rfl
  | k + 10, h => exact absurd h (by omega)
def gh_fOK (own : Nat) (e : Nat × Nat × Nat) : Prop := ∃ (C : String) (T : u_T) (N : Nat), vwCl[e.2.1]? = some (C, T, N) ∧ e.2.2 < N ∧ (T e.2.2).1 = C ∧ ((Cond.fieldLink (gh_on own) e.1 (T e.2.2).1 (T e.2.2).2.1 (T e.2.2).2.2.1 ∈ gh_wsG ∧ ((T e.2.2).2.2.2 = true → C = gh_on own)) ∨ ((T e.2.2).2.2.2 = false ∧ ∃ host : String, Cond.fieldLinkNest (gh_on own) e.1 (T e.2.2).1 (T e.2.2).2.1 (T e.2.2).2.2.1 host ∈ gh_nst) ∨ ((T e.2.2).2.2.2 = true ∧ C ≠ gh_on own ∧ ((Cond.fieldLink (gh_on own) e.1 (T e.2.2).1 (T e.2.2).2.1 (T e.2.2).2.2.1 ∈ gh_wsG) ∨ ∃ host : String, Cond.fieldLinkNest (gh_on own) e.1 (T e.2.2).1 (T e.2.2).2.1 (T e.2.2).2.2.1 host ∈ gh_nst)))
set_option maxRecDepth 100000 in
theorem gh_f0 : ∀ e ∈ gh_ft.getD 0 [], gh_fOK 0 e := by
  show ∀ e ∈ ([(12, 0, 0), (18, 0, 1), (22, 0, 2), (25, 0, 3), (28, 0, 4), (42, 2, 3), (98, 1, 4), (104, 1, 5), (107, 2, 4), (114, 1, 0)] : List (Nat × Nat × Nat)), gh_fOK 0 e
  exact List.forall_mem_cons.mpr ⟨⟨_, _, _, rfl, by decide, rfl, Or.inl ⟨gh_w 145 rfl rfl, by decide +kernel⟩⟩, List.forall_mem_cons.mpr ⟨⟨_, _, _, rfl, by decide, rfl, Or.inl ⟨gh_w 146 rfl rfl, by decide +kernel⟩⟩, List.forall_mem_cons.mpr ⟨⟨_, _, _, rfl, by decide, rfl, Or.inl ⟨gh_w 147 rfl rfl, by decide +kernel⟩⟩, List.forall_mem_cons.mpr ⟨⟨_, _, _, rfl, by decide, rfl, Or.inl ⟨gh_w 148 rfl rfl, by decide +kernel⟩⟩, List.forall_mem_cons.mpr ⟨⟨_, _, _, rfl, by decide, rfl, Or.inl ⟨gh_w 149 rfl rfl, by decide +kernel⟩⟩, List.forall_mem_cons.mpr ⟨⟨_, _, _, rfl, by decide, rfl, Or.inr (Or.inl ⟨rfl, _, gh_n 38 rfl rfl⟩)⟩, List.forall_mem_cons.mpr ⟨⟨_, _, _, rfl, by decide, rfl, Or.inr (Or.inl ⟨rfl, _, gh_n 224 rfl rfl⟩)⟩, List.forall_mem_cons.mpr ⟨⟨_, _, _, rfl, by decide, rfl, Or.inr (Or.inl ⟨rfl, _, gh_n 226 rfl rfl⟩)⟩, List.forall_mem_cons.mpr ⟨⟨_, _, _, rfl, by decide, rfl, Or.inr (Or.inl ⟨rfl, _, gh_n 41 rfl rfl⟩)⟩, List.forall_mem_cons.mpr ⟨⟨_, _, _, rfl, by decide, rfl, Or.inr (Or.inr ⟨rfl, by decide +kernel, Or.inr ⟨_, gh_n 216 rfl rfl⟩⟩)⟩, (fun _ h => absurd h List.not_mem_nil)⟩⟩⟩⟩⟩⟩⟩⟩⟩⟩
set_option maxRecDepth 100000 in
theorem gh_f1 : ∀ e ∈ gh_ft.getD 1 [], gh_fOK 1 e := by
  show ∀ e ∈ ([(9, 1, 1), (15, 1, 2), (18, 1, 3), (22, 1, 4), (26, 1, 5), (29, 1, 6), (32, 1, 7), (38, 1, 8), (42, 1, 9), (45, 1, 10), (48, 1, 0)] : List (Nat × Nat × Nat)), gh_fOK 1 e
  exact List.forall_mem_cons.mpr ⟨⟨_, _, _, rfl, by decide, rfl, Or.inl ⟨gh_w 218 rfl rfl, by decide +kernel⟩⟩, List.forall_mem_cons.mpr ⟨⟨_, _, _, rfl, by decide, rfl, Or.inl ⟨gh_w 219 rfl rfl, by decide +kernel⟩⟩, List.forall_mem_cons.mpr ⟨⟨_, _, _, rfl, by decide, rfl, Or.inl ⟨gh_w 220 rfl rfl, by decide +kernel⟩⟩, List.forall_mem_cons.mpr ⟨⟨_, _, _, rfl, by decide, rfl, Or.inl ⟨gh_w 222 rfl rfl, by decide +kernel⟩⟩, List.forall_mem_cons.mpr ⟨⟨_, _, _, rfl, by decide, rfl, Or.inl ⟨gh_w 225 rfl rfl, by decide +kernel⟩⟩, List.forall_mem_cons.mpr ⟨⟨_, _, _, rfl, by decide, rfl, Or.inl ⟨gh_w 228 rfl rfl, by decide +kernel⟩⟩, List.forall_mem_cons.mpr ⟨⟨_, _, _, rfl, by decide, rfl, Or.inl ⟨gh_w 230 rfl rfl, by decide +kernel⟩⟩, List.forall_mem_cons.mpr ⟨⟨_, _, _, rfl, by decide, rfl, Or.inl ⟨gh_w 232 rfl rfl, by decide +kernel⟩⟩, List.forall_mem_cons.mpr ⟨⟨_, _, _, rfl, by decide, rfl, Or.inl ⟨gh_w 235 rfl rfl, by decide +kernel⟩⟩, List.forall_mem_cons.mpr ⟨⟨_, _, _, rfl, by decide, rfl, Or.inl ⟨gh_w 238 rfl rfl, by decide +kernel⟩⟩, List.forall_mem_cons.mpr ⟨⟨_, _, _, rfl, by decide, rfl, Or.inl ⟨gh_w 215 rfl rfl, by decide +kernel⟩⟩, (fun _ h => absurd h List.not_mem_nil)⟩⟩⟩⟩⟩⟩⟩⟩⟩⟩⟩
set_option maxRecDepth 100000 in
theorem gh_f2 : ∀ e ∈ gh_ft.getD 2 [], gh_fOK 2 e := by
  show ∀ e ∈ ([(9, 2, 0), (15, 2, 1), (18, 2, 2), (21, 2, 3), (25, 2, 4)] : List (Nat × Nat × Nat)), gh_fOK 2 e
  exact List.forall_mem_cons.mpr ⟨⟨_, _, _, rfl, by decide, rfl, Or.inl ⟨gh_w 34 rfl rfl, by decide +kernel⟩⟩, List.forall_mem_cons.mpr ⟨⟨_, _, _, rfl, by decide, rfl, Or.inl ⟨gh_w 35 rfl rfl, by decide +kernel⟩⟩, List.forall_mem_cons.mpr ⟨⟨_, _, _, rfl, by decide, rfl, Or.inl ⟨gh_w 36 rfl rfl, by decide +kernel⟩⟩, List.forall_mem_cons.mpr ⟨⟨_, _, _, rfl, by decide, rfl, Or.inl ⟨gh_w 37 rfl rfl, by decide +kernel⟩⟩, List.forall_mem_cons.mpr ⟨⟨_, _, _, rfl, by decide, rfl, Or.inl ⟨gh_w 40 rfl rfl, by decide +kernel⟩⟩, (fun _ h => absurd h List.not_mem_nil)⟩⟩⟩⟩⟩
set_option maxRecDepth 100000 in
theorem gh_f3 : ∀ e ∈ gh_ft.getD 3 [], gh_fOK 3 e := by
  show ∀ e ∈ ([(9, 3, 0), (15, 3, 1), (18, 3, 2), (21, 3, 3), (51, 5, 5), (57, 5, 0), (60, 5, 1)] : List (Nat × Nat × Nat)), gh_fOK 3 e
  exact List.forall_mem_cons.mpr ⟨⟨_, _, _, rfl, by decide, rfl, Or.inl ⟨gh_w 107 rfl rfl, by decide +kernel⟩⟩, List.forall_mem_cons.mpr ⟨⟨_, _, _, rfl, by decide, rfl, Or.inl ⟨gh_w 108 rfl rfl, by decide +kernel⟩⟩, List.forall_mem_cons.mpr ⟨⟨_, _, _, rfl, by decide, rfl, Or.inl ⟨gh_w 109 rfl rfl, by decide +kernel⟩⟩, List.forall_mem_cons.mpr ⟨⟨_, _, _, rfl, by decide, rfl, Or.inl ⟨gh_w 110 rfl rfl, by decide +kernel⟩⟩, List.forall_mem_cons.mpr ⟨⟨_, _, _, rfl, by decide, rfl, Or.inr (Or.inl ⟨rfl, _, gh_n 69 rfl rfl⟩)⟩, List.forall_mem_cons.mpr ⟨⟨_, _, _, rfl, by decide, rfl, Or.inr (Or.inr ⟨rfl, by decide +kernel, Or.inr ⟨_, gh_n 62 rfl rfl⟩⟩)⟩, List.forall_mem_cons.mpr ⟨⟨_, _, _, rfl, by decide, rfl, Or.inr (Or.inr ⟨rfl, by decide +kernel, Or.inr ⟨_, gh_n 64 rfl rfl⟩⟩)⟩, (fun _ h => absurd h List.not_mem_nil)⟩⟩⟩⟩⟩⟩⟩
set_option maxRecDepth 100000 in
theorem gh_f4 : ∀ e ∈ gh_ft.getD 4 [], gh_fOK 4 e := by
  show ∀ e ∈ ([(9, 4, 0), (15, 4, 1), (18, 4, 2), (21, 4, 3), (24, 4, 4), (28, 4, 5), (32, 4, 6), (35, 4, 7), (38, 4, 8), (41, 4, 9), (44, 4, 10), (47, 4, 11), (77, 1, 0), (96, 1, 10), (99, 1, 9), (107, 1, 8)] : List (Nat × Nat × Nat)), gh_fOK 4 e
  exact List.forall_mem_cons.mpr ⟨⟨_, _, _, rfl, by decide, rfl, Or.inl ⟨gh_w 168 rfl rfl, by decide +kernel⟩⟩, List.forall_mem_cons.mpr ⟨⟨_, _, _, rfl, by decide, rfl, Or.inl ⟨gh_w 169 rfl rfl, by decide +kernel⟩⟩, List.forall_mem_cons.mpr ⟨⟨_, _, _, rfl, by decide, rfl, Or.inl ⟨gh_w 170 rfl rfl, by decide +kernel⟩⟩, List.forall_mem_cons.mpr ⟨⟨_, _, _, rfl, by decide, rfl, Or.inl ⟨gh_w 171 rfl rfl, by decide +kernel⟩⟩, List.forall_mem_cons.mpr ⟨⟨_, _, _, rfl, by decide, rfl, Or.inl ⟨gh_w 172 rfl rfl, by decide +kernel⟩⟩, List.forall_mem_cons.mpr ⟨⟨_, _, _, rfl, by decide, rfl, Or.inl ⟨gh_w 173 rfl rfl, by decide +kernel⟩⟩, List.forall_mem_cons.mpr ⟨⟨_, _, _, rfl, by decide, rfl, Or.inl ⟨gh_w 174 rfl rfl, by decide +kernel⟩⟩, List.forall_mem_cons.mpr ⟨⟨_, _, _, rfl, by decide, rfl, Or.inl ⟨gh_w 176 rfl rfl, by decide +kernel⟩⟩, List.forall_mem_cons.mpr ⟨⟨_, _, _, rfl, by decide, rfl, Or.inl ⟨gh_w 177 rfl rfl, by decide +kernel⟩⟩, List.forall_mem_cons.mpr ⟨⟨_, _, _, rfl, by decide, rfl, Or.inl ⟨gh_w 178 rfl rfl, by decide +kernel⟩⟩, List.forall_mem_cons.mpr ⟨⟨_, _, _, rfl, by decide, rfl, Or.inl ⟨gh_w 179 rfl rfl, by decide +kernel⟩⟩, List.forall_mem_cons.mpr ⟨⟨_, _, _, rfl, by decide, rfl, Or.inl ⟨gh_w 180 rfl rfl, by decide +kernel⟩⟩, List.forall_mem_cons.mpr ⟨⟨_, _, _, rfl, by decide, rfl, Or.inr (Or.inr ⟨rfl, by decide +kernel, Or.inr ⟨_, gh_n 217 rfl rfl⟩⟩)⟩, List.forall_mem_cons.mpr ⟨⟨_, _, _, rfl, by decide, rfl, Or.inr (Or.inr ⟨rfl, by decide +kernel, Or.inr ⟨_, gh_n 239 rfl rfl⟩⟩)⟩, List.forall_mem_cons.mpr ⟨⟨_, _, _, rfl, by decide, rfl, Or.inr (Or.inr ⟨rfl, by decide +kernel, Or.inr ⟨_, gh_n 236 rfl rfl⟩⟩)⟩, List.forall_mem_cons.mpr ⟨⟨_, _, _, rfl, by decide, rfl, Or.inr (Or.inr ⟨rfl, by decide +kernel, Or.inr ⟨_, gh_n 233 rfl rfl⟩⟩)⟩, (fun _ h => absurd h List.not_mem_nil)⟩⟩⟩⟩⟩⟩⟩⟩⟩⟩⟩⟩⟩⟩⟩⟩
set_option maxRecDepth 100000 in
theorem gh_f5 : ∀ e ∈ gh_ft.getD 5 [], gh_fOK 5 e := by
  show ∀ e ∈ ([(9, 5, 0), (15, 5, 1), (18, 5, 2), (21, 5, 3), (24, 5, 4), (28, 5, 5), (32, 5, 6), (35, 5, 7), (38, 5, 8), (41, 5, 9)] : List (Nat × Nat × Nat)), gh_fOK 5 e
  exact List.forall_mem_cons.mpr ⟨⟨_, _, _, rfl, by decide, rfl, Or.inl ⟨gh_w 61 rfl rfl, by decide +kernel⟩⟩, List.forall_mem_cons.mpr ⟨⟨_, _, _, rfl, by decide, rfl, Or.inl ⟨gh_w 63 rfl rfl, by decide +kernel⟩⟩, List.forall_mem_cons.mpr ⟨⟨_, _, _, rfl, by decide, rfl, Or.inl ⟨gh_w 65 rfl rfl, by decide +kernel⟩⟩, List.forall_mem_cons.mpr ⟨⟨_, _, _, rfl, by decide, rfl, Or.inl ⟨gh_w 66 rfl rfl, by decide +kernel⟩⟩, List.forall_mem_cons.mpr ⟨⟨_, _, _, rfl, by decide, rfl, Or.inl ⟨gh_w 67 rfl rfl, by decide +kernel⟩⟩, List.forall_mem_cons.mpr ⟨⟨_, _, _, rfl, by decide, rfl, Or.inl ⟨gh_w 68 rfl rfl, by decide +kernel⟩⟩, List.forall_mem_cons.mpr ⟨⟨_, _, _, rfl, by decide, rfl, Or.inl ⟨gh_w 71 rfl rfl, by decide +kernel⟩⟩, List.forall_mem_cons.mpr ⟨⟨_, _, _, rfl, by decide, rfl, Or.inl ⟨gh_w 72 rfl rfl, by decide +kernel⟩⟩, List.forall_mem_cons.mpr ⟨⟨_, _, _, rfl, by decide, rfl, Or.inl ⟨gh_w 73 rfl rfl, by decide +kernel⟩⟩, List.forall_mem_cons.mpr ⟨⟨_, _, _, rfl, by decide, rfl, Or.inl ⟨gh_w 74 rfl rfl, by decide +kernel⟩⟩, (fun _ h => absurd h List.not_mem_nil)⟩⟩⟩⟩⟩⟩⟩⟩⟩⟩
set_option maxRecDepth 100000 in
theorem gh_f6 : ∀ e ∈ gh_ft.getD 6 [], gh_fOK 6 e := by
  show ∀ e ∈ ([(9, 6, 0), (15, 6, 1)] : List (Nat × Nat × Nat)), gh_fOK 6 e
  exact List.forall_mem_cons.mpr ⟨⟨_, _, _, rfl, by decide, rfl, Or.inl ⟨gh_w 137 rfl rfl, by decide +kernel⟩⟩, List.forall_mem_cons.mpr ⟨⟨_, _, _, rfl, by decide, rfl, Or.inl ⟨gh_w 138 rfl rfl, by decide +kernel⟩⟩, (fun _ h => absurd h List.not_mem_nil)⟩⟩
set_option maxRecDepth 100000 in
theorem gh_f7 : ∀ e ∈ gh_ft.getD 7 [], gh_fOK 7 e := by
  show ∀ e ∈ ([(12, 7, 0), (19, 7, 1), (26, 7, 2), (30, 7, 3), (35, 7, 4), (42, 7, 5), (49, 7, 6), (56, 7, 7), (60, 7, 8), (63, 7, 9), (84, 2, 3), (103, 1, 4), (123, 5, 5), (142, 5, 9), (200, 1, 3), (203, 1, 8), (210, 2, 4), (213, 1, 5), (220, 1, 6), (247, 1, 7), (267, 4, 6), (282, 1, 9)] : List (Nat × Nat × Nat)), gh_fOK 7 e
  exact List.forall_mem_cons.mpr ⟨⟨_, _, _, rfl, by decide, rfl, Or.inl ⟨gh_w 263 rfl rfl, by decide +kernel⟩⟩, List.forall_mem_cons.mpr ⟨⟨_, _, _, rfl, by decide, rfl, Or.inl ⟨gh_w 264 rfl rfl, by decide +kernel⟩⟩, List.forall_mem_cons.mpr ⟨⟨_, _, _, rfl, by decide, rfl, Or.inl ⟨gh_w 265 rfl rfl, by decide +kernel⟩⟩, List.forall_mem_cons.mpr ⟨⟨_, _, _, rfl, by decide, rfl, Or.inl ⟨gh_w 266 rfl rfl, by decide +kernel⟩⟩, List.forall_mem_cons.mpr ⟨⟨_, _, _, rfl, by decide, rfl, Or.inl ⟨gh_w 267 rfl rfl, by decide +kernel⟩⟩, List.forall_mem_cons.mpr ⟨⟨_, _, _, rfl, by decide, rfl, Or.inl ⟨gh_w 268 rfl rfl, by decide +kernel⟩⟩, List.forall_mem_cons.mpr ⟨⟨_, _, _, rfl, by decide, rfl, Or.inl ⟨gh_w 269 rfl rfl, by decide +kernel⟩⟩, List.forall_mem_cons.mpr ⟨⟨_, _, _, rfl, by decide, rfl, Or.inl ⟨gh_w 270 rfl rfl, by decide +kernel⟩⟩, List.forall_mem_cons.mpr ⟨⟨_, _, _, rfl, by decide, rfl, Or.inl ⟨gh_w 271 rfl rfl, by decide +kernel⟩⟩, List.forall_mem_cons.mpr ⟨⟨_, _, _, rfl, by decide, rfl, Or.inl ⟨gh_w 272 rfl rfl, by decide +kernel⟩⟩, List.forall_mem_cons.mpr ⟨⟨_, _, _, rfl, by decide, rfl, Or.inr (Or.inl ⟨rfl, _, gh_n 39 rfl rfl⟩)⟩, List.forall_mem_cons.mpr ⟨⟨_, _, _, rfl, by decide, rfl, Or.inr (Or.inl ⟨rfl, _, gh_n 223 rfl rfl⟩)⟩, List.forall_mem_cons.mpr ⟨⟨_, _, _, rfl, by decide, rfl, Or.inr (Or.inl ⟨rfl, _, gh_n 70 rfl rfl⟩)⟩, List.forall_mem_cons.mpr ⟨⟨_, _, _, rfl, by decide, rfl, Or.inr (Or.inl ⟨rfl, _, gh_n 75 rfl rfl⟩)⟩, List.forall_mem_cons.mpr ⟨⟨_, _, _, rfl, by decide, rfl, Or.inr (Or.inl ⟨rfl, _, gh_n 221 rfl rfl⟩)⟩, List.forall_mem_cons.mpr ⟨⟨_, _, _, rfl, by decide, rfl, Or.inr (Or.inr ⟨rfl, by decide +kernel, Or.inr ⟨_, gh_n 234 rfl rfl⟩⟩)⟩, List.forall_mem_cons.mpr ⟨⟨_, _, _, rfl, by decide, rfl, Or.inr (Or.inl ⟨rfl, _, gh_n 42 rfl rfl⟩)⟩, List.forall_mem_cons.mpr ⟨⟨_, _, _, rfl, by decide, rfl, Or.inr (Or.inl ⟨rfl, _, gh_n 227 rfl rfl⟩)⟩, List.forall_mem_cons.mpr ⟨⟨_, _, _, rfl, by decide, rfl, Or.inr (Or.inl ⟨rfl, _, gh_n 229 rfl rfl⟩)⟩, List.forall_mem_cons.mpr ⟨⟨_, _, _, rfl, by decide, rfl, Or.inr (Or.inl ⟨rfl, _, gh_n 231 rfl rfl⟩)⟩, List.forall_mem_cons.mpr ⟨⟨_, _, _, rfl, by decide, rfl, Or.inr (Or.inl ⟨rfl, _, gh_n 175 rfl rfl⟩)⟩, List.forall_mem_cons.mpr ⟨⟨_, _, _, rfl, by decide, rfl, Or.inr (Or.inr ⟨rfl, by decide +kernel, Or.inr ⟨_, gh_n 237 rfl rfl⟩⟩)⟩, (fun _ h => absurd h List.not_mem_nil)⟩⟩⟩⟩⟩⟩⟩⟩⟩⟩⟩⟩⟩⟩⟩⟩⟩⟩⟩⟩⟩⟩
set_option maxRecDepth 100000 in
theorem gh_f8 : ∀ e ∈ gh_ft.getD 8 [], gh_fOK 8 e := by
  show ∀ e ∈ ([] : List (Nat × Nat × Nat)), gh_fOK 8 e
  exact (fun _ h => absurd h List.not_mem_nil)
set_option maxRecDepth 100000 in
theorem gh_f9 : ∀ e ∈ gh_ft.getD 9 [], gh_fOK 9 e := by
  show ∀ e ∈ ([] : List (Nat × Nat × Nat)), gh_fOK 9 e
  exact (fun _ h => absurd h List.not_mem_nil)
set_option maxRecDepth 100000 in
theorem gh_f10 : ∀ e ∈ gh_ft.getD 10 [], gh_fOK 10 e := by
  show ∀ e ∈ ([] : List (Nat × Nat × Nat)), gh_fOK 10 e
  exact (fun _ h => absurd h List.not_mem_nil)
set_option maxRecDepth 100000 in
theorem gh_f11 : ∀ e ∈ gh_ft.getD 11 [], gh_fOK 11 e := by
  show ∀ e ∈ ([] : List (Nat × Nat × Nat)), gh_fOK 11 e
  exact (fun _ h => absurd h List.not_mem_nil)
set_option maxRecDepth 100000 in
theorem gh_f12 : ∀ e ∈ gh_ft.getD 12 [], gh_fOK 12 e := by
  show ∀ e ∈ ([] : List (Nat × Nat × Nat)), gh_fOK 12 e
  exact (fun _ h => absurd h List.not_mem_nil)
/-- a method: its name, bytes, locals, what it returns, its kind: 0 of an object, 1 static, 2 a constructor -/
def gh_yt0 : List (MethodName × ByteArray × Nat × Option FieldType × Nat) := [(⟨"Treeclerk$Court", "<init>", "()V"⟩, prog_2_method_1_code, 1, none, 2), (⟨"Treeclerk$Court", "shareFromHeads", "(LTreeclerk$Folk;LTreeclerk$Kin;LTreeclerk$Estate;LTreeclerk$Shares;)V"⟩, prog_2_method_2_code, 7, none, 0), (⟨"Treeclerk$Court", "passOn", "(ILTreeclerk$Kin;)V"⟩, prog_2_method_3_code, 7, none, 0), (⟨"Treeclerk$Court", "shareFromPersons", "(LTreeclerk$Folk;LTreeclerk$Kin;LTreeclerk$Estate;LTreeclerk$Shares;)V"⟩, prog_2_method_4_code, 6, none, 0), (⟨"Treeclerk$Court", "findComing", "(ILTreeclerk$Kin;I)V"⟩, prog_2_method_5_code, 4, none, 0), (⟨"Treeclerk$Court", "addPartOf", "(IILTreeclerk$Kin;I)V"⟩, prog_2_method_6_code, 6, none, 0), (⟨"Treeclerk$Court", "addAsHead", "(I)V"⟩, prog_2_method_7_code, 2, none, 0), (⟨"Treeclerk$Court", "lookAt", "(LTreeclerk$Folk;LTreeclerk$Kin;LTreeclerk$Estate;)V"⟩, prog_2_method_8_code, 4, none, 0), (⟨"Treeclerk$Court", "findLivingLines", "(LTreeclerk$Folk;LTreeclerk$Kin;LTreeclerk$Estate;)I"⟩, prog_2_method_9_code, 9, some Jvm.ClassFile.FieldType.int, 0), (⟨"Treeclerk$Court", "findHeads", "(LTreeclerk$Kin;I)I"⟩, prog_2_method_10_code, 5, some Jvm.ClassFile.FieldType.int, 0), (⟨"Treeclerk$Court", "joinWithWill", "(LTreeclerk$Estate;LTreeclerk$Shares;)V"⟩, prog_2_method_11_code, 8, none, 0), (⟨"Treeclerk$Court", "weightFor", "(LTreeclerk$Estate;I)I"⟩, prog_2_method_12_code, 3, some Jvm.ClassFile.FieldType.int, 0), (⟨"Treeclerk$Estate", "<init>", "(I)V"⟩, prog_3_method_1_code, 2, none, 2), (⟨"Treeclerk$Estate", "weightOf", "(I)I"⟩, prog_3_method_2_code, 2, some Jvm.ClassFile.FieldType.int, 0), (⟨"Treeclerk$Estate", "setWeight", "(II)I"⟩, prog_3_method_3_code, 4, some Jvm.ClassFile.FieldType.int, 0), (⟨"Treeclerk$Estate", "hasClaimOf", "(I)Z"⟩, prog_3_method_4_code, 2, some Jvm.ClassFile.FieldType.boolean, 0), (⟨"Treeclerk$Estate", "addClaim", "(I)V"⟩, prog_3_method_5_code, 2, none, 0), (⟨"Treeclerk$Estate", "dropClaim", "(I)Z"⟩, prog_3_method_6_code, 4, some Jvm.ClassFile.FieldType.boolean, 0), (⟨"Treeclerk$Estate", "placeOf", "(I)I"⟩, prog_3_method_7_code, 3, some Jvm.ClassFile.FieldType.int, 0), (⟨"Treeclerk$Estate", "rankHeirs", "(LTreeclerk$Shares;[I)I"⟩, prog_3_method_8_code, 5, some Jvm.ClassFile.FieldType.int, 0), (⟨"Treeclerk$Estate", "rankNext", "(ILTreeclerk$Shares;[II)I"⟩, prog_3_method_9_code, 4, some Jvm.ClassFile.FieldType.int, 1), (⟨"Treeclerk$Folk", "<init>", "()V"⟩, prog_4_method_1_code, 1, none, 2), (⟨"Treeclerk$Folk", "enter", "(I)I"⟩, prog_4_method_2_code, 4, some Jvm.ClassFile.FieldType.int, 0), (⟨"Treeclerk$Folk", "bury", "(II)V"⟩, prog_4_method_3_code, 3, none, 0), (⟨"Treeclerk$Folk", "isDead", "(I)Z"⟩, prog_4_method_4_code, 2, some Jvm.ClassFile.FieldType.boolean, 0)]
def gh_yt1 : List (MethodName × ByteArray × Nat × Option FieldType × Nat) := [(⟨"Treeclerk$Folk", "bornOn", "(I)I"⟩, prog_4_method_5_code, 2, some Jvm.ClassFile.FieldType.int, 0), (⟨"Treeclerk$Folk", "diedOn", "(I)I"⟩, prog_4_method_6_code, 2, some Jvm.ClassFile.FieldType.int, 0), (⟨"Treeclerk$Folk", "isOlder", "(II)Z"⟩, prog_4_method_7_code, 3, some Jvm.ClassFile.FieldType.boolean, 0), (⟨"Treeclerk$Folk", "byAge", "(I)I"⟩, prog_4_method_8_code, 2, some Jvm.ClassFile.FieldType.int, 0), (⟨"Treeclerk$Kin", "<init>", "()V"⟩, prog_5_method_1_code, 1, none, 2), (⟨"Treeclerk$Kin", "firstParent", "(I)I"⟩, prog_5_method_2_code, 2, some Jvm.ClassFile.FieldType.int, 0), (⟨"Treeclerk$Kin", "secondParent", "(I)I"⟩, prog_5_method_3_code, 2, some Jvm.ClassFile.FieldType.int, 0), (⟨"Treeclerk$Kin", "childSet", "(I)I"⟩, prog_5_method_4_code, 2, some Jvm.ClassFile.FieldType.int, 0), (⟨"Treeclerk$Kin", "parentSet", "(I)I"⟩, prog_5_method_5_code, 2, some Jvm.ClassFile.FieldType.int, 0), (⟨"Treeclerk$Kin", "setOf", "(I)I"⟩, prog_5_method_6_code, 1, some Jvm.ClassFile.FieldType.int, 1), (⟨"Treeclerk$Kin", "tell", "(LTreeclerk$Proofs;I)V"⟩, prog_5_method_7_code, 4, none, 0), (⟨"Treeclerk$Kin", "weigh", "(LTreeclerk$Proofs;II)V"⟩, prog_5_method_8_code, 6, none, 0), (⟨"Treeclerk$Kin", "strongestBut", "(I)I"⟩, prog_5_method_9_code, 5, some Jvm.ClassFile.FieldType.int, 0), (⟨"Treeclerk$Kin", "addChild", "(II)V"⟩, prog_5_method_10_code, 3, none, 0), (⟨"Treeclerk$Land", "<init>", "()V"⟩, prog_6_method_1_code, 1, none, 2), (⟨"Treeclerk$Land", "keptOwner", "(I)I"⟩, prog_6_method_2_code, 2, some Jvm.ClassFile.FieldType.int, 0), (⟨"Treeclerk$Land", "isGrantedWithin", "(II)Z"⟩, prog_6_method_3_code, 4, some Jvm.ClassFile.FieldType.boolean, 0), (⟨"Treeclerk$Land", "countUnits", "(III)I"⟩, prog_6_method_4_code, 4, some Jvm.ClassFile.FieldType.int, 0), (⟨"Treeclerk$Land", "parcelStart", "(I)I"⟩, prog_6_method_5_code, 3, some Jvm.ClassFile.FieldType.int, 0), (⟨"Treeclerk$Land", "parcelEnd", "(I)I"⟩, prog_6_method_6_code, 3, some Jvm.ClassFile.FieldType.int, 0), (⟨"Treeclerk$Land", "enterGrant", "(III)V"⟩, prog_6_method_7_code, 5, none, 0), (⟨"Treeclerk$Land", "enterHanding", "(IIII)V"⟩, prog_6_method_8_code, 5, none, 0), (⟨"Treeclerk$Land", "enterClosing", "(LTreeclerk$Estate;)I"⟩, prog_6_method_9_code, 3, some Jvm.ClassFile.FieldType.int, 0), (⟨"Treeclerk$Land", "enter", "(IIII)I"⟩, prog_6_method_10_code, 5, some Jvm.ClassFile.FieldType.int, 0), (⟨"Treeclerk$Land", "redrawFrom", "(I[LTreeclerk$Estate;)I"⟩, prog_6_method_11_code, 5, some Jvm.ClassFile.FieldType.int, 0)]
def gh_yt2 : List (MethodName × ByteArray × Nat × Option FieldType × Nat) := [(⟨"Treeclerk$Land", "foundOwner", "(I[LTreeclerk$Estate;)I"⟩, prog_6_method_12_code, 5, some Jvm.ClassFile.FieldType.int, 0), (⟨"Treeclerk$Land", "handOver", "([II)V"⟩, prog_6_method_13_code, 4, none, 0), (⟨"Treeclerk$Land", "drawKept", "(LTreeclerk$Estate;)V"⟩, prog_6_method_14_code, 2, none, 0), (⟨"Treeclerk$Land", "draw", "([ILTreeclerk$Estate;LTreeclerk$Shares;)V"⟩, prog_6_method_15_code, 7, none, 0), (⟨"Treeclerk$Land", "takeFrom", "(II)I"⟩, prog_6_method_16_code, 3, some Jvm.ClassFile.FieldType.int, 0), (⟨"Treeclerk$Land", "portionOut", "(IILTreeclerk$Shares;)V"⟩, prog_6_method_17_code, 6, none, 0), (⟨"Treeclerk$Land", "isPlace", "(I[LTreeclerk$Estate;)Z"⟩, prog_6_method_18_code, 2, some Jvm.ClassFile.FieldType.boolean, 1), (⟨"Treeclerk$Land", "countIn", "([IIII)I"⟩, prog_6_method_19_code, 6, some Jvm.ClassFile.FieldType.int, 1), (⟨"Treeclerk$Proofs", "<init>", "()V"⟩, prog_7_method_1_code, 1, none, 2), (⟨"Treeclerk$Proofs", "file", "(III)I"⟩, prog_7_method_2_code, 4, some Jvm.ClassFile.FieldType.int, 0), (⟨"Treeclerk$Proofs", "fileDoubt", "(II)I"⟩, prog_7_method_3_code, 3, some Jvm.ClassFile.FieldType.int, 0), (⟨"Treeclerk$Proofs", "settle", "(IZ)V"⟩, prog_7_method_4_code, 5, none, 0), (⟨"Treeclerk$Proofs", "lift", "(I)V"⟩, prog_7_method_5_code, 3, none, 0), (⟨"Treeclerk$Proofs", "isProof", "(I)Z"⟩, prog_7_method_6_code, 2, some Jvm.ClassFile.FieldType.boolean, 0), (⟨"Treeclerk$Proofs", "isOpen", "(I)Z"⟩, prog_7_method_7_code, 2, some Jvm.ClassFile.FieldType.boolean, 0), (⟨"Treeclerk$Proofs", "hasFallen", "(I)Z"⟩, prog_7_method_8_code, 2, some Jvm.ClassFile.FieldType.boolean, 0), (⟨"Treeclerk$Proofs", "countOpen", "(I)I"⟩, prog_7_method_9_code, 4, some Jvm.ClassFile.FieldType.int, 0), (⟨"Treeclerk$Proofs", "strengthOf", "(I)I"⟩, prog_7_method_10_code, 2, some Jvm.ClassFile.FieldType.int, 0), (⟨"Treeclerk$Shares", "<init>", "()V"⟩, prog_8_method_1_code, 1, none, 2), (⟨"Treeclerk$Shares", "clear", "()V"⟩, prog_8_method_2_code, 1, none, 0), (⟨"Treeclerk$Shares", "copy", "(LTreeclerk$Shares;)V"⟩, prog_8_method_3_code, 2, none, 0), (⟨"Treeclerk$Shares", "aboveOf", "(I)J"⟩, prog_8_method_4_code, 2, some Jvm.ClassFile.FieldType.long, 0), (⟨"Treeclerk$Shares", "belowOf", "(I)J"⟩, prog_8_method_5_code, 2, some Jvm.ClassFile.FieldType.long, 0), (⟨"Treeclerk$Shares", "add", "(IJJ)V"⟩, prog_8_method_6_code, 12, none, 0), (⟨"Treeclerk$Shares", "unitsFor", "(II)I"⟩, prog_8_method_7_code, 5, some Jvm.ClassFile.FieldType.int, 0)]
def gh_yt3 : List (MethodName × ByteArray × Nat × Option FieldType × Nat) := [(⟨"Treeclerk$Shares", "countHeirs", "()I"⟩, prog_8_method_8_code, 3, some Jvm.ClassFile.FieldType.int, 0), (⟨"Treeclerk$Shares", "isSame", "(LTreeclerk$Shares;)Z"⟩, prog_8_method_9_code, 3, some Jvm.ClassFile.FieldType.boolean, 0), (⟨"Treeclerk$Shares", "commonDivisor", "(JJ)J"⟩, prog_8_method_10_code, 7, some Jvm.ClassFile.FieldType.long, 1), (⟨"Treeclerk", "<init>", "()V"⟩, prog_1_method_1_code, 2, none, 2), (⟨"Treeclerk", "pass", "(I)I"⟩, prog_1_method_2_code, 2, some Jvm.ClassFile.FieldType.int, 0), (⟨"Treeclerk", "today", "()I"⟩, prog_1_method_3_code, 1, some Jvm.ClassFile.FieldType.int, 0), (⟨"Treeclerk", "birth", "(I)I"⟩, prog_1_method_4_code, 2, some Jvm.ClassFile.FieldType.int, 0), (⟨"Treeclerk", "death", "(I)I"⟩, prog_1_method_5_code, 4, some Jvm.ClassFile.FieldType.int, 0), (⟨"Treeclerk", "people", "()I"⟩, prog_1_method_6_code, 1, some Jvm.ClassFile.FieldType.int, 0), (⟨"Treeclerk", "isAlive", "(I)Z"⟩, prog_1_method_7_code, 2, some Jvm.ClassFile.FieldType.boolean, 0), (⟨"Treeclerk", "proof", "(III)I"⟩, prog_1_method_8_code, 5, some Jvm.ClassFile.FieldType.int, 0), (⟨"Treeclerk", "doubt", "(II)I"⟩, prog_1_method_9_code, 4, some Jvm.ClassFile.FieldType.int, 0), (⟨"Treeclerk", "judge", "(IZ)I"⟩, prog_1_method_10_code, 3, some Jvm.ClassFile.FieldType.int, 0), (⟨"Treeclerk", "strength", "(I)I"⟩, prog_1_method_11_code, 2, some Jvm.ClassFile.FieldType.int, 0), (⟨"Treeclerk", "openDoubts", "()I"⟩, prog_1_method_12_code, 3, some Jvm.ClassFile.FieldType.int, 0), (⟨"Treeclerk", "parentOf", "(II)I"⟩, prog_1_method_13_code, 3, some Jvm.ClassFile.FieldType.int, 0), (⟨"Treeclerk", "childrenOf", "(I)I"⟩, prog_1_method_14_code, 2, some Jvm.ClassFile.FieldType.int, 0), (⟨"Treeclerk", "will", "(III)I"⟩, prog_1_method_15_code, 4, some Jvm.ClassFile.FieldType.int, 0), (⟨"Treeclerk", "claim", "(II)I"⟩, prog_1_method_16_code, 4, some Jvm.ClassFile.FieldType.int, 0), (⟨"Treeclerk", "claims", "(I)I"⟩, prog_1_method_17_code, 2, some Jvm.ClassFile.FieldType.int, 0), (⟨"Treeclerk", "close", "(I)I"⟩, prog_1_method_18_code, 3, some Jvm.ClassFile.FieldType.int, 0), (⟨"Treeclerk", "isClosed", "(I)Z"⟩, prog_1_method_19_code, 2, some Jvm.ClassFile.FieldType.boolean, 0), (⟨"Treeclerk", "shareAbove", "(II)J"⟩, prog_1_method_20_code, 3, some Jvm.ClassFile.FieldType.long, 0), (⟨"Treeclerk", "shareBelow", "(II)J"⟩, prog_1_method_21_code, 3, some Jvm.ClassFile.FieldType.long, 0), (⟨"Treeclerk", "shareAboveByWays", "(II)J"⟩, prog_1_method_22_code, 3, some Jvm.ClassFile.FieldType.long, 0)]
def gh_yt4 : List (MethodName × ByteArray × Nat × Option FieldType × Nat) := [(⟨"Treeclerk", "heirs", "(I)I"⟩, prog_1_method_23_code, 2, some Jvm.ClassFile.FieldType.int, 0), (⟨"Treeclerk", "disputes", "(I)I"⟩, prog_1_method_24_code, 6, some Jvm.ClassFile.FieldType.int, 0), (⟨"Treeclerk", "reopenings", "(I)I"⟩, prog_1_method_25_code, 2, some Jvm.ClassFile.FieldType.int, 0), (⟨"Treeclerk", "grant", "(III)I"⟩, prog_1_method_26_code, 4, some Jvm.ClassFile.FieldType.int, 0), (⟨"Treeclerk", "hand", "(IIII)I"⟩, prog_1_method_27_code, 6, some Jvm.ClassFile.FieldType.int, 0), (⟨"Treeclerk", "owner", "(I)I"⟩, prog_1_method_28_code, 2, some Jvm.ClassFile.FieldType.int, 0), (⟨"Treeclerk", "ownerAnew", "(I)I"⟩, prog_1_method_29_code, 3, some Jvm.ClassFile.FieldType.int, 0), (⟨"Treeclerk", "area", "(I)I"⟩, prog_1_method_30_code, 2, some Jvm.ClassFile.FieldType.int, 0), (⟨"Treeclerk", "parcels", "()I"⟩, prog_1_method_31_code, 3, some Jvm.ClassFile.FieldType.int, 0), (⟨"Treeclerk", "parcelAt", "(I)I"⟩, prog_1_method_32_code, 3, some Jvm.ClassFile.FieldType.int, 0), (⟨"Treeclerk", "requirePerson", "(I)V"⟩, prog_1_method_33_code, 2, none, 0), (⟨"Treeclerk", "requireProof", "(I)V"⟩, prog_1_method_34_code, 2, none, 0), (⟨"Treeclerk", "requireUnit", "(I)V"⟩, prog_1_method_35_code, 2, none, 0), (⟨"Treeclerk", "requireWeight", "(II)V"⟩, prog_1_method_36_code, 3, none, 0), (⟨"Treeclerk", "requireOthers", "(II)V"⟩, prog_1_method_37_code, 3, none, 0), (⟨"Treeclerk", "requireUnits", "(II)V"⟩, prog_1_method_38_code, 3, none, 0), (⟨"Treeclerk", "requireAlive", "(I)V"⟩, prog_1_method_39_code, 2, none, 0), (⟨"Treeclerk", "requireDead", "(I)V"⟩, prog_1_method_40_code, 2, none, 0), (⟨"Treeclerk", "requireUnclosed", "(LTreeclerk$Estate;)V"⟩, prog_1_method_41_code, 2, none, 0), (⟨"Treeclerk", "sharesNow", "(I)LTreeclerk$Shares;"⟩, prog_1_method_42_code, 3, some (Jvm.ClassFile.FieldType.object "Treeclerk$Shares"), 0), (⟨"Treeclerk", "wouldBeOthers", "(LTreeclerk$Estate;LTreeclerk$Shares;I)Z"⟩, prog_1_method_43_code, 4, some Jvm.ClassFile.FieldType.boolean, 0), (⟨"Treeclerk", "retellKin", "()I"⟩, prog_1_method_44_code, 4, some Jvm.ClassFile.FieldType.int, 0), (⟨"Treeclerk", "reopen", "(LTreeclerk$Estate;)Z"⟩, prog_1_method_45_code, 2, some Jvm.ClassFile.FieldType.boolean, 0), (⟨"Treeclerk", "isIn", "(II)Z"⟩, prog_1_method_46_code, 2, some Jvm.ClassFile.FieldType.boolean, 1), (⟨"java/lang/Integer", "bitCount", "(I)I"⟩, prog_16_method_49_code, 1, some Jvm.ClassFile.FieldType.int, 1)]
def gh_yt5 : List (MethodName × ByteArray × Nat × Option FieldType × Nat) := [(⟨"java/util/Arrays", "fill", "([II)V"⟩, prog_22_method_103_code, 4, none, 1), (⟨"java/util/Arrays", "fill", "([JJ)V"⟩, prog_22_method_101_code, 5, none, 1), (⟨"TreeclerkLaw", "drawn", "([II)I"⟩, method_2_code, 3, some Jvm.ClassFile.FieldType.int, 1), (⟨"TreeclerkLaw", "act", "(LTreeclerk;II)I"⟩, method_3_code, 4, some Jvm.ClassFile.FieldType.int, 1), (⟨"TreeclerkLaw", "does", "(LTreeclerk;III)I"⟩, method_4_code, 5, some Jvm.ClassFile.FieldType.int, 1), (⟨"TreeclerkLaw", "tell", "(LTreeclerk;IIII)I"⟩, method_5_code, 6, some Jvm.ClassFile.FieldType.int, 1), (⟨"TreeclerkLaw", "hand", "(LTreeclerk;IIII)I"⟩, method_6_code, 6, some Jvm.ClassFile.FieldType.int, 1), (⟨"TreeclerkLaw", "share", "(LTreeclerk;III)J"⟩, method_7_code, 5, some Jvm.ClassFile.FieldType.long, 1), (⟨"TreeclerkLaw", "of", "(LTreeclerk;II)I"⟩, method_8_code, 4, some Jvm.ClassFile.FieldType.int, 1), (⟨"TreeclerkLaw", "parent", "(LTreeclerk;II)I"⟩, method_9_code, 4, some Jvm.ClassFile.FieldType.int, 1), (⟨"TreeclerkLaw", "parcel", "(LTreeclerk;I)I"⟩, method_10_code, 3, some Jvm.ClassFile.FieldType.int, 1), (⟨"TreeclerkLaw", "same", "(LTreeclerk;LTreeclerk;II)Z"⟩, method_11_code, 11, some Jvm.ClassFile.FieldType.boolean, 1)]
def gh_yt : List (MethodName × ByteArray × Nat × Option FieldType × Nat) := gh_yt0 ++ (gh_yt1 ++ (gh_yt2 ++ (gh_yt3 ++ (gh_yt4 ++ (gh_yt5)))))
def gh_yOK (q : MethodName × ByteArray × Nat × Option FieldType × Nat) : Prop := Cond.code q.1 q.2.1 q.2.2.1 q.2.2.2.1 ∈ gh_wsG ∧ Cond.initialized q.1.cls ∈ gh_wsG ∧ (q.1.cls ≠ "java/lang/invoke/MethodHandle" ∧ q.1.cls ≠ "java/lang/invoke/VarHandle") ∧ plainName q.1.cls = true ∧ q.2.2.1 ≤ 12 ∧
  ((q.2.2.2.2 = 0 ∧ Cond.instanceMethod q.1 ∈ gh_wsG ∧ Cond.selects q.1.cls q.1 q.1 ∈ gh_wsG) ∨ (q.2.2.2.2 = 1 ∧ Cond.static q.1 ∈ gh_wsG) ∨ (q.2.2.2.2 = 2 ∧ q.1.name = "<init>" ∧ q.2.2.2.1 = none ∧ Cond.instanceMethod q.1 ∈ gh_wsG))
set_option maxRecDepth 100000 in
theorem gh_y0 : ∃ q, gh_yt[0]? = some q ∧ gh_yOK q := ⟨_, rfl, ⟨gh_w 126 rfl rfl, gh_w 6 rfl rfl, ⟨by decide, by decide⟩, by decide +kernel, by decide, Or.inr (Or.inr ⟨rfl, rfl, rfl, gh_w 125 rfl rfl⟩)⟩⟩
set_option maxRecDepth 100000 in
theorem gh_y1 : ∃ q, gh_yt[1]? = some q ∧ gh_yOK q := ⟨_, rfl, ⟨gh_w 476 rfl rfl, gh_w 6 rfl rfl, ⟨by decide, by decide⟩, by decide +kernel, by decide, Or.inl ⟨rfl, gh_w 474 rfl rfl, gh_w 475 rfl rfl⟩⟩⟩
set_option maxRecDepth 100000 in
theorem gh_y2 : ∃ q, gh_yt[2]? = some q ∧ gh_yOK q := ⟨_, rfl, ⟨gh_w 548 rfl rfl, gh_w 6 rfl rfl, ⟨by decide, by decide⟩, by decide +kernel, by decide, Or.inl ⟨rfl, gh_w 547 rfl rfl, gh_wp 10 rfl⟩⟩⟩
set_option maxRecDepth 100000 in
theorem gh_y3 : ∃ q, gh_yt[3]? = some q ∧ gh_yOK q := ⟨_, rfl, ⟨gh_w 930 rfl rfl, gh_w 6 rfl rfl, ⟨by decide, by decide⟩, by decide +kernel, by decide, Or.inl ⟨rfl, gh_w 928 rfl rfl, gh_w 929 rfl rfl⟩⟩⟩
set_option maxRecDepth 100000 in
theorem gh_y4 : ∃ q, gh_yt[4]? = some q ∧ gh_yOK q := ⟨_, rfl, ⟨gh_w 934 rfl rfl, gh_w 6 rfl rfl, ⟨by decide, by decide⟩, by decide +kernel, by decide, Or.inl ⟨rfl, gh_w 933 rfl rfl, gh_wp 32 rfl⟩⟩⟩
set_option maxRecDepth 100000 in
theorem gh_y5 : ∃ q, gh_yt[5]? = some q ∧ gh_yOK q := ⟨_, rfl, ⟨gh_w 938 rfl rfl, gh_w 6 rfl rfl, ⟨by decide, by decide⟩, by decide +kernel, by decide, Or.inl ⟨rfl, gh_w 937 rfl rfl, gh_wp 33 rfl⟩⟩⟩
set_option maxRecDepth 100000 in
theorem gh_y6 : ∃ q, gh_yt[6]? = some q ∧ gh_yOK q := ⟨_, rfl, ⟨gh_w 527 rfl rfl, gh_w 6 rfl rfl, ⟨by decide, by decide⟩, by decide +kernel, by decide, Or.inl ⟨rfl, gh_w 526 rfl rfl, gh_wp 9 rfl⟩⟩⟩
set_option maxRecDepth 100000 in
theorem gh_y7 : ∃ q, gh_yt[7]? = some q ∧ gh_yOK q := ⟨_, rfl, ⟨gh_w 480 rfl rfl, gh_w 6 rfl rfl, ⟨by decide, by decide⟩, by decide +kernel, by decide, Or.inl ⟨rfl, gh_w 479 rfl rfl, gh_wp 6 rfl⟩⟩⟩
set_option maxRecDepth 100000 in
theorem gh_y8 : ∃ q, gh_yt[8]? = some q ∧ gh_yOK q := ⟨_, rfl, ⟨gh_w 484 rfl rfl, gh_w 6 rfl rfl, ⟨by decide, by decide⟩, by decide +kernel, by decide, Or.inl ⟨rfl, gh_w 483 rfl rfl, gh_wp 7 rfl⟩⟩⟩
set_option maxRecDepth 100000 in
theorem gh_y9 : ∃ q, gh_yt[9]? = some q ∧ gh_yOK q := ⟨_, rfl, ⟨gh_w 502 rfl rfl, gh_w 6 rfl rfl, ⟨by decide, by decide⟩, by decide +kernel, by decide, Or.inl ⟨rfl, gh_w 501 rfl rfl, gh_wp 8 rfl⟩⟩⟩
set_option maxRecDepth 100000 in
theorem gh_y10 : ∃ q, gh_yt[10]? = some q ∧ gh_yOK q := ⟨_, rfl, ⟨gh_w 556 rfl rfl, gh_w 6 rfl rfl, ⟨by decide, by decide⟩, by decide +kernel, by decide, Or.inl ⟨rfl, gh_w 555 rfl rfl, gh_wp 11 rfl⟩⟩⟩
set_option maxRecDepth 100000 in
theorem gh_y11 : ∃ q, gh_yt[11]? = some q ∧ gh_yOK q := ⟨_, rfl, ⟨gh_w 560 rfl rfl, gh_w 6 rfl rfl, ⟨by decide, by decide⟩, by decide +kernel, by decide, Or.inl ⟨rfl, gh_w 559 rfl rfl, gh_wp 12 rfl⟩⟩⟩
set_option maxRecDepth 100000 in
theorem gh_y12 : ∃ q, gh_yt[12]? = some q ∧ gh_yOK q := ⟨_, rfl, ⟨gh_w 211 rfl rfl, gh_w 9 rfl rfl, ⟨by decide, by decide⟩, by decide +kernel, by decide, Or.inr (Or.inr ⟨rfl, rfl, rfl, gh_w 210 rfl rfl⟩)⟩⟩
set_option maxRecDepth 100000 in
theorem gh_y13 : ∃ q, gh_yt[13]? = some q ∧ gh_yOK q := ⟨_, rfl, ⟨gh_w 564 rfl rfl, gh_w 9 rfl rfl, ⟨by decide, by decide⟩, by decide +kernel, by decide, Or.inl ⟨rfl, gh_w 562 rfl rfl, gh_w 563 rfl rfl⟩⟩⟩
set_option maxRecDepth 100000 in
theorem gh_y14 : ∃ q, gh_yt[14]? = some q ∧ gh_yOK q := ⟨_, rfl, ⟨gh_w 762 rfl rfl, gh_w 9 rfl rfl, ⟨by decide, by decide⟩, by decide +kernel, by decide, Or.inl ⟨rfl, gh_w 760 rfl rfl, gh_w 761 rfl rfl⟩⟩⟩
set_option maxRecDepth 100000 in
theorem gh_y15 : ∃ q, gh_yt[15]? = some q ∧ gh_yOK q := ⟨_, rfl, ⟨gh_w 595 rfl rfl, gh_w 9 rfl rfl, ⟨by decide, by decide⟩, by decide +kernel, by decide, Or.inl ⟨rfl, gh_w 593 rfl rfl, gh_w 594 rfl rfl⟩⟩⟩
set_option maxRecDepth 100000 in
theorem gh_y16 : ∃ q, gh_yt[16]? = some q ∧ gh_yOK q := ⟨_, rfl, ⟨gh_w 732 rfl rfl, gh_w 9 rfl rfl, ⟨by decide, by decide⟩, by decide +kernel, by decide, Or.inl ⟨rfl, gh_w 730 rfl rfl, gh_w 731 rfl rfl⟩⟩⟩
set_option maxRecDepth 100000 in
theorem gh_y17 : ∃ q, gh_yt[17]? = some q ∧ gh_yOK q := ⟨_, rfl, ⟨gh_w 454 rfl rfl, gh_w 9 rfl rfl, ⟨by decide, by decide⟩, by decide +kernel, by decide, Or.inl ⟨rfl, gh_w 452 rfl rfl, gh_w 453 rfl rfl⟩⟩⟩
set_option maxRecDepth 100000 in
theorem gh_y18 : ∃ q, gh_yt[18]? = some q ∧ gh_yOK q := ⟨_, rfl, ⟨gh_w 458 rfl rfl, gh_w 9 rfl rfl, ⟨by decide, by decide⟩, by decide +kernel, by decide, Or.inl ⟨rfl, gh_w 457 rfl rfl, gh_wp 3 rfl⟩⟩⟩
set_option maxRecDepth 100000 in
theorem gh_y19 : ∃ q, gh_yt[19]? = some q ∧ gh_yOK q := ⟨_, rfl, ⟨gh_w 587 rfl rfl, gh_w 9 rfl rfl, ⟨by decide, by decide⟩, by decide +kernel, by decide, Or.inl ⟨rfl, gh_w 585 rfl rfl, gh_w 586 rfl rfl⟩⟩⟩
set_option maxRecDepth 100000 in
theorem gh_y20 : ∃ q, gh_yt[20]? = some q ∧ gh_yOK q := ⟨_, rfl, ⟨gh_w 590 rfl rfl, gh_w 9 rfl rfl, ⟨by decide, by decide⟩, by decide +kernel, by decide, Or.inr (Or.inl ⟨rfl, gh_w 589 rfl rfl⟩)⟩⟩
set_option maxRecDepth 100000 in
theorem gh_y21 : ∃ q, gh_yt[21]? = some q ∧ gh_yOK q := ⟨_, rfl, ⟨gh_w 32 rfl rfl, gh_w 2 rfl rfl, ⟨by decide, by decide⟩, by decide +kernel, by decide, Or.inr (Or.inr ⟨rfl, rfl, rfl, gh_w 31 rfl rfl⟩)⟩⟩
set_option maxRecDepth 100000 in
theorem gh_y22 : ∃ q, gh_yt[22]? = some q ∧ gh_yOK q := ⟨_, rfl, ⟨gh_w 406 rfl rfl, gh_w 2 rfl rfl, ⟨by decide, by decide⟩, by decide +kernel, by decide, Or.inl ⟨rfl, gh_w 404 rfl rfl, gh_w 405 rfl rfl⟩⟩⟩
set_option maxRecDepth 100000 in
theorem gh_y23 : ∃ q, gh_yt[23]? = some q ∧ gh_yOK q := ⟨_, rfl, ⟨gh_w 450 rfl rfl, gh_w 2 rfl rfl, ⟨by decide, by decide⟩, by decide +kernel, by decide, Or.inl ⟨rfl, gh_w 448 rfl rfl, gh_w 449 rfl rfl⟩⟩⟩
set_option maxRecDepth 100000 in
theorem gh_y24 : ∃ q, gh_yt[24]? = some q ∧ gh_yOK q := ⟨_, rfl, ⟨gh_w 442 rfl rfl, gh_w 2 rfl rfl, ⟨by decide, by decide⟩, by decide +kernel, by decide, Or.inl ⟨rfl, gh_w 440 rfl rfl, gh_w 441 rfl rfl⟩⟩⟩
set_option maxRecDepth 100000 in
theorem gh_y25 : ∃ q, gh_yt[25]? = some q ∧ gh_yOK q := ⟨_, rfl, ⟨gh_w 410 rfl rfl, gh_w 2 rfl rfl, ⟨by decide, by decide⟩, by decide +kernel, by decide, Or.inl ⟨rfl, gh_w 408 rfl rfl, gh_w 409 rfl rfl⟩⟩⟩
set_option maxRecDepth 100000 in
theorem gh_y26 : ∃ q, gh_yt[26]? = some q ∧ gh_yOK q := ⟨_, rfl, ⟨gh_w 488 rfl rfl, gh_w 2 rfl rfl, ⟨by decide, by decide⟩, by decide +kernel, by decide, Or.inl ⟨rfl, gh_w 486 rfl rfl, gh_w 487 rfl rfl⟩⟩⟩
set_option maxRecDepth 100000 in
theorem gh_y27 : ∃ q, gh_yt[27]? = some q ∧ gh_yOK q := ⟨_, rfl, ⟨gh_w 743 rfl rfl, gh_w 2 rfl rfl, ⟨by decide, by decide⟩, by decide +kernel, by decide, Or.inl ⟨rfl, gh_w 741 rfl rfl, gh_w 742 rfl rfl⟩⟩⟩
set_option maxRecDepth 100000 in
theorem gh_y28 : ∃ q, gh_yt[28]? = some q ∧ gh_yOK q := ⟨_, rfl, ⟨gh_w 492 rfl rfl, gh_w 2 rfl rfl, ⟨by decide, by decide⟩, by decide +kernel, by decide, Or.inl ⟨rfl, gh_w 490 rfl rfl, gh_w 491 rfl rfl⟩⟩⟩
set_option maxRecDepth 100000 in
theorem gh_y29 : ∃ q, gh_yt[29]? = some q ∧ gh_yOK q := ⟨_, rfl, ⟨gh_w 102 rfl rfl, gh_w 4 rfl rfl, ⟨by decide, by decide⟩, by decide +kernel, by decide, Or.inr (Or.inr ⟨rfl, rfl, rfl, gh_w 101 rfl rfl⟩)⟩⟩
set_option maxRecDepth 100000 in
theorem gh_y30 : ∃ q, gh_yt[30]? = some q ∧ gh_yOK q := ⟨_, rfl, ⟨gh_w 510 rfl rfl, gh_w 4 rfl rfl, ⟨by decide, by decide⟩, by decide +kernel, by decide, Or.inl ⟨rfl, gh_w 508 rfl rfl, gh_w 509 rfl rfl⟩⟩⟩
set_option maxRecDepth 100000 in
theorem gh_y31 : ∃ q, gh_yt[31]? = some q ∧ gh_yOK q := ⟨_, rfl, ⟨gh_w 517 rfl rfl, gh_w 4 rfl rfl, ⟨by decide, by decide⟩, by decide +kernel, by decide, Or.inl ⟨rfl, gh_w 515 rfl rfl, gh_w 516 rfl rfl⟩⟩⟩
set_option maxRecDepth 100000 in
theorem gh_y32 : ∃ q, gh_yt[32]? = some q ∧ gh_yOK q := ⟨_, rfl, ⟨gh_w 498 rfl rfl, gh_w 4 rfl rfl, ⟨by decide, by decide⟩, by decide +kernel, by decide, Or.inl ⟨rfl, gh_w 496 rfl rfl, gh_w 497 rfl rfl⟩⟩⟩
set_option maxRecDepth 100000 in
theorem gh_y33 : ∃ q, gh_yt[33]? = some q ∧ gh_yOK q := ⟨_, rfl, ⟨gh_w 506 rfl rfl, gh_w 4 rfl rfl, ⟨by decide, by decide⟩, by decide +kernel, by decide, Or.inl ⟨rfl, gh_w 504 rfl rfl, gh_w 505 rfl rfl⟩⟩⟩
set_option maxRecDepth 100000 in
theorem gh_y34 : ∃ q, gh_yt[34]? = some q ∧ gh_yOK q := ⟨_, rfl, ⟨gh_w 513 rfl rfl, gh_w 4 rfl rfl, ⟨by decide, by decide⟩, by decide +kernel, by decide, Or.inr (Or.inl ⟨rfl, gh_w 512 rfl rfl⟩)⟩⟩
set_option maxRecDepth 100000 in
theorem gh_y35 : ∃ q, gh_yt[35]? = some q ∧ gh_yOK q := ⟨_, rfl, ⟨gh_w 658 rfl rfl, gh_w 4 rfl rfl, ⟨by decide, by decide⟩, by decide +kernel, by decide, Or.inl ⟨rfl, gh_w 656 rfl rfl, gh_w 657 rfl rfl⟩⟩⟩
set_option maxRecDepth 100000 in
theorem gh_y36 : ∃ q, gh_yt[36]? = some q ∧ gh_yOK q := ⟨_, rfl, ⟨gh_w 662 rfl rfl, gh_w 4 rfl rfl, ⟨by decide, by decide⟩, by decide +kernel, by decide, Or.inl ⟨rfl, gh_w 661 rfl rfl, gh_wp 21 rfl⟩⟩⟩
set_option maxRecDepth 100000 in
theorem gh_y37 : ∃ q, gh_yt[37]? = some q ∧ gh_yOK q := ⟨_, rfl, ⟨gh_w 672 rfl rfl, gh_w 4 rfl rfl, ⟨by decide, by decide⟩, by decide +kernel, by decide, Or.inl ⟨rfl, gh_w 671 rfl rfl, gh_wp 22 rfl⟩⟩⟩
set_option maxRecDepth 100000 in
theorem gh_y38 : ∃ q, gh_yt[38]? = some q ∧ gh_yOK q := ⟨_, rfl, ⟨gh_w 676 rfl rfl, gh_w 4 rfl rfl, ⟨by decide, by decide⟩, by decide +kernel, by decide, Or.inl ⟨rfl, gh_w 675 rfl rfl, gh_wp 23 rfl⟩⟩⟩
set_option maxRecDepth 100000 in
theorem gh_y39 : ∃ q, gh_yt[39]? = some q ∧ gh_yOK q := ⟨_, rfl, ⟨gh_w 165 rfl rfl, gh_w 8 rfl rfl, ⟨by decide, by decide⟩, by decide +kernel, by decide, Or.inr (Or.inr ⟨rfl, rfl, rfl, gh_w 164 rfl rfl⟩)⟩⟩
set_option maxRecDepth 100000 in
theorem gh_y40 : ∃ q, gh_yt[40]? = some q ∧ gh_yOK q := ⟨_, rfl, ⟨gh_w 817 rfl rfl, gh_w 8 rfl rfl, ⟨by decide, by decide⟩, by decide +kernel, by decide, Or.inl ⟨rfl, gh_w 815 rfl rfl, gh_w 816 rfl rfl⟩⟩⟩
set_option maxRecDepth 100000 in
theorem gh_y41 : ∃ q, gh_yt[41]? = some q ∧ gh_yOK q := ⟨_, rfl, ⟨gh_w 776 rfl rfl, gh_w 8 rfl rfl, ⟨by decide, by decide⟩, by decide +kernel, by decide, Or.inl ⟨rfl, gh_w 774 rfl rfl, gh_w 775 rfl rfl⟩⟩⟩
set_option maxRecDepth 100000 in
theorem gh_y42 : ∃ q, gh_yt[42]? = some q ∧ gh_yOK q := ⟨_, rfl, ⟨gh_w 792 rfl rfl, gh_w 8 rfl rfl, ⟨by decide, by decide⟩, by decide +kernel, by decide, Or.inl ⟨rfl, gh_w 790 rfl rfl, gh_w 791 rfl rfl⟩⟩⟩
set_option maxRecDepth 100000 in
theorem gh_y43 : ∃ q, gh_yt[43]? = some q ∧ gh_yOK q := ⟨_, rfl, ⟨gh_w 821 rfl rfl, gh_w 8 rfl rfl, ⟨by decide, by decide⟩, by decide +kernel, by decide, Or.inl ⟨rfl, gh_w 819 rfl rfl, gh_w 820 rfl rfl⟩⟩⟩
set_option maxRecDepth 100000 in
theorem gh_y44 : ∃ q, gh_yt[44]? = some q ∧ gh_yOK q := ⟨_, rfl, ⟨gh_w 855 rfl rfl, gh_w 8 rfl rfl, ⟨by decide, by decide⟩, by decide +kernel, by decide, Or.inl ⟨rfl, gh_w 853 rfl rfl, gh_w 854 rfl rfl⟩⟩⟩
set_option maxRecDepth 100000 in
theorem gh_y45 : ∃ q, gh_yt[45]? = some q ∧ gh_yOK q := ⟨_, rfl, ⟨gh_w 781 rfl rfl, gh_w 8 rfl rfl, ⟨by decide, by decide⟩, by decide +kernel, by decide, Or.inl ⟨rfl, gh_w 779 rfl rfl, gh_w 780 rfl rfl⟩⟩⟩
set_option maxRecDepth 100000 in
theorem gh_y46 : ∃ q, gh_yt[46]? = some q ∧ gh_yOK q := ⟨_, rfl, ⟨gh_w 798 rfl rfl, gh_w 8 rfl rfl, ⟨by decide, by decide⟩, by decide +kernel, by decide, Or.inl ⟨rfl, gh_w 796 rfl rfl, gh_w 797 rfl rfl⟩⟩⟩
set_option maxRecDepth 100000 in
theorem gh_y47 : ∃ q, gh_yt[47]? = some q ∧ gh_yOK q := ⟨_, rfl, ⟨gh_w 568 rfl rfl, gh_w 8 rfl rfl, ⟨by decide, by decide⟩, by decide +kernel, by decide, Or.inl ⟨rfl, gh_w 566 rfl rfl, gh_w 567 rfl rfl⟩⟩⟩
set_option maxRecDepth 100000 in
theorem gh_y48 : ∃ q, gh_yt[48]? = some q ∧ gh_yOK q := ⟨_, rfl, ⟨gh_w 572 rfl rfl, gh_w 8 rfl rfl, ⟨by decide, by decide⟩, by decide +kernel, by decide, Or.inl ⟨rfl, gh_w 571 rfl rfl, gh_wp 13 rfl⟩⟩⟩
set_option maxRecDepth 100000 in
theorem gh_y49 : ∃ q, gh_yt[49]? = some q ∧ gh_yOK q := ⟨_, rfl, ⟨gh_w 696 rfl rfl, gh_w 8 rfl rfl, ⟨by decide, by decide⟩, by decide +kernel, by decide, Or.inl ⟨rfl, gh_w 694 rfl rfl, gh_w 695 rfl rfl⟩⟩⟩
set_option maxRecDepth 100000 in
theorem gh_y50 : ∃ q, gh_yt[50]? = some q ∧ gh_yOK q := ⟨_, rfl, ⟨gh_w 942 rfl rfl, gh_w 8 rfl rfl, ⟨by decide, by decide⟩, by decide +kernel, by decide, Or.inl ⟨rfl, gh_w 940 rfl rfl, gh_w 941 rfl rfl⟩⟩⟩
set_option maxRecDepth 100000 in
theorem gh_y51 : ∃ q, gh_yt[51]? = some q ∧ gh_yOK q := ⟨_, rfl, ⟨gh_w 703 rfl rfl, gh_w 8 rfl rfl, ⟨by decide, by decide⟩, by decide +kernel, by decide, Or.inl ⟨rfl, gh_w 702 rfl rfl, gh_wp 25 rfl⟩⟩⟩
set_option maxRecDepth 100000 in
theorem gh_y52 : ∃ q, gh_yt[52]? = some q ∧ gh_yOK q := ⟨_, rfl, ⟨gh_w 576 rfl rfl, gh_w 8 rfl rfl, ⟨by decide, by decide⟩, by decide +kernel, by decide, Or.inl ⟨rfl, gh_w 575 rfl rfl, gh_wp 14 rfl⟩⟩⟩
set_option maxRecDepth 100000 in
theorem gh_y53 : ∃ q, gh_yt[53]? = some q ∧ gh_yOK q := ⟨_, rfl, ⟨gh_w 583 rfl rfl, gh_w 8 rfl rfl, ⟨by decide, by decide⟩, by decide +kernel, by decide, Or.inl ⟨rfl, gh_w 582 rfl rfl, gh_wp 15 rfl⟩⟩⟩
set_option maxRecDepth 100000 in
theorem gh_y54 : ∃ q, gh_yt[54]? = some q ∧ gh_yOK q := ⟨_, rfl, ⟨gh_w 615 rfl rfl, gh_w 8 rfl rfl, ⟨by decide, by decide⟩, by decide +kernel, by decide, Or.inl ⟨rfl, gh_w 614 rfl rfl, gh_wp 17 rfl⟩⟩⟩
set_option maxRecDepth 100000 in
theorem gh_y55 : ∃ q, gh_yt[55]? = some q ∧ gh_yOK q := ⟨_, rfl, ⟨gh_w 605 rfl rfl, gh_w 8 rfl rfl, ⟨by decide, by decide⟩, by decide +kernel, by decide, Or.inl ⟨rfl, gh_w 604 rfl rfl, gh_wp 16 rfl⟩⟩⟩
set_option maxRecDepth 100000 in
theorem gh_y56 : ∃ q, gh_yt[56]? = some q ∧ gh_yOK q := ⟨_, rfl, ⟨gh_w 699 rfl rfl, gh_w 8 rfl rfl, ⟨by decide, by decide⟩, by decide +kernel, by decide, Or.inr (Or.inl ⟨rfl, gh_w 698 rfl rfl⟩)⟩⟩
set_option maxRecDepth 100000 in
theorem gh_y57 : ∃ q, gh_yt[57]? = some q ∧ gh_yOK q := ⟨_, rfl, ⟨gh_w 598 rfl rfl, gh_w 8 rfl rfl, ⟨by decide, by decide⟩, by decide +kernel, by decide, Or.inr (Or.inl ⟨rfl, gh_w 597 rfl rfl⟩)⟩⟩
set_option maxRecDepth 100000 in
theorem gh_y58 : ∃ q, gh_yt[58]? = some q ∧ gh_yOK q := ⟨_, rfl, ⟨gh_w 59 rfl rfl, gh_w 3 rfl rfl, ⟨by decide, by decide⟩, by decide +kernel, by decide, Or.inr (Or.inr ⟨rfl, rfl, rfl, gh_w 58 rfl rfl⟩)⟩⟩
set_option maxRecDepth 100000 in
theorem gh_y59 : ∃ q, gh_yt[59]? = some q ∧ gh_yOK q := ⟨_, rfl, ⟨gh_w 749 rfl rfl, gh_w 3 rfl rfl, ⟨by decide, by decide⟩, by decide +kernel, by decide, Or.inl ⟨rfl, gh_w 747 rfl rfl, gh_w 748 rfl rfl⟩⟩⟩
set_option maxRecDepth 100000 in
theorem gh_y60 : ∃ q, gh_yt[60]? = some q ∧ gh_yOK q := ⟨_, rfl, ⟨gh_w 650 rfl rfl, gh_w 3 rfl rfl, ⟨by decide, by decide⟩, by decide +kernel, by decide, Or.inl ⟨rfl, gh_w 648 rfl rfl, gh_w 649 rfl rfl⟩⟩⟩
set_option maxRecDepth 100000 in
theorem gh_y61 : ∃ q, gh_yt[61]? = some q ∧ gh_yOK q := ⟨_, rfl, ⟨gh_w 717 rfl rfl, gh_w 3 rfl rfl, ⟨by decide, by decide⟩, by decide +kernel, by decide, Or.inl ⟨rfl, gh_w 715 rfl rfl, gh_w 716 rfl rfl⟩⟩⟩
set_option maxRecDepth 100000 in
theorem gh_y62 : ∃ q, gh_yt[62]? = some q ∧ gh_yOK q := ⟨_, rfl, ⟨gh_w 722 rfl rfl, gh_w 3 rfl rfl, ⟨by decide, by decide⟩, by decide +kernel, by decide, Or.inl ⟨rfl, gh_w 721 rfl rfl, gh_wp 26 rfl⟩⟩⟩
set_option maxRecDepth 100000 in
theorem gh_y63 : ∃ q, gh_yt[63]? = some q ∧ gh_yOK q := ⟨_, rfl, ⟨gh_w 644 rfl rfl, gh_w 3 rfl rfl, ⟨by decide, by decide⟩, by decide +kernel, by decide, Or.inl ⟨rfl, gh_w 642 rfl rfl, gh_w 643 rfl rfl⟩⟩⟩
set_option maxRecDepth 100000 in
theorem gh_y64 : ∃ q, gh_yt[64]? = some q ∧ gh_yOK q := ⟨_, rfl, ⟨gh_w 712 rfl rfl, gh_w 3 rfl rfl, ⟨by decide, by decide⟩, by decide +kernel, by decide, Or.inl ⟨rfl, gh_w 710 rfl rfl, gh_w 711 rfl rfl⟩⟩⟩
set_option maxRecDepth 100000 in
theorem gh_y65 : ∃ q, gh_yt[65]? = some q ∧ gh_yOK q := ⟨_, rfl, ⟨gh_w 640 rfl rfl, gh_w 3 rfl rfl, ⟨by decide, by decide⟩, by decide +kernel, by decide, Or.inl ⟨rfl, gh_w 638 rfl rfl, gh_w 639 rfl rfl⟩⟩⟩
set_option maxRecDepth 100000 in
theorem gh_y66 : ∃ q, gh_yt[66]? = some q ∧ gh_yOK q := ⟨_, rfl, ⟨gh_w 901 rfl rfl, gh_w 3 rfl rfl, ⟨by decide, by decide⟩, by decide +kernel, by decide, Or.inl ⟨rfl, gh_w 899 rfl rfl, gh_w 900 rfl rfl⟩⟩⟩
set_option maxRecDepth 100000 in
theorem gh_y67 : ∃ q, gh_yt[67]? = some q ∧ gh_yOK q := ⟨_, rfl, ⟨gh_w 666 rfl rfl, gh_w 3 rfl rfl, ⟨by decide, by decide⟩, by decide +kernel, by decide, Or.inl ⟨rfl, gh_w 664 rfl rfl, gh_w 665 rfl rfl⟩⟩⟩
set_option maxRecDepth 100000 in
theorem gh_y68 : ∃ q, gh_yt[68]? = some q ∧ gh_yOK q := ⟨_, rfl, ⟨gh_w 132 rfl rfl, gh_w 7 rfl rfl, ⟨by decide, by decide⟩, by decide +kernel, by decide, Or.inr (Or.inr ⟨rfl, rfl, rfl, gh_w 131 rfl rfl⟩)⟩⟩
set_option maxRecDepth 100000 in
theorem gh_y69 : ∃ q, gh_yt[69]? = some q ∧ gh_yOK q := ⟨_, rfl, ⟨gh_w 523 rfl rfl, gh_w 7 rfl rfl, ⟨by decide, by decide⟩, by decide +kernel, by decide, Or.inl ⟨rfl, gh_w 521 rfl rfl, gh_w 522 rfl rfl⟩⟩⟩
set_option maxRecDepth 100000 in
theorem gh_y70 : ∃ q, gh_yt[70]? = some q ∧ gh_yOK q := ⟨_, rfl, ⟨gh_w 688 rfl rfl, gh_w 7 rfl rfl, ⟨by decide, by decide⟩, by decide +kernel, by decide, Or.inl ⟨rfl, gh_w 686 rfl rfl, gh_w 687 rfl rfl⟩⟩⟩
set_option maxRecDepth 100000 in
theorem gh_y71 : ∃ q, gh_yt[71]? = some q ∧ gh_yOK q := ⟨_, rfl, ⟨gh_w 544 rfl rfl, gh_w 7 rfl rfl, ⟨by decide, by decide⟩, by decide +kernel, by decide, Or.inl ⟨rfl, gh_w 542 rfl rfl, gh_w 543 rfl rfl⟩⟩⟩
set_option maxRecDepth 100000 in
theorem gh_y72 : ∃ q, gh_yt[72]? = some q ∧ gh_yOK q := ⟨_, rfl, ⟨gh_w 552 rfl rfl, gh_w 7 rfl rfl, ⟨by decide, by decide⟩, by decide +kernel, by decide, Or.inl ⟨rfl, gh_w 550 rfl rfl, gh_w 551 rfl rfl⟩⟩⟩
set_option maxRecDepth 100000 in
theorem gh_y73 : ∃ q, gh_yt[73]? = some q ∧ gh_yOK q := ⟨_, rfl, ⟨gh_w 537 rfl rfl, gh_w 7 rfl rfl, ⟨by decide, by decide⟩, by decide +kernel, by decide, Or.inl ⟨rfl, gh_w 535 rfl rfl, gh_w 536 rfl rfl⟩⟩⟩
set_option maxRecDepth 100000 in
theorem gh_y74 : ∃ q, gh_yt[74]? = some q ∧ gh_yOK q := ⟨_, rfl, ⟨gh_w 609 rfl rfl, gh_w 7 rfl rfl, ⟨by decide, by decide⟩, by decide +kernel, by decide, Or.inl ⟨rfl, gh_w 607 rfl rfl, gh_w 608 rfl rfl⟩⟩⟩
set_option maxRecDepth 100000 in
theorem gh_y75 : ∃ q, gh_yt[75]? = some q ∧ gh_yOK q := ⟨_, rfl, ⟨gh_w 619 rfl rfl, gh_w 7 rfl rfl, ⟨by decide, by decide⟩, by decide +kernel, by decide, Or.inl ⟨rfl, gh_w 617 rfl rfl, gh_w 618 rfl rfl⟩⟩⟩
set_option maxRecDepth 100000 in
theorem gh_y76 : ∃ q, gh_yt[76]? = some q ∧ gh_yOK q := ⟨_, rfl, ⟨gh_w 684 rfl rfl, gh_w 7 rfl rfl, ⟨by decide, by decide⟩, by decide +kernel, by decide, Or.inl ⟨rfl, gh_w 682 rfl rfl, gh_w 683 rfl rfl⟩⟩⟩
set_option maxRecDepth 100000 in
theorem gh_y77 : ∃ q, gh_yt[77]? = some q ∧ gh_yOK q := ⟨_, rfl, ⟨gh_w 540 rfl rfl, gh_w 7 rfl rfl, ⟨by decide, by decide⟩, by decide +kernel, by decide, Or.inr (Or.inl ⟨rfl, gh_w 539 rfl rfl⟩)⟩⟩
set_option maxRecDepth 100000 in
theorem gh_y78 : ∃ q, gh_yt[78]? = some q ∧ gh_yOK q := ⟨_, rfl, ⟨gh_w 24 rfl rfl, gh_w 1 rfl rfl, ⟨by decide, by decide⟩, by decide +kernel, by decide, Or.inr (Or.inr ⟨rfl, rfl, rfl, gh_w 23 rfl rfl⟩)⟩⟩
set_option maxRecDepth 100000 in
theorem gh_y79 : ∃ q, gh_yt[79]? = some q ∧ gh_yOK q := ⟨_, rfl, ⟨gh_w 311 rfl rfl, gh_w 1 rfl rfl, ⟨by decide, by decide⟩, by decide +kernel, by decide, Or.inl ⟨rfl, gh_w 309 rfl rfl, gh_w 310 rfl rfl⟩⟩⟩
set_option maxRecDepth 100000 in
theorem gh_y80 : ∃ q, gh_yt[80]? = some q ∧ gh_yOK q := ⟨_, rfl, ⟨gh_w 297 rfl rfl, gh_w 1 rfl rfl, ⟨by decide, by decide⟩, by decide +kernel, by decide, Or.inl ⟨rfl, gh_w 295 rfl rfl, gh_w 296 rfl rfl⟩⟩⟩
set_option maxRecDepth 100000 in
theorem gh_y81 : ∃ q, gh_yt[81]? = some q ∧ gh_yOK q := ⟨_, rfl, ⟨gh_w 400 rfl rfl, gh_w 1 rfl rfl, ⟨by decide, by decide⟩, by decide +kernel, by decide, Or.inl ⟨rfl, gh_w 398 rfl rfl, gh_w 399 rfl rfl⟩⟩⟩
set_option maxRecDepth 100000 in
theorem gh_y82 : ∃ q, gh_yt[82]? = some q ∧ gh_yOK q := ⟨_, rfl, ⟨gh_w 414 rfl rfl, gh_w 1 rfl rfl, ⟨by decide, by decide⟩, by decide +kernel, by decide, Or.inl ⟨rfl, gh_w 412 rfl rfl, gh_w 413 rfl rfl⟩⟩⟩
set_option maxRecDepth 100000 in
theorem gh_y83 : ∃ q, gh_yt[83]? = some q ∧ gh_yOK q := ⟨_, rfl, ⟨gh_w 805 rfl rfl, gh_w 1 rfl rfl, ⟨by decide, by decide⟩, by decide +kernel, by decide, Or.inl ⟨rfl, gh_w 803 rfl rfl, gh_w 804 rfl rfl⟩⟩⟩
set_option maxRecDepth 100000 in
theorem gh_y84 : ∃ q, gh_yt[84]? = some q ∧ gh_yOK q := ⟨_, rfl, ⟨gh_w 872 rfl rfl, gh_w 1 rfl rfl, ⟨by decide, by decide⟩, by decide +kernel, by decide, Or.inl ⟨rfl, gh_w 870 rfl rfl, gh_w 871 rfl rfl⟩⟩⟩
set_option maxRecDepth 100000 in
theorem gh_y85 : ∃ q, gh_yt[85]? = some q ∧ gh_yOK q := ⟨_, rfl, ⟨gh_w 739 rfl rfl, gh_w 1 rfl rfl, ⟨by decide, by decide⟩, by decide +kernel, by decide, Or.inl ⟨rfl, gh_w 737 rfl rfl, gh_w 738 rfl rfl⟩⟩⟩
set_option maxRecDepth 100000 in
theorem gh_y86 : ∃ q, gh_yt[86]? = some q ∧ gh_yOK q := ⟨_, rfl, ⟨gh_w 626 rfl rfl, gh_w 1 rfl rfl, ⟨by decide, by decide⟩, by decide +kernel, by decide, Or.inl ⟨rfl, gh_w 624 rfl rfl, gh_w 625 rfl rfl⟩⟩⟩
set_option maxRecDepth 100000 in
theorem gh_y87 : ∃ q, gh_yt[87]? = some q ∧ gh_yOK q := ⟨_, rfl, ⟨gh_w 707 rfl rfl, gh_w 1 rfl rfl, ⟨by decide, by decide⟩, by decide +kernel, by decide, Or.inl ⟨rfl, gh_w 705 rfl rfl, gh_w 706 rfl rfl⟩⟩⟩
set_option maxRecDepth 100000 in
theorem gh_y88 : ∃ q, gh_yt[88]? = some q ∧ gh_yOK q := ⟨_, rfl, ⟨gh_w 918 rfl rfl, gh_w 1 rfl rfl, ⟨by decide, by decide⟩, by decide +kernel, by decide, Or.inl ⟨rfl, gh_w 916 rfl rfl, gh_w 917 rfl rfl⟩⟩⟩
set_option maxRecDepth 100000 in
theorem gh_y89 : ∃ q, gh_yt[89]? = some q ∧ gh_yOK q := ⟨_, rfl, ⟨gh_w 809 rfl rfl, gh_w 1 rfl rfl, ⟨by decide, by decide⟩, by decide +kernel, by decide, Or.inl ⟨rfl, gh_w 807 rfl rfl, gh_w 808 rfl rfl⟩⟩⟩
set_option maxRecDepth 100000 in
theorem gh_y90 : ∃ q, gh_yt[90]? = some q ∧ gh_yOK q := ⟨_, rfl, ⟨gh_w 862 rfl rfl, gh_w 1 rfl rfl, ⟨by decide, by decide⟩, by decide +kernel, by decide, Or.inl ⟨rfl, gh_w 860 rfl rfl, gh_w 861 rfl rfl⟩⟩⟩
set_option maxRecDepth 100000 in
theorem gh_y91 : ∃ q, gh_yt[91]? = some q ∧ gh_yOK q := ⟨_, rfl, ⟨gh_w 876 rfl rfl, gh_w 1 rfl rfl, ⟨by decide, by decide⟩, by decide +kernel, by decide, Or.inl ⟨rfl, gh_w 874 rfl rfl, gh_w 875 rfl rfl⟩⟩⟩
set_option maxRecDepth 100000 in
theorem gh_y92 : ∃ q, gh_yt[92]? = some q ∧ gh_yOK q := ⟨_, rfl, ⟨gh_w 753 rfl rfl, gh_w 1 rfl rfl, ⟨by decide, by decide⟩, by decide +kernel, by decide, Or.inl ⟨rfl, gh_w 751 rfl rfl, gh_w 752 rfl rfl⟩⟩⟩
set_option maxRecDepth 100000 in
theorem gh_y93 : ∃ q, gh_yt[93]? = some q ∧ gh_yOK q := ⟨_, rfl, ⟨gh_w 726 rfl rfl, gh_w 1 rfl rfl, ⟨by decide, by decide⟩, by decide +kernel, by decide, Or.inl ⟨rfl, gh_w 724 rfl rfl, gh_w 725 rfl rfl⟩⟩⟩
set_option maxRecDepth 100000 in
theorem gh_y94 : ∃ q, gh_yt[94]? = some q ∧ gh_yOK q := ⟨_, rfl, ⟨gh_w 881 rfl rfl, gh_w 1 rfl rfl, ⟨by decide, by decide⟩, by decide +kernel, by decide, Or.inl ⟨rfl, gh_w 879 rfl rfl, gh_w 880 rfl rfl⟩⟩⟩
set_option maxRecDepth 100000 in
theorem gh_y95 : ∃ q, gh_yt[95]? = some q ∧ gh_yOK q := ⟨_, rfl, ⟨gh_w 462 rfl rfl, gh_w 1 rfl rfl, ⟨by decide, by decide⟩, by decide +kernel, by decide, Or.inl ⟨rfl, gh_w 460 rfl rfl, gh_w 461 rfl rfl⟩⟩⟩
set_option maxRecDepth 100000 in
theorem gh_y96 : ∃ q, gh_yt[96]? = some q ∧ gh_yOK q := ⟨_, rfl, ⟨gh_w 885 rfl rfl, gh_w 1 rfl rfl, ⟨by decide, by decide⟩, by decide +kernel, by decide, Or.inl ⟨rfl, gh_w 883 rfl rfl, gh_w 884 rfl rfl⟩⟩⟩
set_option maxRecDepth 100000 in
theorem gh_y97 : ∃ q, gh_yt[97]? = some q ∧ gh_yOK q := ⟨_, rfl, ⟨gh_w 949 rfl rfl, gh_w 1 rfl rfl, ⟨by decide, by decide⟩, by decide +kernel, by decide, Or.inl ⟨rfl, gh_w 947 rfl rfl, gh_w 948 rfl rfl⟩⟩⟩
set_option maxRecDepth 100000 in
theorem gh_y98 : ∃ q, gh_yt[98]? = some q ∧ gh_yOK q := ⟨_, rfl, ⟨gh_w 954 rfl rfl, gh_w 1 rfl rfl, ⟨by decide, by decide⟩, by decide +kernel, by decide, Or.inl ⟨rfl, gh_w 952 rfl rfl, gh_w 953 rfl rfl⟩⟩⟩
set_option maxRecDepth 100000 in
theorem gh_y99 : ∃ q, gh_yt[99]? = some q ∧ gh_yOK q := ⟨_, rfl, ⟨gh_w 959 rfl rfl, gh_w 1 rfl rfl, ⟨by decide, by decide⟩, by decide +kernel, by decide, Or.inl ⟨rfl, gh_w 957 rfl rfl, gh_w 958 rfl rfl⟩⟩⟩
set_option maxRecDepth 100000 in
theorem gh_y100 : ∃ q, gh_yt[100]? = some q ∧ gh_yOK q := ⟨_, rfl, ⟨gh_w 889 rfl rfl, gh_w 1 rfl rfl, ⟨by decide, by decide⟩, by decide +kernel, by decide, Or.inl ⟨rfl, gh_w 887 rfl rfl, gh_w 888 rfl rfl⟩⟩⟩
set_option maxRecDepth 100000 in
theorem gh_y101 : ∃ q, gh_yt[101]? = some q ∧ gh_yOK q := ⟨_, rfl, ⟨gh_w 897 rfl rfl, gh_w 1 rfl rfl, ⟨by decide, by decide⟩, by decide +kernel, by decide, Or.inl ⟨rfl, gh_w 895 rfl rfl, gh_w 896 rfl rfl⟩⟩⟩
set_option maxRecDepth 100000 in
theorem gh_y102 : ∃ q, gh_yt[102]? = some q ∧ gh_yOK q := ⟨_, rfl, ⟨gh_w 910 rfl rfl, gh_w 1 rfl rfl, ⟨by decide, by decide⟩, by decide +kernel, by decide, Or.inl ⟨rfl, gh_w 908 rfl rfl, gh_w 909 rfl rfl⟩⟩⟩
set_option maxRecDepth 100000 in
theorem gh_y103 : ∃ q, gh_yt[103]? = some q ∧ gh_yOK q := ⟨_, rfl, ⟨gh_w 767 rfl rfl, gh_w 1 rfl rfl, ⟨by decide, by decide⟩, by decide +kernel, by decide, Or.inl ⟨rfl, gh_w 765 rfl rfl, gh_w 766 rfl rfl⟩⟩⟩
set_option maxRecDepth 100000 in
theorem gh_y104 : ∃ q, gh_yt[104]? = some q ∧ gh_yOK q := ⟨_, rfl, ⟨gh_w 788 rfl rfl, gh_w 1 rfl rfl, ⟨by decide, by decide⟩, by decide +kernel, by decide, Or.inl ⟨rfl, gh_w 786 rfl rfl, gh_w 787 rfl rfl⟩⟩⟩
set_option maxRecDepth 100000 in
theorem gh_y105 : ∃ q, gh_yt[105]? = some q ∧ gh_yOK q := ⟨_, rfl, ⟨gh_w 922 rfl rfl, gh_w 1 rfl rfl, ⟨by decide, by decide⟩, by decide +kernel, by decide, Or.inl ⟨rfl, gh_w 920 rfl rfl, gh_w 921 rfl rfl⟩⟩⟩
set_option maxRecDepth 100000 in
theorem gh_y106 : ∃ q, gh_yt[106]? = some q ∧ gh_yOK q := ⟨_, rfl, ⟨gh_w 926 rfl rfl, gh_w 1 rfl rfl, ⟨by decide, by decide⟩, by decide +kernel, by decide, Or.inl ⟨rfl, gh_w 924 rfl rfl, gh_w 925 rfl rfl⟩⟩⟩
set_option maxRecDepth 100000 in
theorem gh_y107 : ∃ q, gh_yt[107]? = some q ∧ gh_yOK q := ⟨_, rfl, ⟨gh_w 914 rfl rfl, gh_w 1 rfl rfl, ⟨by decide, by decide⟩, by decide +kernel, by decide, Or.inl ⟨rfl, gh_w 912 rfl rfl, gh_w 913 rfl rfl⟩⟩⟩
set_option maxRecDepth 100000 in
theorem gh_y108 : ∃ q, gh_yt[108]? = some q ∧ gh_yOK q := ⟨_, rfl, ⟨gh_w 813 rfl rfl, gh_w 1 rfl rfl, ⟨by decide, by decide⟩, by decide +kernel, by decide, Or.inl ⟨rfl, gh_w 811 rfl rfl, gh_w 812 rfl rfl⟩⟩⟩
set_option maxRecDepth 100000 in
theorem gh_y109 : ∃ q, gh_yt[109]? = some q ∧ gh_yOK q := ⟨_, rfl, ⟨gh_w 830 rfl rfl, gh_w 1 rfl rfl, ⟨by decide, by decide⟩, by decide +kernel, by decide, Or.inl ⟨rfl, gh_w 828 rfl rfl, gh_w 829 rfl rfl⟩⟩⟩
set_option maxRecDepth 100000 in
theorem gh_y110 : ∃ q, gh_yt[110]? = some q ∧ gh_yOK q := ⟨_, rfl, ⟨gh_w 418 rfl rfl, gh_w 1 rfl rfl, ⟨by decide, by decide⟩, by decide +kernel, by decide, Or.inl ⟨rfl, gh_w 417 rfl rfl, gh_wp 1 rfl⟩⟩⟩
set_option maxRecDepth 100000 in
theorem gh_y111 : ∃ q, gh_yt[111]? = some q ∧ gh_yOK q := ⟨_, rfl, ⟨gh_w 630 rfl rfl, gh_w 1 rfl rfl, ⟨by decide, by decide⟩, by decide +kernel, by decide, Or.inl ⟨rfl, gh_w 629 rfl rfl, gh_wp 18 rfl⟩⟩⟩
set_option maxRecDepth 100000 in
theorem gh_y112 : ∃ q, gh_yt[112]? = some q ∧ gh_yOK q := ⟨_, rfl, ⟨gh_w 834 rfl rfl, gh_w 1 rfl rfl, ⟨by decide, by decide⟩, by decide +kernel, by decide, Or.inl ⟨rfl, gh_w 833 rfl rfl, gh_wp 29 rfl⟩⟩⟩
set_option maxRecDepth 100000 in
theorem gh_y113 : ∃ q, gh_yt[113]? = some q ∧ gh_yOK q := ⟨_, rfl, ⟨gh_w 635 rfl rfl, gh_w 1 rfl rfl, ⟨by decide, by decide⟩, by decide +kernel, by decide, Or.inl ⟨rfl, gh_w 634 rfl rfl, gh_wp 19 rfl⟩⟩⟩
set_option maxRecDepth 100000 in
theorem gh_y114 : ∃ q, gh_yt[114]? = some q ∧ gh_yOK q := ⟨_, rfl, ⟨gh_w 757 rfl rfl, gh_w 1 rfl rfl, ⟨by decide, by decide⟩, by decide +kernel, by decide, Or.inl ⟨rfl, gh_w 756 rfl rfl, gh_wp 27 rfl⟩⟩⟩
set_option maxRecDepth 100000 in
theorem gh_y115 : ∃ q, gh_yt[115]? = some q ∧ gh_yOK q := ⟨_, rfl, ⟨gh_w 771 rfl rfl, gh_w 1 rfl rfl, ⟨by decide, by decide⟩, by decide +kernel, by decide, Or.inl ⟨rfl, gh_w 770 rfl rfl, gh_wp 28 rfl⟩⟩⟩
set_option maxRecDepth 100000 in
theorem gh_y116 : ∃ q, gh_yt[116]? = some q ∧ gh_yOK q := ⟨_, rfl, ⟨gh_w 438 rfl rfl, gh_w 1 rfl rfl, ⟨by decide, by decide⟩, by decide +kernel, by decide, Or.inl ⟨rfl, gh_w 437 rfl rfl, gh_wp 2 rfl⟩⟩⟩
set_option maxRecDepth 100000 in
theorem gh_y117 : ∃ q, gh_yt[117]? = some q ∧ gh_yOK q := ⟨_, rfl, ⟨gh_w 466 rfl rfl, gh_w 1 rfl rfl, ⟨by decide, by decide⟩, by decide +kernel, by decide, Or.inl ⟨rfl, gh_w 465 rfl rfl, gh_wp 4 rfl⟩⟩⟩
set_option maxRecDepth 100000 in
theorem gh_y118 : ∃ q, gh_yt[118]? = some q ∧ gh_yOK q := ⟨_, rfl, ⟨gh_w 471 rfl rfl, gh_w 1 rfl rfl, ⟨by decide, by decide⟩, by decide +kernel, by decide, Or.inl ⟨rfl, gh_w 470 rfl rfl, gh_wp 5 rfl⟩⟩⟩
set_option maxRecDepth 100000 in
theorem gh_y119 : ∃ q, gh_yt[119]? = some q ∧ gh_yOK q := ⟨_, rfl, ⟨gh_w 893 rfl rfl, gh_w 1 rfl rfl, ⟨by decide, by decide⟩, by decide +kernel, by decide, Or.inl ⟨rfl, gh_w 892 rfl rfl, gh_wp 30 rfl⟩⟩⟩
set_option maxRecDepth 100000 in
theorem gh_y120 : ∃ q, gh_yt[120]? = some q ∧ gh_yOK q := ⟨_, rfl, ⟨gh_w 905 rfl rfl, gh_w 1 rfl rfl, ⟨by decide, by decide⟩, by decide +kernel, by decide, Or.inl ⟨rfl, gh_w 904 rfl rfl, gh_wp 31 rfl⟩⟩⟩
set_option maxRecDepth 100000 in
theorem gh_y121 : ∃ q, gh_yt[121]? = some q ∧ gh_yOK q := ⟨_, rfl, ⟨gh_w 654 rfl rfl, gh_w 1 rfl rfl, ⟨by decide, by decide⟩, by decide +kernel, by decide, Or.inl ⟨rfl, gh_w 653 rfl rfl, gh_wp 20 rfl⟩⟩⟩
set_option maxRecDepth 100000 in
theorem gh_y122 : ∃ q, gh_yt[122]? = some q ∧ gh_yOK q := ⟨_, rfl, ⟨gh_w 680 rfl rfl, gh_w 1 rfl rfl, ⟨by decide, by decide⟩, by decide +kernel, by decide, Or.inl ⟨rfl, gh_w 679 rfl rfl, gh_wp 24 rfl⟩⟩⟩
set_option maxRecDepth 100000 in
theorem gh_y123 : ∃ q, gh_yt[123]? = some q ∧ gh_yOK q := ⟨_, rfl, ⟨gh_w 445 rfl rfl, gh_w 1 rfl rfl, ⟨by decide, by decide⟩, by decide +kernel, by decide, Or.inr (Or.inl ⟨rfl, gh_w 444 rfl rfl⟩)⟩⟩
set_option maxRecDepth 100000 in
theorem gh_y124 : ∃ q, gh_yt[124]? = some q ∧ gh_yOK q := ⟨_, rfl, ⟨gh_w 530 rfl rfl, gh_w 16 rfl rfl, ⟨by decide, by decide⟩, by decide +kernel, by decide, Or.inr (Or.inl ⟨rfl, gh_w 529 rfl rfl⟩)⟩⟩
set_option maxRecDepth 100000 in
theorem gh_y125 : ∃ q, gh_yt[125]? = some q ∧ gh_yOK q := ⟨_, rfl, ⟨gh_w 106 rfl rfl, gh_w 5 rfl rfl, ⟨by decide, by decide⟩, by decide +kernel, by decide, Or.inr (Or.inl ⟨rfl, gh_w 105 rfl rfl⟩)⟩⟩
set_option maxRecDepth 100000 in
theorem gh_y126 : ∃ q, gh_yt[126]? = some q ∧ gh_yOK q := ⟨_, rfl, ⟨gh_w 136 rfl rfl, gh_w 5 rfl rfl, ⟨by decide, by decide⟩, by decide +kernel, by decide, Or.inr (Or.inl ⟨rfl, gh_w 135 rfl rfl⟩)⟩⟩
set_option maxRecDepth 100000 in
theorem gh_y127 : ∃ q, gh_yt[127]? = some q ∧ gh_yOK q := ⟨_, rfl, ⟨gh_w 300 rfl rfl, gh_w 0 rfl rfl, ⟨by decide, by decide⟩, by decide +kernel, by decide, Or.inr (Or.inl ⟨rfl, gh_w 299 rfl rfl⟩)⟩⟩
def gh_mOK (own : Nat) (e : Nat × Nat × Nat) : Prop := ∃ q, gh_yt[e.2.1]? = some q ∧ gh_yOK q ∧ (parseMethodDescriptor q.1.desc).map (fun d => d.parameters.length + (if q.2.2.2.2 = 1 then 0 else 1)) = some e.2.2 ∧ (Cond.methodLink (gh_on own) e.1 q.1 ∈ gh_wsG ∨ (q.2.2.2.2 ≠ 0 ∧ ∃ host : String, Cond.methodLinkNest (gh_on own) e.1 q.1 host ∈ gh_nst))
theorem gh_mk {own : Nat} {e : Nat × Nat × Nat} {q : MethodName × ByteArray × Nat × Option FieldType × Nat} (h : ∃ q, gh_yt[e.2.1]? = some q ∧ gh_yOK q) (hq : gh_yt[e.2.1]? = some q) (h1 : (parseMethodDescriptor q.1.desc).map (fun d => d.parameters.length + (if q.2.2.2.2 = 1 then 0 else 1)) = some e.2.2) (h2 : Cond.methodLink (gh_on own) e.1 q.1 ∈ gh_wsG ∨ (q.2.2.2.2 ≠ 0 ∧ ∃ host : String, Cond.methodLinkNest (gh_on own) e.1 q.1 host ∈ gh_nst)) : gh_mOK own e := by
  obtain ⟨q', h3, h4⟩ := h
  cases Option.some.inj (h3.symm.trans hq)
  exact ⟨_, hq, h4, h1, h2⟩
set_option maxRecDepth 100000 in
theorem gh_m0 : ∀ e ∈ gh_mrt.getD 0 [], gh_mOK 0 e := by
  show ∀ e ∈ ([(11, 68, 1), (31, 7, 4), (110, 8, 4), (121, 26, 2), (47, 28, 2), (51, 123, 2), (124, 25, 2), (67, 32, 2), (117, 9, 3), (127, 33, 2), (88, 30, 2), (95, 31, 2), (35, 69, 1), (38, 6, 2), (75, 124, 1), (80, 73, 4), (55, 71, 2), (59, 2, 3), (72, 72, 2), (63, 10, 3), (130, 11, 3), (134, 13, 2), (84, 4, 4), (91, 5, 5)] : List (Nat × Nat × Nat)), gh_mOK 0 e
  exact List.forall_mem_cons.mpr ⟨gh_mk gh_y68 rfl (by decide +kernel) (Or.inl (gh_w 130 rfl rfl)), List.forall_mem_cons.mpr ⟨gh_mk gh_y7 rfl (by decide +kernel) (Or.inl (gh_w 477 rfl rfl)), List.forall_mem_cons.mpr ⟨gh_mk gh_y8 rfl (by decide +kernel) (Or.inl (gh_w 481 rfl rfl)), List.forall_mem_cons.mpr ⟨gh_mk gh_y26 rfl (by decide +kernel) (Or.inl (gh_w 485 rfl rfl)), List.forall_mem_cons.mpr ⟨gh_mk gh_y28 rfl (by decide +kernel) (Or.inl (gh_w 489 rfl rfl)), List.forall_mem_cons.mpr ⟨gh_mk gh_y123 rfl (by decide +kernel) (Or.inr ⟨by decide, _, gh_n 493 rfl rfl⟩), List.forall_mem_cons.mpr ⟨gh_mk gh_y25 rfl (by decide +kernel) (Or.inl (gh_w 494 rfl rfl)), List.forall_mem_cons.mpr ⟨gh_mk gh_y32 rfl (by decide +kernel) (Or.inl (gh_w 495 rfl rfl)), List.forall_mem_cons.mpr ⟨gh_mk gh_y9 rfl (by decide +kernel) (Or.inl (gh_w 499 rfl rfl)), List.forall_mem_cons.mpr ⟨gh_mk gh_y33 rfl (by decide +kernel) (Or.inl (gh_w 503 rfl rfl)), List.forall_mem_cons.mpr ⟨gh_mk gh_y30 rfl (by decide +kernel) (Or.inl (gh_w 518 rfl rfl)), List.forall_mem_cons.mpr ⟨gh_mk gh_y31 rfl (by decide +kernel) (Or.inl (gh_w 519 rfl rfl)), List.forall_mem_cons.mpr ⟨gh_mk gh_y69 rfl (by decide +kernel) (Or.inl (gh_w 520 rfl rfl)), List.forall_mem_cons.mpr ⟨gh_mk gh_y6 rfl (by decide +kernel) (Or.inl (gh_w 524 rfl rfl)), List.forall_mem_cons.mpr ⟨gh_mk gh_y124 rfl (by decide +kernel) (Or.inl (gh_w 528 rfl rfl)), List.forall_mem_cons.mpr ⟨gh_mk gh_y73 rfl (by decide +kernel) (Or.inl (gh_w 534 rfl rfl)), List.forall_mem_cons.mpr ⟨gh_mk gh_y71 rfl (by decide +kernel) (Or.inl (gh_w 541 rfl rfl)), List.forall_mem_cons.mpr ⟨gh_mk gh_y2 rfl (by decide +kernel) (Or.inl (gh_w 545 rfl rfl)), List.forall_mem_cons.mpr ⟨gh_mk gh_y72 rfl (by decide +kernel) (Or.inl (gh_w 549 rfl rfl)), List.forall_mem_cons.mpr ⟨gh_mk gh_y10 rfl (by decide +kernel) (Or.inl (gh_w 553 rfl rfl)), List.forall_mem_cons.mpr ⟨gh_mk gh_y11 rfl (by decide +kernel) (Or.inl (gh_w 557 rfl rfl)), List.forall_mem_cons.mpr ⟨gh_mk gh_y13 rfl (by decide +kernel) (Or.inl (gh_w 561 rfl rfl)), List.forall_mem_cons.mpr ⟨gh_mk gh_y4 rfl (by decide +kernel) (Or.inl (gh_w 931 rfl rfl)), List.forall_mem_cons.mpr ⟨gh_mk gh_y5 rfl (by decide +kernel) (Or.inl (gh_w 935 rfl rfl)), (fun _ h => absurd h List.not_mem_nil)⟩⟩⟩⟩⟩⟩⟩⟩⟩⟩⟩⟩⟩⟩⟩⟩⟩⟩⟩⟩⟩⟩⟩⟩
set_option maxRecDepth 100000 in
theorem gh_m1 : ∀ e ∈ gh_mrt.getD 1 [], gh_mOK 1 e := by
  show ∀ e ∈ ([(37, 68, 1), (55, 18, 2), (58, 20, 4), (66, 71, 2), (62, 15, 2), (51, 13, 2)] : List (Nat × Nat × Nat)), gh_mOK 1 e
  exact List.forall_mem_cons.mpr ⟨gh_mk gh_y68 rfl (by decide +kernel) (Or.inl (gh_w 214 rfl rfl)), List.forall_mem_cons.mpr ⟨gh_mk gh_y18 rfl (by decide +kernel) (Or.inl (gh_w 455 rfl rfl)), List.forall_mem_cons.mpr ⟨gh_mk gh_y20 rfl (by decide +kernel) (Or.inl (gh_w 588 rfl rfl)), List.forall_mem_cons.mpr ⟨gh_mk gh_y71 rfl (by decide +kernel) (Or.inl (gh_w 591 rfl rfl)), List.forall_mem_cons.mpr ⟨gh_mk gh_y15 rfl (by decide +kernel) (Or.inl (gh_w 592 rfl rfl)), List.forall_mem_cons.mpr ⟨gh_mk gh_y13 rfl (by decide +kernel) (Or.inl (gh_w 763 rfl rfl)), (fun _ h => absurd h List.not_mem_nil)⟩⟩⟩⟩⟩⟩
set_option maxRecDepth 100000 in
theorem gh_m2 : ∀ e ∈ gh_mrt.getD 2 [], gh_mOK 2 e := by
  show ∀ e ∈ ([(28, 25, 2), (32, 123, 2)] : List (Nat × Nat × Nat)), gh_mOK 2 e
  exact List.forall_mem_cons.mpr ⟨gh_mk gh_y25 rfl (by decide +kernel) (Or.inl (gh_w 407 rfl rfl)), List.forall_mem_cons.mpr ⟨gh_mk gh_y123 rfl (by decide +kernel) (Or.inr ⟨by decide, _, gh_n 443 rfl rfl⟩), (fun _ h => absurd h List.not_mem_nil)⟩⟩
set_option maxRecDepth 100000 in
theorem gh_m3 : ∀ e ∈ gh_mrt.getD 3 [], gh_mOK 3 e := by
  show ∀ e ∈ ([(24, 125, 2), (30, 30, 2), (34, 34, 1), (37, 31, 2), (40, 36, 4), (63, 67, 2), (44, 37, 2), (47, 38, 3)] : List (Nat × Nat × Nat)), gh_mOK 3 e
  exact List.forall_mem_cons.mpr ⟨gh_mk gh_y125 rfl (by decide +kernel) (Or.inl (gh_w 104 rfl rfl)), List.forall_mem_cons.mpr ⟨gh_mk gh_y30 rfl (by decide +kernel) (Or.inl (gh_w 507 rfl rfl)), List.forall_mem_cons.mpr ⟨gh_mk gh_y34 rfl (by decide +kernel) (Or.inl (gh_w 511 rfl rfl)), List.forall_mem_cons.mpr ⟨gh_mk gh_y31 rfl (by decide +kernel) (Or.inl (gh_w 514 rfl rfl)), List.forall_mem_cons.mpr ⟨gh_mk gh_y36 rfl (by decide +kernel) (Or.inl (gh_w 659 rfl rfl)), List.forall_mem_cons.mpr ⟨gh_mk gh_y67 rfl (by decide +kernel) (Or.inl (gh_w 663 rfl rfl)), List.forall_mem_cons.mpr ⟨gh_mk gh_y37 rfl (by decide +kernel) (Or.inl (gh_w 669 rfl rfl)), List.forall_mem_cons.mpr ⟨gh_mk gh_y38 rfl (by decide +kernel) (Or.inl (gh_w 673 rfl rfl)), (fun _ h => absurd h List.not_mem_nil)⟩⟩⟩⟩⟩⟩⟩⟩
set_option maxRecDepth 100000 in
theorem gh_m4 : ∀ e ∈ gh_mrt.getD 4 [], gh_mOK 4 e := by
  show ∀ e ∈ ([(50, 125, 2), (70, 48, 5), (82, 52, 2), (103, 53, 4), (110, 19, 3), (62, 57, 4), (114, 55, 4), (121, 74, 3), (118, 54, 3), (86, 56, 2), (74, 51, 3), (66, 40, 2)] : List (Nat × Nat × Nat)), gh_mOK 4 e
  exact List.forall_mem_cons.mpr ⟨gh_mk gh_y125 rfl (by decide +kernel) (Or.inl (gh_w 167 rfl rfl)), List.forall_mem_cons.mpr ⟨gh_mk gh_y48 rfl (by decide +kernel) (Or.inl (gh_w 569 rfl rfl)), List.forall_mem_cons.mpr ⟨gh_mk gh_y52 rfl (by decide +kernel) (Or.inl (gh_w 573 rfl rfl)), List.forall_mem_cons.mpr ⟨gh_mk gh_y53 rfl (by decide +kernel) (Or.inl (gh_w 580 rfl rfl)), List.forall_mem_cons.mpr ⟨gh_mk gh_y19 rfl (by decide +kernel) (Or.inl (gh_w 584 rfl rfl)), List.forall_mem_cons.mpr ⟨gh_mk gh_y57 rfl (by decide +kernel) (Or.inl (gh_w 596 rfl rfl)), List.forall_mem_cons.mpr ⟨gh_mk gh_y55 rfl (by decide +kernel) (Or.inl (gh_w 602 rfl rfl)), List.forall_mem_cons.mpr ⟨gh_mk gh_y74 rfl (by decide +kernel) (Or.inl (gh_w 606 rfl rfl)), List.forall_mem_cons.mpr ⟨gh_mk gh_y54 rfl (by decide +kernel) (Or.inl (gh_w 612 rfl rfl)), List.forall_mem_cons.mpr ⟨gh_mk gh_y56 rfl (by decide +kernel) (Or.inl (gh_w 697 rfl rfl)), List.forall_mem_cons.mpr ⟨gh_mk gh_y51 rfl (by decide +kernel) (Or.inl (gh_w 700 rfl rfl)), List.forall_mem_cons.mpr ⟨gh_mk gh_y40 rfl (by decide +kernel) (Or.inl (gh_w 822 rfl rfl)), (fun _ h => absurd h List.not_mem_nil)⟩⟩⟩⟩⟩⟩⟩⟩⟩⟩⟩⟩
set_option maxRecDepth 100000 in
theorem gh_m5 : ∀ e ∈ gh_mrt.getD 5 [], gh_mOK 5 e := by
  show ∀ e ∈ ([(44, 63, 2), (48, 64, 2), (51, 62, 2)] : List (Nat × Nat × Nat)), gh_mOK 5 e
  exact List.forall_mem_cons.mpr ⟨gh_mk gh_y63 rfl (by decide +kernel) (Or.inl (gh_w 641 rfl rfl)), List.forall_mem_cons.mpr ⟨gh_mk gh_y64 rfl (by decide +kernel) (Or.inl (gh_w 718 rfl rfl)), List.forall_mem_cons.mpr ⟨gh_mk gh_y62 rfl (by decide +kernel) (Or.inl (gh_w 719 rfl rfl)), (fun _ h => absurd h List.not_mem_nil)⟩⟩⟩
set_option maxRecDepth 100000 in
theorem gh_m6 : ∀ e ∈ gh_mrt.getD 6 [], gh_mOK 6 e := by
  show ∀ e ∈ ([(18, 126, 2), (30, 77, 2), (34, 72, 2), (38, 71, 2)] : List (Nat × Nat × Nat)), gh_mOK 6 e
  exact List.forall_mem_cons.mpr ⟨gh_mk gh_y126 rfl (by decide +kernel) (Or.inl (gh_w 134 rfl rfl)), List.forall_mem_cons.mpr ⟨gh_mk gh_y77 rfl (by decide +kernel) (Or.inl (gh_w 538 rfl rfl)), List.forall_mem_cons.mpr ⟨gh_mk gh_y72 rfl (by decide +kernel) (Or.inl (gh_w 610 rfl rfl)), List.forall_mem_cons.mpr ⟨gh_mk gh_y71 rfl (by decide +kernel) (Or.inl (gh_w 611 rfl rfl)), (fun _ h => absurd h List.not_mem_nil)⟩⟩⟩⟩
set_option maxRecDepth 100000 in
theorem gh_m7 : ∀ e ∈ gh_mrt.getD 7 [], gh_mOK 7 e := by
  show ∀ e ∈ ([(11, 21, 1), (18, 58, 1), (25, 29, 1), (41, 0, 1), (48, 39, 1), (55, 68, 1), (67, 12, 2), (89, 22, 2), (93, 110, 2), (96, 116, 2), (111, 24, 2), (99, 23, 3), (107, 17, 2), (185, 117, 2), (188, 118, 2), (206, 1, 5), (216, 47, 2), (223, 75, 1), (134, 111, 2), (114, 113, 3), (137, 65, 2), (147, 60, 3), (130, 121, 1), (318, 35, 3), (326, 122, 2), (322, 76, 2), (338, 70, 2), (335, 49, 3), (156, 64, 2), (161, 61, 3), (192, 15, 2), (197, 16, 2), (117, 27, 3), (126, 59, 4), (179, 114, 3), (182, 14, 3), (250, 115, 3), (253, 41, 3), (258, 45, 4), (262, 42, 4), (272, 46, 5), (279, 40, 2), (289, 43, 2), (276, 112, 2), (297, 44, 2), (170, 30, 2), (173, 31, 2), (176, 32, 2), (226, 119, 2), (240, 66, 2), (243, 120, 4), (165, 67, 2), (237, 3, 5), (285, 50, 3), (230, 71, 2), (234, 72, 2)] : List (Nat × Nat × Nat)), gh_mOK 7 e
  exact List.forall_mem_cons.mpr ⟨gh_mk gh_y21 rfl (by decide +kernel) (Or.inr ⟨by decide, _, gh_n 30 rfl rfl⟩), List.forall_mem_cons.mpr ⟨gh_mk gh_y58 rfl (by decide +kernel) (Or.inr ⟨by decide, _, gh_n 57 rfl rfl⟩), List.forall_mem_cons.mpr ⟨gh_mk gh_y29 rfl (by decide +kernel) (Or.inl (gh_w 100 rfl rfl)), List.forall_mem_cons.mpr ⟨gh_mk gh_y0 rfl (by decide +kernel) (Or.inr ⟨by decide, _, gh_n 124 rfl rfl⟩), List.forall_mem_cons.mpr ⟨gh_mk gh_y39 rfl (by decide +kernel) (Or.inl (gh_w 163 rfl rfl)), List.forall_mem_cons.mpr ⟨gh_mk gh_y68 rfl (by decide +kernel) (Or.inl (gh_w 207 rfl rfl)), List.forall_mem_cons.mpr ⟨gh_mk gh_y12 rfl (by decide +kernel) (Or.inl (gh_w 209 rfl rfl)), List.forall_mem_cons.mpr ⟨gh_mk gh_y22 rfl (by decide +kernel) (Or.inl (gh_w 403 rfl rfl)), List.forall_mem_cons.mpr ⟨gh_mk gh_y110 rfl (by decide +kernel) (Or.inl (gh_w 415 rfl rfl)), List.forall_mem_cons.mpr ⟨gh_mk gh_y116 rfl (by decide +kernel) (Or.inl (gh_w 435 rfl rfl)), List.forall_mem_cons.mpr ⟨gh_mk gh_y24 rfl (by decide +kernel) (Or.inl (gh_w 439 rfl rfl)), List.forall_mem_cons.mpr ⟨gh_mk gh_y23 rfl (by decide +kernel) (Or.inl (gh_w 447 rfl rfl)), List.forall_mem_cons.mpr ⟨gh_mk gh_y17 rfl (by decide +kernel) (Or.inl (gh_w 451 rfl rfl)), List.forall_mem_cons.mpr ⟨gh_mk gh_y117 rfl (by decide +kernel) (Or.inl (gh_w 463 rfl rfl)), List.forall_mem_cons.mpr ⟨gh_mk gh_y118 rfl (by decide +kernel) (Or.inl (gh_w 468 rfl rfl)), List.forall_mem_cons.mpr ⟨gh_mk gh_y1 rfl (by decide +kernel) (Or.inl (gh_w 473 rfl rfl)), List.forall_mem_cons.mpr ⟨gh_mk gh_y47 rfl (by decide +kernel) (Or.inl (gh_w 565 rfl rfl)), List.forall_mem_cons.mpr ⟨gh_mk gh_y75 rfl (by decide +kernel) (Or.inl (gh_w 616 rfl rfl)), List.forall_mem_cons.mpr ⟨gh_mk gh_y111 rfl (by decide +kernel) (Or.inl (gh_w 627 rfl rfl)), List.forall_mem_cons.mpr ⟨gh_mk gh_y113 rfl (by decide +kernel) (Or.inl (gh_w 632 rfl rfl)), List.forall_mem_cons.mpr ⟨gh_mk gh_y65 rfl (by decide +kernel) (Or.inl (gh_w 637 rfl rfl)), List.forall_mem_cons.mpr ⟨gh_mk gh_y60 rfl (by decide +kernel) (Or.inl (gh_w 647 rfl rfl)), List.forall_mem_cons.mpr ⟨gh_mk gh_y121 rfl (by decide +kernel) (Or.inl (gh_w 651 rfl rfl)), List.forall_mem_cons.mpr ⟨gh_mk gh_y35 rfl (by decide +kernel) (Or.inl (gh_w 655 rfl rfl)), List.forall_mem_cons.mpr ⟨gh_mk gh_y122 rfl (by decide +kernel) (Or.inl (gh_w 677 rfl rfl)), List.forall_mem_cons.mpr ⟨gh_mk gh_y76 rfl (by decide +kernel) (Or.inl (gh_w 681 rfl rfl)), List.forall_mem_cons.mpr ⟨gh_mk gh_y70 rfl (by decide +kernel) (Or.inl (gh_w 685 rfl rfl)), List.forall_mem_cons.mpr ⟨gh_mk gh_y49 rfl (by decide +kernel) (Or.inl (gh_w 693 rfl rfl)), List.forall_mem_cons.mpr ⟨gh_mk gh_y64 rfl (by decide +kernel) (Or.inl (gh_w 709 rfl rfl)), List.forall_mem_cons.mpr ⟨gh_mk gh_y61 rfl (by decide +kernel) (Or.inl (gh_w 714 rfl rfl)), List.forall_mem_cons.mpr ⟨gh_mk gh_y15 rfl (by decide +kernel) (Or.inl (gh_w 727 rfl rfl)), List.forall_mem_cons.mpr ⟨gh_mk gh_y16 rfl (by decide +kernel) (Or.inl (gh_w 729 rfl rfl)), List.forall_mem_cons.mpr ⟨gh_mk gh_y27 rfl (by decide +kernel) (Or.inl (gh_w 740 rfl rfl)), List.forall_mem_cons.mpr ⟨gh_mk gh_y59 rfl (by decide +kernel) (Or.inl (gh_w 746 rfl rfl)), List.forall_mem_cons.mpr ⟨gh_mk gh_y114 rfl (by decide +kernel) (Or.inl (gh_w 754 rfl rfl)), List.forall_mem_cons.mpr ⟨gh_mk gh_y14 rfl (by decide +kernel) (Or.inl (gh_w 759 rfl rfl)), List.forall_mem_cons.mpr ⟨gh_mk gh_y115 rfl (by decide +kernel) (Or.inl (gh_w 768 rfl rfl)), List.forall_mem_cons.mpr ⟨gh_mk gh_y41 rfl (by decide +kernel) (Or.inl (gh_w 773 rfl rfl)), List.forall_mem_cons.mpr ⟨gh_mk gh_y45 rfl (by decide +kernel) (Or.inl (gh_w 778 rfl rfl)), List.forall_mem_cons.mpr ⟨gh_mk gh_y42 rfl (by decide +kernel) (Or.inl (gh_w 789 rfl rfl)), List.forall_mem_cons.mpr ⟨gh_mk gh_y46 rfl (by decide +kernel) (Or.inl (gh_w 795 rfl rfl)), List.forall_mem_cons.mpr ⟨gh_mk gh_y40 rfl (by decide +kernel) (Or.inl (gh_w 814 rfl rfl)), List.forall_mem_cons.mpr ⟨gh_mk gh_y43 rfl (by decide +kernel) (Or.inl (gh_w 818 rfl rfl)), List.forall_mem_cons.mpr ⟨gh_mk gh_y112 rfl (by decide +kernel) (Or.inl (gh_w 831 rfl rfl)), List.forall_mem_cons.mpr ⟨gh_mk gh_y44 rfl (by decide +kernel) (Or.inl (gh_w 852 rfl rfl)), List.forall_mem_cons.mpr ⟨gh_mk gh_y30 rfl (by decide +kernel) (Or.inl (gh_w 864 rfl rfl)), List.forall_mem_cons.mpr ⟨gh_mk gh_y31 rfl (by decide +kernel) (Or.inl (gh_w 865 rfl rfl)), List.forall_mem_cons.mpr ⟨gh_mk gh_y32 rfl (by decide +kernel) (Or.inl (gh_w 877 rfl rfl)), List.forall_mem_cons.mpr ⟨gh_mk gh_y119 rfl (by decide +kernel) (Or.inl (gh_w 890 rfl rfl)), List.forall_mem_cons.mpr ⟨gh_mk gh_y66 rfl (by decide +kernel) (Or.inl (gh_w 898 rfl rfl)), List.forall_mem_cons.mpr ⟨gh_mk gh_y120 rfl (by decide +kernel) (Or.inl (gh_w 902 rfl rfl)), List.forall_mem_cons.mpr ⟨gh_mk gh_y67 rfl (by decide +kernel) (Or.inl (gh_w 906 rfl rfl)), List.forall_mem_cons.mpr ⟨gh_mk gh_y3 rfl (by decide +kernel) (Or.inl (gh_w 927 rfl rfl)), List.forall_mem_cons.mpr ⟨gh_mk gh_y50 rfl (by decide +kernel) (Or.inl (gh_w 939 rfl rfl)), List.forall_mem_cons.mpr ⟨gh_mk gh_y71 rfl (by decide +kernel) (Or.inl (gh_w 950 rfl rfl)), List.forall_mem_cons.mpr ⟨gh_mk gh_y72 rfl (by decide +kernel) (Or.inl (gh_w 955 rfl rfl)), (fun _ h => absurd h List.not_mem_nil)⟩⟩⟩⟩⟩⟩⟩⟩⟩⟩⟩⟩⟩⟩⟩⟩⟩⟩⟩⟩⟩⟩⟩⟩⟩⟩⟩⟩⟩⟩⟩⟩⟩⟩⟩⟩⟩⟩⟩⟩⟩⟩⟩⟩⟩⟩⟩⟩⟩⟩⟩⟩⟩⟩⟩⟩
set_option maxRecDepth 100000 in
theorem gh_m8 : ∀ e ∈ gh_mrt.getD 8 [], gh_mOK 8 e := by
  show ∀ e ∈ ([] : List (Nat × Nat × Nat)), gh_mOK 8 e
  exact (fun _ h => absurd h List.not_mem_nil)
set_option maxRecDepth 100000 in
theorem gh_m10 : ∀ e ∈ gh_mrt.getD 10 [], gh_mOK 10 e := by
  show ∀ e ∈ ([] : List (Nat × Nat × Nat)), gh_mOK 10 e
  exact (fun _ h => absurd h List.not_mem_nil)
set_option maxRecDepth 100000 in
theorem gh_m11 : ∀ e ∈ gh_mrt.getD 11 [], gh_mOK 11 e := by
  show ∀ e ∈ ([] : List (Nat × Nat × Nat)), gh_mOK 11 e
  exact (fun _ h => absurd h List.not_mem_nil)
set_option maxRecDepth 100000 in
theorem gh_m12 : ∀ e ∈ gh_mrt.getD 12 [], gh_mOK 12 e := by
  show ∀ e ∈ ([] : List (Nat × Nat × Nat)), gh_mOK 12 e
  exact (fun _ h => absurd h List.not_mem_nil)
end
section
def gh_es (E : Nat) : String := (["java/lang/IndexOutOfBoundsException", "java/lang/IllegalArgumentException", "java/lang/IllegalStateException", "java/util/NoSuchElementException"] : List String).getD E ""
def gh_ic (E : Nat) : Nat := ([155, 74, 81, 296] : List Nat).getD E 0
def gh_nm : List String := ["java/lang/RuntimeException", "java/lang/Exception"]
def gh_str : List (Nat × String) := [(72, "days are 1 to 100"), (79, "today would be above 2000"), (82, "a day of birth is 0 to today"), (87, "there are 14 people"), (300, "there is no such person"), (312, "the person is dead"), (314, "the person is alive"), (316, "the estate is closed"), (302, "there is no such proof"), (306, "the weight is out of range"), (140, "the proof has fallen"), (145, "there are 30 doubts"), (153, "there is no such doubt"), (159, "the doubt is not open"), (195, "the person has filed a claim to it"), (121, "a child is born on a later day than its parent"), (124, "there are 30 proofs"), (308, "both persons are the same"), (310, "from is 0 to 59, and to is from + 1 to 60"), (256, "one of the units was granted before"), (265, "none of the units belongs to the first one now"), (270, "there were 60 handings"), (304, "there is no such unit"), (294, "the unit belongs to nobody"), (168, "a place is 0 or 1")]
/-- every throw is the printed stretch: new, dup, ldc, the constructor, athrow -/
def gh_thrB (own : Nat) (K : List (Nat × Instr × Nat)) : Bool := K.all fun e => match e.2.1 with
  | .new ik => match gh_xR own ik with
    | none => true
    | some E => decide (own = 7) && decide (E < 4) && decide (K.lookup (e.1 + 3) = some (.dup, 1)) && (match K.lookup (e.1 + 4) with
      | some (.ldc is, 2) => (gh_str.lookup is).isSome && decide (K.lookup (e.1 + 6) = some (.invokespecial (gh_ic E), 3)) && decide (K.lookup (e.1 + 9) = some (.athrow, 1))
      | some (.ldc_w is, 3) => (gh_str.lookup is).isSome && decide (K.lookup (e.1 + 7) = some (.invokespecial (gh_ic E), 3)) && decide (K.lookup (e.1 + 10) = some (.athrow, 1))
      | _ => false)
  | _ => true
theorem gh_xa0 : ∀ w ∈ (vx_atS "Treeclerk" 155 "java/lang/IndexOutOfBoundsException" ["java/lang/RuntimeException", "java/lang/Exception"]).filter goodWord, w ∈ lw_tbl := by decide +kernel
theorem gh_xb0 : ∀ w ∈ (vx_atS "Treeclerk" 155 "java/lang/IndexOutOfBoundsException" ["java/lang/RuntimeException", "java/lang/Exception"]).filter (fun w => !goodWord w), w ∈ gh_nst := by decide +kernel
theorem gh_xc0 : ∀ w ∈ vx_atS "Treeclerk" 155 "java/lang/IndexOutOfBoundsException" ["java/lang/RuntimeException", "java/lang/Exception"], vx_ot w = true := by decide +kernel
set_option maxRecDepth 100000 in
theorem gh_xi0 : Cond.initialized "java/lang/IndexOutOfBoundsException" ∈ gh_wsG := gh_w 15 rfl rfl
theorem gh_xa1 : ∀ w ∈ (vx_atS "Treeclerk" 74 "java/lang/IllegalArgumentException" ["java/lang/RuntimeException", "java/lang/Exception"]).filter goodWord, w ∈ lw_tbl := by decide +kernel
theorem gh_xb1 : ∀ w ∈ (vx_atS "Treeclerk" 74 "java/lang/IllegalArgumentException" ["java/lang/RuntimeException", "java/lang/Exception"]).filter (fun w => !goodWord w), w ∈ gh_nst := by decide +kernel
theorem gh_xc1 : ∀ w ∈ vx_atS "Treeclerk" 74 "java/lang/IllegalArgumentException" ["java/lang/RuntimeException", "java/lang/Exception"], vx_ot w = true := by decide +kernel
set_option maxRecDepth 100000 in
theorem gh_xi1 : Cond.initialized "java/lang/IllegalArgumentException" ∈ gh_wsG := gh_w 13 rfl rfl
theorem gh_xa2 : ∀ w ∈ (vx_atS "Treeclerk" 81 "java/lang/IllegalStateException" ["java/lang/RuntimeException", "java/lang/Exception"]).filter goodWord, w ∈ lw_tbl := by decide +kernel
theorem gh_xb2 : ∀ w ∈ (vx_atS "Treeclerk" 81 "java/lang/IllegalStateException" ["java/lang/RuntimeException", "java/lang/Exception"]).filter (fun w => !goodWord w), w ∈ gh_nst := by decide +kernel
theorem gh_xc2 : ∀ w ∈ vx_atS "Treeclerk" 81 "java/lang/IllegalStateException" ["java/lang/RuntimeException", "java/lang/Exception"], vx_ot w = true := by decide +kernel
set_option maxRecDepth 100000 in
theorem gh_xi2 : Cond.initialized "java/lang/IllegalStateException" ∈ gh_wsG := gh_w 14 rfl rfl
def gh_cOK (own : Nat) (e : Nat × Nat) : Prop := ∃ (C : String) (T : u_T) (N : Nat), vwCl[e.2]? = some (C, T, N) ∧ Cond.classLink (gh_on own) e.1 C ∈ gh_wsG ∧ Cond.instantiable C N ∈ gh_wsG ∧ Cond.initialized C ∈ gh_wsG
set_option maxRecDepth 100000 in
theorem gh_k0 : ∀ e ∈ gh_crt.getD 0 [], gh_cOK 0 e := by
  show ∀ e ∈ ([(9, 6)] : List (Nat × Nat)), gh_cOK 0 e
  exact List.forall_mem_cons.mpr ⟨⟨_, _, _, rfl, gh_w 128 rfl rfl, gh_w 129 rfl rfl, gh_w 7 rfl rfl⟩, (fun _ h => absurd h List.not_mem_nil)⟩
set_option maxRecDepth 100000 in
theorem gh_k1 : ∀ e ∈ gh_crt.getD 1 [], gh_cOK 1 e := by
  show ∀ e ∈ ([(35, 6)] : List (Nat × Nat)), gh_cOK 1 e
  exact List.forall_mem_cons.mpr ⟨⟨_, _, _, rfl, gh_w 213 rfl rfl, gh_w 129 rfl rfl, gh_w 7 rfl rfl⟩, (fun _ h => absurd h List.not_mem_nil)⟩
set_option maxRecDepth 100000 in
theorem gh_k2 : ∀ e ∈ gh_crt.getD 2 [], gh_cOK 2 e := by
  show ∀ e ∈ ([] : List (Nat × Nat)), gh_cOK 2 e
  exact (fun _ h => absurd h List.not_mem_nil)
set_option maxRecDepth 100000 in
theorem gh_k3 : ∀ e ∈ gh_crt.getD 3 [], gh_cOK 3 e := by
  show ∀ e ∈ ([] : List (Nat × Nat)), gh_cOK 3 e
  exact (fun _ h => absurd h List.not_mem_nil)
set_option maxRecDepth 100000 in
theorem gh_k4 : ∀ e ∈ gh_crt.getD 4 [], gh_cOK 4 e := by
  show ∀ e ∈ ([] : List (Nat × Nat)), gh_cOK 4 e
  exact (fun _ h => absurd h List.not_mem_nil)
set_option maxRecDepth 100000 in
theorem gh_k5 : ∀ e ∈ gh_crt.getD 5 [], gh_cOK 5 e := by
  show ∀ e ∈ ([] : List (Nat × Nat)), gh_cOK 5 e
  exact (fun _ h => absurd h List.not_mem_nil)
set_option maxRecDepth 100000 in
theorem gh_k6 : ∀ e ∈ gh_crt.getD 6 [], gh_cOK 6 e := by
  show ∀ e ∈ ([] : List (Nat × Nat)), gh_cOK 6 e
  exact (fun _ h => absurd h List.not_mem_nil)
set_option maxRecDepth 100000 in
theorem gh_k7 : ∀ e ∈ gh_crt.getD 7 [], gh_cOK 7 e := by
  show ∀ e ∈ ([(9, 2), (16, 5), (23, 3), (33, 1), (39, 0), (46, 4), (53, 6)] : List (Nat × Nat)), gh_cOK 7 e
  exact List.forall_mem_cons.mpr ⟨⟨_, _, _, rfl, gh_w 28 rfl rfl, gh_w 29 rfl rfl, gh_w 2 rfl rfl⟩, List.forall_mem_cons.mpr ⟨⟨_, _, _, rfl, gh_w 55 rfl rfl, gh_w 56 rfl rfl, gh_w 3 rfl rfl⟩, List.forall_mem_cons.mpr ⟨⟨_, _, _, rfl, gh_w 98 rfl rfl, gh_w 99 rfl rfl, gh_w 4 rfl rfl⟩, List.forall_mem_cons.mpr ⟨⟨_, _, _, rfl, gh_w 120 rfl rfl, gh_w 208 rfl rfl, gh_w 9 rfl rfl⟩, List.forall_mem_cons.mpr ⟨⟨_, _, _, rfl, gh_w 122 rfl rfl, gh_w 123 rfl rfl, gh_w 6 rfl rfl⟩, List.forall_mem_cons.mpr ⟨⟨_, _, _, rfl, gh_w 161 rfl rfl, gh_w 162 rfl rfl, gh_w 8 rfl rfl⟩, List.forall_mem_cons.mpr ⟨⟨_, _, _, rfl, gh_w 206 rfl rfl, gh_w 129 rfl rfl, gh_w 7 rfl rfl⟩, (fun _ h => absurd h List.not_mem_nil)⟩⟩⟩⟩⟩⟩⟩
set_option maxRecDepth 100000 in
theorem gh_k8 : ∀ e ∈ gh_crt.getD 8 [], gh_cOK 8 e := by
  show ∀ e ∈ ([] : List (Nat × Nat)), gh_cOK 8 e
  exact (fun _ h => absurd h List.not_mem_nil)
set_option maxRecDepth 100000 in
theorem gh_k9 : ∀ e ∈ gh_crt.getD 9 [], gh_cOK 9 e := by
  show ∀ e ∈ ([(9, 7)] : List (Nat × Nat)), gh_cOK 9 e
  exact List.forall_mem_cons.mpr ⟨⟨_, _, _, rfl, gh_w 20 rfl rfl, gh_w 21 rfl rfl, gh_w 1 rfl rfl⟩, (fun _ h => absurd h List.not_mem_nil)⟩
set_option maxRecDepth 100000 in
theorem gh_k10 : ∀ e ∈ gh_crt.getD 10 [], gh_cOK 10 e := by
  show ∀ e ∈ ([] : List (Nat × Nat)), gh_cOK 10 e
  exact (fun _ h => absurd h List.not_mem_nil)
set_option maxRecDepth 100000 in
theorem gh_k11 : ∀ e ∈ gh_crt.getD 11 [], gh_cOK 11 e := by
  show ∀ e ∈ ([] : List (Nat × Nat)), gh_cOK 11 e
  exact (fun _ h => absurd h List.not_mem_nil)
set_option maxRecDepth 100000 in
theorem gh_k12 : ∀ e ∈ gh_crt.getD 12 [], gh_cOK 12 e := by
  show ∀ e ∈ ([] : List (Nat × Nat)), gh_cOK 12 e
  exact (fun _ h => absurd h List.not_mem_nil)
set_option maxRecDepth 100000 in
theorem gh_xl : ∀ e ∈ gh_xrt.getD 7 [], Cond.classLink "Treeclerk" e.1 (gh_es e.2) ∈ gh_wsG := by
  show ∀ e ∈ ([(70, 1), (77, 2), (151, 0), (292, 3)] : List (Nat × Nat)), Cond.classLink "Treeclerk" e.1 (gh_es e.2) ∈ gh_wsG
  exact List.forall_mem_cons.mpr ⟨gh_w 312 rfl rfl, List.forall_mem_cons.mpr ⟨gh_w 381 rfl rfl, List.forall_mem_cons.mpr ⟨gh_w 419 rfl rfl, List.forall_mem_cons.mpr ⟨gh_w 836 rfl rfl, (fun _ h => absurd h List.not_mem_nil)⟩⟩⟩⟩
set_option maxRecDepth 100000 in
theorem gh_ic0 : ∀ e ∈ gh_irt.getD 0 [], Cond.constant (gh_on 0) e.1 e.2 ∈ gh_wsG := by
  show ∀ e ∈ ([] : List (Nat × Int32)), Cond.constant (gh_on 0) e.1 e.2 ∈ gh_wsG
  exact (fun _ h => absurd h List.not_mem_nil)
set_option maxRecDepth 100000 in
theorem gh_ic1 : ∀ e ∈ gh_irt.getD 1 [], Cond.constant (gh_on 1) e.1 e.2 ∈ gh_wsG := by
  show ∀ e ∈ ([] : List (Nat × Int32)), Cond.constant (gh_on 1) e.1 e.2 ∈ gh_wsG
  exact (fun _ h => absurd h List.not_mem_nil)
set_option maxRecDepth 100000 in
theorem gh_ic2 : ∀ e ∈ gh_irt.getD 2 [], Cond.constant (gh_on 2) e.1 e.2 ∈ gh_wsG := by
  show ∀ e ∈ ([] : List (Nat × Int32)), Cond.constant (gh_on 2) e.1 e.2 ∈ gh_wsG
  exact (fun _ h => absurd h List.not_mem_nil)
set_option maxRecDepth 100000 in
theorem gh_ic3 : ∀ e ∈ gh_irt.getD 3 [], Cond.constant (gh_on 3) e.1 e.2 ∈ gh_wsG := by
  show ∀ e ∈ ([] : List (Nat × Int32)), Cond.constant (gh_on 3) e.1 e.2 ∈ gh_wsG
  exact (fun _ h => absurd h List.not_mem_nil)
set_option maxRecDepth 100000 in
theorem gh_ic4 : ∀ e ∈ gh_irt.getD 4 [], Cond.constant (gh_on 4) e.1 e.2 ∈ gh_wsG := by
  show ∀ e ∈ ([] : List (Nat × Int32)), Cond.constant (gh_on 4) e.1 e.2 ∈ gh_wsG
  exact (fun _ h => absurd h List.not_mem_nil)
set_option maxRecDepth 100000 in
theorem gh_ic5 : ∀ e ∈ gh_irt.getD 5 [], Cond.constant (gh_on 5) e.1 e.2 ∈ gh_wsG := by
  show ∀ e ∈ ([] : List (Nat × Int32)), Cond.constant (gh_on 5) e.1 e.2 ∈ gh_wsG
  exact (fun _ h => absurd h List.not_mem_nil)
set_option maxRecDepth 100000 in
theorem gh_ic6 : ∀ e ∈ gh_irt.getD 6 [], Cond.constant (gh_on 6) e.1 e.2 ∈ gh_wsG := by
  show ∀ e ∈ ([] : List (Nat × Int32)), Cond.constant (gh_on 6) e.1 e.2 ∈ gh_wsG
  exact (fun _ h => absurd h List.not_mem_nil)
set_option maxRecDepth 100000 in
theorem gh_ic7 : ∀ e ∈ gh_irt.getD 7 [], Cond.constant (gh_on 7) e.1 e.2 ∈ gh_wsG := by
  show ∀ e ∈ ([] : List (Nat × Int32)), Cond.constant (gh_on 7) e.1 e.2 ∈ gh_wsG
  exact (fun _ h => absurd h List.not_mem_nil)
set_option maxRecDepth 100000 in
theorem gh_ic8 : ∀ e ∈ gh_irt.getD 8 [], Cond.constant (gh_on 8) e.1 e.2 ∈ gh_wsG := by
  show ∀ e ∈ ([] : List (Nat × Int32)), Cond.constant (gh_on 8) e.1 e.2 ∈ gh_wsG
  exact (fun _ h => absurd h List.not_mem_nil)
set_option maxRecDepth 100000 in
theorem gh_ic9 : ∀ e ∈ gh_irt.getD 9 [], Cond.constant (gh_on 9) e.1 e.2 ∈ gh_wsG := by
  show ∀ e ∈ ([(7, 1073741823)] : List (Nat × Int32)), Cond.constant (gh_on 9) e.1 e.2 ∈ gh_wsG
  exact List.forall_mem_cons.mpr ⟨gh_w 301 rfl rfl, (fun _ h => absurd h List.not_mem_nil)⟩
set_option maxRecDepth 100000 in
theorem gh_ic10 : ∀ e ∈ gh_irt.getD 10 [], Cond.constant (gh_on 10) e.1 e.2 ∈ gh_wsG := by
  show ∀ e ∈ ([(265, 1431655765), (266, 858993459), (267, 252645135)] : List (Nat × Int32)), Cond.constant (gh_on 10) e.1 e.2 ∈ gh_wsG
  exact List.forall_mem_cons.mpr ⟨gh_w 531 rfl rfl, List.forall_mem_cons.mpr ⟨gh_w 532 rfl rfl, List.forall_mem_cons.mpr ⟨gh_w 533 rfl rfl, (fun _ h => absurd h List.not_mem_nil)⟩⟩⟩
set_option maxRecDepth 100000 in
theorem gh_ic11 : ∀ e ∈ gh_irt.getD 11 [], Cond.constant (gh_on 11) e.1 e.2 ∈ gh_wsG := by
  show ∀ e ∈ ([] : List (Nat × Int32)), Cond.constant (gh_on 11) e.1 e.2 ∈ gh_wsG
  exact (fun _ h => absurd h List.not_mem_nil)
set_option maxRecDepth 100000 in
theorem gh_ic12 : ∀ e ∈ gh_irt.getD 12 [], Cond.constant (gh_on 12) e.1 e.2 ∈ gh_wsG := by
  show ∀ e ∈ ([] : List (Nat × Int32)), Cond.constant (gh_on 12) e.1 e.2 ∈ gh_wsG
  exact (fun _ h => absurd h List.not_mem_nil)
set_option maxRecDepth 100000 in
theorem gh_jc0 : ∀ e ∈ gh_jrt.getD 0 [], Cond.constantLong (gh_on 0) e.1 e.2 ∈ gh_wsG := by
  show ∀ e ∈ ([] : List (Nat × Int64)), Cond.constantLong (gh_on 0) e.1 e.2 ∈ gh_wsG
  exact (fun _ h => absurd h List.not_mem_nil)
set_option maxRecDepth 100000 in
theorem gh_jc1 : ∀ e ∈ gh_jrt.getD 1 [], Cond.constantLong (gh_on 1) e.1 e.2 ∈ gh_wsG := by
  show ∀ e ∈ ([] : List (Nat × Int64)), Cond.constantLong (gh_on 1) e.1 e.2 ∈ gh_wsG
  exact (fun _ h => absurd h List.not_mem_nil)
set_option maxRecDepth 100000 in
theorem gh_jc2 : ∀ e ∈ gh_jrt.getD 2 [], Cond.constantLong (gh_on 2) e.1 e.2 ∈ gh_wsG := by
  show ∀ e ∈ ([] : List (Nat × Int64)), Cond.constantLong (gh_on 2) e.1 e.2 ∈ gh_wsG
  exact (fun _ h => absurd h List.not_mem_nil)
set_option maxRecDepth 100000 in
theorem gh_jc3 : ∀ e ∈ gh_jrt.getD 3 [], Cond.constantLong (gh_on 3) e.1 e.2 ∈ gh_wsG := by
  show ∀ e ∈ ([] : List (Nat × Int64)), Cond.constantLong (gh_on 3) e.1 e.2 ∈ gh_wsG
  exact (fun _ h => absurd h List.not_mem_nil)
set_option maxRecDepth 100000 in
theorem gh_jc4 : ∀ e ∈ gh_jrt.getD 4 [], Cond.constantLong (gh_on 4) e.1 e.2 ∈ gh_wsG := by
  show ∀ e ∈ ([] : List (Nat × Int64)), Cond.constantLong (gh_on 4) e.1 e.2 ∈ gh_wsG
  exact (fun _ h => absurd h List.not_mem_nil)
set_option maxRecDepth 100000 in
theorem gh_jc5 : ∀ e ∈ gh_jrt.getD 5 [], Cond.constantLong (gh_on 5) e.1 e.2 ∈ gh_wsG := by
  show ∀ e ∈ ([] : List (Nat × Int64)), Cond.constantLong (gh_on 5) e.1 e.2 ∈ gh_wsG
  exact (fun _ h => absurd h List.not_mem_nil)
set_option maxRecDepth 100000 in
theorem gh_jc6 : ∀ e ∈ gh_jrt.getD 6 [], Cond.constantLong (gh_on 6) e.1 e.2 ∈ gh_wsG := by
  show ∀ e ∈ ([] : List (Nat × Int64)), Cond.constantLong (gh_on 6) e.1 e.2 ∈ gh_wsG
  exact (fun _ h => absurd h List.not_mem_nil)
set_option maxRecDepth 100000 in
theorem gh_jc7 : ∀ e ∈ gh_jrt.getD 7 [], Cond.constantLong (gh_on 7) e.1 e.2 ∈ gh_wsG := by
  show ∀ e ∈ ([] : List (Nat × Int64)), Cond.constantLong (gh_on 7) e.1 e.2 ∈ gh_wsG
  exact (fun _ h => absurd h List.not_mem_nil)
set_option maxRecDepth 100000 in
theorem gh_jc8 : ∀ e ∈ gh_jrt.getD 8 [], Cond.constantLong (gh_on 8) e.1 e.2 ∈ gh_wsG := by
  show ∀ e ∈ ([] : List (Nat × Int64)), Cond.constantLong (gh_on 8) e.1 e.2 ∈ gh_wsG
  exact (fun _ h => absurd h List.not_mem_nil)
set_option maxRecDepth 100000 in
theorem gh_jc9 : ∀ e ∈ gh_jrt.getD 9 [], Cond.constantLong (gh_on 9) e.1 e.2 ∈ gh_wsG := by
  show ∀ e ∈ ([(64, -8)] : List (Nat × Int64)), Cond.constantLong (gh_on 9) e.1 e.2 ∈ gh_wsG
  exact List.forall_mem_cons.mpr ⟨gh_w 960 rfl rfl, (fun _ h => absurd h List.not_mem_nil)⟩
set_option maxRecDepth 100000 in
theorem gh_jc10 : ∀ e ∈ gh_jrt.getD 10 [], Cond.constantLong (gh_on 10) e.1 e.2 ∈ gh_wsG := by
  show ∀ e ∈ ([] : List (Nat × Int64)), Cond.constantLong (gh_on 10) e.1 e.2 ∈ gh_wsG
  exact (fun _ h => absurd h List.not_mem_nil)
set_option maxRecDepth 100000 in
theorem gh_jc11 : ∀ e ∈ gh_jrt.getD 11 [], Cond.constantLong (gh_on 11) e.1 e.2 ∈ gh_wsG := by
  show ∀ e ∈ ([] : List (Nat × Int64)), Cond.constantLong (gh_on 11) e.1 e.2 ∈ gh_wsG
  exact (fun _ h => absurd h List.not_mem_nil)
set_option maxRecDepth 100000 in
theorem gh_jc12 : ∀ e ∈ gh_jrt.getD 12 [], Cond.constantLong (gh_on 12) e.1 e.2 ∈ gh_wsG := by
  show ∀ e ∈ ([] : List (Nat × Int64)), Cond.constantLong (gh_on 12) e.1 e.2 ∈ gh_wsG
  exact (fun _ h => absurd h List.not_mem_nil)
set_option maxRecDepth 100000 in
theorem gh_ao : Cond.arrayOver (.object RX1) ∈ lw_tbl := List.mem_append_right _ (List.mem_of_getElem? (i := 121) rfl)
set_option maxRecDepth 100000 in
theorem gh_ac_int : Cond.arrayClass .int ∈ gh_wsG := gh_w 54 rfl rfl
set_option maxRecDepth 100000 in
theorem gh_ac_long : Cond.arrayClass .long ∈ gh_wsG := gh_w 144 rfl rfl
set_option maxRecDepth 100000 in
theorem gh_ac_boolean : Cond.arrayClass .boolean ∈ gh_wsG := gh_w 97 rfl rfl
set_option maxRecDepth 100000 in
theorem gh_el : ∀ own idx : Nat, gh_eR own idx = true → Cond.classLink (gh_on own) idx RX1 ∈ gh_wsG ∧ own = 7 ∧ idx = 33 := by
  intro own idx h
  have h2 : own = 7 ∧ idx = 33 := by
    match own, h with
    | 7, h => simp [gh_eR, gh_ert] at h; exact ⟨rfl, h⟩
    | 0, h => simp [gh_eR, gh_ert] at h
    | 1, h => simp [gh_eR, gh_ert] at h
    | 2, h => simp [gh_eR, gh_ert] at h
    | 3, h => simp [gh_eR, gh_ert] at h
    | 4, h => simp [gh_eR, gh_ert] at h
    | 5, h => simp [gh_eR, gh_ert] at h
    | 6, h => simp [gh_eR, gh_ert] at h
    | 8, h => simp [gh_eR, gh_ert] at h
    | 9, h => simp [gh_eR, gh_ert] at h
    | 10, h => simp [gh_eR, gh_ert] at h
    | 11, h => simp [gh_eR, gh_ert] at h
    | 12, h => simp [gh_eR, gh_ert] at h
    | k + 13, h => simp [gh_eR, gh_ert] at h
  obtain ⟨rfl, rfl⟩ := h2
  exact ⟨gh_w 120 rfl rfl, rfl, rfl⟩
set_option maxRecDepth 100000 in
theorem gh_o0 : ∀ e ∈ gh_ort.getD 0 [], Cond.methodLink (gh_on 0) e objectInit ∈ gh_wsG := by
  show ∀ e ∈ ([3] : List Nat), Cond.methodLink (gh_on 0) e objectInit ∈ gh_wsG
  exact List.forall_mem_cons.mpr ⟨gh_w 127 rfl rfl, (fun _ h => absurd h List.not_mem_nil)⟩
set_option maxRecDepth 100000 in
theorem gh_o1 : ∀ e ∈ gh_ort.getD 1 [], Cond.methodLink (gh_on 1) e objectInit ∈ gh_wsG := by
  show ∀ e ∈ ([3] : List Nat), Cond.methodLink (gh_on 1) e objectInit ∈ gh_wsG
  exact List.forall_mem_cons.mpr ⟨gh_w 212 rfl rfl, (fun _ h => absurd h List.not_mem_nil)⟩
set_option maxRecDepth 100000 in
theorem gh_o2 : ∀ e ∈ gh_ort.getD 2 [], Cond.methodLink (gh_on 2) e objectInit ∈ gh_wsG := by
  show ∀ e ∈ ([3] : List Nat), Cond.methodLink (gh_on 2) e objectInit ∈ gh_wsG
  exact List.forall_mem_cons.mpr ⟨gh_w 33 rfl rfl, (fun _ h => absurd h List.not_mem_nil)⟩
set_option maxRecDepth 100000 in
theorem gh_o3 : ∀ e ∈ gh_ort.getD 3 [], Cond.methodLink (gh_on 3) e objectInit ∈ gh_wsG := by
  show ∀ e ∈ ([3] : List Nat), Cond.methodLink (gh_on 3) e objectInit ∈ gh_wsG
  exact List.forall_mem_cons.mpr ⟨gh_w 103 rfl rfl, (fun _ h => absurd h List.not_mem_nil)⟩
set_option maxRecDepth 100000 in
theorem gh_o4 : ∀ e ∈ gh_ort.getD 4 [], Cond.methodLink (gh_on 4) e objectInit ∈ gh_wsG := by
  show ∀ e ∈ ([3] : List Nat), Cond.methodLink (gh_on 4) e objectInit ∈ gh_wsG
  exact List.forall_mem_cons.mpr ⟨gh_w 166 rfl rfl, (fun _ h => absurd h List.not_mem_nil)⟩
set_option maxRecDepth 100000 in
theorem gh_o5 : ∀ e ∈ gh_ort.getD 5 [], Cond.methodLink (gh_on 5) e objectInit ∈ gh_wsG := by
  show ∀ e ∈ ([3] : List Nat), Cond.methodLink (gh_on 5) e objectInit ∈ gh_wsG
  exact List.forall_mem_cons.mpr ⟨gh_w 60 rfl rfl, (fun _ h => absurd h List.not_mem_nil)⟩
set_option maxRecDepth 100000 in
theorem gh_o6 : ∀ e ∈ gh_ort.getD 6 [], Cond.methodLink (gh_on 6) e objectInit ∈ gh_wsG := by
  show ∀ e ∈ ([3] : List Nat), Cond.methodLink (gh_on 6) e objectInit ∈ gh_wsG
  exact List.forall_mem_cons.mpr ⟨gh_w 133 rfl rfl, (fun _ h => absurd h List.not_mem_nil)⟩
set_option maxRecDepth 100000 in
theorem gh_o7 : ∀ e ∈ gh_ort.getD 7 [], Cond.methodLink (gh_on 7) e objectInit ∈ gh_wsG := by
  show ∀ e ∈ ([3] : List Nat), Cond.methodLink (gh_on 7) e objectInit ∈ gh_wsG
  exact List.forall_mem_cons.mpr ⟨gh_w 25 rfl rfl, (fun _ h => absurd h List.not_mem_nil)⟩
set_option maxRecDepth 100000 in
theorem gh_o8 : ∀ e ∈ gh_ort.getD 8 [], Cond.methodLink (gh_on 8) e objectInit ∈ gh_wsG := by
  show ∀ e ∈ ([] : List Nat), Cond.methodLink (gh_on 8) e objectInit ∈ gh_wsG
  exact (fun _ h => absurd h List.not_mem_nil)
set_option maxRecDepth 100000 in
theorem gh_o9 : ∀ e ∈ gh_ort.getD 9 [], Cond.methodLink (gh_on 9) e objectInit ∈ gh_wsG := by
  show ∀ e ∈ ([] : List Nat), Cond.methodLink (gh_on 9) e objectInit ∈ gh_wsG
  exact (fun _ h => absurd h List.not_mem_nil)
set_option maxRecDepth 100000 in
theorem gh_o10 : ∀ e ∈ gh_ort.getD 10 [], Cond.methodLink (gh_on 10) e objectInit ∈ gh_wsG := by
  show ∀ e ∈ ([] : List Nat), Cond.methodLink (gh_on 10) e objectInit ∈ gh_wsG
  exact (fun _ h => absurd h List.not_mem_nil)
set_option maxRecDepth 100000 in
theorem gh_o11 : ∀ e ∈ gh_ort.getD 11 [], Cond.methodLink (gh_on 11) e objectInit ∈ gh_wsG := by
  show ∀ e ∈ ([] : List Nat), Cond.methodLink (gh_on 11) e objectInit ∈ gh_wsG
  exact (fun _ h => absurd h List.not_mem_nil)
set_option maxRecDepth 100000 in
theorem gh_o12 : ∀ e ∈ gh_ort.getD 12 [], Cond.methodLink (gh_on 12) e objectInit ∈ gh_wsG := by
  show ∀ e ∈ ([] : List Nat), Cond.methodLink (gh_on 12) e objectInit ∈ gh_wsG
  exact (fun _ h => absurd h List.not_mem_nil)
set_option maxRecDepth 100000 in
theorem gh_oi : Cond.instanceMethod objectInit ∈ gh_wsG := gh_w 26 rfl rfl
set_option maxRecDepth 100000 in
theorem gh_oc : Cond.code objectInit ⟨#[0xb1]⟩ 1 none ∈ gh_wsG := gh_w 27 rfl rfl
set_option maxRecDepth 100000 in
theorem gh_a0 : ∀ e ∈ gh_art.getD 0 [], Cond.methodLink (gh_on 0) e arraycopyName ∈ gh_wsG := by
  show ∀ e ∈ ([] : List Nat), Cond.methodLink (gh_on 0) e arraycopyName ∈ gh_wsG
  exact (fun _ h => absurd h List.not_mem_nil)
set_option maxRecDepth 100000 in
theorem gh_a1 : ∀ e ∈ gh_art.getD 1 [], Cond.methodLink (gh_on 1) e arraycopyName ∈ gh_wsG := by
  show ∀ e ∈ ([] : List Nat), Cond.methodLink (gh_on 1) e arraycopyName ∈ gh_wsG
  exact (fun _ h => absurd h List.not_mem_nil)
set_option maxRecDepth 100000 in
theorem gh_a2 : ∀ e ∈ gh_art.getD 2 [], Cond.methodLink (gh_on 2) e arraycopyName ∈ gh_wsG := by
  show ∀ e ∈ ([] : List Nat), Cond.methodLink (gh_on 2) e arraycopyName ∈ gh_wsG
  exact (fun _ h => absurd h List.not_mem_nil)
set_option maxRecDepth 100000 in
theorem gh_a3 : ∀ e ∈ gh_art.getD 3 [], Cond.methodLink (gh_on 3) e arraycopyName ∈ gh_wsG := by
  show ∀ e ∈ ([] : List Nat), Cond.methodLink (gh_on 3) e arraycopyName ∈ gh_wsG
  exact (fun _ h => absurd h List.not_mem_nil)
set_option maxRecDepth 100000 in
theorem gh_a4 : ∀ e ∈ gh_art.getD 4 [], Cond.methodLink (gh_on 4) e arraycopyName ∈ gh_wsG := by
  show ∀ e ∈ ([90] : List Nat), Cond.methodLink (gh_on 4) e arraycopyName ∈ gh_wsG
  exact List.forall_mem_cons.mpr ⟨gh_w 577 rfl rfl, (fun _ h => absurd h List.not_mem_nil)⟩
set_option maxRecDepth 100000 in
theorem gh_a5 : ∀ e ∈ gh_art.getD 5 [], Cond.methodLink (gh_on 5) e arraycopyName ∈ gh_wsG := by
  show ∀ e ∈ ([] : List Nat), Cond.methodLink (gh_on 5) e arraycopyName ∈ gh_wsG
  exact (fun _ h => absurd h List.not_mem_nil)
set_option maxRecDepth 100000 in
theorem gh_a6 : ∀ e ∈ gh_art.getD 6 [], Cond.methodLink (gh_on 6) e arraycopyName ∈ gh_wsG := by
  show ∀ e ∈ ([24] : List Nat), Cond.methodLink (gh_on 6) e arraycopyName ∈ gh_wsG
  exact List.forall_mem_cons.mpr ⟨gh_w 689 rfl rfl, (fun _ h => absurd h List.not_mem_nil)⟩
set_option maxRecDepth 100000 in
theorem gh_a7 : ∀ e ∈ gh_art.getD 7 [], Cond.methodLink (gh_on 7) e arraycopyName ∈ gh_wsG := by
  show ∀ e ∈ ([] : List Nat), Cond.methodLink (gh_on 7) e arraycopyName ∈ gh_wsG
  exact (fun _ h => absurd h List.not_mem_nil)
set_option maxRecDepth 100000 in
theorem gh_a8 : ∀ e ∈ gh_art.getD 8 [], Cond.methodLink (gh_on 8) e arraycopyName ∈ gh_wsG := by
  show ∀ e ∈ ([] : List Nat), Cond.methodLink (gh_on 8) e arraycopyName ∈ gh_wsG
  exact (fun _ h => absurd h List.not_mem_nil)
set_option maxRecDepth 100000 in
theorem gh_a9 : ∀ e ∈ gh_art.getD 9 [], Cond.methodLink (gh_on 9) e arraycopyName ∈ gh_wsG := by
  show ∀ e ∈ ([] : List Nat), Cond.methodLink (gh_on 9) e arraycopyName ∈ gh_wsG
  exact (fun _ h => absurd h List.not_mem_nil)
set_option maxRecDepth 100000 in
theorem gh_a10 : ∀ e ∈ gh_art.getD 10 [], Cond.methodLink (gh_on 10) e arraycopyName ∈ gh_wsG := by
  show ∀ e ∈ ([] : List Nat), Cond.methodLink (gh_on 10) e arraycopyName ∈ gh_wsG
  exact (fun _ h => absurd h List.not_mem_nil)
set_option maxRecDepth 100000 in
theorem gh_a11 : ∀ e ∈ gh_art.getD 11 [], Cond.methodLink (gh_on 11) e arraycopyName ∈ gh_wsG := by
  show ∀ e ∈ ([] : List Nat), Cond.methodLink (gh_on 11) e arraycopyName ∈ gh_wsG
  exact (fun _ h => absurd h List.not_mem_nil)
set_option maxRecDepth 100000 in
theorem gh_a12 : ∀ e ∈ gh_art.getD 12 [], Cond.methodLink (gh_on 12) e arraycopyName ∈ gh_wsG := by
  show ∀ e ∈ ([] : List Nat), Cond.methodLink (gh_on 12) e arraycopyName ∈ gh_wsG
  exact (fun _ h => absurd h List.not_mem_nil)
set_option maxRecDepth 100000 in
theorem gh_an : Cond.native arraycopyName ∈ gh_wsG := gh_w 579 rfl rfl
set_option maxRecDepth 100000 in
theorem gh_as : Cond.static arraycopyName ∈ gh_wsG := gh_w 578 rfl rfl
set_option maxRecDepth 100000 in
theorem gh_ai : Cond.initialized "java/lang/System" ∈ gh_wsG := gh_w 17 rfl rfl
set_option maxRecDepth 100000 in
theorem gh_t0 : ∀ e ∈ gh_trt.getD 0 [], Cond.methodLink (gh_on 0) e.1 (if e.2 = 0 then Lib.Math.max.name else Lib.Math.min.name) ∈ gh_wsG := by
  show ∀ e ∈ ([] : List (Nat × Nat)), Cond.methodLink (gh_on 0) e.1 (if e.2 = 0 then Lib.Math.max.name else Lib.Math.min.name) ∈ gh_wsG
  exact (fun _ h => absurd h List.not_mem_nil)
set_option maxRecDepth 100000 in
theorem gh_t1 : ∀ e ∈ gh_trt.getD 1 [], Cond.methodLink (gh_on 1) e.1 (if e.2 = 0 then Lib.Math.max.name else Lib.Math.min.name) ∈ gh_wsG := by
  show ∀ e ∈ ([] : List (Nat × Nat)), Cond.methodLink (gh_on 1) e.1 (if e.2 = 0 then Lib.Math.max.name else Lib.Math.min.name) ∈ gh_wsG
  exact (fun _ h => absurd h List.not_mem_nil)
set_option maxRecDepth 100000 in
theorem gh_t2 : ∀ e ∈ gh_trt.getD 2 [], Cond.methodLink (gh_on 2) e.1 (if e.2 = 0 then Lib.Math.max.name else Lib.Math.min.name) ∈ gh_wsG := by
  show ∀ e ∈ ([] : List (Nat × Nat)), Cond.methodLink (gh_on 2) e.1 (if e.2 = 0 then Lib.Math.max.name else Lib.Math.min.name) ∈ gh_wsG
  exact (fun _ h => absurd h List.not_mem_nil)
set_option maxRecDepth 100000 in
theorem gh_t3 : ∀ e ∈ gh_trt.getD 3 [], Cond.methodLink (gh_on 3) e.1 (if e.2 = 0 then Lib.Math.max.name else Lib.Math.min.name) ∈ gh_wsG := by
  show ∀ e ∈ ([(66, 0)] : List (Nat × Nat)), Cond.methodLink (gh_on 3) e.1 (if e.2 = 0 then Lib.Math.max.name else Lib.Math.min.name) ∈ gh_wsG
  exact List.forall_mem_cons.mpr ⟨gh_w 668 rfl rfl, (fun _ h => absurd h List.not_mem_nil)⟩
set_option maxRecDepth 100000 in
theorem gh_t4 : ∀ e ∈ gh_trt.getD 4 [], Cond.methodLink (gh_on 4) e.1 (if e.2 = 0 then Lib.Math.max.name else Lib.Math.min.name) ∈ gh_wsG := by
  show ∀ e ∈ ([(56, 0)] : List (Nat × Nat)), Cond.methodLink (gh_on 4) e.1 (if e.2 = 0 then Lib.Math.max.name else Lib.Math.min.name) ∈ gh_wsG
  exact List.forall_mem_cons.mpr ⟨gh_w 599 rfl rfl, (fun _ h => absurd h List.not_mem_nil)⟩
set_option maxRecDepth 100000 in
theorem gh_t5 : ∀ e ∈ gh_trt.getD 5 [], Cond.methodLink (gh_on 5) e.1 (if e.2 = 0 then Lib.Math.max.name else Lib.Math.min.name) ∈ gh_wsG := by
  show ∀ e ∈ ([(55, 0)] : List (Nat × Nat)), Cond.methodLink (gh_on 5) e.1 (if e.2 = 0 then Lib.Math.max.name else Lib.Math.min.name) ∈ gh_wsG
  exact List.forall_mem_cons.mpr ⟨gh_w 667 rfl rfl, (fun _ h => absurd h List.not_mem_nil)⟩
set_option maxRecDepth 100000 in
theorem gh_t6 : ∀ e ∈ gh_trt.getD 6 [], Cond.methodLink (gh_on 6) e.1 (if e.2 = 0 then Lib.Math.max.name else Lib.Math.min.name) ∈ gh_wsG := by
  show ∀ e ∈ ([] : List (Nat × Nat)), Cond.methodLink (gh_on 6) e.1 (if e.2 = 0 then Lib.Math.max.name else Lib.Math.min.name) ∈ gh_wsG
  exact (fun _ h => absurd h List.not_mem_nil)
set_option maxRecDepth 100000 in
theorem gh_t7 : ∀ e ∈ gh_trt.getD 7 [], Cond.methodLink (gh_on 7) e.1 (if e.2 = 0 then Lib.Math.max.name else Lib.Math.min.name) ∈ gh_wsG := by
  show ∀ e ∈ ([(330, 1)] : List (Nat × Nat)), Cond.methodLink (gh_on 7) e.1 (if e.2 = 0 then Lib.Math.max.name else Lib.Math.min.name) ∈ gh_wsG
  exact List.forall_mem_cons.mpr ⟨gh_w 690 rfl rfl, (fun _ h => absurd h List.not_mem_nil)⟩
set_option maxRecDepth 100000 in
theorem gh_t8 : ∀ e ∈ gh_trt.getD 8 [], Cond.methodLink (gh_on 8) e.1 (if e.2 = 0 then Lib.Math.max.name else Lib.Math.min.name) ∈ gh_wsG := by
  show ∀ e ∈ ([] : List (Nat × Nat)), Cond.methodLink (gh_on 8) e.1 (if e.2 = 0 then Lib.Math.max.name else Lib.Math.min.name) ∈ gh_wsG
  exact (fun _ h => absurd h List.not_mem_nil)
set_option maxRecDepth 100000 in
theorem gh_t9 : ∀ e ∈ gh_trt.getD 9 [], Cond.methodLink (gh_on 9) e.1 (if e.2 = 0 then Lib.Math.max.name else Lib.Math.min.name) ∈ gh_wsG := by
  show ∀ e ∈ ([] : List (Nat × Nat)), Cond.methodLink (gh_on 9) e.1 (if e.2 = 0 then Lib.Math.max.name else Lib.Math.min.name) ∈ gh_wsG
  exact (fun _ h => absurd h List.not_mem_nil)
set_option maxRecDepth 100000 in
theorem gh_t10 : ∀ e ∈ gh_trt.getD 10 [], Cond.methodLink (gh_on 10) e.1 (if e.2 = 0 then Lib.Math.max.name else Lib.Math.min.name) ∈ gh_wsG := by
  show ∀ e ∈ ([] : List (Nat × Nat)), Cond.methodLink (gh_on 10) e.1 (if e.2 = 0 then Lib.Math.max.name else Lib.Math.min.name) ∈ gh_wsG
  exact (fun _ h => absurd h List.not_mem_nil)
set_option maxRecDepth 100000 in
theorem gh_t11 : ∀ e ∈ gh_trt.getD 11 [], Cond.methodLink (gh_on 11) e.1 (if e.2 = 0 then Lib.Math.max.name else Lib.Math.min.name) ∈ gh_wsG := by
  show ∀ e ∈ ([] : List (Nat × Nat)), Cond.methodLink (gh_on 11) e.1 (if e.2 = 0 then Lib.Math.max.name else Lib.Math.min.name) ∈ gh_wsG
  exact (fun _ h => absurd h List.not_mem_nil)
set_option maxRecDepth 100000 in
theorem gh_t12 : ∀ e ∈ gh_trt.getD 12 [], Cond.methodLink (gh_on 12) e.1 (if e.2 = 0 then Lib.Math.max.name else Lib.Math.min.name) ∈ gh_wsG := by
  show ∀ e ∈ ([] : List (Nat × Nat)), Cond.methodLink (gh_on 12) e.1 (if e.2 = 0 then Lib.Math.max.name else Lib.Math.min.name) ∈ gh_wsG
  exact (fun _ h => absurd h List.not_mem_nil)
set_option maxRecDepth 100000 in
theorem gh_t_max : Cond.static Lib.Math.max.name ∈ gh_wsG := gh_w 600 rfl rfl
set_option maxRecDepth 100000 in
theorem gh_tc_max : Cond.code Lib.Math.max.name Lib.Math.max.code 2 (some .int) ∈ gh_wsG := gh_w 601 rfl rfl
set_option maxRecDepth 100000 in
theorem gh_t_min : Cond.static Lib.Math.min.name ∈ gh_wsG := gh_w 691 rfl rfl
set_option maxRecDepth 100000 in
theorem gh_tc_min : Cond.code Lib.Math.min.name Lib.Math.min.code 2 (some .int) ∈ gh_wsG := gh_w 692 rfl rfl
set_option maxRecDepth 100000 in
theorem gh_ti : Cond.initialized "java/lang/Math" ∈ gh_wsG := gh_w 18 rfl rfl
end
section
/-! the code rows, method by method -/
def gh_kOK (q : MethodName × ByteArray × Nat × Option FieldType × Nat) (m : Nat × Option FieldType × (Nat → Nat → Option (Nat × Nat)) × List (Nat × Instr × Nat)) : Prop := (∀ e ∈ m.2.2.2, decode q.2.1 e.1 = .ok e.2) ∧ m.2.1 = q.2.2.2.1 ∧ gh_on m.1 = q.1.cls ∧ gh_thrB m.1 m.2.2.2 = true
def gh_MOK (μ : Nat) : Prop := ∃ q m, gh_yt[μ]? = some q ∧ gh_mt[μ]? = some m ∧ gh_yOK q ∧ gh_kOK q m ∧ ∀ pc E, m.2.2.1 pc E = none
theorem gh_MK {μ : Nat} {q : MethodName × ByteArray × Nat × Option FieldType × Nat} {m : Nat × Option FieldType × (Nat → Nat → Option (Nat × Nat)) × List (Nat × Instr × Nat)} (h : ∃ q, gh_yt[μ]? = some q ∧ gh_yOK q) (hq : gh_yt[μ]? = some q) (hm : gh_mt[μ]? = some m) (hk : gh_kOK q m) (hn : ∀ pc E, m.2.2.1 pc E = none) : gh_MOK μ := by
  obtain ⟨q', h3, h4⟩ := h
  cases Option.some.inj (h3.symm.trans hq)
  exact ⟨_, _, hq, hm, h4, hk, hn⟩
set_option maxRecDepth 100000 in
theorem gh_d0 : ∀ e ∈ gk_0, decode prog_2_method_1_code e.1 = .ok e.2 := by decide +kernel
set_option maxRecDepth 100000 in
theorem gh_d1 : ∀ e ∈ gk_1, decode prog_2_method_2_code e.1 = .ok e.2 := by decide +kernel
set_option maxRecDepth 100000 in
theorem gh_d2 : ∀ e ∈ gk_2, decode prog_2_method_3_code e.1 = .ok e.2 := by decide +kernel
set_option maxRecDepth 100000 in
theorem gh_d3 : ∀ e ∈ gk_3, decode prog_2_method_4_code e.1 = .ok e.2 := by decide +kernel
set_option maxRecDepth 100000 in
theorem gh_d4 : ∀ e ∈ gk_4, decode prog_2_method_5_code e.1 = .ok e.2 := by decide +kernel
set_option maxRecDepth 100000 in
theorem gh_d5 : ∀ e ∈ gk_5, decode prog_2_method_6_code e.1 = .ok e.2 := by decide +kernel
set_option maxRecDepth 100000 in
theorem gh_d6 : ∀ e ∈ gk_6, decode prog_2_method_7_code e.1 = .ok e.2 := by decide +kernel
set_option maxRecDepth 100000 in
theorem gh_d7 : ∀ e ∈ gk_7, decode prog_2_method_8_code e.1 = .ok e.2 := by decide +kernel
set_option maxRecDepth 100000 in
theorem gh_d8 : ∀ e ∈ gk_8, decode prog_2_method_9_code e.1 = .ok e.2 := by decide +kernel
set_option maxRecDepth 100000 in
theorem gh_d9 : ∀ e ∈ gk_9, decode prog_2_method_10_code e.1 = .ok e.2 := by decide +kernel
set_option maxRecDepth 100000 in
theorem gh_d10 : ∀ e ∈ gk_10, decode prog_2_method_11_code e.1 = .ok e.2 := by decide +kernel
set_option maxRecDepth 100000 in
theorem gh_d11 : ∀ e ∈ gk_11, decode prog_2_method_12_code e.1 = .ok e.2 := by decide +kernel
set_option maxRecDepth 100000 in
theorem gh_d12 : ∀ e ∈ gk_12, decode prog_3_method_1_code e.1 = .ok e.2 := by decide +kernel
set_option maxRecDepth 100000 in
theorem gh_d13 : ∀ e ∈ gk_13, decode prog_3_method_2_code e.1 = .ok e.2 := by decide +kernel
set_option maxRecDepth 100000 in
theorem gh_d14 : ∀ e ∈ gk_14, decode prog_3_method_3_code e.1 = .ok e.2 := by decide +kernel
set_option maxRecDepth 100000 in
theorem gh_d15 : ∀ e ∈ gk_15, decode prog_3_method_4_code e.1 = .ok e.2 := by decide +kernel
set_option maxRecDepth 100000 in
theorem gh_d16 : ∀ e ∈ gk_16, decode prog_3_method_5_code e.1 = .ok e.2 := by decide +kernel
set_option maxRecDepth 100000 in
theorem gh_d17 : ∀ e ∈ gk_17, decode prog_3_method_6_code e.1 = .ok e.2 := by decide +kernel
set_option maxRecDepth 100000 in
theorem gh_d18 : ∀ e ∈ gk_18, decode prog_3_method_7_code e.1 = .ok e.2 := by decide +kernel
set_option maxRecDepth 100000 in
theorem gh_d19 : ∀ e ∈ gk_19, decode prog_3_method_8_code e.1 = .ok e.2 := by decide +kernel
set_option maxRecDepth 100000 in
theorem gh_d20 : ∀ e ∈ gk_20, decode prog_3_method_9_code e.1 = .ok e.2 := by decide +kernel
set_option maxRecDepth 100000 in
theorem gh_d21 : ∀ e ∈ gk_21, decode prog_4_method_1_code e.1 = .ok e.2 := by decide +kernel
set_option maxRecDepth 100000 in
theorem gh_d22 : ∀ e ∈ gk_22, decode prog_4_method_2_code e.1 = .ok e.2 := by decide +kernel
set_option maxRecDepth 100000 in
theorem gh_d23 : ∀ e ∈ gk_23, decode prog_4_method_3_code e.1 = .ok e.2 := by decide +kernel
set_option maxRecDepth 100000 in
theorem gh_d24 : ∀ e ∈ gk_24, decode prog_4_method_4_code e.1 = .ok e.2 := by decide +kernel
set_option maxRecDepth 100000 in
theorem gh_d25 : ∀ e ∈ gk_25, decode prog_4_method_5_code e.1 = .ok e.2 := by decide +kernel
set_option maxRecDepth 100000 in
theorem gh_d26 : ∀ e ∈ gk_26, decode prog_4_method_6_code e.1 = .ok e.2 := by decide +kernel
set_option maxRecDepth 100000 in
theorem gh_d27 : ∀ e ∈ gk_27, decode prog_4_method_7_code e.1 = .ok e.2 := by decide +kernel
set_option maxRecDepth 100000 in
theorem gh_d28 : ∀ e ∈ gk_28, decode prog_4_method_8_code e.1 = .ok e.2 := by decide +kernel
set_option maxRecDepth 100000 in
theorem gh_d29 : ∀ e ∈ gk_29, decode prog_5_method_1_code e.1 = .ok e.2 := by decide +kernel
set_option maxRecDepth 100000 in
theorem gh_d30 : ∀ e ∈ gk_30, decode prog_5_method_2_code e.1 = .ok e.2 := by decide +kernel
set_option maxRecDepth 100000 in
theorem gh_d31 : ∀ e ∈ gk_31, decode prog_5_method_3_code e.1 = .ok e.2 := by decide +kernel
set_option maxRecDepth 100000 in
theorem gh_d32 : ∀ e ∈ gk_32, decode prog_5_method_4_code e.1 = .ok e.2 := by decide +kernel
set_option maxRecDepth 100000 in
theorem gh_d33 : ∀ e ∈ gk_33, decode prog_5_method_5_code e.1 = .ok e.2 := by decide +kernel
set_option maxRecDepth 100000 in
theorem gh_d34 : ∀ e ∈ gk_34, decode prog_5_method_6_code e.1 = .ok e.2 := by decide +kernel
set_option maxRecDepth 100000 in
theorem gh_d35 : ∀ e ∈ gk_35, decode prog_5_method_7_code e.1 = .ok e.2 := by decide +kernel
set_option maxRecDepth 100000 in
theorem gh_d36 : ∀ e ∈ gk_36, decode prog_5_method_8_code e.1 = .ok e.2 := by decide +kernel
set_option maxRecDepth 100000 in
theorem gh_d37 : ∀ e ∈ gk_37, decode prog_5_method_9_code e.1 = .ok e.2 := by decide +kernel
set_option maxRecDepth 100000 in
theorem gh_d38 : ∀ e ∈ gk_38, decode prog_5_method_10_code e.1 = .ok e.2 := by decide +kernel
set_option maxRecDepth 100000 in
theorem gh_d39 : ∀ e ∈ gk_39, decode prog_6_method_1_code e.1 = .ok e.2 := by decide +kernel
set_option maxRecDepth 100000 in
theorem gh_d40 : ∀ e ∈ gk_40, decode prog_6_method_2_code e.1 = .ok e.2 := by decide +kernel
set_option maxRecDepth 100000 in
theorem gh_d41 : ∀ e ∈ gk_41, decode prog_6_method_3_code e.1 = .ok e.2 := by decide +kernel
set_option maxRecDepth 100000 in
theorem gh_d42 : ∀ e ∈ gk_42, decode prog_6_method_4_code e.1 = .ok e.2 := by decide +kernel
set_option maxRecDepth 100000 in
theorem gh_d43 : ∀ e ∈ gk_43, decode prog_6_method_5_code e.1 = .ok e.2 := by decide +kernel
set_option maxRecDepth 100000 in
theorem gh_d44 : ∀ e ∈ gk_44, decode prog_6_method_6_code e.1 = .ok e.2 := by decide +kernel
set_option maxRecDepth 100000 in
theorem gh_d45 : ∀ e ∈ gk_45, decode prog_6_method_7_code e.1 = .ok e.2 := by decide +kernel
set_option maxRecDepth 100000 in
theorem gh_d46 : ∀ e ∈ gk_46, decode prog_6_method_8_code e.1 = .ok e.2 := by decide +kernel
set_option maxRecDepth 100000 in
theorem gh_d47 : ∀ e ∈ gk_47, decode prog_6_method_9_code e.1 = .ok e.2 := by decide +kernel
set_option maxRecDepth 100000 in
theorem gh_d48 : ∀ e ∈ gk_48, decode prog_6_method_10_code e.1 = .ok e.2 := by decide +kernel
set_option maxRecDepth 100000 in
theorem gh_d49 : ∀ e ∈ gk_49, decode prog_6_method_11_code e.1 = .ok e.2 := by decide +kernel
set_option maxRecDepth 100000 in
theorem gh_d50 : ∀ e ∈ gk_50, decode prog_6_method_12_code e.1 = .ok e.2 := by decide +kernel
set_option maxRecDepth 100000 in
theorem gh_d51 : ∀ e ∈ gk_51, decode prog_6_method_13_code e.1 = .ok e.2 := by decide +kernel
set_option maxRecDepth 100000 in
theorem gh_d52 : ∀ e ∈ gk_52, decode prog_6_method_14_code e.1 = .ok e.2 := by decide +kernel
set_option maxRecDepth 100000 in
theorem gh_d53 : ∀ e ∈ gk_53, decode prog_6_method_15_code e.1 = .ok e.2 := by decide +kernel
set_option maxRecDepth 100000 in
theorem gh_d54 : ∀ e ∈ gk_54, decode prog_6_method_16_code e.1 = .ok e.2 := by decide +kernel
set_option maxRecDepth 100000 in
theorem gh_d55 : ∀ e ∈ gk_55, decode prog_6_method_17_code e.1 = .ok e.2 := by decide +kernel
set_option maxRecDepth 100000 in
theorem gh_d56 : ∀ e ∈ gk_56, decode prog_6_method_18_code e.1 = .ok e.2 := by decide +kernel
set_option maxRecDepth 100000 in
theorem gh_d57 : ∀ e ∈ gk_57, decode prog_6_method_19_code e.1 = .ok e.2 := by decide +kernel
set_option maxRecDepth 100000 in
theorem gh_d58 : ∀ e ∈ gk_58, decode prog_7_method_1_code e.1 = .ok e.2 := by decide +kernel
set_option maxRecDepth 100000 in
theorem gh_d59 : ∀ e ∈ gk_59, decode prog_7_method_2_code e.1 = .ok e.2 := by decide +kernel
set_option maxRecDepth 100000 in
theorem gh_d60 : ∀ e ∈ gk_60, decode prog_7_method_3_code e.1 = .ok e.2 := by decide +kernel
set_option maxRecDepth 100000 in
theorem gh_d61 : ∀ e ∈ gk_61, decode prog_7_method_4_code e.1 = .ok e.2 := by decide +kernel
set_option maxRecDepth 100000 in
theorem gh_d62 : ∀ e ∈ gk_62, decode prog_7_method_5_code e.1 = .ok e.2 := by decide +kernel
set_option maxRecDepth 100000 in
theorem gh_d63 : ∀ e ∈ gk_63, decode prog_7_method_6_code e.1 = .ok e.2 := by decide +kernel
set_option maxRecDepth 100000 in
theorem gh_d64 : ∀ e ∈ gk_64, decode prog_7_method_7_code e.1 = .ok e.2 := by decide +kernel
set_option maxRecDepth 100000 in
theorem gh_d65 : ∀ e ∈ gk_65, decode prog_7_method_8_code e.1 = .ok e.2 := by decide +kernel
set_option maxRecDepth 100000 in
theorem gh_d66 : ∀ e ∈ gk_66, decode prog_7_method_9_code e.1 = .ok e.2 := by decide +kernel
set_option maxRecDepth 100000 in
theorem gh_d67 : ∀ e ∈ gk_67, decode prog_7_method_10_code e.1 = .ok e.2 := by decide +kernel
set_option maxRecDepth 100000 in
theorem gh_d68 : ∀ e ∈ gk_68, decode prog_8_method_1_code e.1 = .ok e.2 := by decide +kernel
set_option maxRecDepth 100000 in
theorem gh_d69 : ∀ e ∈ gk_69, decode prog_8_method_2_code e.1 = .ok e.2 := by decide +kernel
set_option maxRecDepth 100000 in
theorem gh_d70 : ∀ e ∈ gk_70, decode prog_8_method_3_code e.1 = .ok e.2 := by decide +kernel
set_option maxRecDepth 100000 in
theorem gh_d71 : ∀ e ∈ gk_71, decode prog_8_method_4_code e.1 = .ok e.2 := by decide +kernel
set_option maxRecDepth 100000 in
theorem gh_d72 : ∀ e ∈ gk_72, decode prog_8_method_5_code e.1 = .ok e.2 := by decide +kernel
set_option maxRecDepth 100000 in
theorem gh_d73 : ∀ e ∈ gk_73, decode prog_8_method_6_code e.1 = .ok e.2 := by decide +kernel
set_option maxRecDepth 100000 in
theorem gh_d74 : ∀ e ∈ gk_74, decode prog_8_method_7_code e.1 = .ok e.2 := by decide +kernel
set_option maxRecDepth 100000 in
theorem gh_d75 : ∀ e ∈ gk_75, decode prog_8_method_8_code e.1 = .ok e.2 := by decide +kernel
set_option maxRecDepth 100000 in
theorem gh_d76 : ∀ e ∈ gk_76, decode prog_8_method_9_code e.1 = .ok e.2 := by decide +kernel
set_option maxRecDepth 100000 in
theorem gh_d77 : ∀ e ∈ gk_77, decode prog_8_method_10_code e.1 = .ok e.2 := by decide +kernel
set_option maxRecDepth 100000 in
theorem gh_d78 : ∀ e ∈ gk_78, decode prog_1_method_1_code e.1 = .ok e.2 := by decide +kernel
set_option maxRecDepth 100000 in
theorem gh_d79 : ∀ e ∈ gk_79, decode prog_1_method_2_code e.1 = .ok e.2 := by decide +kernel
set_option maxRecDepth 100000 in
theorem gh_d80 : ∀ e ∈ gk_80, decode prog_1_method_3_code e.1 = .ok e.2 := by decide +kernel
set_option maxRecDepth 100000 in
theorem gh_d81 : ∀ e ∈ gk_81, decode prog_1_method_4_code e.1 = .ok e.2 := by decide +kernel
set_option maxRecDepth 100000 in
theorem gh_d82 : ∀ e ∈ gk_82, decode prog_1_method_5_code e.1 = .ok e.2 := by decide +kernel
set_option maxRecDepth 100000 in
theorem gh_d83 : ∀ e ∈ gk_83, decode prog_1_method_6_code e.1 = .ok e.2 := by decide +kernel
set_option maxRecDepth 100000 in
theorem gh_d84 : ∀ e ∈ gk_84, decode prog_1_method_7_code e.1 = .ok e.2 := by decide +kernel
set_option maxRecDepth 100000 in
theorem gh_d85 : ∀ e ∈ gk_85, decode prog_1_method_8_code e.1 = .ok e.2 := by decide +kernel
set_option maxRecDepth 100000 in
theorem gh_d86 : ∀ e ∈ gk_86, decode prog_1_method_9_code e.1 = .ok e.2 := by decide +kernel
set_option maxRecDepth 100000 in
theorem gh_d87 : ∀ e ∈ gk_87, decode prog_1_method_10_code e.1 = .ok e.2 := by decide +kernel
set_option maxRecDepth 100000 in
theorem gh_d88 : ∀ e ∈ gk_88, decode prog_1_method_11_code e.1 = .ok e.2 := by decide +kernel
set_option maxRecDepth 100000 in
theorem gh_d89 : ∀ e ∈ gk_89, decode prog_1_method_12_code e.1 = .ok e.2 := by decide +kernel
set_option maxRecDepth 100000 in
theorem gh_d90 : ∀ e ∈ gk_90, decode prog_1_method_13_code e.1 = .ok e.2 := by decide +kernel
set_option maxRecDepth 100000 in
theorem gh_d91 : ∀ e ∈ gk_91, decode prog_1_method_14_code e.1 = .ok e.2 := by decide +kernel
set_option maxRecDepth 100000 in
theorem gh_d92 : ∀ e ∈ gk_92, decode prog_1_method_15_code e.1 = .ok e.2 := by decide +kernel
set_option maxRecDepth 100000 in
theorem gh_d93 : ∀ e ∈ gk_93, decode prog_1_method_16_code e.1 = .ok e.2 := by decide +kernel
set_option maxRecDepth 100000 in
theorem gh_d94 : ∀ e ∈ gk_94, decode prog_1_method_17_code e.1 = .ok e.2 := by decide +kernel
set_option maxRecDepth 100000 in
theorem gh_d95 : ∀ e ∈ gk_95, decode prog_1_method_18_code e.1 = .ok e.2 := by decide +kernel
set_option maxRecDepth 100000 in
theorem gh_d96 : ∀ e ∈ gk_96, decode prog_1_method_19_code e.1 = .ok e.2 := by decide +kernel
set_option maxRecDepth 100000 in
theorem gh_d97 : ∀ e ∈ gk_97, decode prog_1_method_20_code e.1 = .ok e.2 := by decide +kernel
set_option maxRecDepth 100000 in
theorem gh_d98 : ∀ e ∈ gk_98, decode prog_1_method_21_code e.1 = .ok e.2 := by decide +kernel
set_option maxRecDepth 100000 in
theorem gh_d99 : ∀ e ∈ gk_99, decode prog_1_method_22_code e.1 = .ok e.2 := by decide +kernel
set_option maxRecDepth 100000 in
theorem gh_d100 : ∀ e ∈ gk_100, decode prog_1_method_23_code e.1 = .ok e.2 := by decide +kernel
set_option maxRecDepth 100000 in
theorem gh_d101 : ∀ e ∈ gk_101, decode prog_1_method_24_code e.1 = .ok e.2 := by decide +kernel
set_option maxRecDepth 100000 in
theorem gh_d102 : ∀ e ∈ gk_102, decode prog_1_method_25_code e.1 = .ok e.2 := by decide +kernel
set_option maxRecDepth 100000 in
theorem gh_d103 : ∀ e ∈ gk_103, decode prog_1_method_26_code e.1 = .ok e.2 := by decide +kernel
set_option maxRecDepth 100000 in
theorem gh_d104 : ∀ e ∈ gk_104, decode prog_1_method_27_code e.1 = .ok e.2 := by decide +kernel
set_option maxRecDepth 100000 in
theorem gh_d105 : ∀ e ∈ gk_105, decode prog_1_method_28_code e.1 = .ok e.2 := by decide +kernel
set_option maxRecDepth 100000 in
theorem gh_d106 : ∀ e ∈ gk_106, decode prog_1_method_29_code e.1 = .ok e.2 := by decide +kernel
set_option maxRecDepth 100000 in
theorem gh_d107 : ∀ e ∈ gk_107, decode prog_1_method_30_code e.1 = .ok e.2 := by decide +kernel
set_option maxRecDepth 100000 in
theorem gh_d108 : ∀ e ∈ gk_108, decode prog_1_method_31_code e.1 = .ok e.2 := by decide +kernel
set_option maxRecDepth 100000 in
theorem gh_d109 : ∀ e ∈ gk_109, decode prog_1_method_32_code e.1 = .ok e.2 := by decide +kernel
set_option maxRecDepth 100000 in
theorem gh_d110 : ∀ e ∈ gk_110, decode prog_1_method_33_code e.1 = .ok e.2 := by decide +kernel
set_option maxRecDepth 100000 in
theorem gh_d111 : ∀ e ∈ gk_111, decode prog_1_method_34_code e.1 = .ok e.2 := by decide +kernel
set_option maxRecDepth 100000 in
theorem gh_d112 : ∀ e ∈ gk_112, decode prog_1_method_35_code e.1 = .ok e.2 := by decide +kernel
set_option maxRecDepth 100000 in
theorem gh_d113 : ∀ e ∈ gk_113, decode prog_1_method_36_code e.1 = .ok e.2 := by decide +kernel
set_option maxRecDepth 100000 in
theorem gh_d114 : ∀ e ∈ gk_114, decode prog_1_method_37_code e.1 = .ok e.2 := by decide +kernel
set_option maxRecDepth 100000 in
theorem gh_d115 : ∀ e ∈ gk_115, decode prog_1_method_38_code e.1 = .ok e.2 := by decide +kernel
set_option maxRecDepth 100000 in
theorem gh_d116 : ∀ e ∈ gk_116, decode prog_1_method_39_code e.1 = .ok e.2 := by decide +kernel
set_option maxRecDepth 100000 in
theorem gh_d117 : ∀ e ∈ gk_117, decode prog_1_method_40_code e.1 = .ok e.2 := by decide +kernel
set_option maxRecDepth 100000 in
theorem gh_d118 : ∀ e ∈ gk_118, decode prog_1_method_41_code e.1 = .ok e.2 := by decide +kernel
set_option maxRecDepth 100000 in
theorem gh_d119 : ∀ e ∈ gk_119, decode prog_1_method_42_code e.1 = .ok e.2 := by decide +kernel
set_option maxRecDepth 100000 in
theorem gh_d120 : ∀ e ∈ gk_120, decode prog_1_method_43_code e.1 = .ok e.2 := by decide +kernel
set_option maxRecDepth 100000 in
theorem gh_d121 : ∀ e ∈ gk_121, decode prog_1_method_44_code e.1 = .ok e.2 := by decide +kernel
set_option maxRecDepth 100000 in
theorem gh_d122 : ∀ e ∈ gk_122, decode prog_1_method_45_code e.1 = .ok e.2 := by decide +kernel
set_option maxRecDepth 100000 in
theorem gh_d123 : ∀ e ∈ gk_123, decode prog_1_method_46_code e.1 = .ok e.2 := by decide +kernel
set_option maxRecDepth 100000 in
theorem gh_d124 : ∀ e ∈ gk_124, decode prog_16_method_49_code e.1 = .ok e.2 := by decide +kernel
set_option maxRecDepth 100000 in
theorem gh_d125 : ∀ e ∈ gk_125, decode prog_22_method_103_code e.1 = .ok e.2 := by decide +kernel
set_option maxRecDepth 100000 in
theorem gh_d126 : ∀ e ∈ gk_126, decode prog_22_method_101_code e.1 = .ok e.2 := by decide +kernel
set_option maxRecDepth 100000 in
theorem gh_d127 : ∀ e ∈ gk_127, decode method_2_code e.1 = .ok e.2 := by decide +kernel
set_option maxRecDepth 100000 in
theorem gh_d128 : ∀ e ∈ gk_128, decode method_3_code e.1 = .ok e.2 := by decide +kernel
set_option maxRecDepth 100000 in
theorem gh_d129 : ∀ e ∈ gk_129, decode method_4_code e.1 = .ok e.2 := by decide +kernel
set_option maxRecDepth 100000 in
theorem gh_d130 : ∀ e ∈ gk_130, decode method_5_code e.1 = .ok e.2 := by decide +kernel
set_option maxRecDepth 100000 in
theorem gh_d131 : ∀ e ∈ gk_131, decode method_6_code e.1 = .ok e.2 := by decide +kernel
set_option maxRecDepth 100000 in
theorem gh_d132 : ∀ e ∈ gk_132, decode method_7_code e.1 = .ok e.2 := by decide +kernel
set_option maxRecDepth 100000 in
theorem gh_d133 : ∀ e ∈ gk_133, decode method_8_code e.1 = .ok e.2 := by decide +kernel
set_option maxRecDepth 100000 in
theorem gh_d134 : ∀ e ∈ gk_134, decode method_9_code e.1 = .ok e.2 := by decide +kernel
set_option maxRecDepth 100000 in
theorem gh_d135 : ∀ e ∈ gk_135, decode method_10_code e.1 = .ok e.2 := by decide +kernel
set_option maxRecDepth 100000 in
theorem gh_d136 : ∀ e ∈ gk_136, decode method_11_code e.1 = .ok e.2 := by decide +kernel
set_option maxRecDepth 100000 in
theorem gh_M0 : gh_MOK 0 := gh_MK gh_y0 rfl rfl ⟨gh_d0, rfl, rfl, by decide +kernel⟩ (fun _ _ => rfl)
set_option maxRecDepth 100000 in
theorem gh_M1 : gh_MOK 1 := gh_MK gh_y1 rfl rfl ⟨gh_d1, rfl, rfl, by decide +kernel⟩ (fun _ _ => rfl)
set_option maxRecDepth 100000 in
theorem gh_M2 : gh_MOK 2 := gh_MK gh_y2 rfl rfl ⟨gh_d2, rfl, rfl, by decide +kernel⟩ (fun _ _ => rfl)
set_option maxRecDepth 100000 in
theorem gh_M3 : gh_MOK 3 := gh_MK gh_y3 rfl rfl ⟨gh_d3, rfl, rfl, by decide +kernel⟩ (fun _ _ => rfl)
set_option maxRecDepth 100000 in
theorem gh_M4 : gh_MOK 4 := gh_MK gh_y4 rfl rfl ⟨gh_d4, rfl, rfl, by decide +kernel⟩ (fun _ _ => rfl)
set_option maxRecDepth 100000 in
theorem gh_M5 : gh_MOK 5 := gh_MK gh_y5 rfl rfl ⟨gh_d5, rfl, rfl, by decide +kernel⟩ (fun _ _ => rfl)
set_option maxRecDepth 100000 in
theorem gh_M6 : gh_MOK 6 := gh_MK gh_y6 rfl rfl ⟨gh_d6, rfl, rfl, by decide +kernel⟩ (fun _ _ => rfl)
set_option maxRecDepth 100000 in
theorem gh_M7 : gh_MOK 7 := gh_MK gh_y7 rfl rfl ⟨gh_d7, rfl, rfl, by decide +kernel⟩ (fun _ _ => rfl)
set_option maxRecDepth 100000 in
theorem gh_M8 : gh_MOK 8 := gh_MK gh_y8 rfl rfl ⟨gh_d8, rfl, rfl, by decide +kernel⟩ (fun _ _ => rfl)
set_option maxRecDepth 100000 in
theorem gh_M9 : gh_MOK 9 := gh_MK gh_y9 rfl rfl ⟨gh_d9, rfl, rfl, by decide +kernel⟩ (fun _ _ => rfl)
set_option maxRecDepth 100000 in
theorem gh_M10 : gh_MOK 10 := gh_MK gh_y10 rfl rfl ⟨gh_d10, rfl, rfl, by decide +kernel⟩ (fun _ _ => rfl)
set_option maxRecDepth 100000 in
theorem gh_M11 : gh_MOK 11 := gh_MK gh_y11 rfl rfl ⟨gh_d11, rfl, rfl, by decide +kernel⟩ (fun _ _ => rfl)
set_option maxRecDepth 100000 in
theorem gh_M12 : gh_MOK 12 := gh_MK gh_y12 rfl rfl ⟨gh_d12, rfl, rfl, by decide +kernel⟩ (fun _ _ => rfl)
set_option maxRecDepth 100000 in
theorem gh_M13 : gh_MOK 13 := gh_MK gh_y13 rfl rfl ⟨gh_d13, rfl, rfl, by decide +kernel⟩ (fun _ _ => rfl)
set_option maxRecDepth 100000 in
theorem gh_M14 : gh_MOK 14 := gh_MK gh_y14 rfl rfl ⟨gh_d14, rfl, rfl, by decide +kernel⟩ (fun _ _ => rfl)
set_option maxRecDepth 100000 in
theorem gh_M15 : gh_MOK 15 := gh_MK gh_y15 rfl rfl ⟨gh_d15, rfl, rfl, by decide +kernel⟩ (fun _ _ => rfl)
set_option maxRecDepth 100000 in
theorem gh_M16 : gh_MOK 16 := gh_MK gh_y16 rfl rfl ⟨gh_d16, rfl, rfl, by decide +kernel⟩ (fun _ _ => rfl)
set_option maxRecDepth 100000 in
theorem gh_M17 : gh_MOK 17 := gh_MK gh_y17 rfl rfl ⟨gh_d17, rfl, rfl, by decide +kernel⟩ (fun _ _ => rfl)
set_option maxRecDepth 100000 in
theorem gh_M18 : gh_MOK 18 := gh_MK gh_y18 rfl rfl ⟨gh_d18, rfl, rfl, by decide +kernel⟩ (fun _ _ => rfl)
set_option maxRecDepth 100000 in
theorem gh_M19 : gh_MOK 19 := gh_MK gh_y19 rfl rfl ⟨gh_d19, rfl, rfl, by decide +kernel⟩ (fun _ _ => rfl)
set_option maxRecDepth 100000 in
theorem gh_M20 : gh_MOK 20 := gh_MK gh_y20 rfl rfl ⟨gh_d20, rfl, rfl, by decide +kernel⟩ (fun _ _ => rfl)
set_option maxRecDepth 100000 in
theorem gh_M21 : gh_MOK 21 := gh_MK gh_y21 rfl rfl ⟨gh_d21, rfl, rfl, by decide +kernel⟩ (fun _ _ => rfl)
set_option maxRecDepth 100000 in
theorem gh_M22 : gh_MOK 22 := gh_MK gh_y22 rfl rfl ⟨gh_d22, rfl, rfl, by decide +kernel⟩ (fun _ _ => rfl)
set_option maxRecDepth 100000 in
theorem gh_M23 : gh_MOK 23 := gh_MK gh_y23 rfl rfl ⟨gh_d23, rfl, rfl, by decide +kernel⟩ (fun _ _ => rfl)
set_option maxRecDepth 100000 in
theorem gh_M24 : gh_MOK 24 := gh_MK gh_y24 rfl rfl ⟨gh_d24, rfl, rfl, by decide +kernel⟩ (fun _ _ => rfl)
set_option maxRecDepth 100000 in
theorem gh_M25 : gh_MOK 25 := gh_MK gh_y25 rfl rfl ⟨gh_d25, rfl, rfl, by decide +kernel⟩ (fun _ _ => rfl)
set_option maxRecDepth 100000 in
theorem gh_M26 : gh_MOK 26 := gh_MK gh_y26 rfl rfl ⟨gh_d26, rfl, rfl, by decide +kernel⟩ (fun _ _ => rfl)
set_option maxRecDepth 100000 in
theorem gh_M27 : gh_MOK 27 := gh_MK gh_y27 rfl rfl ⟨gh_d27, rfl, rfl, by decide +kernel⟩ (fun _ _ => rfl)
set_option maxRecDepth 100000 in
theorem gh_M28 : gh_MOK 28 := gh_MK gh_y28 rfl rfl ⟨gh_d28, rfl, rfl, by decide +kernel⟩ (fun _ _ => rfl)
set_option maxRecDepth 100000 in
theorem gh_M29 : gh_MOK 29 := gh_MK gh_y29 rfl rfl ⟨gh_d29, rfl, rfl, by decide +kernel⟩ (fun _ _ => rfl)
set_option maxRecDepth 100000 in
theorem gh_M30 : gh_MOK 30 := gh_MK gh_y30 rfl rfl ⟨gh_d30, rfl, rfl, by decide +kernel⟩ (fun _ _ => rfl)
set_option maxRecDepth 100000 in
theorem gh_M31 : gh_MOK 31 := gh_MK gh_y31 rfl rfl ⟨gh_d31, rfl, rfl, by decide +kernel⟩ (fun _ _ => rfl)
set_option maxRecDepth 100000 in
theorem gh_M32 : gh_MOK 32 := gh_MK gh_y32 rfl rfl ⟨gh_d32, rfl, rfl, by decide +kernel⟩ (fun _ _ => rfl)
set_option maxRecDepth 100000 in
theorem gh_M33 : gh_MOK 33 := gh_MK gh_y33 rfl rfl ⟨gh_d33, rfl, rfl, by decide +kernel⟩ (fun _ _ => rfl)
set_option maxRecDepth 100000 in
theorem gh_M34 : gh_MOK 34 := gh_MK gh_y34 rfl rfl ⟨gh_d34, rfl, rfl, by decide +kernel⟩ (fun _ _ => rfl)
set_option maxRecDepth 100000 in
theorem gh_M35 : gh_MOK 35 := gh_MK gh_y35 rfl rfl ⟨gh_d35, rfl, rfl, by decide +kernel⟩ (fun _ _ => rfl)
set_option maxRecDepth 100000 in
theorem gh_M36 : gh_MOK 36 := gh_MK gh_y36 rfl rfl ⟨gh_d36, rfl, rfl, by decide +kernel⟩ (fun _ _ => rfl)
set_option maxRecDepth 100000 in
theorem gh_M37 : gh_MOK 37 := gh_MK gh_y37 rfl rfl ⟨gh_d37, rfl, rfl, by decide +kernel⟩ (fun _ _ => rfl)
set_option maxRecDepth 100000 in
theorem gh_M38 : gh_MOK 38 := gh_MK gh_y38 rfl rfl ⟨gh_d38, rfl, rfl, by decide +kernel⟩ (fun _ _ => rfl)
set_option maxRecDepth 100000 in
theorem gh_M39 : gh_MOK 39 := gh_MK gh_y39 rfl rfl ⟨gh_d39, rfl, rfl, by decide +kernel⟩ (fun _ _ => rfl)
set_option maxRecDepth 100000 in
theorem gh_M40 : gh_MOK 40 := gh_MK gh_y40 rfl rfl ⟨gh_d40, rfl, rfl, by decide +kernel⟩ (fun _ _ => rfl)
set_option maxRecDepth 100000 in
theorem gh_M41 : gh_MOK 41 := gh_MK gh_y41 rfl rfl ⟨gh_d41, rfl, rfl, by decide +kernel⟩ (fun _ _ => rfl)
set_option maxRecDepth 100000 in
theorem gh_M42 : gh_MOK 42 := gh_MK gh_y42 rfl rfl ⟨gh_d42, rfl, rfl, by decide +kernel⟩ (fun _ _ => rfl)
set_option maxRecDepth 100000 in
theorem gh_M43 : gh_MOK 43 := gh_MK gh_y43 rfl rfl ⟨gh_d43, rfl, rfl, by decide +kernel⟩ (fun _ _ => rfl)
set_option maxRecDepth 100000 in
theorem gh_M44 : gh_MOK 44 := gh_MK gh_y44 rfl rfl ⟨gh_d44, rfl, rfl, by decide +kernel⟩ (fun _ _ => rfl)
set_option maxRecDepth 100000 in
theorem gh_M45 : gh_MOK 45 := gh_MK gh_y45 rfl rfl ⟨gh_d45, rfl, rfl, by decide +kernel⟩ (fun _ _ => rfl)
set_option maxRecDepth 100000 in
theorem gh_M46 : gh_MOK 46 := gh_MK gh_y46 rfl rfl ⟨gh_d46, rfl, rfl, by decide +kernel⟩ (fun _ _ => rfl)
set_option maxRecDepth 100000 in
theorem gh_M47 : gh_MOK 47 := gh_MK gh_y47 rfl rfl ⟨gh_d47, rfl, rfl, by decide +kernel⟩ (fun _ _ => rfl)
set_option maxRecDepth 100000 in
theorem gh_M48 : gh_MOK 48 := gh_MK gh_y48 rfl rfl ⟨gh_d48, rfl, rfl, by decide +kernel⟩ (fun _ _ => rfl)
set_option maxRecDepth 100000 in
theorem gh_M49 : gh_MOK 49 := gh_MK gh_y49 rfl rfl ⟨gh_d49, rfl, rfl, by decide +kernel⟩ (fun _ _ => rfl)
set_option maxRecDepth 100000 in
theorem gh_M50 : gh_MOK 50 := gh_MK gh_y50 rfl rfl ⟨gh_d50, rfl, rfl, by decide +kernel⟩ (fun _ _ => rfl)
set_option maxRecDepth 100000 in
theorem gh_M51 : gh_MOK 51 := gh_MK gh_y51 rfl rfl ⟨gh_d51, rfl, rfl, by decide +kernel⟩ (fun _ _ => rfl)
set_option maxRecDepth 100000 in
theorem gh_M52 : gh_MOK 52 := gh_MK gh_y52 rfl rfl ⟨gh_d52, rfl, rfl, by decide +kernel⟩ (fun _ _ => rfl)
set_option maxRecDepth 100000 in
theorem gh_M53 : gh_MOK 53 := gh_MK gh_y53 rfl rfl ⟨gh_d53, rfl, rfl, by decide +kernel⟩ (fun _ _ => rfl)
set_option maxRecDepth 100000 in
theorem gh_M54 : gh_MOK 54 := gh_MK gh_y54 rfl rfl ⟨gh_d54, rfl, rfl, by decide +kernel⟩ (fun _ _ => rfl)
set_option maxRecDepth 100000 in
theorem gh_M55 : gh_MOK 55 := gh_MK gh_y55 rfl rfl ⟨gh_d55, rfl, rfl, by decide +kernel⟩ (fun _ _ => rfl)
set_option maxRecDepth 100000 in
theorem gh_M56 : gh_MOK 56 := gh_MK gh_y56 rfl rfl ⟨gh_d56, rfl, rfl, by decide +kernel⟩ (fun _ _ => rfl)
set_option maxRecDepth 100000 in
theorem gh_M57 : gh_MOK 57 := gh_MK gh_y57 rfl rfl ⟨gh_d57, rfl, rfl, by decide +kernel⟩ (fun _ _ => rfl)
set_option maxRecDepth 100000 in
theorem gh_M58 : gh_MOK 58 := gh_MK gh_y58 rfl rfl ⟨gh_d58, rfl, rfl, by decide +kernel⟩ (fun _ _ => rfl)
set_option maxRecDepth 100000 in
theorem gh_M59 : gh_MOK 59 := gh_MK gh_y59 rfl rfl ⟨gh_d59, rfl, rfl, by decide +kernel⟩ (fun _ _ => rfl)
set_option maxRecDepth 100000 in
theorem gh_M60 : gh_MOK 60 := gh_MK gh_y60 rfl rfl ⟨gh_d60, rfl, rfl, by decide +kernel⟩ (fun _ _ => rfl)
set_option maxRecDepth 100000 in
theorem gh_M61 : gh_MOK 61 := gh_MK gh_y61 rfl rfl ⟨gh_d61, rfl, rfl, by decide +kernel⟩ (fun _ _ => rfl)
set_option maxRecDepth 100000 in
theorem gh_M62 : gh_MOK 62 := gh_MK gh_y62 rfl rfl ⟨gh_d62, rfl, rfl, by decide +kernel⟩ (fun _ _ => rfl)
set_option maxRecDepth 100000 in
theorem gh_M63 : gh_MOK 63 := gh_MK gh_y63 rfl rfl ⟨gh_d63, rfl, rfl, by decide +kernel⟩ (fun _ _ => rfl)
set_option maxRecDepth 100000 in
theorem gh_M64 : gh_MOK 64 := gh_MK gh_y64 rfl rfl ⟨gh_d64, rfl, rfl, by decide +kernel⟩ (fun _ _ => rfl)
set_option maxRecDepth 100000 in
theorem gh_M65 : gh_MOK 65 := gh_MK gh_y65 rfl rfl ⟨gh_d65, rfl, rfl, by decide +kernel⟩ (fun _ _ => rfl)
set_option maxRecDepth 100000 in
theorem gh_M66 : gh_MOK 66 := gh_MK gh_y66 rfl rfl ⟨gh_d66, rfl, rfl, by decide +kernel⟩ (fun _ _ => rfl)
set_option maxRecDepth 100000 in
theorem gh_M67 : gh_MOK 67 := gh_MK gh_y67 rfl rfl ⟨gh_d67, rfl, rfl, by decide +kernel⟩ (fun _ _ => rfl)
set_option maxRecDepth 100000 in
theorem gh_M68 : gh_MOK 68 := gh_MK gh_y68 rfl rfl ⟨gh_d68, rfl, rfl, by decide +kernel⟩ (fun _ _ => rfl)
set_option maxRecDepth 100000 in
theorem gh_M69 : gh_MOK 69 := gh_MK gh_y69 rfl rfl ⟨gh_d69, rfl, rfl, by decide +kernel⟩ (fun _ _ => rfl)
set_option maxRecDepth 100000 in
theorem gh_M70 : gh_MOK 70 := gh_MK gh_y70 rfl rfl ⟨gh_d70, rfl, rfl, by decide +kernel⟩ (fun _ _ => rfl)
set_option maxRecDepth 100000 in
theorem gh_M71 : gh_MOK 71 := gh_MK gh_y71 rfl rfl ⟨gh_d71, rfl, rfl, by decide +kernel⟩ (fun _ _ => rfl)
set_option maxRecDepth 100000 in
theorem gh_M72 : gh_MOK 72 := gh_MK gh_y72 rfl rfl ⟨gh_d72, rfl, rfl, by decide +kernel⟩ (fun _ _ => rfl)
set_option maxRecDepth 100000 in
theorem gh_M73 : gh_MOK 73 := gh_MK gh_y73 rfl rfl ⟨gh_d73, rfl, rfl, by decide +kernel⟩ (fun _ _ => rfl)
set_option maxRecDepth 100000 in
theorem gh_M74 : gh_MOK 74 := gh_MK gh_y74 rfl rfl ⟨gh_d74, rfl, rfl, by decide +kernel⟩ (fun _ _ => rfl)
set_option maxRecDepth 100000 in
theorem gh_M75 : gh_MOK 75 := gh_MK gh_y75 rfl rfl ⟨gh_d75, rfl, rfl, by decide +kernel⟩ (fun _ _ => rfl)
set_option maxRecDepth 100000 in
theorem gh_M76 : gh_MOK 76 := gh_MK gh_y76 rfl rfl ⟨gh_d76, rfl, rfl, by decide +kernel⟩ (fun _ _ => rfl)
set_option maxRecDepth 100000 in
theorem gh_M77 : gh_MOK 77 := gh_MK gh_y77 rfl rfl ⟨gh_d77, rfl, rfl, by decide +kernel⟩ (fun _ _ => rfl)
set_option maxRecDepth 100000 in
theorem gh_M78 : gh_MOK 78 := gh_MK gh_y78 rfl rfl ⟨gh_d78, rfl, rfl, by decide +kernel⟩ (fun _ _ => rfl)
set_option maxRecDepth 100000 in
theorem gh_M79 : gh_MOK 79 := gh_MK gh_y79 rfl rfl ⟨gh_d79, rfl, rfl, by decide +kernel⟩ (fun _ _ => rfl)
set_option maxRecDepth 100000 in
theorem gh_M80 : gh_MOK 80 := gh_MK gh_y80 rfl rfl ⟨gh_d80, rfl, rfl, by decide +kernel⟩ (fun _ _ => rfl)
set_option maxRecDepth 100000 in
theorem gh_M81 : gh_MOK 81 := gh_MK gh_y81 rfl rfl ⟨gh_d81, rfl, rfl, by decide +kernel⟩ (fun _ _ => rfl)
set_option maxRecDepth 100000 in
theorem gh_M82 : gh_MOK 82 := gh_MK gh_y82 rfl rfl ⟨gh_d82, rfl, rfl, by decide +kernel⟩ (fun _ _ => rfl)
set_option maxRecDepth 100000 in
theorem gh_M83 : gh_MOK 83 := gh_MK gh_y83 rfl rfl ⟨gh_d83, rfl, rfl, by decide +kernel⟩ (fun _ _ => rfl)
set_option maxRecDepth 100000 in
theorem gh_M84 : gh_MOK 84 := gh_MK gh_y84 rfl rfl ⟨gh_d84, rfl, rfl, by decide +kernel⟩ (fun _ _ => rfl)
set_option maxRecDepth 100000 in
theorem gh_M85 : gh_MOK 85 := gh_MK gh_y85 rfl rfl ⟨gh_d85, rfl, rfl, by decide +kernel⟩ (fun _ _ => rfl)
set_option maxRecDepth 100000 in
theorem gh_M86 : gh_MOK 86 := gh_MK gh_y86 rfl rfl ⟨gh_d86, rfl, rfl, by decide +kernel⟩ (fun _ _ => rfl)
set_option maxRecDepth 100000 in
theorem gh_M87 : gh_MOK 87 := gh_MK gh_y87 rfl rfl ⟨gh_d87, rfl, rfl, by decide +kernel⟩ (fun _ _ => rfl)
set_option maxRecDepth 100000 in
theorem gh_M88 : gh_MOK 88 := gh_MK gh_y88 rfl rfl ⟨gh_d88, rfl, rfl, by decide +kernel⟩ (fun _ _ => rfl)
set_option maxRecDepth 100000 in
theorem gh_M89 : gh_MOK 89 := gh_MK gh_y89 rfl rfl ⟨gh_d89, rfl, rfl, by decide +kernel⟩ (fun _ _ => rfl)
set_option maxRecDepth 100000 in
theorem gh_M90 : gh_MOK 90 := gh_MK gh_y90 rfl rfl ⟨gh_d90, rfl, rfl, by decide +kernel⟩ (fun _ _ => rfl)
set_option maxRecDepth 100000 in
theorem gh_M91 : gh_MOK 91 := gh_MK gh_y91 rfl rfl ⟨gh_d91, rfl, rfl, by decide +kernel⟩ (fun _ _ => rfl)
set_option maxRecDepth 100000 in
theorem gh_M92 : gh_MOK 92 := gh_MK gh_y92 rfl rfl ⟨gh_d92, rfl, rfl, by decide +kernel⟩ (fun _ _ => rfl)
set_option maxRecDepth 100000 in
theorem gh_M93 : gh_MOK 93 := gh_MK gh_y93 rfl rfl ⟨gh_d93, rfl, rfl, by decide +kernel⟩ (fun _ _ => rfl)
set_option maxRecDepth 100000 in
theorem gh_M94 : gh_MOK 94 := gh_MK gh_y94 rfl rfl ⟨gh_d94, rfl, rfl, by decide +kernel⟩ (fun _ _ => rfl)
set_option maxRecDepth 100000 in
theorem gh_M95 : gh_MOK 95 := gh_MK gh_y95 rfl rfl ⟨gh_d95, rfl, rfl, by decide +kernel⟩ (fun _ _ => rfl)
set_option maxRecDepth 100000 in
theorem gh_M96 : gh_MOK 96 := gh_MK gh_y96 rfl rfl ⟨gh_d96, rfl, rfl, by decide +kernel⟩ (fun _ _ => rfl)
set_option maxRecDepth 100000 in
theorem gh_M97 : gh_MOK 97 := gh_MK gh_y97 rfl rfl ⟨gh_d97, rfl, rfl, by decide +kernel⟩ (fun _ _ => rfl)
set_option maxRecDepth 100000 in
theorem gh_M98 : gh_MOK 98 := gh_MK gh_y98 rfl rfl ⟨gh_d98, rfl, rfl, by decide +kernel⟩ (fun _ _ => rfl)
set_option maxRecDepth 100000 in
theorem gh_M99 : gh_MOK 99 := gh_MK gh_y99 rfl rfl ⟨gh_d99, rfl, rfl, by decide +kernel⟩ (fun _ _ => rfl)
set_option maxRecDepth 100000 in
theorem gh_M100 : gh_MOK 100 := gh_MK gh_y100 rfl rfl ⟨gh_d100, rfl, rfl, by decide +kernel⟩ (fun _ _ => rfl)
set_option maxRecDepth 100000 in
theorem gh_M101 : gh_MOK 101 := gh_MK gh_y101 rfl rfl ⟨gh_d101, rfl, rfl, by decide +kernel⟩ (fun _ _ => rfl)
set_option maxRecDepth 100000 in
theorem gh_M102 : gh_MOK 102 := gh_MK gh_y102 rfl rfl ⟨gh_d102, rfl, rfl, by decide +kernel⟩ (fun _ _ => rfl)
set_option maxRecDepth 100000 in
theorem gh_M103 : gh_MOK 103 := gh_MK gh_y103 rfl rfl ⟨gh_d103, rfl, rfl, by decide +kernel⟩ (fun _ _ => rfl)
set_option maxRecDepth 100000 in
theorem gh_M104 : gh_MOK 104 := gh_MK gh_y104 rfl rfl ⟨gh_d104, rfl, rfl, by decide +kernel⟩ (fun _ _ => rfl)
set_option maxRecDepth 100000 in
theorem gh_M105 : gh_MOK 105 := gh_MK gh_y105 rfl rfl ⟨gh_d105, rfl, rfl, by decide +kernel⟩ (fun _ _ => rfl)
set_option maxRecDepth 100000 in
theorem gh_M106 : gh_MOK 106 := gh_MK gh_y106 rfl rfl ⟨gh_d106, rfl, rfl, by decide +kernel⟩ (fun _ _ => rfl)
set_option maxRecDepth 100000 in
theorem gh_M107 : gh_MOK 107 := gh_MK gh_y107 rfl rfl ⟨gh_d107, rfl, rfl, by decide +kernel⟩ (fun _ _ => rfl)
set_option maxRecDepth 100000 in
theorem gh_M108 : gh_MOK 108 := gh_MK gh_y108 rfl rfl ⟨gh_d108, rfl, rfl, by decide +kernel⟩ (fun _ _ => rfl)
set_option maxRecDepth 100000 in
theorem gh_M109 : gh_MOK 109 := gh_MK gh_y109 rfl rfl ⟨gh_d109, rfl, rfl, by decide +kernel⟩ (fun _ _ => rfl)
set_option maxRecDepth 100000 in
theorem gh_M110 : gh_MOK 110 := gh_MK gh_y110 rfl rfl ⟨gh_d110, rfl, rfl, by decide +kernel⟩ (fun _ _ => rfl)
set_option maxRecDepth 100000 in
theorem gh_M111 : gh_MOK 111 := gh_MK gh_y111 rfl rfl ⟨gh_d111, rfl, rfl, by decide +kernel⟩ (fun _ _ => rfl)
set_option maxRecDepth 100000 in
theorem gh_M112 : gh_MOK 112 := gh_MK gh_y112 rfl rfl ⟨gh_d112, rfl, rfl, by decide +kernel⟩ (fun _ _ => rfl)
set_option maxRecDepth 100000 in
theorem gh_M113 : gh_MOK 113 := gh_MK gh_y113 rfl rfl ⟨gh_d113, rfl, rfl, by decide +kernel⟩ (fun _ _ => rfl)
set_option maxRecDepth 100000 in
theorem gh_M114 : gh_MOK 114 := gh_MK gh_y114 rfl rfl ⟨gh_d114, rfl, rfl, by decide +kernel⟩ (fun _ _ => rfl)
set_option maxRecDepth 100000 in
theorem gh_M115 : gh_MOK 115 := gh_MK gh_y115 rfl rfl ⟨gh_d115, rfl, rfl, by decide +kernel⟩ (fun _ _ => rfl)
set_option maxRecDepth 100000 in
theorem gh_M116 : gh_MOK 116 := gh_MK gh_y116 rfl rfl ⟨gh_d116, rfl, rfl, by decide +kernel⟩ (fun _ _ => rfl)
set_option maxRecDepth 100000 in
theorem gh_M117 : gh_MOK 117 := gh_MK gh_y117 rfl rfl ⟨gh_d117, rfl, rfl, by decide +kernel⟩ (fun _ _ => rfl)
set_option maxRecDepth 100000 in
theorem gh_M118 : gh_MOK 118 := gh_MK gh_y118 rfl rfl ⟨gh_d118, rfl, rfl, by decide +kernel⟩ (fun _ _ => rfl)
set_option maxRecDepth 100000 in
theorem gh_M119 : gh_MOK 119 := gh_MK gh_y119 rfl rfl ⟨gh_d119, rfl, rfl, by decide +kernel⟩ (fun _ _ => rfl)
set_option maxRecDepth 100000 in
theorem gh_M120 : gh_MOK 120 := gh_MK gh_y120 rfl rfl ⟨gh_d120, rfl, rfl, by decide +kernel⟩ (fun _ _ => rfl)
set_option maxRecDepth 100000 in
theorem gh_M121 : gh_MOK 121 := gh_MK gh_y121 rfl rfl ⟨gh_d121, rfl, rfl, by decide +kernel⟩ (fun _ _ => rfl)
set_option maxRecDepth 100000 in
theorem gh_M122 : gh_MOK 122 := gh_MK gh_y122 rfl rfl ⟨gh_d122, rfl, rfl, by decide +kernel⟩ (fun _ _ => rfl)
set_option maxRecDepth 100000 in
theorem gh_M123 : gh_MOK 123 := gh_MK gh_y123 rfl rfl ⟨gh_d123, rfl, rfl, by decide +kernel⟩ (fun _ _ => rfl)
set_option maxRecDepth 100000 in
theorem gh_M124 : gh_MOK 124 := gh_MK gh_y124 rfl rfl ⟨gh_d124, rfl, rfl, by decide +kernel⟩ (fun _ _ => rfl)
set_option maxRecDepth 100000 in
theorem gh_M125 : gh_MOK 125 := gh_MK gh_y125 rfl rfl ⟨gh_d125, rfl, rfl, by decide +kernel⟩ (fun _ _ => rfl)
set_option maxRecDepth 100000 in
theorem gh_M126 : gh_MOK 126 := gh_MK gh_y126 rfl rfl ⟨gh_d126, rfl, rfl, by decide +kernel⟩ (fun _ _ => rfl)
set_option maxRecDepth 100000 in
theorem gh_M127 : gh_MOK 127 := gh_MK gh_y127 rfl rfl ⟨gh_d127, rfl, rfl, by decide +kernel⟩ (fun _ _ => rfl)
theorem gh_Mg0 : ∀ μ ∈ ([0, 1, 2, 3, 4, 5, 6, 7, 8, 9, 10, 11, 12, 13, 14, 15, 16, 17, 18, 19, 20, 21, 22, 23, 24, 25, 26, 27] : List Nat), gh_MOK μ := List.forall_mem_cons.mpr ⟨gh_M0, List.forall_mem_cons.mpr ⟨gh_M1, List.forall_mem_cons.mpr ⟨gh_M2, List.forall_mem_cons.mpr ⟨gh_M3, List.forall_mem_cons.mpr ⟨gh_M4, List.forall_mem_cons.mpr ⟨gh_M5, List.forall_mem_cons.mpr ⟨gh_M6, List.forall_mem_cons.mpr ⟨gh_M7, List.forall_mem_cons.mpr ⟨gh_M8, List.forall_mem_cons.mpr ⟨gh_M9, List.forall_mem_cons.mpr ⟨gh_M10, List.forall_mem_cons.mpr ⟨gh_M11, List.forall_mem_cons.mpr ⟨gh_M12, List.forall_mem_cons.mpr ⟨gh_M13, List.forall_mem_cons.mpr ⟨gh_M14, List.forall_mem_cons.mpr ⟨gh_M15, List.forall_mem_cons.mpr ⟨gh_M16, List.forall_mem_cons.mpr ⟨gh_M17, List.forall_mem_cons.mpr ⟨gh_M18, List.forall_mem_cons.mpr ⟨gh_M19, List.forall_mem_cons.mpr ⟨gh_M20, List.forall_mem_cons.mpr ⟨gh_M21, List.forall_mem_cons.mpr ⟨gh_M22, List.forall_mem_cons.mpr ⟨gh_M23, List.forall_mem_cons.mpr ⟨gh_M24, List.forall_mem_cons.mpr ⟨gh_M25, List.forall_mem_cons.mpr ⟨gh_M26, List.forall_mem_cons.mpr ⟨gh_M27, (fun _ h => absurd h List.not_mem_nil)⟩⟩⟩⟩⟩⟩⟩⟩⟩⟩⟩⟩⟩⟩⟩⟩⟩⟩⟩⟩⟩⟩⟩⟩⟩⟩⟩⟩
theorem gh_Mg1 : ∀ μ ∈ ([28, 29, 30, 31, 32, 33, 34, 35, 36, 37, 38, 39, 40, 41, 42, 43, 44, 45, 46, 47, 48, 49, 50, 51, 52, 53, 54, 55] : List Nat), gh_MOK μ := List.forall_mem_cons.mpr ⟨gh_M28, List.forall_mem_cons.mpr ⟨gh_M29, List.forall_mem_cons.mpr ⟨gh_M30, List.forall_mem_cons.mpr ⟨gh_M31, List.forall_mem_cons.mpr ⟨gh_M32, List.forall_mem_cons.mpr ⟨gh_M33, List.forall_mem_cons.mpr ⟨gh_M34, List.forall_mem_cons.mpr ⟨gh_M35, List.forall_mem_cons.mpr ⟨gh_M36, List.forall_mem_cons.mpr ⟨gh_M37, List.forall_mem_cons.mpr ⟨gh_M38, List.forall_mem_cons.mpr ⟨gh_M39, List.forall_mem_cons.mpr ⟨gh_M40, List.forall_mem_cons.mpr ⟨gh_M41, List.forall_mem_cons.mpr ⟨gh_M42, List.forall_mem_cons.mpr ⟨gh_M43, List.forall_mem_cons.mpr ⟨gh_M44, List.forall_mem_cons.mpr ⟨gh_M45, List.forall_mem_cons.mpr ⟨gh_M46, List.forall_mem_cons.mpr ⟨gh_M47, List.forall_mem_cons.mpr ⟨gh_M48, List.forall_mem_cons.mpr ⟨gh_M49, List.forall_mem_cons.mpr ⟨gh_M50, List.forall_mem_cons.mpr ⟨gh_M51, List.forall_mem_cons.mpr ⟨gh_M52, List.forall_mem_cons.mpr ⟨gh_M53, List.forall_mem_cons.mpr ⟨gh_M54, List.forall_mem_cons.mpr ⟨gh_M55, (fun _ h => absurd h List.not_mem_nil)⟩⟩⟩⟩⟩⟩⟩⟩⟩⟩⟩⟩⟩⟩⟩⟩⟩⟩⟩⟩⟩⟩⟩⟩⟩⟩⟩⟩
theorem gh_Mg2 : ∀ μ ∈ ([56, 57, 58, 59, 60, 61, 62, 63, 64, 65, 66, 67, 68, 69, 70, 71, 72, 73, 74, 75, 76, 77, 78, 79, 80, 81, 82, 83] : List Nat), gh_MOK μ := List.forall_mem_cons.mpr ⟨gh_M56, List.forall_mem_cons.mpr ⟨gh_M57, List.forall_mem_cons.mpr ⟨gh_M58, List.forall_mem_cons.mpr ⟨gh_M59, List.forall_mem_cons.mpr ⟨gh_M60, List.forall_mem_cons.mpr ⟨gh_M61, List.forall_mem_cons.mpr ⟨gh_M62, List.forall_mem_cons.mpr ⟨gh_M63, List.forall_mem_cons.mpr ⟨gh_M64, List.forall_mem_cons.mpr ⟨gh_M65, List.forall_mem_cons.mpr ⟨gh_M66, List.forall_mem_cons.mpr ⟨gh_M67, List.forall_mem_cons.mpr ⟨gh_M68, List.forall_mem_cons.mpr ⟨gh_M69, List.forall_mem_cons.mpr ⟨gh_M70, List.forall_mem_cons.mpr ⟨gh_M71, List.forall_mem_cons.mpr ⟨gh_M72, List.forall_mem_cons.mpr ⟨gh_M73, List.forall_mem_cons.mpr ⟨gh_M74, List.forall_mem_cons.mpr ⟨gh_M75, List.forall_mem_cons.mpr ⟨gh_M76, List.forall_mem_cons.mpr ⟨gh_M77, List.forall_mem_cons.mpr ⟨gh_M78, List.forall_mem_cons.mpr ⟨gh_M79, List.forall_mem_cons.mpr ⟨gh_M80, List.forall_mem_cons.mpr ⟨gh_M81, List.forall_mem_cons.mpr ⟨gh_M82, List.forall_mem_cons.mpr ⟨gh_M83, (fun _ h => absurd h List.not_mem_nil)⟩⟩⟩⟩⟩⟩⟩⟩⟩⟩⟩⟩⟩⟩⟩⟩⟩⟩⟩⟩⟩⟩⟩⟩⟩⟩⟩⟩
theorem gh_Mg3 : ∀ μ ∈ ([84, 85, 86, 87, 88, 89, 90, 91, 92, 93, 94, 95, 96, 97, 98, 99, 100, 101, 102, 103, 104, 105, 106, 107, 108, 109, 110, 111] : List Nat), gh_MOK μ := List.forall_mem_cons.mpr ⟨gh_M84, List.forall_mem_cons.mpr ⟨gh_M85, List.forall_mem_cons.mpr ⟨gh_M86, List.forall_mem_cons.mpr ⟨gh_M87, List.forall_mem_cons.mpr ⟨gh_M88, List.forall_mem_cons.mpr ⟨gh_M89, List.forall_mem_cons.mpr ⟨gh_M90, List.forall_mem_cons.mpr ⟨gh_M91, List.forall_mem_cons.mpr ⟨gh_M92, List.forall_mem_cons.mpr ⟨gh_M93, List.forall_mem_cons.mpr ⟨gh_M94, List.forall_mem_cons.mpr ⟨gh_M95, List.forall_mem_cons.mpr ⟨gh_M96, List.forall_mem_cons.mpr ⟨gh_M97, List.forall_mem_cons.mpr ⟨gh_M98, List.forall_mem_cons.mpr ⟨gh_M99, List.forall_mem_cons.mpr ⟨gh_M100, List.forall_mem_cons.mpr ⟨gh_M101, List.forall_mem_cons.mpr ⟨gh_M102, List.forall_mem_cons.mpr ⟨gh_M103, List.forall_mem_cons.mpr ⟨gh_M104, List.forall_mem_cons.mpr ⟨gh_M105, List.forall_mem_cons.mpr ⟨gh_M106, List.forall_mem_cons.mpr ⟨gh_M107, List.forall_mem_cons.mpr ⟨gh_M108, List.forall_mem_cons.mpr ⟨gh_M109, List.forall_mem_cons.mpr ⟨gh_M110, List.forall_mem_cons.mpr ⟨gh_M111, (fun _ h => absurd h List.not_mem_nil)⟩⟩⟩⟩⟩⟩⟩⟩⟩⟩⟩⟩⟩⟩⟩⟩⟩⟩⟩⟩⟩⟩⟩⟩⟩⟩⟩⟩
theorem gh_Mg4 : ∀ μ ∈ ([112, 113, 114, 115, 116, 117, 118, 119, 120, 121, 122, 123, 124, 125, 126, 127] : List Nat), gh_MOK μ := List.forall_mem_cons.mpr ⟨gh_M112, List.forall_mem_cons.mpr ⟨gh_M113, List.forall_mem_cons.mpr ⟨gh_M114, List.forall_mem_cons.mpr ⟨gh_M115, List.forall_mem_cons.mpr ⟨gh_M116, List.forall_mem_cons.mpr ⟨gh_M117, List.forall_mem_cons.mpr ⟨gh_M118, List.forall_mem_cons.mpr ⟨gh_M119, List.forall_mem_cons.mpr ⟨gh_M120, List.forall_mem_cons.mpr ⟨gh_M121, List.forall_mem_cons.mpr ⟨gh_M122, List.forall_mem_cons.mpr ⟨gh_M123, List.forall_mem_cons.mpr ⟨gh_M124, List.forall_mem_cons.mpr ⟨gh_M125, List.forall_mem_cons.mpr ⟨gh_M126, List.forall_mem_cons.mpr ⟨gh_M127, (fun _ h => absurd h List.not_mem_nil)⟩⟩⟩⟩⟩⟩⟩⟩⟩⟩⟩⟩⟩⟩⟩⟩
theorem gh_Mall (μ : Nat) (h : μ < 128) : gh_MOK μ := by
  by_cases h0 : μ < 28
  · exact gh_Mg0 μ (by simp only [List.mem_cons, List.not_mem_nil, or_false]; omega)
  by_cases h1 : μ < 56
  · exact gh_Mg1 μ (by simp only [List.mem_cons, List.not_mem_nil, or_false]; omega)
  by_cases h2 : μ < 84
  · exact gh_Mg2 μ (by simp only [List.mem_cons, List.not_mem_nil, or_false]; omega)
  by_cases h3 : μ < 112
  · exact gh_Mg3 μ (by simp only [List.mem_cons, List.not_mem_nil, or_false]; omega)
  by_cases h4 : μ < 128
  · exact gh_Mg4 μ (by simp only [List.mem_cons, List.not_mem_nil, or_false]; omega)
  exact absurd h (by omega)
end
section
/-! THE GHOST HEAP IN THE MACHINE'S HEAP -/
/-- what stays through a run: where the classes and fields lie, the arrays' classes, the script's cell, where the world begins, the script -/
abbrev gh_Z : Type := va_G × (ClassId × ClassId × ClassId × ClassId) × Nat × Nat × List Int32
def gh_ad (z : gh_Z) (i : Nat) : Nat := if i = 0 then z.2.2.1 else z.2.2.2.1 + (i - 1)
def gh_em (z : gh_Z) (v : Value) : Value := match v with
  | .ref i => .ref (gh_ad z i)
  | v => v
def gh_lm (z : gh_Z) (l : gh_L) : List (Nat × Value) := l.map fun q => (q.1, gh_em z q.2)
def gh_re (z : gh_Z) (v : Value) : Option Nat := match v with
  | .ref a => some (gh_ad z a)
  | _ => none
def gh_ce (z : gh_Z) (c : gh_C) : va_E :=
  if c.1 = 20 then .inl (z.2.1.1, c.2.length, .inl (fun j => gh_toI (c.2.getD j .null)))
  else if c.1 = 21 then .inl (z.2.1.2.1, c.2.length, .inr (.inl (fun j => gh_toJ (c.2.getD j .null))))
  else if c.1 = 22 then .inl (z.2.1.2.2.1, c.2.length, .inl (fun j => gh_toI (c.2.getD j .null)))
  else if c.1 = 23 then .inl (z.2.1.2.2.2, c.2.length, .inr (.inr (.inr (.inr (fun j => gh_re z (c.2.getD j .null))))))
  else .inr (c.1, c.2.map (gh_em z))
def gh_ws (z : gh_Z) : Nat → gh_H → va_W
  | _, [] => []
  | i, c :: G => (gh_ad z i, gh_ce z c) :: gh_ws z (i + 1) G
def gh_W (z : gh_Z) (G : gh_H) : va_W := gh_ws z 1 (G.drop 1)
def gh_tys (z : gh_Z) : List (ClassId × FieldType) := [(z.2.1.1, .int), (z.2.1.2.1, .long), (z.2.1.2.2.1, .boolean), (z.2.1.2.2.2, .object RX1)]
def gh_A (z : gh_Z) : Nat → Prop := fun q => z.2.2.2.1 ≤ q
theorem gh_ws_get (z : gh_Z) : ∀ (G : gh_H) (i k : Nat), (gh_ws z i G)[k]? = (G[k]?).map (fun c => (gh_ad z (i + k), gh_ce z c)) := by
  intro G
  induction G with
  | nil => intro i k; simp [gh_ws]
  | cons c G ih =>
    intro i k
    cases k with
    | zero => simp [gh_ws]
    | succ k =>
      simp only [gh_ws, List.getElem?_cons_succ]
      rw [ih (i + 1) k, show i + 1 + k = i + (k + 1) by omega]
theorem gh_ws_set (z : gh_Z) (c : gh_C) : ∀ (G : gh_H) (i k : Nat), gh_ws z i (G.set k c) = (gh_ws z i G).set k (gh_ad z (i + k), gh_ce z c) := by
  intro G
  induction G with
  | nil => intro i k; simp [gh_ws]
  | cons d G ih =>
    intro i k
    cases k with
    | zero => simp [gh_ws]
    | succ k =>
      simp only [gh_ws, List.set_cons_succ]
      rw [ih (i + 1) k, show i + 1 + k = i + (k + 1) by omega]
theorem gh_ws_push (z : gh_Z) (c : gh_C) : ∀ (G : gh_H) (i : Nat), gh_ws z i (G ++ [c]) = gh_ws z i G ++ [(gh_ad z (i + G.length), gh_ce z c)] := by
  intro G
  induction G with
  | nil => intro i; simp [gh_ws]
  | cons d G ih =>
    intro i
    simp only [gh_ws, List.cons_append, List.length_cons]
    rw [ih (i + 1), show i + 1 + G.length = i + (G.length + 1) by omega]
theorem gh_W_get {z : gh_Z} {G : gh_H} {a : Nat} {c : gh_C} (h : G[a]? = some c) (ha : a ≠ 0) : (gh_W z G)[a - 1]? = some (gh_ad z a, gh_ce z c) := by
  unfold gh_W
  rw [gh_ws_get, List.getElem?_drop, show 1 + (a - 1) = a by omega, h]
  rfl
theorem gh_W_set {z : gh_Z} {G : gh_H} {a : Nat} {c : gh_C} (ha : a ≠ 0) : gh_W z (G.set a c) = (gh_W z G).set (a - 1) (gh_ad z a, gh_ce z c) := by
  unfold gh_W
  rw [List.drop_set, if_neg (by omega), gh_ws_set, show 1 + (a - 1) = a by omega]
theorem gh_W_push {z : gh_Z} {G : gh_H} {c : gh_C} (hG : 1 ≤ G.length) : gh_W z (G ++ [c]) = gh_W z G ++ [(gh_ad z G.length, gh_ce z c)] := by
  unfold gh_W
  rw [List.drop_append_of_le_length hG, gh_ws_push, List.length_drop, show 1 + (G.length - 1) = G.length by omega]
theorem gh_W_D (z : gh_Z) (G : gh_H) : va_D (gh_A z) (gh_W z G) := by
  have g : ∀ (k : Nat) (q : Nat × va_E), (gh_W z G)[k]? = some q → q.1 = z.2.2.2.1 + k := by
    intro k q h
    unfold gh_W at h
    rw [gh_ws_get] at h
    obtain ⟨c, -, rfl⟩ := Option.map_eq_some_iff.mp h
    show gh_ad z (1 + k) = _
    unfold gh_ad
    rw [if_neg (by omega)]
    omega
  refine ⟨fun i j p q h1 h2 h3 => ?_, fun k q h => ?_⟩
  · have := g i p h1
    have := g j q h2
    omega
  · show z.2.2.2.1 ≤ q.1
    rw [g k q h]
    omega
/-- the ghost heap G lies in the machine's heap H; its cell 0 is the script, or (while the world is being made) stands for it -/
def gh_Rel (z : gh_Z) (G : gh_H) (H : Heap) : Prop := va_P z.1 vwCl (gh_W z G) H ∧ (G[0]? = some (20, z.2.2.2.2.map .int) ∨ G[0]? = some (99, []))
/-- what a state owes beside the heap -/
def gh_KB (z : gh_Z) (U : State) : Prop := va_K z.1 vwCl (gh_tys z) U ∧ va_X z.2.2.1 z.2.2.2.2.length (fun j => z.2.2.2.2.getD j 0) U U.heap ∧ z.2.2.1 < z.2.2.2.1 ∧ z.2.2.2.1 ≤ U.heap.size ∧ (∀ w ∈ gh_nst, va_Nw w U) ∧
  (∀ q ∈ gh_str, ∃ sa, vk_R "Treeclerk" q.1 q.2 sa U) ∧ vx_Zq Bundle.tN "UNASSIGNED_STACK" Bundle.steD (gh_A z) U U.heap ∧ vx_Zq Bundle.tN "SUPPRESSED_SENTINEL" Bundle.listD (gh_A z) U U.heap ∧
  (∀ E E', E < 4 → E' < 4 → E ≠ E' → va_Nc (gh_es E) (gh_es E') U) ∧ va_AO RX1 U
theorem gh_Nc_moved {C T : String} {u U : State} (hvm : u.vm.Alike U.vm) (h : va_Nc C T u) : va_Nc C T U := by
  obtain ⟨c, t, h1, h2, h3⟩ := h
  exact ⟨c, t, by rw [hvm.findClass]; exact h1, by rw [hvm.findClass]; exact h2, by rw [← h3]; exact hvm.assignable c t⟩
theorem gh_KB_moved {z : gh_Z} {s U : State} {locs : List Loc} (h : gh_KB z s) (hW : s.WarmedH U.vm) (hS : va_S (gh_A z) s.heap U.heap locs) : gh_KB z U := by
  obtain ⟨h1, h2, h3, h4, h5, h6, h7, h8, h9, h10⟩ := h
  have hA : ¬ gh_A z z.2.2.1 := by
    show ¬ z.2.2.2.1 ≤ z.2.2.1
    omega
  refine ⟨va_K.moved hW.alike h1, va_X.moved hW.alike (va_X.kept h2 (hS.2.1 _ (by omega) hA)), h3, Nat.le_trans h4 hS.1, fun w hw => gh_nstW hW w hw (h5 w hw), fun q hq => ?_, vx_Zq.moved hW.alike (h7.kept hS.2.1), vx_Zq.moved hW.alike (h8.kept hS.2.1), fun E E' a b d => gh_Nc_moved hW.alike (h9 E E' a b d), va_AO.moved hW.alike h10⟩
  obtain ⟨sa, h⟩ := h6 q hq
  exact ⟨sa, vk_R.warm hW h⟩
theorem gh_KB_call {z : gh_Z} {U : State} {g : JFrame} {mk : MethodId} {a : Array Value} (h : gh_KB z U) : gh_KB z (U.calling g mk a) :=
  gh_KB_moved (U := U.calling g mk a) (locs := []) h (State.WarmedH.refl U) ⟨Nat.le_refl _, fun _ _ _ => rfl, fun _ h => nomatch h⟩
theorem gh_em_cat (z : gh_Z) (v : Value) : (gh_em z v).category = v.category := by cases v <;> rfl
theorem gh_es_cat (z : gh_Z) (st : List Value) : ((st.map (gh_em z)).map fun v => v.category).sum = gh_cat st := by
  unfold gh_cat
  rw [List.map_map]
  congr 1
  exact List.map_congr_left fun v _ => gh_em_cat z v
theorem gh_el_mem {z : gh_Z} {l : gh_L} {k : Nat} {v : Value} (h : l.lookup k = some v) : (k, gh_em z v) ∈ gh_lm z l := by
  unfold gh_lm
  refine List.mem_map.mpr ⟨(k, v), ?_, rfl⟩
  induction l with
  | nil => cases h
  | cons q l ih =>
    obtain ⟨k', v'⟩ := q
    rw [List.lookup_cons] at h
    by_cases hk : k == k'
    · rw [hk] at h
      cases h
      rw [beq_iff_eq.mp hk]
      exact List.mem_cons_self
    · rw [Bool.not_eq_true] at hk
      rw [hk] at h
      exact List.mem_cons_of_mem _ (ih h)
theorem gh_ld_spec {z : gh_Z} {p : Value → Bool} {l : gh_L} {k : Nat} {v : Value} {ls : Array Slot} {nL : Nat} (hl : lv_has ls nL (gh_lm z l)) (h : gh_ld p l k = some v) : p v = true ∧ ls[k]? = some (.val (gh_em z v)) := by
  unfold gh_ld at h
  cases hk : l.lookup k with
  | none => rw [hk] at h; cases h
  | some w =>
    rw [hk] at h
    by_cases hp : p w = true
    · simp only [hp, if_true] at h
      cases h
      exact ⟨hp, hl.2.2 _ (gh_el_mem hk)⟩
    · simp only [hp] at h
      cases h
theorem gh_st1_el (z : gh_Z) (l : gh_L) (i : Nat) (v : Value) : gh_lm z (gh_st1 l i v) = (i, gh_em z v) :: (gh_lm z l).filter (fun q => !(q.1 == i) && !(q.1 + 1 == i && q.2.category == 2)) := by
  unfold gh_st1 gh_lm
  rw [List.map_cons, List.filter_map]
  congr 2
  exact List.filter_congr fun q _ => by simp [Function.comp, gh_em_cat]
theorem gh_st2_el (z : gh_Z) (l : gh_L) (i : Nat) (v : Value) : gh_lm z (gh_st2 l i v) = (i, gh_em z v) :: (gh_lm z l).filter (fun q => !(q.1 == i) && (!(q.1 == i + 1) && !(q.1 + 1 == i && q.2.category == 2))) := by
  unfold gh_st2 gh_lm
  rw [List.map_cons, List.filter_map]
  congr 2
  exact List.filter_congr fun q _ => by simp [Function.comp, gh_em_cat]
/-- a method's own facts -/
def gh_Cx (z : gh_Z) (p : Program) (s : State) (m : MethodId) (args : Array Value) (meth : Method) (c : Code) (own : Nat) (cc : ByteArray) (nL : Nat) (rt : Option FieldType) (nm : String) : Prop :=
  p.tables.exec = Jvm.exec ∧ c.code = cc ∧ c.maxLocals = nL ∧ meth.sig.returnType = rt ∧ meth.locks = false ∧ s.vm.findClass (gh_on own) = some m.cls ∧ (∀ w ∈ gh_wsG, w.before args s = true) ∧ gh_KB z s ∧ meth.name = nm
/-- from pc on, with these locals, this stack, this ghost heap, wherever they lie, the machine comes to Q -/
def gh_T (z : gh_Z) (p : Program) (l : Launch) (e : Env) (R : Room) (s : State) (m : MethodId) (args : Array Value) (below : List Frame) (meth : Method) (c : Code) (nL g0 z0 : Nat) (Q : State → Prop) (k0 y0 pc : Nat) (lo : gh_L) (st : List Value) (G : gh_H) : Prop :=
  ∀ (H : Heap) (locs : List Loc) (ls : Array Slot), gh_Rel z G H → va_S (gh_A z) s.heap H locs → lv_has ls nL (gh_lm z lo) → W p l e R s m args below meth c H locs (G.length - g0 + k0) (gh_sz G - z0 + y0) Q (F0 m pc ls (st.map (gh_em z)))
end
section
/-! EACH GHOST STEP IS A STEP OF THE MACHINE (steps that stay in the method, without the heap) -/
theorem gh_go_inv {pc pc' : Nat} {l l' : gh_L} {st st' : List Value} {G G' : gh_H} (h : gh_go pc l st G = some (.inl (pc', l', st', G'))) : pc = pc' ∧ l = l' ∧ st = st' ∧ G = G' := by
  unfold gh_go at h
  cases h
  exact ⟨rfl, rfl, rfl, rfl⟩
theorem gh_push_inv {v : Option Value} {pc pc' : Nat} {l l' : gh_L} {st st' : List Value} {G G' : gh_H} (h : gh_push v pc l st G = some (.inl (pc', l', st', G'))) : ∃ w, v = some w ∧ pc = pc' ∧ l = l' ∧ w :: st = st' ∧ G = G' := by
  cases v with
  | none => exact nomatch h
  | some w => exact ⟨w, rfl, gh_go_inv h⟩
theorem gh_isI_inv {v : Value} (h : gh_isI v = true) : ∃ x, v = .int x := by
  cases v with
  | int x => exact ⟨x, rfl⟩
  | _ => cases h
theorem gh_isJ_inv {v : Value} (h : gh_isJ v = true) : ∃ x, v = .long x := by
  cases v with
  | long x => exact ⟨x, rfl⟩
  | _ => cases h
theorem gh_isA_inv {v : Value} (h : gh_isA v = true) : ∃ x, v = .ref x := by
  cases v with
  | ref x => exact ⟨x, rfl⟩
  | _ => cases h
theorem gh_bin_inv {f : Int32 → Int32 → Int32} {pc pc' : Nat} {l l' : gh_L} {st st' : List Value} {G G' : gh_H} (h : gh_bin f pc l st G = some (.inl (pc', l', st', G'))) : ∃ x y r, st = .int y :: .int x :: r ∧ pc + 1 = pc' ∧ l = l' ∧ .int (f x y) :: r = st' ∧ G = G' := by
  unfold gh_bin at h
  split at h
  · exact ⟨_, _, _, rfl, gh_go_inv h⟩
  · cases h
theorem gh_binJ_inv {f : Int64 → Int64 → Int64} {pc pc' : Nat} {l l' : gh_L} {st st' : List Value} {G G' : gh_H} (h : gh_binJ f pc l st G = some (.inl (pc', l', st', G'))) : ∃ x y r, st = .long y :: .long x :: r ∧ pc + 1 = pc' ∧ l = l' ∧ .long (f x y) :: r = st' ∧ G = G' := by
  unfold gh_binJ at h
  split at h
  · exact ⟨_, _, _, rfl, gh_go_inv h⟩
  · cases h
theorem gh_binD_inv {f : Int64 → Int64 → Int64} {pc pc' : Nat} {l l' : gh_L} {st st' : List Value} {G G' : gh_H} (h : gh_binD f pc l st G = some (.inl (pc', l', st', G'))) : ∃ x y r, st = .long y :: .long x :: r ∧ ¬ y = 0 ∧ pc + 1 = pc' ∧ l = l' ∧ .long (f x y) :: r = st' ∧ G = G' := by
  unfold gh_binD at h
  split at h
  · split at h
    · cases h
    · next hy => exact ⟨_, _, _, rfl, hy, gh_go_inv h⟩
  · cases h
theorem gh_binZ_inv {f : Int32 → Int32 → Int32} {pc pc' : Nat} {l l' : gh_L} {st st' : List Value} {G G' : gh_H} (h : gh_binZ f pc l st G = some (.inl (pc', l', st', G'))) : ∃ x y r, st = .int y :: .int x :: r ∧ ¬ y = 0 ∧ pc + 1 = pc' ∧ l = l' ∧ .int (f x y) :: r = st' ∧ G = G' := by
  unfold gh_binZ at h
  split at h
  · split at h
    · cases h
    · next hy => exact ⟨_, _, _, rfl, hy, gh_go_inv h⟩
  · cases h
theorem gh_pop1_inv {p : Value → Bool} {k pc pc' : Nat} {l l' : gh_L} {st st' : List Value} {G G' : gh_H} (h : gh_pop1 p k pc l st G = some (.inl (pc', l', st', G'))) : ∃ v, st = v :: st' ∧ p v = true ∧ pc = pc' ∧ gh_st1 l k v = l' ∧ G = G' := by
  unfold gh_pop1 at h
  split at h
  · split at h
    · next hp =>
      obtain ⟨rfl, rfl, rfl, rfl⟩ := gh_go_inv h
      exact ⟨_, rfl, hp, rfl, rfl, rfl⟩
    · cases h
  · cases h
theorem gh_pop2_inv {k pc pc' : Nat} {l l' : gh_L} {st st' : List Value} {G G' : gh_H} (h : gh_pop2 k pc l st G = some (.inl (pc', l', st', G'))) : ∃ x, st = .long x :: st' ∧ pc = pc' ∧ gh_st2 l k (.long x) = l' ∧ G = G' := by
  unfold gh_pop2 at h
  split at h
  · obtain ⟨rfl, rfl, rfl, rfl⟩ := gh_go_inv h
    exact ⟨_, rfl, rfl, rfl, rfl⟩
  · cases h
theorem gh_jmp_inv {b : Bool} {pc len pc' : Nat} {off : Int} {l l' : gh_L} {st st' : List Value} {G G' : gh_H} (h : gh_jmp b pc len off l st G = some (.inl (pc', l', st', G'))) : (pc : Int) + off = (gh_tgt pc off : Int) ∧ (if b = true then gh_tgt pc off else pc + len) = pc' ∧ l = l' ∧ st = st' ∧ G = G' := by
  unfold gh_jmp at h
  split at h
  · next h0 => exact ⟨by unfold gh_tgt; omega, gh_go_inv h⟩
  · cases h
def gh_ilen (i : Instr) : Nat := match i with
  | .bipush _ | .ldc _ | .iload _ | .lload _ | .aload _ | .istore _ | .astore _ | .lstore _ | .newarray _ => 2
  | .sipush _ | .ldc_w _ | .ldc2_w _ | .iinc _ _ | .ifCond _ _ | .if_icmp _ _ | .goto _ | .getfield _ | .putfield _ | .new _ | .anewarray _ | .invokevirtual _ | .invokestatic _ | .invokespecial _ => 3
  | .tableswitch _ _ _ _ => 0
  | _ => 1
def gh_lenB (K : List (Nat × Instr × Nat)) : Bool := K.all fun e => match e.2.1 with
  | .tableswitch _ _ _ _ => true
  | _ => decide (e.2.2 = gh_ilen e.2.1)
section GS
variable {z : gh_Z} {p : Program} {l : Launch} {e : Env} {R : Room} {s : State} {m : MethodId} {args : Array Value} {below : List Frame} {meth : Method} {c : Code} {nL g0 z0 k0 y0 own : Nat} {Q : State → Prop} {cc : ByteArray} {rt : Option FieldType} {nm : String} {pc pc' : Nat} {lo lo' : gh_L} {st st' : List Value} {G G' : gh_H}
theorem gs_icmp (hx : p.tables.exec = Jvm.exec) (hb : c.code = cc) {cd : ClassFile.Cond} {off : Int} (hd : decode cc pc = .ok (.if_icmp cd off, 3)) {x y : Int32} {r : List Value} (ht : (pc : Int) + off = (gh_tgt pc off : Int))
    (k : gh_T z p l e R s m args below meth c nL g0 z0 Q k0 y0 (if gh_cmp cd x y = true then gh_tgt pc off else pc + 3) lo r G) : gh_T z p l e R s m args below meth c nL g0 z0 Q k0 y0 pc lo (.int y :: .int x :: r) G := by
  intro H locs ls hR hS hl
  have k := k H locs ls hR hS hl
  cases cd with
  | eq => exact lv_icmp_eq hx hb hd ht (fun q => by simpa [gh_cmp, q] using k) (fun q => by simpa [gh_cmp, q] using k)
  | ne => exact lv_icmp_ne hx hb hd ht (fun q => by simpa [gh_cmp, q] using k) (fun q => by simpa [gh_cmp, q] using k)
  | lt => exact lv_icmp_lt hx hb hd ht (fun q => by simpa only [gh_cmp, q, decide_true, if_true] using k) (fun q => by simpa only [gh_cmp, q, decide_false, Bool.false_eq_true, if_false] using k)
  | ge => exact lv_icmp_ge hx hb hd ht (fun q => by simpa only [gh_cmp, q, decide_true, if_true] using k) (fun q => by simpa only [gh_cmp, q, decide_false, Bool.false_eq_true, if_false] using k)
  | gt => exact lv_icmp_gt hx hb hd ht (fun q => by simpa only [gh_cmp, q, decide_true, if_true] using k) (fun q => by simpa only [gh_cmp, q, decide_false, Bool.false_eq_true, if_false] using k)
  | le => exact lv_icmp_le hx hb hd ht (fun q => by simpa only [gh_cmp, q, decide_true, if_true] using k) (fun q => by simpa only [gh_cmp, q, decide_false, Bool.false_eq_true, if_false] using k)
theorem gs_if (hx : p.tables.exec = Jvm.exec) (hb : c.code = cc) {cd : ClassFile.Cond} {off : Int} (hd : decode cc pc = .ok (.ifCond cd off, 3)) {x : Int32} {r : List Value} (ht : (pc : Int) + off = (gh_tgt pc off : Int))
    (k : gh_T z p l e R s m args below meth c nL g0 z0 Q k0 y0 (if gh_cmp cd x 0 = true then gh_tgt pc off else pc + 3) lo r G) : gh_T z p l e R s m args below meth c nL g0 z0 Q k0 y0 pc lo (.int x :: r) G := by
  intro H locs ls hR hS hl
  have k := k H locs ls hR hS hl
  cases cd with
  | eq => exact lv_if_eq hx hb hd ht (fun q => by simpa [gh_cmp, q] using k) (fun q => by simpa [gh_cmp, q] using k)
  | ne => exact lv_if_ne hx hb hd ht (fun q => by simpa [gh_cmp, q] using k) (fun q => by simpa [gh_cmp, q] using k)
  | lt => exact lv_if_lt hx hb hd ht (fun q => by simpa only [gh_cmp, q, decide_true, if_true] using k) (fun q => by simpa only [gh_cmp, q, decide_false, Bool.false_eq_true, if_false] using k)
  | ge => exact lv_if_ge hx hb hd ht (fun q => by simpa only [gh_cmp, q, decide_true, if_true] using k) (fun q => by simpa only [gh_cmp, q, decide_false, Bool.false_eq_true, if_false] using k)
  | gt => exact lv_if_gt hx hb hd ht (fun q => by simpa only [gh_cmp, q, decide_true, if_true] using k) (fun q => by simpa only [gh_cmp, q, decide_false, Bool.false_eq_true, if_false] using k)
  | le => exact lv_if_le hx hb hd ht (fun q => by simpa only [gh_cmp, q, decide_true, if_true] using k) (fun q => by simpa only [gh_cmp, q, decide_false, Bool.false_eq_true, if_false] using k)
theorem gs_sw (hx : p.tables.exec = Jvm.exec) (hb : c.code = cc) {dflt lw hi : Int} {offs : Array Int} {len : Nat} (hd : decode cc pc = .ok (.tableswitch dflt lw hi offs, len)) (h : gh_sw dflt lw hi offs pc lo st G = some (.inl (pc', lo', st', G')))
    (k : gh_T z p l e R s m args below meth c nL g0 z0 Q k0 y0 pc' lo' st' G') : gh_T z p l e R s m args below meth c nL g0 z0 Q k0 y0 pc lo st G := by
  unfold gh_sw at h
  split at h
  · next x r =>
    split at h
    · next hn =>
      split at h
      · next h0 =>
        obtain ⟨rfl, rfl, rfl, rfl⟩ := gh_go_inv h
        exact fun H locs ls hR hS hl => lv_tableOut hx hb hd hn (by unfold gh_tgt; omega) (k H locs ls hR hS hl)
      · cases h
    · next hn =>
      split at h
      · next off ho =>
        split at h
        · next h0 =>
          obtain ⟨rfl, rfl, rfl, rfl⟩ := gh_go_inv h
          exact fun H locs ls hR hS hl => lv_tableIn hx hb hd (fun q => hn (Or.inl q)) (fun q => hn (Or.inr q)) ho (by unfold gh_tgt; omega) (k H locs ls hR hS hl)
        · cases h
      · cases h
  · cases h
end GS
end
section
/-! EACH GHOST STEP IS A STEP OF THE MACHINE (the heap) -/
theorem gh_look {β : Type} {k : Nat} {v : β} : ∀ {l : List (Nat × β)}, l.lookup k = some v → (k, v) ∈ l := by
  intro l
  induction l with
  | nil => intro h; cases h
  | cons q l ih =>
    intro h
    obtain ⟨k', v'⟩ := q
    rw [List.lookup_cons] at h
    by_cases hk : k == k'
    · rw [hk] at h
      cases h
      rw [beq_iff_eq.mp hk]
      exact List.mem_cons_self
    · rw [Bool.not_eq_true] at hk
      rw [hk] at h
      exact List.mem_cons_of_mem _ (ih h)
theorem gh_fAll (own : Nat) (e : Nat × Nat × Nat) (h : e ∈ gh_ft.getD own []) : gh_fOK own e := by
  match own, h with
  | 0, h => exact gh_f0 e h
  | 1, h => exact gh_f1 e h
  | 2, h => exact gh_f2 e h
  | 3, h => exact gh_f3 e h
  | 4, h => exact gh_f4 e h
  | 5, h => exact gh_f5 e h
  | 6, h => exact gh_f6 e h
  | 7, h => exact gh_f7 e h
  | 8, h => exact gh_f8 e h
  | 9, h => exact gh_f9 e h
  | 10, h => exact gh_f10 e h
  | 11, h => exact gh_f11 e h
  | 12, h => exact gh_f12 e h
  | k + 13, h => exact absurd h (by simp [gh_ft])
theorem gh_cAll (own : Nat) (e : Nat × Nat) (h : e ∈ gh_crt.getD own []) : gh_cOK own e := by
  match own, h with
  | 0, h => exact gh_k0 e h
  | 1, h => exact gh_k1 e h
  | 2, h => exact gh_k2 e h
  | 3, h => exact gh_k3 e h
  | 4, h => exact gh_k4 e h
  | 5, h => exact gh_k5 e h
  | 6, h => exact gh_k6 e h
  | 7, h => exact gh_k7 e h
  | 8, h => exact gh_k8 e h
  | 9, h => exact gh_k9 e h
  | 10, h => exact gh_k10 e h
  | 11, h => exact gh_k11 e h
  | 12, h => exact gh_k12 e h
  | k + 13, h => exact absurd h (by simp [gh_crt])
theorem gh_iAll (own : Nat) (e : Nat × Int32) (h : e ∈ gh_irt.getD own []) : Cond.constant (gh_on own) e.1 e.2 ∈ gh_wsG := by
  match own, h with
  | 0, h => exact gh_ic0 e h
  | 1, h => exact gh_ic1 e h
  | 2, h => exact gh_ic2 e h
  | 3, h => exact gh_ic3 e h
  | 4, h => exact gh_ic4 e h
  | 5, h => exact gh_ic5 e h
  | 6, h => exact gh_ic6 e h
  | 7, h => exact gh_ic7 e h
  | 8, h => exact gh_ic8 e h
  | 9, h => exact gh_ic9 e h
  | 10, h => exact gh_ic10 e h
  | 11, h => exact gh_ic11 e h
  | 12, h => exact gh_ic12 e h
  | k + 13, h => exact absurd h (by simp [gh_irt])
theorem gh_jAll (own : Nat) (e : Nat × Int64) (h : e ∈ gh_jrt.getD own []) : Cond.constantLong (gh_on own) e.1 e.2 ∈ gh_wsG := by
  match own, h with
  | 0, h => exact gh_jc0 e h
  | 1, h => exact gh_jc1 e h
  | 2, h => exact gh_jc2 e h
  | 3, h => exact gh_jc3 e h
  | 4, h => exact gh_jc4 e h
  | 5, h => exact gh_jc5 e h
  | 6, h => exact gh_jc6 e h
  | 7, h => exact gh_jc7 e h
  | 8, h => exact gh_jc8 e h
  | 9, h => exact gh_jc9 e h
  | 10, h => exact gh_jc10 e h
  | 11, h => exact gh_jc11 e h
  | 12, h => exact gh_jc12 e h
  | k + 13, h => exact absurd h (by simp [gh_jrt])
theorem gh_oAll (own : Nat) (e : Nat) (h : e ∈ gh_ort.getD own []) : Cond.methodLink (gh_on own) e objectInit ∈ gh_wsG := by
  match own, h with
  | 0, h => exact gh_o0 e h
  | 1, h => exact gh_o1 e h
  | 2, h => exact gh_o2 e h
  | 3, h => exact gh_o3 e h
  | 4, h => exact gh_o4 e h
  | 5, h => exact gh_o5 e h
  | 6, h => exact gh_o6 e h
  | 7, h => exact gh_o7 e h
  | 8, h => exact gh_o8 e h
  | 9, h => exact gh_o9 e h
  | 10, h => exact gh_o10 e h
  | 11, h => exact gh_o11 e h
  | 12, h => exact gh_o12 e h
  | k + 13, h => exact absurd h (by simp [gh_ort])
theorem gh_aAll (own : Nat) (e : Nat) (h : e ∈ gh_art.getD own []) : Cond.methodLink (gh_on own) e arraycopyName ∈ gh_wsG := by
  match own, h with
  | 0, h => exact gh_a0 e h
  | 1, h => exact gh_a1 e h
  | 2, h => exact gh_a2 e h
  | 3, h => exact gh_a3 e h
  | 4, h => exact gh_a4 e h
  | 5, h => exact gh_a5 e h
  | 6, h => exact gh_a6 e h
  | 7, h => exact gh_a7 e h
  | 8, h => exact gh_a8 e h
  | 9, h => exact gh_a9 e h
  | 10, h => exact gh_a10 e h
  | 11, h => exact gh_a11 e h
  | 12, h => exact gh_a12 e h
  | k + 13, h => exact absurd h (by simp [gh_art])
theorem gh_tAll (own : Nat) (e : Nat × Nat) (h : e ∈ gh_trt.getD own []) : Cond.methodLink (gh_on own) e.1 (if e.2 = 0 then Lib.Math.max.name else Lib.Math.min.name) ∈ gh_wsG := by
  match own, h with
  | 0, h => exact gh_t0 e h
  | 1, h => exact gh_t1 e h
  | 2, h => exact gh_t2 e h
  | 3, h => exact gh_t3 e h
  | 4, h => exact gh_t4 e h
  | 5, h => exact gh_t5 e h
  | 6, h => exact gh_t6 e h
  | 7, h => exact gh_t7 e h
  | 8, h => exact gh_t8 e h
  | 9, h => exact gh_t9 e h
  | 10, h => exact gh_t10 e h
  | 11, h => exact gh_t11 e h
  | 12, h => exact gh_t12 e h
  | k + 13, h => exact absurd h (by simp [gh_trt])
theorem gh_cls (ci : Nat) (C : String) (T : u_T) (N : Nat) (h : vwCl[ci]? = some (C, T, N)) : ci < 9 ∧ (∀ w ∈ u_ws C T N, w ∈ gh_wsG) ∧ (∀ k, k < N → parseFieldDescriptor (T k).2.2.1 = some (gh_fty ci k)) ∧ (∀ a, a < N → ∀ b, b < N → a ≠ b → (T a).2.1 ≠ (T b).2.1) := by
  match ci, h with
  | 0, h => cases h; exact ⟨by omega, gh_c0, tyX0_ok, nmX0⟩
  | 1, h => cases h; exact ⟨by omega, gh_c1, tyX1_ok, nmX1⟩
  | 2, h => cases h; exact ⟨by omega, gh_c2, tyX2_ok, nmX2⟩
  | 3, h => cases h; exact ⟨by omega, gh_c3, tyX3_ok, nmX3⟩
  | 4, h => cases h; exact ⟨by omega, gh_c4, tyX4_ok, nmX4⟩
  | 5, h => cases h; exact ⟨by omega, gh_c5, tyX5_ok, nmX5⟩
  | 6, h => cases h; exact ⟨by omega, gh_c6, tyX6_ok, nmX6⟩
  | 7, h => cases h; exact ⟨by omega, gh_c7, tyX7_ok, nmX7⟩
  | k + 8, h => simp [vwCl] at h
theorem gh_at_inv {G : gh_H} {kd a : Nat} {vs : List Value} (h : gh_at G kd a = some vs) : G[a]? = some (kd, vs) := by
  unfold gh_at at h
  split at h
  · next k ws hg =>
    split at h
    · next hk => cases h; rw [hg, hk]
    · cases h
  · cases h
theorem gh_at0 {z : gh_Z} {G : gh_H} {H : Heap} (hR : gh_Rel z G H) {kd a : Nat} {vs : List Value} (h : G[a]? = some (kd, vs)) (hk : kd ≠ 20 ∧ kd ≠ 99) : a ≠ 0 := by
  rintro rfl
  rcases hR.2 with h0 | h0
  · rw [h0] at h
    cases h
    exact hk.1 rfl
  · rw [h0] at h
    cases h
    exact hk.2 rfl
theorem gh_ce_o (z : gh_Z) {ci : Nat} (vs : List Value) (h : ci < 9) : gh_ce z (ci, vs) = .inr (ci, vs.map (gh_em z)) := by
  unfold gh_ce
  simp only
  rw [if_neg (by omega), if_neg (by omega), if_neg (by omega), if_neg (by omega)]
theorem gh_sz_set {kd kd' : Nat} {vs vs' : List Value} : ∀ {G : gh_H} {a : Nat}, G[a]? = some (kd, vs) → vs'.length = vs.length → gh_sz (G.set a (kd', vs')) = gh_sz G := by
  intro G
  induction G with
  | nil => intro a h; simp at h
  | cons d G ih =>
    intro a h hl
    cases a with
    | zero =>
      simp only [List.getElem?_cons_zero, Option.some.injEq] at h
      subst h
      simp [gh_sz, hl]
    | succ a =>
      have := ih (a := a) (by simpa using h) hl
      simp only [gh_sz, List.set_cons_succ, List.map_cons, List.sum_cons] at this ⊢
      omega
theorem gh_sz_push (G : gh_H) (kd : Nat) (vs : List Value) : gh_sz (G ++ [(kd, vs)]) = gh_sz G + vs.length := by
  simp [gh_sz]
theorem gh_fits_em (z : gh_Z) (ty : FieldType) (v : Value) : fits ty (gh_em z v) = fits ty v := by
  cases v <;> cases ty <;> rfl
theorem gh_narrow_em (z : gh_Z) {ty : FieldType} {v : Value} (h : narrow ty v = v) : narrow ty (gh_em z v) = gh_em z v := by
  cases v with
  | ref a => cases ty <;> rfl
  | int x => exact h
  | _ => cases ty <;> rfl
theorem gh_ix_in {i : Int32} {n : Nat} (h : gh_ix i n = true) : vp_in i n := by
  unfold gh_ix at h
  intro hq
  rcases hq with hq | hq <;> simp [hq] at h
theorem gh_ix_lt {i : Int32} {n : Nat} (h : vp_in i n) : i.toNatClampNeg < n := Nat.not_le.mp fun q => h (Or.inr q)
def gh_fin (ci k : Nat) : Bool := ((vwCl.getD ci ("", fun _ => ("", "", "", false), 0)).2.1 k).2.2.2
/-- a final field is written in a constructor of its own class alone -/
def gh_putB (own : Nat) (nm : String) (K : List (Nat × Instr × Nat)) : Bool := K.all fun e => match e.2.1 with
  | .putfield idx => match gh_fR own idx with
    | some (ci, k) => !gh_fin ci k || (decide (nm = "<init>") && decide ((vwCl.getD ci ("", fun _ => ("", "", "", false), 0)).1 = gh_on own))
    | none => true
  | _ => true
section GS
variable {z : gh_Z} {p : Program} {l : Launch} {e : Env} {R : Room} {s : State} {m : MethodId} {args : Array Value} {below : List Frame} {meth : Method} {c : Code} {nL g0 z0 k0 y0 own : Nat} {Q : State → Prop} {cc : ByteArray} {rt : Option FieldType} {nm : String} {pc pc' : Nat} {lo lo' : gh_L} {st st' : List Value} {G G' : gh_H}
theorem gh_T_at (k : gh_T z p l e R s m args below meth c nL g0 z0 Q k0 y0 pc lo st G') (h1 : G'.length = G.length) (h2 : gh_sz G' = gh_sz G) {H : Heap} {locs : List Loc} {ls : Array Slot} (hR : gh_Rel z G' H) (hS : va_S (gh_A z) s.heap H locs) (hl : lv_has ls nL (gh_lm z lo)) :
    W p l e R s m args below meth c H locs (G.length - g0 + k0) (gh_sz G - z0 + y0) Q (F0 m pc ls (st.map (gh_em z))) := by
  have := k H locs ls hR hS hl
  rw [h1, h2] at this
  exact this
theorem gs_get (hC : gh_Cx z p s m args meth c own cc nL rt nm) {idx ci k : Nat} (hf : gh_fR own idx = some (ci, k)) (hd : decode cc pc = .ok (.getfield idx, 3)) (h : gh_get ci k pc lo st G = some (.inl (pc', lo', st', G')))
    (kk : gh_T z p l e R s m args below meth c nL g0 z0 Q k0 y0 pc' lo' st' G') : gh_T z p l e R s m args below meth c nL g0 z0 Q k0 y0 pc lo st G := by
  obtain ⟨hx, hb, -, -, -, hown, hts, hKB, -⟩ := hC
  unfold gh_get at h
  split at h
  · next a r =>
    split at h
    · next vs hat =>
      split at h
      · next v hv =>
        obtain ⟨rfl, rfl, rfl, rfl⟩ := gh_go_inv h
        obtain ⟨C, T, N, hc, hk, hT, hl9⟩ := gh_fAll own _ (gh_look hf)
        obtain ⟨hci, hin, hty, hnm⟩ := gh_cls ci C T N hc
        intro H locs ls hR hS hl
        have hG := gh_at_inv hat
        have he := gh_W_get (z := z) hG (gh_at0 hR hG (by omega))
        rw [gh_ce_o z vs hci] at he
        have hv' : (vs.map (gh_em z))[k]? = some (gh_em z v) := by rw [List.getElem?_map, hv]; rfl
        have K := kk H locs ls hR hS hl
        rcases hl9 with ⟨h1, -⟩ | ⟨-, host, h1⟩ | ⟨-, -, h1 | ⟨host, h1⟩⟩
        · exact va_get hx hb hts hin hown hKB.1 hR.1 (a - 1) he hc k hk (hts _ h1) (fun _ q => q) hv' hd K
        · exact va_getN hx hb hts hin hown hKB.1 hR.1 (a - 1) he hc k hk (va_Nw.use rfl (hKB.2.2.2.2.1 _ h1)) (fun _ q => q) hv' hd K
        · exact va_get hx hb hts hin hown hKB.1 hR.1 (a - 1) he hc k hk (hts _ h1) (fun _ q => q) hv' hd K
        · exact va_getN hx hb hts hin hown hKB.1 hR.1 (a - 1) he hc k hk (va_Nw.use rfl (hKB.2.2.2.2.1 _ h1)) (fun _ q => q) hv' hd K
      · cases h
    · cases h
  · cases h
theorem gs_put (hC : gh_Cx z p s m args meth c own cc nL rt nm) {idx ci k : Nat} (hf : gh_fR own idx = some (ci, k)) (hfin : gh_fin ci k = true → nm = "<init>" ∧ (vwCl.getD ci ("", fun _ => ("", "", "", false), 0)).1 = gh_on own) (hd : decode cc pc = .ok (.putfield idx, 3)) (h : gh_put (gh_fty ci k) ci k pc lo st G = some (.inl (pc', lo', st', G')))
    (kk : gh_T z p l e R s m args below meth c nL g0 z0 Q k0 y0 pc' lo' st' G') : gh_T z p l e R s m args below meth c nL g0 z0 Q k0 y0 pc lo st G := by
  obtain ⟨hx, hb, -, -, -, hown, hts, hKB, hnm9⟩ := hC
  unfold gh_put at h
  split at h
  · next v a r =>
    split at h
    · next vs hat =>
      split at h
      · next hv =>
        obtain ⟨hkl, hfit, hnar⟩ := hv
        obtain ⟨rfl, rfl, rfl, rfl⟩ := gh_go_inv h
        obtain ⟨C, T, N, hc, hk, hT, hl9⟩ := gh_fAll own _ (gh_look hf)
        obtain ⟨hci, hin, hty, hnm⟩ := gh_cls ci C T N hc
        have hgd : vwCl.getD ci ("", fun _ => ("", "", "", false), 0) = (C, T, N) := by rw [List.getD_eq_getElem?_getD, hc]; rfl
        have hfi : gh_fin ci k = (T k).2.2.2 := by unfold gh_fin; rw [hgd]
        rw [hgd, hfi] at hfin
        intro H locs ls hR hS hl
        have hG := gh_at_inv hat
        have ha := gh_at0 hR hG (by omega)
        have he := gh_W_get (z := z) hG ha
        rw [gh_ce_o z vs hci] at he
        have hfit' : fits (gh_fty ci k) (gh_em z v) = true := by rw [gh_fits_em]; exact hfit
        have hnar' := gh_narrow_em z hnar
        have hkl' : k < (vs.map (gh_em z)).length := by rw [List.length_map]; exact hkl
        have K : ∀ (H1 : Heap) (locs1 : List Loc), va_P z.1 vwCl ((gh_W z G).set (a - 1) (gh_ad z a, .inr (ci, (vs.map (gh_em z)).set k (gh_em z v)))) H1 → va_D (gh_A z) ((gh_W z G).set (a - 1) (gh_ad z a, .inr (ci, (vs.map (gh_em z)).set k (gh_em z v)))) → va_S (gh_A z) s.heap H1 locs1 →
            W p l e R s m args below meth c H1 locs1 (G.length - g0 + k0) (gh_sz G - z0 + y0) Q (F0 m (pc + 3) ls (r.map (gh_em z))) := by
          intro H1 locs1 hP1 _ hS1
          refine gh_T_at kk (List.length_set ..) (gh_sz_set hG (List.length_set ..)) ⟨?_, ?_⟩ hS1 hl
          · rw [gh_W_set ha, gh_ce_o z _ hci, List.map_set]
            exact hP1
          · rw [List.getElem?_set_ne ha]
            exact hR.2
        by_cases hf9 : (T k).2.2.2 = true
        · obtain ⟨hn9, hC9⟩ := hfin hf9
          rcases hl9 with ⟨h1, -⟩ | ⟨h1, -⟩ | ⟨-, h1, -⟩
          · exact va_putF hx hb hts hin (gh_fty ci) hty hnm hown hKB.1 hR.1 (gh_W_D z G) hS (a - 1) he hc k hk (hts _ h1) (fun _ q => q) hf9 (hnm9.trans hn9) (hT.trans hC9) (hty k hk) hnar' hfit' hkl' hd K
          · rw [h1] at hf9; cases hf9
          · exact absurd hC9 h1
        · rw [Bool.not_eq_true] at hf9
          rcases hl9 with ⟨h1, -⟩ | ⟨-, host, h1⟩ | ⟨h1, -⟩
          · exact va_put hx hb hts hin (gh_fty ci) hty hnm hown hKB.1 hR.1 (gh_W_D z G) hS (a - 1) he hc k hk (hts _ h1) (fun _ q => q) hf9 (hty k hk) hnar' hfit' hkl' hd K
          · exact va_putN hx hb hts hin (gh_fty ci) hty hnm hown hKB.1 hR.1 (gh_W_D z G) hS (a - 1) he hc k hk (va_Nw.use rfl (hKB.2.2.2.2.1 _ h1)) (fun _ q => q) hf9 (hty k hk) hnar' hfit' hkl' hd K
          · rw [h1] at hf9; cases hf9
      · cases h
    · cases h
  · cases h
theorem gh_scr (xs : List Int32) (i : Nat) : gh_toI ((xs.map Value.int).getD i .null) = xs.getD i 0 := by
  rw [List.getD_eq_getElem?_getD, List.getD_eq_getElem?_getD, List.getElem?_map]
  cases xs[i]? <;> rfl
theorem gh_em_int (z : gh_Z) (x : Int32) : gh_em z (.int x) = .int x := rfl
theorem gh_ald_inv {f : Value → Value} {kd : Nat} (h : gh_ald kd pc f lo st G = some (.inl (pc', lo', st', G'))) : ∃ i a r vs, st = .int i :: .ref a :: r ∧ G[a]? = some (kd, vs) ∧ vp_in i vs.length ∧ pc + 1 = pc' ∧ lo = lo' ∧ f (vs.getD i.toNatClampNeg .null) :: r = st' ∧ G = G' := by
  unfold gh_ald at h
  split at h
  · split at h
    · next vs hat =>
      split at h
      · next hi => exact ⟨_, _, _, _, rfl, gh_at_inv hat, gh_ix_in hi, gh_go_inv h⟩
      · cases h
    · cases h
  · cases h
theorem gh_ast_inv {f : Value → Bool} {kd : Nat} (h : gh_ast kd pc f lo st G = some (.inl (pc', lo', st', G'))) : ∃ v i a vs, st = v :: .int i :: .ref a :: st' ∧ G[a]? = some (kd, vs) ∧ a ≠ 0 ∧ vp_in i vs.length ∧ f v = true ∧ pc + 1 = pc' ∧ lo = lo' ∧ G.set a (kd, vs.set i.toNatClampNeg v) = G' := by
  unfold gh_ast at h
  split at h
  · split at h
    · next vs hat =>
      split at h
      · cases h
      · next ha =>
        split at h
        · next hi =>
          obtain ⟨rfl, rfl, rfl, rfl⟩ := gh_go_inv h
          exact ⟨_, _, _, _, rfl, gh_at_inv hat, ha, gh_ix_in hi.1, hi.2, rfl, rfl, rfl⟩
        · cases h
    · cases h
  · cases h
theorem gs_iald (hC : gh_Cx z p s m args meth c own cc nL rt nm) (hd : decode cc pc = .ok (.iaload, 1)) (h : gh_ald 20 pc (fun v => .int (gh_toI v)) lo st G = some (.inl (pc', lo', st', G')))
    (kk : gh_T z p l e R s m args below meth c nL g0 z0 Q k0 y0 pc' lo' st' G') : gh_T z p l e R s m args below meth c nL g0 z0 Q k0 y0 pc lo st G := by
  obtain ⟨hx, hb, -, -, -, hown, hts, hKB, -⟩ := hC
  obtain ⟨i, a, r, vs, rfl, hG, hi, rfl, rfl, rfl, rfl⟩ := gh_ald_inv h
  intro H locs ls hR hS hl
  have K := kk H locs ls hR hS hl
  by_cases ha : a = 0
  · subst ha
    have h0 : G[0]? = some (20, z.2.2.2.2.map .int) := by
      rcases hR.2 with h0 | h0
      · exact h0
      · rw [h0] at hG; cases hG
    rw [h0] at hG
    cases hG
    rw [List.length_map] at hi
    simp only [List.map_cons, gh_em_int, gh_scr] at K
    exact va_sld hx hb hKB.2.1 (Nat.lt_of_lt_of_le hKB.2.2.1 hKB.2.2.2.1) (Nat.not_le.mpr hKB.2.2.1) hS hi hd K
  · exact va_iald hx hb hKB.1 hR.1 (a - 1) 0 (gh_W_get hG ha) rfl hi hd K
theorem gs_lald (hC : gh_Cx z p s m args meth c own cc nL rt nm) (hd : decode cc pc = .ok (.laload, 1)) (h : gh_ald 21 pc (fun v => .long (gh_toJ v)) lo st G = some (.inl (pc', lo', st', G')))
    (kk : gh_T z p l e R s m args below meth c nL g0 z0 Q k0 y0 pc' lo' st' G') : gh_T z p l e R s m args below meth c nL g0 z0 Q k0 y0 pc lo st G := by
  obtain ⟨hx, hb, -, -, -, hown, hts, hKB, -⟩ := hC
  obtain ⟨i, a, r, vs, rfl, hG, hi, rfl, rfl, rfl, rfl⟩ := gh_ald_inv h
  intro H locs ls hR hS hl
  exact va_lald hx hb hKB.1 hR.1 (a - 1) 1 (gh_W_get hG (gh_at0 hR hG (by decide))) rfl hi hd (kk H locs ls hR hS hl)
theorem gs_zald (hC : gh_Cx z p s m args meth c own cc nL rt nm) (hd : decode cc pc = .ok (.baload, 1)) (h : gh_ald 22 pc (fun v => .int (gh_toI v)) lo st G = some (.inl (pc', lo', st', G')))
    (kk : gh_T z p l e R s m args below meth c nL g0 z0 Q k0 y0 pc' lo' st' G') : gh_T z p l e R s m args below meth c nL g0 z0 Q k0 y0 pc lo st G := by
  obtain ⟨hx, hb, -, -, -, hown, hts, hKB, -⟩ := hC
  obtain ⟨i, a, r, vs, rfl, hG, hi, rfl, rfl, rfl, rfl⟩ := gh_ald_inv h
  intro H locs ls hR hS hl
  exact va_zald hx hb hKB.1 hR.1 (a - 1) 2 (gh_W_get hG (gh_at0 hR hG (by decide))) rfl hi hd (kk H locs ls hR hS hl)
theorem gh_re_em (z : gh_Z) (v : Value) : va_rf (gh_re z v) = gh_em z (gh_toA v) := by cases v <;> rfl
theorem gs_aald (hC : gh_Cx z p s m args meth c own cc nL rt nm) (hd : decode cc pc = .ok (.aaload, 1)) (h : gh_ald 23 pc gh_toA lo st G = some (.inl (pc', lo', st', G')))
    (kk : gh_T z p l e R s m args below meth c nL g0 z0 Q k0 y0 pc' lo' st' G') : gh_T z p l e R s m args below meth c nL g0 z0 Q k0 y0 pc lo st G := by
  obtain ⟨hx, hb, -, -, -, hown, hts, hKB, -⟩ := hC
  obtain ⟨i, a, r, vs, rfl, hG, hi, rfl, rfl, rfl, rfl⟩ := gh_ald_inv h
  intro H locs ls hR hS hl
  have K := kk H locs ls hR hS hl
  rw [List.map_cons, ← gh_re_em] at K
  exact va_aldq hx hb hKB.1 hR.1 (a - 1) 3 (gh_W_get hG (gh_at0 hR hG (by decide))) rfl hi hd K
theorem gh_setI {vs : List Value} {i : Nat} (h : i < vs.length) (x : Int32) : (fun j => gh_toI ((vs.set i (.int x)).getD j .null)) = upd (fun j => gh_toI (vs.getD j .null)) i x := by
  funext j
  unfold upd
  simp only [List.getD_eq_getElem?_getD, List.getElem?_set]
  by_cases hj : j = i
  · subst hj
    simp [h, gh_toI]
  · simp [hj, Ne.symm hj]
theorem gh_setJ {vs : List Value} {i : Nat} (h : i < vs.length) (x : Int64) : (fun j => gh_toJ ((vs.set i (.long x)).getD j .null)) = vp_updL (fun j => gh_toJ (vs.getD j .null)) i x := by
  funext j
  unfold vp_updL
  simp only [List.getD_eq_getElem?_getD, List.getElem?_set]
  by_cases hj : j = i
  · subst hj
    simp [h, gh_toJ]
  · simp [hj, Ne.symm hj]
theorem gh_setA (z : gh_Z) {vs : List Value} {i : Nat} (h : i < vs.length) (b : Nat) : (fun j => gh_re z ((vs.set i (.ref b)).getD j .null)) = va_up (fun j => gh_re z (vs.getD j .null)) i (some (gh_ad z b)) := by
  funext j
  unfold va_up
  simp only [List.getD_eq_getElem?_getD, List.getElem?_set]
  by_cases hj : j = i
  · subst hj
    simp [h, gh_re]
  · simp [hj, Ne.symm hj]
/-- a store behind the kit's row -/
theorem gs_after {a kd : Nat} {vs vs' : List Value} (hG : G[a]? = some (kd, vs)) (ha : a ≠ 0) (hlen : vs'.length = vs.length) (kk : gh_T z p l e R s m args below meth c nL g0 z0 Q k0 y0 pc' lo st' (G.set a (kd, vs'))) {H : Heap} (hR : gh_Rel z G H) {ls : Array Slot} (hl : lv_has ls nL (gh_lm z lo)) {ce : va_E} (hce : gh_ce z (kd, vs') = ce) :
    ∀ (H1 : Heap) (locs1 : List Loc), va_P z.1 vwCl ((gh_W z G).set (a - 1) (gh_ad z a, ce)) H1 → va_D (gh_A z) ((gh_W z G).set (a - 1) (gh_ad z a, ce)) → va_S (gh_A z) s.heap H1 locs1 → W p l e R s m args below meth c H1 locs1 (G.length - g0 + k0) (gh_sz G - z0 + y0) Q (F0 m pc' ls (st'.map (gh_em z))) := by
  intro H1 locs1 hP1 _ hS1
  refine gh_T_at kk (List.length_set ..) (gh_sz_set hG hlen) ⟨?_, ?_⟩ hS1 hl
  · rw [gh_W_set ha, hce]
    exact hP1
  · rw [List.getElem?_set_ne ha]
    exact hR.2
theorem gs_iast (hC : gh_Cx z p s m args meth c own cc nL rt nm) (hd : decode cc pc = .ok (.iastore, 1)) (h : gh_ast 20 pc gh_isI lo st G = some (.inl (pc', lo', st', G')))
    (kk : gh_T z p l e R s m args below meth c nL g0 z0 Q k0 y0 pc' lo' st' G') : gh_T z p l e R s m args below meth c nL g0 z0 Q k0 y0 pc lo st G := by
  obtain ⟨hx, hb, -, -, -, hown, hts, hKB, -⟩ := hC
  obtain ⟨v, i, a, vs, rfl, hG, ha, hi, hv, rfl, rfl, rfl⟩ := gh_ast_inv h
  obtain ⟨x, rfl⟩ := gh_isI_inv hv
  intro H locs ls hR hS hl
  refine va_iast hx hb hKB.1 hR.1 (gh_W_D z G) hS (a - 1) 0 (gh_W_get hG ha) rfl hi hd (gs_after hG ha (List.length_set ..) kk hR hl ?_)
  rw [← gh_setI (gh_ix_lt hi) x]
  simp [gh_ce]
theorem gs_last (hC : gh_Cx z p s m args meth c own cc nL rt nm) (hd : decode cc pc = .ok (.lastore, 1)) (h : gh_ast 21 pc gh_isJ lo st G = some (.inl (pc', lo', st', G')))
    (kk : gh_T z p l e R s m args below meth c nL g0 z0 Q k0 y0 pc' lo' st' G') : gh_T z p l e R s m args below meth c nL g0 z0 Q k0 y0 pc lo st G := by
  obtain ⟨hx, hb, -, -, -, hown, hts, hKB, -⟩ := hC
  obtain ⟨v, i, a, vs, rfl, hG, ha, hi, hv, rfl, rfl, rfl⟩ := gh_ast_inv h
  obtain ⟨x, rfl⟩ := gh_isJ_inv hv
  intro H locs ls hR hS hl
  refine va_last hx hb hKB.1 hR.1 (gh_W_D z G) hS (a - 1) 1 (gh_W_get hG ha) rfl hi hd (gs_after hG ha (List.length_set ..) kk hR hl ?_)
  rw [← gh_setJ (gh_ix_lt hi) x]
  simp [gh_ce]
theorem gh_fz01 {v : Value} (h : fits .boolean v = true) : ∃ x, v = .int x ∧ vp_nar .boolean x = x := by
  cases v with
  | int x =>
    refine ⟨x, rfl, ?_⟩
    have h2 : (x == 0 || x == 1) = true := h
    rw [Bool.or_eq_true, beq_iff_eq, beq_iff_eq] at h2
    rcases h2 with rfl | rfl <;> rfl
  | _ => cases h
theorem gs_zast (hC : gh_Cx z p s m args meth c own cc nL rt nm) (hd : decode cc pc = .ok (.bastore, 1)) (h : gh_ast 22 pc (fun v => fits .boolean v) lo st G = some (.inl (pc', lo', st', G')))
    (kk : gh_T z p l e R s m args below meth c nL g0 z0 Q k0 y0 pc' lo' st' G') : gh_T z p l e R s m args below meth c nL g0 z0 Q k0 y0 pc lo st G := by
  obtain ⟨hx, hb, -, -, -, hown, hts, hKB, -⟩ := hC
  obtain ⟨v, i, a, vs, rfl, hG, ha, hi, hv, rfl, rfl, rfl⟩ := gh_ast_inv h
  obtain ⟨x, rfl, hx1⟩ := gh_fz01 hv
  intro H locs ls hR hS hl
  refine va_zast hx hb hKB.1 hR.1 (gh_W_D z G) hS (a - 1) 2 (gh_W_get hG ha) rfl hi hd (gs_after hG ha (List.length_set ..) kk hR hl ?_)
  rw [hx1, ← gh_setI (gh_ix_lt hi) x]
  simp [gh_ce]
theorem gs_aast (hC : gh_Cx z p s m args meth c own cc nL rt nm) (hd : decode cc pc = .ok (.aastore, 1)) (h : gh_ast 23 pc (fun v => match v with | .ref a => decide (a ≠ 0) && (gh_at G 1 a).isSome | _ => false) lo st G = some (.inl (pc', lo', st', G')))
    (kk : gh_T z p l e R s m args below meth c nL g0 z0 Q k0 y0 pc' lo' st' G') : gh_T z p l e R s m args below meth c nL g0 z0 Q k0 y0 pc lo st G := by
  obtain ⟨hx, hb, -, -, -, hown, hts, hKB, -⟩ := hC
  obtain ⟨v, i, a, vs, rfl, hG, ha, hi, hv, rfl, rfl, rfl⟩ := gh_ast_inv h
  cases v with
  | ref b =>
    simp only [Bool.and_eq_true, decide_eq_true_eq, Option.isSome_iff_exists] at hv
    obtain ⟨hb0, ws, hw⟩ := hv
    have hGb := gh_at_inv hw
    intro H locs ls hR hS hl
    have hv9 := gh_W_get (z := z) hGb hb0
    rw [gh_ce_o z ws (by omega)] at hv9
    refine va_astq (r := (RX1, TX1, 11)) hx hb hKB.1 hR.1 (gh_W_D z G) hS (a - 1) 3 (b - 1) 1 (gh_W_get hG ha) rfl hv9 rfl hi hd (gs_after hG ha (List.length_set ..) kk hR hl ?_)
    rw [← gh_setA z (gh_ix_lt hi) b]
    simp [gh_ce]
  | _ => cases hv
theorem gs_len (hC : gh_Cx z p s m args meth c own cc nL rt nm) (hd : decode cc pc = .ok (.arraylength, 1)) (h : gh_len pc lo st G = some (.inl (pc', lo', st', G')))
    (kk : gh_T z p l e R s m args below meth c nL g0 z0 Q k0 y0 pc' lo' st' G') : gh_T z p l e R s m args below meth c nL g0 z0 Q k0 y0 pc lo st G := by
  obtain ⟨hx, hb, -, -, -, hown, hts, hKB, -⟩ := hC
  unfold gh_len at h
  split at h
  · next a r =>
    split at h
    · next kd vs hG =>
      split at h
      · next hk =>
        obtain ⟨rfl, rfl, rfl, rfl⟩ := gh_go_inv h
        intro H locs ls hR hS hl
        have K := kk H locs ls hR hS hl
        by_cases ha : a = 0
        · subst ha
          have h0 : G[0]? = some (20, z.2.2.2.2.map .int) := by
            rcases hR.2 with h0 | h0
            · exact h0
            · rw [h0] at hG
              cases hG
              rcases hk with hk | ⟨hk, -⟩
              · cases hk
              · exact absurd rfl hk
          rw [h0] at hG
          cases hG
          rw [List.length_map] at K
          exact va_slen hx hb hKB.2.1 (Nat.lt_of_lt_of_le hKB.2.2.1 hKB.2.2.2.1) (Nat.not_le.mpr hKB.2.2.1) hS hd K
        · rcases hk with rfl | ⟨-, rfl | rfl⟩
          · exact va_alen hx hb hKB.1 hR.1 (a - 1) 0 (gh_W_get hG ha) rfl rfl hd K
          · exact va_alen hx hb hKB.1 hR.1 (a - 1) 1 (gh_W_get hG ha) rfl rfl hd K
          · exact va_alen hx hb hKB.1 hR.1 (a - 1) 3 (gh_W_get hG ha) rfl rfl hd K
      · cases h
    · cases h
  · cases h
end GS
end
section
/-! EACH GHOST STEP IS A STEP OF THE MACHINE (making cells; the JDK's own methods; the step whole) -/
section GS
variable {z : gh_Z} {p : Program} {l : Launch} {e : Env} {R : Room} {s : State} {m : MethodId} {args : Array Value} {below : List Frame} {meth : Method} {c : Code} {nL g0 z0 k0 y0 own : Nat} {Q : State → Prop} {cc : ByteArray} {rt : Option FieldType} {nm : String} {pc pc' : Nat} {lo lo' : gh_L} {st st' : List Value} {G G' : gh_H}
/-- where a new cell lies: the heap ends where the ghost heap ends -/
theorem gh_new_at {H1 : Heap} {q : Nat} {ce : va_E} {T : State} {locs1 : List Loc} {cells slots : Nat} (he0 : s.heap.size + 1 = z.2.2.2.1 + g0) (hg : g0 ≤ G.length) (hP : va_P z.1 vwCl (gh_W z G ++ [(q, ce)]) H1) (hD : va_D (gh_A z) (gh_W z G ++ [(q, ce)])) (hT : T.heap = H1) (X : Stand p l e R s m args below meth c T locs1 cells slots) (hc : cells = G.length - g0 + 1) (hG1 : 1 ≤ G.length) : q = gh_ad z G.length := by
  have hlen : (gh_W z G).length = G.length - 1 := by
    unfold gh_W
    have : ∀ (G : gh_H) (i : Nat), (gh_ws z i G).length = G.length := by
      intro G
      induction G with
      | nil => intro i; rfl
      | cons c G ih => intro i; simp [gh_ws, ih]
    rw [this, List.length_drop]
  have hq : (gh_W z G ++ [(q, ce)])[G.length - 1]? = some (q, ce) := by
    rw [List.getElem?_append_right (by omega), hlen, Nat.sub_self]
    rfl
  have hlt : q < H1.size := (hP _ _ hq).lt
  have hbase : z.2.2.2.1 ≤ q := hD.2 _ _ hq
  have hup : H1.size ≤ s.heap.size + cells := by
    have h := X.same.2.2.1
    rw [← hT]
    exact h
  have hne : ∀ k, k + 1 < G.length → q ≠ z.2.2.2.1 + k := by
    intro k hk he
    have hk2 : (gh_W z G ++ [(q, ce)])[k]? = (gh_W z G)[k]? := List.getElem?_append_left (by omega)
    have h3 : (gh_W z G)[k]? = some ((gh_W z G)[k]'(by omega)) := List.getElem?_eq_getElem (by omega)
    have h4 := h3
    unfold gh_W at h4
    rw [gh_ws_get] at h4
    obtain ⟨d, -, hd⟩ := Option.map_eq_some_iff.mp h4
    have h5 : ((gh_W z G)[k]'(by omega)).1 = z.2.2.2.1 + k := by
      have : ((gh_W z G)[k]'(by omega)) = (gh_ad z (1 + k), gh_ce z d) := hd.symm
      rw [this]
      show gh_ad z (1 + k) = _
      unfold gh_ad
      rw [if_neg (by omega)]
      omega
    have := hD.1 k (G.length - 1) _ _ (hk2.trans h3) hq (by rw [h5]; exact he.symm)
    omega
  have h6 : q = z.2.2.2.1 + (G.length - 1) := by
    by_cases h7 : q - z.2.2.2.1 + 1 < G.length
    · exact absurd (by omega) (hne (q - z.2.2.2.1) h7)
    · omega
  rw [h6]
  unfold gh_ad
  rw [if_neg (by omega)]
theorem gh_T_push {kd : Nat} {vs : List Value} (he0 : s.heap.size + 1 = z.2.2.2.1 + g0) (hg : g0 ≤ G.length) (hz : z0 ≤ gh_sz G) (hG0 : G[0]? = some (20, z.2.2.2.2.map .int) ∨ G[0]? = some (99, []))
    (kk : gh_T z p l e R s m args below meth c nL g0 z0 Q 0 0 pc' lo (.ref G.length :: st) (G ++ [(kd, vs)])) {H1 : Heap} {q : Nat} {locs : List Loc} {ls : Array Slot} (hP : va_P z.1 vwCl (gh_W z G ++ [(q, gh_ce z (kd, vs))]) H1) (hD : va_D (gh_A z) (gh_W z G ++ [(q, gh_ce z (kd, vs))])) (hS : va_S (gh_A z) s.heap H1 locs) (hl : lv_has ls nL (gh_lm z lo)) :
    W p l e R s m args below meth c H1 locs (G.length - g0 + 1) (gh_sz G - z0 + vs.length) Q (F0 m pc' ls (.ref q :: st.map (gh_em z))) := by
  intro T hT X
  have hG1 : 1 ≤ G.length := by
    cases G with
    | nil => rcases hG0 with h | h <;> cases h
    | cons _ _ => simp
  have hq := gh_new_at he0 hg hP hD hT X rfl hG1
  subst hq
  have K := kk H1 locs ls ⟨by rw [gh_W_push hG1]; exact hP, by rw [List.getElem?_append_left (by omega)]; exact hG0⟩ hS hl
  rw [List.length_append, gh_sz_push, Nat.add_zero, Nat.add_zero, show (G.length + [(kd, vs)].length) - g0 = G.length - g0 + 1 by simp; omega, show gh_sz G + vs.length - z0 = gh_sz G - z0 + vs.length by omega] at K
  exact K T hT X
theorem gs_new (hC : gh_Cx z p s m args meth c own cc nL rt nm) {idx : Nat} {fz : Bool} (hd : decode cc pc = .ok (.new idx, 3)) (h : gh_new fz own idx pc lo st G = some (.inl (pc', lo', st', G'))) (he0 : fz = false → s.heap.size + 1 = z.2.2.2.1 + g0 ∧ k0 = 0 ∧ y0 = 0) (hg : g0 ≤ G.length) (hz : z0 ≤ gh_sz G) (hrc : G'.length - g0 + k0 ≤ R.cells) (hrs : gh_sz G' - z0 + y0 ≤ R.slots)
    (kk : gh_T z p l e R s m args below meth c nL g0 z0 Q k0 y0 pc' lo' st' G') : gh_T z p l e R s m args below meth c nL g0 z0 Q k0 y0 pc lo st G := by
  obtain ⟨hx, hb, -, -, -, hown, hts, hKB, -⟩ := hC
  unfold gh_new at h
  split at h
  · split at h <;> cases h
  · split at h
    · next ci hcr =>
      split at h
      · next hfz =>
        obtain ⟨rfl, rfl, rfl, rfl⟩ := gh_go_inv h
        obtain ⟨hE, rfl, rfl⟩ := he0 hfz
        obtain ⟨C, T, N, hc, h1, h2, h3⟩ := gh_cAll own _ (gh_look hcr)
        obtain ⟨hci, hin, hty, hnm⟩ := gh_cls ci C T N hc
        have hdf : gh_dfl ci = (List.range N).map (fun j => defaultValue (gh_fty ci j)) := by
          unfold gh_dfl
          rw [List.getD_eq_getElem?_getD, hc]
          rfl
        have hdl : (gh_dfl ci).length = N := by rw [hdf]; simp
        have hem : (gh_dfl ci).map (gh_em z) = gh_dfl ci := by
          rw [hdf, List.map_map]
          refine List.map_congr_left fun j _ => ?_
          show gh_em z (defaultValue (gh_fty ci j)) = _
          cases gh_fty ci j <;> rfl
        have hG1 : ∀ {H : Heap}, gh_Rel z G H → 1 ≤ G.length := by
          intro H hR
          cases G with
          | nil => rcases hR.2 with h | h <;> cases h
          | cons _ _ => simp
        intro H locs ls hR hS hl
        have := hG1 hR
        rw [List.length_append, List.length_singleton] at hrc
        rw [gh_sz_push, hdl] at hrs
        refine va_new hx hb hts hin (gh_fty ci) hty hown (hts _ h1) (hts _ h2) (hts _ h3) hKB.1 hR.1 (gh_W_D z G) hS (fun q hq => Nat.le_trans hKB.2.2.2.1 hq) hc (fs := gh_dfl ci) (fun j hj => ?_) (by omega) (by omega) hd (fun q H1 hP hD hS1 => ?_)
        · rw [hdf]
          unfold vp_V
          rw [List.getD_eq_getElem?_getD, List.getElem?_map, List.getElem?_range hj]
          rfl
        · have K := gh_T_push (kd := ci) (vs := gh_dfl ci) hE hg hz hR.2 kk (H1 := H1) (q := q) (locs := locs) (ls := ls) (by rw [gh_ce_o z _ hci, hem]; exact hP) (by rw [gh_ce_o z _ hci, hem]; exact hD) hS1 hl
          rw [hdl] at K
          exact K
      · cases h
    · cases h
theorem gh_newa_inv {fz : Bool} {kv : Option (Nat × Value)} (h : gh_newa fz kv pc lo st G = some (.inl (pc', lo', st', G'))) : ∃ kd v n r, kv = some (kd, v) ∧ st = .int n :: r ∧ fz = false ∧ ¬ n < 0 ∧ n.toNatClampNeg ≤ 10000 ∧ pc = pc' ∧ lo = lo' ∧ .ref G.length :: r = st' ∧ G ++ [(kd, List.replicate n.toNatClampNeg v)] = G' := by
  unfold gh_newa at h
  split at h
  · split at h
    · next hq => exact ⟨_, _, _, _, rfl, rfl, hq.1, hq.2.1, hq.2.2, gh_go_inv h⟩
    · cases h
  · cases h
theorem gh_repI (n : Nat) : (fun j => gh_toI ((List.replicate n (Value.int 0)).getD j .null)) = fun _ => 0 := by
  funext j
  rw [List.getD_eq_getElem?_getD, List.getElem?_replicate]
  split <;> rfl
theorem gh_repJ (n : Nat) : (fun j => gh_toJ ((List.replicate n (Value.long 0)).getD j .null)) = fun _ => 0 := by
  funext j
  rw [List.getD_eq_getElem?_getD, List.getElem?_replicate]
  split <;> rfl
theorem gh_repA (z : gh_Z) (n : Nat) : (fun j => gh_re z ((List.replicate n Value.null).getD j .null)) = fun _ => none := by
  funext j
  rw [List.getD_eq_getElem?_getD, List.getElem?_replicate]
  split <;> rfl
theorem gs_newa (hC : gh_Cx z p s m args meth c own cc nL rt nm) {t : ArrayType} {fz : Bool} (hd : decode cc pc = .ok (.newarray t, 2)) (h : gh_newa fz (gh_kd t) (pc + 2) lo st G = some (.inl (pc', lo', st', G'))) (he0 : fz = false → s.heap.size + 1 = z.2.2.2.1 + g0 ∧ k0 = 0 ∧ y0 = 0) (hg : g0 ≤ G.length) (hz : z0 ≤ gh_sz G) (hrc : G'.length - g0 + k0 ≤ R.cells) (hrs : gh_sz G' - z0 + y0 ≤ R.slots)
    (kk : gh_T z p l e R s m args below meth c nL g0 z0 Q k0 y0 pc' lo' st' G') : gh_T z p l e R s m args below meth c nL g0 z0 Q k0 y0 pc lo st G := by
  obtain ⟨hx, hb, -, -, -, hown, hts, hKB, -⟩ := hC
  obtain ⟨kd, v, n, r, hkv, rfl, hfz, hn0, hn1, rfl, rfl, rfl, rfl⟩ := gh_newa_inv h
  obtain ⟨hE, rfl, rfl⟩ := he0 hfz
  intro H locs ls hR hS hl
  rw [List.length_append, List.length_singleton] at hrc
  rw [gh_sz_push, List.length_replicate] at hrs
  have K : ∀ (q : Nat) (H1 : Heap), va_P z.1 vwCl (gh_W z G ++ [(q, gh_ce z (kd, List.replicate n.toNatClampNeg v))]) H1 → va_D (gh_A z) (gh_W z G ++ [(q, gh_ce z (kd, List.replicate n.toNatClampNeg v))]) → va_S (gh_A z) s.heap H1 locs →
      W p l e R s m args below meth c H1 locs (G.length - g0 + 1) (gh_sz G - z0 + n.toNatClampNeg) Q (F0 m (pc + 2) ls (.ref q :: r.map (gh_em z))) := by
    intro q H1 hP hD hS1
    have K := gh_T_push hE hg hz hR.2 kk hP hD hS1 hl
    rw [List.length_replicate] at K
    exact K
  have hA : ∀ q, s.heap.size ≤ q → gh_A z q := fun q hq => Nat.le_trans hKB.2.2.2.1 hq
  cases t with
  | int =>
    cases hkv
    refine va_newa (atype := .int) (ty := .int) (a0 := (n.toNatClampNeg, .inl (fun _ => 0))) hx hb (hts _ gh_ac_int) rfl hKB.1 hR.1 (gh_W_D z G) hS hA (fun _ => rfl) hn0 rfl (by show n.toNatClampNeg * 4 ≤ _; omega) (by omega) (by omega) hd (fun q cA H1 hK1 hP hD hS1 => ?_)
    have e1 : cA = z.2.1.1 := Option.some.inj ((va_nm_int (hK1.2 4 (cA, .int) rfl).2).symm.trans (va_nm_int (hKB.1.2 0 _ rfl).2))
    subst e1
    have ec : gh_ce z (20, List.replicate n.toNatClampNeg (Value.int 0)) = .inl (z.2.1.1, n.toNatClampNeg, .inl (fun _ => 0)) := by
      show (Sum.inl (z.2.1.1, (List.replicate n.toNatClampNeg (Value.int 0)).length, Sum.inl (fun j => gh_toI ((List.replicate n.toNatClampNeg (Value.int 0)).getD j .null))) : va_E) = _
      rw [gh_repI, List.length_replicate]
    exact K q H1 (by rw [ec]; exact hP) (by rw [ec]; exact hD) hS1
  | long =>
    cases hkv
    refine va_newa (atype := .long) (ty := .long) (a0 := (n.toNatClampNeg, .inr (.inl (fun _ => 0)))) hx hb (hts _ gh_ac_long) rfl hKB.1 hR.1 (gh_W_D z G) hS hA (fun _ => rfl) hn0 rfl (by show n.toNatClampNeg * 8 ≤ _; omega) (by omega) (by omega) hd (fun q cA H1 hK1 hP hD hS1 => ?_)
    have e1 : cA = z.2.1.2.1 := Option.some.inj ((va_nm_long (hK1.2 4 (cA, .long) rfl).2).symm.trans (va_nm_long (hKB.1.2 1 _ rfl).2))
    subst e1
    have ec : gh_ce z (21, List.replicate n.toNatClampNeg (Value.long 0)) = .inl (z.2.1.2.1, n.toNatClampNeg, .inr (.inl (fun _ => 0))) := by
      show (Sum.inl (z.2.1.2.1, (List.replicate n.toNatClampNeg (Value.long 0)).length, Sum.inr (Sum.inl (fun j => gh_toJ ((List.replicate n.toNatClampNeg (Value.long 0)).getD j .null)))) : va_E) = _
      rw [gh_repJ, List.length_replicate]
    exact K q H1 (by rw [ec]; exact hP) (by rw [ec]; exact hD) hS1
  | boolean =>
    cases hkv
    refine va_newa (atype := .boolean) (ty := .boolean) (a0 := (n.toNatClampNeg, .inl (fun _ => 0))) hx hb (hts _ gh_ac_boolean) rfl hKB.1 hR.1 (gh_W_D z G) hS hA (fun _ => rfl) hn0 rfl (by show n.toNatClampNeg * 1 ≤ _; omega) (by omega) (by omega) hd (fun q cA H1 hK1 hP hD hS1 => ?_)
    have e1 : cA = z.2.1.2.2.1 := Option.some.inj ((va_nm_boolean (hK1.2 4 (cA, .boolean) rfl).2).symm.trans (va_nm_boolean (hKB.1.2 2 _ rfl).2))
    subst e1
    have ec : gh_ce z (22, List.replicate n.toNatClampNeg (Value.int 0)) = .inl (z.2.1.2.2.1, n.toNatClampNeg, .inl (fun _ => 0)) := by
      show (Sum.inl (z.2.1.2.2.1, (List.replicate n.toNatClampNeg (Value.int 0)).length, Sum.inl (fun j => gh_toI ((List.replicate n.toNatClampNeg (Value.int 0)).getD j .null))) : va_E) = _
      rw [gh_repI, List.length_replicate]
    exact K q H1 (by rw [ec]; exact hP) (by rw [ec]; exact hD) hS1
  | _ => cases hkv
theorem gs_newq (hC : gh_Cx z p s m args meth c own cc nL rt nm) {idx : Nat} {fz : Bool} (he : gh_eR own idx = true) (hd : decode cc pc = .ok (.anewarray idx, 3)) (h : gh_newa fz (some (23, .null)) (pc + 3) lo st G = some (.inl (pc', lo', st', G'))) (he0 : fz = false → s.heap.size + 1 = z.2.2.2.1 + g0 ∧ k0 = 0 ∧ y0 = 0) (hg : g0 ≤ G.length) (hz : z0 ≤ gh_sz G) (hrc : G'.length - g0 + k0 ≤ R.cells) (hrs : gh_sz G' - z0 + y0 ≤ R.slots)
    (kk : gh_T z p l e R s m args below meth c nL g0 z0 Q k0 y0 pc' lo' st' G') : gh_T z p l e R s m args below meth c nL g0 z0 Q k0 y0 pc lo st G := by
  obtain ⟨hx, hb, -, -, -, hown, hts, hKB, -⟩ := hC
  obtain ⟨kd, v, n, r, hkv, rfl, hfz, hn0, hn1, rfl, rfl, rfl, rfl⟩ := gh_newa_inv h
  cases hkv
  obtain ⟨hE, rfl, rfl⟩ := he0 hfz
  intro H locs ls hR hS hl
  rw [List.length_append, List.length_singleton] at hrc
  rw [gh_sz_push, List.length_replicate] at hrs
  refine va_newq (C := RX1) hx hb hown (hts _ (gh_el own idx he).1) hKB.2.2.2.2.2.2.2.2.2 hKB.1 hR.1 (gh_W_D z G) hS (fun q hq => Nat.le_trans hKB.2.2.2.1 hq) hn0 rfl (by omega) (by omega) (by omega) hd (fun q cA H1 hK1 hP hD hS1 => ?_)
  have e1 : cA = z.2.1.2.2.2 := Option.some.inj ((va_nmO (hK1.2 4 (cA, .object RX1) rfl).2 rfl).symm.trans (va_nmO (hKB.1.2 3 _ rfl).2 rfl))
  subst e1
  have ec : gh_ce z (23, List.replicate n.toNatClampNeg Value.null) = .inl (z.2.1.2.2.2, n.toNatClampNeg, .inr (.inr (.inr (.inr (fun _ => none))))) := by
    show (Sum.inl (z.2.1.2.2.2, (List.replicate n.toNatClampNeg Value.null).length, Sum.inr (Sum.inr (Sum.inr (Sum.inr (fun j => gh_re z ((List.replicate n.toNatClampNeg Value.null).getD j .null)))))) : va_E) = _
    rw [gh_repA, List.length_replicate]
  have K := gh_T_push hE hg hz hR.2 kk (by rw [ec]; exact hP) (by rw [ec]; exact hD) hS1 hl
  rw [List.length_replicate] at K
  exact K
theorem gs_oinit (hC : gh_Cx z p s m args meth c own cc nL rt nm) {idx a : Nat} {r : List Value} (ho : gh_oR own idx = true) (hd : decode cc pc = .ok (.invokespecial idx, 3)) (hcat : gh_cat r ≤ 8) (hf : 1 ≤ R.frames) (hloc : 20 ≤ R.locals)
    (kk : gh_T z p l e R s m args below meth c nL g0 z0 Q k0 y0 (pc + 3) lo r G) : gh_T z p l e R s m args below meth c nL g0 z0 Q k0 y0 pc lo (.ref a :: r) G := by
  obtain ⟨hx, hb, hml, -, -, hown, hts, hKB, -⟩ := hC
  intro H locs ls hR hS hl
  have h1 := gh_oAll own idx (List.contains_iff_mem.mp ho)
  exact W.objInit hx hb hown (hts _ h1) (hts _ gh_oi) (hts _ gh_oc) rfl (by rw [hml]; exact hl.1) rfl hd hf (by rw [gh_es_cat]; show 2 * 0 + _ + 12 ≤ _; omega) (kk H locs ls hR hS hl)
theorem gs_mm (hC : gh_Cx z p s m args meth c own cc nL rt nm) {idx b : Nat} (ho : gh_tR own idx = some b) (hd : decode cc pc = .ok (.invokestatic idx, 3)) (h : gh_mm b pc lo st G = some (.inl (pc', lo', st', G'))) (hf : 1 ≤ R.frames) (hloc : 21 ≤ R.locals) (hcc : G.length - g0 + k0 ≤ R.cells) (hss : gh_sz G - z0 + y0 ≤ R.slots)
    (kk : gh_T z p l e R s m args below meth c nL g0 z0 Q k0 y0 pc' lo' st' G') : gh_T z p l e R s m args below meth c nL g0 z0 Q k0 y0 pc lo st G := by
  obtain ⟨hx, hb, hml, -, -, hown, hts, hKB, -⟩ := hC
  have h1 := gh_tAll own (idx, b) (gh_look ho)
  unfold gh_mm at h
  split at h
  · split at h
    · next hcat =>
      obtain ⟨rfl, rfl, rfl, rfl⟩ := gh_go_inv h
      intro H locs ls hR hS hl
      have K := kk H locs ls hR hS hl
      by_cases hb0 : b = 0
      · subst hb0
        exact va_mmax hx hb (by rw [hml, hl.1]) hown (hts _ h1) (hts _ gh_t_max) (hts _ gh_ti) (hts _ gh_tc_max) hf (by rw [gh_es_cat]; omega) hcc hss hd K
      · simp only [hb0, if_false] at h1 K
        exact va_mmin hx hb (by rw [hml, hl.1]) hown (hts _ h1) (hts _ gh_t_min) (hts _ gh_ti) (hts _ gh_tc_min) hf (by rw [gh_es_cat]; omega) hcc hss hd K
    · cases h
  · cases h
theorem gh_cpy_len (vs ws : List Value) (sp dp n : Nat) : (gh_cpy vs ws sp dp n).length = ws.length := by
  unfold gh_cpy
  simp
theorem gh_cpyF {α : Type} (f : Value → α) (d : f .null = f .null) (vs ws : List Value) (sp dp n : Nat) (h : dp + n ≤ ws.length) : (fun j => f ((gh_cpy vs ws sp dp n).getD j .null)) = va_cpy (fun j => f (vs.getD j .null)) (fun j => f (ws.getD j .null)) sp dp n := by
  funext j
  unfold gh_cpy va_cpy
  rw [List.getD_eq_getElem?_getD, List.getElem?_map]
  by_cases hj : j < ws.length
  · rw [List.getElem?_range hj]
    simp only [Option.map_some, Option.getD_some]
    by_cases hk : dp ≤ j ∧ j < dp + n
    · rw [if_pos hk, if_pos hk]
    · rw [if_neg hk, if_neg hk]
  · rw [List.getElem?_eq_none (by simp; omega), if_neg (by omega)]
    simp only [Option.map_none, Option.getD_none]
    rw [List.getD_eq_getElem?_getD, List.getElem?_eq_none (by omega)]
    rfl
theorem gs_acopy (hC : gh_Cx z p s m args meth c own cc nL rt nm) {idx : Nat} (ho : gh_aR own idx = true) (hd : decode cc pc = .ok (.invokestatic idx, 3)) (h : gh_acopy pc lo st G = some (.inl (pc', lo', st', G'))) (hf : 1 ≤ R.frames) (hloc : 100 ≤ R.locals)
    (kk : gh_T z p l e R s m args below meth c nL g0 z0 Q k0 y0 pc' lo' st' G') : gh_T z p l e R s m args below meth c nL g0 z0 Q k0 y0 pc lo st G := by
  obtain ⟨hx, hb, hml, -, -, hown, hts, hKB, -⟩ := hC
  have h1 := gh_aAll own idx (List.contains_iff_mem.mp ho)
  have hnw : nativeFrameWords "java/lang/System" "arraycopy" 5 + 11 ≤ 90 := by decide +kernel
  unfold gh_acopy at h
  split at h
  · next n dp a1 sp a0 r =>
    split at h
    · next k9 vs k1 ws hG0 hG1 =>
      split at h
      · next hq =>
        obtain ⟨ha0, ha1, rfl, hk, hsp, hdp, hn, hv, hw, hcat⟩ := hq
        obtain ⟨rfl, rfl, rfl, rfl⟩ := gh_go_inv h
        intro H locs ls hR hS hl
        have he0 := gh_W_get (z := z) hG0 ha0
        have he1 := gh_W_get (z := z) hG1 ha1
        rcases hk with rfl | rfl
        · refine va_copyi (ty := .int) hx hb (by rw [hml, hl.1]) hown (hts _ h1) (hts _ gh_an) (hts _ gh_as) (hts _ gh_ai) hKB.1 hR.1 (gh_W_D z G) hS (a0 - 1) (a1 - 1) 0 0 he0 he1 rfl rfl rfl hsp hdp hn hv hw (fun i _ => rfl) hf (by rw [gh_es_cat]; omega) hd (gs_after hG1 ha1 (gh_cpy_len ..) kk hR hl ?_)
          rw [← gh_cpyF gh_toI rfl _ _ _ _ _ hw]
          simp [gh_ce, gh_cpy_len]
        · refine va_copyl (ty := .long) hx hb (by rw [hml, hl.1]) hown (hts _ h1) (hts _ gh_an) (hts _ gh_as) (hts _ gh_ai) hKB.1 hR.1 (gh_W_D z G) hS (a0 - 1) (a1 - 1) 1 1 he0 he1 rfl rfl rfl hsp hdp hn hv hw (fun i _ => rfl) hf (by rw [gh_es_cat]; omega) hd (gs_after hG1 ha1 (gh_cpy_len ..) kk hR hl ?_)
          rw [← gh_cpyF gh_toJ rfl _ _ _ _ _ hw]
          simp [gh_ce, gh_cpy_len]
      · cases h
    · cases h
  · cases h
end GS
end
section
/-! A GHOST STEP, WHOLE: steps that stay in the method -/
def gh_lenP (i : Instr) (len : Nat) : Prop := match i with
  | .tableswitch _ _ _ _ => True
  | _ => len = gh_ilen i
def gh_putP (own : Nat) (nm : String) (i : Instr) : Prop := match i with
  | .putfield idx => ∀ ci k, gh_fR own idx = some (ci, k) → gh_fin ci k = true → nm = "<init>" ∧ (vwCl.getD ci ("", fun _ => ("", "", "", false), 0)).1 = gh_on own
  | _ => True
def gh_stP (i : Instr) (k : Nat) : Prop := match i with
  | .istore j => k = j
  | .istore_n j => k = j.val
  | .astore j => k = j
  | .astore_n j => k = j.val
  | .iinc j _ => k = j
  | .lstore j => k = j ∨ k = j + 1
  | .lstore_n j => k = j.val ∨ k = j.val + 1
  | _ => False
section GS
variable {z : gh_Z} {p : Program} {l : Launch} {e : Env} {R : Room} {s : State} {m : MethodId} {args : Array Value} {below : List Frame} {meth : Method} {c : Code} {nL g0 z0 k0 y0 own : Nat} {Q : State → Prop} {cc : ByteArray} {rt : Option FieldType} {nm : String} {pc pc' : Nat} {lo lo' : gh_L} {st st' : List Value} {G G' : gh_H}
set_option maxHeartbeats 4000000 in
theorem gh_stepT (hC : gh_Cx z p s m args meth c own cc nL rt nm) {i : Instr} {len : Nat} {fz : Bool} (hd : decode cc pc = .ok (i, len)) (hlen : gh_lenP i len) (hput : gh_putP own nm i)
    (h : gh_step fz own rt pc i len lo st G = some (.inl (pc', lo', st', G'))) (he0 : fz = false → s.heap.size + 1 = z.2.2.2.1 + g0 ∧ k0 = 0 ∧ y0 = 0) (hg : g0 ≤ G.length) (hz : z0 ≤ gh_sz G) (hcc : G.length - g0 + k0 ≤ R.cells) (hss : gh_sz G - z0 + y0 ≤ R.slots) (hrc : G'.length - g0 + k0 ≤ R.cells) (hrs : gh_sz G' - z0 + y0 ≤ R.slots) (hfr : 8 ≤ R.frames) (hlo : 200 ≤ R.locals)
    (hst : ∀ k, gh_stP i k → k < nL)
    (kk : gh_T z p l e R s m args below meth c nL g0 z0 Q k0 y0 pc' lo' st' G') : gh_T z p l e R s m args below meth c nL g0 z0 Q k0 y0 pc lo st G := by
  have hx := hC.1
  have hb := hC.2.1
  have hown := hC.2.2.2.2.2.1
  have hts := hC.2.2.2.2.2.2.1
  cases i with
  | iconst n => obtain rfl : len = _ := hlen; obtain ⟨rfl, rfl, rfl, rfl⟩ := gh_go_inv h; exact fun H locs ls hR hS hl => lv_iconst hx hb hd rfl (kk H locs ls hR hS hl)
  | bipush n => obtain rfl : len = _ := hlen; obtain ⟨rfl, rfl, rfl, rfl⟩ := gh_go_inv h; exact fun H locs ls hR hS hl => lv_bipush hx hb hd rfl (kk H locs ls hR hS hl)
  | sipush n => obtain rfl : len = _ := hlen; obtain ⟨rfl, rfl, rfl, rfl⟩ := gh_go_inv h; exact fun H locs ls hR hS hl => lv_sipush hx hb hd rfl (kk H locs ls hR hS hl)
  | lconst n => obtain rfl : len = _ := hlen; obtain ⟨rfl, rfl, rfl, rfl⟩ := gh_go_inv h; exact fun H locs ls hR hS hl => lv_lconst hx hb hd rfl (kk H locs ls hR hS hl)
  | ldc idx =>
    obtain rfl : len = _ := hlen
    obtain ⟨w, hw, rfl, rfl, rfl, rfl⟩ := gh_push_inv h
    obtain ⟨x, hx9, rfl⟩ := Option.map_eq_some_iff.mp hw
    exact fun H locs ls hR hS hl => lv_ldc hx hb hown (hts _ (gh_iAll own _ (gh_look hx9))) hd (kk H locs ls hR hS hl)
  | ldc_w idx =>
    obtain rfl : len = _ := hlen
    obtain ⟨w, hw, rfl, rfl, rfl, rfl⟩ := gh_push_inv h
    obtain ⟨x, hx9, rfl⟩ := Option.map_eq_some_iff.mp hw
    exact fun H locs ls hR hS hl => lv_ldcw hx hb hown (hts _ (gh_iAll own _ (gh_look hx9))) hd (kk H locs ls hR hS hl)
  | ldc2_w idx =>
    obtain rfl : len = _ := hlen
    obtain ⟨w, hw, rfl, rfl, rfl, rfl⟩ := gh_push_inv h
    obtain ⟨x, hx9, rfl⟩ := Option.map_eq_some_iff.mp hw
    exact fun H locs ls hR hS hl => lv_ldc2 hx hb hown (hts _ (gh_jAll own _ (gh_look hx9))) hd (kk H locs ls hR hS hl)
  | iload k =>
    obtain rfl : len = _ := hlen
    obtain ⟨w, hw, rfl, rfl, rfl, rfl⟩ := gh_push_inv h
    intro H locs ls hR hS hl
    obtain ⟨hp, hv⟩ := gh_ld_spec hl hw
    obtain ⟨x, rfl⟩ := gh_isI_inv hp
    exact lv_iload hx hb hd hv (kk H locs ls hR hS hl)
  | iload_n k =>
    obtain rfl : len = _ := hlen
    obtain ⟨w, hw, rfl, rfl, rfl, rfl⟩ := gh_push_inv h
    intro H locs ls hR hS hl
    obtain ⟨hp, hv⟩ := gh_ld_spec hl hw
    obtain ⟨x, rfl⟩ := gh_isI_inv hp
    exact lv_iload_n hx hb hd rfl hv (kk H locs ls hR hS hl)
  | lload k =>
    obtain rfl : len = _ := hlen
    obtain ⟨w, hw, rfl, rfl, rfl, rfl⟩ := gh_push_inv h
    intro H locs ls hR hS hl
    obtain ⟨hp, hv⟩ := gh_ld_spec hl hw
    obtain ⟨x, rfl⟩ := gh_isJ_inv hp
    exact lv_lload hx hb hd hv (kk H locs ls hR hS hl)
  | lload_n k =>
    obtain rfl : len = _ := hlen
    obtain ⟨w, hw, rfl, rfl, rfl, rfl⟩ := gh_push_inv h
    intro H locs ls hR hS hl
    obtain ⟨hp, hv⟩ := gh_ld_spec hl hw
    obtain ⟨x, rfl⟩ := gh_isJ_inv hp
    exact lv_lload_n hx hb hd rfl hv (kk H locs ls hR hS hl)
  | aload k =>
    obtain rfl : len = _ := hlen
    obtain ⟨w, hw, rfl, rfl, rfl, rfl⟩ := gh_push_inv h
    intro H locs ls hR hS hl
    obtain ⟨hp, hv⟩ := gh_ld_spec hl hw
    obtain ⟨x, rfl⟩ := gh_isA_inv hp
    exact lv_aload hx hb hd hv (kk H locs ls hR hS hl)
  | aload_n k =>
    obtain rfl : len = _ := hlen
    obtain ⟨w, hw, rfl, rfl, rfl, rfl⟩ := gh_push_inv h
    intro H locs ls hR hS hl
    obtain ⟨hp, hv⟩ := gh_ld_spec hl hw
    obtain ⟨x, rfl⟩ := gh_isA_inv hp
    exact lv_aload_n hx hb hd rfl hv (kk H locs ls hR hS hl)
  | istore k =>
    obtain rfl : len = _ := hlen
    obtain ⟨v, rfl, hp, rfl, rfl, rfl⟩ := gh_pop1_inv h
    obtain ⟨x, rfl⟩ := gh_isI_inv hp
    intro H locs ls hR hS hl
    exact lv_istore hx hb hd hl (hst k rfl) (gh_st1_el z lo k (.int x)).symm (fun ls' hl' => kk H locs ls' hR hS hl')
  | istore_n k =>
    obtain rfl : len = _ := hlen
    obtain ⟨v, rfl, hp, rfl, rfl, rfl⟩ := gh_pop1_inv h
    obtain ⟨x, rfl⟩ := gh_isI_inv hp
    intro H locs ls hR hS hl
    exact lv_istore_n hx hb hd rfl hl (hst k.val rfl) (gh_st1_el z lo k.val (.int x)).symm (fun ls' hl' => kk H locs ls' hR hS hl')
  | astore k =>
    obtain rfl : len = _ := hlen
    obtain ⟨v, rfl, hp, rfl, rfl, rfl⟩ := gh_pop1_inv h
    obtain ⟨x, rfl⟩ := gh_isA_inv hp
    intro H locs ls hR hS hl
    exact lv_astore hx hb hd hl (hst k rfl) (gh_st1_el z lo k (.ref x)).symm (fun ls' hl' => kk H locs ls' hR hS hl')
  | astore_n k =>
    obtain rfl : len = _ := hlen
    obtain ⟨v, rfl, hp, rfl, rfl, rfl⟩ := gh_pop1_inv h
    obtain ⟨x, rfl⟩ := gh_isA_inv hp
    intro H locs ls hR hS hl
    exact lv_astore_n hx hb hd rfl hl (hst k.val rfl) (gh_st1_el z lo k.val (.ref x)).symm (fun ls' hl' => kk H locs ls' hR hS hl')
  | lstore k =>
    obtain rfl : len = _ := hlen
    obtain ⟨x, rfl, rfl, rfl, rfl⟩ := gh_pop2_inv h
    intro H locs ls hR hS hl
    exact lv_lstore hx hb hd hl (hst (k + 1) (Or.inr rfl)) (gh_st2_el z lo k (.long x)).symm (fun ls' hl' => kk H locs ls' hR hS hl')
  | lstore_n k =>
    obtain rfl : len = _ := hlen
    obtain ⟨x, rfl, rfl, rfl, rfl⟩ := gh_pop2_inv h
    intro H locs ls hR hS hl
    exact lv_lstore_n hx hb hd rfl hl (hst (k.val + 1) (Or.inr rfl)) (gh_st2_el z lo k.val (.long x)).symm (fun ls' hl' => kk H locs ls' hR hS hl')
  | iinc k n =>
    obtain rfl : len = _ := hlen
    have h' : (match gh_ld gh_isI lo k with | some v => gh_go (pc + 3) (gh_st1 lo k (.int (gh_toI v + Int32.ofInt n))) st G | none => none) = some (.inl (pc', lo', st', G')) := h
    split at h'
    · next v hv =>
      obtain ⟨rfl, rfl, rfl, rfl⟩ := gh_go_inv h'
      intro H locs ls hR hS hl
      have hmem : (k, gh_em z v) ∈ gh_lm z lo := by
        unfold gh_ld at hv
        split at hv
        · next w hw =>
          split at hv
          · cases hv; exact gh_el_mem hw
          · cases hv
        · cases hv
      obtain ⟨hp, -⟩ := gh_ld_spec hl hv
      obtain ⟨x, rfl⟩ := gh_isI_inv hp
      obtain ⟨q, hq⟩ := List.getElem?_of_mem hmem
      exact lv_iinc hx hb hd hl hq rfl (hst k rfl) (gh_st1_el z lo k (.int (x + Int32.ofInt n))).symm (fun ls' hl' => kk H locs ls' hR hS hl')
    · cases h'
  | iadd => obtain rfl : len = _ := hlen; obtain ⟨x, y, r, rfl, rfl, rfl, rfl, rfl⟩ := gh_bin_inv h; exact fun H locs ls hR hS hl => lv_iadd hx hb hd (kk H locs ls hR hS hl)
  | isub => obtain rfl : len = _ := hlen; obtain ⟨x, y, r, rfl, rfl, rfl, rfl, rfl⟩ := gh_bin_inv h; exact fun H locs ls hR hS hl => lv_isub hx hb hd (kk H locs ls hR hS hl)
  | imul => obtain rfl : len = _ := hlen; obtain ⟨x, y, r, rfl, rfl, rfl, rfl, rfl⟩ := gh_bin_inv h; exact fun H locs ls hR hS hl => lv_imul hx hb hd (kk H locs ls hR hS hl)
  | iand => obtain rfl : len = _ := hlen; obtain ⟨x, y, r, rfl, rfl, rfl, rfl, rfl⟩ := gh_bin_inv h; exact fun H locs ls hR hS hl => lv_iand hx hb hd (kk H locs ls hR hS hl)
  | ior => obtain rfl : len = _ := hlen; obtain ⟨x, y, r, rfl, rfl, rfl, rfl, rfl⟩ := gh_bin_inv h; exact fun H locs ls hR hS hl => lv_ior hx hb hd (kk H locs ls hR hS hl)
  | ixor => obtain rfl : len = _ := hlen; obtain ⟨x, y, r, rfl, rfl, rfl, rfl, rfl⟩ := gh_bin_inv h; exact fun H locs ls hR hS hl => lv_ixor hx hb hd (kk H locs ls hR hS hl)
  | ishl => obtain rfl : len = _ := hlen; obtain ⟨x, y, r, rfl, rfl, rfl, rfl, rfl⟩ := gh_bin_inv h; exact fun H locs ls hR hS hl => lv_ishl hx hb hd (kk H locs ls hR hS hl)
  | ishr => obtain rfl : len = _ := hlen; obtain ⟨x, y, r, rfl, rfl, rfl, rfl, rfl⟩ := gh_bin_inv h; exact fun H locs ls hR hS hl => lv_ishr hx hb hd (kk H locs ls hR hS hl)
  | iushr => obtain rfl : len = _ := hlen; obtain ⟨x, y, r, rfl, rfl, rfl, rfl, rfl⟩ := gh_bin_inv h; exact fun H locs ls hR hS hl => lv_iushr hx hb hd rfl (kk H locs ls hR hS hl)
  | ladd => obtain rfl : len = _ := hlen; obtain ⟨x, y, r, rfl, rfl, rfl, rfl, rfl⟩ := gh_binJ_inv h; exact fun H locs ls hR hS hl => lv_ladd hx hb hd (kk H locs ls hR hS hl)
  | lmul => obtain rfl : len = _ := hlen; obtain ⟨x, y, r, rfl, rfl, rfl, rfl, rfl⟩ := gh_binJ_inv h; exact fun H locs ls hR hS hl => lv_lmul hx hb hd (kk H locs ls hR hS hl)
  | ldiv => obtain rfl : len = _ := hlen; obtain ⟨x, y, r, rfl, hy, rfl, rfl, rfl, rfl⟩ := gh_binD_inv h; exact fun H locs ls hR hS hl => lv_ldiv hx hb hd hy (kk H locs ls hR hS hl)
  | lrem => obtain rfl : len = _ := hlen; obtain ⟨x, y, r, rfl, hy, rfl, rfl, rfl, rfl⟩ := gh_binD_inv h; exact fun H locs ls hR hS hl => lv_lrem hx hb hd hy (kk H locs ls hR hS hl)
  | idiv => obtain rfl : len = _ := hlen; obtain ⟨x, y, r, rfl, hy, rfl, rfl, rfl, rfl⟩ := gh_binZ_inv h; exact fun H locs ls hR hS hl => lv_idiv hx hb hd hy (kk H locs ls hR hS hl)
  | irem => obtain rfl : len = _ := hlen; obtain ⟨x, y, r, rfl, hy, rfl, rfl, rfl, rfl⟩ := gh_binZ_inv h; exact fun H locs ls hR hS hl => lv_irem hx hb hd hy (kk H locs ls hR hS hl)
  | lcmp =>
    obtain rfl : len = _ := hlen
    simp only [gh_step] at h
    split at h
    · obtain ⟨rfl, rfl, rfl, rfl⟩ := gh_go_inv h; exact fun H locs ls hR hS hl => W.lcmp hx hb hd (kk H locs ls hR hS hl)
    · cases h
  | i2l =>
    obtain rfl : len = _ := hlen
    simp only [gh_step] at h
    split at h
    · obtain ⟨rfl, rfl, rfl, rfl⟩ := gh_go_inv h; exact fun H locs ls hR hS hl => lv_i2l hx hb hd rfl (kk H locs ls hR hS hl)
    · cases h
  | l2i =>
    obtain rfl : len = _ := hlen
    simp only [gh_step] at h
    split at h
    · obtain ⟨rfl, rfl, rfl, rfl⟩ := gh_go_inv h; exact fun H locs ls hR hS hl => lv_l2i hx hb hd rfl (kk H locs ls hR hS hl)
    · cases h
  | dup =>
    obtain rfl : len = _ := hlen
    simp only [gh_step] at h
    split at h
    · split at h
      · next hc => obtain ⟨rfl, rfl, rfl, rfl⟩ := gh_go_inv h; exact fun H locs ls hR hS hl => lv_dup hx hb hd (by rw [gh_em_cat]; exact hc) (kk H locs ls hR hS hl)
      · cases h
    · cases h
  | dup2 =>
    obtain rfl : len = _ := hlen
    simp only [gh_step] at h
    split at h
    · split at h
      · next hc => obtain ⟨rfl, rfl, rfl, rfl⟩ := gh_go_inv h; exact fun H locs ls hR hS hl => lv_dup2_11 hx hb hd (by rw [gh_em_cat]; exact hc.1) (by rw [gh_em_cat]; exact hc.2) (kk H locs ls hR hS hl)
      · cases h
    · cases h
  | pop =>
    obtain rfl : len = _ := hlen
    simp only [gh_step] at h
    split at h
    · split at h
      · next hc => obtain ⟨rfl, rfl, rfl, rfl⟩ := gh_go_inv h; exact fun H locs ls hR hS hl => lv_pop hx hb hd (by rw [gh_em_cat]; exact hc) (kk H locs ls hR hS hl)
      · cases h
    · cases h
  | ifCond cd off =>
    obtain rfl : len = _ := hlen
    simp only [gh_step] at h
    split at h
    · obtain ⟨ht, rfl, rfl, rfl, rfl⟩ := gh_jmp_inv h; exact gs_if hx hb hd ht kk
    · cases h
  | if_icmp cd off =>
    obtain rfl : len = _ := hlen
    simp only [gh_step] at h
    split at h
    · obtain ⟨ht, rfl, rfl, rfl, rfl⟩ := gh_jmp_inv h; exact gs_icmp hx hb hd ht kk
    · cases h
  | goto off => obtain rfl : len = _ := hlen; obtain ⟨ht, rfl, rfl, rfl, rfl⟩ := gh_jmp_inv h; exact fun H locs ls hR hS hl => lv_goto hx hb hd ht (kk H locs ls hR hS hl)
  | tableswitch a b d f => exact gs_sw hx hb hd h kk
  | getfield idx =>
    obtain rfl : len = _ := hlen
    simp only [gh_step] at h
    split at h
    · next ci k hf => exact gs_get hC hf hd h kk
    · cases h
  | putfield idx =>
    obtain rfl : len = _ := hlen
    simp only [gh_step] at h
    split at h
    · next ci k hf => exact gs_put hC hf (hput ci k hf) hd h kk
    · cases h
  | iaload => obtain rfl : len = _ := hlen; exact gs_iald hC hd h kk
  | laload => obtain rfl : len = _ := hlen; exact gs_lald hC hd h kk
  | baload => obtain rfl : len = _ := hlen; exact gs_zald hC hd h kk
  | aaload => obtain rfl : len = _ := hlen; exact gs_aald hC hd h kk
  | iastore => obtain rfl : len = _ := hlen; exact gs_iast hC hd h kk
  | lastore => obtain rfl : len = _ := hlen; exact gs_last hC hd h kk
  | bastore => obtain rfl : len = _ := hlen; exact gs_zast hC hd h kk
  | aastore => obtain rfl : len = _ := hlen; exact gs_aast hC hd h kk
  | arraylength => obtain rfl : len = _ := hlen; exact gs_len hC hd h kk
  | new idx => obtain rfl : len = _ := hlen; exact gs_new hC hd h he0 hg hz hrc hrs kk
  | newarray t => obtain rfl : len = _ := hlen; exact gs_newa hC hd h he0 hg hz hrc hrs kk
  | anewarray idx =>
    obtain rfl : len = _ := hlen
    simp only [gh_step] at h
    split at h
    · next he => exact gs_newq hC he hd h he0 hg hz hrc hrs kk
    · cases h
  | invokevirtual idx =>
    simp only [gh_step, gh_call] at h
    split at h
    · split at h
      · split at h <;> cases h
      · cases h
    · cases h
  | invokestatic idx =>
    obtain rfl : len = _ := hlen
    simp only [gh_step] at h
    split at h
    · next b hb9 => exact gs_mm hC hb9 hd h (by omega) (by omega) hcc hss kk
    · split at h
      · next ha => exact gs_acopy hC ha hd h (by omega) (by omega) kk
      · unfold gh_call at h
        split at h
        · split at h <;> cases h
        · cases h
  | invokespecial idx =>
    obtain rfl : len = _ := hlen
    simp only [gh_step] at h
    split at h
    · next ho =>
      split at h
      · split at h
        · next hc => obtain ⟨rfl, rfl, rfl, rfl⟩ := gh_go_inv h; exact gs_oinit hC ho hd hc (by omega) (by omega) kk
        · cases h
      · cases h
    · unfold gh_call at h
      split at h
      · split at h
        · split at h <;> cases h
        · cases h
      · cases h
  | ireturn => simp only [gh_step, gh_ret] at h; split at h <;> (try split at h) <;> cases h
  | lreturn => simp only [gh_step, gh_ret] at h; (repeat' split at h) <;> cases h
  | areturn => simp only [gh_step, gh_ret] at h; (repeat' split at h) <;> cases h
  | return_ => simp only [gh_step] at h; (repeat' split at h) <;> cases h
  | _ => cases (show (none : Option gh_R) = some (.inl (pc', lo', st', G')) from h)
end GS
end
section
/-! WHAT IS CHECKED OF EACH METHOD'S CODE, and the contracts -/
def gh_stB (nL : Nat) (K : List (Nat × Instr × Nat)) : Bool := K.all fun e => match e.2.1 with
  | .istore j => decide (j < nL)
  | .istore_n j => decide (j.val < nL)
  | .astore j => decide (j < nL)
  | .astore_n j => decide (j.val < nL)
  | .iinc j _ => decide (j < nL)
  | .lstore j => decide (j + 1 < nL)
  | .lstore_n j => decide (j.val + 1 < nL)
  | _ => true
/-- the calls: to plain methods, of the right kind -/
def gh_knB (own top : Nat) (K : List (Nat × Instr × Nat)) : Bool := K.all fun e => match e.2.1 with
  | .invokevirtual idx => match gh_mR own idx with
    | some (μ, _) => decide (μ < 128) && decide ((gh_mo.getD μ (0, 9)).2 = 0)
    | none => true
  | .invokestatic idx => match gh_mR own idx with
    | some (μ, _) => decide (μ < top) && decide ((gh_mo.getD μ (0, 9)).2 = 1)
    | none => true
  | .invokespecial idx => match gh_mR own idx with
    | some (μ, _) => decide (μ < 128) && decide ((gh_mo.getD μ (0, 9)).2 = 2)
    | none => true
  | _ => true
def gh_knP (own top : Nat) (i : Instr) : Prop := match i with
  | .invokevirtual idx => ∀ μ n, gh_mR own idx = some (μ, n) → μ < 128 ∧ (gh_mo.getD μ (0, 9)).2 = 0
  | .invokestatic idx => ∀ μ n, gh_mR own idx = some (μ, n) → μ < top ∧ (gh_mo.getD μ (0, 9)).2 = 1
  | .invokespecial idx => ∀ μ n, gh_mR own idx = some (μ, n) → μ < 128 ∧ (gh_mo.getD μ (0, 9)).2 = 2
  | _ => True
def gh_chkB (own top : Nat) (nm : String) (nL : Nat) (K : List (Nat × Instr × Nat)) : Bool := gh_lenB K && gh_putB own nm K && gh_stB nL K && gh_knB own top K
theorem gh_chk {own top : Nat} {nm : String} {nL : Nat} {K : List (Nat × Instr × Nat)} (h : gh_chkB own top nm nL K = true) {e : Nat × Instr × Nat} (he : e ∈ K) : gh_lenP e.2.1 e.2.2 ∧ gh_putP own nm e.2.1 ∧ (∀ k, gh_stP e.2.1 k → k < nL) ∧ gh_knP own top e.2.1 := by
  unfold gh_chkB at h
  simp only [Bool.and_eq_true] at h
  obtain ⟨⟨⟨h1, h2⟩, h3⟩, h4⟩ := h
  have h1 := List.all_eq_true.mp h1 e he
  have h2 := List.all_eq_true.mp h2 e he
  have h3 := List.all_eq_true.mp h3 e he
  have h4 := List.all_eq_true.mp h4 e he
  obtain ⟨pc, i, len⟩ := e
  dsimp only at h1 h2 h3 h4 ⊢
  refine ⟨?_, ?_, ?_, ?_⟩
  · cases i <;> first | exact trivial | exact (show len = gh_ilen _ from of_decide_eq_true h1)
  · cases i with
    | putfield idx =>
      intro ci k hf hfin
      dsimp only at h2
      rw [hf] at h2
      simpa [hfin] using h2
    | _ => exact trivial
  · intro k hk
    cases i with
    | istore j => cases hk; exact of_decide_eq_true h3
    | istore_n j => cases hk; exact of_decide_eq_true h3
    | astore j => cases hk; exact of_decide_eq_true h3
    | astore_n j => cases hk; exact of_decide_eq_true h3
    | iinc j n => cases hk; exact of_decide_eq_true h3
    | lstore j =>
      have h3 := of_decide_eq_true h3
      have hk : k = j ∨ k = j + 1 := hk
      omega
    | lstore_n j =>
      have h3 := of_decide_eq_true h3
      have hk : k = j.val ∨ k = j.val + 1 := hk
      omega
    | _ => exact absurd hk id
  · cases i with
    | invokevirtual idx => intro μ n hm; dsimp only at h4; rw [hm] at h4; simpa using h4
    | invokestatic idx => intro μ n hm; dsimp only at h4; rw [hm] at h4; simpa using h4
    | invokespecial idx => intro μ n hm; dsimp only at h4; rw [hm] at h4; simpa using h4
    | _ => exact trivial
def gh_moB (μ : Nat) : Bool := match gh_yt[μ]?, gh_mo[μ]? with
  | some q, some (o, k) => decide (k = q.2.2.2.2) && decide (gh_ml.getD μ 0 = q.2.2.1) && (decide (k ≠ 0) || (match vwCl[o]? with | some C => decide (C.1 = q.1.cls) | none => false))
  | _, _ => false
theorem gh_moA : (List.range 128).all gh_moB = true := by decide +kernel
theorem gh_moK {μ : Nat} (h : μ < 128) {q : MethodName × ByteArray × Nat × Option FieldType × Nat} (hq : gh_yt[μ]? = some q) : ∃ o, gh_mo[μ]? = some (o, q.2.2.2.2) ∧ gh_ml.getD μ 0 = q.2.2.1 ∧ (q.2.2.2.2 = 0 → ∃ T N, vwCl[o]? = some (q.1.cls, T, N)) := by
  have h1 := List.all_eq_true.mp gh_moA μ (List.mem_range.mpr h)
  unfold gh_moB at h1
  rw [hq] at h1
  cases hm : gh_mo[μ]? with
  | none => rw [hm] at h1; cases h1
  | some m =>
    obtain ⟨o, k⟩ := m
    rw [hm] at h1
    simp only [Bool.and_eq_true, Bool.or_eq_true, decide_eq_true_eq] at h1
    obtain ⟨⟨rfl, h3⟩, h2⟩ := h1
    refine ⟨o, rfl, h3, fun h0 => ?_⟩
    rcases h2 with h2 | h2
    · exact absurd h0 h2
    · split at h2
      · next C hC =>
        obtain ⟨C, T, N⟩ := C
        have h2 : C = q.1.cls := by simpa using h2
        subst h2
        exact ⟨T, N, hC⟩
      · cases h2
set_option maxRecDepth 100000 in
theorem gh_m9 : ∀ e ∈ gh_mrt.getD 9 [], e.2.1 < 128 → gh_mOK 9 e := by
  show ∀ e ∈ ([(138, 78, 1), (108, 80, 1), (142, 127, 2), (139, 128, 3), (8, 79, 2), (14, 81, 2), (17, 82, 2), (20, 95, 2), (150, 129, 4), (29, 86, 3), (33, 87, 3), (37, 93, 3), (146, 130, 5), (40, 85, 4), (44, 92, 4), (47, 103, 4), (154, 131, 5), (50, 104, 5), (156, 136, 4), (112, 83, 1), (115, 89, 1), (118, 108, 1), (121, 135, 2), (103, 109, 2), (127, 134, 3), (100, 90, 3), (131, 133, 3), (66, 84, 2), (70, 91, 2), (73, 94, 2), (76, 96, 2), (79, 100, 2), (82, 101, 2), (85, 102, 2), (88, 107, 2), (91, 88, 2), (94, 105, 2), (97, 106, 2), (134, 132, 4), (54, 97, 3), (58, 98, 3), (61, 99, 3)] : List (Nat × Nat × Nat)), e.2.1 < 128 → gh_mOK 9 e
  exact List.forall_mem_cons.mpr ⟨fun _ => gh_mk gh_y78 rfl (by decide +kernel) (Or.inl (gh_w 22 rfl rfl)), List.forall_mem_cons.mpr ⟨fun _ => gh_mk gh_y80 rfl (by decide +kernel) (Or.inl (gh_w 294 rfl rfl)), List.forall_mem_cons.mpr ⟨fun _ => gh_mk gh_y127 rfl (by decide +kernel) (Or.inl (gh_w 298 rfl rfl)), List.forall_mem_cons.mpr ⟨fun h => absurd h (by decide), List.forall_mem_cons.mpr ⟨fun _ => gh_mk gh_y79 rfl (by decide +kernel) (Or.inl (gh_w 308 rfl rfl)), List.forall_mem_cons.mpr ⟨fun _ => gh_mk gh_y81 rfl (by decide +kernel) (Or.inl (gh_w 397 rfl rfl)), List.forall_mem_cons.mpr ⟨fun _ => gh_mk gh_y82 rfl (by decide +kernel) (Or.inl (gh_w 411 rfl rfl)), List.forall_mem_cons.mpr ⟨fun _ => gh_mk gh_y95 rfl (by decide +kernel) (Or.inl (gh_w 459 rfl rfl)), List.forall_mem_cons.mpr ⟨fun h => absurd h (by decide), List.forall_mem_cons.mpr ⟨fun _ => gh_mk gh_y86 rfl (by decide +kernel) (Or.inl (gh_w 623 rfl rfl)), List.forall_mem_cons.mpr ⟨fun _ => gh_mk gh_y87 rfl (by decide +kernel) (Or.inl (gh_w 704 rfl rfl)), List.forall_mem_cons.mpr ⟨fun _ => gh_mk gh_y93 rfl (by decide +kernel) (Or.inl (gh_w 723 rfl rfl)), List.forall_mem_cons.mpr ⟨fun h => absurd h (by decide), List.forall_mem_cons.mpr ⟨fun _ => gh_mk gh_y85 rfl (by decide +kernel) (Or.inl (gh_w 736 rfl rfl)), List.forall_mem_cons.mpr ⟨fun _ => gh_mk gh_y92 rfl (by decide +kernel) (Or.inl (gh_w 750 rfl rfl)), List.forall_mem_cons.mpr ⟨fun _ => gh_mk gh_y103 rfl (by decide +kernel) (Or.inl (gh_w 764 rfl rfl)), List.forall_mem_cons.mpr ⟨fun h => absurd h (by decide), List.forall_mem_cons.mpr ⟨fun _ => gh_mk gh_y104 rfl (by decide +kernel) (Or.inl (gh_w 785 rfl rfl)), List.forall_mem_cons.mpr ⟨fun h => absurd h (by decide), List.forall_mem_cons.mpr ⟨fun _ => gh_mk gh_y83 rfl (by decide +kernel) (Or.inl (gh_w 802 rfl rfl)), List.forall_mem_cons.mpr ⟨fun _ => gh_mk gh_y89 rfl (by decide +kernel) (Or.inl (gh_w 806 rfl rfl)), List.forall_mem_cons.mpr ⟨fun _ => gh_mk gh_y108 rfl (by decide +kernel) (Or.inl (gh_w 810 rfl rfl)), List.forall_mem_cons.mpr ⟨fun h => absurd h (by decide), List.forall_mem_cons.mpr ⟨fun _ => gh_mk gh_y109 rfl (by decide +kernel) (Or.inl (gh_w 827 rfl rfl)), List.forall_mem_cons.mpr ⟨fun h => absurd h (by decide), List.forall_mem_cons.mpr ⟨fun _ => gh_mk gh_y90 rfl (by decide +kernel) (Or.inl (gh_w 859 rfl rfl)), List.forall_mem_cons.mpr ⟨fun h => absurd h (by decide), List.forall_mem_cons.mpr ⟨fun _ => gh_mk gh_y84 rfl (by decide +kernel) (Or.inl (gh_w 869 rfl rfl)), List.forall_mem_cons.mpr ⟨fun _ => gh_mk gh_y91 rfl (by decide +kernel) (Or.inl (gh_w 873 rfl rfl)), List.forall_mem_cons.mpr ⟨fun _ => gh_mk gh_y94 rfl (by decide +kernel) (Or.inl (gh_w 878 rfl rfl)), List.forall_mem_cons.mpr ⟨fun _ => gh_mk gh_y96 rfl (by decide +kernel) (Or.inl (gh_w 882 rfl rfl)), List.forall_mem_cons.mpr ⟨fun _ => gh_mk gh_y100 rfl (by decide +kernel) (Or.inl (gh_w 886 rfl rfl)), List.forall_mem_cons.mpr ⟨fun _ => gh_mk gh_y101 rfl (by decide +kernel) (Or.inl (gh_w 894 rfl rfl)), List.forall_mem_cons.mpr ⟨fun _ => gh_mk gh_y102 rfl (by decide +kernel) (Or.inl (gh_w 907 rfl rfl)), List.forall_mem_cons.mpr ⟨fun _ => gh_mk gh_y107 rfl (by decide +kernel) (Or.inl (gh_w 911 rfl rfl)), List.forall_mem_cons.mpr ⟨fun _ => gh_mk gh_y88 rfl (by decide +kernel) (Or.inl (gh_w 915 rfl rfl)), List.forall_mem_cons.mpr ⟨fun _ => gh_mk gh_y105 rfl (by decide +kernel) (Or.inl (gh_w 919 rfl rfl)), List.forall_mem_cons.mpr ⟨fun _ => gh_mk gh_y106 rfl (by decide +kernel) (Or.inl (gh_w 923 rfl rfl)), List.forall_mem_cons.mpr ⟨fun h => absurd h (by decide), List.forall_mem_cons.mpr ⟨fun _ => gh_mk gh_y97 rfl (by decide +kernel) (Or.inl (gh_w 946 rfl rfl)), List.forall_mem_cons.mpr ⟨fun _ => gh_mk gh_y98 rfl (by decide +kernel) (Or.inl (gh_w 951 rfl rfl)), List.forall_mem_cons.mpr ⟨fun _ => gh_mk gh_y99 rfl (by decide +kernel) (Or.inl (gh_w 956 rfl rfl)), (fun _ h => absurd h List.not_mem_nil)⟩⟩⟩⟩⟩⟩⟩⟩⟩⟩⟩⟩⟩⟩⟩⟩⟩⟩⟩⟩⟩⟩⟩⟩⟩⟩⟩⟩⟩⟩⟩⟩⟩⟩⟩⟩⟩⟩⟩⟩⟩⟩
theorem gh_mAll (own : Nat) (e : Nat × Nat × Nat) (h : e ∈ gh_mrt.getD own []) (hlt : e.2.1 < 128) : gh_mOK own e := by
  match own, h with
  | 0, h => exact gh_m0 e h
  | 1, h => exact gh_m1 e h
  | 2, h => exact gh_m2 e h
  | 3, h => exact gh_m3 e h
  | 4, h => exact gh_m4 e h
  | 5, h => exact gh_m5 e h
  | 6, h => exact gh_m6 e h
  | 7, h => exact gh_m7 e h
  | 8, h => exact gh_m8 e h
  | 9, h => exact gh_m9 e h hlt
  | 10, h => exact gh_m10 e h
  | 11, h => exact gh_m11 e h
  | 12, h => exact gh_m12 e h
  | k + 13, h => exact absurd h (by simp [gh_mrt])
set_option maxRecDepth 100000 in
theorem gh_h0 : gh_chkB 0 128 "<init>" 1 gk_0 = true := by decide +kernel
set_option maxRecDepth 100000 in
theorem gh_h1 : gh_chkB 0 128 "shareFromHeads" 7 gk_1 = true := by decide +kernel
set_option maxRecDepth 100000 in
theorem gh_h2 : gh_chkB 0 128 "passOn" 7 gk_2 = true := by decide +kernel
set_option maxRecDepth 100000 in
theorem gh_h3 : gh_chkB 0 128 "shareFromPersons" 6 gk_3 = true := by decide +kernel
set_option maxRecDepth 100000 in
theorem gh_h4 : gh_chkB 0 128 "findComing" 4 gk_4 = true := by decide +kernel
set_option maxRecDepth 100000 in
theorem gh_h5 : gh_chkB 0 128 "addPartOf" 6 gk_5 = true := by decide +kernel
set_option maxRecDepth 100000 in
theorem gh_h6 : gh_chkB 0 128 "addAsHead" 2 gk_6 = true := by decide +kernel
set_option maxRecDepth 100000 in
theorem gh_h7 : gh_chkB 0 128 "lookAt" 4 gk_7 = true := by decide +kernel
set_option maxRecDepth 100000 in
theorem gh_h8 : gh_chkB 0 128 "findLivingLines" 9 gk_8 = true := by decide +kernel
set_option maxRecDepth 100000 in
theorem gh_h9 : gh_chkB 0 128 "findHeads" 5 gk_9 = true := by decide +kernel
set_option maxRecDepth 100000 in
theorem gh_h10 : gh_chkB 0 128 "joinWithWill" 8 gk_10 = true := by decide +kernel
set_option maxRecDepth 100000 in
theorem gh_h11 : gh_chkB 0 128 "weightFor" 3 gk_11 = true := by decide +kernel
set_option maxRecDepth 100000 in
theorem gh_h12 : gh_chkB 1 128 "<init>" 2 gk_12 = true := by decide +kernel
set_option maxRecDepth 100000 in
theorem gh_h13 : gh_chkB 1 128 "weightOf" 2 gk_13 = true := by decide +kernel
set_option maxRecDepth 100000 in
theorem gh_h14 : gh_chkB 1 128 "setWeight" 4 gk_14 = true := by decide +kernel
set_option maxRecDepth 100000 in
theorem gh_h15 : gh_chkB 1 128 "hasClaimOf" 2 gk_15 = true := by decide +kernel
set_option maxRecDepth 100000 in
theorem gh_h16 : gh_chkB 1 128 "addClaim" 2 gk_16 = true := by decide +kernel
set_option maxRecDepth 100000 in
theorem gh_h17 : gh_chkB 1 128 "dropClaim" 4 gk_17 = true := by decide +kernel
set_option maxRecDepth 100000 in
theorem gh_h18 : gh_chkB 1 128 "placeOf" 3 gk_18 = true := by decide +kernel
set_option maxRecDepth 100000 in
theorem gh_h19 : gh_chkB 1 128 "rankHeirs" 5 gk_19 = true := by decide +kernel
set_option maxRecDepth 100000 in
theorem gh_h20 : gh_chkB 1 128 "rankNext" 4 gk_20 = true := by decide +kernel
set_option maxRecDepth 100000 in
theorem gh_h21 : gh_chkB 2 128 "<init>" 1 gk_21 = true := by decide +kernel
set_option maxRecDepth 100000 in
theorem gh_h22 : gh_chkB 2 128 "enter" 4 gk_22 = true := by decide +kernel
set_option maxRecDepth 100000 in
theorem gh_h23 : gh_chkB 2 128 "bury" 3 gk_23 = true := by decide +kernel
set_option maxRecDepth 100000 in
theorem gh_h24 : gh_chkB 2 128 "isDead" 2 gk_24 = true := by decide +kernel
set_option maxRecDepth 100000 in
theorem gh_h25 : gh_chkB 2 128 "bornOn" 2 gk_25 = true := by decide +kernel
set_option maxRecDepth 100000 in
theorem gh_h26 : gh_chkB 2 128 "diedOn" 2 gk_26 = true := by decide +kernel
set_option maxRecDepth 100000 in
theorem gh_h27 : gh_chkB 2 128 "isOlder" 3 gk_27 = true := by decide +kernel
set_option maxRecDepth 100000 in
theorem gh_h28 : gh_chkB 2 128 "byAge" 2 gk_28 = true := by decide +kernel
set_option maxRecDepth 100000 in
theorem gh_h29 : gh_chkB 3 128 "<init>" 1 gk_29 = true := by decide +kernel
set_option maxRecDepth 100000 in
theorem gh_h30 : gh_chkB 3 128 "firstParent" 2 gk_30 = true := by decide +kernel
set_option maxRecDepth 100000 in
theorem gh_h31 : gh_chkB 3 128 "secondParent" 2 gk_31 = true := by decide +kernel
set_option maxRecDepth 100000 in
theorem gh_h32 : gh_chkB 3 128 "childSet" 2 gk_32 = true := by decide +kernel
set_option maxRecDepth 100000 in
theorem gh_h33 : gh_chkB 3 128 "parentSet" 2 gk_33 = true := by decide +kernel
set_option maxRecDepth 100000 in
theorem gh_h34 : gh_chkB 3 128 "setOf" 1 gk_34 = true := by decide +kernel
set_option maxRecDepth 100000 in
theorem gh_h35 : gh_chkB 3 128 "tell" 4 gk_35 = true := by decide +kernel
set_option maxRecDepth 100000 in
theorem gh_h36 : gh_chkB 3 128 "weigh" 6 gk_36 = true := by decide +kernel
set_option maxRecDepth 100000 in
theorem gh_h37 : gh_chkB 3 128 "strongestBut" 5 gk_37 = true := by decide +kernel
set_option maxRecDepth 100000 in
theorem gh_h38 : gh_chkB 3 128 "addChild" 3 gk_38 = true := by decide +kernel
set_option maxRecDepth 100000 in
theorem gh_h39 : gh_chkB 4 128 "<init>" 1 gk_39 = true := by decide +kernel
set_option maxRecDepth 100000 in
theorem gh_h40 : gh_chkB 4 128 "keptOwner" 2 gk_40 = true := by decide +kernel
set_option maxRecDepth 100000 in
theorem gh_h41 : gh_chkB 4 128 "isGrantedWithin" 4 gk_41 = true := by decide +kernel
set_option maxRecDepth 100000 in
theorem gh_h42 : gh_chkB 4 128 "countUnits" 4 gk_42 = true := by decide +kernel
set_option maxRecDepth 100000 in
theorem gh_h43 : gh_chkB 4 128 "parcelStart" 3 gk_43 = true := by decide +kernel
set_option maxRecDepth 100000 in
theorem gh_h44 : gh_chkB 4 128 "parcelEnd" 3 gk_44 = true := by decide +kernel
set_option maxRecDepth 100000 in
theorem gh_h45 : gh_chkB 4 128 "enterGrant" 5 gk_45 = true := by decide +kernel
set_option maxRecDepth 100000 in
theorem gh_h46 : gh_chkB 4 128 "enterHanding" 5 gk_46 = true := by decide +kernel
set_option maxRecDepth 100000 in
theorem gh_h47 : gh_chkB 4 128 "enterClosing" 3 gk_47 = true := by decide +kernel
set_option maxRecDepth 100000 in
theorem gh_h48 : gh_chkB 4 128 "enter" 5 gk_48 = true := by decide +kernel
set_option maxRecDepth 100000 in
theorem gh_h49 : gh_chkB 4 128 "redrawFrom" 5 gk_49 = true := by decide +kernel
set_option maxRecDepth 100000 in
theorem gh_h50 : gh_chkB 4 128 "foundOwner" 5 gk_50 = true := by decide +kernel
set_option maxRecDepth 100000 in
theorem gh_h51 : gh_chkB 4 128 "handOver" 4 gk_51 = true := by decide +kernel
set_option maxRecDepth 100000 in
theorem gh_h52 : gh_chkB 4 128 "drawKept" 2 gk_52 = true := by decide +kernel
set_option maxRecDepth 100000 in
theorem gh_h53 : gh_chkB 4 128 "draw" 7 gk_53 = true := by decide +kernel
set_option maxRecDepth 100000 in
theorem gh_h54 : gh_chkB 4 128 "takeFrom" 3 gk_54 = true := by decide +kernel
set_option maxRecDepth 100000 in
theorem gh_h55 : gh_chkB 4 128 "portionOut" 6 gk_55 = true := by decide +kernel
set_option maxRecDepth 100000 in
theorem gh_h56 : gh_chkB 4 128 "isPlace" 2 gk_56 = true := by decide +kernel
set_option maxRecDepth 100000 in
theorem gh_h57 : gh_chkB 4 128 "countIn" 6 gk_57 = true := by decide +kernel
set_option maxRecDepth 100000 in
theorem gh_h58 : gh_chkB 5 128 "<init>" 1 gk_58 = true := by decide +kernel
set_option maxRecDepth 100000 in
theorem gh_h59 : gh_chkB 5 128 "file" 4 gk_59 = true := by decide +kernel
set_option maxRecDepth 100000 in
theorem gh_h60 : gh_chkB 5 128 "fileDoubt" 3 gk_60 = true := by decide +kernel
set_option maxRecDepth 100000 in
theorem gh_h61 : gh_chkB 5 128 "settle" 5 gk_61 = true := by decide +kernel
set_option maxRecDepth 100000 in
theorem gh_h62 : gh_chkB 5 128 "lift" 3 gk_62 = true := by decide +kernel
set_option maxRecDepth 100000 in
theorem gh_h63 : gh_chkB 5 128 "isProof" 2 gk_63 = true := by decide +kernel
set_option maxRecDepth 100000 in
theorem gh_h64 : gh_chkB 5 128 "isOpen" 2 gk_64 = true := by decide +kernel
set_option maxRecDepth 100000 in
theorem gh_h65 : gh_chkB 5 128 "hasFallen" 2 gk_65 = true := by decide +kernel
set_option maxRecDepth 100000 in
theorem gh_h66 : gh_chkB 5 128 "countOpen" 4 gk_66 = true := by decide +kernel
set_option maxRecDepth 100000 in
theorem gh_h67 : gh_chkB 5 128 "strengthOf" 2 gk_67 = true := by decide +kernel
set_option maxRecDepth 100000 in
theorem gh_h68 : gh_chkB 6 128 "<init>" 1 gk_68 = true := by decide +kernel
set_option maxRecDepth 100000 in
theorem gh_h69 : gh_chkB 6 128 "clear" 1 gk_69 = true := by decide +kernel
set_option maxRecDepth 100000 in
theorem gh_h70 : gh_chkB 6 128 "copy" 2 gk_70 = true := by decide +kernel
set_option maxRecDepth 100000 in
theorem gh_h71 : gh_chkB 6 128 "aboveOf" 2 gk_71 = true := by decide +kernel
set_option maxRecDepth 100000 in
theorem gh_h72 : gh_chkB 6 128 "belowOf" 2 gk_72 = true := by decide +kernel
set_option maxRecDepth 100000 in
theorem gh_h73 : gh_chkB 6 128 "add" 12 gk_73 = true := by decide +kernel
set_option maxRecDepth 100000 in
theorem gh_h74 : gh_chkB 6 128 "unitsFor" 5 gk_74 = true := by decide +kernel
set_option maxRecDepth 100000 in
theorem gh_h75 : gh_chkB 6 128 "countHeirs" 3 gk_75 = true := by decide +kernel
set_option maxRecDepth 100000 in
theorem gh_h76 : gh_chkB 6 128 "isSame" 3 gk_76 = true := by decide +kernel
set_option maxRecDepth 100000 in
theorem gh_h77 : gh_chkB 6 128 "commonDivisor" 7 gk_77 = true := by decide +kernel
set_option maxRecDepth 100000 in
theorem gh_h78 : gh_chkB 7 128 "<init>" 2 gk_78 = true := by decide +kernel
set_option maxRecDepth 100000 in
theorem gh_h79 : gh_chkB 7 128 "pass" 2 gk_79 = true := by decide +kernel
set_option maxRecDepth 100000 in
theorem gh_h80 : gh_chkB 7 128 "today" 1 gk_80 = true := by decide +kernel
set_option maxRecDepth 100000 in
theorem gh_h81 : gh_chkB 7 128 "birth" 2 gk_81 = true := by decide +kernel
set_option maxRecDepth 100000 in
theorem gh_h82 : gh_chkB 7 128 "death" 4 gk_82 = true := by decide +kernel
set_option maxRecDepth 100000 in
theorem gh_h83 : gh_chkB 7 128 "people" 1 gk_83 = true := by decide +kernel
set_option maxRecDepth 100000 in
theorem gh_h84 : gh_chkB 7 128 "isAlive" 2 gk_84 = true := by decide +kernel
set_option maxRecDepth 100000 in
theorem gh_h85 : gh_chkB 7 128 "proof" 5 gk_85 = true := by decide +kernel
set_option maxRecDepth 100000 in
theorem gh_h86 : gh_chkB 7 128 "doubt" 4 gk_86 = true := by decide +kernel
set_option maxRecDepth 100000 in
theorem gh_h87 : gh_chkB 7 128 "judge" 3 gk_87 = true := by decide +kernel
set_option maxRecDepth 100000 in
theorem gh_h88 : gh_chkB 7 128 "strength" 2 gk_88 = true := by decide +kernel
set_option maxRecDepth 100000 in
theorem gh_h89 : gh_chkB 7 128 "openDoubts" 3 gk_89 = true := by decide +kernel
set_option maxRecDepth 100000 in
theorem gh_h90 : gh_chkB 7 128 "parentOf" 3 gk_90 = true := by decide +kernel
set_option maxRecDepth 100000 in
theorem gh_h91 : gh_chkB 7 128 "childrenOf" 2 gk_91 = true := by decide +kernel
set_option maxRecDepth 100000 in
theorem gh_h92 : gh_chkB 7 128 "will" 4 gk_92 = true := by decide +kernel
set_option maxRecDepth 100000 in
theorem gh_h93 : gh_chkB 7 128 "claim" 4 gk_93 = true := by decide +kernel
set_option maxRecDepth 100000 in
theorem gh_h94 : gh_chkB 7 128 "claims" 2 gk_94 = true := by decide +kernel
set_option maxRecDepth 100000 in
theorem gh_h95 : gh_chkB 7 128 "close" 3 gk_95 = true := by decide +kernel
set_option maxRecDepth 100000 in
theorem gh_h96 : gh_chkB 7 128 "isClosed" 2 gk_96 = true := by decide +kernel
set_option maxRecDepth 100000 in
theorem gh_h97 : gh_chkB 7 128 "shareAbove" 3 gk_97 = true := by decide +kernel
set_option maxRecDepth 100000 in
theorem gh_h98 : gh_chkB 7 128 "shareBelow" 3 gk_98 = true := by decide +kernel
set_option maxRecDepth 100000 in
theorem gh_h99 : gh_chkB 7 128 "shareAboveByWays" 3 gk_99 = true := by decide +kernel
set_option maxRecDepth 100000 in
theorem gh_h100 : gh_chkB 7 128 "heirs" 2 gk_100 = true := by decide +kernel
set_option maxRecDepth 100000 in
theorem gh_h101 : gh_chkB 7 128 "disputes" 6 gk_101 = true := by decide +kernel
set_option maxRecDepth 100000 in
theorem gh_h102 : gh_chkB 7 128 "reopenings" 2 gk_102 = true := by decide +kernel
set_option maxRecDepth 100000 in
theorem gh_h103 : gh_chkB 7 128 "grant" 4 gk_103 = true := by decide +kernel
set_option maxRecDepth 100000 in
theorem gh_h104 : gh_chkB 7 128 "hand" 6 gk_104 = true := by decide +kernel
set_option maxRecDepth 100000 in
theorem gh_h105 : gh_chkB 7 128 "owner" 2 gk_105 = true := by decide +kernel
set_option maxRecDepth 100000 in
theorem gh_h106 : gh_chkB 7 128 "ownerAnew" 3 gk_106 = true := by decide +kernel
set_option maxRecDepth 100000 in
theorem gh_h107 : gh_chkB 7 128 "area" 2 gk_107 = true := by decide +kernel
set_option maxRecDepth 100000 in
theorem gh_h108 : gh_chkB 7 128 "parcels" 3 gk_108 = true := by decide +kernel
set_option maxRecDepth 100000 in
theorem gh_h109 : gh_chkB 7 128 "parcelAt" 3 gk_109 = true := by decide +kernel
set_option maxRecDepth 100000 in
theorem gh_h110 : gh_chkB 7 128 "requirePerson" 2 gk_110 = true := by decide +kernel
set_option maxRecDepth 100000 in
theorem gh_h111 : gh_chkB 7 128 "requireProof" 2 gk_111 = true := by decide +kernel
set_option maxRecDepth 100000 in
theorem gh_h112 : gh_chkB 7 128 "requireUnit" 2 gk_112 = true := by decide +kernel
set_option maxRecDepth 100000 in
theorem gh_h113 : gh_chkB 7 128 "requireWeight" 3 gk_113 = true := by decide +kernel
set_option maxRecDepth 100000 in
theorem gh_h114 : gh_chkB 7 128 "requireOthers" 3 gk_114 = true := by decide +kernel
set_option maxRecDepth 100000 in
theorem gh_h115 : gh_chkB 7 128 "requireUnits" 3 gk_115 = true := by decide +kernel
set_option maxRecDepth 100000 in
theorem gh_h116 : gh_chkB 7 128 "requireAlive" 2 gk_116 = true := by decide +kernel
set_option maxRecDepth 100000 in
theorem gh_h117 : gh_chkB 7 128 "requireDead" 2 gk_117 = true := by decide +kernel
set_option maxRecDepth 100000 in
theorem gh_h118 : gh_chkB 7 128 "requireUnclosed" 2 gk_118 = true := by decide +kernel
set_option maxRecDepth 100000 in
theorem gh_h119 : gh_chkB 7 128 "sharesNow" 3 gk_119 = true := by decide +kernel
set_option maxRecDepth 100000 in
theorem gh_h120 : gh_chkB 7 128 "wouldBeOthers" 4 gk_120 = true := by decide +kernel
set_option maxRecDepth 100000 in
theorem gh_h121 : gh_chkB 7 128 "retellKin" 4 gk_121 = true := by decide +kernel
set_option maxRecDepth 100000 in
theorem gh_h122 : gh_chkB 7 128 "reopen" 2 gk_122 = true := by decide +kernel
set_option maxRecDepth 100000 in
theorem gh_h123 : gh_chkB 7 128 "isIn" 2 gk_123 = true := by decide +kernel
set_option maxRecDepth 100000 in
theorem gh_h124 : gh_chkB 10 128 "bitCount" 1 gk_124 = true := by decide +kernel
set_option maxRecDepth 100000 in
theorem gh_h125 : gh_chkB 12 128 "fill" 4 gk_125 = true := by decide +kernel
set_option maxRecDepth 100000 in
theorem gh_h126 : gh_chkB 12 128 "fill" 5 gk_126 = true := by decide +kernel
set_option maxRecDepth 100000 in
theorem gh_h127 : gh_chkB 9 128 "drawn" 3 gk_127 = true := by decide +kernel
def gh_HOK (μ : Nat) : Prop := ∃ q m, gh_yt[μ]? = some q ∧ gh_mt[μ]? = some m ∧ gh_chkB m.1 128 q.1.name q.2.2.1 m.2.2.2 = true
theorem gh_H0 : gh_HOK 0 := ⟨_, _, rfl, rfl, gh_h0⟩
theorem gh_H1 : gh_HOK 1 := ⟨_, _, rfl, rfl, gh_h1⟩
theorem gh_H2 : gh_HOK 2 := ⟨_, _, rfl, rfl, gh_h2⟩
theorem gh_H3 : gh_HOK 3 := ⟨_, _, rfl, rfl, gh_h3⟩
theorem gh_H4 : gh_HOK 4 := ⟨_, _, rfl, rfl, gh_h4⟩
theorem gh_H5 : gh_HOK 5 := ⟨_, _, rfl, rfl, gh_h5⟩
theorem gh_H6 : gh_HOK 6 := ⟨_, _, rfl, rfl, gh_h6⟩
theorem gh_H7 : gh_HOK 7 := ⟨_, _, rfl, rfl, gh_h7⟩
theorem gh_H8 : gh_HOK 8 := ⟨_, _, rfl, rfl, gh_h8⟩
theorem gh_H9 : gh_HOK 9 := ⟨_, _, rfl, rfl, gh_h9⟩
theorem gh_H10 : gh_HOK 10 := ⟨_, _, rfl, rfl, gh_h10⟩
theorem gh_H11 : gh_HOK 11 := ⟨_, _, rfl, rfl, gh_h11⟩
theorem gh_H12 : gh_HOK 12 := ⟨_, _, rfl, rfl, gh_h12⟩
theorem gh_H13 : gh_HOK 13 := ⟨_, _, rfl, rfl, gh_h13⟩
theorem gh_H14 : gh_HOK 14 := ⟨_, _, rfl, rfl, gh_h14⟩
theorem gh_H15 : gh_HOK 15 := ⟨_, _, rfl, rfl, gh_h15⟩
theorem gh_H16 : gh_HOK 16 := ⟨_, _, rfl, rfl, gh_h16⟩
theorem gh_H17 : gh_HOK 17 := ⟨_, _, rfl, rfl, gh_h17⟩
theorem gh_H18 : gh_HOK 18 := ⟨_, _, rfl, rfl, gh_h18⟩
theorem gh_H19 : gh_HOK 19 := ⟨_, _, rfl, rfl, gh_h19⟩
theorem gh_H20 : gh_HOK 20 := ⟨_, _, rfl, rfl, gh_h20⟩
theorem gh_H21 : gh_HOK 21 := ⟨_, _, rfl, rfl, gh_h21⟩
theorem gh_H22 : gh_HOK 22 := ⟨_, _, rfl, rfl, gh_h22⟩
theorem gh_H23 : gh_HOK 23 := ⟨_, _, rfl, rfl, gh_h23⟩
theorem gh_H24 : gh_HOK 24 := ⟨_, _, rfl, rfl, gh_h24⟩
theorem gh_H25 : gh_HOK 25 := ⟨_, _, rfl, rfl, gh_h25⟩
theorem gh_H26 : gh_HOK 26 := ⟨_, _, rfl, rfl, gh_h26⟩
theorem gh_H27 : gh_HOK 27 := ⟨_, _, rfl, rfl, gh_h27⟩
theorem gh_H28 : gh_HOK 28 := ⟨_, _, rfl, rfl, gh_h28⟩
theorem gh_H29 : gh_HOK 29 := ⟨_, _, rfl, rfl, gh_h29⟩
theorem gh_H30 : gh_HOK 30 := ⟨_, _, rfl, rfl, gh_h30⟩
theorem gh_H31 : gh_HOK 31 := ⟨_, _, rfl, rfl, gh_h31⟩
theorem gh_H32 : gh_HOK 32 := ⟨_, _, rfl, rfl, gh_h32⟩
theorem gh_H33 : gh_HOK 33 := ⟨_, _, rfl, rfl, gh_h33⟩
theorem gh_H34 : gh_HOK 34 := ⟨_, _, rfl, rfl, gh_h34⟩
theorem gh_H35 : gh_HOK 35 := ⟨_, _, rfl, rfl, gh_h35⟩
theorem gh_H36 : gh_HOK 36 := ⟨_, _, rfl, rfl, gh_h36⟩
theorem gh_H37 : gh_HOK 37 := ⟨_, _, rfl, rfl, gh_h37⟩
theorem gh_H38 : gh_HOK 38 := ⟨_, _, rfl, rfl, gh_h38⟩
theorem gh_H39 : gh_HOK 39 := ⟨_, _, rfl, rfl, gh_h39⟩
theorem gh_H40 : gh_HOK 40 := ⟨_, _, rfl, rfl, gh_h40⟩
theorem gh_H41 : gh_HOK 41 := ⟨_, _, rfl, rfl, gh_h41⟩
theorem gh_H42 : gh_HOK 42 := ⟨_, _, rfl, rfl, gh_h42⟩
theorem gh_H43 : gh_HOK 43 := ⟨_, _, rfl, rfl, gh_h43⟩
theorem gh_H44 : gh_HOK 44 := ⟨_, _, rfl, rfl, gh_h44⟩
theorem gh_H45 : gh_HOK 45 := ⟨_, _, rfl, rfl, gh_h45⟩
theorem gh_H46 : gh_HOK 46 := ⟨_, _, rfl, rfl, gh_h46⟩
theorem gh_H47 : gh_HOK 47 := ⟨_, _, rfl, rfl, gh_h47⟩
theorem gh_H48 : gh_HOK 48 := ⟨_, _, rfl, rfl, gh_h48⟩
theorem gh_H49 : gh_HOK 49 := ⟨_, _, rfl, rfl, gh_h49⟩
theorem gh_H50 : gh_HOK 50 := ⟨_, _, rfl, rfl, gh_h50⟩
theorem gh_H51 : gh_HOK 51 := ⟨_, _, rfl, rfl, gh_h51⟩
theorem gh_H52 : gh_HOK 52 := ⟨_, _, rfl, rfl, gh_h52⟩
theorem gh_H53 : gh_HOK 53 := ⟨_, _, rfl, rfl, gh_h53⟩
theorem gh_H54 : gh_HOK 54 := ⟨_, _, rfl, rfl, gh_h54⟩
theorem gh_H55 : gh_HOK 55 := ⟨_, _, rfl, rfl, gh_h55⟩
theorem gh_H56 : gh_HOK 56 := ⟨_, _, rfl, rfl, gh_h56⟩
theorem gh_H57 : gh_HOK 57 := ⟨_, _, rfl, rfl, gh_h57⟩
theorem gh_H58 : gh_HOK 58 := ⟨_, _, rfl, rfl, gh_h58⟩
theorem gh_H59 : gh_HOK 59 := ⟨_, _, rfl, rfl, gh_h59⟩
theorem gh_H60 : gh_HOK 60 := ⟨_, _, rfl, rfl, gh_h60⟩
theorem gh_H61 : gh_HOK 61 := ⟨_, _, rfl, rfl, gh_h61⟩
theorem gh_H62 : gh_HOK 62 := ⟨_, _, rfl, rfl, gh_h62⟩
theorem gh_H63 : gh_HOK 63 := ⟨_, _, rfl, rfl, gh_h63⟩
theorem gh_H64 : gh_HOK 64 := ⟨_, _, rfl, rfl, gh_h64⟩
theorem gh_H65 : gh_HOK 65 := ⟨_, _, rfl, rfl, gh_h65⟩
theorem gh_H66 : gh_HOK 66 := ⟨_, _, rfl, rfl, gh_h66⟩
theorem gh_H67 : gh_HOK 67 := ⟨_, _, rfl, rfl, gh_h67⟩
theorem gh_H68 : gh_HOK 68 := ⟨_, _, rfl, rfl, gh_h68⟩
theorem gh_H69 : gh_HOK 69 := ⟨_, _, rfl, rfl, gh_h69⟩
theorem gh_H70 : gh_HOK 70 := ⟨_, _, rfl, rfl, gh_h70⟩
theorem gh_H71 : gh_HOK 71 := ⟨_, _, rfl, rfl, gh_h71⟩
theorem gh_H72 : gh_HOK 72 := ⟨_, _, rfl, rfl, gh_h72⟩
theorem gh_H73 : gh_HOK 73 := ⟨_, _, rfl, rfl, gh_h73⟩
theorem gh_H74 : gh_HOK 74 := ⟨_, _, rfl, rfl, gh_h74⟩
theorem gh_H75 : gh_HOK 75 := ⟨_, _, rfl, rfl, gh_h75⟩
theorem gh_H76 : gh_HOK 76 := ⟨_, _, rfl, rfl, gh_h76⟩
theorem gh_H77 : gh_HOK 77 := ⟨_, _, rfl, rfl, gh_h77⟩
theorem gh_H78 : gh_HOK 78 := ⟨_, _, rfl, rfl, gh_h78⟩
theorem gh_H79 : gh_HOK 79 := ⟨_, _, rfl, rfl, gh_h79⟩
theorem gh_H80 : gh_HOK 80 := ⟨_, _, rfl, rfl, gh_h80⟩
theorem gh_H81 : gh_HOK 81 := ⟨_, _, rfl, rfl, gh_h81⟩
theorem gh_H82 : gh_HOK 82 := ⟨_, _, rfl, rfl, gh_h82⟩
theorem gh_H83 : gh_HOK 83 := ⟨_, _, rfl, rfl, gh_h83⟩
theorem gh_H84 : gh_HOK 84 := ⟨_, _, rfl, rfl, gh_h84⟩
theorem gh_H85 : gh_HOK 85 := ⟨_, _, rfl, rfl, gh_h85⟩
theorem gh_H86 : gh_HOK 86 := ⟨_, _, rfl, rfl, gh_h86⟩
theorem gh_H87 : gh_HOK 87 := ⟨_, _, rfl, rfl, gh_h87⟩
theorem gh_H88 : gh_HOK 88 := ⟨_, _, rfl, rfl, gh_h88⟩
theorem gh_H89 : gh_HOK 89 := ⟨_, _, rfl, rfl, gh_h89⟩
theorem gh_H90 : gh_HOK 90 := ⟨_, _, rfl, rfl, gh_h90⟩
theorem gh_H91 : gh_HOK 91 := ⟨_, _, rfl, rfl, gh_h91⟩
theorem gh_H92 : gh_HOK 92 := ⟨_, _, rfl, rfl, gh_h92⟩
theorem gh_H93 : gh_HOK 93 := ⟨_, _, rfl, rfl, gh_h93⟩
theorem gh_H94 : gh_HOK 94 := ⟨_, _, rfl, rfl, gh_h94⟩
theorem gh_H95 : gh_HOK 95 := ⟨_, _, rfl, rfl, gh_h95⟩
theorem gh_H96 : gh_HOK 96 := ⟨_, _, rfl, rfl, gh_h96⟩
theorem gh_H97 : gh_HOK 97 := ⟨_, _, rfl, rfl, gh_h97⟩
theorem gh_H98 : gh_HOK 98 := ⟨_, _, rfl, rfl, gh_h98⟩
theorem gh_H99 : gh_HOK 99 := ⟨_, _, rfl, rfl, gh_h99⟩
theorem gh_H100 : gh_HOK 100 := ⟨_, _, rfl, rfl, gh_h100⟩
theorem gh_H101 : gh_HOK 101 := ⟨_, _, rfl, rfl, gh_h101⟩
theorem gh_H102 : gh_HOK 102 := ⟨_, _, rfl, rfl, gh_h102⟩
theorem gh_H103 : gh_HOK 103 := ⟨_, _, rfl, rfl, gh_h103⟩
theorem gh_H104 : gh_HOK 104 := ⟨_, _, rfl, rfl, gh_h104⟩
theorem gh_H105 : gh_HOK 105 := ⟨_, _, rfl, rfl, gh_h105⟩
theorem gh_H106 : gh_HOK 106 := ⟨_, _, rfl, rfl, gh_h106⟩
theorem gh_H107 : gh_HOK 107 := ⟨_, _, rfl, rfl, gh_h107⟩
theorem gh_H108 : gh_HOK 108 := ⟨_, _, rfl, rfl, gh_h108⟩
theorem gh_H109 : gh_HOK 109 := ⟨_, _, rfl, rfl, gh_h109⟩
theorem gh_H110 : gh_HOK 110 := ⟨_, _, rfl, rfl, gh_h110⟩
theorem gh_H111 : gh_HOK 111 := ⟨_, _, rfl, rfl, gh_h111⟩
theorem gh_H112 : gh_HOK 112 := ⟨_, _, rfl, rfl, gh_h112⟩
theorem gh_H113 : gh_HOK 113 := ⟨_, _, rfl, rfl, gh_h113⟩
theorem gh_H114 : gh_HOK 114 := ⟨_, _, rfl, rfl, gh_h114⟩
theorem gh_H115 : gh_HOK 115 := ⟨_, _, rfl, rfl, gh_h115⟩
theorem gh_H116 : gh_HOK 116 := ⟨_, _, rfl, rfl, gh_h116⟩
theorem gh_H117 : gh_HOK 117 := ⟨_, _, rfl, rfl, gh_h117⟩
theorem gh_H118 : gh_HOK 118 := ⟨_, _, rfl, rfl, gh_h118⟩
theorem gh_H119 : gh_HOK 119 := ⟨_, _, rfl, rfl, gh_h119⟩
theorem gh_H120 : gh_HOK 120 := ⟨_, _, rfl, rfl, gh_h120⟩
theorem gh_H121 : gh_HOK 121 := ⟨_, _, rfl, rfl, gh_h121⟩
theorem gh_H122 : gh_HOK 122 := ⟨_, _, rfl, rfl, gh_h122⟩
theorem gh_H123 : gh_HOK 123 := ⟨_, _, rfl, rfl, gh_h123⟩
theorem gh_H124 : gh_HOK 124 := ⟨_, _, rfl, rfl, gh_h124⟩
theorem gh_H125 : gh_HOK 125 := ⟨_, _, rfl, rfl, gh_h125⟩
theorem gh_H126 : gh_HOK 126 := ⟨_, _, rfl, rfl, gh_h126⟩
theorem gh_H127 : gh_HOK 127 := ⟨_, _, rfl, rfl, gh_h127⟩
theorem gh_Hg0 : ∀ μ ∈ ([0, 1, 2, 3, 4, 5, 6, 7, 8, 9, 10, 11, 12, 13, 14, 15, 16, 17, 18, 19, 20, 21, 22, 23, 24, 25, 26, 27] : List Nat), gh_HOK μ := List.forall_mem_cons.mpr ⟨gh_H0, List.forall_mem_cons.mpr ⟨gh_H1, List.forall_mem_cons.mpr ⟨gh_H2, List.forall_mem_cons.mpr ⟨gh_H3, List.forall_mem_cons.mpr ⟨gh_H4, List.forall_mem_cons.mpr ⟨gh_H5, List.forall_mem_cons.mpr ⟨gh_H6, List.forall_mem_cons.mpr ⟨gh_H7, List.forall_mem_cons.mpr ⟨gh_H8, List.forall_mem_cons.mpr ⟨gh_H9, List.forall_mem_cons.mpr ⟨gh_H10, List.forall_mem_cons.mpr ⟨gh_H11, List.forall_mem_cons.mpr ⟨gh_H12, List.forall_mem_cons.mpr ⟨gh_H13, List.forall_mem_cons.mpr ⟨gh_H14, List.forall_mem_cons.mpr ⟨gh_H15, List.forall_mem_cons.mpr ⟨gh_H16, List.forall_mem_cons.mpr ⟨gh_H17, List.forall_mem_cons.mpr ⟨gh_H18, List.forall_mem_cons.mpr ⟨gh_H19, List.forall_mem_cons.mpr ⟨gh_H20, List.forall_mem_cons.mpr ⟨gh_H21, List.forall_mem_cons.mpr ⟨gh_H22, List.forall_mem_cons.mpr ⟨gh_H23, List.forall_mem_cons.mpr ⟨gh_H24, List.forall_mem_cons.mpr ⟨gh_H25, List.forall_mem_cons.mpr ⟨gh_H26, List.forall_mem_cons.mpr ⟨gh_H27, (fun _ h => absurd h List.not_mem_nil)⟩⟩⟩⟩⟩⟩⟩⟩⟩⟩⟩⟩⟩⟩⟩⟩⟩⟩⟩⟩⟩⟩⟩⟩⟩⟩⟩⟩
theorem gh_Hg1 : ∀ μ ∈ ([28, 29, 30, 31, 32, 33, 34, 35, 36, 37, 38, 39, 40, 41, 42, 43, 44, 45, 46, 47, 48, 49, 50, 51, 52, 53, 54, 55] : List Nat), gh_HOK μ := List.forall_mem_cons.mpr ⟨gh_H28, List.forall_mem_cons.mpr ⟨gh_H29, List.forall_mem_cons.mpr ⟨gh_H30, List.forall_mem_cons.mpr ⟨gh_H31, List.forall_mem_cons.mpr ⟨gh_H32, List.forall_mem_cons.mpr ⟨gh_H33, List.forall_mem_cons.mpr ⟨gh_H34, List.forall_mem_cons.mpr ⟨gh_H35, List.forall_mem_cons.mpr ⟨gh_H36, List.forall_mem_cons.mpr ⟨gh_H37, List.forall_mem_cons.mpr ⟨gh_H38, List.forall_mem_cons.mpr ⟨gh_H39, List.forall_mem_cons.mpr ⟨gh_H40, List.forall_mem_cons.mpr ⟨gh_H41, List.forall_mem_cons.mpr ⟨gh_H42, List.forall_mem_cons.mpr ⟨gh_H43, List.forall_mem_cons.mpr ⟨gh_H44, List.forall_mem_cons.mpr ⟨gh_H45, List.forall_mem_cons.mpr ⟨gh_H46, List.forall_mem_cons.mpr ⟨gh_H47, List.forall_mem_cons.mpr ⟨gh_H48, List.forall_mem_cons.mpr ⟨gh_H49, List.forall_mem_cons.mpr ⟨gh_H50, List.forall_mem_cons.mpr ⟨gh_H51, List.forall_mem_cons.mpr ⟨gh_H52, List.forall_mem_cons.mpr ⟨gh_H53, List.forall_mem_cons.mpr ⟨gh_H54, List.forall_mem_cons.mpr ⟨gh_H55, (fun _ h => absurd h List.not_mem_nil)⟩⟩⟩⟩⟩⟩⟩⟩⟩⟩⟩⟩⟩⟩⟩⟩⟩⟩⟩⟩⟩⟩⟩⟩⟩⟩⟩⟩
theorem gh_Hg2 : ∀ μ ∈ ([56, 57, 58, 59, 60, 61, 62, 63, 64, 65, 66, 67, 68, 69, 70, 71, 72, 73, 74, 75, 76, 77, 78, 79, 80, 81, 82, 83] : List Nat), gh_HOK μ := List.forall_mem_cons.mpr ⟨gh_H56, List.forall_mem_cons.mpr ⟨gh_H57, List.forall_mem_cons.mpr ⟨gh_H58, List.forall_mem_cons.mpr ⟨gh_H59, List.forall_mem_cons.mpr ⟨gh_H60, List.forall_mem_cons.mpr ⟨gh_H61, List.forall_mem_cons.mpr ⟨gh_H62, List.forall_mem_cons.mpr ⟨gh_H63, List.forall_mem_cons.mpr ⟨gh_H64, List.forall_mem_cons.mpr ⟨gh_H65, List.forall_mem_cons.mpr ⟨gh_H66, List.forall_mem_cons.mpr ⟨gh_H67, List.forall_mem_cons.mpr ⟨gh_H68, List.forall_mem_cons.mpr ⟨gh_H69, List.forall_mem_cons.mpr ⟨gh_H70, List.forall_mem_cons.mpr ⟨gh_H71, List.forall_mem_cons.mpr ⟨gh_H72, List.forall_mem_cons.mpr ⟨gh_H73, List.forall_mem_cons.mpr ⟨gh_H74, List.forall_mem_cons.mpr ⟨gh_H75, List.forall_mem_cons.mpr ⟨gh_H76, List.forall_mem_cons.mpr ⟨gh_H77, List.forall_mem_cons.mpr ⟨gh_H78, List.forall_mem_cons.mpr ⟨gh_H79, List.forall_mem_cons.mpr ⟨gh_H80, List.forall_mem_cons.mpr ⟨gh_H81, List.forall_mem_cons.mpr ⟨gh_H82, List.forall_mem_cons.mpr ⟨gh_H83, (fun _ h => absurd h List.not_mem_nil)⟩⟩⟩⟩⟩⟩⟩⟩⟩⟩⟩⟩⟩⟩⟩⟩⟩⟩⟩⟩⟩⟩⟩⟩⟩⟩⟩⟩
theorem gh_Hg3 : ∀ μ ∈ ([84, 85, 86, 87, 88, 89, 90, 91, 92, 93, 94, 95, 96, 97, 98, 99, 100, 101, 102, 103, 104, 105, 106, 107, 108, 109, 110, 111] : List Nat), gh_HOK μ := List.forall_mem_cons.mpr ⟨gh_H84, List.forall_mem_cons.mpr ⟨gh_H85, List.forall_mem_cons.mpr ⟨gh_H86, List.forall_mem_cons.mpr ⟨gh_H87, List.forall_mem_cons.mpr ⟨gh_H88, List.forall_mem_cons.mpr ⟨gh_H89, List.forall_mem_cons.mpr ⟨gh_H90, List.forall_mem_cons.mpr ⟨gh_H91, List.forall_mem_cons.mpr ⟨gh_H92, List.forall_mem_cons.mpr ⟨gh_H93, List.forall_mem_cons.mpr ⟨gh_H94, List.forall_mem_cons.mpr ⟨gh_H95, List.forall_mem_cons.mpr ⟨gh_H96, List.forall_mem_cons.mpr ⟨gh_H97, List.forall_mem_cons.mpr ⟨gh_H98, List.forall_mem_cons.mpr ⟨gh_H99, List.forall_mem_cons.mpr ⟨gh_H100, List.forall_mem_cons.mpr ⟨gh_H101, List.forall_mem_cons.mpr ⟨gh_H102, List.forall_mem_cons.mpr ⟨gh_H103, List.forall_mem_cons.mpr ⟨gh_H104, List.forall_mem_cons.mpr ⟨gh_H105, List.forall_mem_cons.mpr ⟨gh_H106, List.forall_mem_cons.mpr ⟨gh_H107, List.forall_mem_cons.mpr ⟨gh_H108, List.forall_mem_cons.mpr ⟨gh_H109, List.forall_mem_cons.mpr ⟨gh_H110, List.forall_mem_cons.mpr ⟨gh_H111, (fun _ h => absurd h List.not_mem_nil)⟩⟩⟩⟩⟩⟩⟩⟩⟩⟩⟩⟩⟩⟩⟩⟩⟩⟩⟩⟩⟩⟩⟩⟩⟩⟩⟩⟩
theorem gh_Hg4 : ∀ μ ∈ ([112, 113, 114, 115, 116, 117, 118, 119, 120, 121, 122, 123, 124, 125, 126, 127] : List Nat), gh_HOK μ := List.forall_mem_cons.mpr ⟨gh_H112, List.forall_mem_cons.mpr ⟨gh_H113, List.forall_mem_cons.mpr ⟨gh_H114, List.forall_mem_cons.mpr ⟨gh_H115, List.forall_mem_cons.mpr ⟨gh_H116, List.forall_mem_cons.mpr ⟨gh_H117, List.forall_mem_cons.mpr ⟨gh_H118, List.forall_mem_cons.mpr ⟨gh_H119, List.forall_mem_cons.mpr ⟨gh_H120, List.forall_mem_cons.mpr ⟨gh_H121, List.forall_mem_cons.mpr ⟨gh_H122, List.forall_mem_cons.mpr ⟨gh_H123, List.forall_mem_cons.mpr ⟨gh_H124, List.forall_mem_cons.mpr ⟨gh_H125, List.forall_mem_cons.mpr ⟨gh_H126, List.forall_mem_cons.mpr ⟨gh_H127, (fun _ h => absurd h List.not_mem_nil)⟩⟩⟩⟩⟩⟩⟩⟩⟩⟩⟩⟩⟩⟩⟩⟩
theorem gh_Hall (μ : Nat) (h : μ < 128) : gh_HOK μ := by
  by_cases h0 : μ < 28
  · exact gh_Hg0 μ (by simp only [List.mem_cons, List.not_mem_nil, or_false]; omega)
  by_cases h1 : μ < 56
  · exact gh_Hg1 μ (by simp only [List.mem_cons, List.not_mem_nil, or_false]; omega)
  by_cases h2 : μ < 84
  · exact gh_Hg2 μ (by simp only [List.mem_cons, List.not_mem_nil, or_false]; omega)
  by_cases h3 : μ < 112
  · exact gh_Hg3 μ (by simp only [List.mem_cons, List.not_mem_nil, or_false]; omega)
  by_cases h4 : μ < 128
  · exact gh_Hg4 μ (by simp only [List.mem_cons, List.not_mem_nil, or_false]; omega)
  exact absurd h (by omega)
end
section
/-! CALLS: a method's contract at one ghost run, and how a caller uses it -/
def gh_Pre (z : gh_Z) (fz : Bool) (as : List Value) (G : gh_H) : Array Value → State → Prop := va_Pc (as.map (gh_em z)) (fun U => gh_Rel z G U.heap ∧ gh_KB z U ∧ (fz = false → U.heap.size + 1 = z.2.2.2.1 + G.length))
def gh_Qo (z : gh_Z) (o : gh_O) (G' : gh_H) : Array Value → State → Outcome → State → Prop := fun _ st oc t => ∃ v, o = .inl v ∧ oc = .returned (v.map (gh_em z)) ∧ gh_Rel z G' t.heap ∧ va_F (gh_A z) st t
def gh_Xo (z : gh_Z) (o : gh_O) (G' : gh_H) : String → State → State → Prop := fun E st t => ∃ k, o = .inr k ∧ E = gh_es k ∧ gh_Rel z G' t.heap ∧ va_F (gh_A z) st t
def gh_th (o : gh_O) : Nat := match o with
  | .inl _ => 0
  | .inr _ => 1
def gh_rm (d mc ms : Nat) : Room := { frames := 8 + d, cells := mc, slots := ms, locals := 200 + 40 * d }
def gh_wsY (q : MethodName × ByteArray × Nat × Option FieldType × Nat) : List Cond := Cond.code q.1 q.2.1 q.2.2.1 q.2.2.2.1 :: gh_wsG
def gh_mc (G G' : gh_H) (o : gh_O) : Nat := G'.length - G.length + gh_th o
def gh_ms (G G' : gh_H) (o : gh_O) : Nat := gh_sz G' - gh_sz G + 6 * gh_th o
def gh_Con (l : Launch) (z : gh_Z) (fz : Bool) (d : Nat) (q : MethodName × ByteArray × Nat × Option FieldType × Nat) (as : List Value) (G : gh_H) (o : gh_O) (G' : gh_H) : Prop :=
  vx_Met l q.1 (gh_wsY q) (gh_rm d (gh_mc G G' o) (gh_ms G G' o)) (gh_Pre z fz as G) (gh_Qo z o G') (gh_Xo z o G') (gh_mc G G' o) (gh_ms G G' o) (gh_A z)
theorem gh_Pre_blind (z : gh_Z) (fz : Bool) (as : List Value) (G : gh_H) : FrameBlind (gh_Pre z fz as G) := fun _ _ _ _ h => ⟨h.1, h.2.1, gh_KB_call h.2.2.1, h.2.2.2⟩
section GC
variable {z : gh_Z} {p : Program} {l : Launch} {e : Env} {R : Room} {s : State} {m : MethodId} {args : Array Value} {below : List Frame} {meth : Method} {c : Code} {nL g0 z0 k0 y0 own : Nat} {Q : State → Prop} {cc : ByteArray} {rt : Option FieldType} {nm : String} {pc pc' : Nat} {lo lo' : gh_L} {st st' : List Value} {G G' : gh_H}
theorem gh_Rel_low {H : Heap} (hR : gh_Rel z G H) : z.2.2.2.1 + G.length ≤ H.size + 1 ∨ G.length ≤ 1 := by
  by_cases h : G.length ≤ 1
  · exact Or.inr h
  · left
    have h1 := gh_W_get (z := z) (G := G) (a := G.length - 1) (c := G[G.length - 1]'(by omega)) (List.getElem?_eq_getElem (by omega)) (by omega)
    have h2 := (hR.1 _ _ h1).lt
    have h3 : gh_ad z (G.length - 1) = z.2.2.2.1 + (G.length - 1 - 1) := by
      unfold gh_ad
      rw [if_neg (by omega)]
    have h4 : gh_ad z (G.length - 1) < H.size := h2
    omega
theorem gh_size_eq {H : Heap} {T : State} {locs : List Loc} {cells slots : Nat} (hKB : gh_KB z s) (he0 : s.heap.size + 1 = z.2.2.2.1 + g0) (hg : g0 ≤ G.length) (hR : gh_Rel z G H) (hS : va_S (gh_A z) s.heap H locs) (hT : T.heap = H) (X : Stand p l e R s m args below meth c T locs cells slots) (hc : cells = G.length - g0) : H.size + 1 = z.2.2.2.1 + G.length := by
  have hup : H.size ≤ s.heap.size + cells := by
    have h := X.same.2.2.1
    rw [← hT]
    exact h
  have hlo := hS.1
  have hb := hKB.2.2.2.1
  have hl : 1 ≤ G.length := by
    cases G with
    | nil => rcases hR.2 with h | h <;> cases h
    | cons _ _ => simp
  rcases gh_Rel_low hR with h | h <;> omega
theorem gh_callB {q : MethodName × ByteArray × Nat × Option FieldType × Nat} {idx mc ms d n : Nat} (hts : ∀ w ∈ gh_wsG, w.before args s = true) (hY : gh_yOK q) (hl : Cond.methodLink (gh_on own) idx q.1 ∈ gh_wsG) (hn : (parseMethodDescriptor q.1.desc).map (fun d => d.parameters.length) = some n) (hR : 8 + d + 1 ≤ R.frames ∧ 8 + (q.2.2.1 + 11) + (200 + 40 * d) ≤ R.locals) :
    CallB R s args (gh_on own) idx q.1 q.2.1 q.2.2.1 q.2.2.2.1 (gh_wsY q) (gh_rm d mc ms) mc ms n := by
  refine callB_of (Ts := gh_wsG) (ws' := gh_wsG) n hts (fun w hw => ?_) rfl rfl rfl (hts _ hY.2.1) (hts _ hl) ⟨hY.2.2.1.1, hY.2.2.1.2, hn⟩ hR
  rcases List.mem_cons.mp hw with rfl | hw
  · exact gh_goodIn _ hY.1
  · exact gh_goodIn _ hw
theorem gh_callN {q : MethodName × ByteArray × Nat × Option FieldType × Nat} {idx mc ms d n : Nat} {host : String} (hts : ∀ w ∈ gh_wsG, w.before args s = true) (hKB : gh_KB z s) (hY : gh_yOK q) (hl : Cond.methodLinkNest (gh_on own) idx q.1 host ∈ gh_nst) (hn : (parseMethodDescriptor q.1.desc).map (fun d => d.parameters.length) = some n) (hR : 8 + d + 1 ≤ R.frames ∧ 8 + (q.2.2.1 + 11) + (200 + 40 * d) ≤ R.locals) :
    va_CN R s args (gh_on own) idx q.1 host q.2.1 q.2.2.1 q.2.2.2.1 (gh_wsY q) (gh_rm d mc ms) mc ms n := by
  refine va_cnB (Ts := gh_wsG) (ws' := gh_wsG) n hts (fun w hw => ?_) rfl rfl rfl (hKB.2.2.2.2.1 _ hl) (hts _ hY.2.1) ⟨hY.2.2.1.1, hY.2.2.1.2, hn⟩ hR
  rcases List.mem_cons.mp hw with rfl | hw
  · exact gh_goodIn _ hY.1
  · exact gh_goodIn _ hw
theorem gh_call_inv {μn : Option (Nat × Nat)} {μ : Nat} {as r : List Value} (h : gh_call μn st = some (.inr (.inr (μ, as, r)))) : ∃ n, μn = some (μ, n) ∧ n ≤ st.length ∧ gh_cat r ≤ 8 ∧ as = (st.take n).reverse ∧ r = st.drop n := by
  unfold gh_call at h
  split at h
  · split at h
    · next hq =>
      cases h
      exact ⟨_, rfl, hq.1, hq.2, rfl, rfl⟩
    · cases h
  · cases h
/-- a caller's place behind a call -/
theorem gh_behind {q : MethodName × ByteArray × Nat × Option FieldType × Nat} {as r : List Value} {o : gh_O} {G1 : gh_H} {H : Heap} {locs : List Loc} {ls : Array Slot} {T : State} {a9 : Array Value} (hg : g0 ≤ G.length) (hz : z0 ≤ gh_sz G) (hg1 : G.length ≤ G1.length) (hz1 : gh_sz G ≤ gh_sz G1) (hKB : gh_KB z s) (hR : gh_Rel z G H) (hS : va_S (gh_A z) s.heap H locs) (hl : lv_has ls nL (gh_lm z lo)) (hT : T.heap = H) (X : Stand p l e R s m args below meth c T locs (G.length - g0 + k0) (gh_sz G - z0 + y0))
    (hr : vx_Run p l e R s m args below meth c H locs (G.length - g0 + k0) (gh_sz G - z0 + y0) (gh_mc G G1 o) (gh_ms G G1 o) (F0 m pc ls (st.map (gh_em z))) (r.map (gh_em z)) (gh_Qo z o G1 a9) (gh_Xo z o G1) (gh_A z))
    (kret : ∀ v, o = .inl v → gh_T z p l e R s m args below meth c nL g0 z0 Q k0 y0 (pc + 3) lo (v.toList ++ r) G1)
    (kthr : ∀ E, o = .inr E → ∀ (H1 : Heap) (locs1 : List Loc) (q9 : Addr) (ce : Cell), gh_Rel z G1 H1 → va_S (gh_A z) s.heap H1 locs1 → H1[q9]? = some ce → ce.vm = .none → s.vm.findClass (gh_es E) = some ce.cls → lv_has ls nL (gh_lm z lo) → vx_W p l e R s m args below meth c H1 locs1 (G1.length - g0 + k0 + 1) (gh_sz G1 - z0 + y0 + 6) Q (F0 m pc ls (r.map (gh_em z))) q9) :
    ∃ t, Steps p.tables e below (T.setTop (F0 m pc ls (st.map (gh_em z)))) t ∧ Q t := by
  have hA : ∀ q : Nat, q < H.size → gh_A z q → gh_A z q := fun _ _ h => h
  rcases hr T hT X with ⟨v, st₀, t, T', L, h0, X', hL, e1, e2, ⟨v0, ho, hv, hR1, hF⟩, st1⟩ | ⟨q9, st₀, t, T', L, E, ce, h0, X', hL, e1, e2, ⟨k9, ho, hE, hR1, hF⟩, hce, hcv, hcl, st1⟩
  · obtain ⟨k1, k2, k3⟩ := vx_keep h0 e1 hS hA (fun _ h => h) hL hF
    cases hv
    subst ho
    have X2 : Stand p l e R s m args below meth c T' (locs ++ L) (G1.length - g0 + k0) (gh_sz G1 - z0 + y0) := by
      have e5 : G.length - g0 + k0 + gh_mc G G1 (.inl v0) = G1.length - g0 + k0 := by simp only [gh_mc, gh_th]; omega
      have e6 : gh_sz G - z0 + y0 + gh_ms G G1 (.inl v0) = gh_sz G1 - z0 + y0 := by simp only [gh_ms, gh_th]; omega
      rw [e5, e6] at X'
      exact X'
    obtain ⟨t2, a1, b1⟩ := kret v0 rfl T'.heap (locs ++ L) ls (by rw [e1]; exact hR1) k3 hl T' rfl X2
    refine ⟨t2, st1 t2 ?_, b1⟩
    have e7 : (v0.map (gh_em z)).toList ++ r.map (gh_em z) = (v0.toList ++ r).map (gh_em z) := by cases v0 <;> rfl
    show Steps p.tables e below (T'.setTop (F0 m (pc + 3) ls ((v0.map (gh_em z)).toList ++ r.map (gh_em z)))) t2
    rw [e7]
    exact a1
  · obtain ⟨k1, k2, k3⟩ := vx_keep h0 e1 hS hA (fun _ h => h) hL hF
    subst ho
    subst hE
    have X2 : Stand p l e R s m args below meth c T' (locs ++ L) (G1.length - g0 + k0 + 1) (gh_sz G1 - z0 + y0 + 6) := by
      have e5 : G.length - g0 + k0 + gh_mc G G1 (.inr k9) = G1.length - g0 + k0 + 1 := by simp only [gh_mc, gh_th]; omega
      have e6 : gh_sz G - z0 + y0 + gh_ms G G1 (.inr k9) = gh_sz G1 - z0 + y0 + 6 := by simp only [gh_ms, gh_th]; omega
      rw [e5, e6] at X'
      exact X'
    obtain ⟨t2, a1, b1⟩ := kthr k9 rfl T'.heap (locs ++ L) q9 ce (by rw [e1]; exact hR1) k3 (by rw [e1]; exact hce) hcv hcl hl T' rfl X2
    exact ⟨t2, st1.trans a1, b1⟩
theorem gh_take_map {n : Nat} {as r : List Value} (h1 : n ≤ st.length) (h2 : as = (st.take n).reverse) (h3 : r = st.drop n) : st = as.reverse ++ r ∧ as.length = n := by
  subst h2; subst h3
  refine ⟨by rw [List.reverse_reverse, List.take_append_drop], ?_⟩
  rw [List.length_reverse, List.length_take]
  omega
set_option maxHeartbeats 1000000 in
theorem gh_callW (hC : gh_Cx z p s m args meth c own cc nL rt nm) {i : Instr} {fz : Bool} {d top μ : Nat} {as r : List Value} {o : gh_O} {G1 : gh_H} {q : MethodName × ByteArray × Nat × Option FieldType × Nat} (hd : decode cc pc = .ok (i, 3)) (hkn : gh_knP own top i) (hμ : μ < 128) (h : gh_step fz own rt pc i 3 lo st G = some (.inr (.inr (μ, as, r)))) (hq : gh_yt[μ]? = some q) {fz' : Bool} (hCon : gh_Con l z fz' d q as G o G1) (he0 : fz' = false → s.heap.size + 1 = z.2.2.2.1 + g0 ∧ k0 = 0) (hg : g0 ≤ G.length) (hz : z0 ≤ gh_sz G) (hg1 : G.length ≤ G1.length) (hz1 : gh_sz G ≤ gh_sz G1) (hfr : 8 + d + 1 ≤ R.frames) (hlo : 8 + (12 + 11) + (200 + 40 * d) ≤ R.locals) (hcells : G1.length - g0 + k0 + gh_th o ≤ R.cells) (hslots : gh_sz G1 - z0 + y0 + 6 * gh_th o ≤ R.slots)
    (kret : ∀ v, o = .inl v → gh_T z p l e R s m args below meth c nL g0 z0 Q k0 y0 (pc + 3) lo (v.toList ++ r) G1)
    (kthr : ∀ E, o = .inr E → ∀ (H1 : Heap) (locs1 : List Loc) (ls : Array Slot) (q9 : Addr) (ce : Cell), gh_Rel z G1 H1 → va_S (gh_A z) s.heap H1 locs1 → H1[q9]? = some ce → ce.vm = .none → s.vm.findClass (gh_es E) = some ce.cls → lv_has ls nL (gh_lm z lo) → vx_W p l e R s m args below meth c H1 locs1 (G1.length - g0 + k0 + 1) (gh_sz G1 - z0 + y0 + 6) Q (F0 m pc ls (r.map (gh_em z))) q9) :
    gh_T z p l e R s m args below meth c nL g0 z0 Q k0 y0 pc lo st G := by
  obtain ⟨hx, hb, hml, -, -, hown, hts, hKB, -⟩ := hC
  obtain ⟨o9, hmo, -, hmo2⟩ := gh_moK hμ hq
  have hget : gh_mo.getD μ (0, 9) = (o9, q.2.2.2.2) := by rw [List.getD_eq_getElem?_getD, hmo]; rfl
  have hY : ∀ idx n, gh_mR own idx = some (μ, n) → gh_mOK own (idx, μ, n) := fun idx n hm => gh_mAll own _ (gh_look hm) hμ
  intro H locs ls hR hS hl T hT X
  have hpre : ∀ U : State, U.heap = H → s.WarmedH U.vm → gh_Pre z fz' as G (as.map (gh_em z)).toArray U := by
    intro U hU hW
    refine ⟨rfl, by rw [hU]; exact hR, gh_KB_moved (locs := locs) hKB hW (by rw [hU]; exact hS), fun hf => ?_⟩
    obtain ⟨h1, h2⟩ := he0 hf
    rw [hU]
    exact gh_size_eq hKB h1 hg hR hS hT X (by rw [h2]; rfl)
  have hf9 : G.length - g0 + k0 + gh_mc G G1 o ≤ R.cells ∧ gh_sz G - z0 + y0 + gh_ms G G1 o ≤ R.slots := by
    unfold gh_mc gh_ms
    omega
  have hlen : ls.size = nL := hl.1
  cases i with
  | invokevirtual idx =>
    simp only [gh_step] at h
    split at h
    · next hrcv =>
      obtain ⟨n, hm, hn, hcat, has, hr⟩ := gh_call_inv h
      obtain ⟨hst, hal⟩ := gh_take_map hn has hr
      obtain ⟨-, hk0⟩ := hkn μ n hm
      rw [hget] at hk0
      have hk0 : q.2.2.2.2 = 0 := hk0
      obtain ⟨q', hq', hyo, hpn, hlink⟩ := hY idx n hm
      cases Option.some.inj (hq'.symm.trans hq)
      have hlink : Cond.methodLink (gh_on own) idx q.1 ∈ gh_wsG := by
        rcases hlink with h1 | ⟨h1, -⟩
        · exact h1
        · exact absurd hk0 h1
      -- the receiver
      rw [hm] at hrcv
      simp only [gh_rcv] at hrcv
      split at hrcv
      · next a o1 hsa ho1 =>
        rw [hmo, hk0] at ho1
        cases ho1
        simp only [Bool.and_eq_true, decide_eq_true_eq, Option.isSome_iff_exists] at hrcv
        obtain ⟨hn0, vs, hvs⟩ := hrcv
        obtain ⟨T9, N9, hcl⟩ := hmo2 hk0
        have hG := gh_at_inv hvs
        have hci := (gh_cls _ _ _ _ hcl).1
        have hGa := gh_W_get (z := z) hG (gh_at0 hR hG (by omega))
        rw [gh_ce_o z vs hci] at hGa
        obtain ⟨cB, hcB1, hcB2, hcB3⟩ := va_recv hKB.1 hR.1 hcl hGa
        -- the arguments: the receiver first
        obtain ⟨as', rfl⟩ : ∃ as', as = .ref a :: as' := by
          have h1 : as[0]? = some (.ref a) := by
            rw [has, List.getElem?_reverse (by rw [List.length_take]; omega), List.length_take, List.getElem?_take, if_pos (by omega), show min n st.length - 1 - 0 = n - 1 by omega]
            exact hsa
          cases as with
          | nil => cases h1
          | cons b as' => exact ⟨as', by cases h1; rfl⟩
        have hpn' : (parseMethodDescriptor q.1.desc).map (fun d => d.parameters.length) = some as'.length := by
          have e1 : (if q.2.2.2.2 = 1 then (0 : Nat) else 1) = 1 := by rw [hk0]; rfl
          cases hpd : parseMethodDescriptor q.1.desc with
          | none => rw [hpd] at hpn; cases hpn
          | some D =>
            rw [hpd] at hpn
            simp only [Option.map_some, Option.some.injEq] at hpn ⊢
            rw [e1] at hpn
            rw [List.length_cons] at hal
            omega
        rcases hyo.2.2.2.2.2 with ⟨-, hin, hsel⟩ | ⟨h1, -⟩ | ⟨h1, -⟩
        · have cb := gh_callB (R := R) (own := own) (mc := gh_mc G G1 o) (ms := gh_ms G G1 o) (d := d) hts hyo hlink hpn' ⟨hfr, by have := hyo.2.2.2.2.1; omega⟩
          have hrun := vx_runV (p := p) (l := l) (e := e) (R := R) (s := s) (m := m) (args := args) (below := below) (meth := meth) (c := c) (H := H) (locs := locs) (cells := G.length - g0 + k0) (slots := gh_sz G - z0 + y0) (C := q.1.cls) (b := gh_ad z a) (As := as'.map (gh_em z)) (rest := r.map (gh_em z)) (g := F0 m pc ls (st.map (gh_em z))) ⟨hx, hb, hml, hown, hts⟩ hCon ⟨cb, hts _ hin, hts _ hsel⟩ ⟨gh_Pre_blind z fz' _ G, ⟨cB, hcB1, hcB2, hcB3⟩, hpre⟩ rfl (by rw [List.length_map]) hlen (by rw [hst]; simp [gh_em]) (by rw [gh_es_cat]; exact (show 2 * 0 + gh_cat r ≤ 8 by omega)) hd hf9
          exact gh_behind (q := q) (as := .ref a :: as') hg hz hg1 hz1 hKB hR hS hl hT X hrun kret (fun E hE H1 locs1 q9 ce a1 a2 a3 a4 a5 a6 => kthr E hE H1 locs1 ls q9 ce a1 a2 a3 a4 a5 a6)
        · rw [hk0] at h1; cases h1
        · rw [hk0] at h1; cases h1
      · cases hrcv
    · cases h
  | invokestatic idx =>
    simp only [gh_step] at h
    split at h
    · simp only [gh_mm] at h
      split at h
      · split at h <;> cases h
      · cases h
    · split at h
      · simp only [gh_acopy] at h
        split at h
        · split at h
          · split at h <;> cases h
          · cases h
        · cases h
      · obtain ⟨n, hm, hn, hcat, has, hr⟩ := gh_call_inv h
        obtain ⟨hst, hal⟩ := gh_take_map hn has hr
        obtain ⟨-, hk0⟩ := hkn μ n hm
        rw [hget] at hk0
        have hk0 : q.2.2.2.2 = 1 := hk0
        obtain ⟨q', hq', hyo, hpn, hlink⟩ := hY idx n hm
        cases Option.some.inj (hq'.symm.trans hq)
        have hpn' : (parseMethodDescriptor q.1.desc).map (fun d => d.parameters.length) = some as.length := by
          have e1 : (if q.2.2.2.2 = 1 then (0 : Nat) else 1) = 0 := by rw [hk0]; rfl
          rw [hal]
          rw [e1] at hpn
          exact hpn
        rcases hyo.2.2.2.2.2 with ⟨h1, -⟩ | ⟨-, hstt⟩ | ⟨h1, -⟩
        · rw [hk0] at h1; cases h1
        · rcases hlink with hlink | ⟨-, host, hlink⟩
          · have cb := gh_callB (R := R) (own := own) (mc := gh_mc G G1 o) (ms := gh_ms G G1 o) (d := d) hts hyo hlink hpn' ⟨hfr, by have := hyo.2.2.2.2.1; omega⟩
            have hrun := vx_runS (p := p) (l := l) (e := e) (R := R) (s := s) (m := m) (args := args) (below := below) (meth := meth) (c := c) (H := H) (locs := locs) (cells := G.length - g0 + k0) (slots := gh_sz G - z0 + y0) (As := as.map (gh_em z)) (rest := r.map (gh_em z)) (g := F0 m pc ls (st.map (gh_em z))) ⟨hx, hb, hml, hown, hts⟩ hCon ⟨cb, hts _ hstt⟩ ⟨gh_Pre_blind z fz' _ G, hpre⟩ rfl (by rw [List.length_map]) hlen (by rw [hst]; simp) (by rw [gh_es_cat]; exact (show 2 * 0 + gh_cat r ≤ 8 by omega)) hd hf9
            exact gh_behind (q := q) (as := as) hg hz hg1 hz1 hKB hR hS hl hT X hrun kret (fun E hE H1 locs1 q9 ce a1 a2 a3 a4 a5 a6 => kthr E hE H1 locs1 ls q9 ce a1 a2 a3 a4 a5 a6)
          · have cb := gh_callN (R := R) (own := own) (mc := gh_mc G G1 o) (ms := gh_ms G G1 o) (d := d) hts hKB hyo hlink hpn' ⟨hfr, by have := hyo.2.2.2.2.1; omega⟩
            have hrun := vx_runSN (p := p) (l := l) (e := e) (R := R) (s := s) (m := m) (args := args) (below := below) (meth := meth) (c := c) (H := H) (locs := locs) (cells := G.length - g0 + k0) (slots := gh_sz G - z0 + y0) (As := as.map (gh_em z)) (rest := r.map (gh_em z)) (g := F0 m pc ls (st.map (gh_em z))) ⟨hx, hb, hml, hown, hts⟩ hCon ⟨cb, hts _ hstt, trivial⟩ ⟨gh_Pre_blind z fz' _ G, hpre⟩ rfl (by rw [List.length_map]) hlen (by rw [hst]; simp) (by rw [gh_es_cat]; exact (show 2 * 0 + gh_cat r ≤ 8 by omega)) hd hf9
            exact gh_behind (q := q) (as := as) hg hz hg1 hz1 hKB hR hS hl hT X hrun kret (fun E hE H1 locs1 q9 ce a1 a2 a3 a4 a5 a6 => kthr E hE H1 locs1 ls q9 ce a1 a2 a3 a4 a5 a6)
        · rw [hk0] at h1; cases h1
  | invokespecial idx =>
    simp only [gh_step] at h
    split at h
    · split at h
      · split at h <;> cases h
      · cases h
    · split at h
      · next hrcv =>
        obtain ⟨n, hm, hn, hcat, has, hr⟩ := gh_call_inv h
        obtain ⟨hst, hal⟩ := gh_take_map hn has hr
        obtain ⟨-, hk0⟩ := hkn μ n hm
        rw [hget] at hk0
        have hk0 : q.2.2.2.2 = 2 := hk0
        obtain ⟨q', hq', hyo, hpn, hlink⟩ := hY idx n hm
        cases Option.some.inj (hq'.symm.trans hq)
        rw [hm] at hrcv
        simp only [gh_rcs] at hrcv
        split at hrcv
        · next a hsa =>
          have hn0 := of_decide_eq_true hrcv
          obtain ⟨as', rfl⟩ : ∃ as', as = .ref a :: as' := by
            have h1 : as[0]? = some (.ref a) := by
              rw [has, List.getElem?_reverse (by rw [List.length_take]; omega), List.length_take, List.getElem?_take, if_pos (by omega), show min n st.length - 1 - 0 = n - 1 by omega]
              exact hsa
            cases as with
            | nil => cases h1
            | cons b as' => exact ⟨as', by cases h1; rfl⟩
          have hpn' : (parseMethodDescriptor q.1.desc).map (fun d => d.parameters.length) = some as'.length := by
            have e1 : (if q.2.2.2.2 = 1 then (0 : Nat) else 1) = 1 := by rw [hk0]; rfl
            cases hpd : parseMethodDescriptor q.1.desc with
            | none => rw [hpd] at hpn; cases hpn
            | some D =>
              rw [hpd] at hpn
              simp only [Option.map_some, Option.some.injEq] at hpn ⊢
              rw [e1] at hpn
              rw [List.length_cons] at hal
              omega
          rcases hyo.2.2.2.2.2 with ⟨h1, -⟩ | ⟨h1, -⟩ | ⟨-, hnm9, hrt9, hin⟩
          · rw [hk0] at h1; cases h1
          · rw [hk0] at h1; cases h1
          · rcases hlink with hlink | ⟨-, host, hlink⟩
            · have cb := gh_callB (R := R) (own := own) (mc := gh_mc G G1 o) (ms := gh_ms G G1 o) (d := d) hts hyo hlink hpn' ⟨hfr, by have := hyo.2.2.2.2.1; omega⟩
              rw [hrt9] at cb
              have hrun := vx_runI (p := p) (l := l) (e := e) (R := R) (s := s) (m := m) (args := args) (below := below) (meth := meth) (c := c) (H := H) (locs := locs) (cells := G.length - g0 + k0) (slots := gh_sz G - z0 + y0) (b := gh_ad z a) (As := as'.map (gh_em z)) (rest := r.map (gh_em z)) (g := F0 m pc ls (st.map (gh_em z))) ⟨hx, hb, hml, hown, hts⟩ hCon ⟨cb, hnm9, hts _ hin⟩ ⟨gh_Pre_blind z fz' _ G, hpre⟩ rfl (by rw [List.length_map]) hlen (by rw [hst]; simp [gh_em]) (by rw [gh_es_cat]; exact (show 2 * 0 + gh_cat r ≤ 8 by omega)) hd hf9
              exact gh_behind (q := q) (as := .ref a :: as') hg hz hg1 hz1 hKB hR hS hl hT X hrun kret (fun E hE H1 locs1 q9 ce a1 a2 a3 a4 a5 a6 => kthr E hE H1 locs1 ls q9 ce a1 a2 a3 a4 a5 a6)
            · have cb := gh_callN (R := R) (own := own) (mc := gh_mc G G1 o) (ms := gh_ms G G1 o) (d := d) hts hKB hyo hlink hpn' ⟨hfr, by have := hyo.2.2.2.2.1; omega⟩
              rw [hrt9] at cb
              have hrun := vx_runIN (p := p) (l := l) (e := e) (R := R) (s := s) (m := m) (args := args) (below := below) (meth := meth) (c := c) (H := H) (locs := locs) (cells := G.length - g0 + k0) (slots := gh_sz G - z0 + y0) (b := gh_ad z a) (As := as'.map (gh_em z)) (rest := r.map (gh_em z)) (g := F0 m pc ls (st.map (gh_em z))) ⟨hx, hb, hml, hown, hts⟩ hCon ⟨cb, hnm9, hts _ hin⟩ ⟨gh_Pre_blind z fz' _ G, hpre⟩ rfl (by rw [List.length_map]) hlen (by rw [hst]; simp [gh_em]) (by rw [gh_es_cat]; exact (show 2 * 0 + gh_cat r ≤ 8 by omega)) hd hf9
              exact gh_behind (q := q) (as := .ref a :: as') hg hz hg1 hz1 hKB hR hS hl hT X hrun kret (fun E hE H1 locs1 q9 ce a1 a2 a3 a4 a5 a6 => kthr E hE H1 locs1 ls q9 ce a1 a2 a3 a4 a5 a6)
        · cases hrcv
      · cases h
  | _ =>
    first
    | exact absurd (show (none : Option gh_R) = some (.inr (.inr (μ, as, r))) from h) (by simp)
    | (simp only [gh_step, gh_go, gh_push, gh_pop1, gh_pop2, gh_bin, gh_binJ, gh_binD, gh_binZ, gh_jmp, gh_sw, gh_get, gh_put, gh_ald, gh_ast, gh_len, gh_newa, gh_new, gh_ret] at h
       repeat' split at h
       all_goals cases h)
end GC
end
section
/-! EVERY PLAIN METHOD KEEPS ITS CONTRACT AT EVERY GHOST RUN -/
theorem gh_put_mono {ty : FieldType} {ci k pc pc' : Nat} {l l' : gh_L} {st st' : List Value} {G G' : gh_H} (h : gh_put ty ci k pc l st G = some (.inl (pc', l', st', G'))) : G.length ≤ G'.length ∧ gh_sz G ≤ gh_sz G' := by
  unfold gh_put at h
  split at h
  · split at h
    · next hat =>
      split at h
      · obtain ⟨rfl, rfl, rfl, rfl⟩ := gh_go_inv h
        exact ⟨by rw [List.length_set]; exact Nat.le_refl _, by rw [gh_sz_set (gh_at_inv hat) (List.length_set ..)]; exact Nat.le_refl _⟩
      · cases h
    · cases h
  · cases h
theorem gh_ast_mono {f : Value → Bool} {kd pc pc' : Nat} {l l' : gh_L} {st st' : List Value} {G G' : gh_H} (h : gh_ast kd pc f l st G = some (.inl (pc', l', st', G'))) : G.length ≤ G'.length ∧ gh_sz G ≤ gh_sz G' := by
  obtain ⟨v, i, a, vs, -, hG, -, -, -, -, -, rfl⟩ := gh_ast_inv h
  exact ⟨by rw [List.length_set]; exact Nat.le_refl _, by rw [gh_sz_set hG (List.length_set ..)]; exact Nat.le_refl _⟩
theorem gh_newa_mono {fz : Bool} {kv : Option (Nat × Value)} {pc pc' : Nat} {l l' : gh_L} {st st' : List Value} {G G' : gh_H} (h : gh_newa fz kv pc l st G = some (.inl (pc', l', st', G'))) : G.length ≤ G'.length ∧ gh_sz G ≤ gh_sz G' := by
  obtain ⟨kd, v, n, r, -, -, -, -, -, -, -, -, rfl⟩ := gh_newa_inv h
  exact ⟨by rw [List.length_append]; omega, by rw [gh_sz_push]; omega⟩
theorem gh_new_mono {fz : Bool} {own idx pc pc' : Nat} {l l' : gh_L} {st st' : List Value} {G G' : gh_H} (h : gh_new fz own idx pc l st G = some (.inl (pc', l', st', G'))) : G.length ≤ G'.length ∧ gh_sz G ≤ gh_sz G' := by
  unfold gh_new at h
  split at h
  · split at h <;> cases h
  · split at h
    · split at h
      · obtain ⟨rfl, rfl, rfl, rfl⟩ := gh_go_inv h
        exact ⟨by rw [List.length_append]; omega, by rw [gh_sz_push]; omega⟩
      · cases h
    · cases h
theorem gh_acopy_mono {pc pc' : Nat} {l l' : gh_L} {st st' : List Value} {G G' : gh_H} (h : gh_acopy pc l st G = some (.inl (pc', l', st', G'))) : G.length ≤ G'.length ∧ gh_sz G ≤ gh_sz G' := by
  unfold gh_acopy at h
  split at h
  · split at h
    · next hG0 hG1 =>
      split at h
      · obtain ⟨rfl, rfl, rfl, rfl⟩ := gh_go_inv h
        exact ⟨by rw [List.length_set]; exact Nat.le_refl _, by rw [gh_sz_set hG1 (gh_cpy_len ..)]; exact Nat.le_refl _⟩
      · cases h
    · cases h
  · cases h
set_option maxHeartbeats 4000000 in
theorem gh_step_mono {fz : Bool} {own : Nat} {rt : Option FieldType} {pc pc' len : Nat} {i : Instr} {l l' : gh_L} {st st' : List Value} {G G' : gh_H} (h : gh_step fz own rt pc i len l st G = some (.inl (pc', l', st', G'))) : G.length ≤ G'.length ∧ gh_sz G ≤ gh_sz G' := by
  cases i with
  | putfield idx =>
    simp only [gh_step] at h
    split at h
    · exact gh_put_mono h
    · cases h
  | iastore => exact gh_ast_mono h
  | lastore => exact gh_ast_mono h
  | bastore => exact gh_ast_mono h
  | aastore => exact gh_ast_mono h
  | new idx => exact gh_new_mono h
  | newarray t => exact gh_newa_mono h
  | anewarray idx =>
    simp only [gh_step] at h
    split at h
    · exact gh_newa_mono h
    · cases h
  | invokestatic idx =>
    simp only [gh_step] at h
    split at h
    · simp only [gh_mm, gh_go] at h
      (repeat' split at h) <;> first | (cases h; exact ⟨Nat.le_refl _, Nat.le_refl _⟩) | cases h
    · split at h
      · exact gh_acopy_mono h
      · simp only [gh_call] at h
        (repeat' split at h) <;> cases h
  | _ =>
    first
    | exact absurd (show (none : Option gh_R) = some (.inl (pc', l', st', G')) from h) (by simp)
    | (simp only [gh_step, gh_go, gh_push, gh_pop1, gh_pop2, gh_bin, gh_binJ, gh_binD, gh_binZ, gh_jmp, gh_sw, gh_get, gh_ald, gh_len, gh_ret, gh_call] at h
       repeat' split at h
       all_goals first | (cases h; exact ⟨Nat.le_refl _, Nat.le_refl _⟩) | cases h)
theorem gh_ex_mono {fz : Bool} {C : Nat → List Value → gh_H → Option (gh_O × gh_H)} {own : Nat} {rt : Option FieldType} {hnd : Nat → Nat → Option (Nat × Nat)} {K : List (Nat × Instr × Nat)} (hCm : ∀ μ as G o G', C μ as G = some (o, G') → G.length ≤ G'.length ∧ gh_sz G ≤ gh_sz G') :
    ∀ (n pc : Nat) (l : gh_L) (st : List Value) (G : gh_H) (o : gh_O) (G' : gh_H), gh_ex fz C own rt hnd K n pc l st G = some (o, G') → G.length ≤ G'.length ∧ gh_sz G ≤ gh_sz G' := by
  intro n
  induction n with
  | zero => intro pc l st G o G' h; cases h
  | succ n ih =>
    intro pc l st G o G' h
    rw [gh_ex] at h
    split at h
    · cases h
    · split at h
      · cases h
      · next pc1 l1 st1 G1 hs =>
        have h1 := gh_step_mono hs
        have h2 := ih _ _ _ _ _ _ h
        omega
      · cases h; omega
      · split at h
        · cases h
        · next v G1 hc =>
          have h1 := hCm _ _ _ _ _ hc
          have h2 := ih _ _ _ _ _ _ h
          omega
        · next E G1 hc =>
          have h1 := hCm _ _ _ _ _ hc
          split at h
          · cases h; exact h1
          · have h2 := ih _ _ _ _ _ _ h
            omega
theorem gh_cl_mono {fz : Bool} {N : Nat} : ∀ (d μ : Nat) (as : List Value) (G : gh_H) (o : gh_O) (G' : gh_H), gh_cl fz N d μ as G = some (o, G') → G.length ≤ G'.length ∧ gh_sz G ≤ gh_sz G' := by
  intro d
  induction d with
  | zero => intro μ as G o G' h; cases h
  | succ d ih =>
    intro μ as G o G' h
    rw [gh_cl] at h
    split at h
    · split at h
      · exact gh_ex_mono ih _ _ _ _ _ _ _ h
      · cases h
    · cases h
theorem gh_args_em (z : gh_Z) : ∀ (as : List Value) (i : Nat), lv_args i (as.map (gh_em z)) = gh_lm z (lv_args i as) := by
  intro as
  induction as with
  | nil => intro i; rfl
  | cons v as ih =>
    intro i
    show (i, gh_em z v) :: lv_args (if (gh_em z v).category = 2 then i + 2 else i + 1) (as.map (gh_em z)) = (i, gh_em z v) :: gh_lm z (lv_args (if v.category = 2 then i + 2 else i + 1) as)
    rw [gh_em_cat, ih]
theorem gh_sl_len (z : gh_Z) (as : List Value) : (lg_sl (as.map (gh_em z))).length = gh_cat as := by
  unfold lg_sl gh_cat
  induction as with
  | nil => rfl
  | cons v as ih =>
    rw [List.map_cons, List.flatMap_cons, List.length_append, ih, List.map_cons, List.sum_cons, gh_em_cat]
    congr 1
    cases v <;> rfl
section GN
variable {z : gh_Z} {p : Program} {l : Launch} {e : Env} {R : Room} {s : State} {m : MethodId} {args : Array Value} {below : List Frame} {meth : Method} {c : Code} {nL g0 z0 k0 y0 own : Nat} {Q : State → Prop} {cc : ByteArray} {rt : Option FieldType} {nm : String} {pc pc' : Nat} {lo lo' : gh_L} {st st' : List Value} {G G' : gh_H}
theorem gh_ret_inv {f : Value → Bool} {o : gh_O} (h : gh_ret f rt st = some (.inr (.inl o))) : ∃ v ty, st = [v] ∧ f v = true ∧ rt = some ty ∧ narrow ty v = v ∧ o = .inl (some v) := by
  unfold gh_ret at h
  split at h
  · next v =>
    split at h
    · next hq =>
      cases h
      cases rt with
      | none => cases hq.2
      | some ty => exact ⟨v, ty, rfl, hq.1, rfl, of_decide_eq_true hq.2, rfl⟩
    · cases h
  · cases h
/-- a return -/
theorem gh_retT (hC : gh_Cx z p s m args meth c own cc nL rt nm) {i : Instr} {len : Nat} {fz : Bool} {v : Option Value} (hd : decode cc pc = .ok (i, len)) (hlen : gh_lenP i len) (h : gh_step fz own rt pc i len lo st G = some (.inr (.inl (.inl v)))) :
    gh_T z p l e R s m args below meth c nL g0 z0 (vx_MQ below (gh_Qo z (.inl v) G) (gh_Xo z (.inl v) G) args s (G.length - g0 + k0) (gh_sz G - z0 + y0) (gh_A z)) k0 y0 pc lo st G := by
  obtain ⟨hx, hb, hml, hr, hlk, hown, hts, hKB, -⟩ := hC
  intro H locs ls hR hS hl
  have hq : ∀ (w : Option Value), w = v → ∀ t : State, t.heap = H → s.WarmedH t.vm → gh_Qo z (.inl v) G args s (.returned (w.map (gh_em z))) t := fun w hw t ht _ => ⟨v, rfl, by rw [hw], by rw [ht]; exact hR, hS.F ht⟩
  refine vx_ret ?_
  cases i with
  | ireturn =>
    obtain rfl : len = _ := hlen
    obtain ⟨w, ty, rfl, hf, rfl, hn, ho⟩ := gh_ret_inv h
    obtain ⟨x, rfl⟩ := gh_isI_inv hf
    cases ho
    exact W.zret hx hb hr hn (hq (some (.int x)) rfl) hS.2.2 hd hlk
  | lreturn =>
    obtain rfl : len = _ := hlen
    simp only [gh_step] at h
    split at h
    · next hrt =>
      obtain ⟨w, ty, rfl, hf, -, hn, ho⟩ := gh_ret_inv h
      obtain ⟨x, rfl⟩ := gh_isJ_inv hf
      cases ho
      exact W.lret hx hb (hr.trans hrt) (hq (some (.long x)) rfl) hS.2.2 hd hlk
    · cases h
  | areturn =>
    obtain rfl : len = _ := hlen
    simp only [gh_step] at h
    split at h
    · next hrt =>
      obtain ⟨w, ty, rfl, hf, rfl, hn, ho⟩ := gh_ret_inv h
      obtain ⟨x, rfl⟩ := gh_isA_inv hf
      cases ho
      have hty : (∃ n, ty = .object n) ∨ ∃ t, ty = .array t := by
        cases ty with
        | object n => exact Or.inl ⟨n, rfl⟩
        | _ => cases hrt
      exact W.aret hx hb hr hty (Or.inr ⟨_, rfl⟩) (hq (some (.ref x)) rfl) hS.2.2 hd hlk
    · cases h
  | return_ =>
    obtain rfl : len = _ := hlen
    simp only [gh_step] at h
    split at h
    · split at h
      · next hrt =>
        cases h
        exact W.vret hx hb (hr.trans hrt) (hq none rfl) hS.2.2 hd hlk
      · cases h
    · cases h
  | _ =>
    first
    | exact absurd (show (none : Option gh_R) = some (.inr (.inl (.inl v))) from h) (by simp)
    | (simp only [gh_step, gh_go, gh_push, gh_pop1, gh_pop2, gh_bin, gh_binJ, gh_binD, gh_binZ, gh_jmp, gh_sw, gh_get, gh_put, gh_ald, gh_ast, gh_len, gh_newa, gh_new, gh_ret, gh_call, gh_mm, gh_acopy] at h
       repeat' split at h
       all_goals cases h)
end GN
end
section
/-! THROWS -/
theorem gh_names : ∀ n ∈ (["java/lang/RuntimeException", "java/lang/Exception"] : List String), Bundle.fit n = true := by decide +kernel
theorem gh_xfacts (E : Nat) (hE : E < 3) : (∀ w ∈ (vx_atS "Treeclerk" (gh_ic E) (gh_es E) ["java/lang/RuntimeException", "java/lang/Exception"]).filter goodWord, w ∈ lw_tbl) ∧ (∀ w ∈ (vx_atS "Treeclerk" (gh_ic E) (gh_es E) ["java/lang/RuntimeException", "java/lang/Exception"]).filter (fun w => !goodWord w), w ∈ gh_nst) ∧
    (∀ w ∈ vx_atS "Treeclerk" (gh_ic E) (gh_es E) ["java/lang/RuntimeException", "java/lang/Exception"], vx_ot w = true) ∧ Bundle.fit (gh_es E) = true ∧ Cond.initialized (gh_es E) ∈ gh_wsG := by
  match E, hE with
  | 0, _ => exact ⟨gh_xa0, gh_xb0, gh_xc0, by decide +kernel, gh_xi0⟩
  | 1, _ => exact ⟨gh_xa1, gh_xb1, gh_xc1, by decide +kernel, gh_xi1⟩
  | 2, _ => exact ⟨gh_xa2, gh_xb2, gh_xc2, by decide +kernel, gh_xi2⟩
  | k + 3, h => exact absurd h (by omega)
theorem gh_thr_inv {own : Nat} {K : List (Nat × Instr × Nat)} (h : gh_thrB own K = true) {pc ik len E : Nat} (hm : (pc, Instr.new ik, len) ∈ K) (hx : gh_xR own ik = some E) : own = 7 ∧ E < 4 ∧ K.lookup (pc + 3) = some (.dup, 1) ∧
    ((∃ is, K.lookup (pc + 4) = some (.ldc is, 2) ∧ (∃ text, (is, text) ∈ gh_str) ∧ K.lookup (pc + 6) = some (.invokespecial (gh_ic E), 3) ∧ K.lookup (pc + 9) = some (.athrow, 1)) ∨
     (∃ is, K.lookup (pc + 4) = some (.ldc_w is, 3) ∧ (∃ text, (is, text) ∈ gh_str) ∧ K.lookup (pc + 7) = some (.invokespecial (gh_ic E), 3) ∧ K.lookup (pc + 10) = some (.athrow, 1))) := by
  have h1 := List.all_eq_true.mp h _ hm
  dsimp only at h1
  rw [hx] at h1
  simp only [Bool.and_eq_true, decide_eq_true_eq] at h1
  obtain ⟨⟨⟨h2, h3⟩, h4⟩, h5⟩ := h1
  refine ⟨h2, h3, h4, ?_⟩
  split at h5
  · next is hl =>
    simp only [Bool.and_eq_true, decide_eq_true_eq, Option.isSome_iff_exists] at h5
    obtain ⟨⟨⟨text, ht⟩, h6⟩, h7⟩ := h5
    exact Or.inl ⟨is, hl, ⟨text, gh_look ht⟩, h6, h7⟩
  · next is hl =>
    simp only [Bool.and_eq_true, decide_eq_true_eq, Option.isSome_iff_exists] at h5
    obtain ⟨⟨⟨text, ht⟩, h6⟩, h7⟩ := h5
    exact Or.inr ⟨is, hl, ⟨text, gh_look ht⟩, h6, h7⟩
  · cases h5
/-- the words of NoSuchElementException's throw: its own constructor hands on by another entry than the rest -/
def gh_nsB : ByteArray := ⟨#[0x2a, 0x2b, 0xb7, 0x00, 0x0d, 0xb1]⟩
theorem gh_ns0 : decode gh_nsB 0 = .ok (.aload_n 0, 1) := by decide +kernel
theorem gh_ns1 : decode gh_nsB 1 = .ok (.aload_n 1, 1) := by decide +kernel
theorem gh_ns2 : decode gh_nsB 2 = .ok (.invokespecial 13, 3) := by decide +kernel
theorem gh_ns5 : decode gh_nsB 5 = .ok (.return_, 1) := by decide +kernel
set_option maxRecDepth 100000 in
theorem gh_xi3 : Cond.initialized "java/util/NoSuchElementException" ∈ gh_wsG := gh_w 19 rfl rfl
def gh_nsX : String := "java/util/NoSuchElementException"
def gh_nsY : String := "java/lang/RuntimeException"
/-- what is asked beside the four words that speak of the heap -/
def gh_nsA : List Cond := Bundle.throwableAtoms ++ Bundle.throwableSAtoms ++ (Bundle.passSAtoms "java/util/NoSuchElementException" "java/lang/RuntimeException" 13 gh_nsB ++ Bundle.chainSAtoms "java/lang/RuntimeException" ["java/lang/Exception"]) ++
  [.methodLink "Treeclerk" 296 (Bundle.initS "java/util/NoSuchElementException"), .instantiable "java/util/NoSuchElementException" 6, .castable "java/util/NoSuchElementException" "java/util/NoSuchElementException", .selects "java/util/NoSuchElementException" Bundle.tFill0 Bundle.tFill0, .selects "java/util/NoSuchElementException" Bundle.tFill Bundle.tFill,
   .lays "java/util/NoSuchElementException" Bundle.tN "cause" "Ljava/lang/Throwable;", .lays "java/util/NoSuchElementException" Bundle.tN "stackTrace" Bundle.steD, .lays "java/util/NoSuchElementException" Bundle.tN "suppressedExceptions" Bundle.listD, .lays "java/util/NoSuchElementException" Bundle.tN "detailMessage" "Ljava/lang/String;",
   .isRef (.static Bundle.tN "UNASSIGNED_STACK" Bundle.steD), .isRef (.static Bundle.tN "SUPPRESSED_SENTINEL" Bundle.listD),
   .fieldLink Bundle.tN 198 Bundle.tN "backtrace" "Ljava/lang/Object;", .lays Bundle.tN Bundle.tN "backtrace" "Ljava/lang/Object;", .lays "java/util/NoSuchElementException" Bundle.tN "backtrace" "Ljava/lang/Object;"]
theorem gh_nsa : ∀ w ∈ (gh_nsA.filter vx_no).filter goodWord, w ∈ lw_tbl := by decide +kernel
theorem gh_nsb : ∀ w ∈ (gh_nsA.filter vx_no).filter (fun w => !goodWord w), w ∈ gh_nst := by decide +kernel
theorem gh_nsc : ∀ w ∈ gh_nsA.filter vx_no, vx_ot w = true := by decide +kernel
section GX
variable {p : Program} {l : Launch} {e : Env} {R : Room} {s : State} {m₀ : MethodId} {args : Array Value} {below : List Frame} {meth : Method} {c : Code} {W9 : State} {locs : List Loc} {cells slots : Nat}
set_option maxHeartbeats 2000000 in
/-- NoSuchElementException's constructor, then the throw: the way of the library's ctorThrowS, with one more kind of constructor ahead of the chain -/
theorem gh_ctorN (X : Stand p l e R s m₀ args below meth c W9 locs cells slots) (hexec : p.tables.exec = Jvm.exec) (htr : e.platform.stackTraces = false)
    (hown : s.vm.findClass "Treeclerk" = some m₀.cls) (h : ∀ a ∈ gh_nsA, a.before args s = true)
    (hlocs : ∀ x ∈ locs, ∀ cell, s.heap[x.base]? = some cell → cell.vm.isStatics = false)
    {a : Addr} {cX : ClassId} {kX : Class} (hfoundX : s.vm.findClass "java/util/NoSuchElementException" = some cX) (hkX : s.vm.classes[cX]? = some kX) (hcell : W9.heap[a]? = some (freshCell cX kX)) (hnew : s.heap.size ≤ a)
    {msg : Value} (hmsg : msg.isRef = true)
    {g : JFrame} (hg : g.method = m₀) (hsize : g.locals.size = c.maxLocals) (hlocked : g.locked = none) (hentered : g.entered = []) {rest : List Value} (hstack : g.stack = msg :: .ref a :: .ref a :: rest)
    (hd6 : decode c.code g.pc = .ok (.invokespecial 296, 3)) (hd9 : decode c.code (g.pc + 3) = .ok (.athrow, 1)) (hout : ∀ x ∈ c.exceptionTable.toList, covers x (g.pc + 3) = false)
    (hRframes : 6 < R.frames) (hRlocals : 2 * g.monitorRoom + ((Value.ref a :: rest).map fun v => v.category).sum + (13 * 3 + 42) ≤ R.locals) (hlocks : meth.locks = false) :
    ∃ U : State, Steps p.tables e below (W9.setTop g) U ∧ U.status = .running ∧ Ended U below (.threw a) ∧ s.WarmedH U.vm ∧ s.sameButNew ({ U with vm := s.vm } : State) locs cells slots ∧
      ∃ ce : Cell, U.heap[a]? = some ce ∧ ce.vm = .none ∧ s.vm.findClass "java/util/NoSuchElementException" = some ce.cls := by
  have howns : e.platform.frameOwnsMonitors = true := by rw [X.admits.platform]
  have hfin : e.platform.finalization = false := by rw [X.admits.platform]
  have hpl : e.platform.magicAccessors = ({} : Platform).magicAccessors := by rw [X.admits.platform]
  have a' : ∀ x, x ∈ gh_nsA → x.holds args s none s [] = true := fun x hx => h x hx
  obtain ⟨T, Z0, L, -, Y⟩ := ThrowableC.of_atoms (args := args) howns hfin hpl (fun x hx => h x (by simp [gh_nsA, hx]))
  obtain ⟨Z, M, LZ, LM, hnZ⟩ := Init0T.ofS_atoms (args := args) hpl L Y (fun x hx => h x (by simp [gh_nsA, hx]))
  obtain ⟨P1, Ps, hlen, L1, hL, hP1m, hlink1, hlink⟩ := Bundle.chainS (args := args) hpl hnZ ["java/lang/Exception"] "java/lang/RuntimeException" (by decide +kernel) (by decide +kernel) (fun x hx => h x (by simp [gh_nsA, hx]))
  obtain ⟨P0, L0, hP0m, hP0s⟩ := PassC.ofS_atoms (args := args) (s := s) hpl (X := "java/util/NoSuchElementException") (Y := "java/lang/RuntimeException") (by decide +kernel) (by decide) gh_ns0 gh_ns1 gh_ns2 gh_ns5 (fun x hx => h x (by simp [gh_nsA, hx]))
  have hsup : P0.sup = P1.m := Option.some.inj (hP0s.symm.trans hP1m)
  have hfound : s.vm.findClass "java/util/NoSuchElementException" = some P0.m.cls := findClass_of_methodNamed hP0m
  cases Option.some.inj (hfoundX.symm.trans hfound)
  obtain ⟨c1, kX', hc1, hk, hord, -, -, hn6⟩ := Cond.instantiable_spec (a' (.instantiable "java/util/NoSuchElementException" 6) (by simp [gh_nsA]))
  cases Option.some.inj (hc1.symm.trans hfound)
  cases Option.some.inj (hkX.symm.trans hk)
  have hsel0 : selectMethod e.platform s.vm P0.m.cls T.fill0 = .method T.fill0 := by
    obtain ⟨c2, r2, m2, q1, q2, q3, q4, -⟩ := Cond.selects_spec (a' (.selects "java/util/NoSuchElementException" Bundle.tFill0 Bundle.tFill0) (by simp [gh_nsA]))
    cases Option.some.inj (q1.symm.trans hfound)
    cases Option.some.inj (q2.symm.trans (State.methodFound?_of_named Y.fill0 (by decide)))
    cases Option.some.inj (q3.symm.trans Y.fill0)
    rw [Launch.admits_selectMethod X.admits]; exact q4
  have hselF : selectMethod e.platform s.vm P0.m.cls T.fill = .method T.fill := by
    obtain ⟨c2, r2, m2, q1, q2, q3, q4, -⟩ := Cond.selects_spec (a' (.selects "java/util/NoSuchElementException" Bundle.tFill Bundle.tFill) (by simp [gh_nsA]))
    cases Option.some.inj (q1.symm.trans hfound)
    cases Option.some.inj (q2.symm.trans (State.methodFound?_of_named Y.fill (by decide)))
    cases Option.some.inj (q3.symm.trans Y.fill)
    rw [Launch.admits_selectMethod X.admits]; exact q4
  obtain ⟨cellS0, hcS0, hiss⟩ := Y.statics
  obtain ⟨u0, hu0⟩ := Cond.staticRefV Y.unassigned L.unassignedStatic L.statics hcS0 hiss (a' (.isRef (.static Bundle.tN "UNASSIGNED_STACK" Bundle.steD)) (by simp [gh_nsA]))
  obtain ⟨sen, hsen⟩ := Cond.staticRefV Y.sentinel L.sentinelStatic L.statics hcS0 hiss (a' (.isRef (.static Bundle.tN "SUPPRESSED_SENTINEL" Bundle.listD)) (by simp [gh_nsA]))
  obtain ⟨ci198, i198, fB, hk198, hg198, ha198, hsB, -, hnB, htB, hffB⟩ := Cond.ownField (t := .object "java/lang/Object") Y.found L.cls (by decide +kernel) (a' (.fieldLink Bundle.tN 198 Bundle.tN "backtrace" "Ljava/lang/Object;") (by simp [gh_nsA])) (a' (.lays Bundle.tN Bundle.tN "backtrace" "Ljava/lang/Object;") (by simp [gh_nsA])) e.platform hpl
  obtain ⟨cellS, hcS', heS, -, hkeep⟩ := X.same.2.2.2.2.2 T.aS cellS0 hcS0
  have hcellS : W9.heap[T.aS]? = some cellS := hcS'
  have hout' : ∀ i, (⟨T.aS, i⟩ : Loc) ∉ locs := fun i hmem => by
    have := hlocs _ hmem cellS0 hcS0
    rw [hiss] at this; cases this
  have hknownS : cellS.vm ≠ .unknown := by
    rw [heS]; intro hu
    rw [show cellS0.vm = .unknown from hu] at hiss
    cases hiss
  have hneS : T.aS ≠ a := Nat.ne_of_lt (Nat.lt_of_lt_of_le (Array.getElem?_eq_some_iff.mp hcS0).1 hnew)
  obtain ⟨iM, hffM⟩ := Y.msg
  obtain ⟨tyC, dC, hdC, hdnC⟩ := Cond.laysAt hfound hk Y.cause (a' (.lays "java/util/NoSuchElementException" Bundle.tN "cause" "Ljava/lang/Throwable;") (by simp [gh_nsA]))
  obtain ⟨tyS, dS, hdS, hdnS⟩ := Cond.laysAt hfound hk Y.stack (a' (.lays "java/util/NoSuchElementException" Bundle.tN "stackTrace" Bundle.steD) (by simp [gh_nsA]))
  obtain ⟨tyP, dP, hdP, hdnP⟩ := Cond.laysAt hfound hk Y.supp (a' (.lays "java/util/NoSuchElementException" Bundle.tN "suppressedExceptions" Bundle.listD) (by simp [gh_nsA]))
  obtain ⟨tyM, dM, hdM, hdnM⟩ := Cond.laysAt hfound hk hffM (a' (.lays "java/util/NoSuchElementException" Bundle.tN "detailMessage" "Ljava/lang/String;") (by simp [gh_nsA]))
  obtain ⟨tyB, dB, hdB, hdnB⟩ := Cond.laysAt hfound hk hffB (a' (.lays "java/util/NoSuchElementException" Bundle.tN "backtrace" "Ljava/lang/Object;") (by simp [gh_nsA]))
  have bC := Cond.laysApart hdB hdC hdnB hdnC (by rw [hnB, Y.causeName]; decide)
  have bS := Cond.laysApart hdB hdS hdnB hdnS (by rw [hnB, Y.stackName]; decide)
  have bP := Cond.laysApart hdB hdP hdnB hdnP (by rw [hnB, Y.suppName]; decide)
  have hskip : SkipFacts T e.platform s (fun u => u) u0 ((preparedCellV T.toThrowableT (freshCell P0.m.cls kX) a u0 sen).withEntry W9.cur) :=
    ⟨{ ci198 := ci198, i198 := i198, fBack := fB }, ⟨hk198, hg198, ha198, hsB⟩, by
      have := fresh_default (c := P0.m.cls) tyB
      rw [htB] at this
      simpa [preparedCellV, Cell.setSlot, Cell.withEntry, Array.getElem?_setIfInBounds, bC, bS, bP, bC.symm, bS.symm, bP.symm, defaultValue] using this, fun _ _ => rfl⟩
  obtain ⟨tm, methC, cdC, kC, vm₁, hnC, -, -, -, -, -, -, -, hW₁, st1⟩ := Steps.initColdS (tb := p.tables) (e := e) (below := below) (s := s) (U := W9) X.here hexec X.warmed hpl hown (t := Bundle.initS "java/util/NoSuchElementException") rfl rfl (by decide)
    (a' (.methodLink "Treeclerk" 296 (Bundle.initS "java/util/NoSuchElementException")) (by simp [gh_nsA])) (h (.instanceMethod (Bundle.initS "java/util/NoSuchElementException")) (by simp [gh_nsA, Bundle.passSAtoms])) (bytes := gh_nsB) (maxL := 2) (h (.code (Bundle.initS "java/util/NoSuchElementException") gh_nsB 2 none) (by simp [gh_nsA, Bundle.passSAtoms]))
    (f := g) hg (a := a) (msg := msg) (rest := .ref a :: rest) hstack hd6
  cases Option.some.inj (hnC.symm.trans hP0m)
  have X₁ := X.noted hW₁
  obtain ⟨vm₂, X₂, st2⟩ := X₁.ctorMessageOffV hexec (g := { g with stack := .ref a :: rest }) hg hsize T L Z LZ M LM (P0 :: P1 :: Ps)
    (fun P hP => by
      rcases List.mem_cons.mp hP with rfl | hP
      · exact L0
      · rcases List.mem_cons.mp hP with rfl | hP
        · exact L1
        · exact hL P hP) ⟨hsup, hlink1, hlink⟩ (u0 := u0) (sen := sen) (self := a) hmsg (cell := freshCell P0.m.cls kX) (cellS := cellS)
    hcell (fun _ => by simp) (by simp) rfl rfl hsel0 hselF hcellS hneS hknownS (by rw [hkeep _ (hout' _)]; exact hu0) (by rw [hkeep _ (hout' _)]; exact hsen)
    (Takes.of_laid hk hord tyC (by rw [Y.causeType]; rfl)) (Takes.of_laid hk hord tyS (by rw [Y.stackType]; exact fits_refV_array _ u0)) (Takes.of_laid hk hord tyP (by rw [Y.suppType]; exact fits_refV_object _ sen))
    (Takes.of_laid hk hord tyM (by rw [Y.msgType]; exact fits_refV_object _ ⟨msg, hmsg⟩)) Y.objLocals hskip htr [] hd6
    (by simp only [List.length_cons, hlen, List.length_nil]; omega) (by simp only [List.length_cons, hlen, List.length_nil]; exact hRlocals)
  obtain ⟨hwalk, hrun, hended, hWU, hsame⟩ := X₂.athrowLeaves hexec (g := { g with stack := .ref a :: rest, pc := g.pc + 3 }) hg hlocked hentered hout (a := a) (rest := rest) rfl hd9
  have hlt : a < ((W9.setVm vm₁).setVm vm₂).heap.size := (Array.getElem?_eq_some_iff.mp hcell).1
  have hU := heapAt_setCell_self (s := (W9.setVm vm₁).setVm vm₂) (plainBareV T.toThrowableT (freshCell P0.m.cls kX) a u0 sen msg) hlt
  refine ⟨_, st1 _ (fun acts => ?_), hrun, hended, hWU, hsame.weaken (fun y hy hlt' => ?_) (Nat.le_refl _) (Nat.le_refl _), _, hU, rfl, hfound⟩
  · rw [doInvoke_state]
    exact st2 _ hwalk
  · rcases List.mem_append.mp hy with h1 | h1
    · exact h1
    · exfalso
      have hb : y.base = a := by
        simp only [List.mem_cons, List.not_mem_nil, or_false] at h1
        rcases h1 with rfl | rfl | rfl | rfl | rfl <;> rfl
      rw [hb] at hlt'
      exact Nat.not_lt.mpr hnew hlt'
end GX
section GY
variable {p : Program} {l : Launch} {e : Env} {R : Room} {s : State} {m : MethodId} {args : Array Value} {below : List Frame} {meth : Method} {c : Code} {H : Heap} {locs : List Loc} {cells slots : Nat} {ls : Array Slot} {rest : List Value} {Qc : Array Value → State → Outcome → State → Prop} {XC : String → State → State → Prop} {free : Addr → Prop}
set_option maxHeartbeats 2000000 in
/-- 'throw new NoSuchElementException("text")': the way of vx_throwS; w: a wide index of the text -/
theorem gh_throwN {cc : ByteArray} {pc : Nat} (hexec : p.tables.exec = Jvm.exec) (hb : c.code = cc) (hl : l.stackTraces = false) {text : String} {ik is mc ms sa w : Nat} {A : Nat → Prop}
    (hown : s.vm.findClass "Treeclerk" = some m.cls)
    (hk : (Cond.classLink "Treeclerk" ik "java/util/NoSuchElementException").before args s = true) (hini : (Cond.initialized "java/util/NoSuchElementException").before args s = true) (hstr : vk_R "Treeclerk" is text sa s) (hat : ∀ w ∈ gh_nsA.filter vx_no, w.before args s = true)
    (hU : vx_Zq Bundle.tN "UNASSIGNED_STACK" Bundle.steD A s s.heap) (hN : vx_Zq Bundle.tN "SUPPRESSED_SENTINEL" Bundle.listD A s s.heap) (hS : va_S A s.heap H locs) (hsize : ls.size = c.maxLocals)
    (d0 : decode cc pc = .ok (.new ik, 3)) (d3 : decode cc (pc + 3) = .ok (.dup, 1)) (d4 : (w = 2 ∧ decode cc (pc + 4) = .ok (.ldc is, 2)) ∨ (w = 3 ∧ decode cc (pc + 4) = .ok (.ldc_w is, 3))) (d6 : decode cc (pc + 4 + w) = .ok (.invokespecial 296, 3)) (d9 : decode cc (pc + 4 + w + 3) = .ok (.athrow, 1))
    (hout : ∀ x ∈ c.exceptionTable.toList, False)
    (hRframes : 6 < R.frames) (hRlocals : (rest.map fun v => v.category).sum + 90 ≤ R.locals) (hRcells : cells + 1 ≤ R.cells) (hRslots : slots + 6 ≤ R.slots) (hlocks : meth.locks = false)
    (hx : ∀ t : State, s.vm.Alike t.vm → H.size ≤ t.heap.size → (∀ q : Nat, q < H.size → t.heap[q]? = H[q]?) → XC "java/util/NoSuchElementException" s t)
    (hf : ∀ z ∈ locs, free z.base) (hc : cells + 1 ≤ mc) (hs : slots + 6 ≤ ms) :
    W p l e R s m args below meth c H locs cells slots (vx_MQ below Qc XC args s mc ms free) (F0 m pc ls rest) := by
  intro T hT X
  have htr : e.platform.stackTraces = false := (show e.platform.stackTraces = l.stackTraces by rw [X.admits.platform]).trans hl
  have Y := vx_rebase X (R' := { frames := R.frames, locals := R.locals, cells := 1, slots := 6 }) (Nat.le_refl _) (Nat.le_refl _) hRcells hRslots
  obtain ⟨s', hA⟩ : ∃ z, z = (T.setVm s.vm).setFrames (.invoking m args :: below) := ⟨_, rfl⟩
  rw [← hA] at Y
  have hvm : s'.vm = s.vm := by rw [hA]; rfl
  have hhp : s'.heap = H := by rw [hA]; exact hT
  have hW0 : s.WarmedH s'.vm := by rw [hvm]; exact State.WarmedH.refl s
  have hat' : ∀ w ∈ gh_nsA.filter vx_no, w.before args s' = true := fun w hw => vx_ot_at hW0 hvm.symm (gh_nsc w hw) (hat w hw)
  have hk' : (Cond.classLink "Treeclerk" ik "java/util/NoSuchElementException").before args s' = true := vx_ot_at hW0 hvm.symm rfl hk
  have hini' : (Cond.initialized "java/util/NoSuchElementException").before args s' = true := vx_ot_at hW0 hvm.symm rfl hini
  have hU' : vx_Zq Bundle.tN "UNASSIGNED_STACK" Bundle.steD A s' s'.heap := by rw [hhp]; exact vx_Zq.moved hW0.alike (hU.kept hS.2.1)
  have hN' : vx_Zq Bundle.tN "SUPPRESSED_SENTINEL" Bundle.listD A s' s'.heap := by rw [hhp]; exact vx_Zq.moved hW0.alike (hN.kept hS.2.1)
  have h : ∀ w ∈ gh_nsA, w.before args s' = true := vx_own hat' (vx_isRefq hU'.1) (vx_isRefq hN'.1) hU'.2.word hN'.2.word
  have hown' : s'.vm.findClass "Treeclerk" = some m.cls := by rw [hvm]; exact hown
  have hins : (Cond.instantiable "java/util/NoSuchElementException" 6).before args s' = true := h _ (by simp [gh_nsA])
  obtain ⟨vm₁, cX, kX, hfX, hkX, -, -, X₁, st1⟩ := Y.newCold hexec (own := "Treeclerk") (C := "java/util/NoSuchElementException") (index := ik) (n := 6) hown' hk' hins hini'
    (g := F0 m pc ls rest) rfl (by rw [hb]; exact d0) (Nat.le_refl _) (Nat.le_refl _)
  generalize hT1 : (T.setVm vm₁).pushCell { cls := cX, slots := kX.instanceTypes.map defaultValue, vm := .none } = T1 at X₁ st1
  have hcat : (Value.ref T.heap.size).category = 1 := rfl
  have hcellA : T1.heap[T.heap.size]? = some (freshCell cX kX) := by rw [← hT1]; exact State.heap_pushCell_size _ _
  have d3' : decode c.code (pc + 3) = .ok (.dup, 1) := by rw [hb]; exact d3
  have hstr' : vk_R "Treeclerk" is text sa s' := vk_R.warm hW0 hstr
  obtain ⟨U, hsteps, hrun, hend, hW, hsame, ce, hce, hcv, hccl⟩ := gh_ctorN X₁ hexec htr hown' h (fun x hx => nomatch hx) hfX hkX hcellA (by rw [hhp, hT]; exact Nat.le_refl _) (msg := .ref sa) rfl
    (g := { method := m, pc := pc + 4 + w, locals := ls, stack := .ref sa :: .ref T.heap.size :: .ref T.heap.size :: rest, locked := none }) rfl hsize rfl rfl (rest := rest) rfl
    (by rw [hb]; exact d6) (by rw [hb]; exact d9) (fun x hx => (hout x hx).elim) hRframes (by simp only [List.map_cons, List.sum_cons, hcat]; show 2 * 0 + _ + _ ≤ _; omega) hlocks
  obtain ⟨f1, f2⟩ := vx_frame hsame
  rw [hhp] at f1 f2
  have hWs : s.WarmedH U.vm := State.WarmedH.trans hW0 hW
  have hcl : s.vm.findClass "java/util/NoSuchElementException" = some ce.cls := by
    rw [hvm] at hccl
    exact hccl
  have hall : s.sameButNew ({ U with vm := s.vm } : State) locs mc ms := by
    subst hA
    obtain ⟨e1, e2⟩ := hsame
    rw [State.setFrames_setFrames] at e1
    have h2 : (T.setVm s.vm).sameButNew ({ U with vm := s.vm } : State) [] (0 + 1) (0 + 6) := ⟨e1, e2⟩
    have h3 := X.same.trans h2
    rw [List.append_nil] at h3
    exact h3.mono hc hs
  refine ⟨U, ?_, .threw T.heap.size, hrun, hend, Or.inr ⟨T.heap.size, rfl, "java/util/NoSuchElementException", ce, locs, hx U hWs.alike f1 (fun q hq => f2 q hq (fun z hz => nomatch hz)), hce, hcv, hcl, hWs, hall, hf⟩⟩
  refine st1 _ ?_
  show Steps p.tables e below (T1.setTop { method := m, pc := pc + 3, locals := ls, stack := .ref T.heap.size :: rest, locked := none }) _
  jvm_step X₁.here [X₁.here.top, hexec, d3', Value.category]
  rcases d4 with ⟨rfl, d4⟩ | ⟨rfl, d4⟩
  · exact X₁.ldcString hexec (own := "Treeclerk") (text := text) (index := is) (a := sa) hown' hstr'.1 hstr'.2
      (g := { method := m, pc := pc + 4, locals := ls, stack := .ref T.heap.size :: .ref T.heap.size :: rest, locked := none }) rfl (by rw [hb]; exact d4) _ hsteps
  · exact X₁.ldcStringW hexec (own := "Treeclerk") (text := text) (index := is) (a := sa) hown' hstr'.1 hstr'.2
      (g := { method := m, pc := pc + 4, locals := ls, stack := .ref T.heap.size :: .ref T.heap.size :: rest, locked := none }) rfl (by rw [hb]; exact d4) _ hsteps
end GY
section GZ
variable {z : gh_Z} {p : Program} {l : Launch} {e : Env} {R : Room} {s : State} {m : MethodId} {args : Array Value} {below : List Frame} {meth : Method} {c : Code} {nL g0 z0 k0 y0 own : Nat} {Q : State → Prop} {cc : ByteArray} {rt : Option FieldType} {nm : String} {pc pc' : Nat} {lo lo' : gh_L} {st st' : List Value} {G G' : gh_H}
theorem gh_thrT (hC : gh_Cx z p s m args meth c own cc nL rt nm) (hst : l.stackTraces = false) (htab : ∀ x ∈ c.exceptionTable.toList, False) {K : List (Nat × Instr × Nat)} (hK : ∀ e ∈ K, decode cc e.1 = .ok e.2) (hB : gh_thrB own K = true) {ik len E : Nat} {fz : Bool} (hmem : (pc, Instr.new ik, len) ∈ K) (hlen : len = 3) (h : gh_step fz own rt pc (.new ik) len lo st G = some (.inr (.inl (.inr E)))) (hfr : 8 ≤ R.frames) (hlo : 200 ≤ R.locals) (hrc : G.length - g0 + k0 + 1 ≤ R.cells) (hrs : gh_sz G - z0 + y0 + 6 ≤ R.slots) :
    gh_T z p l e R s m args below meth c nL g0 z0 (vx_MQ below (gh_Qo z (.inr E) G) (gh_Xo z (.inr E) G) args s (G.length - g0 + k0 + 1) (gh_sz G - z0 + y0 + 6) (gh_A z)) k0 y0 pc lo st G := by
  obtain ⟨hx, hb, hml, hr, hlk, hown, hts, hKB, -⟩ := hC
  subst hlen
  have hK9 : ∀ {a n : Nat} {b : Instr}, K.lookup a = some (b, n) → decode cc a = .ok (b, n) := fun {a n b} q => hK (a, b, n) (gh_look q)
  have h' : gh_new fz own ik pc lo st G = some (.inr (.inl (.inr E))) := h
  unfold gh_new at h'
  split at h'
  · next E' hxr =>
    split at h'
    · next hq =>
      cases h'
      obtain ⟨rfl, hE4, hdup, hpat⟩ := gh_thr_inv hB hmem hxr
      have hcl := gh_xl _ (gh_look hxr)
      intro H locs ls hR hS hl
      have hcat := hq.2
      have hX : ∀ t : State, s.vm.Alike t.vm → H.size ≤ t.heap.size → (∀ q : Nat, q < H.size → t.heap[q]? = H[q]?) → gh_Xo z (.inr E) G (gh_es E) s t := fun t _ h1 h2 =>
        ⟨E, rfl, rfl, ⟨hR.1.kept (fun k q hk => h2 _ (hR.1 k q hk).lt), hR.2⟩, Nat.le_trans hS.1 h1, fun q h3 h4 => (h2 q (Nat.lt_of_lt_of_le h3 hS.1)).trans (hS.2.1 q h3 h4)⟩
      have hsz : ls.size = c.maxLocals := hl.1.trans hml.symm
      have d0 : decode cc pc = .ok (.new ik, 3) := hK (pc, Instr.new ik, 3) hmem
      have d3 : decode cc (pc + 3) = .ok (.dup, 1) := hK9 hdup
      have hlocals : ((st.map (gh_em z)).map fun v => v.category).sum + (13 * (2 + 1) + 43) ≤ R.locals := by rw [gh_es_cat]; omega
      by_cases hE : E < 3
      · obtain ⟨x1, x2, x3, x4, x5⟩ := gh_xfacts E hE
        have hat : ∀ w ∈ vx_atS "Treeclerk" (gh_ic E) (gh_es E) ["java/lang/RuntimeException", "java/lang/Exception"], w.before args s = true := by
          intro w hw
          by_cases g : goodWord w = true
          · exact hts w (List.mem_filter.mpr ⟨x1 w (List.mem_filter.mpr ⟨hw, g⟩), g⟩)
          · have hn := x2 w (List.mem_filter.mpr ⟨hw, by simpa using g⟩)
            exact va_Nw.use (gh_nstT w hn) (hKB.2.2.2.2.1 w hn)
        have hgood : ∀ w ∈ Cond.classLink "Treeclerk" ik (gh_es E) :: Cond.initialized (gh_es E) :: vx_atS "Treeclerk" (gh_ic E) (gh_es E) ["java/lang/RuntimeException", "java/lang/Exception"], vx_ot w = true := by
          intro w hw
          rcases List.mem_cons.mp hw with rfl | hw
          · rfl
          · rcases List.mem_cons.mp hw with rfl | hw
            · rfl
            · exact x3 w hw
        rcases hpat with ⟨is, hl4, ⟨text, htx⟩, hl6, hl9⟩ | ⟨is, hl4, ⟨text, htx⟩, hl7, hl10⟩
        · obtain ⟨sa, hsa⟩ := hKB.2.2.2.2.2.1 _ htx
          exact vx_throwS hx hb hst (own := "Treeclerk") (names := ["java/lang/RuntimeException", "java/lang/Exception"]) hown x4 gh_names (hts _ hcl) (hts _ x5) hsa hat hgood hKB.2.2.2.2.2.2.1 hKB.2.2.2.2.2.2.2.1 hS hsz d0 d3 (hK9 hl4) (hK9 hl6) (hK9 hl9) (fun x hx9 => (htab x hx9).elim) (by show 2 + 3 < _; omega) hlocals hrc hrs hlk hX hS.2.2 (Nat.le_refl _) (Nat.le_refl _)
        · obtain ⟨sa, hsa⟩ := hKB.2.2.2.2.2.1 _ htx
          exact vx_throwSW hx hb hst (own := "Treeclerk") (names := ["java/lang/RuntimeException", "java/lang/Exception"]) hown x4 gh_names (hts _ hcl) (hts _ x5) hsa hat hgood hKB.2.2.2.2.2.2.1 hKB.2.2.2.2.2.2.2.1 hS hsz d0 d3 (hK9 hl4) (hK9 hl7) (hK9 hl10) (fun x hx9 => (htab x hx9).elim) (by show 2 + 3 < _; omega) hlocals hrc hrs hlk hX hS.2.2 (Nat.le_refl _) (Nat.le_refl _)
      · have hE3 : E = 3 := by omega
        subst hE3
        have hat : ∀ w ∈ gh_nsA.filter vx_no, w.before args s = true := by
          intro w hw
          by_cases g : goodWord w = true
          · exact hts w (List.mem_filter.mpr ⟨gh_nsa w (List.mem_filter.mpr ⟨hw, g⟩), g⟩)
          · have hn := gh_nsb w (List.mem_filter.mpr ⟨hw, by simpa using g⟩)
            exact va_Nw.use (gh_nstT w hn) (hKB.2.2.2.2.1 w hn)
        rcases hpat with ⟨is, hl4, ⟨text, htx⟩, hl6, hl9⟩ | ⟨is, hl4, ⟨text, htx⟩, hl7, hl10⟩
        · obtain ⟨sa, hsa⟩ := hKB.2.2.2.2.2.1 _ htx
          exact gh_throwN (w := 2) hx hb hst hown (hts _ hcl) (hts _ gh_xi3) hsa hat hKB.2.2.2.2.2.2.1 hKB.2.2.2.2.2.2.2.1 hS hsz d0 d3 (Or.inl ⟨rfl, hK9 hl4⟩) (hK9 hl6) (hK9 hl9) htab (by omega) (by rw [gh_es_cat]; omega) hrc hrs hlk hX hS.2.2 (Nat.le_refl _) (Nat.le_refl _)
        · obtain ⟨sa, hsa⟩ := hKB.2.2.2.2.2.1 _ htx
          exact gh_throwN (w := 3) hx hb hst hown (hts _ hcl) (hts _ gh_xi3) hsa hat hKB.2.2.2.2.2.2.1 hKB.2.2.2.2.2.2.2.1 hS hsz d0 d3 (Or.inr ⟨rfl, hK9 hl4⟩) (hK9 hl7) (hK9 hl10) htab (by omega) (by rw [gh_es_cat]; omega) hrc hrs hlk hX hS.2.2 (Nat.le_refl _) (Nat.le_refl _)
    · cases h'
  · split at h'
    · split at h'
      · simp only [gh_go] at h'; cases h'
      · cases h'
    · cases h'
end GZ
end
section
/-! EVERY PLAIN METHOD KEEPS ITS CONTRACT AT EVERY GHOST RUN, closed -/
section GN
variable {z : gh_Z} {p : Program} {l : Launch} {e : Env} {R : Room} {s : State} {m : MethodId} {args : Array Value} {below : List Frame} {meth : Method} {c : Code} {nL g0 z0 own : Nat} {cc : ByteArray} {rt : Option FieldType} {nm : String}
/-- how a ghost step ends a method: a return, or a throw -/
theorem gh_end_inv {pc len : Nat} {i : Instr} {fz : Bool} {lo : gh_L} {st : List Value} {G : gh_H} {E : Nat} (h : gh_step fz own rt pc i len lo st G = some (.inr (.inl (.inr E)))) : ∃ ik, i = .new ik := by
  cases i with
  | new ik => exact ⟨ik, rfl⟩
  | _ =>
    exfalso
    first
    | exact absurd (show (none : Option gh_R) = some (.inr (.inl (.inr E))) from h) (by simp)
    | (simp only [gh_step, gh_go, gh_push, gh_pop1, gh_pop2, gh_bin, gh_binJ, gh_binD, gh_binZ, gh_jmp, gh_sw, gh_get, gh_put, gh_ald, gh_ast, gh_len, gh_newa, gh_new, gh_ret, gh_call, gh_mm, gh_acopy] at h
       repeat' split at h
       all_goals cases h)
theorem gh_call_len {pc len : Nat} {i : Instr} {fz : Bool} {lo : gh_L} {st : List Value} {G : gh_H} {μ : Nat} {as r : List Value} (h : gh_step fz own rt pc i len lo st G = some (.inr (.inr (μ, as, r)))) (hlen : gh_lenP i len) {top : Nat} (hkn : gh_knP own top i) : len = 3 ∧ μ < max top 128 := by
  cases i with
  | invokevirtual idx =>
    refine ⟨hlen, ?_⟩
    simp only [gh_step] at h
    split at h
    · obtain ⟨n, hm, -⟩ := gh_call_inv h
      have := (hkn μ n hm).1
      omega
    · cases h
  | invokestatic idx =>
    refine ⟨hlen, ?_⟩
    simp only [gh_step] at h
    split at h
    · simp only [gh_mm, gh_go] at h
      (repeat' split at h) <;> cases h
    · split at h
      · simp only [gh_acopy, gh_go] at h
        (repeat' split at h) <;> cases h
      · obtain ⟨n, hm, -⟩ := gh_call_inv h
        have := (hkn μ n hm).1
        omega
  | invokespecial idx =>
    refine ⟨hlen, ?_⟩
    simp only [gh_step] at h
    split at h
    · (repeat' split at h) <;> cases h
    · split at h
      · obtain ⟨n, hm, -⟩ := gh_call_inv h
        have := (hkn μ n hm).1
        omega
      · cases h
  | _ =>
    exfalso
    first
    | exact absurd (show (none : Option gh_R) = some (.inr (.inr (μ, as, r))) from h) (by simp)
    | (simp only [gh_step, gh_go, gh_push, gh_pop1, gh_pop2, gh_bin, gh_binJ, gh_binD, gh_binZ, gh_jmp, gh_sw, gh_get, gh_put, gh_ald, gh_ast, gh_len, gh_newa, gh_new, gh_ret] at h
       repeat' split at h
       all_goals cases h)
/-- the body of a plain method, from any place -/
theorem gh_bodyN {fz : Bool} {C : Nat → List Value → gh_H → Option (gh_O × gh_H)} {hnd : Nat → Nat → Option (Nat × Nat)} {K : List (Nat × Instr × Nat)} {d : Nat} {o : gh_O} {Gf : gh_H} (hC : gh_Cx z p s m args meth c own cc nL rt nm) (hst : l.stackTraces = false) (htab : ∀ x ∈ c.exceptionTable.toList, False) (hK : ∀ e ∈ K, decode cc e.1 = .ok e.2) (hthr : gh_thrB own K = true) (hchk : gh_chkB own 128 nm nL K = true) (hn : ∀ pc E, hnd pc E = none)
    (hCm : ∀ μ as G o G', C μ as G = some (o, G') → G.length ≤ G'.length ∧ gh_sz G ≤ gh_sz G') (hCon : ∀ μ as G o G', μ < 128 → C μ as G = some (o, G') → ∀ q, gh_yt[μ]? = some q → gh_Con l z fz d q as G o G')
    (he0 : fz = false → s.heap.size + 1 = z.2.2.2.1 + g0) (hR : R = gh_rm (d + 1) (Gf.length - g0 + gh_th o) (gh_sz Gf - z0 + 6 * gh_th o)) :
    ∀ (n pc : Nat) (lo : gh_L) (st : List Value) (G : gh_H), gh_ex fz C own rt hnd K n pc lo st G = some (o, Gf) → g0 ≤ G.length → z0 ≤ gh_sz G →
      gh_T z p l e R s m args below meth c nL g0 z0 (vx_MQ below (gh_Qo z o Gf) (gh_Xo z o Gf) args s (Gf.length - g0 + gh_th o) (gh_sz Gf - z0 + 6 * gh_th o) (gh_A z)) 0 0 pc lo st G := by
  intro n
  induction n with
  | zero => intro pc lo st G h; cases h
  | succ n ih =>
    intro pc lo st G h hg hz
    have hfin := gh_ex_mono hCm _ _ _ _ _ _ _ h
    have hRc : R.cells = Gf.length - g0 + gh_th o := by rw [hR]; rfl
    have hRs : R.slots = gh_sz Gf - z0 + 6 * gh_th o := by rw [hR]; rfl
    have hRf : R.frames = 8 + (d + 1) := by rw [hR]; rfl
    have hRl : R.locals = 200 + 40 * (d + 1) := by rw [hR]; rfl
    rw [gh_ex] at h
    split at h
    · cases h
    · next i len hlk =>
      have hmem := gh_look hlk
      have hd := hK (pc, i, len) hmem
      obtain ⟨hlen, hput, hstP, hkn⟩ := gh_chk hchk hmem
      split at h
      · cases h
      · next pc1 lo1 st1 G1 hs =>
        have h1 := gh_step_mono hs
        have h2 := gh_ex_mono hCm _ _ _ _ _ _ _ h
        exact gh_stepT hC hd hlen hput hs (fun hf => ⟨he0 hf, rfl, rfl⟩) hg hz (by omega) (by omega) (by omega) (by omega) (by omega) (by omega) hstP (ih _ _ _ _ h (by omega) (by omega))
      · next o1 hs =>
        cases h
        cases o with
        | inl v => exact gh_retT hC hd hlen hs
        | inr E =>
          obtain ⟨ik, rfl⟩ := gh_end_inv hs
          exact gh_thrT hC hst htab hK hthr hmem hlen hs (by omega) (by omega) (by rw [hRc]; exact Nat.le_refl _) (by rw [hRs]; exact Nat.le_refl _)
      · next μ as r hs =>
        obtain ⟨hl3, hμ⟩ := gh_call_len hs hlen hkn
        subst hl3
        have hμ : μ < 128 := by omega
        obtain ⟨q, m9, hq, -⟩ := gh_Mall μ hμ
        split at h
        · cases h
        · next v G1 hc =>
          have h1 := hCm _ _ _ _ _ hc
          have h2 := gh_ex_mono hCm _ _ _ _ _ _ _ h
          refine gh_callW hC hd hkn hμ hs hq (hCon μ as G _ G1 hμ hc q hq) (fun hf => ⟨he0 hf, rfl⟩) hg hz h1.1 h1.2 (by omega) (by omega) (by simp only [gh_th]; omega) (by simp only [gh_th]; omega) (fun w hw => ?_) (fun E hE => nomatch hE)
          cases hw
          exact ih _ _ _ _ h (by omega) (by omega)
        · next E G1 hc =>
          rw [hn] at h
          cases h
          have h1 := hCm _ _ _ _ _ hc
          refine gh_callW hC hd hkn hμ hs hq (hCon μ as G _ Gf hμ hc q hq) (fun hf => ⟨he0 hf, rfl⟩) hg hz h1.1 h1.2 (by omega) (by omega) (by rw [hRc]; exact Nat.le_refl _) (by rw [hRs]; exact Nat.le_refl _) (fun w hw => by cases hw) (fun E' hE H1 locs1 ls q9 ce a1 a2 a3 a4 a5 a6 => ?_)
          cases hE
          exact vx_out (fun x hx => (htab x hx).elim) hC.2.2.2.2.1 a3 a4 a5 (fun t ht _ => ⟨_, rfl, rfl, by rw [ht]; exact a1, a2.F ht⟩) a2.2.2 (Nat.le_refl _) (Nat.le_refl _)
end GN
/-- all plain methods -/
theorem gh_norm (l : Launch) (hst : l.stackTraces = false) (z : gh_Z) (fz : Bool) (N : Nat) : ∀ (d μ : Nat) (as : List Value) (G : gh_H) (o : gh_O) (G' : gh_H), μ < 128 → gh_cl fz N d μ as G = some (o, G') → ∀ q, gh_yt[μ]? = some q → gh_Con l z fz d q as G o G' := by
  intro d
  induction d with
  | zero => intro μ as G o G' _ h; cases h
  | succ d ih =>
    intro μ as G o G' hμ h q hq
    obtain ⟨q', m9, hq', hm9, hY, hKO, hnd⟩ := gh_Mall μ hμ
    cases Option.some.inj (hq'.symm.trans hq)
    obtain ⟨q', m', hq', hm', hchk⟩ := gh_Hall μ hμ
    cases Option.some.inj (hq'.symm.trans hq)
    cases Option.some.inj (hm'.symm.trans hm9)
    obtain ⟨o9, -, hml9, -⟩ := gh_moK hμ hq
    rw [gh_cl, hm9] at h
    obtain ⟨own, rt, hnd9, K⟩ := m9
    dsimp only at h hnd hchk
    split at h
    · next hcat =>
      rw [hml9] at hcat
      obtain ⟨hdec, hrt, hon, hthr⟩ := hKO
      dsimp only at hdec hrt hon hthr
      have hmono := gh_ex_mono (gh_cl_mono d) _ _ _ _ _ _ _ h
      refine vx_ofW (cc := q.2.1) (maxL := q.2.2.1) (ret := q.2.2.2.1) hY.2.2.2.1 rfl ?_
      intro p e s m args below meth c s₁ B hml htab hv
      obtain ⟨rfl, hRel, hKB, hsz⟩ := hv
      have hts := atoms_spec (ws := gh_wsY q) B.pre
      have hC : gh_Cx z p s m (as.map (gh_em z)).toArray meth c own q.2.1 q.2.2.1 rt q.1.name :=
        ⟨B.exec, B.bytes, hml, by rw [hrt]; exact B.returns, B.notSynchronized, by rw [hon]; exact findClass_of_methodNamed B.named, fun w hw => hts w (List.mem_cons_of_mem _ hw), hKB, (name_of_methodNamed B.named B.method).1⟩
      have hl := lv_entry (as.map (gh_em z)) (n := q.2.2.1) (by rw [gh_sl_len]; exact hcat)
      rw [lg_entry_eq]
      generalize (lg_sl (as.map (gh_em z)) ++ List.replicate (q.2.2.1 - (lg_sl (as.map (gh_em z))).length) Slot.unset).toArray = ls at hl ⊢
      rw [gh_args_em] at hl
      have hrun := gh_bodyN (g0 := G.length) (z0 := gh_sz G) (e := e) (below := below) hC hst htab hdec hthr hchk hnd (gh_cl_mono d) (fun μ as G o G' a b => ih μ as G o G' a b) (fun hf => hsz hf) (R := (headSpec (gh_wsY q) (gh_rm (d + 1) (gh_mc G G' o) (gh_ms G G' o))).room) rfl N 0 (lv_args 0 as) [] G h (Nat.le_refl _) (Nat.le_refl _) s.heap [] ls hRel va_S.rf hl
      rw [Nat.sub_self, Nat.sub_self] at hrun
      exact hrun
    · cases h
end
section
/-! THE LAW's HELPERS: a call of the class, its exceptions caught -/
set_option maxRecDepth 100000 in
theorem gh_xl9 : ∀ e ∈ gh_xrt.getD 9 [], Cond.classLink "TreeclerkLaw" e.1 (gh_es e.2) ∈ gh_wsG := by
  show ∀ e ∈ ([(23, 0), (25, 1), (27, 2), (106, 3)] : List (Nat × Nat)), Cond.classLink "TreeclerkLaw" e.1 (gh_es e.2) ∈ gh_wsG
  exact List.forall_mem_cons.mpr ⟨gh_w 305 rfl rfl, List.forall_mem_cons.mpr ⟨gh_w 306 rfl rfl, List.forall_mem_cons.mpr ⟨gh_w 307 rfl rfl, List.forall_mem_cons.mpr ⟨gh_w 826 rfl rfl, (fun _ h => absurd h List.not_mem_nil)⟩⟩⟩⟩
set_option maxRecDepth 100000 in
theorem gh_ca0 : Cond.castable "java/lang/IndexOutOfBoundsException" "java/lang/IndexOutOfBoundsException" ∈ gh_nst := gh_n 421 rfl rfl
set_option maxRecDepth 100000 in
theorem gh_ca1 : Cond.castable "java/lang/IllegalArgumentException" "java/lang/IllegalArgumentException" ∈ gh_nst := gh_n 314 rfl rfl
set_option maxRecDepth 100000 in
theorem gh_ca2 : Cond.castable "java/lang/IllegalStateException" "java/lang/IllegalStateException" ∈ gh_nst := gh_n 383 rfl rfl
set_option maxRecDepth 100000 in
theorem gh_ca3 : Cond.castable "java/util/NoSuchElementException" "java/util/NoSuchElementException" ∈ gh_nst := gh_n 838 rfl rfl
theorem gh_ca (E : Nat) (h : E < 4) : Cond.castable (gh_es E) (gh_es E) ∈ gh_nst := by
  match E, h with
  | 0, _ => exact gh_ca0
  | 1, _ => exact gh_ca1
  | 2, _ => exact gh_ca2
  | 3, _ => exact gh_ca3
  | k + 4, h => exact absurd h (by omega)
/-- where an exception caught goes on: the row of the table that takes it, the handler's three instructions -/
def gh_hB (nL : Nat) (hnd : Nat → Nat → Option (Nat × Nat)) (hh : List (Nat × Nat × Nat × Nat)) (K : List (Nat × Instr × Nat)) : Bool :=
  (hh.all fun r => decide (r.2.2.2 ≠ 0) && (match gh_xR 9 r.2.2.2 with | some E => decide (E < 4) | none => false)) &&
  K.all fun e => (List.range 4).all fun E => match hnd e.1 E with
    | none => true
    | some (pc', k) => match hh.find? (fun r => decide (r.1 ≤ e.1) && decide (e.1 < r.2.1) && decide (gh_xR 9 r.2.2.2 = some E)) with
      | none => false
      | some r => (match K.lookup r.2.2.1 with
          | some (.astore_n j, 1) => decide (j.val = k) && decide (pc' = r.2.2.1 + 1) && decide (k < nL)
          | some (.astore j, 2) => decide (j = k) && decide (pc' = r.2.2.1 + 2) && decide (k < nL)
          | _ => false) && (match K.lookup pc' with
          | some (.bipush _, 2) => decide (K.lookup (pc' + 2) = some (.ireturn, 1))
          | some (.ldc2_w j, 3) => (gh_jR 9 j).isSome && decide (K.lookup (pc' + 3) = some (.lreturn, 1))
          | _ => false)
set_option maxRecDepth 100000 in
theorem gh_hb128 : gh_hB 4 (fun pc E => if ([6, 19, 32, 40] : List Nat).contains pc = true then [(0, 45, 3), (1, 49, 3), (2, 53, 3)].lookup E else none) [(0, 43, 44, 23), (0, 43, 48, 25), (0, 43, 52, 27)] gk_128 = true := by decide +kernel
set_option maxRecDepth 100000 in
theorem gh_h128 : gh_chkB 9 128 "act" 4 gk_128 = true := by decide +kernel
set_option maxRecDepth 100000 in
theorem gh_hb129 : gh_hB 5 (fun pc E => if ([7, 30, 39] : List Nat).contains pc = true then [(0, 45, 4), (1, 50, 4), (2, 55, 4)].lookup E else none) [(0, 42, 43, 23), (0, 42, 48, 25), (0, 42, 53, 27)] gk_129 = true := by decide +kernel
set_option maxRecDepth 100000 in
theorem gh_h129 : gh_chkB 9 128 "does" 5 gk_129 = true := by decide +kernel
set_option maxRecDepth 100000 in
theorem gh_hb130 : gh_hB 6 (fun pc E => if ([9, 25, 36] : List Nat).contains pc = true then [(0, 42, 5), (1, 47, 5), (2, 52, 5)].lookup E else none) [(0, 39, 40, 23), (0, 39, 45, 25), (0, 39, 50, 27)] gk_130 = true := by decide +kernel
set_option maxRecDepth 100000 in
theorem gh_h130 : gh_chkB 9 128 "tell" 6 gk_130 = true := by decide +kernel
set_option maxRecDepth 100000 in
theorem gh_hb131 : gh_hB 6 (fun pc E => if ([6] : List Nat).contains pc = true then [(0, 12, 5), (1, 17, 5), (2, 22, 5)].lookup E else none) [(0, 9, 10, 23), (0, 9, 15, 25), (0, 9, 20, 27)] gk_131 = true := by decide +kernel
set_option maxRecDepth 100000 in
theorem gh_h131 : gh_chkB 9 128 "hand" 6 gk_131 = true := by decide +kernel
set_option maxRecDepth 100000 in
theorem gh_hb132 : gh_hB 5 (fun pc E => if ([7, 21, 30] : List Nat).contains pc = true then [(0, 36, 4), (2, 42, 4)].lookup E else none) [(0, 33, 34, 23), (0, 33, 40, 27)] gk_132 = true := by decide +kernel
set_option maxRecDepth 100000 in
theorem gh_h132 : gh_chkB 9 128 "share" 5 gk_132 = true := by decide +kernel
set_option maxRecDepth 100000 in
theorem gh_hb133 : gh_hB 4 (fun pc E => if ([6, 27, 40, 53, 74, 87, 101, 115, 129, 143, 151] : List Nat).contains pc = true then [(0, 156, 3), (2, 160, 3)].lookup E else none) [(0, 154, 155, 23), (0, 154, 159, 27)] gk_133 = true := by decide +kernel
set_option maxRecDepth 100000 in
theorem gh_h133 : gh_chkB 9 128 "of" 4 gk_133 = true := by decide +kernel
set_option maxRecDepth 100000 in
theorem gh_hb134 : gh_hB 4 (fun pc E => if ([3] : List Nat).contains pc = true then [(0, 8, 3), (1, 12, 3)].lookup E else none) [(0, 6, 7, 23), (0, 6, 11, 25)] gk_134 = true := by decide +kernel
set_option maxRecDepth 100000 in
theorem gh_h134 : gh_chkB 9 128 "parent" 4 gk_134 = true := by decide +kernel
set_option maxRecDepth 100000 in
theorem gh_hb135 : gh_hB 3 (fun pc E => if ([2] : List Nat).contains pc = true then [(0, 7, 2), (3, 11, 2)].lookup E else none) [(0, 5, 6, 23), (0, 5, 10, 106)] gk_135 = true := by decide +kernel
set_option maxRecDepth 100000 in
theorem gh_h135 : gh_chkB 9 128 "parcel" 3 gk_135 = true := by decide +kernel
/-- a helper's own words -/
def gh_hOK (q : MethodName × ByteArray × Nat × Option FieldType × Nat) (hh : List (Nat × Nat × Nat × Nat)) : Prop := Cond.codeWith q.1 q.2.1 q.2.2.1 q.2.2.2.1 hh ∈ gh_wsG ∧ Cond.initialized q.1.cls ∈ gh_wsG ∧ (q.1.cls ≠ "java/lang/invoke/MethodHandle" ∧ q.1.cls ≠ "java/lang/invoke/VarHandle") ∧ plainName q.1.cls = true ∧ q.2.2.1 ≤ 12 ∧ Cond.static q.1 ∈ gh_wsG
/-- all that is known of the helper μ, which the law calls by the entry idx with n arguments -/
def gh_XOK (μ : Nat) : Prop := ∃ q m hh, gh_yt[μ]? = some q ∧ gh_mt[μ]? = some m ∧ gh_hOK q hh ∧ (∀ e ∈ m.2.2.2, decode q.2.1 e.1 = .ok e.2) ∧ m.2.1 = q.2.2.2.1 ∧ (m.2.1 = some .int ∨ m.2.1 = some .long) ∧ m.1 = 9 ∧ q.1.cls = "TreeclerkLaw" ∧ gh_ml.getD μ 0 = q.2.2.1 ∧ gh_hB q.2.2.1 m.2.2.1 hh m.2.2.2 = true ∧ gh_chkB 9 128 q.1.name q.2.2.1 m.2.2.2 = true ∧
  ∃ idx n, (idx, μ, n) ∈ gh_mrt.getD 9 [] ∧ Cond.methodLink "TreeclerkLaw" idx q.1 ∈ gh_wsG ∧ (parseMethodDescriptor q.1.desc).map (fun d => d.parameters.length) = some n ∧ (∀ e ∈ gh_mrt.getD 9 [], e.2.1 = μ → e = (idx, μ, n))
set_option maxRecDepth 100000 in
theorem gh_X128 : gh_XOK 128 := ⟨_, _, [(0, 43, 44, 23), (0, 43, 48, 25), (0, 43, 52, 27)], rfl, rfl, ⟨gh_w 304 rfl rfl, gh_w 0 rfl rfl, ⟨by decide, by decide⟩, by decide +kernel, by decide, gh_w 303 rfl rfl⟩, gh_d128, rfl, Or.inl rfl, rfl, rfl, rfl, gh_hb128, gh_h128, 139, 3, by decide +kernel, gh_w 302 rfl rfl, by decide +kernel, by decide +kernel⟩
set_option maxRecDepth 100000 in
theorem gh_X129 : gh_XOK 129 := ⟨_, _, [(0, 42, 43, 23), (0, 42, 48, 25), (0, 42, 53, 27)], rfl, rfl, ⟨gh_w 622 rfl rfl, gh_w 0 rfl rfl, ⟨by decide, by decide⟩, by decide +kernel, by decide, gh_w 621 rfl rfl⟩, gh_d129, rfl, Or.inl rfl, rfl, rfl, rfl, gh_hb129, gh_h129, 150, 4, by decide +kernel, gh_w 620 rfl rfl, by decide +kernel, by decide +kernel⟩
set_option maxRecDepth 100000 in
theorem gh_X130 : gh_XOK 130 := ⟨_, _, [(0, 39, 40, 23), (0, 39, 45, 25), (0, 39, 50, 27)], rfl, rfl, ⟨gh_w 735 rfl rfl, gh_w 0 rfl rfl, ⟨by decide, by decide⟩, by decide +kernel, by decide, gh_w 734 rfl rfl⟩, gh_d130, rfl, Or.inl rfl, rfl, rfl, rfl, gh_hb130, gh_h130, 146, 5, by decide +kernel, gh_w 733 rfl rfl, by decide +kernel, by decide +kernel⟩
set_option maxRecDepth 100000 in
theorem gh_X131 : gh_XOK 131 := ⟨_, _, [(0, 9, 10, 23), (0, 9, 15, 25), (0, 9, 20, 27)], rfl, rfl, ⟨gh_w 784 rfl rfl, gh_w 0 rfl rfl, ⟨by decide, by decide⟩, by decide +kernel, by decide, gh_w 783 rfl rfl⟩, gh_d131, rfl, Or.inl rfl, rfl, rfl, rfl, gh_hb131, gh_h131, 154, 5, by decide +kernel, gh_w 782 rfl rfl, by decide +kernel, by decide +kernel⟩
set_option maxRecDepth 100000 in
theorem gh_X132 : gh_XOK 132 := ⟨_, _, [(0, 33, 34, 23), (0, 33, 40, 27)], rfl, rfl, ⟨gh_w 945 rfl rfl, gh_w 0 rfl rfl, ⟨by decide, by decide⟩, by decide +kernel, by decide, gh_w 944 rfl rfl⟩, gh_d132, rfl, Or.inr rfl, rfl, rfl, rfl, gh_hb132, gh_h132, 134, 4, by decide +kernel, gh_w 943 rfl rfl, by decide +kernel, by decide +kernel⟩
set_option maxRecDepth 100000 in
theorem gh_X133 : gh_XOK 133 := ⟨_, _, [(0, 154, 155, 23), (0, 154, 159, 27)], rfl, rfl, ⟨gh_w 868 rfl rfl, gh_w 0 rfl rfl, ⟨by decide, by decide⟩, by decide +kernel, by decide, gh_w 867 rfl rfl⟩, gh_d133, rfl, Or.inl rfl, rfl, rfl, rfl, gh_hb133, gh_h133, 131, 3, by decide +kernel, gh_w 866 rfl rfl, by decide +kernel, by decide +kernel⟩
set_option maxRecDepth 100000 in
theorem gh_X134 : gh_XOK 134 := ⟨_, _, [(0, 6, 7, 23), (0, 6, 11, 25)], rfl, rfl, ⟨gh_w 858 rfl rfl, gh_w 0 rfl rfl, ⟨by decide, by decide⟩, by decide +kernel, by decide, gh_w 857 rfl rfl⟩, gh_d134, rfl, Or.inl rfl, rfl, rfl, rfl, gh_hb134, gh_h134, 127, 3, by decide +kernel, gh_w 856 rfl rfl, by decide +kernel, by decide +kernel⟩
set_option maxRecDepth 100000 in
theorem gh_X135 : gh_XOK 135 := ⟨_, _, [(0, 5, 6, 23), (0, 5, 10, 106)], rfl, rfl, ⟨gh_w 825 rfl rfl, gh_w 0 rfl rfl, ⟨by decide, by decide⟩, by decide +kernel, by decide, gh_w 824 rfl rfl⟩, gh_d135, rfl, Or.inl rfl, rfl, rfl, rfl, gh_hb135, gh_h135, 121, 2, by decide +kernel, gh_w 823 rfl rfl, by decide +kernel, by decide +kernel⟩
theorem gh_Xg : ∀ μ ∈ ([128, 129, 130, 131, 132, 133, 134, 135] : List Nat), gh_XOK μ := List.forall_mem_cons.mpr ⟨gh_X128, List.forall_mem_cons.mpr ⟨gh_X129, List.forall_mem_cons.mpr ⟨gh_X130, List.forall_mem_cons.mpr ⟨gh_X131, List.forall_mem_cons.mpr ⟨gh_X132, List.forall_mem_cons.mpr ⟨gh_X133, List.forall_mem_cons.mpr ⟨gh_X134, List.forall_mem_cons.mpr ⟨gh_X135, (fun _ h => absurd h List.not_mem_nil)⟩⟩⟩⟩⟩⟩⟩⟩
theorem gh_Xall (μ : Nat) (h1 : 128 ≤ μ) (h2 : μ < 136) : gh_XOK μ := gh_Xg μ (by simp only [List.mem_cons, List.not_mem_nil, or_false]; omega)
end
section
/-! THE LAW's HELPERS keep their contracts -/
theorem gh_xlt (own : Nat) (e : Nat × Nat) (h : e ∈ gh_xrt.getD own []) : e.2 < 4 := by
  have h1 : ∀ L ∈ gh_xrt, ∀ e ∈ L, e.2 < 4 := by decide
  rw [List.getD_eq_getElem?_getD] at h
  cases hL : gh_xrt[own]? with
  | none => rw [hL] at h; cases h
  | some L =>
    rw [hL] at h
    exact h1 L (List.mem_of_getElem? hL) e h
theorem gh_ex_E {fz : Bool} {C : Nat → List Value → gh_H → Option (gh_O × gh_H)} {own : Nat} {rt : Option FieldType} {hnd : Nat → Nat → Option (Nat × Nat)} {K : List (Nat × Instr × Nat)} (hCe : ∀ μ as G E G', C μ as G = some (.inr E, G') → E < 4) :
    ∀ (n pc : Nat) (lo : gh_L) (st : List Value) (G : gh_H) (E : Nat) (G' : gh_H), gh_ex fz C own rt hnd K n pc lo st G = some (.inr E, G') → E < 4 := by
  intro n
  induction n with
  | zero => intro pc lo st G E G' h; cases h
  | succ n ih =>
    intro pc lo st G E G' h
    rw [gh_ex] at h
    split at h
    · cases h
    · split at h
      · cases h
      · exact ih _ _ _ _ _ _ h
      · next o1 hs =>
        cases h
        obtain ⟨ik, rfl⟩ := gh_end_inv hs
        have hs : gh_new fz own ik pc lo st G = some (.inr (.inl (.inr E))) := hs
        unfold gh_new at hs
        split at hs
        · next E' hx =>
          split at hs
          · cases hs
            exact gh_xlt own _ (gh_look hx)
          · cases hs
        · split at hs
          · split at hs
            · simp only [gh_go] at hs; cases hs
            · cases hs
          · cases hs
      · split at h
        · cases h
        · exact ih _ _ _ _ _ _ h
        · next E1 G1 hc =>
          split at h
          · cases h
            exact hCe _ _ _ _ _ hc
          · exact ih _ _ _ _ _ _ h
theorem gh_cl_E {fz : Bool} {N : Nat} : ∀ (d μ : Nat) (as : List Value) (G : gh_H) (E : Nat) (G' : gh_H), gh_cl fz N d μ as G = some (.inr E, G') → E < 4 := by
  intro d
  induction d with
  | zero => intro μ as G E G' h; cases h
  | succ d ih =>
    intro μ as G E G' h
    rw [gh_cl] at h
    split at h
    · split at h
      · exact gh_ex_E ih _ _ _ _ _ _ _ h
      · cases h
    · cases h
def gh_wsH (q : MethodName × ByteArray × Nat × Option FieldType × Nat) (hh : List (Nat × Nat × Nat × Nat)) : List Cond := Cond.codeWith q.1 q.2.1 q.2.2.1 q.2.2.2.1 hh :: gh_wsG
def gh_ConH (l : Launch) (z : gh_Z) (d : Nat) (q : MethodName × ByteArray × Nat × Option FieldType × Nat) (hh : List (Nat × Nat × Nat × Nat)) (as : List Value) (G : gh_H) (v : Option Value) (G' : gh_H) : Prop :=
  vx_Met l q.1 (gh_wsH q hh) (gh_rm d (G'.length - G.length + 1) (gh_sz G' - gh_sz G + 6)) (gh_Pre z true as G) (gh_Qo z (.inl v) G') (gh_Xo z (.inl v) G') (G'.length - G.length + 1) (gh_sz G' - gh_sz G + 6) (gh_A z)
section GH
variable {z : gh_Z} {p : Program} {l : Launch} {e : Env} {R : Room} {s : State} {m : MethodId} {args : Array Value} {below : List Frame} {meth : Method} {c : Code} {nL g0 z0 k0 y0 own : Nat} {Q : State → Prop} {cc : ByteArray} {rt : Option FieldType} {nm : String}
theorem gh_T_widen {k1 y1 pc : Nat} {lo : gh_L} {st : List Value} {G : gh_H} (h : gh_T z p l e R s m args below meth c nL g0 z0 Q k1 y1 pc lo st G) (h1 : k0 ≤ k1) (h2 : y0 ≤ y1) : gh_T z p l e R s m args below meth c nL g0 z0 Q k0 y0 pc lo st G :=
  fun H locs ls hR hS hl => W.widen (by omega) (by omega) (h H locs ls hR hS hl)
theorem gh_lm_filter (z : gh_Z) (lo : gh_L) (k : Nat) : gh_lm z (lo.filter (fun q => !(q.1 == k) && !(q.1 + 1 == k && q.2.category == 2))) = (gh_lm z lo).filter (fun q => !(q.1 == k) && !(q.1 + 1 == k && q.2.category == 2)) := by
  unfold gh_lm
  rw [List.filter_map]
  congr 1
  exact List.filter_congr fun q _ => by simp [Function.comp, gh_em_cat]
theorem gh_lm_drop {z : gh_Z} {ls : Array Slot} {lo : gh_L} {k : Nat} {v : Value} (h : lv_has ls nL ((k, v) :: (gh_lm z lo).filter (fun q => !(q.1 == k) && !(q.1 + 1 == k && q.2.category == 2)))) : lv_has ls nL (gh_lm z (lo.filter (fun q => !(q.1 == k) && !(q.1 + 1 == k && q.2.category == 2)))) :=
  ⟨h.1, h.2.1, fun q hq => h.2.2 q (List.mem_cons_of_mem _ (by rw [gh_lm_filter] at hq; exact hq))⟩
/-- an exception caught -/
theorem gh_catchT {hnd : Nat → Nat → Option (Nat × Nat)} {hh : List (Nat × Nat × Nat × Nat)} {K : List (Nat × Instr × Nat)} (hC : gh_Cx z p s m args meth c 9 cc nL rt nm) (hcls : gh_on 9 = "TreeclerkLaw") (htab : c.exceptionTable.toList = tableOf hh) (hK : ∀ e ∈ K, decode cc e.1 = .ok e.2) (hB : gh_hB nL hnd hh K = true) {pc pc' k E : Nat} {i : Instr} {len : Nat} (hmem : (pc, i, len) ∈ K) (hE : E < 4) (hnd9 : hnd pc E = some (pc', k))
    {lo : gh_L} {G : gh_H} {r : List Value} {k1 y1 : Nat}
    (kk : gh_T z p l e R s m args below meth c nL g0 z0 Q k1 y1 pc' (lo.filter (fun q => !(q.1 == k) && !(q.1 + 1 == k && q.2.category == 2))) [] G) {H1 : Heap} {locs1 : List Loc} {ls : Array Slot} {q9 : Addr} {ce : Cell} (a1 : gh_Rel z G H1) (a2 : va_S (gh_A z) s.heap H1 locs1) (a3 : H1[q9]? = some ce) (a4 : ce.vm = .none) (a5 : s.vm.findClass (gh_es E) = some ce.cls) (a6 : lv_has ls nL (gh_lm z lo)) :
    vx_W p l e R s m args below meth c H1 locs1 (G.length - g0 + k1) (gh_sz G - z0 + y1) Q (F0 m pc ls r) q9 := by
  obtain ⟨hx, hb, hml, hr, hlk, hown, hts, hKB, -⟩ := hC
  rw [hcls] at hown
  unfold gh_hB at hB
  rw [Bool.and_eq_true] at hB
  obtain ⟨hB1, hB2⟩ := hB
  have h1 := List.all_eq_true.mp (List.all_eq_true.mp hB2 _ hmem) E (List.mem_range.mpr hE)
  dsimp only at h1
  rw [hnd9] at h1
  dsimp only at h1
  split at h1
  · cases h1
  · next row hfind =>
    obtain ⟨hrow, pre, suf, hsplit, hpre⟩ := List.find?_eq_some_iff_append.mp hfind
    simp only [Bool.and_eq_true, decide_eq_true_eq] at hrow h1
    obtain ⟨⟨hr1, hr2⟩, hr3⟩ := hrow
    obtain ⟨h2, h3⟩ := h1
    have hrows : ∀ r9 ∈ hh, r9.2.2.2 ≠ 0 ∧ ∃ E9, gh_xR 9 r9.2.2.2 = some E9 ∧ E9 < 4 := by
      intro r9 hr9
      have := List.all_eq_true.mp hB1 r9 hr9
      simp only [Bool.and_eq_true, decide_eq_true_eq] at this
      refine ⟨this.1, ?_⟩
      have h9 := this.2
      split at h9
      · next E9 hE9 => exact ⟨E9, hE9, of_decide_eq_true h9⟩
      · cases h9
    have hct : row.2.2.2 ≠ 0 := (hrows row (by rw [hsplit]; simp)).1
    refine vx_catch (own := "TreeclerkLaw") (name := gh_es E) (E := gh_es E) hown (pre.map fun q => ⟨q.1, q.2.1, q.2.2.1, q.2.2.2⟩) ⟨row.1, row.2.1, row.2.2.1, row.2.2.2⟩ (suf.map fun q => ⟨q.1, q.2.1, q.2.2.1, q.2.2.2⟩) (by rw [htab, hsplit]; simp [tableOf]) ?_ ?_ hct (hts _ (gh_xl9 _ (gh_look hr3))) (va_Nw.use rfl (hKB.2.2.2.2.1 _ (gh_ca E hE))) a3 a4 a5 ?_
    · intro z9 hz9
      obtain ⟨r9, hr9, rfl⟩ := List.mem_map.mp hz9
      obtain ⟨hne, E9, hE9, hlt9⟩ := hrows r9 (by rw [hsplit]; simp [hr9])
      have hp9 := hpre r9 hr9
      by_cases hcov : r9.1 ≤ pc ∧ pc < r9.2.1
      · right
        refine ⟨hne, gh_es E9, hts _ (gh_xl9 _ (gh_look hE9)), hKB.2.2.2.2.2.2.2.2.1 E E9 hE hlt9 ?_⟩
        rintro rfl
        simp [hcov, hE9] at hp9
      · left
        show (decide (r9.1 ≤ pc) && decide (pc < r9.2.1)) = false
        rw [Bool.and_eq_false_iff]
        by_cases h9 : r9.1 ≤ pc
        · right
          exact decide_eq_false (fun h => hcov ⟨h9, h⟩)
        · left
          exact decide_eq_false h9
    · show (decide (row.1 ≤ pc) && decide (pc < row.2.1)) = true
      simp [hr1, hr2]
    · split at h2
      · next j hj =>
        simp only [Bool.and_eq_true, decide_eq_true_eq] at h2
        obtain ⟨⟨rfl, rfl⟩, hkn⟩ := h2
        exact lv_astore_n hx hb (hK (row.2.2.1, .astore_n j, 1) (gh_look hj)) rfl a6 hkn rfl (fun ls' hl' => kk H1 locs1 ls' a1 a2 (gh_lm_drop hl'))
      · next j hj =>
        simp only [Bool.and_eq_true, decide_eq_true_eq] at h2
        obtain ⟨⟨rfl, rfl⟩, hkn⟩ := h2
        exact lv_astore hx hb (hK (row.2.2.1, .astore j, 2) (gh_look hj)) a6 hkn rfl (fun ls' hl' => kk H1 locs1 ls' a1 a2 (gh_lm_drop hl'))
      · cases h2
theorem gh_hB_tail {hnd : Nat → Nat → Option (Nat × Nat)} {hh : List (Nat × Nat × Nat × Nat)} {K : List (Nat × Instr × Nat)} (hB : gh_hB nL hnd hh K = true) {pc pc' k E : Nat} {i : Instr} {len : Nat} (hmem : (pc, i, len) ∈ K) (hE : E < 4) (hnd9 : hnd pc E = some (pc', k)) : ∃ (i1 i2 : Instr) (ln : Nat), K.lookup pc' = some (i1, ln) ∧ (∀ (rt : Option FieldType) (lo : gh_L) (G : gh_H), ∃ v, gh_step true 9 rt pc' i1 ln lo [] G = some (.inl (pc' + ln, lo, [v], G))) ∧ K.lookup (pc' + ln) = some (i2, 1) ∧ (i2 = .ireturn ∨ i2 = .lreturn) := by
  unfold gh_hB at hB
  rw [Bool.and_eq_true] at hB
  obtain ⟨-, hB2⟩ := hB
  have h1 := List.all_eq_true.mp (List.all_eq_true.mp hB2 _ hmem) E (List.mem_range.mpr hE)
  dsimp only at h1
  rw [hnd9] at h1
  dsimp only at h1
  split at h1
  · cases h1
  · rw [Bool.and_eq_true] at h1
    obtain ⟨-, h3⟩ := h1
    split at h3
    · next x hx => exact ⟨_, _, 2, hx, fun rt lo G => ⟨_, rfl⟩, of_decide_eq_true h3, Or.inl rfl⟩
    · next j hj =>
      simp only [Bool.and_eq_true, decide_eq_true_eq, Option.isSome_iff_exists] at h3
      obtain ⟨⟨x, hx⟩, h4⟩ := h3
      refine ⟨_, _, 3, hj, fun rt lo G => ⟨.long x, ?_⟩, h4, Or.inr rfl⟩
      show gh_push ((gh_jR 9 j).map .long) (pc' + 3) lo [] G = _
      rw [hx]
      rfl
    · cases h3
theorem gh_bodyH {C : Nat → List Value → gh_H → Option (gh_O × gh_H)} {hnd : Nat → Nat → Option (Nat × Nat)} {hh : List (Nat × Nat × Nat × Nat)} {K : List (Nat × Instr × Nat)} {d : Nat} {v : Option Value} {Gf : gh_H} (hC : gh_Cx z p s m args meth c 9 cc nL rt nm) (htab : c.exceptionTable.toList = tableOf hh) (hK : ∀ e ∈ K, decode cc e.1 = .ok e.2) (hB : gh_hB nL hnd hh K = true) (hchk : gh_chkB 9 128 nm nL K = true)
    (hCm : ∀ μ as G o G', C μ as G = some (o, G') → G.length ≤ G'.length ∧ gh_sz G ≤ gh_sz G') (hCe : ∀ μ as G E G', C μ as G = some (.inr E, G') → E < 4) (hCon : ∀ μ as G o G', μ < 128 → C μ as G = some (o, G') → ∀ q, gh_yt[μ]? = some q → gh_Con l z true d q as G o G')
    (hR : R = gh_rm (d + 1) (Gf.length - g0 + 1) (gh_sz Gf - z0 + 6)) :
    ∀ (n pc : Nat) (lo : gh_L) (st : List Value) (G : gh_H), gh_ex true C 9 rt hnd K n pc lo st G = some (.inl v, Gf) → g0 ≤ G.length → z0 ≤ gh_sz G →
      gh_T z p l e R s m args below meth c nL g0 z0 (vx_MQ below (gh_Qo z (.inl v) Gf) (gh_Xo z (.inl v) Gf) args s (Gf.length - g0 + 1) (gh_sz Gf - z0 + 6) (gh_A z)) 0 0 pc lo st G := by
  intro n
  induction n with
  | zero => intro pc lo st G h; cases h
  | succ n ih =>
    intro pc lo st G h hg hz
    have hfin := gh_ex_mono hCm _ _ _ _ _ _ _ h
    have hRc : R.cells = Gf.length - g0 + 1 := by rw [hR]; rfl
    have hRs : R.slots = gh_sz Gf - z0 + 6 := by rw [hR]; rfl
    have hRf : R.frames = 8 + (d + 1) := by rw [hR]; rfl
    have hRl : R.locals = 200 + 40 * (d + 1) := by rw [hR]; rfl
    rw [gh_ex] at h
    split at h
    · cases h
    · next i len hlk =>
      have hmem := gh_look hlk
      have hd := hK (pc, i, len) hmem
      obtain ⟨hlen, hput, hstP, hkn⟩ := gh_chk hchk hmem
      split at h
      · cases h
      · next pc1 lo1 st1 G1 hs =>
        have h1 := gh_step_mono hs
        have h2 := gh_ex_mono hCm _ _ _ _ _ _ _ h
        exact gh_stepT hC hd hlen hput hs (fun hf => nomatch hf) hg hz (by omega) (by omega) (by omega) (by omega) (by omega) (by omega) hstP (ih _ _ _ _ h (by omega) (by omega))
      · next o1 hs =>
        cases h
        exact gh_T_widen (gh_retT (k0 := 1) (y0 := 6) hC hd hlen hs) (by omega) (by omega)
      · next μ as r hs =>
        obtain ⟨hl3, hμ⟩ := gh_call_len hs hlen hkn
        subst hl3
        have hμ : μ < 128 := by omega
        obtain ⟨q, m9, hq, -⟩ := gh_Mall μ hμ
        split at h
        · cases h
        · next w G1 hc =>
          have h1 := hCm _ _ _ _ _ hc
          have h2 := gh_ex_mono hCm _ _ _ _ _ _ _ h
          refine gh_callW hC hd hkn hμ hs hq (hCon μ as G _ G1 hμ hc q hq) (fun hf => nomatch hf) hg hz h1.1 h1.2 (by omega) (by omega) (by simp only [gh_th]; omega) (by simp only [gh_th]; omega) (fun w9 hw => ?_) (fun E hE => by cases hE)
          cases hw
          exact ih _ _ _ _ h (by omega) (by omega)
        · next E G1 hc =>
          have h1 := hCm _ _ _ _ _ hc
          have hE4 := hCe _ _ _ _ _ hc
          split at h
          · cases h
          · next pc2 k2 hh2 =>
            have h2 := gh_ex_mono hCm _ _ _ _ _ _ _ h
            obtain ⟨i1, i2, ln1, hl1, hst1, hl2, hi2⟩ := gh_hB_tail hB hmem hE4 hh2
            refine gh_callW hC hd hkn hμ hs hq (hCon μ as G _ G1 hμ hc q hq) (fun hf => nomatch hf) hg hz h1.1 h1.2 (by omega) (by omega) (by simp only [gh_th]; omega) (by simp only [gh_th]; omega) (fun w9 hw => by cases hw) (fun E' hE H1 locs1 ls q9 ce a1 a2 a3 a4 a5 a6 => ?_)
            cases hE
            -- behind the catch: two instructions
            have htail : gh_T z p l e R s m args below meth c nL g0 z0 (vx_MQ below (gh_Qo z (.inl v) Gf) (gh_Xo z (.inl v) Gf) args s (Gf.length - g0 + 1) (gh_sz Gf - z0 + 6) (gh_A z)) 1 6 pc2 (lo.filter (fun q => !(q.1 == k2) && !(q.1 + 1 == k2 && q.2.category == 2))) [] G1 := by
              cases n with
              | zero => cases h
              | succ n =>
                rw [gh_ex, hl1] at h
                have hm1 := gh_look hl1
                obtain ⟨hlen1, hput1, hstP1, -⟩ := gh_chk hchk hm1
                obtain ⟨v1, hs1⟩ := hst1 rt (lo.filter (fun q => !(q.1 == k2) && !(q.1 + 1 == k2 && q.2.category == 2))) G1
                dsimp only at h
                rw [hs1] at h
                dsimp only at h
                cases n with
                | zero => cases h
                | succ n =>
                  rw [gh_ex, hl2] at h
                  have hm2 := gh_look hl2
                  obtain ⟨hlen2, -, -, -⟩ := gh_chk hchk hm2
                  dsimp only at h
                  split at h
                  · cases h
                  · next hs2 =>
                    exfalso
                    rcases hi2 with rfl | rfl
                    · simp only [gh_step, gh_ret] at hs2
                      (repeat' split at hs2) <;> cases hs2
                    · simp only [gh_step, gh_ret] at hs2
                      (repeat' split at hs2) <;> cases hs2
                  · next o2 hs2 =>
                    cases h
                    exact gh_stepT hC (hK (pc2, i1, ln1) hm1) hlen1 hput1 hs1 (fun hf => nomatch hf) (by omega) (by omega) (by omega) (by omega) (by omega) (by omega) (by omega) (by omega) hstP1 (gh_retT (k0 := 1) (y0 := 6) hC (hK (pc2 + ln1, i2, 1) hm2) hlen2 hs2)
                  · next hs2 =>
                    exfalso
                    rcases hi2 with rfl | rfl
                    · simp only [gh_step, gh_ret] at hs2
                      (repeat' split at hs2) <;> cases hs2
                    · simp only [gh_step, gh_ret] at hs2
                      (repeat' split at hs2) <;> cases hs2
            exact gh_catchT hC rfl htab hK hB hmem hE4 hh2 htail a1 a2 a3 a4 a5 a6
end GH
/-- all helpers -/
theorem gh_help (l : Launch) (hst : l.stackTraces = false) (z : gh_Z) (N : Nat) (d μ : Nat) (as : List Value) (G : gh_H) (v : Option Value) (G' : gh_H) (h1 : 128 ≤ μ) (h2 : μ < 136) (h : gh_cl true N d μ as G = some (.inl v, G')) : ∀ q hh, gh_yt[μ]? = some q → gh_hOK q hh → (∀ m, gh_mt[μ]? = some m → gh_hB q.2.2.1 m.2.2.1 hh m.2.2.2 = true) → gh_ConH l z d q hh as G v G' := by
  intro q hh hq hho hhB
  cases d with
  | zero => cases h
  | succ d =>
    obtain ⟨q', m9, hh', hq', hm9, -, hdec, hrt, hrt2, hown9, hcls, hml9, -, hchk, -⟩ := gh_Xall μ h1 h2
    cases Option.some.inj (hq'.symm.trans hq)
    have hB := hhB m9 hm9
    rw [gh_cl, hm9] at h
    obtain ⟨own, rt, hnd9, K⟩ := m9
    dsimp only at h hdec hrt hown9 hB hchk
    subst hown9
    split at h
    · next hcat =>
      rw [hml9] at hcat
      have hmono := gh_ex_mono (gh_cl_mono d) _ _ _ _ _ _ _ h
      refine vx_ofWH (cc := q.2.1) (maxL := q.2.2.1) (ret := q.2.2.2.1) (hh := hh) hho.2.2.2.1 rfl ?_
      intro p e s m args below meth c s₁ B hml hv
      obtain ⟨rfl, hRel, hKB, hsz⟩ := hv
      have hts := atoms_spec (ws := gh_wsH q hh) B.pre
      have htab := vx_table (x := q.1) B (hts _ List.mem_cons_self)
      have hC : gh_Cx z p s m (as.map (gh_em z)).toArray meth c 9 q.2.1 q.2.2.1 rt q.1.name :=
        ⟨B.exec, B.bytes, hml, by rw [hrt]; exact B.returns, B.notSynchronized, by rw [show gh_on 9 = q.1.cls from hcls.symm]; exact findClass_of_methodNamed B.named, fun w hw => hts w (List.mem_cons_of_mem _ hw), hKB, (name_of_methodNamed B.named B.method).1⟩
      have hl := lv_entry (as.map (gh_em z)) (n := q.2.2.1) (by rw [gh_sl_len]; exact hcat)
      rw [lg_entry_eq]
      generalize (lg_sl (as.map (gh_em z)) ++ List.replicate (q.2.2.1 - (lg_sl (as.map (gh_em z))).length) Slot.unset).toArray = ls at hl ⊢
      rw [gh_args_em] at hl
      have hrun := gh_bodyH (g0 := G.length) (z0 := gh_sz G) (e := e) (below := below) hC htab hdec hB hchk (gh_cl_mono d) (gh_cl_E d) (fun μ as G o G' a b => gh_norm l hst z true N d μ as G o G' a b) (R := (headSpec (gh_wsH q hh) (gh_rm (d + 1) (G'.length - G.length + 1) (gh_sz G' - gh_sz G + 6))).room) rfl N 0 (lv_args 0 as) [] G h (Nat.le_refl _) (Nat.le_refl _) s.heap [] ls hRel va_S.rf hl
      rw [Nat.sub_self, Nat.sub_self] at hrun
      exact hrun
    · cases h
end
section
/-! THE LAW's OWN CODE -/
def gk_lw0 : List (Nat × Instr × Nat) := [(0, .new 9, 3), (3, .dup, 1), (4, .invokespecial 138, 3), (7, .astore_n 1, 1), (8, .new 9, 3), (11, .dup, 1), (12, .invokespecial 138, 3), (15, .astore_n 2, 1), (16, .iconst 0, 1), (17, .istore_n 3, 1), (18, .aload_n 1, 1), (19, .iconst 0, 1), (20, .bipush 40, 2), (22, .invokestatic 139, 3), (25, .bipush 40, 2), (27, .if_icmp .ne 19, 3), (30, .aload_n 2, 1), (31, .iconst 0, 1), (32, .bipush 80, 2), (34, .invokestatic 139, 3), (37, .bipush 80, 2), (39, .if_icmp .ne 7, 3), (42, .iconst 1, 1), (43, .goto 4, 3), (46, .iconst 0, 1), (47, .istore 4, 2), (49, .iconst 0, 1), (50, .istore 5, 2), (52, .iload 5, 2), (54, .bipush 120, 2), (56, .if_icmp .ge 719, 3), (59, .iload 4, 2), (61, .ifCond .eq 714, 3), (64, .aload_n 0, 1), (65, .iload 5, 2), (67, .bipush 60, 2), (69, .irem, 1), (70, .invokestatic 142, 3), (73, .iconst 1, 1), (74, .iload 5, 2), (76, .bipush 60, 2), (78, .idiv, 1), (79, .iadd, 1), (80, .idiv, 1), (81, .bipush 7, 2), (83, .iload 5, 2), (85, .bipush 60, 2), (87, .idiv, 1), (88, .imul, 1), (89, .iadd, 1), (90, .istore 6, 2), (92, .iload 5, 2), (94, .iconst 4, 1), (95, .if_icmp .ge 7, 3), (98, .iconst 0, 1), (99, .goto 8, 3), (102, .iload 6, 2), (104, .bipush 34, 2), (106, .irem, 1), (107, .istore 7, 2)]
set_option maxRecDepth 100000 in
theorem gh_ld0 : ∀ e ∈ gk_lw0, decode code e.1 = .ok e.2 := by decide +kernel
def gk_lw1 : List (Nat × Instr × Nat) := [(109, .iload 6, 2), (111, .bipush 34, 2), (113, .idiv, 1), (114, .istore 8, 2), (116, .iload_n 3, 1), (117, .ifCond .ne 7, 3), (120, .iconst 0, 1), (121, .goto 7, 3), (124, .iload 8, 2), (126, .iload_n 3, 1), (127, .irem, 1), (128, .istore 9, 2), (130, .iload_n 3, 1), (131, .ifCond .ne 7, 3), (134, .iconst 0, 1), (135, .goto 10, 3), (138, .iload 8, 2), (140, .bipush 14, 2), (142, .idiv, 1), (143, .iload_n 3, 1), (144, .irem, 1), (145, .istore 10, 2), (147, .iload 8, 2), (149, .sipush 196, 3), (152, .idiv, 1), (153, .bipush 60, 2), (155, .irem, 1), (156, .istore 11, 2), (158, .iload 11, 2), (160, .iconst 1, 1), (161, .iadd, 1), (162, .iload 8, 2), (164, .bipush 15, 2), (166, .irem, 1), (167, .iadd, 1), (168, .istore 12, 2), (170, .iload 7, 2), (172, .iconst 2, 1), (173, .if_icmp .ge 60, 3), (176, .iload 8, 2), (178, .aload_n 1, 1), (179, .invokevirtual 108, 3), (182, .iconst 1, 1), (183, .iadd, 1), (184, .irem, 1), (185, .istore 13, 2), (187, .aload_n 1, 1), (188, .iconst 1, 1), (189, .iload 13, 2), (191, .invokestatic 139, 3), (194, .istore 14, 2), (196, .iload_n 3, 1), (197, .iload 14, 2), (199, .ifCond .lt 7, 3), (202, .iconst 1, 1), (203, .goto 4, 3), (206, .iconst 0, 1), (207, .iadd, 1), (208, .istore_n 3, 1), (209, .aload_n 2, 1)]
set_option maxRecDepth 100000 in
theorem gh_ld1 : ∀ e ∈ gk_lw1, decode code e.1 = .ok e.2 := by decide +kernel
def gk_lw2 : List (Nat × Instr × Nat) := [(210, .iconst 1, 1), (211, .iconst 2, 1), (212, .iload 13, 2), (214, .imul, 1), (215, .invokestatic 139, 3), (218, .iload 14, 2), (220, .if_icmp .ne 7, 3), (223, .iconst 1, 1), (224, .goto 4, 3), (227, .iconst 0, 1), (228, .istore 4, 2), (230, .goto 506, 3), (233, .iload 7, 2), (235, .iconst 4, 1), (236, .if_icmp .ge 78, 3), (239, .aload_n 1, 1), (240, .invokevirtual 108, 3), (243, .sipush 900, 3), (246, .if_icmp .le 7, 3), (249, .iconst 0, 1), (250, .goto 10, 3), (253, .iconst 1, 1), (254, .iload 8, 2), (256, .bipush 12, 2), (258, .irem, 1), (259, .iadd, 1), (260, .istore 13, 2), (262, .iload 13, 2), (264, .ifCond .ne 10, 3), (267, .aload_n 1, 1), (268, .invokevirtual 108, 3), (271, .goto 10, 3), (274, .aload_n 1, 1), (275, .iconst 0, 1), (276, .iload 13, 2), (278, .invokestatic 139, 3), (281, .istore 14, 2), (283, .iload 13, 2), (285, .ifCond .eq 19, 3), (288, .aload_n 2, 1), (289, .iconst 0, 1), (290, .iconst 2, 1), (291, .iload 13, 2), (293, .imul, 1), (294, .invokestatic 139, 3), (297, .iconst 2, 1), (298, .iload 14, 2), (300, .imul, 1), (301, .if_icmp .ne 7, 3), (304, .iconst 1, 1), (305, .goto 4, 3), (308, .iconst 0, 1), (309, .istore 4, 2), (311, .goto 425, 3), (314, .iload 7, 2), (316, .bipush 12, 2), (318, .if_icmp .ge 56, 3), (321, .aload_n 1, 1), (322, .iconst 0, 1), (323, .iload 9, 2)]
set_option maxRecDepth 100000 in
theorem gh_ld2 : ∀ e ∈ gk_lw2, decode code e.1 = .ok e.2 := by decide +kernel
def gk_lw3 : List (Nat × Instr × Nat) := [(325, .iload 10, 2), (327, .iconst 1, 1), (328, .iload 8, 2), (330, .sipush 196, 3), (333, .idiv, 1), (334, .bipush 9, 2), (336, .irem, 1), (337, .iadd, 1), (338, .invokestatic 146, 3), (341, .aload_n 2, 1), (342, .iconst 0, 1), (343, .iload 9, 2), (345, .iload 10, 2), (347, .iconst 1, 1), (348, .iload 8, 2), (350, .sipush 196, 3), (353, .idiv, 1), (354, .bipush 9, 2), (356, .irem, 1), (357, .iadd, 1), (358, .invokestatic 146, 3), (361, .if_icmp .ne 7, 3), (364, .iconst 1, 1), (365, .goto 4, 3), (368, .iconst 0, 1), (369, .istore 4, 2), (371, .goto 365, 3), (374, .iload 7, 2), (376, .bipush 15, 2), (378, .if_icmp .ge 56, 3), (381, .aload_n 1, 1), (382, .iconst 0, 1), (383, .iload 8, 2), (385, .bipush 12, 2), (387, .irem, 1), (388, .iconst 1, 1), (389, .iload 8, 2), (391, .bipush 12, 2), (393, .idiv, 1), (394, .bipush 9, 2), (396, .irem, 1), (397, .iadd, 1), (398, .invokestatic 150, 3), (401, .aload_n 2, 1), (402, .iconst 0, 1), (403, .iload 8, 2), (405, .bipush 12, 2), (407, .irem, 1), (408, .iconst 1, 1), (409, .iload 8, 2), (411, .bipush 12, 2), (413, .idiv, 1), (414, .bipush 9, 2), (416, .irem, 1), (417, .iadd, 1), (418, .invokestatic 150, 3), (421, .if_icmp .ne 7, 3), (424, .iconst 1, 1), (425, .goto 4, 3), (428, .iconst 0, 1)]
set_option maxRecDepth 100000 in
theorem gh_ld3 : ∀ e ∈ gk_lw3, decode code e.1 = .ok e.2 := by decide +kernel
def gk_lw4 : List (Nat × Instr × Nat) := [(429, .istore 4, 2), (431, .goto 305, 3), (434, .iload 7, 2), (436, .bipush 18, 2), (438, .if_icmp .ge 50, 3), (441, .aload_n 1, 1), (442, .iconst 1, 1), (443, .iload 8, 2), (445, .bipush 8, 2), (447, .irem, 1), (448, .iload 8, 2), (450, .bipush 8, 2), (452, .idiv, 1), (453, .iconst 2, 1), (454, .irem, 1), (455, .invokestatic 150, 3), (458, .aload_n 2, 1), (459, .iconst 1, 1), (460, .iload 8, 2), (462, .bipush 8, 2), (464, .irem, 1), (465, .iload 8, 2), (467, .bipush 8, 2), (469, .idiv, 1), (470, .iconst 2, 1), (471, .irem, 1), (472, .invokestatic 150, 3), (475, .if_icmp .ne 7, 3), (478, .iconst 1, 1), (479, .goto 4, 3), (482, .iconst 0, 1), (483, .istore 4, 2), (485, .goto 251, 3), (488, .iload 7, 2), (490, .bipush 20, 2), (492, .if_icmp .ge 40, 3), (495, .iload 8, 2), (497, .bipush 14, 2), (499, .idiv, 1), (500, .iconst 2, 1), (501, .irem, 1), (502, .ifCond .gt 20, 3), (505, .aload_n 1, 1), (506, .iconst 2, 1), (507, .iload 9, 2), (509, .invokestatic 139, 3), (512, .aload_n 2, 1), (513, .iconst 2, 1), (514, .iload 9, 2), (516, .invokestatic 139, 3), (519, .if_icmp .ne 7, 3), (522, .iconst 1, 1), (523, .goto 4, 3), (526, .iconst 0, 1), (527, .istore 4, 2), (529, .goto 207, 3), (532, .iload 7, 2), (534, .bipush 23, 2), (536, .if_icmp .ge 52, 3), (539, .aload_n 1, 1)]
set_option maxRecDepth 100000 in
theorem gh_ld4 : ∀ e ∈ gk_lw4, decode code e.1 = .ok e.2 := by decide +kernel
def gk_lw5 : List (Nat × Instr × Nat) := [(540, .iconst 1, 1), (541, .iload 9, 2), (543, .iload 10, 2), (545, .iload 8, 2), (547, .sipush 196, 3), (550, .idiv, 1), (551, .bipush 10, 2), (553, .irem, 1), (554, .invokestatic 146, 3), (557, .aload_n 2, 1), (558, .iconst 1, 1), (559, .iload 9, 2), (561, .iload 10, 2), (563, .iload 8, 2), (565, .sipush 196, 3), (568, .idiv, 1), (569, .bipush 10, 2), (571, .irem, 1), (572, .invokestatic 146, 3), (575, .if_icmp .ne 7, 3), (578, .iconst 1, 1), (579, .goto 4, 3), (582, .iconst 0, 1), (583, .istore 4, 2), (585, .goto 151, 3), (588, .iload 7, 2), (590, .bipush 25, 2), (592, .if_icmp .ge 34, 3), (595, .aload_n 1, 1), (596, .iconst 2, 1), (597, .iload 9, 2), (599, .iload 10, 2), (601, .invokestatic 150, 3), (604, .aload_n 2, 1), (605, .iconst 2, 1), (606, .iload 9, 2), (608, .iload 10, 2), (610, .invokestatic 150, 3), (613, .if_icmp .ne 7, 3), (616, .iconst 1, 1), (617, .goto 4, 3), (620, .iconst 0, 1), (621, .istore 4, 2), (623, .goto 113, 3), (626, .iload 7, 2), (628, .bipush 27, 2), (630, .if_icmp .ge 30, 3), (633, .aload_n 1, 1), (634, .iconst 3, 1), (635, .iload 9, 2), (637, .invokestatic 139, 3), (640, .aload_n 2, 1), (641, .iconst 3, 1), (642, .iload 9, 2), (644, .invokestatic 139, 3), (647, .if_icmp .ne 7, 3), (650, .iconst 1, 1), (651, .goto 4, 3), (654, .iconst 0, 1), (655, .istore 4, 2)]
set_option maxRecDepth 100000 in
theorem gh_ld5 : ∀ e ∈ gk_lw5, decode code e.1 = .ok e.2 := by decide +kernel
def gk_lw6 : List (Nat × Instr × Nat) := [(657, .goto 79, 3), (660, .iload 7, 2), (662, .bipush 30, 2), (664, .if_icmp .ge 40, 3), (667, .aload_n 1, 1), (668, .iload 9, 2), (670, .iload 10, 2), (672, .iload 11, 2), (674, .iload 12, 2), (676, .invokestatic 154, 3), (679, .aload_n 2, 1), (680, .iload 9, 2), (682, .iload 10, 2), (684, .iload 11, 2), (686, .iload 12, 2), (688, .invokestatic 154, 3), (691, .if_icmp .ne 7, 3), (694, .iconst 1, 1), (695, .goto 4, 3), (698, .iconst 0, 1), (699, .istore 4, 2), (701, .goto 35, 3), (704, .aload_n 1, 1), (705, .iconst 2, 1), (706, .iload 9, 2), (708, .iload 11, 2), (710, .iload 12, 2), (712, .invokestatic 146, 3), (715, .aload_n 2, 1), (716, .iconst 2, 1), (717, .iload 9, 2), (719, .iload 11, 2), (721, .iload 12, 2), (723, .invokestatic 146, 3), (726, .if_icmp .ne 7, 3), (729, .iconst 1, 1), (730, .goto 4, 3), (733, .iconst 0, 1), (734, .istore 4, 2), (736, .iload 4, 2), (738, .ifCond .eq 28, 3), (741, .iload 5, 2), (743, .iconst 3, 1), (744, .irem, 1), (745, .iconst 2, 1), (746, .if_icmp .lt 16, 3), (749, .aload_n 1, 1), (750, .aload_n 2, 1), (751, .iload_n 3, 1), (752, .iload 6, 2), (754, .iconst 3, 1), (755, .idiv, 1), (756, .invokestatic 156, 3), (759, .ifCond .eq 7, 3), (762, .iconst 1, 1), (763, .goto 4, 3), (766, .iconst 0, 1), (767, .istore 4, 2), (769, .iinc 5 1, 3), (772, .goto (-720), 3)]
set_option maxRecDepth 100000 in
theorem gh_ld6 : ∀ e ∈ gk_lw6, decode code e.1 = .ok e.2 := by decide +kernel
def gk_lw7 : List (Nat × Instr × Nat) := [(775, .iload 4, 2), (777, .ireturn, 1)]
set_option maxRecDepth 100000 in
theorem gh_ld7 : ∀ e ∈ gk_lw7, decode code e.1 = .ok e.2 := by decide +kernel
set_option maxRecDepth 100000 in
theorem gh_lwEq : gk_law = gk_lw0 ++ (gk_lw1 ++ (gk_lw2 ++ (gk_lw3 ++ (gk_lw4 ++ (gk_lw5 ++ (gk_lw6 ++ (gk_lw7))))))) := rfl
set_option maxRecDepth 100000 in
theorem gh_lwD : ∀ e ∈ gk_law, decode code e.1 = .ok e.2 := by
  rw [gh_lwEq]
  exact List.forall_mem_append.mpr ⟨gh_ld0, List.forall_mem_append.mpr ⟨gh_ld1, List.forall_mem_append.mpr ⟨gh_ld2, List.forall_mem_append.mpr ⟨gh_ld3, List.forall_mem_append.mpr ⟨gh_ld4, List.forall_mem_append.mpr ⟨gh_ld5, List.forall_mem_append.mpr ⟨gh_ld6, gh_ld7⟩⟩⟩⟩⟩⟩⟩
set_option maxRecDepth 100000 in
theorem gh_lwC : gh_chkB 9 137 "law" 15 gk_law = true := by decide +kernel
end
section
/-! THE LAW's BODY, from a ghost run of it to the machine -/
def R_law : String := "TreeclerkLaw"
def lw_P (b : Addr) (xs : List Int32) (args : Array Value) (s : State) : Prop := args = #[.ref b] ∧ s.IntsAt b xs ∧ xs.length ≤ 260 ∧ (Jvm.Cond.and given_1 narrow_1).before args s = true
def lw_Q (_ : Array Value) (s : State) (o : Outcome) (t : State) : Prop := o = .returned (some (.int 1)) ∧ Framed s o t [] 620120 7241264
def lw_Z (below : List Frame) (a : Array Value) (s : State) : State → Prop := fun t => ∃ o, t.status = .running ∧ Ended t below o ∧ lw_Q a s o t
/-- the law's own end, with 1 on the stack, nothing written that was there before, its room as the claim has it -/
theorem lw_ret {p : Program} {l : Launch} {e : Env} {s : State} {m : MethodId} {below : List Frame} {meth : Method} {c : Code} {b : Nat} (hx : p.tables.exec = Jvm.exec) (hb : c.code = code) (hr : meth.sig.returnType = ret) (hlocks : meth.locks = false) {pc : Nat} {H : Heap} {ls : Array Slot} (hdg : decode code pc = .ok (.ireturn, 1)) : W p l e room_1 s m #[Value.ref b] below meth c H [] 620120 7241264 (lw_Z below #[Value.ref b] s) (F0 m pc ls [.int 1]) := by
  intro T hT X
  obtain ⟨fs, hret, hrun, hended, hW, hframe⟩ := X.leave (v := some (.int 1)) (hlocks := hlocks) (fun h => by rw [hr] at h; cases h)
  have hmeth' : T.vm.method? m = some meth := X.method'
  refine ⟨T.setFrames fs, ?_, .returned (some (.int 1)), hrun, hended, rfl, ⟨_, rfl⟩, hW, hframe⟩
  jvm_step X.here [X.here.top, hx, hb, hdg, hmeth', hr, ret, narrow_b1]
  (try refine ⟨rfl, ?_⟩); (try refine ⟨rfl, ?_⟩)
  first | (intro acts; rw [hret _ acts rfl rfl rfl]) | rw [hret _ _ rfl rfl rfl]
  exact Steps.refl _
end
section
section GL
variable {z : gh_Z} {p : Program} {l : Launch} {e : Env} {R : Room} {s : State} {m : MethodId} {args : Array Value} {below : List Frame} {meth : Method} {c : Code} {nL g0 z0 k0 y0 : Nat} {Q : State → Prop} {cc : ByteArray} {rt : Option FieldType} {nm : String} {pc : Nat} {lo : gh_L} {st : List Value} {G : gh_H}
set_option maxHeartbeats 1000000 in
/-- a call of a helper -/
theorem gh_callH (hC : gh_Cx z p s m args meth c 9 cc nL rt nm) (hst : l.stackTraces = false) {i : Instr} {N d top μ : Nat} {as r : List Value} {v : Option Value} {gK1 : gh_H} (hd : decode cc pc = .ok (i, 3)) (hkn : gh_knP 9 top i) (h1 : 128 ≤ μ) (h2 : μ < 136) (h : gh_step true 9 rt pc i 3 lo st G = some (.inr (.inr (μ, as, r)))) (hc : gh_cl true N d μ as G = some (.inl v, gK1)) (hg : g0 ≤ G.length) (hz : z0 ≤ gh_sz G) (hfr : 8 + d + 1 ≤ R.frames) (hlo : 8 + (12 + 11) + (200 + 40 * d) ≤ R.locals) (hcells : gK1.length - g0 + k0 + 1 ≤ R.cells) (hslots : gh_sz gK1 - z0 + y0 + 6 ≤ R.slots)
    (kret : gh_T z p l e R s m args below meth c nL g0 z0 Q (k0 + 1) (y0 + 6) (pc + 3) lo (v.toList ++ r) gK1) : gh_T z p l e R s m args below meth c nL g0 z0 Q k0 y0 pc lo st G := by
  have hm9 := gh_cl_mono _ _ _ _ _ _ hc
  obtain ⟨hx, hb, hml, -, -, hown, hts, hKB, -⟩ := hC
  obtain ⟨q, m9, hh, hq, hm, hho, -, -, -, -, hcls, -, hB, -, idx9, n9, -, hlink, hpn, huniq⟩ := gh_Xall μ h1 h2
  have hCon := gh_help l hst z N d μ as G v gK1 h1 h2 hc q hh hq hho (fun m hm' => by cases Option.some.inj (hm.symm.trans hm'); exact hB)
  intro H locs ls hR hS hl T hT X
  have hpre : ∀ U : State, U.heap = H → s.WarmedH U.vm → gh_Pre z true as G (as.map (gh_em z)).toArray U := by
    intro U hU hW
    exact ⟨rfl, by rw [hU]; exact hR, gh_KB_moved (locs := locs) hKB hW (by rw [hU]; exact hS), fun hf => nomatch hf⟩
  have hlen : ls.size = nL := hl.1
  have hA : ∀ q : Nat, q < H.size → gh_A z q → gh_A z q := fun _ _ h => h
  have fin : ∀ (idx n : Nat), gh_mR 9 idx = some (μ, n) → i = .invokestatic idx → n ≤ st.length → gh_cat r ≤ 8 → as = (st.take n).reverse → r = st.drop n → ∃ t, Steps p.tables e below (T.setTop (F0 m pc ls (st.map (gh_em z)))) t ∧ Q t := by
    intro idx n hm1 hi hn hcat has hr
    subst hi
    have hu := huniq _ (gh_look hm1) rfl
    obtain ⟨rfl, rfl⟩ : idx = idx9 ∧ n = n9 := by simpa using hu
    obtain ⟨hst9, hal⟩ := gh_take_map hn has hr
    have cw : vx_CSW R s args "TreeclerkLaw" idx q.1 q.2.1 q.2.2.1 q.2.2.2.1 hh (gh_wsH q hh) (gh_rm d (gK1.length - G.length + 1) (gh_sz gK1 - gh_sz G + 6)) (gK1.length - G.length + 1) (gh_sz gK1 - gh_sz G + 6) as.length := by
      refine vx_cwSW (Ts := gh_wsG) (ws' := gh_wsG) as.length hts (fun w hw => ?_) rfl rfl rfl ⟨hho.2.2.1.1, hho.2.2.1.2, by rw [hal]; exact hpn⟩ ⟨hfr, by have := hho.2.2.2.2.1; show 8 + (q.2.2.1 + 11) + (200 + 40 * d) ≤ _; omega⟩
      unfold va_wsS gh_wsH at hw
      simp only [List.mem_append, List.mem_cons, List.not_mem_nil, or_false] at hw
      rcases hw with (rfl | rfl | rfl) | rfl | hw
      · exact gh_goodIn _ hlink
      · exact gh_goodIn _ hho.2.2.2.2.2
      · exact gh_goodIn _ hho.2.1
      · exact gh_goodIn _ hho.1
      · exact gh_goodIn _ hw
    have hrun := vx_runSX (p := p) (l := l) (e := e) (R := R) (s := s) (m := m) (args := args) (below := below) (meth := meth) (c := c) (H := H) (locs := locs) (cells := G.length - g0 + k0) (slots := gh_sz G - z0 + y0) (As := as.map (gh_em z)) (rest := r.map (gh_em z)) (g := F0 m pc ls (st.map (gh_em z))) ⟨hx, hb, hml, hown, hts⟩ hCon cw ⟨gh_Pre_blind z true _ G, hpre⟩ rfl (by rw [List.length_map]) hlen (by rw [hst9]; simp) (by rw [gh_es_cat]; exact (show 2 * 0 + gh_cat r ≤ 8 by omega)) hd ⟨by omega, by omega⟩
    rcases hrun T hT X with ⟨w, st₀, t, T', L, h0, X', hL, e1, e2, ⟨v0, ho, hv, hR1, hF⟩, st1⟩ | ⟨q9, st₀, t, T', L, E, ce, h0, X', hL, e1, e2, ⟨k9, ho, -⟩, -⟩
    · obtain ⟨k1, k2, k3⟩ := vx_keep h0 e1 hS hA (fun _ h => h) hL hF
      cases hv
      cases ho
      have X2 : Stand p l e R s m args below meth c T' (locs ++ L) (gK1.length - g0 + (k0 + 1)) (gh_sz gK1 - z0 + (y0 + 6)) := by
        have e5 : G.length - g0 + k0 + (gK1.length - G.length + 1) = gK1.length - g0 + (k0 + 1) := by omega
        have e6 : gh_sz G - z0 + y0 + (gh_sz gK1 - gh_sz G + 6) = gh_sz gK1 - z0 + (y0 + 6) := by omega
        rw [e5, e6] at X'
        exact X'
      obtain ⟨t2, b1, b2⟩ := kret T'.heap (locs ++ L) ls (by rw [e1]; exact hR1) k3 hl T' rfl X2
      refine ⟨t2, st1 t2 ?_, b2⟩
      have e7 : (v.map (gh_em z)).toList ++ r.map (gh_em z) = (v.toList ++ r).map (gh_em z) := by cases v <;> rfl
      show Steps p.tables e below (T'.setTop (F0 m (pc + 3) ls ((v.map (gh_em z)).toList ++ r.map (gh_em z)))) t2
      rw [e7]
      exact b1
    · cases ho
  cases i with
  | invokestatic idx =>
    simp only [gh_step] at h
    split at h
    · simp only [gh_mm, gh_go] at h
      (repeat' split at h) <;> cases h
    · split at h
      · simp only [gh_acopy, gh_go] at h
        (repeat' split at h) <;> cases h
      · obtain ⟨n, hm1, hn, hcat, has, hr⟩ := gh_call_inv h
        exact fin idx n hm1 rfl hn hcat has hr
  | invokevirtual idx =>
    exfalso
    simp only [gh_step] at h
    split at h
    · obtain ⟨n, hm1, -⟩ := gh_call_inv h
      have := (hkn μ n hm1).1
      omega
    · cases h
  | invokespecial idx =>
    exfalso
    simp only [gh_step] at h
    split at h
    · (repeat' split at h) <;> cases h
    · split at h
      · obtain ⟨n, hm1, -⟩ := gh_call_inv h
        have := (hkn μ n hm1).1
        omega
      · cases h
  | _ =>
    exfalso
    first
    | exact absurd (show (none : Option gh_R) = some (.inr (.inr (μ, as, r))) from h) (by simp)
    | (simp only [gh_step, gh_go, gh_push, gh_pop1, gh_pop2, gh_bin, gh_binJ, gh_binD, gh_binZ, gh_jmp, gh_sw, gh_get, gh_put, gh_ald, gh_ast, gh_len, gh_newa, gh_new, gh_ret] at h
       repeat' split at h
       all_goals cases h)
end GL
end
section
/-! THE COUNTED RUN: a body without handlers, each call of a helper paid for; same, and the law -/
set_option maxRecDepth 100000 in
theorem gh_y136 : ∃ q, gh_yt[136]? = some q ∧ gh_yOK q := ⟨_, rfl, ⟨gh_w 801 rfl rfl, gh_w 0 rfl rfl, ⟨by decide, by decide⟩, by decide +kernel, by decide, Or.inr (Or.inl ⟨rfl, gh_w 800 rfl rfl⟩)⟩⟩
set_option maxRecDepth 100000 in
theorem gh_h136 : gh_chkB 9 136 "same" 11 gk_136 = true := by decide +kernel
/-- all that is known of same -/
def gh_SOK : Prop := ∃ q, gh_yt[136]? = some q ∧ gh_yOK q ∧ q.2.2.2.2 = 1 ∧ q.2.2.2.1 = some .boolean ∧ q.1.cls = "TreeclerkLaw" ∧ q.1.name = "same" ∧ q.2.2.1 = 11 ∧ (∀ e ∈ gk_136, decode q.2.1 e.1 = .ok e.2) ∧ Cond.methodLink "TreeclerkLaw" 156 q.1 ∈ gh_wsG ∧ (parseMethodDescriptor q.1.desc).map (fun d => d.parameters.length) = some 4 ∧ (∀ e ∈ gh_mrt.getD 9 [], e.2.1 = 136 → e = (156, 136, 4))
set_option maxRecDepth 100000 in
theorem gh_S136 : gh_SOK := by
  obtain ⟨q, hq, hy⟩ := gh_y136
  have e : gh_yt[136]? = some _ := rfl
  cases Option.some.inj (e.symm.trans hq)
  exact ⟨_, rfl, hy, rfl, rfl, rfl, rfl, rfl, gh_d136, gh_w 799 rfl rfl, by decide +kernel, by decide +kernel⟩
/-- what a call costs: an exception that a helper may have caught -/
def gh_ct (μ : Nat) : Nat := if μ < 128 then 0 else if μ = 136 then 40 else 1
/-- a run of a body without handlers: n steps at most, b paid at most -/
def gh_ec (C : Nat → List Value → gh_H → Option (gh_O × gh_H)) (rt : Option FieldType) (K : List (Nat × Instr × Nat)) : Nat → Nat → Nat → gh_L → List Value → gh_H → Option (Option Value × gh_H)
  | 0, _, _, _, _, _ => none
  | n + 1, b, pc, l, st, G => match K.lookup pc with
    | none => none
    | some (i, len) => match gh_step true 9 rt pc i len l st G with
      | none => none
      | some (.inl (pc', l', st', G')) => gh_ec C rt K n b pc' l' st' G'
      | some (.inr (.inl (.inl v))) => some (v, G)
      | some (.inr (.inl (.inr _))) => none
      | some (.inr (.inr (μ, as, r))) => if b < gh_ct μ then none else match C μ as G with
        | some (.inl v, G') => gh_ec C rt K n (b - gh_ct μ) (pc + 3) l (v.toList ++ r) G'
        | _ => none
/-- a call of same: its body, paid for -/
def gh_sm (N d : Nat) (as : List Value) (G : gh_H) : Option (Option Value × gh_H) := if gh_cat as ≤ 11 then gh_ec (gh_cl true N d) (some .boolean) gk_136 N 40 0 (lv_args 0 as) [] G else none
/-- what the law calls -/
def gh_cw (N d μ : Nat) (as : List Value) (G : gh_H) : Option (gh_O × gh_H) := if μ = 136 then (gh_sm N d as G).map (fun q => (.inl q.1, q.2)) else gh_cl true N d μ as G
theorem gh_ec_mono {C : Nat → List Value → gh_H → Option (gh_O × gh_H)} {rt : Option FieldType} {K : List (Nat × Instr × Nat)} (hCm : ∀ μ as G o G', C μ as G = some (o, G') → G.length ≤ G'.length ∧ gh_sz G ≤ gh_sz G') :
    ∀ (n b pc : Nat) (l : gh_L) (st : List Value) (G : gh_H) (v : Option Value) (G' : gh_H), gh_ec C rt K n b pc l st G = some (v, G') → G.length ≤ G'.length ∧ gh_sz G ≤ gh_sz G' := by
  intro n
  induction n with
  | zero => intro b pc l st G o G' h; cases h
  | succ n ih =>
    intro b pc l st G o G' h
    rw [gh_ec] at h
    split at h
    · cases h
    · split at h
      · cases h
      · next pc1 l1 st1 G1 hs =>
        have h1 := gh_step_mono hs
        have h2 := ih _ _ _ _ _ _ _ h
        omega
      · cases h; omega
      · cases h
      · split at h
        · cases h
        · split at h
          · next v G1 hc =>
            have h1 := hCm _ _ _ _ _ hc
            have h2 := ih _ _ _ _ _ _ _ h
            omega
          · cases h
theorem gh_cw_mono {N d : Nat} (μ : Nat) (as : List Value) (G : gh_H) (o : gh_O) (G' : gh_H) (h : gh_cw N d μ as G = some (o, G')) : G.length ≤ G'.length ∧ gh_sz G ≤ gh_sz G' := by
  unfold gh_cw at h
  split at h
  · obtain ⟨q, hq, e⟩ := Option.map_eq_some_iff.mp h
    cases e
    unfold gh_sm at hq
    split at hq
    · exact gh_ec_mono (gh_cl_mono d) _ _ _ _ _ _ _ _ hq
    · cases hq
  · exact gh_cl_mono _ _ _ _ _ _ h
def gh_ConS (l : Launch) (z : gh_Z) (d : Nat) (q : MethodName × ByteArray × Nat × Option FieldType × Nat) (as : List Value) (G : gh_H) (v : Option Value) (G' : gh_H) : Prop :=
  vx_Met l q.1 (gh_wsY q) (gh_rm (d + 1) (G'.length - G.length + 40) (gh_sz G' - gh_sz G + 240)) (gh_Pre z true as G) (gh_Qo z (.inl v) G') (gh_Xo z (.inl v) G') (G'.length - G.length + 40) (gh_sz G' - gh_sz G + 240) (gh_A z)
section GH
variable {z : gh_Z} {p : Program} {l : Launch} {e : Env} {R : Room} {s : State} {m : MethodId} {args : Array Value} {below : List Frame} {meth : Method} {c : Code} {nL g0 z0 own : Nat} {cc : ByteArray} {nm : String}
theorem gh_bodyS {K : List (Nat × Instr × Nat)} {N d : Nat} {v : Option Value} {Gf : gh_H} (hC : gh_Cx z p s m args meth c 9 cc nL (some .boolean) nm) (hst : l.stackTraces = false) (hK : ∀ e ∈ K, decode cc e.1 = .ok e.2) (hchk : gh_chkB 9 136 nm nL K = true)
    (hR : R = gh_rm (d + 1) (Gf.length - g0 + 40) (gh_sz Gf - z0 + 240)) :
    ∀ (n b pc : Nat) (lo : gh_L) (st : List Value) (G : gh_H) (k0 y0 : Nat), gh_ec (gh_cl true N d) (some .boolean) K n b pc lo st G = some (v, Gf) → g0 ≤ G.length → z0 ≤ gh_sz G → k0 + b ≤ 40 → y0 + 6 * b ≤ 240 →
      gh_T z p l e R s m args below meth c nL g0 z0 (vx_MQ below (gh_Qo z (.inl v) Gf) (gh_Xo z (.inl v) Gf) args s (Gf.length - g0 + 40) (gh_sz Gf - z0 + 240) (gh_A z)) k0 y0 pc lo st G := by
  intro n
  induction n with
  | zero => intro b pc lo st G k0 y0 h; cases h
  | succ n ih =>
    intro b pc lo st G k0 y0 h hg hz hkb hyb
    have hfin := gh_ec_mono (gh_cl_mono d) _ _ _ _ _ _ _ _ h
    have hRc : R.cells = Gf.length - g0 + 40 := by rw [hR]; rfl
    have hRs : R.slots = gh_sz Gf - z0 + 240 := by rw [hR]; rfl
    have hRf : R.frames = 8 + (d + 1) := by rw [hR]; rfl
    have hRl : R.locals = 200 + 40 * (d + 1) := by rw [hR]; rfl
    rw [gh_ec] at h
    split at h
    · cases h
    · next i len hlk =>
      have hmem := gh_look hlk
      have hd := hK (pc, i, len) hmem
      obtain ⟨hlen, hput, hstP, hkn⟩ := gh_chk hchk hmem
      split at h
      · cases h
      · next pc1 lo1 st1 G1 hs =>
        have h1 := gh_step_mono hs
        have h2 := gh_ec_mono (gh_cl_mono d) _ _ _ _ _ _ _ _ h
        exact gh_stepT hC hd hlen hput hs (fun hf => nomatch hf) hg hz (by omega) (by omega) (by omega) (by omega) (by omega) (by omega) hstP (ih _ _ _ _ _ _ _ h (by omega) (by omega) hkb hyb)
      · next v1 hs =>
        cases h
        exact gh_T_widen (gh_retT (k0 := 40) (y0 := 240) hC hd hlen hs) (by omega) (by omega)
      · cases h
      · next μ as r hs =>
        obtain ⟨hl3, hμ⟩ := gh_call_len hs hlen hkn
        subst hl3
        split at h
        · cases h
        · next hb9 =>
          split at h
          · next w G1 hc =>
            have h1 := gh_cl_mono _ _ _ _ _ _ hc
            have h2 := gh_ec_mono (gh_cl_mono d) _ _ _ _ _ _ _ _ h
            by_cases hμ2 : μ < 128
            · have hct : gh_ct μ = 0 := if_pos hμ2
              rw [hct] at h hb9
              obtain ⟨q, m9, hq, -⟩ := gh_Mall μ hμ2
              refine gh_callW hC hd hkn hμ2 hs hq (gh_norm l hst z true N d μ as G _ G1 hμ2 hc q hq) (fun hf => nomatch hf) hg hz h1.1 h1.2 (by omega) (by omega) (by simp only [gh_th]; omega) (by simp only [gh_th]; omega) (fun w9 hw => ?_) (fun E hE => by cases hE)
              cases hw
              exact ih _ _ _ _ _ _ _ h (by omega) (by omega) (by omega) (by omega)
            · have hct : gh_ct μ = 1 := by unfold gh_ct; rw [if_neg hμ2, if_neg (by omega)]
              rw [hct] at h hb9
              exact gh_callH hC hst hd hkn (by omega) (by omega) hs hc hg hz (by omega) (by omega) (by omega) (by omega) (ih _ _ _ _ _ _ _ h (by omega) (by omega) (by omega) (by omega))
          · cases h
end GH
/-- same -/
theorem gh_same (l : Launch) (hst : l.stackTraces = false) (z : gh_Z) (N d : Nat) (as : List Value) (G : gh_H) (v : Option Value) (G' : gh_H) (h : gh_sm N d as G = some (v, G')) : ∀ q, gh_yt[136]? = some q → gh_ConS l z d q as G v G' := by
  intro q hq
  obtain ⟨q', hq', hY, hkd, hrt, hcls, hnm, hml9, hdec, -⟩ := gh_S136
  cases Option.some.inj (hq'.symm.trans hq)
  unfold gh_sm at h
  split at h
  · next hcat =>
    rw [← hml9] at hcat
    refine vx_ofW (cc := q.2.1) (maxL := q.2.2.1) (ret := q.2.2.2.1) hY.2.2.2.1 rfl ?_
    intro p e s m args below meth c s₁ B hml htab hv
    obtain ⟨rfl, hRel, hKB, hsz⟩ := hv
    have hts := atoms_spec (ws := gh_wsY q) B.pre
    have hC : gh_Cx z p s m (as.map (gh_em z)).toArray meth c 9 q.2.1 q.2.2.1 (some .boolean) q.1.name :=
      ⟨B.exec, B.bytes, hml, by rw [← hrt]; exact B.returns, B.notSynchronized, by rw [show gh_on 9 = q.1.cls from hcls.symm]; exact findClass_of_methodNamed B.named, fun w hw => hts w (List.mem_cons_of_mem _ hw), hKB, (name_of_methodNamed B.named B.method).1⟩
    have hl := lv_entry (as.map (gh_em z)) (n := q.2.2.1) (by rw [gh_sl_len]; exact hcat)
    rw [lg_entry_eq]
    generalize (lg_sl (as.map (gh_em z)) ++ List.replicate (q.2.2.1 - (lg_sl (as.map (gh_em z))).length) Slot.unset).toArray = ls at hl ⊢
    rw [gh_args_em] at hl
    have hrun := gh_bodyS (g0 := G.length) (z0 := gh_sz G) (e := e) (below := below) hC hst hdec (by rw [hnm, hml9]; exact gh_h136) (R := (headSpec (gh_wsY q) (gh_rm (d + 1) (G'.length - G.length + 40) (gh_sz G' - gh_sz G + 240))).room) rfl N 40 0 (lv_args 0 as) [] G 0 0 h (Nat.le_refl _) (Nat.le_refl _) (by omega) (by omega) s.heap [] ls hRel va_S.rf hl
    rw [Nat.sub_self, Nat.sub_self] at hrun
    exact hrun
  · cases h
section GL
variable {z : gh_Z} {p : Program} {l : Launch} {e : Env} {R : Room} {s : State} {m : MethodId} {args : Array Value} {below : List Frame} {meth : Method} {c : Code} {nL g0 z0 k0 y0 : Nat} {Q : State → Prop} {cc : ByteArray} {rt : Option FieldType} {nm : String} {pc : Nat} {lo : gh_L} {st : List Value} {G : gh_H}
set_option maxHeartbeats 1000000 in
/-- a call of same -/
theorem gh_callS (hC : gh_Cx z p s m args meth c 9 cc nL rt nm) (hst : l.stackTraces = false) {i : Instr} {N d top : Nat} {as r : List Value} {v : Option Value} {gK1 : gh_H} (hd : decode cc pc = .ok (i, 3)) (hkn : gh_knP 9 top i) (h : gh_step true 9 rt pc i 3 lo st G = some (.inr (.inr (136, as, r)))) (hc : gh_sm N d as G = some (v, gK1)) (hg : g0 ≤ G.length) (hz : z0 ≤ gh_sz G) (hfr : 8 + d + 2 ≤ R.frames) (hlo : 8 + (12 + 11) + (200 + 40 * (d + 1)) ≤ R.locals) (hcells : gK1.length - g0 + k0 + 40 ≤ R.cells) (hslots : gh_sz gK1 - z0 + y0 + 240 ≤ R.slots)
    (kret : gh_T z p l e R s m args below meth c nL g0 z0 Q (k0 + 40) (y0 + 240) (pc + 3) lo (v.toList ++ r) gK1) : gh_T z p l e R s m args below meth c nL g0 z0 Q k0 y0 pc lo st G := by
  have hm9 : G.length ≤ gK1.length ∧ gh_sz G ≤ gh_sz gK1 := gh_cw_mono (N := N) (d := d) 136 as G (.inl v) gK1 (by unfold gh_cw; rw [if_pos rfl, hc]; rfl)
  have hf1 : G.length - g0 + k0 + (gK1.length - G.length + 40) ≤ R.cells := by omega
  have hf2 : gh_sz G - z0 + y0 + (gh_sz gK1 - gh_sz G + 240) ≤ R.slots := by omega
  have hfr1 : 8 + (d + 1) + 1 ≤ R.frames := by omega
  obtain ⟨hx, hb, hml, -, -, hown, hts, hKB, -⟩ := hC
  obtain ⟨q, hq, hY, hkd, hrt, hcls, hnm, hml9, -, hlink, hpn, huniq⟩ := gh_S136
  have hCon := gh_same l hst z N d as G v gK1 hc q hq
  unfold gh_ConS at hCon
  intro H locs ls hR hS hl T hT X
  have hpre : ∀ U : State, U.heap = H → s.WarmedH U.vm → gh_Pre z true as G (as.map (gh_em z)).toArray U := by
    intro U hU hW
    exact ⟨rfl, by rw [hU]; exact hR, gh_KB_moved (locs := locs) hKB hW (by rw [hU]; exact hS), fun hf => nomatch hf⟩
  have hlen : ls.size = nL := hl.1
  have hA : ∀ q : Nat, q < H.size → gh_A z q → gh_A z q := fun _ _ h => h
  have fin : ∀ (idx n : Nat), gh_mR 9 idx = some (136, n) → i = .invokestatic idx → n ≤ st.length → gh_cat r ≤ 8 → as = (st.take n).reverse → r = st.drop n → ∃ t, Steps p.tables e below (T.setTop (F0 m pc ls (st.map (gh_em z)))) t ∧ Q t := by
    intro idx n hm1 hi hn hcat has hr
    subst hi
    have hu := huniq _ (gh_look hm1) rfl
    simp only [Prod.mk.injEq, true_and] at hu
    obtain ⟨rfl, rfl⟩ := hu
    obtain ⟨hst9, hal⟩ := gh_take_map hn has hr
    rcases hY.2.2.2.2.2 with ⟨h1, -⟩ | ⟨-, hstt⟩ | ⟨h1, -⟩
    · rw [hkd] at h1; cases h1
    · have cb := gh_callB (R := R) (own := 9) (mc := gK1.length - G.length + 40) (ms := gh_sz gK1 - gh_sz G + 240) (d := d + 1) (n := as.length) hts hY hlink (by rw [hal]; exact hpn) ⟨hfr1, by have := hY.2.2.2.2.1; omega⟩
      have hrun := vx_runS (p := p) (l := l) (e := e) (R := R) (s := s) (m := m) (args := args) (below := below) (meth := meth) (c := c) (H := H) (locs := locs) (cells := G.length - g0 + k0) (slots := gh_sz G - z0 + y0) (As := as.map (gh_em z)) (rest := r.map (gh_em z)) (g := F0 m pc ls (st.map (gh_em z))) ⟨hx, hb, hml, hown, hts⟩ hCon ⟨cb, hts _ hstt⟩ ⟨gh_Pre_blind z true _ G, hpre⟩ rfl (by rw [List.length_map]) hlen (by rw [hst9]; simp) (by rw [gh_es_cat]; exact (show 2 * 0 + gh_cat r ≤ 8 by omega)) hd ⟨hf1, hf2⟩
      rcases hrun T hT X with ⟨w, st₀, t, T', L, h0, X', hL, e1, e2, ⟨v0, ho, hv, hR1, hF⟩, st1⟩ | ⟨q9, st₀, t, T', L, E, ce, h0, X', hL, e1, e2, ⟨k9, ho, -⟩, -⟩
      · obtain ⟨k1, k2, k3⟩ := vx_keep h0 e1 hS hA (fun _ h => h) hL hF
        cases hv
        cases ho
        have X2 : Stand p l e R s m args below meth c T' (locs ++ L) (gK1.length - g0 + (k0 + 40)) (gh_sz gK1 - z0 + (y0 + 240)) := by
          have e5 : G.length - g0 + k0 + (gK1.length - G.length + 40) = gK1.length - g0 + (k0 + 40) := by omega
          have e6 : gh_sz G - z0 + y0 + (gh_sz gK1 - gh_sz G + 240) = gh_sz gK1 - z0 + (y0 + 240) := by omega
          rw [e5, e6] at X'
          exact X'
        obtain ⟨t2, b1, b2⟩ := kret T'.heap (locs ++ L) ls (by rw [e1]; exact hR1) k3 hl T' rfl X2
        refine ⟨t2, st1 t2 ?_, b2⟩
        have e7 : (v.map (gh_em z)).toList ++ r.map (gh_em z) = (v.toList ++ r).map (gh_em z) := by cases v <;> rfl
        show Steps p.tables e below (T'.setTop (F0 m (pc + 3) ls ((v.map (gh_em z)).toList ++ r.map (gh_em z)))) t2
        rw [e7]
        exact b1
      · cases ho
    · rw [hkd] at h1; cases h1
  cases i with
  | invokestatic idx =>
    simp only [gh_step] at h
    split at h
    · simp only [gh_mm, gh_go] at h
      (repeat' split at h) <;> cases h
    · split at h
      · simp only [gh_acopy, gh_go] at h
        (repeat' split at h) <;> cases h
      · obtain ⟨n, hm1, hn, hcat, has, hr⟩ := gh_call_inv h
        exact fin idx n hm1 rfl hn hcat has hr
  | invokevirtual idx =>
    exfalso
    simp only [gh_step] at h
    split at h
    · obtain ⟨n, hm1, -⟩ := gh_call_inv h
      have := (hkn 136 n hm1).1
      omega
    · cases h
  | invokespecial idx =>
    exfalso
    simp only [gh_step] at h
    split at h
    · (repeat' split at h) <;> cases h
    · split at h
      · obtain ⟨n, hm1, -⟩ := gh_call_inv h
        have := (hkn 136 n hm1).1
        omega
      · cases h
  | _ =>
    exfalso
    first
    | exact absurd (show (none : Option gh_R) = some (.inr (.inr (136, as, r))) from h) (by simp)
    | (simp only [gh_step, gh_go, gh_push, gh_pop1, gh_pop2, gh_bin, gh_binJ, gh_binD, gh_binZ, gh_jmp, gh_sw, gh_get, gh_put, gh_ald, gh_ast, gh_len, gh_newa, gh_new, gh_ret] at h
       repeat' split at h
       all_goals cases h)
end GL
section GL
variable {z : gh_Z} {p : Program} {l : Launch} {e : Env} {R : Room} {s : State} {m : MethodId} {args : Array Value} {below : List Frame} {meth : Method} {c : Code} {nL g0 z0 k0 y0 : Nat} {Q : State → Prop} {cc : ByteArray} {rt : Option FieldType} {nm : String} {pc : Nat} {lo : gh_L} {st : List Value} {G : gh_H}
theorem gh_retI_inv {pc len : Nat} {i : Instr} {fz : Bool} {x : Int32} (h : gh_step fz 9 (some .boolean) pc i len lo st G = some (.inr (.inl (.inl (some (.int x)))))) : i = .ireturn ∧ st = [.int x] := by
  cases i with
  | ireturn =>
    obtain ⟨v, ty, rfl, -, -, -, ho⟩ := gh_ret_inv h
    cases ho
    exact ⟨rfl, rfl⟩
  | _ =>
    exfalso
    first
    | exact absurd (show (none : Option gh_R) = some (.inr (.inl (.inl (some (.int x))))) from h) (by simp)
    | (simp only [gh_step, gh_go, gh_push, gh_pop1, gh_pop2, gh_bin, gh_binJ, gh_binD, gh_binZ, gh_jmp, gh_sw, gh_get, gh_put, gh_ald, gh_ast, gh_len, gh_newa, gh_new, gh_ret, gh_call, gh_mm, gh_acopy] at h
       repeat' split at h
       all_goals first | cases h | (simp_all [gh_isJ, gh_isA, gh_isO]; done))
/-- the law's body in the world that is made -/
theorem gh_bodyL {b9 N d : Nat} {gKf : gh_H} (hC : gh_Cx z p s m #[Value.ref b9] meth c 9 code 15 (some .boolean) nm) (hst : l.stackTraces = false) (hnm : nm = "law") (hbase : z.2.2.2.1 = s.heap.size) (hd1 : d ≤ 2000) :
    ∀ (n b pc : Nat) (lo : gh_L) (st : List Value) (G : gh_H) (k0 y0 : Nat), gh_ec (gh_cw N d) (some .boolean) gk_law n b pc lo st G = some (some (.int 1), gKf) → g0 ≤ G.length → z0 ≤ gh_sz G → gKf.length - g0 + k0 + b ≤ 620120 → gh_sz gKf - z0 + y0 + 6 * b ≤ 7241264 →
      gh_T z p l e room_1 s m #[Value.ref b9] below meth c 15 g0 z0 (lw_Z below #[Value.ref b9] s) k0 y0 pc lo st G := by
  intro n
  induction n with
  | zero => intro b pc lo st G k0 y0 h; cases h
  | succ n ih =>
    intro b pc lo st G k0 y0 h hg hz hkc hks
    have hfin := gh_ec_mono gh_cw_mono _ _ _ _ _ _ _ _ h
    have hRc : room_1.cells = 620120 := rfl
    have hRs : room_1.slots = 7241264 := rfl
    have hRf : room_1.frames = 2048 := rfl
    have hRl : room_1.locals = 84000 := rfl
    rw [gh_ec] at h
    split at h
    · cases h
    · next i len hlk =>
      have hmem := gh_look hlk
      have hd := gh_lwD (pc, i, len) hmem
      obtain ⟨hlen, hput, hstP, hkn⟩ := gh_chk gh_lwC hmem
      rw [← hnm] at hput
      split at h
      · cases h
      · next pc1 lo1 st1 gK1 hs =>
        have h1 := gh_step_mono hs
        have h2 := gh_ec_mono gh_cw_mono _ _ _ _ _ _ _ _ h
        exact gh_stepT hC hd hlen hput hs (fun hf => nomatch hf) hg hz (by omega) (by omega) (by omega) (by omega) (by omega) (by omega) hstP (ih _ _ _ _ _ _ _ h (by omega) (by omega) (by omega) (by omega))
      · next v1 hs =>
        cases h
        obtain ⟨rfl, rfl⟩ := gh_retI_inv hs
        obtain rfl : len = 1 := hlen
        intro H locs ls hR hS hl
        refine W.widen (k := 620120) (n := 7241264) (by omega) (by omega) ?_
        exact va_forget (fun q hq => by have := hS.2.2 q hq; unfold gh_A at this; omega) (lw_ret hC.1 hC.2.1 hC.2.2.2.1 hC.2.2.2.2.1 hd)
      · cases h
      · next μ as r hs =>
        obtain ⟨hl3, hμ⟩ := gh_call_len hs hlen hkn
        subst hl3
        split at h
        · cases h
        · next hb9 =>
          split at h
          · next v gK1 hc =>
            have h1 := gh_cw_mono _ _ _ _ _ hc
            have h2 := gh_ec_mono gh_cw_mono _ _ _ _ _ _ _ _ h
            by_cases hμ2 : μ < 128
            · have hct : gh_ct μ = 0 := if_pos hμ2
              rw [hct] at h hb9
              have hc' : gh_cl true N d μ as G = some (.inl v, gK1) := by
                unfold gh_cw at hc
                rw [if_neg (by omega)] at hc
                exact hc
              obtain ⟨q, m9, hq, -⟩ := gh_Mall μ hμ2
              refine gh_callW hC hd hkn hμ2 hs hq (gh_norm l hst z true N d μ as G _ gK1 hμ2 hc' q hq) (fun hf => nomatch hf) hg hz h1.1 h1.2 (by omega) (by omega) (by simp only [gh_th]; omega) (by simp only [gh_th]; omega) (fun w9 hw => ?_) (fun E hE => by cases hE)
              cases hw
              exact ih _ _ _ _ _ _ _ h (by omega) (by omega) (by omega) (by omega)
            · by_cases hμ3 : μ = 136
              · subst hμ3
                have hct : gh_ct 136 = 40 := rfl
                rw [hct] at h hb9
                have hc' : gh_sm N d as G = some (v, gK1) := by
                  unfold gh_cw at hc
                  rw [if_pos rfl] at hc
                  obtain ⟨w, hw, ew⟩ := Option.map_eq_some_iff.mp hc
                  cases ew
                  exact hw
                exact gh_callS hC hst hd hkn hs hc' hg hz (by omega) (by omega) (by omega) (by omega) (ih _ _ _ _ _ _ _ h (by omega) (by omega) (by omega) (by omega))
              · have hct : gh_ct μ = 1 := by unfold gh_ct; rw [if_neg hμ2, if_neg hμ3]
                rw [hct] at h hb9
                have hc' : gh_cl true N d μ as G = some (.inl v, gK1) := by
                  unfold gh_cw at hc
                  rw [if_neg hμ3] at hc
                  exact hc
                exact gh_callH hC hst hd hkn (by omega) (by omega) hs hc' hg hz (by omega) (by omega) (by omega) (by omega) (ih _ _ _ _ _ _ _ h (by omega) (by omega) (by omega) (by omega))
          · cases h
end GL
end
section
section GL
variable {z : gh_Z} {p : Program} {l : Launch} {e : Env} {R : Room} {s : State} {m : MethodId} {args : Array Value} {below : List Frame} {meth : Method} {c : Code} {nL g0 z0 k0 y0 : Nat} {Q : State → Prop} {cc : ByteArray} {rt : Option FieldType} {nm : String} {pc : Nat} {lo : gh_L} {st : List Value} {G : gh_H}
/-- the law's first stretch: the two constructors, the answers' row; it stops at stop -/
def gh_px (C : Nat → List Value → gh_H → Option (gh_O × gh_H)) (stop : Nat) (K : List (Nat × Instr × Nat)) : Nat → Nat → gh_L → List Value → gh_H → Option gh_N
  | 0, _, _, _, _ => none
  | n + 1, pc, lo, st, G => if pc = stop then some (pc, lo, st, G) else match K.lookup pc with
    | none => none
    | some (i, len) => match gh_step false 9 (some .boolean) pc i len lo st G with
      | none => none
      | some (.inl (pc', lo', st', G')) => gh_px C stop K n pc' lo' st' G'
      | some (.inr (.inl _)) => none
      | some (.inr (.inr (μ, as, r))) => match C μ as G with
        | some (.inl v, G') => if μ < 128 then gh_px C stop K n (pc + 3) lo (v.toList ++ r) G' else none
        | _ => none
theorem gh_px_mono {C : Nat → List Value → gh_H → Option (gh_O × gh_H)} {stop : Nat} {K : List (Nat × Instr × Nat)} (hCm : ∀ μ as G o G', C μ as G = some (o, G') → G.length ≤ G'.length ∧ gh_sz G ≤ gh_sz G') :
    ∀ (n pc : Nat) (lo : gh_L) (st : List Value) (G : gh_H) (pc1 : Nat) (lo1 : gh_L) (st1 : List Value) (gK1 : gh_H), gh_px C stop K n pc lo st G = some (pc1, lo1, st1, gK1) → G.length ≤ gK1.length ∧ gh_sz G ≤ gh_sz gK1 := by
  intro n
  induction n with
  | zero => intro pc lo st G pc1 lo1 st1 gK1 h; cases h
  | succ n ih =>
    intro pc lo st G pc1 lo1 st1 gK1 h
    rw [gh_px] at h
    split at h
    · cases h; omega
    · split at h
      · cases h
      · split at h
        · cases h
        · next hs =>
          have h1 := gh_step_mono hs
          have h2 := ih _ _ _ _ _ _ _ _ h
          omega
        · cases h
        · split at h
          · next hc =>
            split at h
            · have h1 := hCm _ _ _ _ _ hc
              have h2 := ih _ _ _ _ _ _ _ _ h
              omega
            · cases h
          · cases h
theorem gh_pre {b N d : Nat} {gKf : gh_H} {pc9 : Nat} {lo9 : gh_L} {st9 : List Value} (hC : gh_Cx z p s m #[Value.ref b] meth c 9 code 15 (some .boolean) nm) (hst : l.stackTraces = false) (hnm : nm = "law") (he0 : s.heap.size + 1 = z.2.2.2.1 + g0) (hd1 : d ≤ 2000) {stop : Nat} (hroom : gKf.length - g0 ≤ 620120 ∧ gh_sz gKf - z0 ≤ 7241264)
    (kk : gh_T z p l e room_1 s m #[Value.ref b] below meth c 15 g0 z0 Q 0 0 pc9 lo9 st9 gKf) :
    ∀ (n pc : Nat) (lo : gh_L) (st : List Value) (G : gh_H), gh_px (gh_cl false N d) stop gk_law n pc lo st G = some (pc9, lo9, st9, gKf) → g0 ≤ G.length → z0 ≤ gh_sz G →
      gh_T z p l e room_1 s m #[Value.ref b] below meth c 15 g0 z0 Q 0 0 pc lo st G := by
  intro n
  induction n with
  | zero => intro pc lo st G h; cases h
  | succ n ih =>
    intro pc lo st G h hg hz
    have hfin := gh_px_mono (gh_cl_mono d) _ _ _ _ _ _ _ _ _ h
    have hRc : room_1.cells = 620120 := rfl
    have hRs : room_1.slots = 7241264 := rfl
    have hRf : room_1.frames = 2048 := rfl
    have hRl : room_1.locals = 84000 := rfl
    rw [gh_px] at h
    split at h
    · cases h; exact kk
    · split at h
      · cases h
      · next i len hlk =>
        have hmem := gh_look hlk
        have hd := gh_lwD (pc, i, len) hmem
        obtain ⟨hlen, hput, hstP, hkn⟩ := gh_chk gh_lwC hmem
        rw [← hnm] at hput
        split at h
        · cases h
        · next pc1 lo1 st1 gK1 hs =>
          have h1 := gh_step_mono hs
          have h2 := gh_px_mono (gh_cl_mono d) _ _ _ _ _ _ _ _ _ h
          exact gh_stepT hC hd hlen hput hs (fun _ => ⟨he0, rfl, rfl⟩) hg hz (by omega) (by omega) (by omega) (by omega) (by omega) (by omega) hstP (ih _ _ _ _ h (by omega) (by omega))
        · cases h
        · next μ as r hs =>
          obtain ⟨hl3, hμ⟩ := gh_call_len hs hlen hkn
          subst hl3
          split at h
          · next v gK1 hc =>
            split at h
            · next hμ2 =>
              have h1 := gh_cl_mono _ _ _ _ _ _ hc
              have h2 := gh_px_mono (gh_cl_mono d) _ _ _ _ _ _ _ _ _ h
              obtain ⟨q, m9, hq, -⟩ := gh_Mall μ hμ2
              refine gh_callW hC hd hkn hμ2 hs hq (gh_norm l hst z false N d μ as G _ gK1 hμ2 hc q hq) (fun _ => ⟨he0, rfl⟩) hg hz h1.1 h1.2 (by omega) (by omega) (by simp only [gh_th]; omega) (by simp only [gh_th]; omega) (fun w9 hw => ?_) (fun E hE => by cases hE)
              cases hw
              exact ih _ _ _ _ h (by omega) (by omega)
            · cases h
          · cases h
end GL
end
section
section GB0
/-- a slot of an object's world: 0 an int, 1 a long, r + 2 the reference r, which stays; the object's cells begin behind β others -/
def gb_sl (β : Nat) (σ : Nat → Nat → Int) (a j : Nat) (t : Nat) : Value := match t with
  | 0 => .int (Int32.ofInt (σ a j))
  | 1 => .long (Int64.ofInt (σ a j))
  | r + 2 => .ref (r + β)
def gb_row (β : Nat) (σ : Nat → Nat → Int) (a : Nat) : Nat → List Nat → List Value
  | _, [] => []
  | j, t :: ts => gb_sl β σ a j t :: gb_row β σ a (j + 1) ts
def gb_tab (β : Nat) (σ : Nat → Nat → Int) : Nat → List (Nat × List Nat) → gh_H
  | _, [] => []
  | a, c :: cs => (c.1, gb_row β σ a 0 c.2) :: gb_tab β σ (a + 1) cs
def gb_sh : List (Nat × List Nat) := [(7, [4, 8, 17, 22, 27, 28, 32, 43, 46, 0]), (2, [5, 6, 7, 0, 0]), (20, List.replicate 14 0), (20, List.replicate 14 0), (20, List.replicate 14 0), (5, [9, 10, 11, 12, 13, 0, 14, 15, 16, 0]), (20, List.replicate 30 0), (20, List.replicate 30 0), (20, List.replicate 30 0), (20, List.replicate 30 0), (22, List.replicate 30 0), (20, List.replicate 30 0), (20, List.replicate 30 0), (22, List.replicate 30 0), (3, [18, 19, 20, 21]), (20, List.replicate 14 0), (20, List.replicate 14 0), (20, List.replicate 14 0), (20, List.replicate 14 0), (3, [23, 24, 25, 26]), (20, List.replicate 14 0), (20, List.replicate 14 0), (20, List.replicate 14 0), (20, List.replicate 14 0), (23, [49, 59, 69, 79, 89, 99, 109, 119, 129, 139, 149, 159, 169, 179]), (0, [29, 0, 0, 0, 0]), (6, [30, 31]), (21, List.replicate 14 1), (21, List.replicate 14 1), (4, [33, 34, 35, 36, 37, 0, 0, 38, 39, 40, 41, 42]), (20, List.replicate 134 0), (20, List.replicate 134 0), (20, List.replicate 134 0), (20, List.replicate 134 0), (22, List.replicate 134 0), (22, List.replicate 60 0), (20, List.replicate 60 0), (20, List.replicate 60 0), (20, List.replicate 14 0), (20, List.replicate 14 0), (6, [44, 45]), (21, List.replicate 14 1), (21, List.replicate 14 1), (6, [47, 48]), (21, List.replicate 14 1), (21, List.replicate 14 1), (1, [0, 50, 51, 0, 0, 0, 0, 0, 52, 55, 58]), (20, List.replicate 14 0), (20, List.replicate 14 0), (6, [53, 54]), (21, List.replicate 14 1), (21, List.replicate 14 1), (6, [56, 57]), (21, List.replicate 14 1), (21, List.replicate 14 1), (20, List.replicate 60 0), (1, [0, 60, 61, 0, 0, 0, 0, 0, 62, 65, 68]), (20, List.replicate 14 0), (20, List.replicate 14 0), (6, [63, 64]), (21, List.replicate 14 1), (21, List.replicate 14 1), (6, [66, 67]), (21, List.replicate 14 1), (21, List.replicate 14 1), (20, List.replicate 60 0), (1, [0, 70, 71, 0, 0, 0, 0, 0, 72, 75, 78]), (20, List.replicate 14 0), (20, List.replicate 14 0), (6, [73, 74]), (21, List.replicate 14 1), (21, List.replicate 14 1), (6, [76, 77]), (21, List.replicate 14 1), (21, List.replicate 14 1), (20, List.replicate 60 0), (1, [0, 80, 81, 0, 0, 0, 0, 0, 82, 85, 88]), (20, List.replicate 14 0), (20, List.replicate 14 0), (6, [83, 84]), (21, List.replicate 14 1), (21, List.replicate 14 1), (6, [86, 87]), (21, List.replicate 14 1), (21, List.replicate 14 1), (20, List.replicate 60 0), (1, [0, 90, 91, 0, 0, 0, 0, 0, 92, 95, 98]), (20, List.replicate 14 0), (20, List.replicate 14 0), (6, [93, 94]), (21, List.replicate 14 1), (21, List.replicate 14 1), (6, [96, 97]), (21, List.replicate 14 1), (21, List.replicate 14 1), (20, List.replicate 60 0), (1, [0, 100, 101, 0, 0, 0, 0, 0, 102, 105, 108]), (20, List.replicate 14 0), (20, List.replicate 14 0), (6, [103, 104]), (21, List.replicate 14 1), (21, List.replicate 14 1), (6, [106, 107]), (21, List.replicate 14 1), (21, List.replicate 14 1), (20, List.replicate 60 0), (1, [0, 110, 111, 0, 0, 0, 0, 0, 112, 115, 118]), (20, List.replicate 14 0), (20, List.replicate 14 0), (6, [113, 114]), (21, List.replicate 14 1), (21, List.replicate 14 1), (6, [116, 117]), (21, List.replicate 14 1), (21, List.replicate 14 1), (20, List.replicate 60 0), (1, [0, 120, 121, 0, 0, 0, 0, 0, 122, 125, 128]), (20, List.replicate 14 0), (20, List.replicate 14 0), (6, [123, 124]), (21, List.replicate 14 1), (21, List.replicate 14 1), (6, [126, 127]), (21, List.replicate 14 1), (21, List.replicate 14 1), (20, List.replicate 60 0), (1, [0, 130, 131, 0, 0, 0, 0, 0, 132, 135, 138]), (20, List.replicate 14 0), (20, List.replicate 14 0), (6, [133, 134]), (21, List.replicate 14 1), (21, List.replicate 14 1), (6, [136, 137]), (21, List.replicate 14 1), (21, List.replicate 14 1), (20, List.replicate 60 0), (1, [0, 140, 141, 0, 0, 0, 0, 0, 142, 145, 148]), (20, List.replicate 14 0), (20, List.replicate 14 0), (6, [143, 144]), (21, List.replicate 14 1), (21, List.replicate 14 1), (6, [146, 147]), (21, List.replicate 14 1), (21, List.replicate 14 1), (20, List.replicate 60 0), (1, [0, 150, 151, 0, 0, 0, 0, 0, 152, 155, 158]), (20, List.replicate 14 0), (20, List.replicate 14 0), (6, [153, 154]), (21, List.replicate 14 1), (21, List.replicate 14 1), (6, [156, 157]), (21, List.replicate 14 1), (21, List.replicate 14 1), (20, List.replicate 60 0), (1, [0, 160, 161, 0, 0, 0, 0, 0, 162, 165, 168]), (20, List.replicate 14 0), (20, List.replicate 14 0), (6, [163, 164]), (21, List.replicate 14 1), (21, List.replicate 14 1), (6, [166, 167]), (21, List.replicate 14 1), (21, List.replicate 14 1), (20, List.replicate 60 0), (1, [0, 170, 171, 0, 0, 0, 0, 0, 172, 175, 178]), (20, List.replicate 14 0), (20, List.replicate 14 0), (6, [173, 174]), (21, List.replicate 14 1), (21, List.replicate 14 1), (6, [176, 177]), (21, List.replicate 14 1), (21, List.replicate 14 1), (20, List.replicate 60 0), (1, [0, 180, 181, 0, 0, 0, 0, 0, 182, 185, 188]), (20, List.replicate 14 0), (20, List.replicate 14 0), (6, [183, 184]), (21, List.replicate 14 1), (21, List.replicate 14 1), (6, [186, 187]), (21, List.replicate 14 1), (21, List.replicate 14 1), (20, List.replicate 60 0)]
def gb_in1 : List (Nat × Int) := [(16, -1), (17, -1), (21, -1), (22, -1), (29, 1), (37, -1), (43, 1), (46, 1), (52, 1), (55, 1), (62, 1), (65, 1), (72, 1), (75, 1), (82, 1), (85, 1), (92, 1), (95, 1), (102, 1), (105, 1), (112, 1), (115, 1), (122, 1), (125, 1), (132, 1), (135, 1), (142, 1), (145, 1), (152, 1), (155, 1), (162, 1), (165, 1), (172, 1), (175, 1), (182, 1), (185, 1)]
def gb_in2 : List ((Nat × Nat) × Int) := [((47, 6), 134), ((57, 0), 1), ((57, 6), 134), ((67, 0), 2), ((67, 6), 134), ((77, 0), 3), ((77, 6), 134), ((87, 0), 4), ((87, 6), 134), ((97, 0), 5), ((97, 6), 134), ((107, 0), 6), ((107, 6), 134), ((117, 0), 7), ((117, 6), 134), ((127, 0), 8), ((127, 6), 134), ((137, 0), 9), ((137, 6), 134), ((147, 0), 10), ((147, 6), 134), ((157, 0), 11), ((157, 6), 134), ((167, 0), 12), ((167, 6), 134), ((177, 0), 13), ((177, 6), 134)]
def gb_s0 (a j : Nat) : Int := match gb_in1.lookup a with
  | some v => v
  | none => (gb_in2.lookup (a, j)).getD 0
def gb_lo : gh_L := [(2, .ref 187), (1, .ref 1), (0, .ref 0)]
def gb_lo1 : gh_L := [(1, .ref 1), (0, .ref 0)]
/-- the same machine, its values forced as it goes: for the kernel's sake -/
def gb_fN {α : Type} (x : Nat) (k : Nat → α) : α := match x with
  | 0 => k 0
  | m + 1 => k (m + 1)
def gb_fV {α : Type} (v : Value) (k : Value → α) : α := match v with
  | .int x => gb_fN x.toBitVec.toNat fun n => k (.int (Int32.ofBitVec (BitVec.ofNat 32 n)))
  | .long x => gb_fN x.toBitVec.toNat fun n => k (.long (Int64.ofBitVec (BitVec.ofNat 64 n)))
  | .ref a => gb_fN a fun a => k (.ref a)
  | v => k v
def gb_fL {α : Type} : List Value → (List Value → α) → α
  | [], k => k []
  | v :: vs, k => gb_fV v fun v => gb_fL vs fun vs => k (v :: vs)
def gb_fO {α : Type} : gh_L → (gh_L → α) → α
  | [], k => k []
  | v :: vs, k => gb_fN v.1 fun i => gb_fV v.2 fun v => gb_fO vs fun vs => k ((i, v) :: vs)
def gb_fG {α : Type} : gh_H → (gh_H → α) → α
  | [], k => k []
  | c :: cs, k => gb_fN c.1 fun i => bif Nat.blt i 20 then (gb_fL c.2 fun vs => gb_fG cs fun cs => k ((i, vs) :: cs)) else gb_fG cs fun cs => k ((i, c.2) :: cs)
theorem gb_fN_eq {α : Type} (x : Nat) (k : Nat → α) : gb_fN x k = k x := by cases x <;> rfl
theorem gb_fV_eq {α : Type} (v : Value) (k : Value → α) : gb_fV v k = k v := by
  unfold gb_fV
  split
  · next x => rw [gb_fN_eq, BitVec.ofNat_toNat, BitVec.setWidth_eq]; rfl
  · next x => rw [gb_fN_eq, BitVec.ofNat_toNat, BitVec.setWidth_eq]; rfl
  · rw [gb_fN_eq]
  · rfl
theorem gb_fL_eq {α : Type} (vs : List Value) : ∀ k : List Value → α, gb_fL vs k = k vs := by
  induction vs with
  | nil => intro k; rfl
  | cons v vs ih => intro k; rw [gb_fL, gb_fV_eq, ih]
theorem gb_fO_eq {α : Type} (vs : gh_L) : ∀ k : gh_L → α, gb_fO vs k = k vs := by
  induction vs with
  | nil => intro k; rfl
  | cons v vs ih => intro k; rw [gb_fO, gb_fN_eq, gb_fV_eq, ih]
theorem gb_fG_eq {α : Type} (G : gh_H) : ∀ k : gh_H → α, gb_fG G k = k G := by
  induction G with
  | nil => intro k; rfl
  | cons v vs ih =>
    intro k
    rw [gb_fG, gb_fN_eq]
    cases Nat.blt v.1 20
    · exact ih _
    · show gb_fL v.2 _ = _
      rw [gb_fL_eq, ih]
theorem gb_take {v : Value} : ∀ (vs : List Value) (i : Nat), i < vs.length → (vs.set i v).take (i + 1) = vs.take i ++ [v] := by
  intro vs
  induction vs with
  | nil => intro i h; exact absurd h (Nat.not_lt_zero _)
  | cons w vs ih =>
    intro i h
    cases i with
    | zero => rfl
    | succ i =>
      show w :: (vs.set i v).take (i + 1) = w :: (vs.take i ++ [v])
      rw [ih i (Nat.lt_of_succ_lt_succ h)]
theorem gb_exS {fz : Bool} {C : Nat → List Value → gh_H → Option (gh_O × gh_H)} {own : Nat} {rt : Option FieldType} {hnd : Nat → Nat → Option (Nat × Nat)} {K : List (Nat × Instr × Nat)} {n pc : Nat} {l : gh_L} {st : List Value} {G : gh_H} {i : Instr} {len pc' : Nat} {l' : gh_L} {st' : List Value} {G' : gh_H}
    (hk : K.lookup pc = some (i, len)) (hs : gh_step fz own rt pc i len l st G = some (.inl (pc', l', st', G'))) : gh_ex fz C own rt hnd K (n + 1) pc l st G = gh_ex fz C own rt hnd K n pc' l' st' G' := by
  rw [gh_ex, hk]
  simp only [hs]
theorem gb_exJ {fz : Bool} {C : Nat → List Value → gh_H → Option (gh_O × gh_H)} {own : Nat} {rt : Option FieldType} {hnd : Nat → Nat → Option (Nat × Nat)} {K : List (Nat × Instr × Nat)} {n pc : Nat} {l : gh_L} {st : List Value} {G : gh_H} {c : ClassFile.Cond} {off : Int} {x y : Int32} {b : Bool}
    (hk : K.lookup pc = some (.if_icmp c off, 3)) (ho : 0 ≤ (pc : Int) + off) (hb : gh_cmp c x y = b) : gh_ex fz C own rt hnd K (n + 1) pc l (.int y :: .int x :: st) G = gh_ex fz C own rt hnd K n (if b = true then gh_tgt pc off else pc + 3) l st G := by
  refine gb_exS hk ?_
  show gh_jmp (gh_cmp c x y) pc 3 off l st G = _
  rw [hb, gh_jmp, if_pos ho]
  rfl

theorem gb_flI {fz : Bool} {C : Nat → List Value → gh_H → Option (gh_O × gh_H)} {rt : Option FieldType} (hrt : rt = none) {own : Nat} {hnd : Nat → Nat → Option (Nat × Nat)} {a n : Nat} {v : Int32} (ha : a ≠ 0) (hn : n ≤ 1000) :
    ∀ (m i N : Nat) (vs : List Value) (G : gh_H) (l : gh_L), (l = [(2, .int (Int32.ofNat i)), (3, .int (Int32.ofNat n)), (0, .ref a), (1, .int v)] ∨ l = [(3, .int (Int32.ofNat n)), (2, .int (Int32.ofNat i)), (0, .ref a), (1, .int v)]) → i + m = n → vs.length = n → G[a]? = some (20, vs) → 9 * m + 5 ≤ N →
      gh_ex fz C own rt hnd gk_125 N 5 l [] G = some (.inl none, G.set a (20, vs.take i ++ List.replicate m (.int v))) := by
  intro m
  induction m with
  | zero =>
    intro i N vs G l hl2 hi hl hG hN
    obtain ⟨N, rfl⟩ : ∃ k, N = k + 5 := ⟨N - 5, by omega⟩
    have hc : gh_cmp .ge (Int32.ofNat i) (Int32.ofNat n) = true := decide_eq_true ((Int32.ofNat_le_iff_le (by omega) (by omega)).mpr (by omega))
    have e0 : gh_ex fz C own rt hnd gk_125 (N + 5) 5 l [] G = gh_ex fz C own rt hnd gk_125 (N + 2) 20 l [] G := by
      rcases hl2 with rfl | rfl
      · exact (gb_exS rfl rfl).trans ((gb_exS rfl rfl).trans (gb_exJ rfl (by decide : (0 : Int) ≤ ((7 : Nat) : Int) + 13) hc))
      · exact (gb_exS rfl rfl).trans ((gb_exS rfl rfl).trans (gb_exJ rfl (by decide : (0 : Int) ≤ ((7 : Nat) : Int) + 13) hc))
    refine e0.trans ?_
    have e1 : vs.take i ++ List.replicate 0 (Value.int v) = vs := by rw [List.take_of_length_le (by omega)]; exact List.append_nil vs
    obtain ⟨hlt, hget⟩ := List.getElem?_eq_some_iff.mp hG
    rw [e1, ← hget, List.set_getElem_self]
    subst hrt
    rfl
  | succ m ih =>
    intro i N vs G l hl2 hi hl hG hN
    obtain ⟨N, rfl⟩ : ∃ k, N = k + 9 := ⟨N - 9, by omega⟩
    have hc : gh_cmp .ge (Int32.ofNat i) (Int32.ofNat n) = false := decide_eq_false (fun q => by have := (Int32.ofNat_le_iff_le (by omega) (by omega)).mp q; omega)
    have hx : gh_ix (Int32.ofNat i) vs.length = true := by
      unfold gh_ix
      rw [Int32.toNatClampNeg_ofNat_of_lt (by omega), decide_eq_false (by omega : ¬ vs.length ≤ i), decide_eq_false (fun q => by have := Int32.lt_iff_toInt_lt.mp q; rw [Int32.toInt_ofNat_of_lt (by omega)] at this; exact absurd this (by simp))]
      rfl
    have hst : ∀ l : gh_L, gh_ast 20 13 gh_isI l [.int v, .int (Int32.ofNat i), .ref a] G = some (.inl (13 + 1, l, [], G.set a (20, vs.set i (.int v)))) := by
      intro l
      unfold gh_ast gh_at
      simp only [hG, if_true, if_neg ha]
      rw [if_pos ⟨hx, rfl⟩, Int32.toNatClampNeg_ofNat_of_lt (by omega)]
      rfl
    have hs2 : ∀ l : gh_L, gh_step fz own rt 13 .iastore 1 l [.int v, .int (Int32.ofNat i), .ref a] G = some (.inl (13 + 1, l, [], G.set a (20, vs.set i (.int v)))) := hst
    have e0 : gh_ex fz C own rt hnd gk_125 (N + 9) 5 l [] G = gh_ex fz C own rt hnd gk_125 N 5 [(2, .int (Int32.ofNat i + Int32.ofInt 1)), (3, .int (Int32.ofNat n)), (0, .ref a), (1, .int v)] [] (G.set a (20, vs.set i (.int v))) := by
      rcases hl2 with rfl | rfl
      · exact (gb_exS rfl rfl).trans ((gb_exS rfl rfl).trans ((gb_exJ rfl (by decide : (0 : Int) ≤ ((7 : Nat) : Int) + 13) hc).trans ((gb_exS rfl rfl).trans ((gb_exS rfl rfl).trans ((gb_exS rfl rfl).trans ((gb_exS rfl (hs2 _)).trans ((gb_exS rfl rfl).trans (gb_exS rfl rfl))))))))
      · exact (gb_exS rfl rfl).trans ((gb_exS rfl rfl).trans ((gb_exJ rfl (by decide : (0 : Int) ≤ ((7 : Nat) : Int) + 13) hc).trans ((gb_exS rfl rfl).trans ((gb_exS rfl rfl).trans ((gb_exS rfl rfl).trans ((gb_exS rfl (hs2 _)).trans ((gb_exS rfl rfl).trans (gb_exS rfl rfl))))))))
    refine e0.trans ?_
    obtain ⟨hlt, hget⟩ := List.getElem?_eq_some_iff.mp hG
    have h := ih (i + 1) N (vs.set i (.int v)) (G.set a (20, vs.set i (.int v))) _ (Or.inl rfl) (by omega) (by rw [List.length_set]; exact hl) (by rw [List.getElem?_set_self hlt]) (by omega)
    rw [List.set_set] at h
    have e2 : (vs.set i (Value.int v)).take (i + 1) ++ List.replicate m (.int v) = vs.take i ++ List.replicate (m + 1) (.int v) := by
      rw [gb_take vs i (by omega), List.replicate_succ, List.append_assoc]
      rfl
    rw [e2] at h
    rw [Int32.ofNat_add] at h
    exact h

theorem gb_flJ {fz : Bool} {C : Nat → List Value → gh_H → Option (gh_O × gh_H)} {rt : Option FieldType} (hrt : rt = none) {own : Nat} {hnd : Nat → Nat → Option (Nat × Nat)} {a n : Nat} {v : Int64} (ha : a ≠ 0) (hn : n ≤ 1000) :
    ∀ (m i N : Nat) (vs : List Value) (G : gh_H) (l : gh_L), (l = [(3, .int (Int32.ofNat i)), (4, .int (Int32.ofNat n)), (0, .ref a), (1, .long v)] ∨ l = [(4, .int (Int32.ofNat n)), (3, .int (Int32.ofNat i)), (0, .ref a), (1, .long v)]) → i + m = n → vs.length = n → G[a]? = some (21, vs) → 9 * m + 5 ≤ N →
      gh_ex fz C own rt hnd gk_126 N 6 l [] G = some (.inl none, G.set a (21, vs.take i ++ List.replicate m (.long v))) := by
  intro m
  induction m with
  | zero =>
    intro i N vs G l hl2 hi hl hG hN
    obtain ⟨N, rfl⟩ : ∃ k, N = k + 5 := ⟨N - 5, by omega⟩
    have hc : gh_cmp .ge (Int32.ofNat i) (Int32.ofNat n) = true := decide_eq_true ((Int32.ofNat_le_iff_le (by omega) (by omega)).mpr (by omega))
    have e0 : gh_ex fz C own rt hnd gk_126 (N + 5) 6 l [] G = gh_ex fz C own rt hnd gk_126 (N + 2) 22 l [] G := by
      rcases hl2 with rfl | rfl
      · exact (gb_exS rfl rfl).trans ((gb_exS rfl rfl).trans (gb_exJ rfl (by decide : (0 : Int) ≤ ((9 : Nat) : Int) + 13) hc))
      · exact (gb_exS rfl rfl).trans ((gb_exS rfl rfl).trans (gb_exJ rfl (by decide : (0 : Int) ≤ ((9 : Nat) : Int) + 13) hc))
    refine e0.trans ?_
    have e1 : vs.take i ++ List.replicate 0 (Value.long v) = vs := by rw [List.take_of_length_le (by omega)]; exact List.append_nil vs
    obtain ⟨hlt, hget⟩ := List.getElem?_eq_some_iff.mp hG
    rw [e1, ← hget, List.set_getElem_self]
    subst hrt
    rfl
  | succ m ih =>
    intro i N vs G l hl2 hi hl hG hN
    obtain ⟨N, rfl⟩ : ∃ k, N = k + 9 := ⟨N - 9, by omega⟩
    have hc : gh_cmp .ge (Int32.ofNat i) (Int32.ofNat n) = false := decide_eq_false (fun q => by have := (Int32.ofNat_le_iff_le (by omega) (by omega)).mp q; omega)
    have hx : gh_ix (Int32.ofNat i) vs.length = true := by
      unfold gh_ix
      rw [Int32.toNatClampNeg_ofNat_of_lt (by omega), decide_eq_false (by omega : ¬ vs.length ≤ i), decide_eq_false (fun q => by have := Int32.lt_iff_toInt_lt.mp q; rw [Int32.toInt_ofNat_of_lt (by omega)] at this; exact absurd this (by simp))]
      rfl
    have hst : ∀ l : gh_L, gh_ast 21 15 gh_isJ l [.long v, .int (Int32.ofNat i), .ref a] G = some (.inl (15 + 1, l, [], G.set a (21, vs.set i (.long v)))) := by
      intro l
      unfold gh_ast gh_at
      simp only [hG, if_true, if_neg ha]
      rw [if_pos ⟨hx, rfl⟩, Int32.toNatClampNeg_ofNat_of_lt (by omega)]
      rfl
    have hs2 : ∀ l : gh_L, gh_step fz own rt 15 .lastore 1 l [.long v, .int (Int32.ofNat i), .ref a] G = some (.inl (15 + 1, l, [], G.set a (21, vs.set i (.long v)))) := hst
    have e0 : gh_ex fz C own rt hnd gk_126 (N + 9) 6 l [] G = gh_ex fz C own rt hnd gk_126 N 6 [(3, .int (Int32.ofNat i + Int32.ofInt 1)), (4, .int (Int32.ofNat n)), (0, .ref a), (1, .long v)] [] (G.set a (21, vs.set i (.long v))) := by
      rcases hl2 with rfl | rfl
      · exact (gb_exS rfl rfl).trans ((gb_exS rfl rfl).trans ((gb_exJ rfl (by decide : (0 : Int) ≤ ((9 : Nat) : Int) + 13) hc).trans ((gb_exS rfl rfl).trans ((gb_exS rfl rfl).trans ((gb_exS rfl rfl).trans ((gb_exS rfl (hs2 _)).trans ((gb_exS rfl rfl).trans (gb_exS rfl rfl))))))))
      · exact (gb_exS rfl rfl).trans ((gb_exS rfl rfl).trans ((gb_exJ rfl (by decide : (0 : Int) ≤ ((9 : Nat) : Int) + 13) hc).trans ((gb_exS rfl rfl).trans ((gb_exS rfl rfl).trans ((gb_exS rfl rfl).trans ((gb_exS rfl (hs2 _)).trans ((gb_exS rfl rfl).trans (gb_exS rfl rfl))))))))
    refine e0.trans ?_
    obtain ⟨hlt, hget⟩ := List.getElem?_eq_some_iff.mp hG
    have h := ih (i + 1) N (vs.set i (.long v)) (G.set a (21, vs.set i (.long v))) _ (Or.inl rfl) (by omega) (by rw [List.length_set]; exact hl) (by rw [List.getElem?_set_self hlt]) (by omega)
    rw [List.set_set] at h
    have e2 : (vs.set i (Value.long v)).take (i + 1) ++ List.replicate m (.long v) = vs.take i ++ List.replicate (m + 1) (.long v) := by
      rw [gb_take vs i (by omega), List.replicate_succ, List.append_assoc]
      rfl
    rw [e2] at h
    rw [Int32.ofNat_add] at h
    exact h

theorem gb_clI {fz : Bool} {N d a : Nat} {v : Int32} {vs : List Value} {G : gh_H} (ha : a ≠ 0) (hl : vs.length ≤ 1000) (hG : G[a]? = some (20, vs)) (hN : 9020 ≤ N) :
    gh_cl fz N (d + 1) 125 [.ref a, .int v] G = some (.inl none, G.set a (20, List.replicate vs.length (.int v))) := by
  obtain ⟨N, rfl⟩ : ∃ k, N = k + 5 := ⟨N - 5, by omega⟩
  have h := gb_flI (fz := fz) (C := gh_cl fz (N + 5) d) (rt := none) rfl (own := 12) (hnd := fun _ _ => none) (v := v) ha hl vs.length 0 N vs G _ (Or.inr rfl) (Nat.zero_add _) rfl hG (by omega)
  have hln0 : gh_len 3 [(2, .int 0), (0, .ref a), (1, .int v)] [.ref a] G = some (.inl (4, [(2, .int 0), (0, .ref a), (1, .int v)], [.int (Int32.ofNat vs.length)], G)) := by
    unfold gh_len
    simp only [hG]
    rfl
  have hln : gh_step fz 12 none 3 .arraylength 1 [(2, .int 0), (0, .ref a), (1, .int v)] [.ref a] G = some (.inl (4, [(2, .int 0), (0, .ref a), (1, .int v)], [.int (Int32.ofNat vs.length)], G)) := hln0
  show gh_ex fz (gh_cl fz (N + 5) d) 12 none (fun _ _ => none) gk_125 (N + 5) 0 [(0, .ref a), (1, .int v)] [] G = _
  refine (gb_exS rfl rfl).trans ((gb_exS rfl rfl).trans ((gb_exS rfl rfl).trans ?_))
  refine (gb_exS (i := .arraylength) (len := 1) rfl hln).trans ?_
  refine (gb_exS rfl rfl).trans ?_
  exact h
theorem gb_clJ {fz : Bool} {N d a : Nat} {v : Int64} {vs : List Value} {G : gh_H} (ha : a ≠ 0) (hl : vs.length ≤ 1000) (hG : G[a]? = some (21, vs)) (hN : 9020 ≤ N) :
    gh_cl fz N (d + 1) 126 [.ref a, .long v] G = some (.inl none, G.set a (21, List.replicate vs.length (.long v))) := by
  obtain ⟨N, rfl⟩ : ∃ k, N = k + 5 := ⟨N - 5, by omega⟩
  have h := gb_flJ (fz := fz) (C := gh_cl fz (N + 5) d) (rt := none) rfl (own := 12) (hnd := fun _ _ => none) (v := v) ha hl vs.length 0 N vs G _ (Or.inr rfl) (Nat.zero_add _) rfl hG (by omega)
  have hln0 : gh_len 3 [(3, .int 0), (0, .ref a), (1, .long v)] [.ref a] G = some (.inl (4, [(3, .int 0), (0, .ref a), (1, .long v)], [.int (Int32.ofNat vs.length)], G)) := by
    unfold gh_len
    simp only [hG]
    rw [if_pos (Or.inr ⟨ha, Or.inl trivial⟩)]
    rfl
  have hln : gh_step fz 12 none 3 .arraylength 1 [(3, .int 0), (0, .ref a), (1, .long v)] [.ref a] G = some (.inl (4, [(3, .int 0), (0, .ref a), (1, .long v)], [.int (Int32.ofNat vs.length)], G)) := hln0
  show gh_ex fz (gh_cl fz (N + 5) d) 12 none (fun _ _ => none) gk_126 (N + 5) 0 [(0, .ref a), (1, .long v)] [] G = _
  refine (gb_exS rfl rfl).trans ((gb_exS rfl rfl).trans ((gb_exS rfl rfl).trans ?_))
  refine (gb_exS (i := .arraylength) (len := 1) rfl hln).trans ?_
  refine (gb_exS rfl rfl).trans ?_
  exact h
def gb_ex (C : Nat → List Value → gh_H → Option (gh_O × gh_H)) (own : Nat) (rt : Option FieldType) (hnd : Nat → Nat → Option (Nat × Nat)) (K : List (Nat × Instr × Nat)) : Nat → Nat → gh_L → List Value → gh_H → Option (gh_O × gh_H)
  | 0, _, _, _, _ => none
  | n + 1, pc, l, st, G => gb_fN pc fun pc => gb_fO l fun l => gb_fL st fun st => match K.lookup pc with
    | none => none
    | some (i, len) => match gh_step false own rt pc i len l st G with
      | none => none
      | some (.inl (pc', l', st', G')) => gb_ex C own rt hnd K n pc' l' st' G'
      | some (.inr (.inl o)) => some (o, G)
      | some (.inr (.inr (μ, as, r))) => match C μ as G with
        | none => none
        | some (.inl v, G') => gb_fG G' fun G' => gb_ex C own rt hnd K n (pc + 3) l (v.toList ++ r) G'
        | some (.inr E, G') => match hnd pc E with
          | none => some (.inr E, G')
          | some (pc', k) => gb_ex C own rt hnd K n pc' (l.filter (fun q => !(q.1 == k) && !(q.1 + 1 == k && q.2.category == 2))) [] G'
/-- a row filled: no need to run it -/
def gb_sc (μ : Nat) (as : List Value) (G : gh_H) : Option gh_H := match as with
  | [.ref a, .int v] => if μ = 125 then match G[a]? with
    | some (k, vs) => if k = 20 ∧ a ≠ 0 ∧ vs.length ≤ 1000 then some (G.set a (20, List.replicate vs.length (.int v))) else none
    | none => none
    else none
  | [.ref a, .long v] => if μ = 126 then match G[a]? with
    | some (k, vs) => if k = 21 ∧ a ≠ 0 ∧ vs.length ≤ 1000 then some (G.set a (21, List.replicate vs.length (.long v))) else none
    | none => none
    else none
  | _ => none
theorem gb_sc_eq {N d μ : Nat} {as : List Value} {G G' : gh_H} (hN : 9020 ≤ N) (h : gb_sc μ as G = some G') : gh_cl false N (d + 1) μ as G = some (.inl none, G') := by
  unfold gb_sc at h
  split at h
  · split at h
    · next hm => subst hm; split at h
                 · split at h
                   · next hG hc => obtain ⟨rfl, ha, hl⟩ := hc; cases h; exact gb_clI ha hl hG hN
                   · cases h
                 · cases h
    · cases h
  · split at h
    · next hm => subst hm; split at h
                 · split at h
                   · next hG hc => obtain ⟨rfl, ha, hl⟩ := hc; cases h; exact gb_clJ ha hl hG hN
                   · cases h
                 · cases h
    · cases h
  · cases h
def gb_cl (N : Nat) : Nat → Nat → List Value → gh_H → Option (gh_O × gh_H)
  | 0, _, _, _ => none
  | d + 1, μ, as, G => match gb_sc μ as G with
    | some G' => some (.inl none, G')
    | none => match gh_mt[μ]? with
    | some (own, rt, hnd, K) => if gh_cat as ≤ gh_ml.getD μ 0 then gb_ex (gb_cl N d) own rt hnd K N 0 (lv_args 0 as) [] G else none
    | none => none
def gb_px (C : Nat → List Value → gh_H → Option (gh_O × gh_H)) (stop : Nat) (K : List (Nat × Instr × Nat)) : Nat → Nat → gh_L → List Value → gh_H → Option gh_N
  | 0, _, _, _, _ => none
  | n + 1, pc, lo, st, G => gb_fN pc fun pc => gb_fO lo fun lo => gb_fL st fun st => if pc = stop then some (pc, lo, st, G) else match K.lookup pc with
    | none => none
    | some (i, len) => match gh_step false 9 (some .boolean) pc i len lo st G with
      | none => none
      | some (.inl (pc', lo', st', G')) => gb_px C stop K n pc' lo' st' G'
      | some (.inr (.inl _)) => none
      | some (.inr (.inr (μ, as, r))) => match C μ as G with
        | some (.inl v, G') => if μ < 128 then gb_fG G' fun G' => gb_px C stop K n (pc + 3) lo (v.toList ++ r) G' else none
        | _ => none
theorem gb_ex_eq {C C' : Nat → List Value → gh_H → Option (gh_O × gh_H)} (hC : C = C') {own : Nat} {rt : Option FieldType} {hnd : Nat → Nat → Option (Nat × Nat)} {K : List (Nat × Instr × Nat)} :
    ∀ (n pc : Nat) (l : gh_L) (st : List Value) (G : gh_H), gb_ex C own rt hnd K n pc l st G = gh_ex false C' own rt hnd K n pc l st G := by
  subst hC
  intro n
  induction n with
  | zero => intro pc l st G; rfl
  | succ n ih =>
    intro pc l st G
    rw [gb_ex, gh_ex, gb_fN_eq, gb_fO_eq, gb_fL_eq]
    simp only [ih, gb_fG_eq]
    rfl
theorem gb_cl_eq {N : Nat} (hN : 9020 ≤ N) : ∀ d : Nat, gb_cl N d = gh_cl false N d := by
  intro d
  induction d with
  | zero => funext μ as G; rfl
  | succ d ih =>
    funext μ as G
    rw [gb_cl]
    split
    · next h => exact (gb_sc_eq hN h).symm
    · rw [gh_cl]
      simp only [gb_ex_eq ih]
      rfl
theorem gb_px_eq {C : Nat → List Value → gh_H → Option (gh_O × gh_H)} {stop : Nat} {K : List (Nat × Instr × Nat)} :
    ∀ (n pc : Nat) (l : gh_L) (st : List Value) (G : gh_H), gb_px C stop K n pc l st G = gh_px C stop K n pc l st G := by
  intro n
  induction n with
  | zero => intro pc l st G; rfl
  | succ n ih =>
    intro pc l st G
    rw [gb_px, gh_px, gb_fN_eq, gb_fO_eq, gb_fL_eq]
    simp only [ih, gb_fG_eq]
    rfl
/-- equal, told without a proof on the way -/
def gb_eV (v w : Value) : Bool := match v, w with
  | .int x, .int y => Nat.beq x.toBitVec.toNat y.toBitVec.toNat
  | .long x, .long y => Nat.beq x.toBitVec.toNat y.toBitVec.toNat
  | .ref a, .ref b => Nat.beq a b
  | _, _ => false
def gb_eL : List Value → List Value → Bool
  | [], [] => true
  | v :: vs, w :: ws => bif gb_eV v w then gb_eL vs ws else false
  | _, _ => false
def gb_eG : gh_H → gh_H → Bool
  | [], [] => true
  | c :: cs, d :: ds => bif Nat.beq c.1 d.1 then (bif gb_eL c.2 d.2 then gb_eG cs ds else false) else false
  | _, _ => false
theorem gb_eV_eq {v w : Value} (h : gb_eV v w = true) : v = w := by
  unfold gb_eV at h
  split at h
  · exact congrArg Value.int (Int32.toBitVec_inj.mp (BitVec.eq_of_toNat_eq (Nat.eq_of_beq_eq_true h)))
  · exact congrArg Value.long (Int64.toBitVec_inj.mp (BitVec.eq_of_toNat_eq (Nat.eq_of_beq_eq_true h)))
  · exact congrArg Value.ref (Nat.eq_of_beq_eq_true h)
  · cases h
theorem gb_eL_eq : ∀ {vs ws : List Value}, gb_eL vs ws = true → vs = ws := by
  intro vs
  induction vs with
  | nil => intro ws h; cases ws with
    | nil => rfl
    | cons w ws => cases h
  | cons v vs ih => intro ws h; cases ws with
    | nil => cases h
    | cons w ws =>
      rw [gb_eL] at h
      cases hv : gb_eV v w with
      | false => rw [hv] at h; cases h
      | true => rw [hv] at h; rw [gb_eV_eq hv, ih h]
theorem gb_eG_eq : ∀ {vs ws : gh_H}, gb_eG vs ws = true → vs = ws := by
  intro vs
  induction vs with
  | nil => intro ws h; cases ws with
    | nil => rfl
    | cons w ws => cases h
  | cons v vs ih => intro ws h; cases ws with
    | nil => cases h
    | cons w ws =>
      rw [gb_eG] at h
      cases h1 : Nat.beq v.1 w.1 with
      | false => rw [h1] at h; cases h
      | true =>
        cases h2 : gb_eL v.2 w.2 with
        | false => rw [h1, h2] at h; cases h
        | true => rw [h1, h2] at h; rw [ih h, Prod.ext (Nat.eq_of_beq_eq_true h1) (gb_eL_eq h2)]
def gb_is (o : Option gh_N) (pc : Nat) (lo : gh_L) (G : gh_H) : Bool := match o with
  | some (pc', lo', [], G') => bif decide (pc' = pc) then (bif decide (lo' = lo) then gb_eG G' G else false) else false
  | _ => false
theorem gb_is_eq {o : Option gh_N} {pc : Nat} {lo : gh_L} {G : gh_H} (h : gb_is o pc lo G = true) : o = some (pc, lo, [], G) := by
  unfold gb_is at h
  split at h
  · next pc' lo' G' =>
    cases h1 : decide (pc' = pc) with
    | false => rw [h1] at h; cases h
    | true =>
      cases h2 : decide (lo' = lo) with
      | false => rw [h1, h2] at h; cases h
      | true => rw [h1, h2] at h; rw [of_decide_eq_true h1, of_decide_eq_true h2, gb_eG_eq h]
  · cases h
set_option maxRecDepth 100000 in
theorem gb_px0 : gb_is (gb_px (gb_cl 10000 10) 8 gk_law 100 0 [(0, .ref 0)] [] [(99, [])]) 8 gb_lo1 ((99, []) :: gb_tab 0 gb_s0 1 gb_sh) = true := by decide +kernel
set_option maxRecDepth 100000 in
theorem gb_px1 : gb_is (gb_px (gb_cl 10000 10) 16 gk_law 100 8 gb_lo1 [] ((99, []) :: gb_tab 0 gb_s0 1 gb_sh)) 16 gb_lo ((99, []) :: (gb_tab 0 gb_s0 1 gb_sh ++ gb_tab 186 gb_s0 1 gb_sh)) = true := by decide +kernel
end GB0
end
section
section GSt
set_option maxRecDepth 100000 in
theorem gs_ins : ∀ q ∈ ([(RX0, 5), (RX1, 11), (RX2, 5), (RX3, 4), (RX4, 12), (RX5, 10), (RX6, 2), (RX7, 10)] : List (String × Nat)), Cond.instantiable q.1 q.2 ∈ lw_tbl := by decide +kernel
/-- the words of lw_tbl serve what the words of gh_wsG serve -/
theorem gs_sub {s : State} {A : Array Value} (hts : ∀ w ∈ lw_tbl, w.before A s = true) : ∀ w ∈ gh_wsG, w.before A s = true := fun w hw => hts w (List.mem_filter.mp hw).1
theorem gs_cls {s : State} {A : Array Value} (hts : ∀ w ∈ lw_tbl, w.before A s = true) : ∃ (dC : Nat → ClassId) (dI : Nat → Nat → Nat), ∀ (k : Nat) (q : vw_C), vwCl[k]? = some q → u_Kn s q.1 q.2.1 q.2.2 (dC k) (dI k) := by
  have hg := gs_sub hts
  obtain ⟨c0, i0, h0⟩ := u_known (n := 5) hg gh_c0 (hts (.instantiable RX0 5) (gs_ins (RX0, 5) (by simp)))
  obtain ⟨c1, i1, h1⟩ := u_known (n := 11) hg gh_c1 (hts (.instantiable RX1 11) (gs_ins (RX1, 11) (by simp)))
  obtain ⟨c2, i2, h2⟩ := u_known (n := 5) hg gh_c2 (hts (.instantiable RX2 5) (gs_ins (RX2, 5) (by simp)))
  obtain ⟨c3, i3, h3⟩ := u_known (n := 4) hg gh_c3 (hts (.instantiable RX3 4) (gs_ins (RX3, 4) (by simp)))
  obtain ⟨c4, i4, h4⟩ := u_known (n := 12) hg gh_c4 (hts (.instantiable RX4 12) (gs_ins (RX4, 12) (by simp)))
  obtain ⟨c5, i5, h5⟩ := u_known (n := 10) hg gh_c5 (hts (.instantiable RX5 10) (gs_ins (RX5, 10) (by simp)))
  obtain ⟨c6, i6, h6⟩ := u_known (n := 2) hg gh_c6 (hts (.instantiable RX6 2) (gs_ins (RX6, 2) (by simp)))
  obtain ⟨c7, i7, h7⟩ := u_known (n := 10) hg gh_c7 (hts (.instantiable RX7 10) (gs_ins (RX7, 10) (by simp)))
  refine ⟨fun k => [c0, c1, c2, c3, c4, c5, c6, c7].getD k c0, fun k => [i0, i1, i2, i3, i4, i5, i6, i7].getD k i0, fun k q hq => ?_⟩
  match k, hq with
  | 0, hq => cases hq; exact h0
  | 1, hq => cases hq; exact h1
  | 2, hq => cases hq; exact h2
  | 3, hq => cases hq; exact h3
  | 4, hq => cases hq; exact h4
  | 5, hq => cases hq; exact h5
  | 6, hq => cases hq; exact h6
  | 7, hq => cases hq; exact h7
  | k + 8, hq => cases hq
theorem gs_arr {s : State} {A : Array Value} {ty : FieldType} (h : (Cond.arrayClass ty).before A s = true) : ∃ cA : ClassId, ArrOfT s cA ty ∧ s.vm.findClass ("[" ++ ty.toString) = some cA := by
  obtain ⟨cA, kA, comp, h1, h2, h3⟩ := Cond.arrayClass_spec h
  exact ⟨cA, fun n z => ⟨fun k h => (by cases h), kA, h2, comp, h3⟩, h1⟩
theorem gs_tys {s : State} {A : Array Value} (hts : ∀ w ∈ lw_tbl, w.before A s = true) : ∃ cI cJ cZ cE : ClassId, ∀ (k : Nat) (q : ClassId × FieldType), ([(cI, .int), (cJ, .long), (cZ, .boolean), (cE, .object RX1)] : List (ClassId × FieldType))[k]? = some q → ArrOfT s q.1 q.2 ∧ va_RA s q.1 q.2 := by
  have hg := gs_sub hts
  obtain ⟨cI, h1, h1'⟩ := gs_arr (hg _ gh_ac_int)
  obtain ⟨cJ, h2, h2'⟩ := gs_arr (hg _ gh_ac_long)
  obtain ⟨cZ, h3, h3'⟩ := gs_arr (hg _ gh_ac_boolean)
  obtain ⟨comp, cE, kE, hcomp, hidx, hkE, hkind, hname⟩ := Cond.arrayOver_spec (hts _ gh_ao)
  refine ⟨cI, cJ, cZ, cE, fun k q hq => ?_⟩
  match k, hq with
  | 0, hq => cases hq; exact ⟨h1, h1'⟩
  | 1, hq => cases hq; exact ⟨h2, h2'⟩
  | 2, hq => cases hq; exact ⟨h3, h3'⟩
  | 3, hq => cases hq; exact ⟨fun n z => ⟨fun k h => (by cases h), kE, hkE, comp, hkind⟩, kE, comp, hkE, hkind, hcomp, hname⟩
  | k + 4, hq => cases hq
theorem gs_flat {s : State} {A : Array Value} (hgv : (Jvm.Cond.and given_1 narrow_1).before A s = true) : ∀ w ∈ flatC (Jvm.Cond.and given_1 narrow_1), w.before A s = true := flat_of_before _ hgv
set_option maxRecDepth 100000 in
theorem gs_st1 : ∀ q ∈ gh_str, Cond.exactly (.string "Treeclerk" q.1) "java/lang/String" ∈ flatC (Jvm.Cond.and given_1 narrow_1) := by decide +kernel
set_option maxRecDepth 100000 in
theorem gs_st2 : ∀ q ∈ gh_str, Cond.stringRef "Treeclerk" q.1 q.2 ∈ lw_tbl := by decide +kernel
theorem gs_str {s : State} {A : Array Value} (hts : ∀ w ∈ lw_tbl, w.before A s = true) (hgv : (Jvm.Cond.and given_1 narrow_1).before A s = true) : ∀ q ∈ gh_str, ∃ sa, vk_R "Treeclerk" q.1 q.2 sa s := by
  intro q hq
  obtain ⟨a, c, cell, k, h1, -⟩ := Cond.exactly_spec (gs_flat hgv _ (gs_st1 q hq))
  exact ⟨a, vk_R.of (hts _ (gs_st2 q hq)) h1⟩
set_option maxRecDepth 100000 in
theorem gs_nc : ∀ E ∈ List.range 4, ∀ E' ∈ List.range 4, E ≠ E' → Cond.not (.castable (gh_es E) (gh_es E')) ∈ flatC (Jvm.Cond.and given_1 narrow_1) := by decide +kernel
set_option maxRecDepth 100000 in
theorem gs_z1 : Cond.laysStatic Bundle.tN "UNASSIGNED_STACK" Bundle.steD ∈ lw_tbl ∧ Cond.laysStatic Bundle.tN "SUPPRESSED_SENTINEL" Bundle.listD ∈ lw_tbl ∧ Cond.initialized Bundle.tN ∈ lw_tbl := by decide +kernel
set_option maxRecDepth 100000 in
theorem gs_z2 : Cond.isRef (.static Bundle.tN "UNASSIGNED_STACK" Bundle.steD) ∈ flatC (Jvm.Cond.and given_1 narrow_1) ∧ Cond.isRef (.static Bundle.tN "SUPPRESSED_SENTINEL" Bundle.listD) ∈ flatC (Jvm.Cond.and given_1 narrow_1) := by decide +kernel
/-- what holds at the law's entry -/
def lw_At (p : Program) (s : State) (m : MethodId) (meth : Method) (c : Code) (b L : Nat) (xs : Nat → Int32) : Prop :=
  p.tables.exec = Jvm.exec ∧ c.code = code ∧ meth.sig.returnType = ret ∧ c.maxLocals = 15 ∧ s.vm.findClass R_law = some m.cls ∧ (∀ w ∈ lw_tbl, w.before #[Value.ref b] s = true) ∧ va_X b L xs s s.heap ∧ b < s.heap.size ∧ meth.locks = false ∧ (Jvm.Cond.and given_1 narrow_1).before #[Value.ref b] s = true
/-- what the law's entry owes the ghost machine -/
theorem gs_KB {p : Program} {s : State} {m : MethodId} {meth : Method} {c : Code} {b L : Nat} {xs : Nat → Int32} (C0 : lw_At p s m meth c b L xs) : ∃ D : va_G, ∃ ty : ClassId × ClassId × ClassId × ClassId, gh_KB (D, ty, b, s.heap.size, (List.range L).map xs) s := by
  obtain ⟨hx, hb, hr, hml, hown, hts, hX, hbl, hlocks, hgv⟩ := id C0
  obtain ⟨dC, dI, hcl⟩ := gs_cls hts
  obtain ⟨cI, cJ, cZ, cE, hty⟩ := gs_tys hts
  have hA : ∀ a : Nat, a < s.heap.size → ¬ (fun q : Nat => s.heap.size ≤ q) a := fun a h => Nat.not_le.mpr h
  refine ⟨(dC, dI), (cI, cJ, cZ, cE), ⟨hcl, hty⟩, ?_, hbl, Nat.le_refl _, fun w hw => va_Nw.of (gh_nstT w hw) (hts w (List.mem_append_right _ (List.mem_filter.mp hw).1)), gs_str hts hgv, ?_, ?_, fun E E' h1 h2 h3 => va_Nc.of (gs_flat hgv _ (gs_nc E (List.mem_range.mpr h1) E' (List.mem_range.mpr h2) h3)), va_AO.of (hts _ gh_ao)⟩
  · obtain ⟨scr, e1, e2, e3, e4, e5⟩ := hX
    show va_X b ((List.range L).map xs).length (fun j => ((List.range L).map xs).getD j 0) s s.heap
    have hl : ((List.range L).map xs).length = L := by rw [List.length_map, List.length_range]
    refine ⟨scr, e1, e2, e3, by rw [hl]; exact e4, fun j hj => ?_⟩
    rw [hl] at hj
    rw [e5 j hj]
    simp [List.getD, hj]
  · exact vx_Zqof (hts _ gs_z1.1) (hts _ gs_z1.2.2) (gs_flat hgv _ gs_z2.1) hA
  · exact vx_Zqof (hts _ gs_z1.2.1) (hts _ gs_z1.2.2) (gs_flat hgv _ gs_z2.2) hA
end GSt
end
section
section GWh
/-- what is left: for this script the ghost law comes to its end with true, in its room -/
def gs_Goal (xs : List Int32) : Prop := ∃ (N d n b : Nat) (gKf : gh_H), d ≤ 2000 ∧ gh_ec (gh_cw N d) (some .boolean) gk_law n b 16 gb_lo [] ((20, xs.map .int) :: (gb_tab 0 gb_s0 1 gb_sh ++ gb_tab 186 gb_s0 1 gb_sh)) = some (some (.int 1), gKf) ∧ gKf.length - 1 + 0 + b ≤ 620120 ∧ gh_sz gKf - xs.length + 0 + 6 * b ≤ 7241264
theorem gs_px : gh_px (gh_cl false 10000 10) 8 gk_law 100 0 [(0, .ref 0)] [] [(99, [])] = some (8, gb_lo1, [], (99, []) :: gb_tab 0 gb_s0 1 gb_sh) := by
  have h := gb_is_eq gb_px0
  rw [gb_px_eq, gb_cl_eq (by omega)] at h
  exact h
theorem gs_px1 : gh_px (gh_cl false 10000 10) 16 gk_law 100 8 gb_lo1 [] ((99, []) :: gb_tab 0 gb_s0 1 gb_sh) = some (16, gb_lo, [], (99, []) :: (gb_tab 0 gb_s0 1 gb_sh ++ gb_tab 186 gb_s0 1 gb_sh)) := by
  have h := gb_is_eq gb_px1
  rw [gb_px_eq, gb_cl_eq (by omega)] at h
  exact h
theorem gs_room : ((99, []) :: (gb_tab 0 gb_s0 1 gb_sh ++ gb_tab 186 gb_s0 1 gb_sh) : gh_H).length - 1 ≤ 620120 ∧ gh_sz ((99, []) :: (gb_tab 0 gb_s0 1 gb_sh ++ gb_tab 186 gb_s0 1 gb_sh)) - 0 ≤ 7241264 := by decide +kernel
theorem gs_room1 : ((99, []) :: gb_tab 0 gb_s0 1 gb_sh : gh_H).length - 1 ≤ 620120 ∧ gh_sz ((99, []) :: gb_tab 0 gb_s0 1 gb_sh) - 0 ≤ 7241264 := by decide +kernel
theorem gs_sz (a : gh_C) (T : gh_H) : gh_sz (a :: T) = a.2.length + gh_sz T := by unfold gh_sz; rw [List.map_cons, List.sum_cons]
theorem gs_e2 (T : gh_H) (xs : List Int32) : gh_sz ((20, xs.map Value.int) :: T) - xs.length + 0 = gh_sz ((99, []) :: T) - 0 + 0 := by
  rw [gs_sz, gs_sz]
  show (xs.map Value.int).length + gh_sz T - xs.length + 0 = 0 + gh_sz T - 0 + 0
  rw [List.length_map]
  omega
theorem gs_e3 (T : gh_H) (xs : List Int32) : xs.length ≤ gh_sz ((20, xs.map Value.int) :: T) := by
  rw [gs_sz]
  show xs.length ≤ (xs.map Value.int).length + gh_sz T
  rw [List.length_map]
  omega
theorem whole_start {p : Program} {e : Env} {s : State} {m : MethodId} {below : List Frame} {meth : Method} {c : Code} (l : Launch) (hflags : l.flags = flags0) {b L : Nat} {xs : Nat → Int32} (hL : L ≤ 260) (C0 : lw_At p s m meth c b L xs) (hnm : meth.name = "law") (hgoal : gs_Goal ((List.range L).map xs)) : W p l e room_1 s m #[Value.ref b] below meth c s.heap [] 0 0 (lw_Z below #[Value.ref b] s) (entryFrame m ([Value.ref b] : List Value).toArray 15) := by
  obtain ⟨D, ty, hKB⟩ := gs_KB C0
  obtain ⟨hx, hb, hr, hml, hown, hts, hX, hbl, hlocks, hgv⟩ := id C0
  have hst : l.stackTraces = false := by unfold Launch.stackTraces; rw [hflags]; decide
  obtain ⟨N, d, n, b8, gKf, hd, hrun, hc1, hc2⟩ := hgoal
  generalize hz : ((D, ty, b, s.heap.size, (List.range L).map xs) : gh_Z) = z at hKB
  have hzb : z.2.2.1 = b := by rw [← hz]
  have hzs : z.2.2.2.1 = s.heap.size := by rw [← hz]
  have hzx : z.2.2.2.2 = (List.range L).map xs := by rw [← hz]
  have hC : gh_Cx z p s m #[Value.ref b] meth c 9 code 15 (some .boolean) "law" := ⟨hx, hb, hml, hr, hlocks, hown, gs_sub hts, hKB, hnm⟩
  have T1 := gh_bodyL (e := e) (below := below) (g0 := 1) (z0 := ((List.range L).map xs).length) hC hst rfl hzs hd n b8 16 gb_lo [] _ 0 0 hrun (by show 1 ≤ _ + 1; omega) (gs_e3 _ _) hc1 hc2
  have T2 : gh_T z p l e room_1 s m #[Value.ref b] below meth c 15 1 0 (lw_Z below #[Value.ref b] s) 0 0 16 gb_lo [] ((99, []) :: (gb_tab 0 gb_s0 1 gb_sh ++ gb_tab 186 gb_s0 1 gb_sh)) := by
    intro H locs ls hR hS hl
    have h := T1 H locs ls ⟨hR.1, Or.inl (by rw [hzx]; rfl)⟩ hS hl
    rw [gs_e2] at h
    exact h
  have T3 := gh_pre (N := 10000) (d := 10) (g0 := 1) (z0 := 0) hC hst rfl (by rw [hzs]) (by omega) gs_room1 (gh_pre (N := 10000) (d := 10) (g0 := 1) (z0 := 0) hC hst rfl (by rw [hzs]) (by omega) gs_room T2 100 8 gb_lo1 [] ((99, []) :: gb_tab 0 gb_s0 1 gb_sh) gs_px1 (by show 1 ≤ _ + 1; omega) (Nat.zero_le _)) 100 0 [(0, .ref 0)] [] [(99, [])] gs_px (Nat.le_refl _) (Nat.zero_le _)
  have hl := lv_entry ([.ref b]) (n := 15) (Nat.le_of_ble_eq_true rfl)
  rw [lg_entry_eq]
  generalize (lg_sl ([.ref b]) ++ List.replicate (15 - (lg_sl ([.ref b])).length) Slot.unset).toArray = ls at hl ⊢
  have hl2 : lv_has ls 15 (gh_lm z [(0, .ref 0)]) := by
    have : gh_lm z [(0, .ref 0)] = [(0, .ref b)] := by rw [← hzb]; rfl
    rw [this]
    exact hl
  exact T3 s.heap [] ls ⟨fun k q h => (by cases h), Or.inr rfl⟩ va_S.rf hl2
end GWh
end
section
set_option maxHeartbeats 4000000 in
theorem lw_walk (hgoal : ∀ xs : List Int32, xs.length ≤ 260 → gs_Goal xs) (l : Launch) (hflags : l.flags = flags0) (b : Addr) (xs : List Int32) : MetFree l x (headSpec (Jvm.Cond.code x code maxLocals ret :: tables_1) room_1) (lw_P b xs) (fun _ _ _ _ _ => True) lw_Q := by
  refine MetFree.of_bodyS (code := code) (maxLocals := maxLocals) (ret := ret) (by decide) ?_ ?_
  · intro args s m h hn
    obtain ⟨meth, c, h1, h2, h3, h4, h5, h6, -, -⟩ := Cond.code_spec hn (atoms_spec (ws := Jvm.Cond.code x code maxLocals ret :: tables_1) h _ List.mem_cons_self)
    exact ⟨meth, c, h1, h2, h3, h4, h5, h6⟩
  · intro p e s m args below meth c s₁ B hml0 hP _
    obtain ⟨rfl, hx, hbd, hgv⟩ := hP
    obtain ⟨scr, harrAt, hlist, hof, hsmall⟩ := hx
    obtain ⟨hcb, hkn, -, -⟩ := State.arrayAt?_spec harrAt
    have hown : s.vm.findClass R_law = some m.cls := findClass_of_methodNamed B.named
    have hts0 : ∀ c ∈ (Jvm.Cond.code x code maxLocals ret :: tables_1), c.before #[Value.ref b] s = true := atoms_spec (ws := Jvm.Cond.code x code maxLocals ret :: tables_1) B.pre
    have hts : ∀ w ∈ lw_tbl, w.before #[Value.ref b] s = true := k2_hts_sels lw_privs (fun w hw => hts0 w (List.mem_cons_of_mem _ hw)) lw_privs_ok
    have hml : c.maxLocals = 15 := B.maxLocals_eq (hts0 _ List.mem_cons_self)
    have X₀ : Stand p l e room_1 s m #[Value.ref b] below meth c s₁ [] 0 0 := Stand.of_body B
    have hh0 : s₁.heap = s.heap := by rw [B.state]; rfl
    have hsz : scr.slots.size = xs.length := by rw [← Array.length_toList, hlist, List.length_map]
    have hval : ∀ j : Nat, j < xs.length → scr.slots[j]? = some (.int (xs.getD j 0)) := fun j hj => by
      rw [← Array.getElem?_toList, hlist]
      simp [hj]
    have hbl : b < s.heap.size := (Array.getElem?_eq_some_iff.mp hcb).1
    have hX : va_X b xs.length (fun j => xs.getD j 0) s s.heap := ⟨scr, hcb, hof, hkn, hsz, hval⟩
    have K : W p l e room_1 s m #[Value.ref b] below meth c s₁.heap [] 0 0 (lw_Z below #[Value.ref b] s) (entryFrame m ([Value.ref b] : List Value).toArray 15) := by
      rw [hh0]
      exact whole_start l hflags hbd ⟨B.exec, B.bytes, B.returns, hml, hown, hts, hX, hbl, B.notSynchronized, hgv⟩ (name_of_methodNamed B.named B.method).1 (hgoal _ (by rw [List.length_map, List.length_range]; exact hbd))
    obtain ⟨t, a1, o, b1, b2, b3⟩ := K s₁ rfl X₀
    exact ⟨t, o, a1, b1, b2, b3⟩
theorem lw_pre_spec {args : Array Value} {s : State} (h : (Jvm.Cond.and given_1 narrow_1).before args s = true) (hr : rest_1_c.before args s = true) : ∃ (b : Addr) (xs : List Int32), lw_P b xs args s := by
  have hs := flat_of_before _ h
  have hq := flat_of_before _ hr
  have hc : (Cond.count 1).before args s = true := hs _ (by decide +kernel)
  have harr : (Cond.arrayOf (.arg 0) .int).before args s = true := hs _ (by decide +kernel)
  have hle : (Cond.le (.length (.arg 0)) (.int 260)).before args s = true := hs _ (by decide +kernel)
  have hlen : (Cond.isInt (.length (.arg 0))).before args s = true := hq _ (by decide +kernel)
  have hall : (Cond.all (.arg 0) (.isInt (.elem (.arg 0) (.index 0)))).before args s = true := hq _ (by decide +kernel)
  obtain ⟨b, xs, hb, hx⟩ := State.ints_of_pre rfl harr hlen hall
  have hsm : xs.length < 2 ^ 31 := hx.choose_spec.2.2.2
  have hev : (Term.length (.arg 0)).eval args s none [] s = some (.int xs.length.toInt32) := hx.length_eval hb
  have hv := Cond.le_ints hev (show (Term.int 260).eval args s none [] s = some (.int 260) from rfl)
  have hd : xs.length.toInt32 ≤ 260 := by
    simpa [Cond.before, Cond.holds, hv] using hle
  have hN : xs.length ≤ 260 := (Int32.ofNat_le_ofNat hsm (by decide)).mp (show Int32.ofNat xs.length ≤ Int32.ofNat 260 from hd)
  exact ⟨b, xs, Cond.one_arg hc (show args[0]? = some (.ref b) from hb), hx, hN, h⟩
theorem lw_comes (hgoal : ∀ xs : List Int32, xs.length ≤ 260 → gs_Goal xs) (l : Launch) (hflags : l.flags = flags0) : Comes l x (Jvm.Cond.code x code maxLocals ret :: tables_1) room_1 (fun tb e args s => Calls_1 tb e args s ∧ rest_1 tb e args s ∧ Pre_1 tb e args s)
    (fun _ _ args s o t => lw_Q args s o t) := by
  intro p e ha hc hk s m args below hf hfit hheap happ hpre
  obtain ⟨b, xs, hP⟩ := lw_pre_spec hpre.2.2 hpre.2.1
  obtain ⟨k, o, h1, h2, h3, hQ⟩ := lw_walk hgoal l hflags b xs p e ha hc hk s m args below hf ((Spec.applies_iff_loose hf).mp happ).1 hP trivial
  exact ⟨k, o, h1, h2, h3, hQ⟩
theorem lw_frame {s t : State} {o : Outcome} {args : Array Value} (h : Framed s o t [] 620120 7241264) :
    Framed s o t (fieldLocs frame_1_writes args s ++ arrayLocs frame_1_arrays args s ++ staticLocs frame_1_statics s) 620120 7241264 := h
theorem lw_limb (hgoal : ∀ xs : List Int32, xs.length ≤ 260 → gs_Goal xs) (L : Cond) (hL : ∀ (args : Array Value) (s t : State), L.after args s (.returned (some (.int 1))) t = true) :
    ArmFor flags0 classFile x code maxLocals ret World_1 tables_1 room_1 Calls_1 rest_1 Pre_1
      (fun tb e a s o t => postC L tb e a s o t ∧ Framed s o t (fieldLocs frame_1_writes a s ++ arrayLocs frame_1_arrays a s ++ staticLocs frame_1_statics s) 620120 7241264) := by
  intro l hflags _ _ p e ha hc hk s m args below hf hfit hheap happ hpre
  obtain ⟨k, o, h1, h2, h3, rfl, hF⟩ := lw_comes hgoal l hflags p e ha hc hk s m args below hf hfit hheap happ hpre
  exact ⟨k, _, h1, h2, h3, hL args s _, lw_frame hF⟩
theorem gs_vc (hgoal : ∀ xs : List Int32, xs.length ≤ 260 → gs_Goal xs) : Claimed_1_1 ∧ Claimed_1_2 := ⟨lw_limb hgoal limb_1_1 (fun args s t => by simp [limb_1_1, Cond.after, Cond.holds, Cond.value]), lw_limb hgoal limb_1_2 (fun args s t => Cond.after_iff.mpr (by
  first | (rw [show limb_1_2 = Cond.eq .result (.int 1) from rfl, Cond.eq_ints (x := 1) (y := 1) rfl rfl]; simp; done) | (simp [limb_1_2, Cond.value, Term.eval]; done)))⟩
end
