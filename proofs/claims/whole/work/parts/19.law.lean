/-! THE LAW's BODY, from a ghost run of it to the machine -/
def R_law : String := "TreeclerkLaw"
def lw_P (b : Addr) (xs : List Int32) (args : Array Value) (s : State) : Prop := args = #[.ref b] ∧ s.IntsAt b xs ∧ xs.length ≤ 2560 ∧ (Jvm.Cond.and given_1 narrow_1).before args s = true
def lw_Q (_ : Array Value) (s : State) (o : Outcome) (t : State) : Prop := o = .returned (some (.int 1)) ∧ Framed s o t [] 601024 7293034
def lw_Z (below : List Frame) (a : Array Value) (s : State) : State → Prop := fun t => ∃ o, t.status = .running ∧ Ended t below o ∧ lw_Q a s o t
/-- the law's own end, with 1 on the stack, nothing written that was there before, its room as the claim has it -/
theorem lw_ret {p : Program} {l : Launch} {e : Env} {s : State} {m : MethodId} {below : List Frame} {meth : Method} {c : Code} {b : Nat} (hx : p.tables.exec = Jvm.exec) (hb : c.code = code) (hr : meth.sig.returnType = ret) (hlocks : meth.locks = false) {pc : Nat} {H : Heap} {ls : Array Slot} (hdg : decode code pc = .ok (.ireturn, 1)) : W p l e room_1 s m #[Value.ref b] below meth c H [] 601024 7293034 (lw_Z below #[Value.ref b] s) (F0 m pc ls [.int 1]) := by
  intro T hT X
  obtain ⟨fs, hret, hrun, hended, hW, hframe⟩ := X.leave (v := some (.int 1)) (hlocks := hlocks) (fun h => by rw [hr] at h; cases h)
  have hmeth' : T.vm.method? m = some meth := X.method'
  refine ⟨T.setFrames fs, ?_, .returned (some (.int 1)), hrun, hended, rfl, ⟨_, rfl⟩, hW, hframe⟩
  jvm_step X.here [X.here.top, hx, hb, hdg, hmeth', hr, ret, narrow_b1]
  (try refine ⟨rfl, ?_⟩); (try refine ⟨rfl, ?_⟩)
  first | (intro acts; rw [hret _ acts rfl rfl rfl]) | rw [hret _ _ rfl rfl rfl]
  exact Steps.refl _
section GL
variable {z : gh_Z} {p : Program} {l : Launch} {e : Env} {R : Room} {s : State} {m : MethodId} {args : Array Value} {below : List Frame} {meth : Method} {c : Code} {nL g0 z0 k0 y0 : Nat} {Q : State → Prop} {cc : ByteArray} {rt : Option FieldType} {nm : String} {pc : Nat} {lo : gh_L} {st : List Value} {G : gh_H}
set_option maxHeartbeats 1000000 in
/-- a call of a helper -/
theorem gh_callH (hC : gh_Cx z p s m args meth c 9 cc nL rt nm) (hst : l.stackTraces = false) {i : Instr} {N d top μ : Nat} {as r : List Value} {v : Option Value} {G1 : gh_H} (hd : decode cc pc = .ok (i, 3)) (hkn : gh_knP 9 top i) (h1 : 196 ≤ μ) (h2 : μ < 223) (h : gh_step true 9 rt pc i 3 lo st G = some (.inr (.inr (μ, as, r)))) (hc : gh_cl true N d μ as G = some (.inl v, G1)) (hg : g0 ≤ G.length) (hz : z0 ≤ gh_sz G) (hfr : 8 + d + 1 ≤ R.frames) (hlo : 8 + (12 + 11) + (200 + 40 * d) ≤ R.locals) (hcells : G1.length - g0 + k0 + 1 ≤ R.cells) (hslots : gh_sz G1 - z0 + y0 + 6 ≤ R.slots)
    (kret : gh_T z p l e R s m args below meth c nL g0 z0 Q (k0 + 1) (y0 + 6) (pc + 3) lo (v.toList ++ r) G1) : gh_T z p l e R s m args below meth c nL g0 z0 Q k0 y0 pc lo st G := by
  have hm9 := gh_cl_mono _ _ _ _ _ _ hc
  obtain ⟨hx, hb, hml, -, -, hown, hts, hKB, -⟩ := hC
  obtain ⟨q, m9, hh, hq, hm, hho, -, -, -, -, hcls, -, hB, -, idx9, n9, -, hlink, hpn, huniq⟩ := gh_Xall μ h1 h2
  have hCon := gh_help l hst z N d μ as G v G1 h1 h2 hc q hh hq hho (fun m hm' => by cases Option.some.inj (hm.symm.trans hm'); exact hB)
  intro H locs ls hR hS hl T hT X
  have hpre : ∀ U : State, U.heap = H → s.WarmedH U.vm → gh_Pre z true as G (as.map (gh_em z)).toArray U := by
    intro U hU hW
    exact ⟨rfl, by rw [hU]; exact hR, gh_KB_moved (locs := locs) hKB hW (by rw [hU]; exact hS), fun hf => nomatch hf⟩
  have hlen : ls.size = nL := hl.1
  have hA : ∀ q : Nat, q < H.size → gh_A z q → gh_A z q := fun _ _ h => h
  have fin : ∀ (idx n : Nat), gh_mR 9 idx = some (μ, n) → i = .invokestatic idx → n ≤ st.length → gh_cat r ≤ 8 → as = (st.take n).reverse → r = st.drop n → ∃ t, Steps p.tables e below (T.setTop (F0 m pc ls (st.map (gh_em z)))) t ∧ Q t := by
    intro idx n hm1 hi hn hcat has hr
    subst hi
    have hu := huniq _ (gh_look hm1) rfl
    cases hu
    obtain ⟨hst9, hal⟩ := gh_take_map hn has hr
    have cw : vx_CSW R s args "TreeclerkLaw" idx q.1 q.2.1 q.2.2.1 q.2.2.2.1 hh (gh_wsH q hh) (gh_rm d (G1.length - G.length + 1) (gh_sz G1 - gh_sz G + 6)) (G1.length - G.length + 1) (gh_sz G1 - gh_sz G + 6) as.length := by
      refine vx_cwSW (Ts := gh_wsG) (ws' := gh_wsG) as.length hts (fun w hw => ?_) rfl rfl rfl ⟨hho.2.2.1.1, hho.2.2.1.2, by rw [hal]; exact hpn⟩ ⟨hfr, by have := hho.2.2.2.2.1; show 8 + (q.2.2.1 + 11) + (200 + 40 * d) ≤ _; omega⟩
      unfold va_wsS gh_wsH at hw
      simp only [List.mem_append, List.mem_cons, List.not_mem_nil, or_false] at hw
      rcases hw with (rfl | rfl | rfl) | rfl | hw
      · exact gh_goodIn _ hlink
      · exact gh_goodIn _ hho.2.2.2.2.2
      · exact gh_goodIn _ hho.2.1
      · exact gh_goodIn _ hho.1
      · exact gh_goodIn _ hw
    have hrun := vx_runSX (p := p) (l := l) (e := e) (R := R) (s := s) (m := m) (args := args) (below := below) (meth := meth) (c := c) (H := H) (locs := locs) (cells := G.length - g0 + k0) (slots := gh_sz G - z0 + y0) (As := as.map (gh_em z)) (rest := r.map (gh_em z)) (g := F0 m pc ls (st.map (gh_em z))) ⟨hx, hb, hml, hown, hts⟩ hCon cw ⟨gh_Pre_blind z true _ G, hpre⟩ rfl (by rw [List.length_map]) hlen (by rw [hst9]; simp) (by rw [gh_es_cat]; exact (show 2 * 0 + gh_cat r ≤ 8 by omega)) hd ⟨by omega, by omega⟩
    rcases hrun T hT X with ⟨w, st₀, t, T', L, h0, X', hL, e1, e2, ⟨v0, ho, hv, hR1, hF⟩, st1⟩ | ⟨q9, st₀, t, T', L, E, ce, h0, X', hL, e1, e2, ⟨k9, ho, -⟩, -⟩
    · obtain ⟨k1, k2, k3⟩ := vx_keep h0 e1 hS hA (fun _ h => h) hL hF
      cases hv
      cases ho
      have X2 : Stand p l e R s m args below meth c T' (locs ++ L) (G1.length - g0 + (k0 + 1)) (gh_sz G1 - z0 + (y0 + 6)) := by
        have e5 : G.length - g0 + k0 + (G1.length - G.length + 1) = G1.length - g0 + (k0 + 1) := by omega
        have e6 : gh_sz G - z0 + y0 + (gh_sz G1 - gh_sz G + 6) = gh_sz G1 - z0 + (y0 + 6) := by omega
        rw [e5, e6] at X'
        exact X'
      obtain ⟨t2, b1, b2⟩ := kret T'.heap (locs ++ L) ls (by rw [e1]; exact hR1) k3 hl T' rfl X2
      refine ⟨t2, st1 t2 ?_, b2⟩
      have e7 : (v.map (gh_em z)).toList ++ r.map (gh_em z) = (v.toList ++ r).map (gh_em z) := by cases v <;> rfl
      show Steps p.tables e below (T'.setTop (F0 m (pc + 3) ls ((v.map (gh_em z)).toList ++ r.map (gh_em z)))) t2
      rw [e7]
      exact b1
    · cases ho
  cases i with
  | invokestatic idx =>
    simp only [gh_step] at h
    split at h
    · simp only [gh_mm, gh_go] at h
      (repeat' split at h) <;> cases h
    · split at h
      · simp only [gh_acopy, gh_go] at h
        (repeat' split at h) <;> cases h
      · obtain ⟨n, hm1, hn, hcat, has, hr⟩ := gh_call_inv h
        exact fin idx n hm1 rfl hn hcat has hr
  | invokevirtual idx =>
    exfalso
    simp only [gh_step] at h
    split at h
    · obtain ⟨n, hm1, -⟩ := gh_call_inv h
      have := (hkn μ n hm1).1
      omega
    · cases h
  | invokespecial idx =>
    exfalso
    simp only [gh_step] at h
    split at h
    · (repeat' split at h) <;> cases h
    · split at h
      · obtain ⟨n, hm1, -⟩ := gh_call_inv h
        have := (hkn μ n hm1).1
        omega
      · cases h
  | _ =>
    exfalso
    first
    | exact absurd (show (none : Option gh_R) = some (.inr (.inr (μ, as, r))) from h) (by simp)
    | (simp only [gh_step, gh_go, gh_push, gh_pop1, gh_pop2, gh_bin, gh_binJ, gh_binD, gh_jmp, gh_sw, gh_get, gh_put, gh_ald, gh_ast, gh_len, gh_newa, gh_new, gh_ret] at h
       repeat' split at h
       all_goals cases h)
/-- a helper's run doesn't throw out -/
theorem gh_retI_inv {pc len : Nat} {i : Instr} {fz : Bool} {x : Int32} (h : gh_step fz 9 (some .boolean) pc i len lo st G = some (.inr (.inl (.inl (some (.int x)))))) : i = .ireturn ∧ st = [.int x] := by
  cases i with
  | ireturn =>
    obtain ⟨v, ty, rfl, -, -, -, ho⟩ := gh_ret_inv h
    cases ho
    exact ⟨rfl, rfl⟩
  | _ =>
    exfalso
    first
    | exact absurd (show (none : Option gh_R) = some (.inr (.inl (.inl (some (.int x))))) from h) (by simp)
    | (simp only [gh_step, gh_go, gh_push, gh_pop1, gh_pop2, gh_bin, gh_binJ, gh_binD, gh_jmp, gh_sw, gh_get, gh_put, gh_ald, gh_ast, gh_len, gh_newa, gh_new, gh_ret, gh_call, gh_mm, gh_acopy] at h
       repeat' split at h
       all_goals first | cases h | (simp_all [gh_isJ, gh_isA, gh_isO]; done))
/-- the law's body in the world that is made -/
theorem gh_bodyL {b N d : Nat} {Gf : gh_H} (hC : gh_Cx z p s m #[Value.ref b] meth c 9 code 8 (some .boolean) nm) (hst : l.stackTraces = false) (hnm : nm = "law") (hbase : z.2.2.2.1 = s.heap.size) (hd1 : d ≤ 2000) :
    ∀ (n pc : Nat) (lo : gh_L) (st : List Value) (G : gh_H) (k0 y0 : Nat), gh_ex true (gh_cl true N d) 9 (some .boolean) (fun _ _ => none) gk_law n pc lo st G = some (.inl (some (.int 1)), Gf) → g0 ≤ G.length → z0 ≤ gh_sz G → Gf.length - g0 + k0 + n ≤ 601024 → gh_sz Gf - z0 + y0 + 6 * n ≤ 7293034 →
      gh_T z p l e room_1 s m #[Value.ref b] below meth c 8 g0 z0 (lw_Z below #[Value.ref b] s) k0 y0 pc lo st G := by
  intro n
  induction n with
  | zero => intro pc lo st G k0 y0 h; cases h
  | succ n ih =>
    intro pc lo st G k0 y0 h hg hz hkc hks
    have hfin := gh_ex_mono (gh_cl_mono d) _ _ _ _ _ _ _ h
    have hRc : room_1.cells = 601024 := rfl
    have hRs : room_1.slots = 7293034 := rfl
    have hRf : room_1.frames = 2048 := rfl
    have hRl : room_1.locals = 84000 := rfl
    rw [gh_ex] at h
    split at h
    · cases h
    · next i len hlk =>
      have hmem := gh_look hlk
      have hd := gh_lwD (pc, i, len) hmem
      obtain ⟨hlen, hput, hstP, hkn⟩ := gh_chk gh_lwC hmem
      rw [← hnm] at hput
      split at h
      · cases h
      · next pc1 lo1 st1 G1 hs =>
        have h1 := gh_step_mono hs
        have h2 := gh_ex_mono (gh_cl_mono d) _ _ _ _ _ _ _ h
        exact gh_stepT hC hd hlen hput hs (fun hf => nomatch hf) hg hz (by omega) (by omega) (by omega) (by omega) (by omega) (by omega) hstP (ih _ _ _ _ _ _ h (by omega) (by omega) (by omega) (by omega))
      · next o1 hs =>
        cases h
        obtain ⟨rfl, rfl⟩ := gh_retI_inv hs
        obtain rfl : len = _ := hlen
        intro H locs ls hR hS hl
        refine W.widen (k := 601024) (n := 7293034) (by omega) (by omega) ?_
        exact va_forget (fun q hq => by have := hS.2.2 q hq; unfold gh_A at this; omega) (lw_ret hC.1 hC.2.1 hC.2.2.2.1 hC.2.2.2.2.1 hd)
      · next μ as r hs =>
        obtain ⟨hl3, hμ⟩ := gh_call_len hs hlen hkn
        subst hl3
        split at h
        · cases h
        · next v G1 hc =>
          have h1 := gh_cl_mono _ _ _ _ _ _ hc
          have h2 := gh_ex_mono (gh_cl_mono d) _ _ _ _ _ _ _ h
          by_cases hμ2 : μ < 196
          · obtain ⟨q, m9, hq, -⟩ := gh_Mall μ hμ2
            refine gh_callW hC hd hkn hμ2 hs hq (gh_norm l hst z true N d μ as G _ G1 hμ2 hc q hq) (fun hf => nomatch hf) hg hz h1.1 h1.2 (by omega) (by omega) (by simp only [gh_th]; omega) (by simp only [gh_th]; omega) (fun w9 hw => ?_) (fun E hE => by cases hE)
            cases hw
            exact ih _ _ _ _ _ _ h (by omega) (by omega) (by omega) (by omega)
          · exact gh_callH hC hst hd hkn (by omega) (by omega) hs hc hg hz (by omega) (by omega) (by omega) (by omega) (ih _ _ _ _ _ _ h (by omega) (by omega) (by omega) (by omega))
        · cases h
/-- the law's first stretch: the two constructors, the answers' row; it stops at stop -/
def gh_px (C : Nat → List Value → gh_H → Option (gh_O × gh_H)) (stop : Nat) (K : List (Nat × Instr × Nat)) : Nat → Nat → gh_L → List Value → gh_H → Option gh_N
  | 0, _, _, _, _ => none
  | n + 1, pc, lo, st, G => if pc = stop then some (pc, lo, st, G) else match K.lookup pc with
    | none => none
    | some (i, len) => match gh_step false 9 (some .boolean) pc i len lo st G with
      | none => none
      | some (.inl (pc', lo', st', G')) => gh_px C stop K n pc' lo' st' G'
      | some (.inr (.inl _)) => none
      | some (.inr (.inr (μ, as, r))) => match C μ as G with
        | some (.inl v, G') => if μ < 196 then gh_px C stop K n (pc + 3) lo (v.toList ++ r) G' else none
        | _ => none
theorem gh_px_mono {C : Nat → List Value → gh_H → Option (gh_O × gh_H)} {stop : Nat} {K : List (Nat × Instr × Nat)} (hCm : ∀ μ as G o G', C μ as G = some (o, G') → G.length ≤ G'.length ∧ gh_sz G ≤ gh_sz G') :
    ∀ (n pc : Nat) (lo : gh_L) (st : List Value) (G : gh_H) (pc1 : Nat) (lo1 : gh_L) (st1 : List Value) (G1 : gh_H), gh_px C stop K n pc lo st G = some (pc1, lo1, st1, G1) → G.length ≤ G1.length ∧ gh_sz G ≤ gh_sz G1 := by
  intro n
  induction n with
  | zero => intro pc lo st G pc1 lo1 st1 G1 h; cases h
  | succ n ih =>
    intro pc lo st G pc1 lo1 st1 G1 h
    rw [gh_px] at h
    split at h
    · cases h; omega
    · split at h
      · cases h
      · split at h
        · cases h
        · next hs =>
          have h1 := gh_step_mono hs
          have h2 := ih _ _ _ _ _ _ _ _ h
          omega
        · cases h
        · split at h
          · next hc =>
            split at h
            · have h1 := hCm _ _ _ _ _ hc
              have h2 := ih _ _ _ _ _ _ _ _ h
              omega
            · cases h
          · cases h
theorem gh_pre {b N d : Nat} {Gf : gh_H} {pc9 : Nat} {lo9 : gh_L} {st9 : List Value} (hC : gh_Cx z p s m #[Value.ref b] meth c 9 code 8 (some .boolean) nm) (hst : l.stackTraces = false) (hnm : nm = "law") (he0 : s.heap.size + 1 = z.2.2.2.1 + g0) (hd1 : d ≤ 2000) {stop : Nat} (hroom : Gf.length - g0 ≤ 601024 ∧ gh_sz Gf - z0 ≤ 7293034)
    (kk : gh_T z p l e room_1 s m #[Value.ref b] below meth c 8 g0 z0 Q 0 0 pc9 lo9 st9 Gf) :
    ∀ (n pc : Nat) (lo : gh_L) (st : List Value) (G : gh_H), gh_px (gh_cl false N d) stop gk_law n pc lo st G = some (pc9, lo9, st9, Gf) → g0 ≤ G.length → z0 ≤ gh_sz G →
      gh_T z p l e room_1 s m #[Value.ref b] below meth c 8 g0 z0 Q 0 0 pc lo st G := by
  intro n
  induction n with
  | zero => intro pc lo st G h; cases h
  | succ n ih =>
    intro pc lo st G h hg hz
    have hfin := gh_px_mono (gh_cl_mono d) _ _ _ _ _ _ _ _ _ h
    have hRc : room_1.cells = 601024 := rfl
    have hRs : room_1.slots = 7293034 := rfl
    have hRf : room_1.frames = 2048 := rfl
    have hRl : room_1.locals = 84000 := rfl
    rw [gh_px] at h
    split at h
    · cases h; exact kk
    · split at h
      · cases h
      · next i len hlk =>
        have hmem := gh_look hlk
        have hd := gh_lwD (pc, i, len) hmem
        obtain ⟨hlen, hput, hstP, hkn⟩ := gh_chk gh_lwC hmem
        rw [← hnm] at hput
        split at h
        · cases h
        · next pc1 lo1 st1 G1 hs =>
          have h1 := gh_step_mono hs
          have h2 := gh_px_mono (gh_cl_mono d) _ _ _ _ _ _ _ _ _ h
          exact gh_stepT hC hd hlen hput hs (fun _ => ⟨he0, rfl, rfl⟩) hg hz (by omega) (by omega) (by omega) (by omega) (by omega) (by omega) hstP (ih _ _ _ _ h (by omega) (by omega))
        · cases h
        · next μ as r hs =>
          obtain ⟨hl3, hμ⟩ := gh_call_len hs hlen hkn
          subst hl3
          split at h
          · next v G1 hc =>
            split at h
            · next hμ2 =>
              have h1 := gh_cl_mono _ _ _ _ _ _ hc
              have h2 := gh_px_mono (gh_cl_mono d) _ _ _ _ _ _ _ _ _ h
              obtain ⟨q, m9, hq, -⟩ := gh_Mall μ hμ2
              refine gh_callW hC hd hkn hμ2 hs hq (gh_norm l hst z false N d μ as G _ G1 hμ2 hc q hq) (fun _ => ⟨he0, rfl⟩) hg hz h1.1 h1.2 (by omega) (by omega) (by simp only [gh_th]; omega) (by simp only [gh_th]; omega) (fun w9 hw => ?_) (fun E hE => by cases hE)
              cases hw
              exact ih _ _ _ _ h (by omega) (by omega)
            · cases h
          · cases h
end GL
