/-! CALLS: a method's contract at one ghost run, and how a caller uses it -/
def gh_Pre (z : gh_Z) (fz : Bool) (as : List Value) (G : gh_H) : Array Value → State → Prop := va_Pc (as.map (gh_em z)) (fun U => gh_Rel z G U.heap ∧ gh_KB z U ∧ (fz = false → U.heap.size + 1 = z.2.2.2.1 + G.length))
def gh_Qo (z : gh_Z) (o : gh_O) (G' : gh_H) : Array Value → State → Outcome → State → Prop := fun _ st oc t => ∃ v, o = .inl v ∧ oc = .returned (v.map (gh_em z)) ∧ gh_Rel z G' t.heap ∧ va_F (gh_A z) st t
def gh_Xo (z : gh_Z) (o : gh_O) (G' : gh_H) : String → State → State → Prop := fun E st t => ∃ k, o = .inr k ∧ E = gh_es k ∧ gh_Rel z G' t.heap ∧ va_F (gh_A z) st t
def gh_th (o : gh_O) : Nat := match o with
  | .inl _ => 0
  | .inr _ => 1
def gh_rm (d mc ms : Nat) : Room := { frames := 8 + d, cells := mc, slots := ms, locals := 200 + 40 * d }
def gh_wsY (q : MethodName × ByteArray × Nat × Option FieldType × Nat) : List Cond := Cond.code q.1 q.2.1 q.2.2.1 q.2.2.2.1 :: gh_wsG
def gh_mc (G G' : gh_H) (o : gh_O) : Nat := G'.length - G.length + gh_th o
def gh_ms (G G' : gh_H) (o : gh_O) : Nat := gh_sz G' - gh_sz G + 6 * gh_th o
def gh_Con (l : Launch) (z : gh_Z) (fz : Bool) (d : Nat) (q : MethodName × ByteArray × Nat × Option FieldType × Nat) (as : List Value) (G : gh_H) (o : gh_O) (G' : gh_H) : Prop :=
  vx_Met l q.1 (gh_wsY q) (gh_rm d (gh_mc G G' o) (gh_ms G G' o)) (gh_Pre z fz as G) (gh_Qo z o G') (gh_Xo z o G') (gh_mc G G' o) (gh_ms G G' o) (gh_A z)
theorem gh_Pre_blind (z : gh_Z) (fz : Bool) (as : List Value) (G : gh_H) : FrameBlind (gh_Pre z fz as G) := fun _ _ _ _ h => ⟨h.1, h.2.1, gh_KB_call h.2.2.1, h.2.2.2⟩
section GC
variable {z : gh_Z} {p : Program} {l : Launch} {e : Env} {R : Room} {s : State} {m : MethodId} {args : Array Value} {below : List Frame} {meth : Method} {c : Code} {nL g0 z0 k0 y0 own : Nat} {Q : State → Prop} {cc : ByteArray} {rt : Option FieldType} {nm : String} {pc pc' : Nat} {lo lo' : gh_L} {st st' : List Value} {G G' : gh_H}
theorem gh_Rel_low {H : Heap} (hR : gh_Rel z G H) : z.2.2.2.1 + G.length ≤ H.size + 1 ∨ G.length ≤ 1 := by
  by_cases h : G.length ≤ 1
  · exact Or.inr h
  · left
    have h1 := gh_W_get (z := z) (G := G) (a := G.length - 1) (c := G[G.length - 1]'(by omega)) (List.getElem?_eq_getElem (by omega)) (by omega)
    have h2 := (hR.1 _ _ h1).lt
    have h3 : gh_ad z (G.length - 1) = z.2.2.2.1 + (G.length - 1 - 1) := by
      unfold gh_ad
      rw [if_neg (by omega)]
    have h4 : gh_ad z (G.length - 1) < H.size := h2
    omega
theorem gh_size_eq {H : Heap} {T : State} {locs : List Loc} {cells slots : Nat} (hKB : gh_KB z s) (he0 : s.heap.size + 1 = z.2.2.2.1 + g0) (hg : g0 ≤ G.length) (hR : gh_Rel z G H) (hS : va_S (gh_A z) s.heap H locs) (hT : T.heap = H) (X : Stand p l e R s m args below meth c T locs cells slots) (hc : cells = G.length - g0) : H.size + 1 = z.2.2.2.1 + G.length := by
  have hup : H.size ≤ s.heap.size + cells := by
    have h := X.same.2.2.1
    rw [← hT]
    exact h
  have hlo := hS.1
  have hb := hKB.2.2.2.1
  have hl : 1 ≤ G.length := by
    cases G with
    | nil => rcases hR.2 with h | h <;> cases h
    | cons _ _ => simp
  rcases gh_Rel_low hR with h | h <;> omega
theorem gh_callB {q : MethodName × ByteArray × Nat × Option FieldType × Nat} {idx mc ms d n : Nat} (hts : ∀ w ∈ gh_wsG, w.before args s = true) (hY : gh_yOK q) (hl : Cond.methodLink (gh_on own) idx q.1 ∈ gh_wsG) (hn : (parseMethodDescriptor q.1.desc).map (fun d => d.parameters.length) = some n) (hR : 8 + d + 1 ≤ R.frames ∧ 8 + (q.2.2.1 + 11) + (200 + 40 * d) ≤ R.locals) :
    CallB R s args (gh_on own) idx q.1 q.2.1 q.2.2.1 q.2.2.2.1 (gh_wsY q) (gh_rm d mc ms) mc ms n := by
  refine callB_of (Ts := gh_wsG) (ws' := gh_wsG) n hts (fun w hw => ?_) rfl rfl rfl (hts _ hY.2.1) (hts _ hl) ⟨hY.2.2.1.1, hY.2.2.1.2, hn⟩ hR
  rcases List.mem_cons.mp hw with rfl | hw
  · exact gh_goodIn _ hY.1
  · exact gh_goodIn _ hw
theorem gh_callN {q : MethodName × ByteArray × Nat × Option FieldType × Nat} {idx mc ms d n : Nat} {host : String} (hts : ∀ w ∈ gh_wsG, w.before args s = true) (hKB : gh_KB z s) (hY : gh_yOK q) (hl : Cond.methodLinkNest (gh_on own) idx q.1 host ∈ gh_nst) (hn : (parseMethodDescriptor q.1.desc).map (fun d => d.parameters.length) = some n) (hR : 8 + d + 1 ≤ R.frames ∧ 8 + (q.2.2.1 + 11) + (200 + 40 * d) ≤ R.locals) :
    va_CN R s args (gh_on own) idx q.1 host q.2.1 q.2.2.1 q.2.2.2.1 (gh_wsY q) (gh_rm d mc ms) mc ms n := by
  refine va_cnB (Ts := gh_wsG) (ws' := gh_wsG) n hts (fun w hw => ?_) rfl rfl rfl (hKB.2.2.2.2.1 _ hl) (hts _ hY.2.1) ⟨hY.2.2.1.1, hY.2.2.1.2, hn⟩ hR
  rcases List.mem_cons.mp hw with rfl | hw
  · exact gh_goodIn _ hY.1
  · exact gh_goodIn _ hw
theorem gh_call_inv {μn : Option (Nat × Nat)} {μ : Nat} {as r : List Value} (h : gh_call μn st = some (.inr (.inr (μ, as, r)))) : ∃ n, μn = some (μ, n) ∧ n ≤ st.length ∧ gh_cat r ≤ 8 ∧ as = (st.take n).reverse ∧ r = st.drop n := by
  unfold gh_call at h
  split at h
  · split at h
    · next hq =>
      cases h
      exact ⟨_, rfl, hq.1, hq.2, rfl, rfl⟩
    · cases h
  · cases h
/-- a caller's place behind a call -/
theorem gh_behind {q : MethodName × ByteArray × Nat × Option FieldType × Nat} {as r : List Value} {o : gh_O} {G1 : gh_H} {H : Heap} {locs : List Loc} {ls : Array Slot} {T : State} {a9 : Array Value} (hg : g0 ≤ G.length) (hz : z0 ≤ gh_sz G) (hg1 : G.length ≤ G1.length) (hz1 : gh_sz G ≤ gh_sz G1) (hKB : gh_KB z s) (hR : gh_Rel z G H) (hS : va_S (gh_A z) s.heap H locs) (hl : lv_has ls nL (gh_lm z lo)) (hT : T.heap = H) (X : Stand p l e R s m args below meth c T locs (G.length - g0 + k0) (gh_sz G - z0 + y0))
    (hr : vx_Run p l e R s m args below meth c H locs (G.length - g0 + k0) (gh_sz G - z0 + y0) (gh_mc G G1 o) (gh_ms G G1 o) (F0 m pc ls (st.map (gh_em z))) (r.map (gh_em z)) (gh_Qo z o G1 a9) (gh_Xo z o G1) (gh_A z))
    (kret : ∀ v, o = .inl v → gh_T z p l e R s m args below meth c nL g0 z0 Q k0 y0 (pc + 3) lo (v.toList ++ r) G1)
    (kthr : ∀ E, o = .inr E → ∀ (H1 : Heap) (locs1 : List Loc) (q9 : Addr) (ce : Cell), gh_Rel z G1 H1 → va_S (gh_A z) s.heap H1 locs1 → H1[q9]? = some ce → ce.vm = .none → s.vm.findClass (gh_es E) = some ce.cls → lv_has ls nL (gh_lm z lo) → vx_W p l e R s m args below meth c H1 locs1 (G1.length - g0 + k0 + 1) (gh_sz G1 - z0 + y0 + 6) Q (F0 m pc ls (r.map (gh_em z))) q9) :
    ∃ t, Steps p.tables e below (T.setTop (F0 m pc ls (st.map (gh_em z)))) t ∧ Q t := by
  have hA : ∀ q : Nat, q < H.size → gh_A z q → gh_A z q := fun _ _ h => h
  rcases hr T hT X with ⟨v, st₀, t, T', L, h0, X', hL, e1, e2, ⟨v0, ho, hv, hR1, hF⟩, st1⟩ | ⟨q9, st₀, t, T', L, E, ce, h0, X', hL, e1, e2, ⟨k9, ho, hE, hR1, hF⟩, hce, hcv, hcl, st1⟩
  · obtain ⟨k1, k2, k3⟩ := vx_keep h0 e1 hS hA (fun _ h => h) hL hF
    cases hv
    subst ho
    have X2 : Stand p l e R s m args below meth c T' (locs ++ L) (G1.length - g0 + k0) (gh_sz G1 - z0 + y0) := by
      have e5 : G.length - g0 + k0 + gh_mc G G1 (.inl v0) = G1.length - g0 + k0 := by simp only [gh_mc, gh_th]; omega
      have e6 : gh_sz G - z0 + y0 + gh_ms G G1 (.inl v0) = gh_sz G1 - z0 + y0 := by simp only [gh_ms, gh_th]; omega
      rw [e5, e6] at X'
      exact X'
    obtain ⟨t2, a1, b1⟩ := kret v0 rfl T'.heap (locs ++ L) ls (by rw [e1]; exact hR1) k3 hl T' rfl X2
    refine ⟨t2, st1 t2 ?_, b1⟩
    have e7 : (v0.map (gh_em z)).toList ++ r.map (gh_em z) = (v0.toList ++ r).map (gh_em z) := by cases v0 <;> rfl
    show Steps p.tables e below (T'.setTop (F0 m (pc + 3) ls ((v0.map (gh_em z)).toList ++ r.map (gh_em z)))) t2
    rw [e7]
    exact a1
  · obtain ⟨k1, k2, k3⟩ := vx_keep h0 e1 hS hA (fun _ h => h) hL hF
    subst ho
    subst hE
    have X2 : Stand p l e R s m args below meth c T' (locs ++ L) (G1.length - g0 + k0 + 1) (gh_sz G1 - z0 + y0 + 6) := by
      have e5 : G.length - g0 + k0 + gh_mc G G1 (.inr k9) = G1.length - g0 + k0 + 1 := by simp only [gh_mc, gh_th]; omega
      have e6 : gh_sz G - z0 + y0 + gh_ms G G1 (.inr k9) = gh_sz G1 - z0 + y0 + 6 := by simp only [gh_ms, gh_th]; omega
      rw [e5, e6] at X'
      exact X'
    obtain ⟨t2, a1, b1⟩ := kthr k9 rfl T'.heap (locs ++ L) q9 ce (by rw [e1]; exact hR1) k3 (by rw [e1]; exact hce) hcv hcl hl T' rfl X2
    exact ⟨t2, st1.trans a1, b1⟩
theorem gh_take_map {n : Nat} {as r : List Value} (h1 : n ≤ st.length) (h2 : as = (st.take n).reverse) (h3 : r = st.drop n) : st = as.reverse ++ r ∧ as.length = n := by
  subst h2; subst h3
  refine ⟨by rw [List.reverse_reverse, List.take_append_drop], ?_⟩
  rw [List.length_reverse, List.length_take]
  omega
set_option maxHeartbeats 1000000 in
theorem gh_callW (hC : gh_Cx z p s m args meth c own cc nL rt nm) {i : Instr} {fz : Bool} {d top μ : Nat} {as r : List Value} {o : gh_O} {G1 : gh_H} {q : MethodName × ByteArray × Nat × Option FieldType × Nat} (hd : decode cc pc = .ok (i, 3)) (hkn : gh_knP own top i) (hμ : μ < 128) (h : gh_step fz own rt pc i 3 lo st G = some (.inr (.inr (μ, as, r)))) (hq : gh_yt[μ]? = some q) {fz' : Bool} (hCon : gh_Con l z fz' d q as G o G1) (he0 : fz' = false → s.heap.size + 1 = z.2.2.2.1 + g0 ∧ k0 = 0) (hg : g0 ≤ G.length) (hz : z0 ≤ gh_sz G) (hg1 : G.length ≤ G1.length) (hz1 : gh_sz G ≤ gh_sz G1) (hfr : 8 + d + 1 ≤ R.frames) (hlo : 8 + (12 + 11) + (200 + 40 * d) ≤ R.locals) (hcells : G1.length - g0 + k0 + gh_th o ≤ R.cells) (hslots : gh_sz G1 - z0 + y0 + 6 * gh_th o ≤ R.slots)
    (kret : ∀ v, o = .inl v → gh_T z p l e R s m args below meth c nL g0 z0 Q k0 y0 (pc + 3) lo (v.toList ++ r) G1)
    (kthr : ∀ E, o = .inr E → ∀ (H1 : Heap) (locs1 : List Loc) (ls : Array Slot) (q9 : Addr) (ce : Cell), gh_Rel z G1 H1 → va_S (gh_A z) s.heap H1 locs1 → H1[q9]? = some ce → ce.vm = .none → s.vm.findClass (gh_es E) = some ce.cls → lv_has ls nL (gh_lm z lo) → vx_W p l e R s m args below meth c H1 locs1 (G1.length - g0 + k0 + 1) (gh_sz G1 - z0 + y0 + 6) Q (F0 m pc ls (r.map (gh_em z))) q9) :
    gh_T z p l e R s m args below meth c nL g0 z0 Q k0 y0 pc lo st G := by
  obtain ⟨hx, hb, hml, -, -, hown, hts, hKB, -⟩ := hC
  obtain ⟨o9, hmo, -, hmo2⟩ := gh_moK hμ hq
  have hget : gh_mo.getD μ (0, 9) = (o9, q.2.2.2.2) := by rw [List.getD_eq_getElem?_getD, hmo]; rfl
  have hY : ∀ idx n, gh_mR own idx = some (μ, n) → gh_mOK own (idx, μ, n) := fun idx n hm => gh_mAll own _ (gh_look hm) hμ
  intro H locs ls hR hS hl T hT X
  have hpre : ∀ U : State, U.heap = H → s.WarmedH U.vm → gh_Pre z fz' as G (as.map (gh_em z)).toArray U := by
    intro U hU hW
    refine ⟨rfl, by rw [hU]; exact hR, gh_KB_moved (locs := locs) hKB hW (by rw [hU]; exact hS), fun hf => ?_⟩
    obtain ⟨h1, h2⟩ := he0 hf
    rw [hU]
    exact gh_size_eq hKB h1 hg hR hS hT X (by rw [h2]; rfl)
  have hf9 : G.length - g0 + k0 + gh_mc G G1 o ≤ R.cells ∧ gh_sz G - z0 + y0 + gh_ms G G1 o ≤ R.slots := by
    unfold gh_mc gh_ms
    omega
  have hlen : ls.size = nL := hl.1
  cases i with
  | invokevirtual idx =>
    simp only [gh_step] at h
    split at h
    · next hrcv =>
      obtain ⟨n, hm, hn, hcat, has, hr⟩ := gh_call_inv h
      obtain ⟨hst, hal⟩ := gh_take_map hn has hr
      obtain ⟨-, hk0⟩ := hkn μ n hm
      rw [hget] at hk0
      have hk0 : q.2.2.2.2 = 0 := hk0
      obtain ⟨q', hq', hyo, hpn, hlink⟩ := hY idx n hm
      cases Option.some.inj (hq'.symm.trans hq)
      have hlink : Cond.methodLink (gh_on own) idx q.1 ∈ gh_wsG := by
        rcases hlink with h1 | ⟨h1, -⟩
        · exact h1
        · exact absurd hk0 h1
      -- the receiver
      rw [hm] at hrcv
      simp only [gh_rcv] at hrcv
      split at hrcv
      · next a o1 hsa ho1 =>
        rw [hmo, hk0] at ho1
        cases ho1
        simp only [Bool.and_eq_true, decide_eq_true_eq, Option.isSome_iff_exists] at hrcv
        obtain ⟨hn0, vs, hvs⟩ := hrcv
        obtain ⟨T9, N9, hcl⟩ := hmo2 hk0
        have hG := gh_at_inv hvs
        have hci := (gh_cls _ _ _ _ hcl).1
        have hGa := gh_W_get (z := z) hG (gh_at0 hR hG (by omega))
        rw [gh_ce_o z vs hci] at hGa
        obtain ⟨cB, hcB1, hcB2, hcB3⟩ := va_recv hKB.1 hR.1 hcl hGa
        -- the arguments: the receiver first
        obtain ⟨as', rfl⟩ : ∃ as', as = .ref a :: as' := by
          have h1 : as[0]? = some (.ref a) := by
            rw [has, List.getElem?_reverse (by rw [List.length_take]; omega), List.length_take, List.getElem?_take, if_pos (by omega), show min n st.length - 1 - 0 = n - 1 by omega]
            exact hsa
          cases as with
          | nil => cases h1
          | cons b as' => exact ⟨as', by cases h1; rfl⟩
        have hpn' : (parseMethodDescriptor q.1.desc).map (fun d => d.parameters.length) = some as'.length := by
          have e1 : (if q.2.2.2.2 = 1 then (0 : Nat) else 1) = 1 := by rw [hk0]; rfl
          cases hpd : parseMethodDescriptor q.1.desc with
          | none => rw [hpd] at hpn; cases hpn
          | some D =>
            rw [hpd] at hpn
            simp only [Option.map_some, Option.some.injEq] at hpn ⊢
            rw [e1] at hpn
            rw [List.length_cons] at hal
            omega
        rcases hyo.2.2.2.2.2 with ⟨-, hin, hsel⟩ | ⟨h1, -⟩ | ⟨h1, -⟩
        · have cb := gh_callB (R := R) (own := own) (mc := gh_mc G G1 o) (ms := gh_ms G G1 o) (d := d) hts hyo hlink hpn' ⟨hfr, by have := hyo.2.2.2.2.1; omega⟩
          have hrun := vx_runV (p := p) (l := l) (e := e) (R := R) (s := s) (m := m) (args := args) (below := below) (meth := meth) (c := c) (H := H) (locs := locs) (cells := G.length - g0 + k0) (slots := gh_sz G - z0 + y0) (C := q.1.cls) (b := gh_ad z a) (As := as'.map (gh_em z)) (rest := r.map (gh_em z)) (g := F0 m pc ls (st.map (gh_em z))) ⟨hx, hb, hml, hown, hts⟩ hCon ⟨cb, hts _ hin, hts _ hsel⟩ ⟨gh_Pre_blind z fz' _ G, ⟨cB, hcB1, hcB2, hcB3⟩, hpre⟩ rfl (by rw [List.length_map]) hlen (by rw [hst]; simp [gh_em]) (by rw [gh_es_cat]; exact (show 2 * 0 + gh_cat r ≤ 8 by omega)) hd hf9
          exact gh_behind (q := q) (as := .ref a :: as') hg hz hg1 hz1 hKB hR hS hl hT X hrun kret (fun E hE H1 locs1 q9 ce a1 a2 a3 a4 a5 a6 => kthr E hE H1 locs1 ls q9 ce a1 a2 a3 a4 a5 a6)
        · rw [hk0] at h1; cases h1
        · rw [hk0] at h1; cases h1
      · cases hrcv
    · cases h
  | invokestatic idx =>
    simp only [gh_step] at h
    split at h
    · simp only [gh_mm] at h
      split at h
      · split at h <;> cases h
      · cases h
    · split at h
      · simp only [gh_acopy] at h
        split at h
        · split at h
          · split at h <;> cases h
          · cases h
        · cases h
      · obtain ⟨n, hm, hn, hcat, has, hr⟩ := gh_call_inv h
        obtain ⟨hst, hal⟩ := gh_take_map hn has hr
        obtain ⟨-, hk0⟩ := hkn μ n hm
        rw [hget] at hk0
        have hk0 : q.2.2.2.2 = 1 := hk0
        obtain ⟨q', hq', hyo, hpn, hlink⟩ := hY idx n hm
        cases Option.some.inj (hq'.symm.trans hq)
        have hpn' : (parseMethodDescriptor q.1.desc).map (fun d => d.parameters.length) = some as.length := by
          have e1 : (if q.2.2.2.2 = 1 then (0 : Nat) else 1) = 0 := by rw [hk0]; rfl
          rw [hal]
          rw [e1] at hpn
          exact hpn
        rcases hyo.2.2.2.2.2 with ⟨h1, -⟩ | ⟨-, hstt⟩ | ⟨h1, -⟩
        · rw [hk0] at h1; cases h1
        · rcases hlink with hlink | ⟨-, host, hlink⟩
          · have cb := gh_callB (R := R) (own := own) (mc := gh_mc G G1 o) (ms := gh_ms G G1 o) (d := d) hts hyo hlink hpn' ⟨hfr, by have := hyo.2.2.2.2.1; omega⟩
            have hrun := vx_runS (p := p) (l := l) (e := e) (R := R) (s := s) (m := m) (args := args) (below := below) (meth := meth) (c := c) (H := H) (locs := locs) (cells := G.length - g0 + k0) (slots := gh_sz G - z0 + y0) (As := as.map (gh_em z)) (rest := r.map (gh_em z)) (g := F0 m pc ls (st.map (gh_em z))) ⟨hx, hb, hml, hown, hts⟩ hCon ⟨cb, hts _ hstt⟩ ⟨gh_Pre_blind z fz' _ G, hpre⟩ rfl (by rw [List.length_map]) hlen (by rw [hst]; simp) (by rw [gh_es_cat]; exact (show 2 * 0 + gh_cat r ≤ 8 by omega)) hd hf9
            exact gh_behind (q := q) (as := as) hg hz hg1 hz1 hKB hR hS hl hT X hrun kret (fun E hE H1 locs1 q9 ce a1 a2 a3 a4 a5 a6 => kthr E hE H1 locs1 ls q9 ce a1 a2 a3 a4 a5 a6)
          · have cb := gh_callN (R := R) (own := own) (mc := gh_mc G G1 o) (ms := gh_ms G G1 o) (d := d) hts hKB hyo hlink hpn' ⟨hfr, by have := hyo.2.2.2.2.1; omega⟩
            have hrun := vx_runSN (p := p) (l := l) (e := e) (R := R) (s := s) (m := m) (args := args) (below := below) (meth := meth) (c := c) (H := H) (locs := locs) (cells := G.length - g0 + k0) (slots := gh_sz G - z0 + y0) (As := as.map (gh_em z)) (rest := r.map (gh_em z)) (g := F0 m pc ls (st.map (gh_em z))) ⟨hx, hb, hml, hown, hts⟩ hCon ⟨cb, hts _ hstt, trivial⟩ ⟨gh_Pre_blind z fz' _ G, hpre⟩ rfl (by rw [List.length_map]) hlen (by rw [hst]; simp) (by rw [gh_es_cat]; exact (show 2 * 0 + gh_cat r ≤ 8 by omega)) hd hf9
            exact gh_behind (q := q) (as := as) hg hz hg1 hz1 hKB hR hS hl hT X hrun kret (fun E hE H1 locs1 q9 ce a1 a2 a3 a4 a5 a6 => kthr E hE H1 locs1 ls q9 ce a1 a2 a3 a4 a5 a6)
        · rw [hk0] at h1; cases h1
  | invokespecial idx =>
    simp only [gh_step] at h
    split at h
    · split at h
      · split at h <;> cases h
      · cases h
    · split at h
      · next hrcv =>
        obtain ⟨n, hm, hn, hcat, has, hr⟩ := gh_call_inv h
        obtain ⟨hst, hal⟩ := gh_take_map hn has hr
        obtain ⟨-, hk0⟩ := hkn μ n hm
        rw [hget] at hk0
        have hk0 : q.2.2.2.2 = 2 := hk0
        obtain ⟨q', hq', hyo, hpn, hlink⟩ := hY idx n hm
        cases Option.some.inj (hq'.symm.trans hq)
        rw [hm] at hrcv
        simp only [gh_rcs] at hrcv
        split at hrcv
        · next a hsa =>
          have hn0 := of_decide_eq_true hrcv
          obtain ⟨as', rfl⟩ : ∃ as', as = .ref a :: as' := by
            have h1 : as[0]? = some (.ref a) := by
              rw [has, List.getElem?_reverse (by rw [List.length_take]; omega), List.length_take, List.getElem?_take, if_pos (by omega), show min n st.length - 1 - 0 = n - 1 by omega]
              exact hsa
            cases as with
            | nil => cases h1
            | cons b as' => exact ⟨as', by cases h1; rfl⟩
          have hpn' : (parseMethodDescriptor q.1.desc).map (fun d => d.parameters.length) = some as'.length := by
            have e1 : (if q.2.2.2.2 = 1 then (0 : Nat) else 1) = 1 := by rw [hk0]; rfl
            cases hpd : parseMethodDescriptor q.1.desc with
            | none => rw [hpd] at hpn; cases hpn
            | some D =>
              rw [hpd] at hpn
              simp only [Option.map_some, Option.some.injEq] at hpn ⊢
              rw [e1] at hpn
              rw [List.length_cons] at hal
              omega
          rcases hyo.2.2.2.2.2 with ⟨h1, -⟩ | ⟨h1, -⟩ | ⟨-, hnm9, hrt9, hin⟩
          · rw [hk0] at h1; cases h1
          · rw [hk0] at h1; cases h1
          · rcases hlink with hlink | ⟨-, host, hlink⟩
            · have cb := gh_callB (R := R) (own := own) (mc := gh_mc G G1 o) (ms := gh_ms G G1 o) (d := d) hts hyo hlink hpn' ⟨hfr, by have := hyo.2.2.2.2.1; omega⟩
              rw [hrt9] at cb
              have hrun := vx_runI (p := p) (l := l) (e := e) (R := R) (s := s) (m := m) (args := args) (below := below) (meth := meth) (c := c) (H := H) (locs := locs) (cells := G.length - g0 + k0) (slots := gh_sz G - z0 + y0) (b := gh_ad z a) (As := as'.map (gh_em z)) (rest := r.map (gh_em z)) (g := F0 m pc ls (st.map (gh_em z))) ⟨hx, hb, hml, hown, hts⟩ hCon ⟨cb, hnm9, hts _ hin⟩ ⟨gh_Pre_blind z fz' _ G, hpre⟩ rfl (by rw [List.length_map]) hlen (by rw [hst]; simp [gh_em]) (by rw [gh_es_cat]; exact (show 2 * 0 + gh_cat r ≤ 8 by omega)) hd hf9
              exact gh_behind (q := q) (as := .ref a :: as') hg hz hg1 hz1 hKB hR hS hl hT X hrun kret (fun E hE H1 locs1 q9 ce a1 a2 a3 a4 a5 a6 => kthr E hE H1 locs1 ls q9 ce a1 a2 a3 a4 a5 a6)
            · have cb := gh_callN (R := R) (own := own) (mc := gh_mc G G1 o) (ms := gh_ms G G1 o) (d := d) hts hKB hyo hlink hpn' ⟨hfr, by have := hyo.2.2.2.2.1; omega⟩
              rw [hrt9] at cb
              have hrun := vx_runIN (p := p) (l := l) (e := e) (R := R) (s := s) (m := m) (args := args) (below := below) (meth := meth) (c := c) (H := H) (locs := locs) (cells := G.length - g0 + k0) (slots := gh_sz G - z0 + y0) (b := gh_ad z a) (As := as'.map (gh_em z)) (rest := r.map (gh_em z)) (g := F0 m pc ls (st.map (gh_em z))) ⟨hx, hb, hml, hown, hts⟩ hCon ⟨cb, hnm9, hts _ hin⟩ ⟨gh_Pre_blind z fz' _ G, hpre⟩ rfl (by rw [List.length_map]) hlen (by rw [hst]; simp [gh_em]) (by rw [gh_es_cat]; exact (show 2 * 0 + gh_cat r ≤ 8 by omega)) hd hf9
              exact gh_behind (q := q) (as := .ref a :: as') hg hz hg1 hz1 hKB hR hS hl hT X hrun kret (fun E hE H1 locs1 q9 ce a1 a2 a3 a4 a5 a6 => kthr E hE H1 locs1 ls q9 ce a1 a2 a3 a4 a5 a6)
        · cases hrcv
      · cases h
  | _ =>
    first
    | exact absurd (show (none : Option gh_R) = some (.inr (.inr (μ, as, r))) from h) (by simp)
    | (simp only [gh_step, gh_go, gh_push, gh_pop1, gh_pop2, gh_bin, gh_binJ, gh_binD, gh_binZ, gh_jmp, gh_sw, gh_get, gh_put, gh_ald, gh_ast, gh_len, gh_newa, gh_new, gh_ret] at h
       repeat' split at h
       all_goals cases h)
end GC
