/-! THE COUNTED RUN: a body without handlers, each call of a helper paid for; same, and the law -/
set_option maxRecDepth 100000 in
theorem gh_y136 : ∃ q, gh_yt[136]? = some q ∧ gh_yOK q := ⟨_, rfl, ⟨gh_w 801 rfl rfl, gh_w 0 rfl rfl, ⟨by decide, by decide⟩, by decide +kernel, by decide, Or.inr (Or.inl ⟨rfl, gh_w 800 rfl rfl⟩)⟩⟩
set_option maxRecDepth 100000 in
theorem gh_h136 : gh_chkB 9 136 "same" 11 gk_136 = true := by decide +kernel
/-- all that is known of same -/
def gh_SOK : Prop := ∃ q, gh_yt[136]? = some q ∧ gh_yOK q ∧ q.2.2.2.2 = 1 ∧ q.2.2.2.1 = some .boolean ∧ q.1.cls = "TreeclerkLaw" ∧ q.1.name = "same" ∧ q.2.2.1 = 11 ∧ (∀ e ∈ gk_136, decode q.2.1 e.1 = .ok e.2) ∧ Cond.methodLink "TreeclerkLaw" 156 q.1 ∈ gh_wsG ∧ (parseMethodDescriptor q.1.desc).map (fun d => d.parameters.length) = some 4 ∧ (∀ e ∈ gh_mrt.getD 9 [], e.2.1 = 136 → e = (156, 136, 4))
set_option maxRecDepth 100000 in
theorem gh_S136 : gh_SOK := by
  obtain ⟨q, hq, hy⟩ := gh_y136
  have e : gh_yt[136]? = some _ := rfl
  cases Option.some.inj (e.symm.trans hq)
  exact ⟨_, rfl, hy, rfl, rfl, rfl, rfl, rfl, gh_d136, gh_w 799 rfl rfl, by decide +kernel, by decide +kernel⟩
/-- what a call costs: an exception that a helper may have caught -/
def gh_ct (μ : Nat) : Nat := if μ < 128 then 0 else if μ = 136 then 40 else 1
/-- a run of a body without handlers: n steps at most, b paid at most -/
def gh_ec (C : Nat → List Value → gh_H → Option (gh_O × gh_H)) (rt : Option FieldType) (K : List (Nat × Instr × Nat)) : Nat → Nat → Nat → gh_L → List Value → gh_H → Option (Option Value × gh_H)
  | 0, _, _, _, _, _ => none
  | n + 1, b, pc, l, st, G => match K.lookup pc with
    | none => none
    | some (i, len) => match gh_step true 9 rt pc i len l st G with
      | none => none
      | some (.inl (pc', l', st', G')) => gh_ec C rt K n b pc' l' st' G'
      | some (.inr (.inl (.inl v))) => some (v, G)
      | some (.inr (.inl (.inr _))) => none
      | some (.inr (.inr (μ, as, r))) => if b < gh_ct μ then none else match C μ as G with
        | some (.inl v, G') => gh_ec C rt K n (b - gh_ct μ) (pc + 3) l (v.toList ++ r) G'
        | _ => none
/-- a call of same: its body, paid for -/
def gh_sm (N d : Nat) (as : List Value) (G : gh_H) : Option (Option Value × gh_H) := if gh_cat as ≤ 11 then gh_ec (gh_cl true N d) (some .boolean) gk_136 N 40 0 (lv_args 0 as) [] G else none
/-- what the law calls -/
def gh_cw (N d μ : Nat) (as : List Value) (G : gh_H) : Option (gh_O × gh_H) := if μ = 136 then (gh_sm N d as G).map (fun q => (.inl q.1, q.2)) else gh_cl true N d μ as G
theorem gh_ec_mono {C : Nat → List Value → gh_H → Option (gh_O × gh_H)} {rt : Option FieldType} {K : List (Nat × Instr × Nat)} (hCm : ∀ μ as G o G', C μ as G = some (o, G') → G.length ≤ G'.length ∧ gh_sz G ≤ gh_sz G') :
    ∀ (n b pc : Nat) (l : gh_L) (st : List Value) (G : gh_H) (v : Option Value) (G' : gh_H), gh_ec C rt K n b pc l st G = some (v, G') → G.length ≤ G'.length ∧ gh_sz G ≤ gh_sz G' := by
  intro n
  induction n with
  | zero => intro b pc l st G o G' h; cases h
  | succ n ih =>
    intro b pc l st G o G' h
    rw [gh_ec] at h
    split at h
    · cases h
    · split at h
      · cases h
      · next pc1 l1 st1 G1 hs =>
        have h1 := gh_step_mono hs
        have h2 := ih _ _ _ _ _ _ _ h
        omega
      · cases h; omega
      · cases h
      · split at h
        · cases h
        · split at h
          · next v G1 hc =>
            have h1 := hCm _ _ _ _ _ hc
            have h2 := ih _ _ _ _ _ _ _ h
            omega
          · cases h
theorem gh_cw_mono {N d : Nat} (μ : Nat) (as : List Value) (G : gh_H) (o : gh_O) (G' : gh_H) (h : gh_cw N d μ as G = some (o, G')) : G.length ≤ G'.length ∧ gh_sz G ≤ gh_sz G' := by
  unfold gh_cw at h
  split at h
  · obtain ⟨q, hq, e⟩ := Option.map_eq_some_iff.mp h
    cases e
    unfold gh_sm at hq
    split at hq
    · exact gh_ec_mono (gh_cl_mono d) _ _ _ _ _ _ _ _ hq
    · cases hq
  · exact gh_cl_mono _ _ _ _ _ _ h
def gh_ConS (l : Launch) (z : gh_Z) (d : Nat) (q : MethodName × ByteArray × Nat × Option FieldType × Nat) (as : List Value) (G : gh_H) (v : Option Value) (G' : gh_H) : Prop :=
  vx_Met l q.1 (gh_wsY q) (gh_rm (d + 1) (G'.length - G.length + 40) (gh_sz G' - gh_sz G + 240)) (gh_Pre z true as G) (gh_Qo z (.inl v) G') (gh_Xo z (.inl v) G') (G'.length - G.length + 40) (gh_sz G' - gh_sz G + 240) (gh_A z)
section GH
variable {z : gh_Z} {p : Program} {l : Launch} {e : Env} {R : Room} {s : State} {m : MethodId} {args : Array Value} {below : List Frame} {meth : Method} {c : Code} {nL g0 z0 own : Nat} {cc : ByteArray} {nm : String}
theorem gh_bodyS {K : List (Nat × Instr × Nat)} {N d : Nat} {v : Option Value} {Gf : gh_H} (hC : gh_Cx z p s m args meth c 9 cc nL (some .boolean) nm) (hst : l.stackTraces = false) (hK : ∀ e ∈ K, decode cc e.1 = .ok e.2) (hchk : gh_chkB 9 136 nm nL K = true)
    (hR : R = gh_rm (d + 1) (Gf.length - g0 + 40) (gh_sz Gf - z0 + 240)) :
    ∀ (n b pc : Nat) (lo : gh_L) (st : List Value) (G : gh_H) (k0 y0 : Nat), gh_ec (gh_cl true N d) (some .boolean) K n b pc lo st G = some (v, Gf) → g0 ≤ G.length → z0 ≤ gh_sz G → k0 + b ≤ 40 → y0 + 6 * b ≤ 240 →
      gh_T z p l e R s m args below meth c nL g0 z0 (vx_MQ below (gh_Qo z (.inl v) Gf) (gh_Xo z (.inl v) Gf) args s (Gf.length - g0 + 40) (gh_sz Gf - z0 + 240) (gh_A z)) k0 y0 pc lo st G := by
  intro n
  induction n with
  | zero => intro b pc lo st G k0 y0 h; cases h
  | succ n ih =>
    intro b pc lo st G k0 y0 h hg hz hkb hyb
    have hfin := gh_ec_mono (gh_cl_mono d) _ _ _ _ _ _ _ _ h
    have hRc : R.cells = Gf.length - g0 + 40 := by rw [hR]; rfl
    have hRs : R.slots = gh_sz Gf - z0 + 240 := by rw [hR]; rfl
    have hRf : R.frames = 8 + (d + 1) := by rw [hR]; rfl
    have hRl : R.locals = 200 + 40 * (d + 1) := by rw [hR]; rfl
    rw [gh_ec] at h
    split at h
    · cases h
    · next i len hlk =>
      have hmem := gh_look hlk
      have hd := hK (pc, i, len) hmem
      obtain ⟨hlen, hput, hstP, hkn⟩ := gh_chk hchk hmem
      split at h
      · cases h
      · next pc1 lo1 st1 G1 hs =>
        have h1 := gh_step_mono hs
        have h2 := gh_ec_mono (gh_cl_mono d) _ _ _ _ _ _ _ _ h
        exact gh_stepT hC hd hlen hput hs (fun hf => nomatch hf) hg hz (by omega) (by omega) (by omega) (by omega) (by omega) (by omega) hstP (ih _ _ _ _ _ _ _ h (by omega) (by omega) hkb hyb)
      · next v1 hs =>
        cases h
        exact gh_T_widen (gh_retT (k0 := 40) (y0 := 240) hC hd hlen hs) (by omega) (by omega)
      · cases h
      · next μ as r hs =>
        obtain ⟨hl3, hμ⟩ := gh_call_len hs hlen hkn
        subst hl3
        split at h
        · cases h
        · next hb9 =>
          split at h
          · next w G1 hc =>
            have h1 := gh_cl_mono _ _ _ _ _ _ hc
            have h2 := gh_ec_mono (gh_cl_mono d) _ _ _ _ _ _ _ _ h
            by_cases hμ2 : μ < 128
            · have hct : gh_ct μ = 0 := if_pos hμ2
              rw [hct] at h hb9
              obtain ⟨q, m9, hq, -⟩ := gh_Mall μ hμ2
              refine gh_callW hC hd hkn hμ2 hs hq (gh_norm l hst z true N d μ as G _ G1 hμ2 hc q hq) (fun hf => nomatch hf) hg hz h1.1 h1.2 (by omega) (by omega) (by simp only [gh_th]; omega) (by simp only [gh_th]; omega) (fun w9 hw => ?_) (fun E hE => by cases hE)
              cases hw
              exact ih _ _ _ _ _ _ _ h (by omega) (by omega) (by omega) (by omega)
            · have hct : gh_ct μ = 1 := by unfold gh_ct; rw [if_neg hμ2, if_neg (by omega)]
              rw [hct] at h hb9
              exact gh_callH hC hst hd hkn (by omega) (by omega) hs hc hg hz (by omega) (by omega) (by omega) (by omega) (ih _ _ _ _ _ _ _ h (by omega) (by omega) (by omega) (by omega))
          · cases h
end GH
/-- same -/
theorem gh_same (l : Launch) (hst : l.stackTraces = false) (z : gh_Z) (N d : Nat) (as : List Value) (G : gh_H) (v : Option Value) (G' : gh_H) (h : gh_sm N d as G = some (v, G')) : ∀ q, gh_yt[136]? = some q → gh_ConS l z d q as G v G' := by
  intro q hq
  obtain ⟨q', hq', hY, hkd, hrt, hcls, hnm, hml9, hdec, -⟩ := gh_S136
  cases Option.some.inj (hq'.symm.trans hq)
  unfold gh_sm at h
  split at h
  · next hcat =>
    rw [← hml9] at hcat
    refine vx_ofW (cc := q.2.1) (maxL := q.2.2.1) (ret := q.2.2.2.1) hY.2.2.2.1 rfl ?_
    intro p e s m args below meth c s₁ B hml htab hv
    obtain ⟨rfl, hRel, hKB, hsz⟩ := hv
    have hts := atoms_spec (ws := gh_wsY q) B.pre
    have hC : gh_Cx z p s m (as.map (gh_em z)).toArray meth c 9 q.2.1 q.2.2.1 (some .boolean) q.1.name :=
      ⟨B.exec, B.bytes, hml, by rw [← hrt]; exact B.returns, B.notSynchronized, by rw [show gh_on 9 = q.1.cls from hcls.symm]; exact findClass_of_methodNamed B.named, fun w hw => hts w (List.mem_cons_of_mem _ hw), hKB, (name_of_methodNamed B.named B.method).1⟩
    have hl := lv_entry (as.map (gh_em z)) (n := q.2.2.1) (by rw [gh_sl_len]; exact hcat)
    rw [lg_entry_eq]
    generalize (lg_sl (as.map (gh_em z)) ++ List.replicate (q.2.2.1 - (lg_sl (as.map (gh_em z))).length) Slot.unset).toArray = ls at hl ⊢
    rw [gh_args_em] at hl
    have hrun := gh_bodyS (g0 := G.length) (z0 := gh_sz G) (e := e) (below := below) hC hst hdec (by rw [hnm, hml9]; exact gh_h136) (R := (headSpec (gh_wsY q) (gh_rm (d + 1) (G'.length - G.length + 40) (gh_sz G' - gh_sz G + 240))).room) rfl N 40 0 (lv_args 0 as) [] G 0 0 h (Nat.le_refl _) (Nat.le_refl _) (by omega) (by omega) s.heap [] ls hRel va_S.rf hl
    rw [Nat.sub_self, Nat.sub_self] at hrun
    exact hrun
  · cases h
section GL
variable {z : gh_Z} {p : Program} {l : Launch} {e : Env} {R : Room} {s : State} {m : MethodId} {args : Array Value} {below : List Frame} {meth : Method} {c : Code} {nL g0 z0 k0 y0 : Nat} {Q : State → Prop} {cc : ByteArray} {rt : Option FieldType} {nm : String} {pc : Nat} {lo : gh_L} {st : List Value} {G : gh_H}
set_option maxHeartbeats 1000000 in
/-- a call of same -/
theorem gh_callS (hC : gh_Cx z p s m args meth c 9 cc nL rt nm) (hst : l.stackTraces = false) {i : Instr} {N d top : Nat} {as r : List Value} {v : Option Value} {gK1 : gh_H} (hd : decode cc pc = .ok (i, 3)) (hkn : gh_knP 9 top i) (h : gh_step true 9 rt pc i 3 lo st G = some (.inr (.inr (136, as, r)))) (hc : gh_sm N d as G = some (v, gK1)) (hg : g0 ≤ G.length) (hz : z0 ≤ gh_sz G) (hfr : 8 + d + 2 ≤ R.frames) (hlo : 8 + (12 + 11) + (200 + 40 * (d + 1)) ≤ R.locals) (hcells : gK1.length - g0 + k0 + 40 ≤ R.cells) (hslots : gh_sz gK1 - z0 + y0 + 240 ≤ R.slots)
    (kret : gh_T z p l e R s m args below meth c nL g0 z0 Q (k0 + 40) (y0 + 240) (pc + 3) lo (v.toList ++ r) gK1) : gh_T z p l e R s m args below meth c nL g0 z0 Q k0 y0 pc lo st G := by
  have hm9 : G.length ≤ gK1.length ∧ gh_sz G ≤ gh_sz gK1 := gh_cw_mono (N := N) (d := d) 136 as G (.inl v) gK1 (by unfold gh_cw; rw [if_pos rfl, hc]; rfl)
  have hf1 : G.length - g0 + k0 + (gK1.length - G.length + 40) ≤ R.cells := by omega
  have hf2 : gh_sz G - z0 + y0 + (gh_sz gK1 - gh_sz G + 240) ≤ R.slots := by omega
  have hfr1 : 8 + (d + 1) + 1 ≤ R.frames := by omega
  obtain ⟨hx, hb, hml, -, -, hown, hts, hKB, -⟩ := hC
  obtain ⟨q, hq, hY, hkd, hrt, hcls, hnm, hml9, -, hlink, hpn, huniq⟩ := gh_S136
  have hCon := gh_same l hst z N d as G v gK1 hc q hq
  unfold gh_ConS at hCon
  intro H locs ls hR hS hl T hT X
  have hpre : ∀ U : State, U.heap = H → s.WarmedH U.vm → gh_Pre z true as G (as.map (gh_em z)).toArray U := by
    intro U hU hW
    exact ⟨rfl, by rw [hU]; exact hR, gh_KB_moved (locs := locs) hKB hW (by rw [hU]; exact hS), fun hf => nomatch hf⟩
  have hlen : ls.size = nL := hl.1
  have hA : ∀ q : Nat, q < H.size → gh_A z q → gh_A z q := fun _ _ h => h
  have fin : ∀ (idx n : Nat), gh_mR 9 idx = some (136, n) → i = .invokestatic idx → n ≤ st.length → gh_cat r ≤ 8 → as = (st.take n).reverse → r = st.drop n → ∃ t, Steps p.tables e below (T.setTop (F0 m pc ls (st.map (gh_em z)))) t ∧ Q t := by
    intro idx n hm1 hi hn hcat has hr
    subst hi
    have hu := huniq _ (gh_look hm1) rfl
    simp only [Prod.mk.injEq, true_and] at hu
    obtain ⟨rfl, rfl⟩ := hu
    obtain ⟨hst9, hal⟩ := gh_take_map hn has hr
    rcases hY.2.2.2.2.2 with ⟨h1, -⟩ | ⟨-, hstt⟩ | ⟨h1, -⟩
    · rw [hkd] at h1; cases h1
    · have cb := gh_callB (R := R) (own := 9) (mc := gK1.length - G.length + 40) (ms := gh_sz gK1 - gh_sz G + 240) (d := d + 1) (n := as.length) hts hY hlink (by rw [hal]; exact hpn) ⟨hfr1, by have := hY.2.2.2.2.1; omega⟩
      have hrun := vx_runS (p := p) (l := l) (e := e) (R := R) (s := s) (m := m) (args := args) (below := below) (meth := meth) (c := c) (H := H) (locs := locs) (cells := G.length - g0 + k0) (slots := gh_sz G - z0 + y0) (As := as.map (gh_em z)) (rest := r.map (gh_em z)) (g := F0 m pc ls (st.map (gh_em z))) ⟨hx, hb, hml, hown, hts⟩ hCon ⟨cb, hts _ hstt⟩ ⟨gh_Pre_blind z true _ G, hpre⟩ rfl (by rw [List.length_map]) hlen (by rw [hst9]; simp) (by rw [gh_es_cat]; exact (show 2 * 0 + gh_cat r ≤ 8 by omega)) hd ⟨hf1, hf2⟩
      rcases hrun T hT X with ⟨w, st₀, t, T', L, h0, X', hL, e1, e2, ⟨v0, ho, hv, hR1, hF⟩, st1⟩ | ⟨q9, st₀, t, T', L, E, ce, h0, X', hL, e1, e2, ⟨k9, ho, -⟩, -⟩
      · obtain ⟨k1, k2, k3⟩ := vx_keep h0 e1 hS hA (fun _ h => h) hL hF
        cases hv
        cases ho
        have X2 : Stand p l e R s m args below meth c T' (locs ++ L) (gK1.length - g0 + (k0 + 40)) (gh_sz gK1 - z0 + (y0 + 240)) := by
          have e5 : G.length - g0 + k0 + (gK1.length - G.length + 40) = gK1.length - g0 + (k0 + 40) := by omega
          have e6 : gh_sz G - z0 + y0 + (gh_sz gK1 - gh_sz G + 240) = gh_sz gK1 - z0 + (y0 + 240) := by omega
          rw [e5, e6] at X'
          exact X'
        obtain ⟨t2, b1, b2⟩ := kret T'.heap (locs ++ L) ls (by rw [e1]; exact hR1) k3 hl T' rfl X2
        refine ⟨t2, st1 t2 ?_, b2⟩
        have e7 : (v.map (gh_em z)).toList ++ r.map (gh_em z) = (v.toList ++ r).map (gh_em z) := by cases v <;> rfl
        show Steps p.tables e below (T'.setTop (F0 m (pc + 3) ls ((v.map (gh_em z)).toList ++ r.map (gh_em z)))) t2
        rw [e7]
        exact b1
      · cases ho
    · rw [hkd] at h1; cases h1
  cases i with
  | invokestatic idx =>
    simp only [gh_step] at h
    split at h
    · simp only [gh_mm, gh_go] at h
      (repeat' split at h) <;> cases h
    · split at h
      · simp only [gh_acopy, gh_go] at h
        (repeat' split at h) <;> cases h
      · obtain ⟨n, hm1, hn, hcat, has, hr⟩ := gh_call_inv h
        exact fin idx n hm1 rfl hn hcat has hr
  | invokevirtual idx =>
    exfalso
    simp only [gh_step] at h
    split at h
    · obtain ⟨n, hm1, -⟩ := gh_call_inv h
      have := (hkn 136 n hm1).1
      omega
    · cases h
  | invokespecial idx =>
    exfalso
    simp only [gh_step] at h
    split at h
    · (repeat' split at h) <;> cases h
    · split at h
      · obtain ⟨n, hm1, -⟩ := gh_call_inv h
        have := (hkn 136 n hm1).1
        omega
      · cases h
  | _ =>
    exfalso
    first
    | exact absurd (show (none : Option gh_R) = some (.inr (.inr (136, as, r))) from h) (by simp)
    | (simp only [gh_step, gh_go, gh_push, gh_pop1, gh_pop2, gh_bin, gh_binJ, gh_binD, gh_binZ, gh_jmp, gh_sw, gh_get, gh_put, gh_ald, gh_ast, gh_len, gh_newa, gh_new, gh_ret] at h
       repeat' split at h
       all_goals cases h)
end GL
section GL
variable {z : gh_Z} {p : Program} {l : Launch} {e : Env} {R : Room} {s : State} {m : MethodId} {args : Array Value} {below : List Frame} {meth : Method} {c : Code} {nL g0 z0 k0 y0 : Nat} {Q : State → Prop} {cc : ByteArray} {rt : Option FieldType} {nm : String} {pc : Nat} {lo : gh_L} {st : List Value} {G : gh_H}
theorem gh_retI_inv {pc len : Nat} {i : Instr} {fz : Bool} {x : Int32} (h : gh_step fz 9 (some .boolean) pc i len lo st G = some (.inr (.inl (.inl (some (.int x)))))) : i = .ireturn ∧ st = [.int x] := by
  cases i with
  | ireturn =>
    obtain ⟨v, ty, rfl, -, -, -, ho⟩ := gh_ret_inv h
    cases ho
    exact ⟨rfl, rfl⟩
  | _ =>
    exfalso
    first
    | exact absurd (show (none : Option gh_R) = some (.inr (.inl (.inl (some (.int x))))) from h) (by simp)
    | (simp only [gh_step, gh_go, gh_push, gh_pop1, gh_pop2, gh_bin, gh_binJ, gh_binD, gh_binZ, gh_jmp, gh_sw, gh_get, gh_put, gh_ald, gh_ast, gh_len, gh_newa, gh_new, gh_ret, gh_call, gh_mm, gh_acopy] at h
       repeat' split at h
       all_goals first | cases h | (simp_all [gh_isJ, gh_isA, gh_isO]; done))
/-- the law's body in the world that is made -/
theorem gh_bodyL {b9 N d : Nat} {gKf : gh_H} (hC : gh_Cx z p s m #[Value.ref b9] meth c 9 code 15 (some .boolean) nm) (hst : l.stackTraces = false) (hnm : nm = "law") (hbase : z.2.2.2.1 = s.heap.size) (hd1 : d ≤ 2000) :
    ∀ (n b pc : Nat) (lo : gh_L) (st : List Value) (G : gh_H) (k0 y0 : Nat), gh_ec (gh_cw N d) (some .boolean) gk_law n b pc lo st G = some (some (.int 1), gKf) → g0 ≤ G.length → z0 ≤ gh_sz G → gKf.length - g0 + k0 + b ≤ 620120 → gh_sz gKf - z0 + y0 + 6 * b ≤ 7241264 →
      gh_T z p l e room_1 s m #[Value.ref b9] below meth c 15 g0 z0 (lw_Z below #[Value.ref b9] s) k0 y0 pc lo st G := by
  intro n
  induction n with
  | zero => intro b pc lo st G k0 y0 h; cases h
  | succ n ih =>
    intro b pc lo st G k0 y0 h hg hz hkc hks
    have hfin := gh_ec_mono gh_cw_mono _ _ _ _ _ _ _ _ h
    have hRc : room_1.cells = 620120 := rfl
    have hRs : room_1.slots = 7241264 := rfl
    have hRf : room_1.frames = 2048 := rfl
    have hRl : room_1.locals = 84000 := rfl
    rw [gh_ec] at h
    split at h
    · cases h
    · next i len hlk =>
      have hmem := gh_look hlk
      have hd := gh_lwD (pc, i, len) hmem
      obtain ⟨hlen, hput, hstP, hkn⟩ := gh_chk gh_lwC hmem
      rw [← hnm] at hput
      split at h
      · cases h
      · next pc1 lo1 st1 gK1 hs =>
        have h1 := gh_step_mono hs
        have h2 := gh_ec_mono gh_cw_mono _ _ _ _ _ _ _ _ h
        exact gh_stepT hC hd hlen hput hs (fun hf => nomatch hf) hg hz (by omega) (by omega) (by omega) (by omega) (by omega) (by omega) hstP (ih _ _ _ _ _ _ _ h (by omega) (by omega) (by omega) (by omega))
      · next v1 hs =>
        cases h
        obtain ⟨rfl, rfl⟩ := gh_retI_inv hs
        obtain rfl : len = 1 := hlen
        intro H locs ls hR hS hl
        refine W.widen (k := 620120) (n := 7241264) (by omega) (by omega) ?_
        exact va_forget (fun q hq => by have := hS.2.2 q hq; unfold gh_A at this; omega) (lw_ret hC.1 hC.2.1 hC.2.2.2.1 hC.2.2.2.2.1 hd)
      · cases h
      · next μ as r hs =>
        obtain ⟨hl3, hμ⟩ := gh_call_len hs hlen hkn
        subst hl3
        split at h
        · cases h
        · next hb9 =>
          split at h
          · next v gK1 hc =>
            have h1 := gh_cw_mono _ _ _ _ _ hc
            have h2 := gh_ec_mono gh_cw_mono _ _ _ _ _ _ _ _ h
            by_cases hμ2 : μ < 128
            · have hct : gh_ct μ = 0 := if_pos hμ2
              rw [hct] at h hb9
              have hc' : gh_cl true N d μ as G = some (.inl v, gK1) := by
                unfold gh_cw at hc
                rw [if_neg (by omega)] at hc
                exact hc
              obtain ⟨q, m9, hq, -⟩ := gh_Mall μ hμ2
              refine gh_callW hC hd hkn hμ2 hs hq (gh_norm l hst z true N d μ as G _ gK1 hμ2 hc' q hq) (fun hf => nomatch hf) hg hz h1.1 h1.2 (by omega) (by omega) (by simp only [gh_th]; omega) (by simp only [gh_th]; omega) (fun w9 hw => ?_) (fun E hE => by cases hE)
              cases hw
              exact ih _ _ _ _ _ _ _ h (by omega) (by omega) (by omega) (by omega)
            · by_cases hμ3 : μ = 136
              · subst hμ3
                have hct : gh_ct 136 = 40 := rfl
                rw [hct] at h hb9
                have hc' : gh_sm N d as G = some (v, gK1) := by
                  unfold gh_cw at hc
                  rw [if_pos rfl] at hc
                  obtain ⟨w, hw, ew⟩ := Option.map_eq_some_iff.mp hc
                  cases ew
                  exact hw
                exact gh_callS hC hst hd hkn hs hc' hg hz (by omega) (by omega) (by omega) (by omega) (ih _ _ _ _ _ _ _ h (by omega) (by omega) (by omega) (by omega))
              · have hct : gh_ct μ = 1 := by unfold gh_ct; rw [if_neg hμ2, if_neg hμ3]
                rw [hct] at h hb9
                have hc' : gh_cl true N d μ as G = some (.inl v, gK1) := by
                  unfold gh_cw at hc
                  rw [if_neg hμ3] at hc
                  exact hc
                exact gh_callH hC hst hd hkn (by omega) (by omega) hs hc' hg hz (by omega) (by omega) (by omega) (by omega) (ih _ _ _ _ _ _ _ h (by omega) (by omega) (by omega) (by omega))
          · cases h
end GL
