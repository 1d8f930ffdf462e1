/-! EVERY PLAIN METHOD KEEPS ITS CONTRACT AT EVERY GHOST RUN, closed -/
section GN
variable {z : gh_Z} {p : Program} {l : Launch} {e : Env} {R : Room} {s : State} {m : MethodId} {args : Array Value} {below : List Frame} {meth : Method} {c : Code} {nL g0 z0 own : Nat} {cc : ByteArray} {rt : Option FieldType} {nm : String}
/-- how a ghost step ends a method: a return, or a throw -/
theorem gh_end_inv {pc len : Nat} {i : Instr} {fz : Bool} {lo : gh_L} {st : List Value} {G : gh_H} {E : Nat} (h : gh_step fz own rt pc i len lo st G = some (.inr (.inl (.inr E)))) : ∃ ik, i = .new ik := by
  cases i with
  | new ik => exact ⟨ik, rfl⟩
  | _ =>
    exfalso
    first
    | exact absurd (show (none : Option gh_R) = some (.inr (.inl (.inr E))) from h) (by simp)
    | (simp only [gh_step, gh_go, gh_push, gh_pop1, gh_pop2, gh_bin, gh_binJ, gh_binD, gh_binZ, gh_jmp, gh_sw, gh_get, gh_put, gh_ald, gh_ast, gh_len, gh_newa, gh_new, gh_ret, gh_call, gh_mm, gh_acopy] at h
       repeat' split at h
       all_goals cases h)
theorem gh_call_len {pc len : Nat} {i : Instr} {fz : Bool} {lo : gh_L} {st : List Value} {G : gh_H} {μ : Nat} {as r : List Value} (h : gh_step fz own rt pc i len lo st G = some (.inr (.inr (μ, as, r)))) (hlen : gh_lenP i len) {top : Nat} (hkn : gh_knP own top i) : len = 3 ∧ μ < max top 128 := by
  cases i with
  | invokevirtual idx =>
    refine ⟨hlen, ?_⟩
    simp only [gh_step] at h
    split at h
    · obtain ⟨n, hm, -⟩ := gh_call_inv h
      have := (hkn μ n hm).1
      omega
    · cases h
  | invokestatic idx =>
    refine ⟨hlen, ?_⟩
    simp only [gh_step] at h
    split at h
    · simp only [gh_mm, gh_go] at h
      (repeat' split at h) <;> cases h
    · split at h
      · simp only [gh_acopy, gh_go] at h
        (repeat' split at h) <;> cases h
      · obtain ⟨n, hm, -⟩ := gh_call_inv h
        have := (hkn μ n hm).1
        omega
  | invokespecial idx =>
    refine ⟨hlen, ?_⟩
    simp only [gh_step] at h
    split at h
    · (repeat' split at h) <;> cases h
    · split at h
      · obtain ⟨n, hm, -⟩ := gh_call_inv h
        have := (hkn μ n hm).1
        omega
      · cases h
  | _ =>
    exfalso
    first
    | exact absurd (show (none : Option gh_R) = some (.inr (.inr (μ, as, r))) from h) (by simp)
    | (simp only [gh_step, gh_go, gh_push, gh_pop1, gh_pop2, gh_bin, gh_binJ, gh_binD, gh_binZ, gh_jmp, gh_sw, gh_get, gh_put, gh_ald, gh_ast, gh_len, gh_newa, gh_new, gh_ret] at h
       repeat' split at h
       all_goals cases h)
/-- the body of a plain method, from any place -/
theorem gh_bodyN {fz : Bool} {C : Nat → List Value → gh_H → Option (gh_O × gh_H)} {hnd : Nat → Nat → Option (Nat × Nat)} {K : List (Nat × Instr × Nat)} {d : Nat} {o : gh_O} {Gf : gh_H} (hC : gh_Cx z p s m args meth c own cc nL rt nm) (hst : l.stackTraces = false) (htab : ∀ x ∈ c.exceptionTable.toList, False) (hK : ∀ e ∈ K, decode cc e.1 = .ok e.2) (hthr : gh_thrB own K = true) (hchk : gh_chkB own 128 nm nL K = true) (hn : ∀ pc E, hnd pc E = none)
    (hCm : ∀ μ as G o G', C μ as G = some (o, G') → G.length ≤ G'.length ∧ gh_sz G ≤ gh_sz G') (hCon : ∀ μ as G o G', μ < 128 → C μ as G = some (o, G') → ∀ q, gh_yt[μ]? = some q → gh_Con l z fz d q as G o G')
    (he0 : fz = false → s.heap.size + 1 = z.2.2.2.1 + g0) (hR : R = gh_rm (d + 1) (Gf.length - g0 + gh_th o) (gh_sz Gf - z0 + 6 * gh_th o)) :
    ∀ (n pc : Nat) (lo : gh_L) (st : List Value) (G : gh_H), gh_ex fz C own rt hnd K n pc lo st G = some (o, Gf) → g0 ≤ G.length → z0 ≤ gh_sz G →
      gh_T z p l e R s m args below meth c nL g0 z0 (vx_MQ below (gh_Qo z o Gf) (gh_Xo z o Gf) args s (Gf.length - g0 + gh_th o) (gh_sz Gf - z0 + 6 * gh_th o) (gh_A z)) 0 0 pc lo st G := by
  intro n
  induction n with
  | zero => intro pc lo st G h; cases h
  | succ n ih =>
    intro pc lo st G h hg hz
    have hfin := gh_ex_mono hCm _ _ _ _ _ _ _ h
    have hRc : R.cells = Gf.length - g0 + gh_th o := by rw [hR]; rfl
    have hRs : R.slots = gh_sz Gf - z0 + 6 * gh_th o := by rw [hR]; rfl
    have hRf : R.frames = 8 + (d + 1) := by rw [hR]; rfl
    have hRl : R.locals = 200 + 40 * (d + 1) := by rw [hR]; rfl
    rw [gh_ex] at h
    split at h
    · cases h
    · next i len hlk =>
      have hmem := gh_look hlk
      have hd := hK (pc, i, len) hmem
      obtain ⟨hlen, hput, hstP, hkn⟩ := gh_chk hchk hmem
      split at h
      · cases h
      · next pc1 lo1 st1 G1 hs =>
        have h1 := gh_step_mono hs
        have h2 := gh_ex_mono hCm _ _ _ _ _ _ _ h
        exact gh_stepT hC hd hlen hput hs (fun hf => ⟨he0 hf, rfl, rfl⟩) hg hz (by omega) (by omega) (by omega) (by omega) (by omega) (by omega) hstP (ih _ _ _ _ h (by omega) (by omega))
      · next o1 hs =>
        cases h
        cases o with
        | inl v => exact gh_retT hC hd hlen hs
        | inr E =>
          obtain ⟨ik, rfl⟩ := gh_end_inv hs
          exact gh_thrT hC hst htab hK hthr hmem hlen hs (by omega) (by omega) (by rw [hRc]; exact Nat.le_refl _) (by rw [hRs]; exact Nat.le_refl _)
      · next μ as r hs =>
        obtain ⟨hl3, hμ⟩ := gh_call_len hs hlen hkn
        subst hl3
        have hμ : μ < 128 := by omega
        obtain ⟨q, m9, hq, -⟩ := gh_Mall μ hμ
        split at h
        · cases h
        · next v G1 hc =>
          have h1 := hCm _ _ _ _ _ hc
          have h2 := gh_ex_mono hCm _ _ _ _ _ _ _ h
          refine gh_callW hC hd hkn hμ hs hq (hCon μ as G _ G1 hμ hc q hq) (fun hf => ⟨he0 hf, rfl⟩) hg hz h1.1 h1.2 (by omega) (by omega) (by simp only [gh_th]; omega) (by simp only [gh_th]; omega) (fun w hw => ?_) (fun E hE => nomatch hE)
          cases hw
          exact ih _ _ _ _ h (by omega) (by omega)
        · next E G1 hc =>
          rw [hn] at h
          cases h
          have h1 := hCm _ _ _ _ _ hc
          refine gh_callW hC hd hkn hμ hs hq (hCon μ as G _ Gf hμ hc q hq) (fun hf => ⟨he0 hf, rfl⟩) hg hz h1.1 h1.2 (by omega) (by omega) (by rw [hRc]; exact Nat.le_refl _) (by rw [hRs]; exact Nat.le_refl _) (fun w hw => by cases hw) (fun E' hE H1 locs1 ls q9 ce a1 a2 a3 a4 a5 a6 => ?_)
          cases hE
          exact vx_out (fun x hx => (htab x hx).elim) hC.2.2.2.2.1 a3 a4 a5 (fun t ht _ => ⟨_, rfl, rfl, by rw [ht]; exact a1, a2.F ht⟩) a2.2.2 (Nat.le_refl _) (Nat.le_refl _)
end GN
/-- all plain methods -/
theorem gh_norm (l : Launch) (hst : l.stackTraces = false) (z : gh_Z) (fz : Bool) (N : Nat) : ∀ (d μ : Nat) (as : List Value) (G : gh_H) (o : gh_O) (G' : gh_H), μ < 128 → gh_cl fz N d μ as G = some (o, G') → ∀ q, gh_yt[μ]? = some q → gh_Con l z fz d q as G o G' := by
  intro d
  induction d with
  | zero => intro μ as G o G' _ h; cases h
  | succ d ih =>
    intro μ as G o G' hμ h q hq
    obtain ⟨q', m9, hq', hm9, hY, hKO, hnd⟩ := gh_Mall μ hμ
    cases Option.some.inj (hq'.symm.trans hq)
    obtain ⟨q', m', hq', hm', hchk⟩ := gh_Hall μ hμ
    cases Option.some.inj (hq'.symm.trans hq)
    cases Option.some.inj (hm'.symm.trans hm9)
    obtain ⟨o9, -, hml9, -⟩ := gh_moK hμ hq
    rw [gh_cl, hm9] at h
    obtain ⟨own, rt, hnd9, K⟩ := m9
    dsimp only at h hnd hchk
    split at h
    · next hcat =>
      rw [hml9] at hcat
      obtain ⟨hdec, hrt, hon, hthr⟩ := hKO
      dsimp only at hdec hrt hon hthr
      have hmono := gh_ex_mono (gh_cl_mono d) _ _ _ _ _ _ _ h
      refine vx_ofW (cc := q.2.1) (maxL := q.2.2.1) (ret := q.2.2.2.1) hY.2.2.2.1 rfl ?_
      intro p e s m args below meth c s₁ B hml htab hv
      obtain ⟨rfl, hRel, hKB, hsz⟩ := hv
      have hts := atoms_spec (ws := gh_wsY q) B.pre
      have hC : gh_Cx z p s m (as.map (gh_em z)).toArray meth c own q.2.1 q.2.2.1 rt q.1.name :=
        ⟨B.exec, B.bytes, hml, by rw [hrt]; exact B.returns, B.notSynchronized, by rw [hon]; exact findClass_of_methodNamed B.named, fun w hw => hts w (List.mem_cons_of_mem _ hw), hKB, (name_of_methodNamed B.named B.method).1⟩
      have hl := lv_entry (as.map (gh_em z)) (n := q.2.2.1) (by rw [gh_sl_len]; exact hcat)
      rw [lg_entry_eq]
      generalize (lg_sl (as.map (gh_em z)) ++ List.replicate (q.2.2.1 - (lg_sl (as.map (gh_em z))).length) Slot.unset).toArray = ls at hl ⊢
      rw [gh_args_em] at hl
      have hrun := gh_bodyN (g0 := G.length) (z0 := gh_sz G) (e := e) (below := below) hC hst htab hdec hthr hchk hnd (gh_cl_mono d) (fun μ as G o G' a b => ih μ as G o G' a b) (fun hf => hsz hf) (R := (headSpec (gh_wsY q) (gh_rm (d + 1) (gh_mc G G' o) (gh_ms G G' o))).room) rfl N 0 (lv_args 0 as) [] G h (Nat.le_refl _) (Nat.le_refl _) s.heap [] ls hRel va_S.rf hl
      rw [Nat.sub_self, Nat.sub_self] at hrun
      exact hrun
    · cases h
