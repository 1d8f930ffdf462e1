section GL
variable {z : gh_Z} {p : Program} {l : Launch} {e : Env} {R : Room} {s : State} {m : MethodId} {args : Array Value} {below : List Frame} {meth : Method} {c : Code} {nL g0 z0 k0 y0 : Nat} {Q : State → Prop} {cc : ByteArray} {rt : Option FieldType} {nm : String} {pc : Nat} {lo : gh_L} {st : List Value} {G : gh_H}
set_option maxHeartbeats 1000000 in
/-- a call of a helper -/
theorem gh_callH (hC : gh_Cx z p s m args meth c 9 cc nL rt nm) (hst : l.stackTraces = false) {i : Instr} {N d top μ : Nat} {as r : List Value} {v : Option Value} {gK1 : gh_H} (hd : decode cc pc = .ok (i, 3)) (hkn : gh_knP 9 top i) (h1 : 128 ≤ μ) (h2 : μ < 136) (h : gh_step true 9 rt pc i 3 lo st G = some (.inr (.inr (μ, as, r)))) (hc : gh_cl true N d μ as G = some (.inl v, gK1)) (hg : g0 ≤ G.length) (hz : z0 ≤ gh_sz G) (hfr : 8 + d + 1 ≤ R.frames) (hlo : 8 + (12 + 11) + (200 + 40 * d) ≤ R.locals) (hcells : gK1.length - g0 + k0 + 1 ≤ R.cells) (hslots : gh_sz gK1 - z0 + y0 + 6 ≤ R.slots)
    (kret : gh_T z p l e R s m args below meth c nL g0 z0 Q (k0 + 1) (y0 + 6) (pc + 3) lo (v.toList ++ r) gK1) : gh_T z p l e R s m args below meth c nL g0 z0 Q k0 y0 pc lo st G := by
  have hm9 := gh_cl_mono _ _ _ _ _ _ hc
  obtain ⟨hx, hb, hml, -, -, hown, hts, hKB, -⟩ := hC
  obtain ⟨q, m9, hh, hq, hm, hho, -, -, -, -, hcls, -, hB, -, idx9, n9, -, hlink, hpn, huniq⟩ := gh_Xall μ h1 h2
  have hCon := gh_help l hst z N d μ as G v gK1 h1 h2 hc q hh hq hho (fun m hm' => by cases Option.some.inj (hm.symm.trans hm'); exact hB)
  intro H locs ls hR hS hl T hT X
  have hpre : ∀ U : State, U.heap = H → s.WarmedH U.vm → gh_Pre z true as G (as.map (gh_em z)).toArray U := by
    intro U hU hW
    exact ⟨rfl, by rw [hU]; exact hR, gh_KB_moved (locs := locs) hKB hW (by rw [hU]; exact hS), fun hf => nomatch hf⟩
  have hlen : ls.size = nL := hl.1
  have hA : ∀ q : Nat, q < H.size → gh_A z q → gh_A z q := fun _ _ h => h
  have fin : ∀ (idx n : Nat), gh_mR 9 idx = some (μ, n) → i = .invokestatic idx → n ≤ st.length → gh_cat r ≤ 8 → as = (st.take n).reverse → r = st.drop n → ∃ t, Steps p.tables e below (T.setTop (F0 m pc ls (st.map (gh_em z)))) t ∧ Q t := by
    intro idx n hm1 hi hn hcat has hr
    subst hi
    have hu := huniq _ (gh_look hm1) rfl
    obtain ⟨rfl, rfl⟩ : idx = idx9 ∧ n = n9 := by simpa using hu
    obtain ⟨hst9, hal⟩ := gh_take_map hn has hr
    have cw : vx_CSW R s args "TreeclerkLaw" idx q.1 q.2.1 q.2.2.1 q.2.2.2.1 hh (gh_wsH q hh) (gh_rm d (gK1.length - G.length + 1) (gh_sz gK1 - gh_sz G + 6)) (gK1.length - G.length + 1) (gh_sz gK1 - gh_sz G + 6) as.length := by
      refine vx_cwSW (Ts := gh_wsG) (ws' := gh_wsG) as.length hts (fun w hw => ?_) rfl rfl rfl ⟨hho.2.2.1.1, hho.2.2.1.2, by rw [hal]; exact hpn⟩ ⟨hfr, by have := hho.2.2.2.2.1; show 8 + (q.2.2.1 + 11) + (200 + 40 * d) ≤ _; omega⟩
      unfold va_wsS gh_wsH at hw
      simp only [List.mem_append, List.mem_cons, List.not_mem_nil, or_false] at hw
      rcases hw with (rfl | rfl | rfl) | rfl | hw
      · exact gh_goodIn _ hlink
      · exact gh_goodIn _ hho.2.2.2.2.2
      · exact gh_goodIn _ hho.2.1
      · exact gh_goodIn _ hho.1
      · exact gh_goodIn _ hw
    have hrun := vx_runSX (p := p) (l := l) (e := e) (R := R) (s := s) (m := m) (args := args) (below := below) (meth := meth) (c := c) (H := H) (locs := locs) (cells := G.length - g0 + k0) (slots := gh_sz G - z0 + y0) (As := as.map (gh_em z)) (rest := r.map (gh_em z)) (g := F0 m pc ls (st.map (gh_em z))) ⟨hx, hb, hml, hown, hts⟩ hCon cw ⟨gh_Pre_blind z true _ G, hpre⟩ rfl (by rw [List.length_map]) hlen (by rw [hst9]; simp) (by rw [gh_es_cat]; exact (show 2 * 0 + gh_cat r ≤ 8 by omega)) hd ⟨by omega, by omega⟩
    rcases hrun T hT X with ⟨w, st₀, t, T', L, h0, X', hL, e1, e2, ⟨v0, ho, hv, hR1, hF⟩, st1⟩ | ⟨q9, st₀, t, T', L, E, ce, h0, X', hL, e1, e2, ⟨k9, ho, -⟩, -⟩
    · obtain ⟨k1, k2, k3⟩ := vx_keep h0 e1 hS hA (fun _ h => h) hL hF
      cases hv
      cases ho
      have X2 : Stand p l e R s m args below meth c T' (locs ++ L) (gK1.length - g0 + (k0 + 1)) (gh_sz gK1 - z0 + (y0 + 6)) := by
        have e5 : G.length - g0 + k0 + (gK1.length - G.length + 1) = gK1.length - g0 + (k0 + 1) := by omega
        have e6 : gh_sz G - z0 + y0 + (gh_sz gK1 - gh_sz G + 6) = gh_sz gK1 - z0 + (y0 + 6) := by omega
        rw [e5, e6] at X'
        exact X'
      obtain ⟨t2, b1, b2⟩ := kret T'.heap (locs ++ L) ls (by rw [e1]; exact hR1) k3 hl T' rfl X2
      refine ⟨t2, st1 t2 ?_, b2⟩
      have e7 : (v.map (gh_em z)).toList ++ r.map (gh_em z) = (v.toList ++ r).map (gh_em z) := by cases v <;> rfl
      show Steps p.tables e below (T'.setTop (F0 m (pc + 3) ls ((v.map (gh_em z)).toList ++ r.map (gh_em z)))) t2
      rw [e7]
      exact b1
    · cases ho
  cases i with
  | invokestatic idx =>
    simp only [gh_step] at h
    split at h
    · simp only [gh_mm, gh_go] at h
      (repeat' split at h) <;> cases h
    · split at h
      · simp only [gh_acopy, gh_go] at h
        (repeat' split at h) <;> cases h
      · obtain ⟨n, hm1, hn, hcat, has, hr⟩ := gh_call_inv h
        exact fin idx n hm1 rfl hn hcat has hr
  | invokevirtual idx =>
    exfalso
    simp only [gh_step] at h
    split at h
    · obtain ⟨n, hm1, -⟩ := gh_call_inv h
      have := (hkn μ n hm1).1
      omega
    · cases h
  | invokespecial idx =>
    exfalso
    simp only [gh_step] at h
    split at h
    · (repeat' split at h) <;> cases h
    · split at h
      · obtain ⟨n, hm1, -⟩ := gh_call_inv h
        have := (hkn μ n hm1).1
        omega
      · cases h
  | _ =>
    exfalso
    first
    | exact absurd (show (none : Option gh_R) = some (.inr (.inr (μ, as, r))) from h) (by simp)
    | (simp only [gh_step, gh_go, gh_push, gh_pop1, gh_pop2, gh_bin, gh_binJ, gh_binD, gh_binZ, gh_jmp, gh_sw, gh_get, gh_put, gh_ald, gh_ast, gh_len, gh_newa, gh_new, gh_ret] at h
       repeat' split at h
       all_goals cases h)
end GL
