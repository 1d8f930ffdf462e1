/-! THE LAW's HELPERS keep their contracts -/
theorem gh_xlt (own : Nat) (e : Nat × Nat) (h : e ∈ gh_xrt.getD own []) : e.2 < 4 := by
  have h1 : ∀ L ∈ gh_xrt, ∀ e ∈ L, e.2 < 4 := by decide
  rw [List.getD_eq_getElem?_getD] at h
  cases hL : gh_xrt[own]? with
  | none => rw [hL] at h; cases h
  | some L =>
    rw [hL] at h
    exact h1 L (List.mem_of_getElem? hL) e h
theorem gh_ex_E {fz : Bool} {C : Nat → List Value → gh_H → Option (gh_O × gh_H)} {own : Nat} {rt : Option FieldType} {hnd : Nat → Nat → Option (Nat × Nat)} {K : List (Nat × Instr × Nat)} (hCe : ∀ μ as G E G', C μ as G = some (.inr E, G') → E < 4) :
    ∀ (n pc : Nat) (lo : gh_L) (st : List Value) (G : gh_H) (E : Nat) (G' : gh_H), gh_ex fz C own rt hnd K n pc lo st G = some (.inr E, G') → E < 4 := by
  intro n
  induction n with
  | zero => intro pc lo st G E G' h; cases h
  | succ n ih =>
    intro pc lo st G E G' h
    rw [gh_ex] at h
    split at h
    · cases h
    · split at h
      · cases h
      · exact ih _ _ _ _ _ _ h
      · next o1 hs =>
        cases h
        obtain ⟨ik, rfl⟩ := gh_end_inv hs
        have hs : gh_new fz own ik pc lo st G = some (.inr (.inl (.inr E))) := hs
        unfold gh_new at hs
        split at hs
        · next E' hx =>
          split at hs
          · cases hs
            exact gh_xlt own _ (gh_look hx)
          · cases hs
        · split at hs
          · split at hs
            · simp only [gh_go] at hs; cases hs
            · cases hs
          · cases hs
      · split at h
        · cases h
        · exact ih _ _ _ _ _ _ h
        · next E1 G1 hc =>
          split at h
          · cases h
            exact hCe _ _ _ _ _ hc
          · exact ih _ _ _ _ _ _ h
theorem gh_cl_E {fz : Bool} {N : Nat} : ∀ (d μ : Nat) (as : List Value) (G : gh_H) (E : Nat) (G' : gh_H), gh_cl fz N d μ as G = some (.inr E, G') → E < 4 := by
  intro d
  induction d with
  | zero => intro μ as G E G' h; cases h
  | succ d ih =>
    intro μ as G E G' h
    rw [gh_cl] at h
    split at h
    · split at h
      · exact gh_ex_E ih _ _ _ _ _ _ _ h
      · cases h
    · cases h
def gh_wsH (q : MethodName × ByteArray × Nat × Option FieldType × Nat) (hh : List (Nat × Nat × Nat × Nat)) : List Cond := Cond.codeWith q.1 q.2.1 q.2.2.1 q.2.2.2.1 hh :: gh_wsG
def gh_ConH (l : Launch) (z : gh_Z) (d : Nat) (q : MethodName × ByteArray × Nat × Option FieldType × Nat) (hh : List (Nat × Nat × Nat × Nat)) (as : List Value) (G : gh_H) (v : Option Value) (G' : gh_H) : Prop :=
  vx_Met l q.1 (gh_wsH q hh) (gh_rm d (G'.length - G.length + 1) (gh_sz G' - gh_sz G + 6)) (gh_Pre z true as G) (gh_Qo z (.inl v) G') (gh_Xo z (.inl v) G') (G'.length - G.length + 1) (gh_sz G' - gh_sz G + 6) (gh_A z)
section GH
variable {z : gh_Z} {p : Program} {l : Launch} {e : Env} {R : Room} {s : State} {m : MethodId} {args : Array Value} {below : List Frame} {meth : Method} {c : Code} {nL g0 z0 k0 y0 own : Nat} {Q : State → Prop} {cc : ByteArray} {rt : Option FieldType} {nm : String}
theorem gh_T_widen {k1 y1 pc : Nat} {lo : gh_L} {st : List Value} {G : gh_H} (h : gh_T z p l e R s m args below meth c nL g0 z0 Q k1 y1 pc lo st G) (h1 : k0 ≤ k1) (h2 : y0 ≤ y1) : gh_T z p l e R s m args below meth c nL g0 z0 Q k0 y0 pc lo st G :=
  fun H locs ls hR hS hl => W.widen (by omega) (by omega) (h H locs ls hR hS hl)
theorem gh_lm_filter (z : gh_Z) (lo : gh_L) (k : Nat) : gh_lm z (lo.filter (fun q => !(q.1 == k) && !(q.1 + 1 == k && q.2.category == 2))) = (gh_lm z lo).filter (fun q => !(q.1 == k) && !(q.1 + 1 == k && q.2.category == 2)) := by
  unfold gh_lm
  rw [List.filter_map]
  congr 1
  exact List.filter_congr fun q _ => by simp [Function.comp, gh_em_cat]
theorem gh_lm_drop {z : gh_Z} {ls : Array Slot} {lo : gh_L} {k : Nat} {v : Value} (h : lv_has ls nL ((k, v) :: (gh_lm z lo).filter (fun q => !(q.1 == k) && !(q.1 + 1 == k && q.2.category == 2)))) : lv_has ls nL (gh_lm z (lo.filter (fun q => !(q.1 == k) && !(q.1 + 1 == k && q.2.category == 2)))) :=
  ⟨h.1, h.2.1, fun q hq => h.2.2 q (List.mem_cons_of_mem _ (by rw [gh_lm_filter] at hq; exact hq))⟩
/-- an exception caught -/
theorem gh_catchT {hnd : Nat → Nat → Option (Nat × Nat)} {hh : List (Nat × Nat × Nat × Nat)} {K : List (Nat × Instr × Nat)} (hC : gh_Cx z p s m args meth c 9 cc nL rt nm) (hcls : gh_on 9 = "TreeclerkLaw") (htab : c.exceptionTable.toList = tableOf hh) (hK : ∀ e ∈ K, decode cc e.1 = .ok e.2) (hB : gh_hB nL hnd hh K = true) {pc pc' k E : Nat} {i : Instr} {len : Nat} (hmem : (pc, i, len) ∈ K) (hE : E < 4) (hnd9 : hnd pc E = some (pc', k))
    {lo : gh_L} {G : gh_H} {r : List Value} {k1 y1 : Nat}
    (kk : gh_T z p l e R s m args below meth c nL g0 z0 Q k1 y1 pc' (lo.filter (fun q => !(q.1 == k) && !(q.1 + 1 == k && q.2.category == 2))) [] G) {H1 : Heap} {locs1 : List Loc} {ls : Array Slot} {q9 : Addr} {ce : Cell} (a1 : gh_Rel z G H1) (a2 : va_S (gh_A z) s.heap H1 locs1) (a3 : H1[q9]? = some ce) (a4 : ce.vm = .none) (a5 : s.vm.findClass (gh_es E) = some ce.cls) (a6 : lv_has ls nL (gh_lm z lo)) :
    vx_W p l e R s m args below meth c H1 locs1 (G.length - g0 + k1) (gh_sz G - z0 + y1) Q (F0 m pc ls r) q9 := by
  obtain ⟨hx, hb, hml, hr, hlk, hown, hts, hKB, -⟩ := hC
  rw [hcls] at hown
  unfold gh_hB at hB
  rw [Bool.and_eq_true] at hB
  obtain ⟨hB1, hB2⟩ := hB
  have h1 := List.all_eq_true.mp (List.all_eq_true.mp hB2 _ hmem) E (List.mem_range.mpr hE)
  dsimp only at h1
  rw [hnd9] at h1
  dsimp only at h1
  split at h1
  · cases h1
  · next row hfind =>
    obtain ⟨hrow, pre, suf, hsplit, hpre⟩ := List.find?_eq_some_iff_append.mp hfind
    simp only [Bool.and_eq_true, decide_eq_true_eq] at hrow h1
    obtain ⟨⟨hr1, hr2⟩, hr3⟩ := hrow
    obtain ⟨h2, h3⟩ := h1
    have hrows : ∀ r9 ∈ hh, r9.2.2.2 ≠ 0 ∧ ∃ E9, gh_xR 9 r9.2.2.2 = some E9 ∧ E9 < 4 := by
      intro r9 hr9
      have := List.all_eq_true.mp hB1 r9 hr9
      simp only [Bool.and_eq_true, decide_eq_true_eq] at this
      refine ⟨this.1, ?_⟩
      have h9 := this.2
      split at h9
      · next E9 hE9 => exact ⟨E9, hE9, of_decide_eq_true h9⟩
      · cases h9
    have hct : row.2.2.2 ≠ 0 := (hrows row (by rw [hsplit]; simp)).1
    refine vx_catch (own := "TreeclerkLaw") (name := gh_es E) (E := gh_es E) hown (pre.map fun q => ⟨q.1, q.2.1, q.2.2.1, q.2.2.2⟩) ⟨row.1, row.2.1, row.2.2.1, row.2.2.2⟩ (suf.map fun q => ⟨q.1, q.2.1, q.2.2.1, q.2.2.2⟩) (by rw [htab, hsplit]; simp [tableOf]) ?_ ?_ hct (hts _ (gh_xl9 _ (gh_look hr3))) (va_Nw.use rfl (hKB.2.2.2.2.1 _ (gh_ca E hE))) a3 a4 a5 ?_
    · intro z9 hz9
      obtain ⟨r9, hr9, rfl⟩ := List.mem_map.mp hz9
      obtain ⟨hne, E9, hE9, hlt9⟩ := hrows r9 (by rw [hsplit]; simp [hr9])
      have hp9 := hpre r9 hr9
      by_cases hcov : r9.1 ≤ pc ∧ pc < r9.2.1
      · right
        refine ⟨hne, gh_es E9, hts _ (gh_xl9 _ (gh_look hE9)), hKB.2.2.2.2.2.2.2.2.1 E E9 hE hlt9 ?_⟩
        rintro rfl
        simp [hcov, hE9] at hp9
      · left
        show (decide (r9.1 ≤ pc) && decide (pc < r9.2.1)) = false
        rw [Bool.and_eq_false_iff]
        by_cases h9 : r9.1 ≤ pc
        · right
          exact decide_eq_false (fun h => hcov ⟨h9, h⟩)
        · left
          exact decide_eq_false h9
    · show (decide (row.1 ≤ pc) && decide (pc < row.2.1)) = true
      simp [hr1, hr2]
    · split at h2
      · next j hj =>
        simp only [Bool.and_eq_true, decide_eq_true_eq] at h2
        obtain ⟨⟨rfl, rfl⟩, hkn⟩ := h2
        exact lv_astore_n hx hb (hK (row.2.2.1, .astore_n j, 1) (gh_look hj)) rfl a6 hkn rfl (fun ls' hl' => kk H1 locs1 ls' a1 a2 (gh_lm_drop hl'))
      · next j hj =>
        simp only [Bool.and_eq_true, decide_eq_true_eq] at h2
        obtain ⟨⟨rfl, rfl⟩, hkn⟩ := h2
        exact lv_astore hx hb (hK (row.2.2.1, .astore j, 2) (gh_look hj)) a6 hkn rfl (fun ls' hl' => kk H1 locs1 ls' a1 a2 (gh_lm_drop hl'))
      · cases h2
theorem gh_hB_tail {hnd : Nat → Nat → Option (Nat × Nat)} {hh : List (Nat × Nat × Nat × Nat)} {K : List (Nat × Instr × Nat)} (hB : gh_hB nL hnd hh K = true) {pc pc' k E : Nat} {i : Instr} {len : Nat} (hmem : (pc, i, len) ∈ K) (hE : E < 4) (hnd9 : hnd pc E = some (pc', k)) : ∃ (i1 i2 : Instr) (ln : Nat), K.lookup pc' = some (i1, ln) ∧ (∀ (rt : Option FieldType) (lo : gh_L) (G : gh_H), ∃ v, gh_step true 9 rt pc' i1 ln lo [] G = some (.inl (pc' + ln, lo, [v], G))) ∧ K.lookup (pc' + ln) = some (i2, 1) ∧ (i2 = .ireturn ∨ i2 = .lreturn) := by
  unfold gh_hB at hB
  rw [Bool.and_eq_true] at hB
  obtain ⟨-, hB2⟩ := hB
  have h1 := List.all_eq_true.mp (List.all_eq_true.mp hB2 _ hmem) E (List.mem_range.mpr hE)
  dsimp only at h1
  rw [hnd9] at h1
  dsimp only at h1
  split at h1
  · cases h1
  · rw [Bool.and_eq_true] at h1
    obtain ⟨-, h3⟩ := h1
    split at h3
    · next x hx => exact ⟨_, _, 2, hx, fun rt lo G => ⟨_, rfl⟩, of_decide_eq_true h3, Or.inl rfl⟩
    · next j hj =>
      simp only [Bool.and_eq_true, decide_eq_true_eq, Option.isSome_iff_exists] at h3
      obtain ⟨⟨x, hx⟩, h4⟩ := h3
      refine ⟨_, _, 3, hj, fun rt lo G => ⟨.long x, ?_⟩, h4, Or.inr rfl⟩
      show gh_push ((gh_jR 9 j).map .long) (pc' + 3) lo [] G = _
      rw [hx]
      rfl
    · cases h3
theorem gh_bodyH {C : Nat → List Value → gh_H → Option (gh_O × gh_H)} {hnd : Nat → Nat → Option (Nat × Nat)} {hh : List (Nat × Nat × Nat × Nat)} {K : List (Nat × Instr × Nat)} {d : Nat} {v : Option Value} {Gf : gh_H} (hC : gh_Cx z p s m args meth c 9 cc nL rt nm) (htab : c.exceptionTable.toList = tableOf hh) (hK : ∀ e ∈ K, decode cc e.1 = .ok e.2) (hB : gh_hB nL hnd hh K = true) (hchk : gh_chkB 9 128 nm nL K = true)
    (hCm : ∀ μ as G o G', C μ as G = some (o, G') → G.length ≤ G'.length ∧ gh_sz G ≤ gh_sz G') (hCe : ∀ μ as G E G', C μ as G = some (.inr E, G') → E < 4) (hCon : ∀ μ as G o G', μ < 128 → C μ as G = some (o, G') → ∀ q, gh_yt[μ]? = some q → gh_Con l z true d q as G o G')
    (hR : R = gh_rm (d + 1) (Gf.length - g0 + 1) (gh_sz Gf - z0 + 6)) :
    ∀ (n pc : Nat) (lo : gh_L) (st : List Value) (G : gh_H), gh_ex true C 9 rt hnd K n pc lo st G = some (.inl v, Gf) → g0 ≤ G.length → z0 ≤ gh_sz G →
      gh_T z p l e R s m args below meth c nL g0 z0 (vx_MQ below (gh_Qo z (.inl v) Gf) (gh_Xo z (.inl v) Gf) args s (Gf.length - g0 + 1) (gh_sz Gf - z0 + 6) (gh_A z)) 0 0 pc lo st G := by
  intro n
  induction n with
  | zero => intro pc lo st G h; cases h
  | succ n ih =>
    intro pc lo st G h hg hz
    have hfin := gh_ex_mono hCm _ _ _ _ _ _ _ h
    have hRc : R.cells = Gf.length - g0 + 1 := by rw [hR]; rfl
    have hRs : R.slots = gh_sz Gf - z0 + 6 := by rw [hR]; rfl
    have hRf : R.frames = 8 + (d + 1) := by rw [hR]; rfl
    have hRl : R.locals = 200 + 40 * (d + 1) := by rw [hR]; rfl
    rw [gh_ex] at h
    split at h
    · cases h
    · next i len hlk =>
      have hmem := gh_look hlk
      have hd := hK (pc, i, len) hmem
      obtain ⟨hlen, hput, hstP, hkn⟩ := gh_chk hchk hmem
      split at h
      · cases h
      · next pc1 lo1 st1 G1 hs =>
        have h1 := gh_step_mono hs
        have h2 := gh_ex_mono hCm _ _ _ _ _ _ _ h
        exact gh_stepT hC hd hlen hput hs (fun hf => nomatch hf) hg hz (by omega) (by omega) (by omega) (by omega) (by omega) (by omega) hstP (ih _ _ _ _ h (by omega) (by omega))
      · next o1 hs =>
        cases h
        exact gh_T_widen (gh_retT (k0 := 1) (y0 := 6) hC hd hlen hs) (by omega) (by omega)
      · next μ as r hs =>
        obtain ⟨hl3, hμ⟩ := gh_call_len hs hlen hkn
        subst hl3
        have hμ : μ < 128 := by omega
        obtain ⟨q, m9, hq, -⟩ := gh_Mall μ hμ
        split at h
        · cases h
        · next w G1 hc =>
          have h1 := hCm _ _ _ _ _ hc
          have h2 := gh_ex_mono hCm _ _ _ _ _ _ _ h
          refine gh_callW hC hd hkn hμ hs hq (hCon μ as G _ G1 hμ hc q hq) (fun hf => nomatch hf) hg hz h1.1 h1.2 (by omega) (by omega) (by simp only [gh_th]; omega) (by simp only [gh_th]; omega) (fun w9 hw => ?_) (fun E hE => by cases hE)
          cases hw
          exact ih _ _ _ _ h (by omega) (by omega)
        · next E G1 hc =>
          have h1 := hCm _ _ _ _ _ hc
          have hE4 := hCe _ _ _ _ _ hc
          split at h
          · cases h
          · next pc2 k2 hh2 =>
            have h2 := gh_ex_mono hCm _ _ _ _ _ _ _ h
            obtain ⟨i1, i2, ln1, hl1, hst1, hl2, hi2⟩ := gh_hB_tail hB hmem hE4 hh2
            refine gh_callW hC hd hkn hμ hs hq (hCon μ as G _ G1 hμ hc q hq) (fun hf => nomatch hf) hg hz h1.1 h1.2 (by omega) (by omega) (by simp only [gh_th]; omega) (by simp only [gh_th]; omega) (fun w9 hw => by cases hw) (fun E' hE H1 locs1 ls q9 ce a1 a2 a3 a4 a5 a6 => ?_)
            cases hE
            -- behind the catch: two instructions
            have htail : gh_T z p l e R s m args below meth c nL g0 z0 (vx_MQ below (gh_Qo z (.inl v) Gf) (gh_Xo z (.inl v) Gf) args s (Gf.length - g0 + 1) (gh_sz Gf - z0 + 6) (gh_A z)) 1 6 pc2 (lo.filter (fun q => !(q.1 == k2) && !(q.1 + 1 == k2 && q.2.category == 2))) [] G1 := by
              cases n with
              | zero => cases h
              | succ n =>
                rw [gh_ex, hl1] at h
                have hm1 := gh_look hl1
                obtain ⟨hlen1, hput1, hstP1, -⟩ := gh_chk hchk hm1
                obtain ⟨v1, hs1⟩ := hst1 rt (lo.filter (fun q => !(q.1 == k2) && !(q.1 + 1 == k2 && q.2.category == 2))) G1
                dsimp only at h
                rw [hs1] at h
                dsimp only at h
                cases n with
                | zero => cases h
                | succ n =>
                  rw [gh_ex, hl2] at h
                  have hm2 := gh_look hl2
                  obtain ⟨hlen2, -, -, -⟩ := gh_chk hchk hm2
                  dsimp only at h
                  split at h
                  · cases h
                  · next hs2 =>
                    exfalso
                    rcases hi2 with rfl | rfl
                    · simp only [gh_step, gh_ret] at hs2
                      (repeat' split at hs2) <;> cases hs2
                    · simp only [gh_step, gh_ret] at hs2
                      (repeat' split at hs2) <;> cases hs2
                  · next o2 hs2 =>
                    cases h
                    exact gh_stepT hC (hK (pc2, i1, ln1) hm1) hlen1 hput1 hs1 (fun hf => nomatch hf) (by omega) (by omega) (by omega) (by omega) (by omega) (by omega) (by omega) (by omega) hstP1 (gh_retT (k0 := 1) (y0 := 6) hC (hK (pc2 + ln1, i2, 1) hm2) hlen2 hs2)
                  · next hs2 =>
                    exfalso
                    rcases hi2 with rfl | rfl
                    · simp only [gh_step, gh_ret] at hs2
                      (repeat' split at hs2) <;> cases hs2
                    · simp only [gh_step, gh_ret] at hs2
                      (repeat' split at hs2) <;> cases hs2
            exact gh_catchT hC rfl htab hK hB hmem hE4 hh2 htail a1 a2 a3 a4 a5 a6
end GH
/-- all helpers -/
theorem gh_help (l : Launch) (hst : l.stackTraces = false) (z : gh_Z) (N : Nat) (d μ : Nat) (as : List Value) (G : gh_H) (v : Option Value) (G' : gh_H) (h1 : 128 ≤ μ) (h2 : μ < 136) (h : gh_cl true N d μ as G = some (.inl v, G')) : ∀ q hh, gh_yt[μ]? = some q → gh_hOK q hh → (∀ m, gh_mt[μ]? = some m → gh_hB q.2.2.1 m.2.2.1 hh m.2.2.2 = true) → gh_ConH l z d q hh as G v G' := by
  intro q hh hq hho hhB
  cases d with
  | zero => cases h
  | succ d =>
    obtain ⟨q', m9, hh', hq', hm9, -, hdec, hrt, hrt2, hown9, hcls, hml9, -, hchk, -⟩ := gh_Xall μ h1 h2
    cases Option.some.inj (hq'.symm.trans hq)
    have hB := hhB m9 hm9
    rw [gh_cl, hm9] at h
    obtain ⟨own, rt, hnd9, K⟩ := m9
    dsimp only at h hdec hrt hown9 hB hchk
    subst hown9
    split at h
    · next hcat =>
      rw [hml9] at hcat
      have hmono := gh_ex_mono (gh_cl_mono d) _ _ _ _ _ _ _ h
      refine vx_ofWH (cc := q.2.1) (maxL := q.2.2.1) (ret := q.2.2.2.1) (hh := hh) hho.2.2.2.1 rfl ?_
      intro p e s m args below meth c s₁ B hml hv
      obtain ⟨rfl, hRel, hKB, hsz⟩ := hv
      have hts := atoms_spec (ws := gh_wsH q hh) B.pre
      have htab := vx_table (x := q.1) B (hts _ List.mem_cons_self)
      have hC : gh_Cx z p s m (as.map (gh_em z)).toArray meth c 9 q.2.1 q.2.2.1 rt q.1.name :=
        ⟨B.exec, B.bytes, hml, by rw [hrt]; exact B.returns, B.notSynchronized, by rw [show gh_on 9 = q.1.cls from hcls.symm]; exact findClass_of_methodNamed B.named, fun w hw => hts w (List.mem_cons_of_mem _ hw), hKB, (name_of_methodNamed B.named B.method).1⟩
      have hl := lv_entry (as.map (gh_em z)) (n := q.2.2.1) (by rw [gh_sl_len]; exact hcat)
      rw [lg_entry_eq]
      generalize (lg_sl (as.map (gh_em z)) ++ List.replicate (q.2.2.1 - (lg_sl (as.map (gh_em z))).length) Slot.unset).toArray = ls at hl ⊢
      rw [gh_args_em] at hl
      have hrun := gh_bodyH (g0 := G.length) (z0 := gh_sz G) (e := e) (below := below) hC htab hdec hB hchk (gh_cl_mono d) (gh_cl_E d) (fun μ as G o G' a b => gh_norm l hst z true N d μ as G o G' a b) (R := (headSpec (gh_wsH q hh) (gh_rm (d + 1) (G'.length - G.length + 1) (gh_sz G' - gh_sz G + 6))).room) rfl N 0 (lv_args 0 as) [] G h (Nat.le_refl _) (Nat.le_refl _) s.heap [] ls hRel va_S.rf hl
      rw [Nat.sub_self, Nat.sub_self] at hrun
      exact hrun
    · cases h
