/-! EACH GHOST STEP IS A STEP OF THE MACHINE (making cells; the JDK's own methods; the step whole) -/
section GS
variable {z : gh_Z} {p : Program} {l : Launch} {e : Env} {R : Room} {s : State} {m : MethodId} {args : Array Value} {below : List Frame} {meth : Method} {c : Code} {nL g0 z0 k0 y0 own : Nat} {Q : State → Prop} {cc : ByteArray} {rt : Option FieldType} {nm : String} {pc pc' : Nat} {lo lo' : gh_L} {st st' : List Value} {G G' : gh_H}
/-- where a new cell lies: the heap ends where the ghost heap ends -/
theorem gh_new_at {H1 : Heap} {q : Nat} {ce : va_E} {T : State} {locs1 : List Loc} {cells slots : Nat} (he0 : s.heap.size + 1 = z.2.2.2.1 + g0) (hg : g0 ≤ G.length) (hP : va_P z.1 vwCl (gh_W z G ++ [(q, ce)]) H1) (hD : va_D (gh_A z) (gh_W z G ++ [(q, ce)])) (hT : T.heap = H1) (X : Stand p l e R s m args below meth c T locs1 cells slots) (hc : cells = G.length - g0 + 1) (hG1 : 1 ≤ G.length) : q = gh_ad z G.length := by
  have hlen : (gh_W z G).length = G.length - 1 := by
    unfold gh_W
    have : ∀ (G : gh_H) (i : Nat), (gh_ws z i G).length = G.length := by
      intro G
      induction G with
      | nil => intro i; rfl
      | cons c G ih => intro i; simp [gh_ws, ih]
    rw [this, List.length_drop]
  have hq : (gh_W z G ++ [(q, ce)])[G.length - 1]? = some (q, ce) := by
    rw [List.getElem?_append_right (by omega), hlen, Nat.sub_self]
    rfl
  have hlt : q < H1.size := (hP _ _ hq).lt
  have hbase : z.2.2.2.1 ≤ q := hD.2 _ _ hq
  have hup : H1.size ≤ s.heap.size + cells := by
    have h := X.same.2.2.1
    rw [← hT]
    exact h
  have hne : ∀ k, k + 1 < G.length → q ≠ z.2.2.2.1 + k := by
    intro k hk he
    have hk2 : (gh_W z G ++ [(q, ce)])[k]? = (gh_W z G)[k]? := List.getElem?_append_left (by omega)
    have h3 : (gh_W z G)[k]? = some ((gh_W z G)[k]'(by omega)) := List.getElem?_eq_getElem (by omega)
    have h4 := h3
    unfold gh_W at h4
    rw [gh_ws_get] at h4
    obtain ⟨d, -, hd⟩ := Option.map_eq_some_iff.mp h4
    have h5 : ((gh_W z G)[k]'(by omega)).1 = z.2.2.2.1 + k := by
      have : ((gh_W z G)[k]'(by omega)) = (gh_ad z (1 + k), gh_ce z d) := hd.symm
      rw [this]
      show gh_ad z (1 + k) = _
      unfold gh_ad
      rw [if_neg (by omega)]
      omega
    have := hD.1 k (G.length - 1) _ _ (hk2.trans h3) hq (by rw [h5]; exact he.symm)
    omega
  have h6 : q = z.2.2.2.1 + (G.length - 1) := by
    by_cases h7 : q - z.2.2.2.1 + 1 < G.length
    · exact absurd (by omega) (hne (q - z.2.2.2.1) h7)
    · omega
  rw [h6]
  unfold gh_ad
  rw [if_neg (by omega)]
theorem gh_T_push {kd : Nat} {vs : List Value} (he0 : s.heap.size + 1 = z.2.2.2.1 + g0) (hg : g0 ≤ G.length) (hz : z0 ≤ gh_sz G) (hG0 : G[0]? = some (20, z.2.2.2.2.map .int) ∨ G[0]? = some (99, []))
    (kk : gh_T z p l e R s m args below meth c nL g0 z0 Q 0 0 pc' lo (.ref G.length :: st) (G ++ [(kd, vs)])) {H1 : Heap} {q : Nat} {locs : List Loc} {ls : Array Slot} (hP : va_P z.1 vwCl (gh_W z G ++ [(q, gh_ce z (kd, vs))]) H1) (hD : va_D (gh_A z) (gh_W z G ++ [(q, gh_ce z (kd, vs))])) (hS : va_S (gh_A z) s.heap H1 locs) (hl : lv_has ls nL (gh_lm z lo)) :
    W p l e R s m args below meth c H1 locs (G.length - g0 + 1) (gh_sz G - z0 + vs.length) Q (F0 m pc' ls (.ref q :: st.map (gh_em z))) := by
  intro T hT X
  have hG1 : 1 ≤ G.length := by
    cases G with
    | nil => rcases hG0 with h | h <;> cases h
    | cons _ _ => simp
  have hq := gh_new_at he0 hg hP hD hT X rfl hG1
  subst hq
  have K := kk H1 locs ls ⟨by rw [gh_W_push hG1]; exact hP, by rw [List.getElem?_append_left (by omega)]; exact hG0⟩ hS hl
  rw [List.length_append, gh_sz_push, Nat.add_zero, Nat.add_zero, show (G.length + [(kd, vs)].length) - g0 = G.length - g0 + 1 by simp; omega, show gh_sz G + vs.length - z0 = gh_sz G - z0 + vs.length by omega] at K
  exact K T hT X
theorem gs_new (hC : gh_Cx z p s m args meth c own cc nL rt nm) {idx : Nat} {fz : Bool} (hd : decode cc pc = .ok (.new idx, 3)) (h : gh_new fz own idx pc lo st G = some (.inl (pc', lo', st', G'))) (he0 : fz = false → s.heap.size + 1 = z.2.2.2.1 + g0 ∧ k0 = 0 ∧ y0 = 0) (hg : g0 ≤ G.length) (hz : z0 ≤ gh_sz G) (hrc : G'.length - g0 + k0 ≤ R.cells) (hrs : gh_sz G' - z0 + y0 ≤ R.slots)
    (kk : gh_T z p l e R s m args below meth c nL g0 z0 Q k0 y0 pc' lo' st' G') : gh_T z p l e R s m args below meth c nL g0 z0 Q k0 y0 pc lo st G := by
  obtain ⟨hx, hb, -, -, -, hown, hts, hKB, -⟩ := hC
  unfold gh_new at h
  split at h
  · split at h <;> cases h
  · split at h
    · next ci hcr =>
      split at h
      · next hfz =>
        obtain ⟨rfl, rfl, rfl, rfl⟩ := gh_go_inv h
        obtain ⟨hE, rfl, rfl⟩ := he0 hfz
        obtain ⟨C, T, N, hc, h1, h2, h3⟩ := gh_cAll own _ (gh_look hcr)
        obtain ⟨hci, hin, hty, hnm⟩ := gh_cls ci C T N hc
        have hdf : gh_dfl ci = (List.range N).map (fun j => defaultValue (gh_fty ci j)) := by
          unfold gh_dfl
          rw [List.getD_eq_getElem?_getD, hc]
          rfl
        have hdl : (gh_dfl ci).length = N := by rw [hdf]; simp
        have hem : (gh_dfl ci).map (gh_em z) = gh_dfl ci := by
          rw [hdf, List.map_map]
          refine List.map_congr_left fun j _ => ?_
          show gh_em z (defaultValue (gh_fty ci j)) = _
          cases gh_fty ci j <;> rfl
        have hG1 : ∀ {H : Heap}, gh_Rel z G H → 1 ≤ G.length := by
          intro H hR
          cases G with
          | nil => rcases hR.2 with h | h <;> cases h
          | cons _ _ => simp
        intro H locs ls hR hS hl
        have := hG1 hR
        rw [List.length_append, List.length_singleton] at hrc
        rw [gh_sz_push, hdl] at hrs
        refine va_new hx hb hts hin (gh_fty ci) hty hown (hts _ h1) (hts _ h2) (hts _ h3) hKB.1 hR.1 (gh_W_D z G) hS (fun q hq => Nat.le_trans hKB.2.2.2.1 hq) hc (fs := gh_dfl ci) (fun j hj => ?_) (by omega) (by omega) hd (fun q H1 hP hD hS1 => ?_)
        · rw [hdf]
          unfold vp_V
          rw [List.getD_eq_getElem?_getD, List.getElem?_map, List.getElem?_range hj]
          rfl
        · have K := gh_T_push (kd := ci) (vs := gh_dfl ci) hE hg hz hR.2 kk (H1 := H1) (q := q) (locs := locs) (ls := ls) (by rw [gh_ce_o z _ hci, hem]; exact hP) (by rw [gh_ce_o z _ hci, hem]; exact hD) hS1 hl
          rw [hdl] at K
          exact K
      · cases h
    · cases h
theorem gh_newa_inv {fz : Bool} {kv : Option (Nat × Value)} (h : gh_newa fz kv pc lo st G = some (.inl (pc', lo', st', G'))) : ∃ kd v n r, kv = some (kd, v) ∧ st = .int n :: r ∧ fz = false ∧ ¬ n < 0 ∧ n.toNatClampNeg ≤ 10000 ∧ pc = pc' ∧ lo = lo' ∧ .ref G.length :: r = st' ∧ G ++ [(kd, List.replicate n.toNatClampNeg v)] = G' := by
  unfold gh_newa at h
  split at h
  · split at h
    · next hq => exact ⟨_, _, _, _, rfl, rfl, hq.1, hq.2.1, hq.2.2, gh_go_inv h⟩
    · cases h
  · cases h
theorem gh_repI (n : Nat) : (fun j => gh_toI ((List.replicate n (Value.int 0)).getD j .null)) = fun _ => 0 := by
  funext j
  rw [List.getD_eq_getElem?_getD, List.getElem?_replicate]
  split <;> rfl
theorem gh_repJ (n : Nat) : (fun j => gh_toJ ((List.replicate n (Value.long 0)).getD j .null)) = fun _ => 0 := by
  funext j
  rw [List.getD_eq_getElem?_getD, List.getElem?_replicate]
  split <;> rfl
theorem gh_repA (z : gh_Z) (n : Nat) : (fun j => gh_re z ((List.replicate n Value.null).getD j .null)) = fun _ => none := by
  funext j
  rw [List.getD_eq_getElem?_getD, List.getElem?_replicate]
  split <;> rfl
theorem gs_newa (hC : gh_Cx z p s m args meth c own cc nL rt nm) {t : ArrayType} {fz : Bool} (hd : decode cc pc = .ok (.newarray t, 2)) (h : gh_newa fz (gh_kd t) (pc + 2) lo st G = some (.inl (pc', lo', st', G'))) (he0 : fz = false → s.heap.size + 1 = z.2.2.2.1 + g0 ∧ k0 = 0 ∧ y0 = 0) (hg : g0 ≤ G.length) (hz : z0 ≤ gh_sz G) (hrc : G'.length - g0 + k0 ≤ R.cells) (hrs : gh_sz G' - z0 + y0 ≤ R.slots)
    (kk : gh_T z p l e R s m args below meth c nL g0 z0 Q k0 y0 pc' lo' st' G') : gh_T z p l e R s m args below meth c nL g0 z0 Q k0 y0 pc lo st G := by
  obtain ⟨hx, hb, -, -, -, hown, hts, hKB, -⟩ := hC
  obtain ⟨kd, v, n, r, hkv, rfl, hfz, hn0, hn1, rfl, rfl, rfl, rfl⟩ := gh_newa_inv h
  obtain ⟨hE, rfl, rfl⟩ := he0 hfz
  intro H locs ls hR hS hl
  rw [List.length_append, List.length_singleton] at hrc
  rw [gh_sz_push, List.length_replicate] at hrs
  have K : ∀ (q : Nat) (H1 : Heap), va_P z.1 vwCl (gh_W z G ++ [(q, gh_ce z (kd, List.replicate n.toNatClampNeg v))]) H1 → va_D (gh_A z) (gh_W z G ++ [(q, gh_ce z (kd, List.replicate n.toNatClampNeg v))]) → va_S (gh_A z) s.heap H1 locs →
      W p l e R s m args below meth c H1 locs (G.length - g0 + 1) (gh_sz G - z0 + n.toNatClampNeg) Q (F0 m (pc + 2) ls (.ref q :: r.map (gh_em z))) := by
    intro q H1 hP hD hS1
    have K := gh_T_push hE hg hz hR.2 kk hP hD hS1 hl
    rw [List.length_replicate] at K
    exact K
  have hA : ∀ q, s.heap.size ≤ q → gh_A z q := fun q hq => Nat.le_trans hKB.2.2.2.1 hq
  cases t with
  | int =>
    cases hkv
    refine va_newa (atype := .int) (ty := .int) (a0 := (n.toNatClampNeg, .inl (fun _ => 0))) hx hb (hts _ gh_ac_int) rfl hKB.1 hR.1 (gh_W_D z G) hS hA (fun _ => rfl) hn0 rfl (by show n.toNatClampNeg * 4 ≤ _; omega) (by omega) (by omega) hd (fun q cA H1 hK1 hP hD hS1 => ?_)
    have e1 : cA = z.2.1.1 := Option.some.inj ((va_nm_int (hK1.2 4 (cA, .int) rfl).2).symm.trans (va_nm_int (hKB.1.2 0 _ rfl).2))
    subst e1
    have ec : gh_ce z (20, List.replicate n.toNatClampNeg (Value.int 0)) = .inl (z.2.1.1, n.toNatClampNeg, .inl (fun _ => 0)) := by
      show (Sum.inl (z.2.1.1, (List.replicate n.toNatClampNeg (Value.int 0)).length, Sum.inl (fun j => gh_toI ((List.replicate n.toNatClampNeg (Value.int 0)).getD j .null))) : va_E) = _
      rw [gh_repI, List.length_replicate]
    exact K q H1 (by rw [ec]; exact hP) (by rw [ec]; exact hD) hS1
  | long =>
    cases hkv
    refine va_newa (atype := .long) (ty := .long) (a0 := (n.toNatClampNeg, .inr (.inl (fun _ => 0)))) hx hb (hts _ gh_ac_long) rfl hKB.1 hR.1 (gh_W_D z G) hS hA (fun _ => rfl) hn0 rfl (by show n.toNatClampNeg * 8 ≤ _; omega) (by omega) (by omega) hd (fun q cA H1 hK1 hP hD hS1 => ?_)
    have e1 : cA = z.2.1.2.1 := Option.some.inj ((va_nm_long (hK1.2 4 (cA, .long) rfl).2).symm.trans (va_nm_long (hKB.1.2 1 _ rfl).2))
    subst e1
    have ec : gh_ce z (21, List.replicate n.toNatClampNeg (Value.long 0)) = .inl (z.2.1.2.1, n.toNatClampNeg, .inr (.inl (fun _ => 0))) := by
      show (Sum.inl (z.2.1.2.1, (List.replicate n.toNatClampNeg (Value.long 0)).length, Sum.inr (Sum.inl (fun j => gh_toJ ((List.replicate n.toNatClampNeg (Value.long 0)).getD j .null)))) : va_E) = _
      rw [gh_repJ, List.length_replicate]
    exact K q H1 (by rw [ec]; exact hP) (by rw [ec]; exact hD) hS1
  | boolean =>
    cases hkv
    refine va_newa (atype := .boolean) (ty := .boolean) (a0 := (n.toNatClampNeg, .inl (fun _ => 0))) hx hb (hts _ gh_ac_boolean) rfl hKB.1 hR.1 (gh_W_D z G) hS hA (fun _ => rfl) hn0 rfl (by show n.toNatClampNeg * 1 ≤ _; omega) (by omega) (by omega) hd (fun q cA H1 hK1 hP hD hS1 => ?_)
    have e1 : cA = z.2.1.2.2.1 := Option.some.inj ((va_nm_boolean (hK1.2 4 (cA, .boolean) rfl).2).symm.trans (va_nm_boolean (hKB.1.2 2 _ rfl).2))
    subst e1
    have ec : gh_ce z (22, List.replicate n.toNatClampNeg (Value.int 0)) = .inl (z.2.1.2.2.1, n.toNatClampNeg, .inl (fun _ => 0)) := by
      show (Sum.inl (z.2.1.2.2.1, (List.replicate n.toNatClampNeg (Value.int 0)).length, Sum.inl (fun j => gh_toI ((List.replicate n.toNatClampNeg (Value.int 0)).getD j .null))) : va_E) = _
      rw [gh_repI, List.length_replicate]
    exact K q H1 (by rw [ec]; exact hP) (by rw [ec]; exact hD) hS1
  | _ => cases hkv
theorem gs_newq (hC : gh_Cx z p s m args meth c own cc nL rt nm) {idx : Nat} {fz : Bool} (he : gh_eR own idx = true) (hd : decode cc pc = .ok (.anewarray idx, 3)) (h : gh_newa fz (some (23, .null)) (pc + 3) lo st G = some (.inl (pc', lo', st', G'))) (he0 : fz = false → s.heap.size + 1 = z.2.2.2.1 + g0 ∧ k0 = 0 ∧ y0 = 0) (hg : g0 ≤ G.length) (hz : z0 ≤ gh_sz G) (hrc : G'.length - g0 + k0 ≤ R.cells) (hrs : gh_sz G' - z0 + y0 ≤ R.slots)
    (kk : gh_T z p l e R s m args below meth c nL g0 z0 Q k0 y0 pc' lo' st' G') : gh_T z p l e R s m args below meth c nL g0 z0 Q k0 y0 pc lo st G := by
  obtain ⟨hx, hb, -, -, -, hown, hts, hKB, -⟩ := hC
  obtain ⟨kd, v, n, r, hkv, rfl, hfz, hn0, hn1, rfl, rfl, rfl, rfl⟩ := gh_newa_inv h
  cases hkv
  obtain ⟨hE, rfl, rfl⟩ := he0 hfz
  intro H locs ls hR hS hl
  rw [List.length_append, List.length_singleton] at hrc
  rw [gh_sz_push, List.length_replicate] at hrs
  refine va_newq (C := RX1) hx hb hown (hts _ (gh_el own idx he).1) hKB.2.2.2.2.2.2.2.2.2 hKB.1 hR.1 (gh_W_D z G) hS (fun q hq => Nat.le_trans hKB.2.2.2.1 hq) hn0 rfl (by omega) (by omega) (by omega) hd (fun q cA H1 hK1 hP hD hS1 => ?_)
  have e1 : cA = z.2.1.2.2.2 := Option.some.inj ((va_nmO (hK1.2 4 (cA, .object RX1) rfl).2 rfl).symm.trans (va_nmO (hKB.1.2 3 _ rfl).2 rfl))
  subst e1
  have ec : gh_ce z (23, List.replicate n.toNatClampNeg Value.null) = .inl (z.2.1.2.2.2, n.toNatClampNeg, .inr (.inr (.inr (.inr (fun _ => none))))) := by
    show (Sum.inl (z.2.1.2.2.2, (List.replicate n.toNatClampNeg Value.null).length, Sum.inr (Sum.inr (Sum.inr (Sum.inr (fun j => gh_re z ((List.replicate n.toNatClampNeg Value.null).getD j .null)))))) : va_E) = _
    rw [gh_repA, List.length_replicate]
  have K := gh_T_push hE hg hz hR.2 kk (by rw [ec]; exact hP) (by rw [ec]; exact hD) hS1 hl
  rw [List.length_replicate] at K
  exact K
theorem gs_oinit (hC : gh_Cx z p s m args meth c own cc nL rt nm) {idx a : Nat} {r : List Value} (ho : gh_oR own idx = true) (hd : decode cc pc = .ok (.invokespecial idx, 3)) (hcat : gh_cat r ≤ 8) (hf : 1 ≤ R.frames) (hloc : 20 ≤ R.locals)
    (kk : gh_T z p l e R s m args below meth c nL g0 z0 Q k0 y0 (pc + 3) lo r G) : gh_T z p l e R s m args below meth c nL g0 z0 Q k0 y0 pc lo (.ref a :: r) G := by
  obtain ⟨hx, hb, hml, -, -, hown, hts, hKB, -⟩ := hC
  intro H locs ls hR hS hl
  have h1 := gh_oAll own idx (List.contains_iff_mem.mp ho)
  exact W.objInit hx hb hown (hts _ h1) (hts _ gh_oi) (hts _ gh_oc) rfl (by rw [hml]; exact hl.1) rfl hd hf (by rw [gh_es_cat]; show 2 * 0 + _ + 12 ≤ _; omega) (kk H locs ls hR hS hl)
theorem gs_mm (hC : gh_Cx z p s m args meth c own cc nL rt nm) {idx b : Nat} (ho : gh_tR own idx = some b) (hd : decode cc pc = .ok (.invokestatic idx, 3)) (h : gh_mm b pc lo st G = some (.inl (pc', lo', st', G'))) (hf : 1 ≤ R.frames) (hloc : 21 ≤ R.locals) (hcc : G.length - g0 + k0 ≤ R.cells) (hss : gh_sz G - z0 + y0 ≤ R.slots)
    (kk : gh_T z p l e R s m args below meth c nL g0 z0 Q k0 y0 pc' lo' st' G') : gh_T z p l e R s m args below meth c nL g0 z0 Q k0 y0 pc lo st G := by
  obtain ⟨hx, hb, hml, -, -, hown, hts, hKB, -⟩ := hC
  have h1 := gh_tAll own (idx, b) (gh_look ho)
  unfold gh_mm at h
  split at h
  · split at h
    · next hcat =>
      obtain ⟨rfl, rfl, rfl, rfl⟩ := gh_go_inv h
      intro H locs ls hR hS hl
      have K := kk H locs ls hR hS hl
      by_cases hb0 : b = 0
      · subst hb0
        exact va_mmax hx hb (by rw [hml, hl.1]) hown (hts _ h1) (hts _ gh_t_max) (hts _ gh_ti) (hts _ gh_tc_max) hf (by rw [gh_es_cat]; omega) hcc hss hd K
      · simp only [hb0, if_false] at h1 K
        exact va_mmin hx hb (by rw [hml, hl.1]) hown (hts _ h1) (hts _ gh_t_min) (hts _ gh_ti) (hts _ gh_tc_min) hf (by rw [gh_es_cat]; omega) hcc hss hd K
    · cases h
  · cases h
theorem gh_cpy_len (vs ws : List Value) (sp dp n : Nat) : (gh_cpy vs ws sp dp n).length = ws.length := by
  unfold gh_cpy
  simp
theorem gh_cpyF {α : Type} (f : Value → α) (d : f .null = f .null) (vs ws : List Value) (sp dp n : Nat) (h : dp + n ≤ ws.length) : (fun j => f ((gh_cpy vs ws sp dp n).getD j .null)) = va_cpy (fun j => f (vs.getD j .null)) (fun j => f (ws.getD j .null)) sp dp n := by
  funext j
  unfold gh_cpy va_cpy
  rw [List.getD_eq_getElem?_getD, List.getElem?_map]
  by_cases hj : j < ws.length
  · rw [List.getElem?_range hj]
    simp only [Option.map_some, Option.getD_some]
    by_cases hk : dp ≤ j ∧ j < dp + n
    · rw [if_pos hk, if_pos hk]
    · rw [if_neg hk, if_neg hk]
  · rw [List.getElem?_eq_none (by simp; omega), if_neg (by omega)]
    simp only [Option.map_none, Option.getD_none]
    rw [List.getD_eq_getElem?_getD, List.getElem?_eq_none (by omega)]
    rfl
theorem gs_acopy (hC : gh_Cx z p s m args meth c own cc nL rt nm) {idx : Nat} (ho : gh_aR own idx = true) (hd : decode cc pc = .ok (.invokestatic idx, 3)) (h : gh_acopy pc lo st G = some (.inl (pc', lo', st', G'))) (hf : 1 ≤ R.frames) (hloc : 100 ≤ R.locals)
    (kk : gh_T z p l e R s m args below meth c nL g0 z0 Q k0 y0 pc' lo' st' G') : gh_T z p l e R s m args below meth c nL g0 z0 Q k0 y0 pc lo st G := by
  obtain ⟨hx, hb, hml, -, -, hown, hts, hKB, -⟩ := hC
  have h1 := gh_aAll own idx (List.contains_iff_mem.mp ho)
  have hnw : nativeFrameWords "java/lang/System" "arraycopy" 5 + 11 ≤ 90 := by decide +kernel
  unfold gh_acopy at h
  split at h
  · next n dp a1 sp a0 r =>
    split at h
    · next k9 vs k1 ws hG0 hG1 =>
      split at h
      · next hq =>
        obtain ⟨ha0, ha1, rfl, hk, hsp, hdp, hn, hv, hw, hcat⟩ := hq
        obtain ⟨rfl, rfl, rfl, rfl⟩ := gh_go_inv h
        intro H locs ls hR hS hl
        have he0 := gh_W_get (z := z) hG0 ha0
        have he1 := gh_W_get (z := z) hG1 ha1
        rcases hk with rfl | rfl
        · refine va_copyi (ty := .int) hx hb (by rw [hml, hl.1]) hown (hts _ h1) (hts _ gh_an) (hts _ gh_as) (hts _ gh_ai) hKB.1 hR.1 (gh_W_D z G) hS (a0 - 1) (a1 - 1) 0 0 he0 he1 rfl rfl rfl hsp hdp hn hv hw (fun i _ => rfl) hf (by rw [gh_es_cat]; omega) hd (gs_after hG1 ha1 (gh_cpy_len ..) kk hR hl ?_)
          rw [← gh_cpyF gh_toI rfl _ _ _ _ _ hw]
          simp [gh_ce, gh_cpy_len]
        · refine va_copyl (ty := .long) hx hb (by rw [hml, hl.1]) hown (hts _ h1) (hts _ gh_an) (hts _ gh_as) (hts _ gh_ai) hKB.1 hR.1 (gh_W_D z G) hS (a0 - 1) (a1 - 1) 1 1 he0 he1 rfl rfl rfl hsp hdp hn hv hw (fun i _ => rfl) hf (by rw [gh_es_cat]; omega) hd (gs_after hG1 ha1 (gh_cpy_len ..) kk hR hl ?_)
          rw [← gh_cpyF gh_toJ rfl _ _ _ _ _ hw]
          simp [gh_ce, gh_cpy_len]
      · cases h
    · cases h
  · cases h
end GS
