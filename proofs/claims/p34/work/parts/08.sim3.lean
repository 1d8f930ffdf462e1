/-! EACH GHOST STEP IS A STEP OF THE MACHINE (the heap) -/
theorem gh_look {β : Type} {k : Nat} {v : β} : ∀ {l : List (Nat × β)}, l.lookup k = some v → (k, v) ∈ l := by
  intro l
  induction l with
  | nil => intro h; cases h
  | cons q l ih =>
    intro h
    obtain ⟨k', v'⟩ := q
    rw [List.lookup_cons] at h
    by_cases hk : k == k'
    · rw [hk] at h
      cases h
      rw [beq_iff_eq.mp hk]
      exact List.mem_cons_self
    · rw [Bool.not_eq_true] at hk
      rw [hk] at h
      exact List.mem_cons_of_mem _ (ih h)
theorem gh_fAll (own : Nat) (e : Nat × Nat × Nat) (h : e ∈ gh_ft.getD own []) : gh_fOK own e := by
  match own, h with
  | 0, h => exact gh_f0 e h
  | 1, h => exact gh_f1 e h
  | 2, h => exact gh_f2 e h
  | 3, h => exact gh_f3 e h
  | 4, h => exact gh_f4 e h
  | 5, h => exact gh_f5 e h
  | 6, h => exact gh_f6 e h
  | 7, h => exact gh_f7 e h
  | 8, h => exact gh_f8 e h
  | 9, h => exact gh_f9 e h
  | 10, h => exact gh_f10 e h
  | 11, h => exact gh_f11 e h
  | 12, h => exact gh_f12 e h
  | k + 13, h => exact absurd h (by simp [gh_ft])
theorem gh_cAll (own : Nat) (e : Nat × Nat) (h : e ∈ gh_crt.getD own []) : gh_cOK own e := by
  match own, h with
  | 0, h => exact gh_k0 e h
  | 1, h => exact gh_k1 e h
  | 2, h => exact gh_k2 e h
  | 3, h => exact gh_k3 e h
  | 4, h => exact gh_k4 e h
  | 5, h => exact gh_k5 e h
  | 6, h => exact gh_k6 e h
  | 7, h => exact gh_k7 e h
  | 8, h => exact gh_k8 e h
  | 9, h => exact gh_k9 e h
  | 10, h => exact gh_k10 e h
  | 11, h => exact gh_k11 e h
  | 12, h => exact gh_k12 e h
  | k + 13, h => exact absurd h (by simp [gh_crt])
theorem gh_iAll (own : Nat) (e : Nat × Int32) (h : e ∈ gh_irt.getD own []) : Cond.constant (gh_on own) e.1 e.2 ∈ gh_wsG := by
  match own, h with
  | 0, h => exact gh_ic0 e h
  | 1, h => exact gh_ic1 e h
  | 2, h => exact gh_ic2 e h
  | 3, h => exact gh_ic3 e h
  | 4, h => exact gh_ic4 e h
  | 5, h => exact gh_ic5 e h
  | 6, h => exact gh_ic6 e h
  | 7, h => exact gh_ic7 e h
  | 8, h => exact gh_ic8 e h
  | 9, h => exact gh_ic9 e h
  | 10, h => exact gh_ic10 e h
  | 11, h => exact gh_ic11 e h
  | 12, h => exact gh_ic12 e h
  | k + 13, h => exact absurd h (by simp [gh_irt])
theorem gh_jAll (own : Nat) (e : Nat × Int64) (h : e ∈ gh_jrt.getD own []) : Cond.constantLong (gh_on own) e.1 e.2 ∈ gh_wsG := by
  match own, h with
  | 0, h => exact gh_jc0 e h
  | 1, h => exact gh_jc1 e h
  | 2, h => exact gh_jc2 e h
  | 3, h => exact gh_jc3 e h
  | 4, h => exact gh_jc4 e h
  | 5, h => exact gh_jc5 e h
  | 6, h => exact gh_jc6 e h
  | 7, h => exact gh_jc7 e h
  | 8, h => exact gh_jc8 e h
  | 9, h => exact gh_jc9 e h
  | 10, h => exact gh_jc10 e h
  | 11, h => exact gh_jc11 e h
  | 12, h => exact gh_jc12 e h
  | k + 13, h => exact absurd h (by simp [gh_jrt])
theorem gh_oAll (own : Nat) (e : Nat) (h : e ∈ gh_ort.getD own []) : Cond.methodLink (gh_on own) e objectInit ∈ gh_wsG := by
  match own, h with
  | 0, h => exact gh_o0 e h
  | 1, h => exact gh_o1 e h
  | 2, h => exact gh_o2 e h
  | 3, h => exact gh_o3 e h
  | 4, h => exact gh_o4 e h
  | 5, h => exact gh_o5 e h
  | 6, h => exact gh_o6 e h
  | 7, h => exact gh_o7 e h
  | 8, h => exact gh_o8 e h
  | 9, h => exact gh_o9 e h
  | 10, h => exact gh_o10 e h
  | 11, h => exact gh_o11 e h
  | 12, h => exact gh_o12 e h
  | k + 13, h => exact absurd h (by simp [gh_ort])
theorem gh_aAll (own : Nat) (e : Nat) (h : e ∈ gh_art.getD own []) : Cond.methodLink (gh_on own) e arraycopyName ∈ gh_wsG := by
  match own, h with
  | 0, h => exact gh_a0 e h
  | 1, h => exact gh_a1 e h
  | 2, h => exact gh_a2 e h
  | 3, h => exact gh_a3 e h
  | 4, h => exact gh_a4 e h
  | 5, h => exact gh_a5 e h
  | 6, h => exact gh_a6 e h
  | 7, h => exact gh_a7 e h
  | 8, h => exact gh_a8 e h
  | 9, h => exact gh_a9 e h
  | 10, h => exact gh_a10 e h
  | 11, h => exact gh_a11 e h
  | 12, h => exact gh_a12 e h
  | k + 13, h => exact absurd h (by simp [gh_art])
theorem gh_tAll (own : Nat) (e : Nat × Nat) (h : e ∈ gh_trt.getD own []) : Cond.methodLink (gh_on own) e.1 (if e.2 = 0 then Lib.Math.max.name else Lib.Math.min.name) ∈ gh_wsG := by
  match own, h with
  | 0, h => exact gh_t0 e h
  | 1, h => exact gh_t1 e h
  | 2, h => exact gh_t2 e h
  | 3, h => exact gh_t3 e h
  | 4, h => exact gh_t4 e h
  | 5, h => exact gh_t5 e h
  | 6, h => exact gh_t6 e h
  | 7, h => exact gh_t7 e h
  | 8, h => exact gh_t8 e h
  | 9, h => exact gh_t9 e h
  | 10, h => exact gh_t10 e h
  | 11, h => exact gh_t11 e h
  | 12, h => exact gh_t12 e h
  | k + 13, h => exact absurd h (by simp [gh_trt])
theorem gh_cls (ci : Nat) (C : String) (T : u_T) (N : Nat) (h : vwCl[ci]? = some (C, T, N)) : ci < 9 ∧ (∀ w ∈ u_ws C T N, w ∈ gh_wsG) ∧ (∀ k, k < N → parseFieldDescriptor (T k).2.2.1 = some (gh_fty ci k)) ∧ (∀ a, a < N → ∀ b, b < N → a ≠ b → (T a).2.1 ≠ (T b).2.1) := by
  match ci, h with
  | 0, h => cases h; exact ⟨by omega, gh_c0, tyX0_ok, nmX0⟩
  | 1, h => cases h; exact ⟨by omega, gh_c1, tyX1_ok, nmX1⟩
  | 2, h => cases h; exact ⟨by omega, gh_c2, tyX2_ok, nmX2⟩
  | 3, h => cases h; exact ⟨by omega, gh_c3, tyX3_ok, nmX3⟩
  | 4, h => cases h; exact ⟨by omega, gh_c4, tyX4_ok, nmX4⟩
  | 5, h => cases h; exact ⟨by omega, gh_c5, tyX5_ok, nmX5⟩
  | 6, h => cases h; exact ⟨by omega, gh_c6, tyX6_ok, nmX6⟩
  | 7, h => cases h; exact ⟨by omega, gh_c7, tyX7_ok, nmX7⟩
  | k + 8, h => simp [vwCl] at h
theorem gh_at_inv {G : gh_H} {kd a : Nat} {vs : List Value} (h : gh_at G kd a = some vs) : G[a]? = some (kd, vs) := by
  unfold gh_at at h
  split at h
  · next k ws hg =>
    split at h
    · next hk => cases h; rw [hg, hk]
    · cases h
  · cases h
theorem gh_at0 {z : gh_Z} {G : gh_H} {H : Heap} (hR : gh_Rel z G H) {kd a : Nat} {vs : List Value} (h : G[a]? = some (kd, vs)) (hk : kd ≠ 20 ∧ kd ≠ 99) : a ≠ 0 := by
  rintro rfl
  rcases hR.2 with h0 | h0
  · rw [h0] at h
    cases h
    exact hk.1 rfl
  · rw [h0] at h
    cases h
    exact hk.2 rfl
theorem gh_ce_o (z : gh_Z) {ci : Nat} (vs : List Value) (h : ci < 9) : gh_ce z (ci, vs) = .inr (ci, vs.map (gh_em z)) := by
  unfold gh_ce
  simp only
  rw [if_neg (by omega), if_neg (by omega), if_neg (by omega), if_neg (by omega)]
theorem gh_sz_set {kd kd' : Nat} {vs vs' : List Value} : ∀ {G : gh_H} {a : Nat}, G[a]? = some (kd, vs) → vs'.length = vs.length → gh_sz (G.set a (kd', vs')) = gh_sz G := by
  intro G
  induction G with
  | nil => intro a h; simp at h
  | cons d G ih =>
    intro a h hl
    cases a with
    | zero =>
      simp only [List.getElem?_cons_zero, Option.some.injEq] at h
      subst h
      simp [gh_sz, hl]
    | succ a =>
      have := ih (a := a) (by simpa using h) hl
      simp only [gh_sz, List.set_cons_succ, List.map_cons, List.sum_cons] at this ⊢
      omega
theorem gh_sz_push (G : gh_H) (kd : Nat) (vs : List Value) : gh_sz (G ++ [(kd, vs)]) = gh_sz G + vs.length := by
  simp [gh_sz]
theorem gh_fits_em (z : gh_Z) (ty : FieldType) (v : Value) : fits ty (gh_em z v) = fits ty v := by
  cases v <;> cases ty <;> rfl
theorem gh_narrow_em (z : gh_Z) {ty : FieldType} {v : Value} (h : narrow ty v = v) : narrow ty (gh_em z v) = gh_em z v := by
  cases v with
  | ref a => cases ty <;> rfl
  | int x => exact h
  | _ => cases ty <;> rfl
theorem gh_ix_in {i : Int32} {n : Nat} (h : gh_ix i n = true) : vp_in i n := by
  unfold gh_ix at h
  intro hq
  rcases hq with hq | hq <;> simp [hq] at h
theorem gh_ix_lt {i : Int32} {n : Nat} (h : vp_in i n) : i.toNatClampNeg < n := Nat.not_le.mp fun q => h (Or.inr q)
def gh_fin (ci k : Nat) : Bool := ((vwCl.getD ci ("", fun _ => ("", "", "", false), 0)).2.1 k).2.2.2
/-- a final field is written in a constructor of its own class alone -/
def gh_putB (own : Nat) (nm : String) (K : List (Nat × Instr × Nat)) : Bool := K.all fun e => match e.2.1 with
  | .putfield idx => match gh_fR own idx with
    | some (ci, k) => !gh_fin ci k || (decide (nm = "<init>") && decide ((vwCl.getD ci ("", fun _ => ("", "", "", false), 0)).1 = gh_on own))
    | none => true
  | _ => true
section GS
variable {z : gh_Z} {p : Program} {l : Launch} {e : Env} {R : Room} {s : State} {m : MethodId} {args : Array Value} {below : List Frame} {meth : Method} {c : Code} {nL g0 z0 k0 y0 own : Nat} {Q : State → Prop} {cc : ByteArray} {rt : Option FieldType} {nm : String} {pc pc' : Nat} {lo lo' : gh_L} {st st' : List Value} {G G' : gh_H}
theorem gh_T_at (k : gh_T z p l e R s m args below meth c nL g0 z0 Q k0 y0 pc lo st G') (h1 : G'.length = G.length) (h2 : gh_sz G' = gh_sz G) {H : Heap} {locs : List Loc} {ls : Array Slot} (hR : gh_Rel z G' H) (hS : va_S (gh_A z) s.heap H locs) (hl : lv_has ls nL (gh_lm z lo)) :
    W p l e R s m args below meth c H locs (G.length - g0 + k0) (gh_sz G - z0 + y0) Q (F0 m pc ls (st.map (gh_em z))) := by
  have := k H locs ls hR hS hl
  rw [h1, h2] at this
  exact this
theorem gs_get (hC : gh_Cx z p s m args meth c own cc nL rt nm) {idx ci k : Nat} (hf : gh_fR own idx = some (ci, k)) (hd : decode cc pc = .ok (.getfield idx, 3)) (h : gh_get ci k pc lo st G = some (.inl (pc', lo', st', G')))
    (kk : gh_T z p l e R s m args below meth c nL g0 z0 Q k0 y0 pc' lo' st' G') : gh_T z p l e R s m args below meth c nL g0 z0 Q k0 y0 pc lo st G := by
  obtain ⟨hx, hb, -, -, -, hown, hts, hKB, -⟩ := hC
  unfold gh_get at h
  split at h
  · next a r =>
    split at h
    · next vs hat =>
      split at h
      · next v hv =>
        obtain ⟨rfl, rfl, rfl, rfl⟩ := gh_go_inv h
        obtain ⟨C, T, N, hc, hk, hT, hl9⟩ := gh_fAll own _ (gh_look hf)
        obtain ⟨hci, hin, hty, hnm⟩ := gh_cls ci C T N hc
        intro H locs ls hR hS hl
        have hG := gh_at_inv hat
        have he := gh_W_get (z := z) hG (gh_at0 hR hG (by omega))
        rw [gh_ce_o z vs hci] at he
        have hv' : (vs.map (gh_em z))[k]? = some (gh_em z v) := by rw [List.getElem?_map, hv]; rfl
        have K := kk H locs ls hR hS hl
        rcases hl9 with ⟨h1, -⟩ | ⟨-, host, h1⟩ | ⟨-, -, h1 | ⟨host, h1⟩⟩
        · exact va_get hx hb hts hin hown hKB.1 hR.1 (a - 1) he hc k hk (hts _ h1) (fun _ q => q) hv' hd K
        · exact va_getN hx hb hts hin hown hKB.1 hR.1 (a - 1) he hc k hk (va_Nw.use rfl (hKB.2.2.2.2.1 _ h1)) (fun _ q => q) hv' hd K
        · exact va_get hx hb hts hin hown hKB.1 hR.1 (a - 1) he hc k hk (hts _ h1) (fun _ q => q) hv' hd K
        · exact va_getN hx hb hts hin hown hKB.1 hR.1 (a - 1) he hc k hk (va_Nw.use rfl (hKB.2.2.2.2.1 _ h1)) (fun _ q => q) hv' hd K
      · cases h
    · cases h
  · cases h
theorem gs_put (hC : gh_Cx z p s m args meth c own cc nL rt nm) {idx ci k : Nat} (hf : gh_fR own idx = some (ci, k)) (hfin : gh_fin ci k = true → nm = "<init>" ∧ (vwCl.getD ci ("", fun _ => ("", "", "", false), 0)).1 = gh_on own) (hd : decode cc pc = .ok (.putfield idx, 3)) (h : gh_put (gh_fty ci k) ci k pc lo st G = some (.inl (pc', lo', st', G')))
    (kk : gh_T z p l e R s m args below meth c nL g0 z0 Q k0 y0 pc' lo' st' G') : gh_T z p l e R s m args below meth c nL g0 z0 Q k0 y0 pc lo st G := by
  obtain ⟨hx, hb, -, -, -, hown, hts, hKB, hnm9⟩ := hC
  unfold gh_put at h
  split at h
  · next v a r =>
    split at h
    · next vs hat =>
      split at h
      · next hv =>
        obtain ⟨hkl, hfit, hnar⟩ := hv
        obtain ⟨rfl, rfl, rfl, rfl⟩ := gh_go_inv h
        obtain ⟨C, T, N, hc, hk, hT, hl9⟩ := gh_fAll own _ (gh_look hf)
        obtain ⟨hci, hin, hty, hnm⟩ := gh_cls ci C T N hc
        have hgd : vwCl.getD ci ("", fun _ => ("", "", "", false), 0) = (C, T, N) := by rw [List.getD_eq_getElem?_getD, hc]; rfl
        have hfi : gh_fin ci k = (T k).2.2.2 := by unfold gh_fin; rw [hgd]
        rw [hgd, hfi] at hfin
        intro H locs ls hR hS hl
        have hG := gh_at_inv hat
        have ha := gh_at0 hR hG (by omega)
        have he := gh_W_get (z := z) hG ha
        rw [gh_ce_o z vs hci] at he
        have hfit' : fits (gh_fty ci k) (gh_em z v) = true := by rw [gh_fits_em]; exact hfit
        have hnar' := gh_narrow_em z hnar
        have hkl' : k < (vs.map (gh_em z)).length := by rw [List.length_map]; exact hkl
        have K : ∀ (H1 : Heap) (locs1 : List Loc), va_P z.1 vwCl ((gh_W z G).set (a - 1) (gh_ad z a, .inr (ci, (vs.map (gh_em z)).set k (gh_em z v)))) H1 → va_D (gh_A z) ((gh_W z G).set (a - 1) (gh_ad z a, .inr (ci, (vs.map (gh_em z)).set k (gh_em z v)))) → va_S (gh_A z) s.heap H1 locs1 →
            W p l e R s m args below meth c H1 locs1 (G.length - g0 + k0) (gh_sz G - z0 + y0) Q (F0 m (pc + 3) ls (r.map (gh_em z))) := by
          intro H1 locs1 hP1 _ hS1
          refine gh_T_at kk (List.length_set ..) (gh_sz_set hG (List.length_set ..)) ⟨?_, ?_⟩ hS1 hl
          · rw [gh_W_set ha, gh_ce_o z _ hci, List.map_set]
            exact hP1
          · rw [List.getElem?_set_ne ha]
            exact hR.2
        by_cases hf9 : (T k).2.2.2 = true
        · obtain ⟨hn9, hC9⟩ := hfin hf9
          rcases hl9 with ⟨h1, -⟩ | ⟨h1, -⟩ | ⟨-, h1, -⟩
          · exact va_putF hx hb hts hin (gh_fty ci) hty hnm hown hKB.1 hR.1 (gh_W_D z G) hS (a - 1) he hc k hk (hts _ h1) (fun _ q => q) hf9 (hnm9.trans hn9) (hT.trans hC9) (hty k hk) hnar' hfit' hkl' hd K
          · rw [h1] at hf9; cases hf9
          · exact absurd hC9 h1
        · rw [Bool.not_eq_true] at hf9
          rcases hl9 with ⟨h1, -⟩ | ⟨-, host, h1⟩ | ⟨h1, -⟩
          · exact va_put hx hb hts hin (gh_fty ci) hty hnm hown hKB.1 hR.1 (gh_W_D z G) hS (a - 1) he hc k hk (hts _ h1) (fun _ q => q) hf9 (hty k hk) hnar' hfit' hkl' hd K
          · exact va_putN hx hb hts hin (gh_fty ci) hty hnm hown hKB.1 hR.1 (gh_W_D z G) hS (a - 1) he hc k hk (va_Nw.use rfl (hKB.2.2.2.2.1 _ h1)) (fun _ q => q) hf9 (hty k hk) hnar' hfit' hkl' hd K
          · rw [h1] at hf9; cases hf9
      · cases h
    · cases h
  · cases h
theorem gh_scr (xs : List Int32) (i : Nat) : gh_toI ((xs.map Value.int).getD i .null) = xs.getD i 0 := by
  rw [List.getD_eq_getElem?_getD, List.getD_eq_getElem?_getD, List.getElem?_map]
  cases xs[i]? <;> rfl
theorem gh_em_int (z : gh_Z) (x : Int32) : gh_em z (.int x) = .int x := rfl
theorem gh_ald_inv {f : Value → Value} {kd : Nat} (h : gh_ald kd pc f lo st G = some (.inl (pc', lo', st', G'))) : ∃ i a r vs, st = .int i :: .ref a :: r ∧ G[a]? = some (kd, vs) ∧ vp_in i vs.length ∧ pc + 1 = pc' ∧ lo = lo' ∧ f (vs.getD i.toNatClampNeg .null) :: r = st' ∧ G = G' := by
  unfold gh_ald at h
  split at h
  · split at h
    · next vs hat =>
      split at h
      · next hi => exact ⟨_, _, _, _, rfl, gh_at_inv hat, gh_ix_in hi, gh_go_inv h⟩
      · cases h
    · cases h
  · cases h
theorem gh_ast_inv {f : Value → Bool} {kd : Nat} (h : gh_ast kd pc f lo st G = some (.inl (pc', lo', st', G'))) : ∃ v i a vs, st = v :: .int i :: .ref a :: st' ∧ G[a]? = some (kd, vs) ∧ a ≠ 0 ∧ vp_in i vs.length ∧ f v = true ∧ pc + 1 = pc' ∧ lo = lo' ∧ G.set a (kd, vs.set i.toNatClampNeg v) = G' := by
  unfold gh_ast at h
  split at h
  · split at h
    · next vs hat =>
      split at h
      · cases h
      · next ha =>
        split at h
        · next hi =>
          obtain ⟨rfl, rfl, rfl, rfl⟩ := gh_go_inv h
          exact ⟨_, _, _, _, rfl, gh_at_inv hat, ha, gh_ix_in hi.1, hi.2, rfl, rfl, rfl⟩
        · cases h
    · cases h
  · cases h
theorem gs_iald (hC : gh_Cx z p s m args meth c own cc nL rt nm) (hd : decode cc pc = .ok (.iaload, 1)) (h : gh_ald 20 pc (fun v => .int (gh_toI v)) lo st G = some (.inl (pc', lo', st', G')))
    (kk : gh_T z p l e R s m args below meth c nL g0 z0 Q k0 y0 pc' lo' st' G') : gh_T z p l e R s m args below meth c nL g0 z0 Q k0 y0 pc lo st G := by
  obtain ⟨hx, hb, -, -, -, hown, hts, hKB, -⟩ := hC
  obtain ⟨i, a, r, vs, rfl, hG, hi, rfl, rfl, rfl, rfl⟩ := gh_ald_inv h
  intro H locs ls hR hS hl
  have K := kk H locs ls hR hS hl
  by_cases ha : a = 0
  · subst ha
    have h0 : G[0]? = some (20, z.2.2.2.2.map .int) := by
      rcases hR.2 with h0 | h0
      · exact h0
      · rw [h0] at hG; cases hG
    rw [h0] at hG
    cases hG
    rw [List.length_map] at hi
    simp only [List.map_cons, gh_em_int, gh_scr] at K
    exact va_sld hx hb hKB.2.1 (Nat.lt_of_lt_of_le hKB.2.2.1 hKB.2.2.2.1) (Nat.not_le.mpr hKB.2.2.1) hS hi hd K
  · exact va_iald hx hb hKB.1 hR.1 (a - 1) 0 (gh_W_get hG ha) rfl hi hd K
theorem gs_lald (hC : gh_Cx z p s m args meth c own cc nL rt nm) (hd : decode cc pc = .ok (.laload, 1)) (h : gh_ald 21 pc (fun v => .long (gh_toJ v)) lo st G = some (.inl (pc', lo', st', G')))
    (kk : gh_T z p l e R s m args below meth c nL g0 z0 Q k0 y0 pc' lo' st' G') : gh_T z p l e R s m args below meth c nL g0 z0 Q k0 y0 pc lo st G := by
  obtain ⟨hx, hb, -, -, -, hown, hts, hKB, -⟩ := hC
  obtain ⟨i, a, r, vs, rfl, hG, hi, rfl, rfl, rfl, rfl⟩ := gh_ald_inv h
  intro H locs ls hR hS hl
  exact va_lald hx hb hKB.1 hR.1 (a - 1) 1 (gh_W_get hG (gh_at0 hR hG (by decide))) rfl hi hd (kk H locs ls hR hS hl)
theorem gs_zald (hC : gh_Cx z p s m args meth c own cc nL rt nm) (hd : decode cc pc = .ok (.baload, 1)) (h : gh_ald 22 pc (fun v => .int (gh_toI v)) lo st G = some (.inl (pc', lo', st', G')))
    (kk : gh_T z p l e R s m args below meth c nL g0 z0 Q k0 y0 pc' lo' st' G') : gh_T z p l e R s m args below meth c nL g0 z0 Q k0 y0 pc lo st G := by
  obtain ⟨hx, hb, -, -, -, hown, hts, hKB, -⟩ := hC
  obtain ⟨i, a, r, vs, rfl, hG, hi, rfl, rfl, rfl, rfl⟩ := gh_ald_inv h
  intro H locs ls hR hS hl
  exact va_zald hx hb hKB.1 hR.1 (a - 1) 2 (gh_W_get hG (gh_at0 hR hG (by decide))) rfl hi hd (kk H locs ls hR hS hl)
theorem gh_re_em (z : gh_Z) (v : Value) : va_rf (gh_re z v) = gh_em z (gh_toA v) := by cases v <;> rfl
theorem gs_aald (hC : gh_Cx z p s m args meth c own cc nL rt nm) (hd : decode cc pc = .ok (.aaload, 1)) (h : gh_ald 23 pc gh_toA lo st G = some (.inl (pc', lo', st', G')))
    (kk : gh_T z p l e R s m args below meth c nL g0 z0 Q k0 y0 pc' lo' st' G') : gh_T z p l e R s m args below meth c nL g0 z0 Q k0 y0 pc lo st G := by
  obtain ⟨hx, hb, -, -, -, hown, hts, hKB, -⟩ := hC
  obtain ⟨i, a, r, vs, rfl, hG, hi, rfl, rfl, rfl, rfl⟩ := gh_ald_inv h
  intro H locs ls hR hS hl
  have K := kk H locs ls hR hS hl
  rw [List.map_cons, ← gh_re_em] at K
  exact va_aldq hx hb hKB.1 hR.1 (a - 1) 3 (gh_W_get hG (gh_at0 hR hG (by decide))) rfl hi hd K
theorem gh_setI {vs : List Value} {i : Nat} (h : i < vs.length) (x : Int32) : (fun j => gh_toI ((vs.set i (.int x)).getD j .null)) = upd (fun j => gh_toI (vs.getD j .null)) i x := by
  funext j
  unfold upd
  simp only [List.getD_eq_getElem?_getD, List.getElem?_set]
  by_cases hj : j = i
  · subst hj
    simp [h, gh_toI]
  · simp [hj, Ne.symm hj]
theorem gh_setJ {vs : List Value} {i : Nat} (h : i < vs.length) (x : Int64) : (fun j => gh_toJ ((vs.set i (.long x)).getD j .null)) = vp_updL (fun j => gh_toJ (vs.getD j .null)) i x := by
  funext j
  unfold vp_updL
  simp only [List.getD_eq_getElem?_getD, List.getElem?_set]
  by_cases hj : j = i
  · subst hj
    simp [h, gh_toJ]
  · simp [hj, Ne.symm hj]
theorem gh_setA (z : gh_Z) {vs : List Value} {i : Nat} (h : i < vs.length) (b : Nat) : (fun j => gh_re z ((vs.set i (.ref b)).getD j .null)) = va_up (fun j => gh_re z (vs.getD j .null)) i (some (gh_ad z b)) := by
  funext j
  unfold va_up
  simp only [List.getD_eq_getElem?_getD, List.getElem?_set]
  by_cases hj : j = i
  · subst hj
    simp [h, gh_re]
  · simp [hj, Ne.symm hj]
/-- a store behind the kit's row -/
theorem gs_after {a kd : Nat} {vs vs' : List Value} (hG : G[a]? = some (kd, vs)) (ha : a ≠ 0) (hlen : vs'.length = vs.length) (kk : gh_T z p l e R s m args below meth c nL g0 z0 Q k0 y0 pc' lo st' (G.set a (kd, vs'))) {H : Heap} (hR : gh_Rel z G H) {ls : Array Slot} (hl : lv_has ls nL (gh_lm z lo)) {ce : va_E} (hce : gh_ce z (kd, vs') = ce) :
    ∀ (H1 : Heap) (locs1 : List Loc), va_P z.1 vwCl ((gh_W z G).set (a - 1) (gh_ad z a, ce)) H1 → va_D (gh_A z) ((gh_W z G).set (a - 1) (gh_ad z a, ce)) → va_S (gh_A z) s.heap H1 locs1 → W p l e R s m args below meth c H1 locs1 (G.length - g0 + k0) (gh_sz G - z0 + y0) Q (F0 m pc' ls (st'.map (gh_em z))) := by
  intro H1 locs1 hP1 _ hS1
  refine gh_T_at kk (List.length_set ..) (gh_sz_set hG hlen) ⟨?_, ?_⟩ hS1 hl
  · rw [gh_W_set ha, hce]
    exact hP1
  · rw [List.getElem?_set_ne ha]
    exact hR.2
theorem gs_iast (hC : gh_Cx z p s m args meth c own cc nL rt nm) (hd : decode cc pc = .ok (.iastore, 1)) (h : gh_ast 20 pc gh_isI lo st G = some (.inl (pc', lo', st', G')))
    (kk : gh_T z p l e R s m args below meth c nL g0 z0 Q k0 y0 pc' lo' st' G') : gh_T z p l e R s m args below meth c nL g0 z0 Q k0 y0 pc lo st G := by
  obtain ⟨hx, hb, -, -, -, hown, hts, hKB, -⟩ := hC
  obtain ⟨v, i, a, vs, rfl, hG, ha, hi, hv, rfl, rfl, rfl⟩ := gh_ast_inv h
  obtain ⟨x, rfl⟩ := gh_isI_inv hv
  intro H locs ls hR hS hl
  refine va_iast hx hb hKB.1 hR.1 (gh_W_D z G) hS (a - 1) 0 (gh_W_get hG ha) rfl hi hd (gs_after hG ha (List.length_set ..) kk hR hl ?_)
  rw [← gh_setI (gh_ix_lt hi) x]
  simp [gh_ce]
theorem gs_last (hC : gh_Cx z p s m args meth c own cc nL rt nm) (hd : decode cc pc = .ok (.lastore, 1)) (h : gh_ast 21 pc gh_isJ lo st G = some (.inl (pc', lo', st', G')))
    (kk : gh_T z p l e R s m args below meth c nL g0 z0 Q k0 y0 pc' lo' st' G') : gh_T z p l e R s m args below meth c nL g0 z0 Q k0 y0 pc lo st G := by
  obtain ⟨hx, hb, -, -, -, hown, hts, hKB, -⟩ := hC
  obtain ⟨v, i, a, vs, rfl, hG, ha, hi, hv, rfl, rfl, rfl⟩ := gh_ast_inv h
  obtain ⟨x, rfl⟩ := gh_isJ_inv hv
  intro H locs ls hR hS hl
  refine va_last hx hb hKB.1 hR.1 (gh_W_D z G) hS (a - 1) 1 (gh_W_get hG ha) rfl hi hd (gs_after hG ha (List.length_set ..) kk hR hl ?_)
  rw [← gh_setJ (gh_ix_lt hi) x]
  simp [gh_ce]
theorem gh_fz01 {v : Value} (h : fits .boolean v = true) : ∃ x, v = .int x ∧ vp_nar .boolean x = x := by
  cases v with
  | int x =>
    refine ⟨x, rfl, ?_⟩
    have h2 : (x == 0 || x == 1) = true := h
    rw [Bool.or_eq_true, beq_iff_eq, beq_iff_eq] at h2
    rcases h2 with rfl | rfl <;> rfl
  | _ => cases h
theorem gs_zast (hC : gh_Cx z p s m args meth c own cc nL rt nm) (hd : decode cc pc = .ok (.bastore, 1)) (h : gh_ast 22 pc (fun v => fits .boolean v) lo st G = some (.inl (pc', lo', st', G')))
    (kk : gh_T z p l e R s m args below meth c nL g0 z0 Q k0 y0 pc' lo' st' G') : gh_T z p l e R s m args below meth c nL g0 z0 Q k0 y0 pc lo st G := by
  obtain ⟨hx, hb, -, -, -, hown, hts, hKB, -⟩ := hC
  obtain ⟨v, i, a, vs, rfl, hG, ha, hi, hv, rfl, rfl, rfl⟩ := gh_ast_inv h
  obtain ⟨x, rfl, hx1⟩ := gh_fz01 hv
  intro H locs ls hR hS hl
  refine va_zast hx hb hKB.1 hR.1 (gh_W_D z G) hS (a - 1) 2 (gh_W_get hG ha) rfl hi hd (gs_after hG ha (List.length_set ..) kk hR hl ?_)
  rw [hx1, ← gh_setI (gh_ix_lt hi) x]
  simp [gh_ce]
theorem gs_aast (hC : gh_Cx z p s m args meth c own cc nL rt nm) (hd : decode cc pc = .ok (.aastore, 1)) (h : gh_ast 23 pc (fun v => match v with | .ref a => decide (a ≠ 0) && (gh_at G 1 a).isSome | _ => false) lo st G = some (.inl (pc', lo', st', G')))
    (kk : gh_T z p l e R s m args below meth c nL g0 z0 Q k0 y0 pc' lo' st' G') : gh_T z p l e R s m args below meth c nL g0 z0 Q k0 y0 pc lo st G := by
  obtain ⟨hx, hb, -, -, -, hown, hts, hKB, -⟩ := hC
  obtain ⟨v, i, a, vs, rfl, hG, ha, hi, hv, rfl, rfl, rfl⟩ := gh_ast_inv h
  cases v with
  | ref b =>
    simp only [Bool.and_eq_true, decide_eq_true_eq, Option.isSome_iff_exists] at hv
    obtain ⟨hb0, ws, hw⟩ := hv
    have hGb := gh_at_inv hw
    intro H locs ls hR hS hl
    have hv9 := gh_W_get (z := z) hGb hb0
    rw [gh_ce_o z ws (by omega)] at hv9
    refine va_astq (r := (RX1, TX1, 11)) hx hb hKB.1 hR.1 (gh_W_D z G) hS (a - 1) 3 (b - 1) 1 (gh_W_get hG ha) rfl hv9 rfl hi hd (gs_after hG ha (List.length_set ..) kk hR hl ?_)
    rw [← gh_setA z (gh_ix_lt hi) b]
    simp [gh_ce]
  | _ => cases hv
theorem gs_len (hC : gh_Cx z p s m args meth c own cc nL rt nm) (hd : decode cc pc = .ok (.arraylength, 1)) (h : gh_len pc lo st G = some (.inl (pc', lo', st', G')))
    (kk : gh_T z p l e R s m args below meth c nL g0 z0 Q k0 y0 pc' lo' st' G') : gh_T z p l e R s m args below meth c nL g0 z0 Q k0 y0 pc lo st G := by
  obtain ⟨hx, hb, -, -, -, hown, hts, hKB, -⟩ := hC
  unfold gh_len at h
  split at h
  · next a r =>
    split at h
    · next kd vs hG =>
      split at h
      · next hk =>
        obtain ⟨rfl, rfl, rfl, rfl⟩ := gh_go_inv h
        intro H locs ls hR hS hl
        have K := kk H locs ls hR hS hl
        by_cases ha : a = 0
        · subst ha
          have h0 : G[0]? = some (20, z.2.2.2.2.map .int) := by
            rcases hR.2 with h0 | h0
            · exact h0
            · rw [h0] at hG
              cases hG
              rcases hk with hk | ⟨hk, -⟩
              · cases hk
              · exact absurd rfl hk
          rw [h0] at hG
          cases hG
          rw [List.length_map] at K
          exact va_slen hx hb hKB.2.1 (Nat.lt_of_lt_of_le hKB.2.2.1 hKB.2.2.2.1) (Nat.not_le.mpr hKB.2.2.1) hS hd K
        · rcases hk with rfl | ⟨-, rfl | rfl⟩
          · exact va_alen hx hb hKB.1 hR.1 (a - 1) 0 (gh_W_get hG ha) rfl rfl hd K
          · exact va_alen hx hb hKB.1 hR.1 (a - 1) 1 (gh_W_get hG ha) rfl rfl hd K
          · exact va_alen hx hb hKB.1 hR.1 (a - 1) 3 (gh_W_get hG ha) rfl rfl hd K
      · cases h
    · cases h
  · cases h
end GS
