section DE2
variable {σ σ' : gb_S} {c n nb nd : Nat} {P : pT} {ps : Nat → Nat} {De : Nat → dT} {Cf : Nat → List Nat} {C : List Nat}
theorem ct_end {b : Nat → Bool} {m : Nat} (h : n ≤ m) (hz : ∀ i, n ≤ i → i < m → b i = false) : ct b m = ct b n := by
  induction m with
  | zero => rw [show n = 0 by omega]
  | succ m ih =>
    by_cases hq : n = m + 1
    · rw [hq]
    · rw [ct_last (hz m (by omega) (by omega)), ih (by omega) (fun i h1 h2 => hz i h1 (by omega))]
theorem CR_keep {d : Nat} (h1 : σ' 202 d = σ 202 d) (h2 : ∀ k, k < 14 → σ' 201 (14 * d + k) = σ 201 (14 * d + k)) (h : CR σ d n C) : CR σ' d n C :=
  ⟨by rw [h1]; exact h.1, h.2.1, h.2.2.1, h.2.2.2.1, fun k hk => by have := h.2.1; rw [h2 k (by omega)]; exact h.2.2.2.2 k hk⟩
theorem r138e {k50 : Int → Int → Int → gb_S → Option gb_P} {z : Int} {d p : Nat} (hd : d < 14) (hc : CR σ d n C) (h1 : σ 198 d = 1) (f : Nat) : fx_138_65 (f + 1) k50 (p : Int) z (d : Int) 0 0 σ = k50 (p : Int) (z + 0) ((d : Int) + 1) σ := by
  have e2 : fx_138_146 k50 (p : Int) z (d : Int) 0 σ = k50 (p : Int) (z + 0) ((d : Int) + 1) σ := by
    unfold fx_138_146 fx_138_171
    rw [gq_ix (by omega) (by omega), Int.toNat_natCast, h1, gq_R (by omega) (by omega), if_neg (by decide), gq_ix (by omega) (by omega), gq_R (by omega) (by omega), if_neg (by decide), up_self]
  have hl := hc.2.1
  have h2 := hc.1
  rw [fx_138_65, gq_ix (by omega) (by omega), gq_R (by omega) (by omega), Int.toNat_natCast, gq_R (by omega) (by omega)]
  by_cases hq : 0 < σ 202 d
  · rw [if_pos hq, h1, gq_R (by omega) (by omega), if_neg (by decide), e2]
  · rw [if_neg hq, e2]
theorem r138 {g : Nat → Int} {p : Nat} (hn : n ≤ 14) (hp : p < 14) (hg : ∀ d, d < 14 → g d = 0 ∨ g d = 1) : ∀ (m f : Nat) (σ : gb_S), m ≤ n → m < f → (∀ d, d < 14 → σ 198 d = g d) → σ 187 3 = (n : Int) → (∀ d, d < n - m → CR σ d n (Cd g Cf p d)) → (∀ d, n - m ≤ d → d < 14 → CR σ d n (Cf d)) → ∃ s', fx_138_50 f (p : Int) ((ct (Kd g Cf p) (n - m) : Nat) : Int) ((n - m : Nat) : Int) σ = some (.inl ((ct (Kd g Cf p) n : Nat) : Int), s') ∧ (∀ d, d < n → CR s' d n (Cd g Cf p d)) ∧ (∀ d, n ≤ d → d < 14 → CR s' d n (Cf d)) ∧ ∀ c, c ≠ 201 → c ≠ 202 → s' c = σ c := by
  intro m
  induction m with
  | zero =>
    intro f σ _ hf h198 h3 i1 i2
    obtain ⟨f, rfl⟩ : ∃ q, f = q + 1 := ⟨f - 1, by omega⟩
    refine ⟨σ, ?_, fun d hd => i1 d (by omega), fun d h1 h2 => i2 d (by omega) h2, fun _ _ _ => rfl⟩
    rw [fx_138_50, gq_R (by omega) (by omega), h3, gq_R (by omega) (by omega), if_neg (by omega), Nat.sub_zero]
  | succ m ih =>
    intro f σ hm hf h198 h3 i1 i2
    obtain ⟨f, rfl⟩ : ∃ q, f = q + 1 := ⟨f - 1, by omega⟩
    have ih := fun s => ih f s (by omega) (by omega)
    generalize hi : n - (m + 1) = i at i1 i2 ⊢
    have hi2 : n - m = i + 1 := by omega
    rw [hi2] at ih
    have hc := i2 i (Nat.le_refl _) (by omega)
    have h198i := h198 i (by omega)
    rw [fx_138_50, gq_R (by omega) (by omega), h3, gq_R (by omega) (by omega), if_pos (by omega)]
    rcases hg i (by omega) with h0 | h1
    · have hK : ct (Kd g Cf p) (i + 1) = ct (Kd g Cf p) i + (if (Cf i).contains p = true then 1 else 0) := by
        rw [ct]; unfold Kd; rw [decide_eq_true h0, Bool.true_and]
      obtain ⟨s1, e1, k1, k2, k3, k4⟩ := r138o (C := Cf i) (k50 := fx_138_50 f) (z := ((ct (Kd g Cf p) i : Nat) : Int)) (d := i) (p := p) (by omega) hn hp hc.2.1 hc.2.2.1 hc.2.2.2.1 (Cf i).length gFU σ (Nat.le_refl _) (by have := hc.2.1; unfold gFU; omega) hc.1 (by rw [h198i, h0]) (fun j hj => by
        rw [Nat.sub_self, List.take_zero] at hj
        exact absurd hj (Nat.not_lt_zero _)) (fun j _ hj => hc.2.2.2.2 j hj)
      rw [Nat.sub_self, List.take_zero] at e1
      have e1' : fx_138_65 gFU (fx_138_50 f) (p : Int) ((ct (Kd g Cf p) i : Nat) : Int) (i : Int) 0 0 σ = fx_138_50 f (p : Int) (((ct (Kd g Cf p) i : Nat) : Int) + (if (Cf i).contains p = true then 1 else 0)) ((i : Int) + 1) s1 := e1
      have keep : ∀ d, d < 14 → d ≠ i → ∀ C : List Nat, CR σ d n C → CR s1 d n C := fun d _ hdi C h => CR_keep (k3 d hdi) (fun k hk => k2 _ (by omega)) h
      have ihs := ih s1 (fun d hd => by rw [k4 198 (by omega) (by omega)]; exact h198 d hd) (by rw [k4 187 (by omega) (by omega)]; exact h3) (fun d hd => by
        by_cases hdi : d = i
        · rw [hdi]; unfold Cd; rw [if_pos h0]; exact k1
        · exact keep d (by omega) hdi _ (i1 d (by omega))) (fun d h1 h2 => keep d h2 (by omega) _ (i2 d (by omega) h2))
      obtain ⟨s2, e2, r1, r2, r3⟩ := ihs
      refine ⟨s2, ?_, r1, r2, fun c h1 h2 => by rw [r3 c h1 h2, k4 c h1 h2]⟩
      rw [e1', ← e2, hK, show ((i : Nat) : Int) + 1 = ((i + 1 : Nat) : Int) by omega]
      congr 1
      cases (Cf i).contains p <;> simp
    · have hK : ct (Kd g Cf p) (i + 1) = ct (Kd g Cf p) i := by
        refine ct_last ?_
        unfold Kd
        rw [decide_eq_false (by omega), Bool.false_and]
      rw [hK] at ih
      have := r138e (k50 := fx_138_50 f) (z := ((ct (Kd g Cf p) i : Nat) : Int)) (d := i) (p := p) (by omega) hc (by rw [h198i, h1]) (gFU - 1)
      rw [show gFU - 1 + 1 = gFU from rfl, Int.add_zero] at this
      rw [this, show ((i : Nat) : Int) + 1 = ((i + 1 : Nat) : Int) by omega]
      exact ih σ h198 h3 (fun d hd => by
        by_cases hdi : d = i
        · rw [hdi]; unfold Cd; rw [if_neg (by omega)]; exact hc
        · exact i1 d (by omega)) (fun d h1 h2 => i2 d (by omega) h2)
/-- 3: death -/
theorem uc3 {x : Int} (h1 : -2147483648 ≤ x ∧ x ≤ 2147483647) (hi : IV2 c σ n nb nd P ps De Cf) : CM rI c (fx_198 x) (fx_138 x) σ := by
  have hn := hi.1.1
  have hday := hi.2.2.1
  have h23 := hi.2.2.2.1.1
  have hN := hi.1.2.1
  have hE0 := hi.2.2.2.2.2.2.1
  by_cases hx : 0 ≤ x ∧ x < (n : Int)
  · obtain ⟨p, rfl⟩ : ∃ p : Nat, x = (p : Int) := ⟨x.toNat, by omega⟩
    have hp : p < n := by omega
    have h9p := ((hi.1.2.2.2.2.2.2.2.2.1) p hp).2
    by_cases ha : σ 189 p = -1
    · obtain ⟨b1, b2, b3, b4, b5, b6, b7, b8, b9, b10, b11⟩ := id hi.1
      obtain ⟨o1, o2, o3, o4, o5, o6⟩ := id hi.2.2.2.1
      have hg : ∀ d, d < 14 → σ 198 d = 0 ∨ σ 198 d = 1 := fun d hd => (hE0 d hd).2.2.2.2.2.1
      have hlate : ∀ d, n ≤ d → d < 14 → Cf d = [] := fun d h1 h2 => ((hE0 d h2).2.2.2.2.2.2.2.2.1 h1).2.1
      have hK14 : ct (Kd (σ 198) Cf p) 14 = ct (Kd (σ 198) Cf p) n := ct_end hn (fun i h1 h2 => by
        unfold Kd; rw [hlate i h1 h2]; simp)
      have hKle := ct_le (Kd (σ 198) Cf p) n
      -- the class
      generalize hsa : gb_up (gb_up σ 4 p (σ 1 9)) 2 4 (gb_or (σ 2 4) (gb_shl 1 (p : Int))) = sa0
      have fa : ∀ c, c ≠ 2 → c ≠ 4 → sa0 c = σ c := fun c h1 h2 => by rw [← hsa, up_ne _ _ _ _ h1, up_ne _ _ _ _ h2]
      obtain ⟨sA, eA, rA, jA, fA⟩ := c82 (Cf := Cf) (g := σ 198) (p := p) hn (by omega) hg 14 gFU sa0 (Nat.le_refl _) (by unfold gFU; omega) (fun d hd => by rw [fa _ (by omega) (by omega)]; exact (hE0 d hd).2.2.2.2.1) (fun d hd => by omega) (fun d _ hd => CL_cong (fa _ (by omega) (by omega)) (fa _ (by omega) (by omega)) (hE0 d hd).2.2.1)
      have eA' : fx_82_26 gFU (p : Int) 0 0 sa0 = some (.inl ((ct (Kd (σ 198) Cf p) 14 : Nat) : Int), sA) := eA
      have hc1 : fx_198 (p : Int) σ = some (.inl 0, gb_up sA 224 0 ((ct (Kd (σ 198) Cf p) n : Nat) : Int)) := by
        unfold fx_198 fx_82
        rw [c110y hp hn h23, gc_v, alive_yes hi hp ha, gc_v]
        unfold fx_23
        rw [gq_R (by omega) (by omega), if_neg (by omega), if_pos (by omega), gq_ix (by omega) (by omega), Int.toNat_natCast, up_ne _ _ _ _ (by omega : (2 : Nat) ≠ 4), hsa, gc_v, eA', gch_v, hK14, gq_R (by omega) (by omega)]
      generalize hs1 : gb_up sA 224 0 ((ct (Kd (σ 198) Cf p) n : Nat) : Int) = s1 at hc1
      have f1 : ∀ c, c ≠ 2 → c ≠ 4 → c ≠ 224 → (c < 47 ∨ 187 ≤ c ∨ (c % 10 ≠ 7 ∧ c % 10 ≠ 9)) → s1 c = σ c := fun c h1 h2 h3 h4 => by
        rw [← hs1, up_ne _ _ _ _ h3, fA c (fun d hd => by omega), fa c h1 h2]
      have j1 : ∀ d j, d < 14 → j ≠ 3 → s1 (47 + 10 * d) j = σ (47 + 10 * d) j := fun d j hd hj => by
        rw [← hs1, up_ne _ _ _ _ (by omega), jA d j hd hj, fa _ (by omega) (by omega)]
      have h187 : s1 187 = σ 187 := f1 187 (by omega) (by omega) (by omega) (by omega)
      -- the reference
      generalize hs3 : gb_up (gb_up s1 187 43 0) 189 p (σ 187 0) = s3
      have g3 : ∀ c, c ≠ 187 → c ≠ 189 → s3 c = s1 c := fun c h1 h2 => by rw [← hs3, up_ne _ _ _ _ h2, up_ne _ _ _ _ h1]
      have k3 : ∀ j, j ≠ 43 → s3 187 j = σ 187 j := fun j h => by rw [← hs3, up_ne _ _ _ _ (by omega), up_nj _ _ _ _ h, h187]
      have q198 : s3 198 = σ 198 := by rw [g3 198 (by omega) (by omega), f1 198 (by omega) (by omega) (by omega) (by omega)]
      obtain ⟨s2, e2, r2, r2b, f2⟩ := r138 (Cf := Cf) (g := σ 198) (p := p) hn (by omega) hg n gFU s3 (Nat.le_refl _) (by unfold gFU; omega) (fun d hd => by rw [q198]) (by rw [k3 3 (by omega)]; exact hN) (fun d hd => by omega) (fun d _ hd => CR_keep (by rw [g3 202 (by omega) (by omega), f1 202 (by omega) (by omega) (by omega) (by omega)]) (fun k _ => by rw [g3 201 (by omega) (by omega), f1 201 (by omega) (by omega) (by omega) (by omega)]) (hE0 d hd).2.2.2.1)
      rw [Nat.sub_self] at e2
      have e2' : fx_138_50 gFU (p : Int) 0 0 s3 = some (.inl ((ct (Kd (σ 198) Cf p) n : Nat) : Int), s2) := e2
      have hc2 : fx_138 (p : Int) s1 = some (.inl ((ct (Kd (σ 198) Cf p) n : Nat) : Int), s2) := by
        unfold fx_138
        have e128 := i128 (σ := s1) true true
        rw [ibT] at e128
        have h189 : s1 189 p = -1 := by rw [f1 189 (by omega) (by omega) (by omega) (by omega)]; exact ha
        rw [i131 (by omega) hn (by rw [h187]; exact hN), gc_v, decide_eq_true hx, ibT, gq_R (by omega) (by omega), if_neg (by decide), gq_ix (by omega) (by omega), Int.toNat_natCast, h189, gq_R (by omega) (by omega), if_pos rfl]
        unfold fx_138_27
        rw [e128, gc_v, Bool.true_and, ibT, gq_R (by omega) (by omega), if_neg (by decide), if_pos rfl, if_pos rfl, gq_ix (by omega) (by omega), Int.toNat_natCast, up_nj _ _ _ _ (by omega : (0 : Nat) ≠ 43), h187, hs3, e2']
      have F : ∀ c, c ≠ 2 → c ≠ 4 → c ≠ 224 → c ≠ 187 → c ≠ 189 → c ≠ 201 → c ≠ 202 → (c < 47 ∨ 187 ≤ c ∨ (c % 10 ≠ 7 ∧ c % 10 ≠ 9)) → s2 c = σ c := fun c h1 h2 h3 h4 h5 h6 h7 h8 => by rw [f2 c h6 h7, g3 c h4 h5, f1 c h1 h2 h3 h8]
      have J : ∀ j, j ≠ 43 → s2 187 j = σ 187 j := fun j h => by rw [f2 187 (by omega) (by omega), k3 j h]
      have G189 : ∀ q, q ≠ p → s2 189 q = σ 189 q := fun q hq => by rw [f2 189 (by omega) (by omega), ← hs3, up_nj _ _ _ _ hq, up_ne _ _ _ _ (by omega), f1 189 (by omega) (by omega) (by omega) (by omega)]
      have G189p : s2 189 p = σ 187 0 := by rw [f2 189 (by omega) (by omega), ← hs3, up_eq]
      have hrb2 : RB s2 n nb P ps := by
        have e188 : s2 188 = σ 188 := F 188 (by omega) (by omega) (by omega) (by omega) (by omega) (by omega) (by omega) (by omega)
        have e210 : s2 210 = σ 210 := F 210 (by omega) (by omega) (by omega) (by omega) (by omega) (by omega) (by omega) (by omega)
        refine ⟨b1, by rw [J 3 (by omega)]; exact b2, b3, PR_cong (J 8 (by omega)) (J 12 (by omega)) (fun c h1 h2 => F c (by omega) (by omega) (by omega) (by omega) (by omega) (by omega) (by omega) (by omega)) b4, by rw [e188]; exact b5, by rw [e210]; exact b6, by rw [e210]; exact b7, by rw [e210, e188]; exact b8, fun q hq => ?_, ?_, ?_⟩
        · rw [e188]
          refine ⟨(b9 q hq).1, ?_⟩
          by_cases hqp : q = p
          · rw [hqp, G189p]; omega
          · rw [G189 q hqp]; exact (b9 q hq).2
        · rw [F 198 (by omega) (by omega) (by omega) (by omega) (by omega) (by omega) (by omega) (by omega), F 200 (by omega) (by omega) (by omega) (by omega) (by omega) (by omega) (by omega) (by omega)]
          exact b10
        · unfold ww
          rw [F 197 (by omega) (by omega) (by omega) (by omega) (by omega) (by omega) (by omega) (by omega)]
          exact b11
      refine ⟨0, s1, _, s2, hc1, hc2, ?_, fun _ => ?_, by omega, by unfold rI; omega, n, nb, nd, P, ps, De, Cd (σ 198) Cf p, IV_mono (IV_upd hi (Nat.le_refl _) hrb2 (ST_cong (J 29 (by omega)) (F 212 (by omega) (by omega) (by omega) (by omega) (by omega) (by omega) (by omega) (by omega)) (F 213 (by omega) (by omega) (by omega) (by omega) (by omega) (by omega) (by omega) (by omega)) hi.2.1) ?_ ?_ (PO_cong (fun c h => F c (by omega) (by omega) (by omega) (by omega) (by omega) (by omega) (by omega) (by omega)) hi.2.2.2.2.1) (KP_cong (fun c h => F c (by omega) (by omega) (by omega) (by omega) (by omega) (by omega) (by omega) (by omega)) hi.2.2.2.2.2.1) (fun d hdn hcl => ?_) (fun d hd => ?_) (fun c h => F c (by omega) (by omega) (by omega) (by omega) (by omega) (by omega) (by omega) (by omega)) (J 25 (by omega)) (J 26 (by omega)))⟩
      · rw [f2 187 (by omega) (by omega), ← hs3, up_ne _ _ _ _ (by omega), up_eq]
      · rw [f2 224 (by omega) (by omega), g3 224 (by omega) (by omega), ← hs1, up_eq]
      · rw [J 0 (by omega), F 1 (by omega) (by omega) (by omega) (by omega) (by omega) (by omega) (by omega) (by omega)]
        exact hday
      · have q2 : s2 2 = sa0 2 := by rw [f2 2 (by omega) (by omega), g3 2 (by omega) (by omega), ← hs1, up_ne _ _ _ _ (by omega), fA 2 (fun d hd => by omega)]
        have q4 : s2 4 = sa0 4 := by rw [f2 4 (by omega) (by omega), g3 4 (by omega) (by omega), ← hs1, up_ne _ _ _ _ (by omega), fA 4 (fun d hd => by omega)]
        have q24 : s2 2 4 = gb_or (σ 2 4) (gb_shl 1 (p : Int)) := by rw [q2, ← hsa, up_eq]
        refine ⟨by rw [q2, ← hsa, up_nj _ _ _ _ (by omega), up_ne _ _ _ _ (by omega)]; exact o1, ?_, ?_, by rw [q24]; exact or_R _ _, fun q => ?_, fun q hq hx => ?_⟩
        · rw [F 5 (by omega) (by omega) (by omega) (by omega) (by omega) (by omega) (by omega) (by omega), F 210 (by omega) (by omega) (by omega) (by omega) (by omega) (by omega) (by omega) (by omega)]
          exact o2
        · rw [F 3 (by omega) (by omega) (by omega) (by omega) (by omega) (by omega) (by omega) (by omega), F 188 (by omega) (by omega) (by omega) (by omega) (by omega) (by omega) (by omega) (by omega)]
          exact o3
        · rw [q24, bt_or, bt_shl (by omega), o5 q]
          by_cases hqp : q = p
          · rw [hqp, G189p, decide_eq_true hp, decide_eq_false (show ¬ σ 187 0 = -1 by omega)]
            simp
          · rw [G189 q hqp, decide_eq_false hqp, Bool.or_false]
        · rw [q4, ← hsa, up_ne _ _ _ _ (by omega)]
          by_cases hqp : q = p
          · rw [hqp, up_eq, G189p]; omega
          · rw [G189 q hqp] at hx ⊢
            rw [up_nj _ _ _ _ hqp]
            exact o6 q hq hx
      · have hx := ((hE0 d (by omega)).2.2.2.2.2.2.2.2.2 () hcl).1
        have hdp : d ≠ p := fun h => hx (by rw [h]; exact ha)
        refine ⟨Rd_w hi.1 hdn ?_ (fun q _ => by rw [F 197 (by omega) (by omega) (by omega) (by omega) (by omega) (by omega) (by omega) (by omega)]), ?_, by rw [G189 d hdp]; exact hx⟩
        · have hTA : TA s2 n d = TA σ n d := by
            funext q
            unfold TA
            rw [F 198 (by omega) (by omega) (by omega) (by omega) (by omega) (by omega) (by omega) (by omega), F 199 (by omega) (by omega) (by omega) (by omega) (by omega) (by omega) (by omega) (by omega), F 200 (by omega) (by omega) (by omega) (by omega) (by omega) (by omega) (by omega) (by omega), if_neg (by omega), if_neg (by omega)]
          unfold TT
          rw [hTA, G189 d hdp, F 188 (by omega) (by omega) (by omega) (by omega) (by omega) (by omega) (by omega) (by omega), F 210 (by omega) (by omega) (by omega) (by omega) (by omega) (by omega) (by omega) (by omega)]
        · unfold Cd
          rw [if_neg (by omega)]
      · obtain ⟨E1, E2, E3, E4, E5, E6, E7, E8, E9, E10⟩ := hE0 d hd
        have hCd : n ≤ d → Cd (σ 198) Cf p d = [] := fun h => by
          unfold Cd
          rw [hlate d h hd]
          split <;> rfl
        have gst : ∀ c, c ≠ 187 → c ≠ 189 → c ≠ 201 → c ≠ 202 → s2 c = s1 c := fun c h1 h2 h3 h4 => by rw [f2 c h3 h4, g3 c h1 h2]
        have g1A : ∀ c, c ≠ 224 → s1 c = sA c := fun c h => by rw [← hs1, up_ne _ _ _ _ h]
        refine ⟨fun j hj => by rw [gst _ (by omega) (by omega) (by omega) (by omega)]; exact j1 d j hd hj, F _ (by omega) (by omega) (by omega) (by omega) (by omega) (by omega) (by omega) (by omega), F _ (by omega) (by omega) (by omega) (by omega) (by omega) (by omega) (by omega) (by omega), F _ (by omega) (by omega) (by omega) (by omega) (by omega) (by omega) (by omega) (by omega), fun q' hq' => ?_, CL_cong (by rw [gst _ (by omega) (by omega) (by omega) (by omega), g1A _ (by omega)]) (by rw [gst _ (by omega) (by omega) (by omega) (by omega), g1A _ (by omega)]) (rA d hd), ?_, hCd⟩
        · unfold ww
          rw [F _ (by omega) (by omega) (by omega) (by omega) (by omega) (by omega) (by omega) (by omega), F 197 (by omega) (by omega) (by omega) (by omega) (by omega) (by omega) (by omega) (by omega)]
          exact E2 q' hq'
        · by_cases hdn : d < n
          · exact r2 d hdn
          · have := r2b d (by omega) hd
            rw [hlate d (by omega) hd] at this
            rw [hCd (by omega)]
            exact this
    · refine CM_thr (k := 2) (b := 0) hi ?_ (by omega) ⟨gb_up σ 187 43 2, ?_, up43_SC 2, up43_ST 2 hi.2.1, up_eq _ _ _ _, up_ne _ _ _ _ (by omega)⟩ (by unfold rI; omega)
      · unfold fx_198 fx_82
        rw [c110y hp hn h23, gc_v, alive_no hi hp ha, gc_e, gch_e, if_neg (by decide), if_pos rfl]
      · unfold fx_138
        have e128 := i128 (σ := σ) true false
        rw [ibT, ibF] at e128
        rw [i131 (by omega) hn hN, gc_v, decide_eq_true hx, ibT, gq_R (by omega) (by omega), if_neg (by decide), gq_ix (by omega) (by omega), Int.toNat_natCast, gq_R (by omega) (by omega), if_neg ha]
        unfold fx_138_27
        rw [e128, gc_v]
        exact (gq_R (by decide) (by decide)).trans (if_pos rfl)
  · refine CM_thr (k := 1) (b := 0) hi ?_ (by omega) ⟨gb_up σ 187 43 1, ?_, up43_SC 1, up43_ST 1 hi.2.1, up_eq _ _ _ _, up_ne _ _ _ _ (by omega)⟩ (by unfold rI; omega)
    · unfold fx_198 fx_82
      rw [c110n h1 hn h23 hx, gc_e, gch_e, if_pos rfl]
    · unfold fx_138
      have e128 := i128 (σ := σ) false false
      rw [ibF] at e128
      rw [i131 h1 hn hN, gc_v, decide_eq_false hx, ibF, gq_R (by omega) (by omega), if_pos rfl]
      unfold fx_138_27
      rw [e128, gc_v]
      exact (gq_R (by decide) (by decide)).trans (if_pos rfl)
end DE2
