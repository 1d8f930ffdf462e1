section BI2
variable {σ σ' : gb_S} {c n nb nd : Nat} {P : pT} {ps : Nat → Nat} {De : Nat → dT} {Cf : Nat → List Nat}
theorem CL_mono {e : Nat} {C : List Nat} (h : CL σ e n C) : CL σ e (n + 1) C := ⟨h.1, h.2.1, h.2.2.1, fun p hp => by have := h.2.2.2.1 p hp; omega, h.2.2.2.2⟩
theorem CR_mono {d : Nat} {C : List Nat} (h : CR σ d n C) : CR σ d (n + 1) C := ⟨h.1, h.2.1, h.2.2.1, fun p hp => by have := h.2.2.2.1 p hp; omega, h.2.2.2.2⟩
/-- 2: birth -/
theorem uc2 {x : Int} (h1 : -2147483648 ≤ x ∧ x ≤ 2147483647) (hi : IV2 c σ n nb nd P ps De Cf) : CM rI c (fx_197 x) (fx_137 x) σ := by
  have hn := hi.1.1
  have hd := hi.2.2.1
  have h23 := hi.2.2.2.1.1
  have hN := hi.1.2.1
  by_cases hx : 0 ≤ x ∧ x ≤ σ 1 9
  · by_cases h14 : n < 14
    · obtain ⟨b1, b2, b3, b4, b5, b6, b7, b8, b9, b10, b11⟩ := id hi.1
      obtain ⟨o1, o2, o3, o4, o5, o6⟩ := id hi.2.2.2.1
      generalize hb : (gb_up σ 188 n x) 188 = b
      have hbn : b n = x := by rw [← hb, up_eq]
      have hbp : ∀ p, p ≠ n → b p = σ 188 p := fun p hp => by rw [← hb, up_nj _ _ _ _ hp]
      have hfr : ∀ i, i < n → 0 ≤ σ 210 i ∧ σ 210 i < (n : Int) := fun i hi => by have := b6 i hi; omega
      have hbr : ∀ p, p < n → 0 ≤ b p ∧ b p ≤ 2000 := fun p hp => by rw [hbp p (by omega)]; exact (b9 p hp).1
      obtain ⟨irow1, irow2, irow3⟩ := irow_ok (n := n) (ps := ps) (f := σ 210) (b := b) (x := x) b6 b7 (fun i j h1 h2 => by
        have h3 := (b6 i (by omega)).2.1
        have h4 := (b6 j h2).2.1
        rw [hbp _ (by omega), hbp _ (by omega)]
        exact b8 i j h1 h2) hbn
      -- the class
      obtain ⟨sA, eA, rA, zA, jA, fA⟩ := c22 (n := n) (f := σ 210) (b := b) h14 ⟨hx.1, by omega⟩ hfr hbr n gFU (gb_up σ 3 n x) (Nat.le_refl _) (by unfold gFU; omega) (fun i hi => by rw [up_ne _ _ _ _ (by omega)]; exact o2 i hi) (fun i h1 h2 => by omega) (fun p hp => by rw [up_nj _ _ _ _ (by omega), hbp p (by omega)]; exact o3 p hp) (by rw [up_ne _ _ _ _ (by omega)]; exact o1)
      have hc1 : fx_197 x σ = some (.inl 0, gb_up sA 224 0 (n : Int)) := by
        unfold fx_197 fx_81
        rw [gq_R (by omega) (by omega), if_neg (by omega), gq_R (by omega) (by omega), if_neg (by omega), h23, gq_R (by omega) (by omega), if_pos (by omega)]
        unfold fx_22
        rw [h23, gq_R (by omega) (by omega), if_pos (by omega), gq_ix (by omega) (by omega), Int.toNat_natCast, eA, gc_v, gch_v, gq_R (by omega) (by omega)]
      generalize hs1 : gb_up sA 224 0 (n : Int) = s1 at hc1
      have f1 : ∀ c, c ≠ 2 → c ≠ 3 → c ≠ 5 → c ≠ 224 → s1 c = σ c := fun c h1 h2 h3 h4 => by rw [← hs1, up_ne _ _ _ _ h4, fA c h3 h1, up_ne _ _ _ _ h2]
      have h187 : s1 187 = σ 187 := f1 187 (by omega) (by omega) (by omega) (by omega)
      -- the reference
      generalize hs3 : gb_up (gb_up (gb_up s1 187 43 0) 188 n x) 189 n (-1) = s3
      have g188 : s3 188 = b := by
        funext p
        rw [← hs3, up_ne _ _ _ _ (by omega)]
        by_cases hp : p = n
        · rw [hp, up_eq, hbn]
        · rw [up_nj _ _ _ _ hp, up_ne _ _ _ _ (by omega), f1 188 (by omega) (by omega) (by omega) (by omega), hbp p hp]
      have g3 : ∀ c, c ≠ 187 → c ≠ 188 → c ≠ 189 → s3 c = s1 c := fun c h1 h2 h3 => by rw [← hs3, up_ne _ _ _ _ h3, up_ne _ _ _ _ h2, up_ne _ _ _ _ h1]
      have k3 : ∀ j, j ≠ 43 → s3 187 j = σ 187 j := fun j h => by rw [← hs3, up_ne _ _ _ _ (by omega), up_ne _ _ _ _ (by omega), up_nj _ _ _ _ h, h187]
      obtain ⟨s2, e2, r2, z2, t2, j2, f2⟩ := r137 (n := n) (f := σ 210) (b := b) h14 ⟨hx.1, by omega⟩ hfr hbr n gFU s3 (Nat.le_refl _) (by unfold gFU; omega) (fun i hi => by rw [g3 210 (by omega) (by omega) (by omega), f1 210 (by omega) (by omega) (by omega) (by omega)]) (fun i h1 h2 => by omega) (fun p hp => by rw [g188]) (by rw [k3 3 (by omega)]; exact hN)
      have hc2 : fx_137 x s1 = some (.inl (n : Int), s2) := by
        unfold fx_137
        have e128 := i128 (σ := s1) true true
        rw [ibT] at e128
        have q3 : (gb_up s1 187 43 0) 187 3 = (n : Int) := by rw [up_nj _ _ _ _ (by omega), h187, hN]
        rw [i126 h1 (by omega) (by rw [h187]; omega), gc_v, h187, hN, gq_R (by omega) (by omega), if_pos (by omega), decide_eq_true (by omega), ibT]
        unfold fx_137_24
        rw [e128, gc_v, Bool.true_and, ibT, gq_R (by omega) (by omega), if_neg (by decide), if_pos rfl, if_pos rfl, q3, gq_ix (by omega) (by omega), Int.toNat_natCast, up_ne _ _ _ _ (by omega : (187 : Nat) ≠ 188), q3, gq_ix (by omega) (by omega), Int.toNat_natCast, up_ne _ _ _ _ (by omega : (187 : Nat) ≠ 189), up_ne _ _ _ _ (by omega : (187 : Nat) ≠ 188), q3, hs3]
        exact e2
      have F : ∀ c, c ≠ 2 → c ≠ 3 → c ≠ 5 → c ≠ 224 → c ≠ 187 → c ≠ 188 → c ≠ 189 → c ≠ 210 → s2 c = σ c := fun c h1 h2 h3 h4 h5 h6 h7 h8 => by rw [f2 c h8 h5, g3 c h5 h6 h7, f1 c h1 h2 h3 h4]
      have J : ∀ j, j ≠ 3 → j ≠ 29 → j ≠ 43 → s2 187 j = σ 187 j := fun j h1 h2 h3 => by rw [j2 j h1 h2, k3 j h3]
      have G188 : s2 188 = b := by rw [f2 188 (by omega) (by omega), g188]
      have G189 : ∀ p, p ≠ n → s2 189 p = σ 189 p := fun p hp => by rw [f2 189 (by omega) (by omega), ← hs3, up_nj _ _ _ _ hp, up_ne _ _ _ _ (by omega), up_ne _ _ _ _ (by omega), f1 189 (by omega) (by omega) (by omega) (by omega)]
      have G189n : s2 189 n = -1 := by rw [f2 189 (by omega) (by omega), ← hs3, up_eq]
      have hEn := hi.2.2.2.2.2.2.1 n (by omega)
      have hrb2 : RB s2 (n + 1) nb P (fun p => if p = n then ipos (σ 210) b x n else if ps p < ipos (σ 210) b x n then ps p else ps p + 1) := by
        refine ⟨by omega, by rw [z2]; omega, b3, PR_cong (J 8 (by omega) (by omega) (by omega)) (J 12 (by omega) (by omega) (by omega)) (fun c h1 h2 => F c (by omega) (by omega) (by omega) (by omega) (by omega) (by omega) (by omega) (by omega)) b4, fun k hk => ?_, fun i hi => ?_, fun p hp => ?_, fun i j h1 h2 => ?_, fun p hp => ?_, fun d hd => ?_, fun d p hd hp => ?_⟩
        · have h5 := b5 k hk
          have hk3 := b3.2 k hk
          rw [G188, hbp _ (by omega), hbp _ (by omega)]
          exact ⟨by omega, by omega, h5.2.2⟩
        · rw [r2 i (by omega)]; exact irow1 i hi
        · have h := irow2 p hp
          refine ⟨h.1, ?_⟩
          show (s2 210 (if p = n then ipos (σ 210) b x n else if ps p < ipos (σ 210) b x n then ps p else ps p + 1)).toNat = p
          rw [r2 _ (by omega)]
          exact h.2
        · rw [r2 i (by omega), r2 j (by omega), G188]; exact irow3 i j h1 h2
        · rw [G188]
          by_cases hpn : p = n
          · rw [hpn, hbn, G189n]; omega
          · rw [hbp p hpn, G189 p hpn]; exact b9 p (by omega)
        · rw [F 198 (by omega) (by omega) (by omega) (by omega) (by omega) (by omega) (by omega) (by omega), F 200 (by omega) (by omega) (by omega) (by omega) (by omega) (by omega) (by omega) (by omega)]
          by_cases hdn : d = n
          · have h9 := hEn.2.2.2.2.2.2.2.2.1 (Nat.le_refl _)
            rw [hdn, h9.1, h9.2.2.2]
            omega
          · exact b10 d (by omega)
        · have h11 := b11 d p hd hp
          unfold ww at h11 ⊢
          rw [F 197 (by omega) (by omega) (by omega) (by omega) (by omega) (by omega) (by omega) (by omega)]
          exact ⟨h11.1, fun h => h11.2 (by omega)⟩
      have hRd : ∀ d, d < n → σ 198 d = 1 → Rd s2 (n + 1) P d = Rd σ n P d := fun d hdn hcl => by
        have hN2 : NBH (TT σ n P d) (TT s2 (n + 1) P d) := by
          refine ⟨rfl, rfl, TP_ext hi.1, fun p hp => ?_, fun p hp => ?_⟩
          · have hp : p < n := hp
            show TA s2 (n + 1) d p = TA σ n d p
            unfold TA
            rw [F 198 (by omega) (by omega) (by omega) (by omega) (by omega) (by omega) (by omega) (by omega), F 199 (by omega) (by omega) (by omega) (by omega) (by omega) (by omega) (by omega) (by omega), F 200 (by omega) (by omega) (by omega) (by omega) (by omega) (by omega) (by omega) (by omega), if_neg (by omega), if_neg (by omega), decide_eq_true (show p < n + 1 by omega), decide_eq_true hp]
          · have hp : p < n := hp
            show decide (s2 188 p ≤ s2 189 d) = decide (σ 188 p ≤ σ 189 d)
            rw [G188, hbp p (by omega), G189 d (by omega)]
        have hw : ww s2 d = ww σ d := by unfold ww; rw [F 197 (by omega) (by omega) (by omega) (by omega) (by omega) (by omega) (by omega) (by omega)]
        have h := nb_Rs (w := ww σ d) (w' := ww σ d) (TT_KH hi.1 hdn) (TT_KH hrb2 (show d < n + 1 by omega)) hN2 (fun _ _ => rfl) ((b11 d n (by omega) h14).2 (Nat.le_refl _))
        funext p
        unfold Rd
        rw [hw]
        by_cases hp : p < n
        · exact h.1 p hp
        · have hz := (Rd_SR hi.1 hdn).2.1 p (by omega)
          unfold Rd at hz
          by_cases hpn : p = n
          · rw [hpn] at hz ⊢
            rw [hz]
            exact h.2
          · have hz2 := (Rd_SR hrb2 (show d < n + 1 by omega)).2.1 p (by omega)
            unfold Rd at hz2
            rw [hw] at hz2
            rw [hz, hz2]
      refine ⟨0, s1, _, s2, hc1, hc2, ?_, fun _ => ?_, by omega, by unfold rI; omega, n + 1, nb, nd, P, _, De, Cf, IV_mono (IV_upd hi (by omega) hrb2 (Or.inr t2) ?_ ?_ (PO_cong (fun c h => F c (by omega) (by omega) (by omega) (by omega) (by omega) (by omega) (by omega) (by omega)) hi.2.2.2.2.1) (KP_cong (fun c h => F c (by omega) (by omega) (by omega) (by omega) (by omega) (by omega) (by omega) (by omega)) hi.2.2.2.2.2.1) (fun d hdn hcl => ⟨hRd d hdn hcl, rfl, ?_⟩) (fun d hd => ?_) (fun c h => F c (by omega) (by omega) (by omega) (by omega) (by omega) (by omega) (by omega) (by omega)) (J 25 (by omega) (by omega) (by omega)) (J 26 (by omega) (by omega) (by omega)))⟩
      · rw [j2 43 (by omega) (by omega), ← hs3, up_ne _ _ _ _ (by omega), up_ne _ _ _ _ (by omega), up_eq]
      · rw [f2 224 (by omega) (by omega), g3 224 (by omega) (by omega) (by omega), ← hs1, up_eq]
      · rw [J 0 (by omega) (by omega) (by omega), F 1 (by omega) (by omega) (by omega) (by omega) (by omega) (by omega) (by omega) (by omega)]
        exact hd
      · have q2 : s2 2 = sA 2 := by rw [f2 2 (by omega) (by omega), g3 2 (by omega) (by omega) (by omega), ← hs1, up_ne _ _ _ _ (by omega)]
        have q24 : s2 2 4 = σ 2 4 := by rw [q2, jA 4 (by omega), up_ne _ _ _ _ (by omega)]
        refine ⟨by rw [q2, zA]; omega, fun i hi => ?_, fun p hp => ?_, by rw [q24]; exact o4, fun p => ?_, fun p hp hx => ?_⟩
        · rw [r2 i (by omega), f2 5 (by omega) (by omega), g3 5 (by omega) (by omega) (by omega), ← hs1, up_ne _ _ _ _ (by omega), rA i (by omega)]
        · rw [G188, f2 3 (by omega) (by omega), g3 3 (by omega) (by omega) (by omega), ← hs1, up_ne _ _ _ _ (by omega), fA 3 (by omega) (by omega)]
          by_cases hpn : p = n
          · rw [hpn, up_eq, hbn]
          · rw [up_nj _ _ _ _ hpn, hbp p hpn]; exact o3 p (by omega)
        · rw [q24, o5 p]
          by_cases hpn : p = n
          · rw [hpn, G189n, decide_eq_false (Nat.lt_irrefl n)]
            simp
          · rw [G189 p hpn]
            congr 1
            exact decide_eq_decide.mpr (by omega)
        · by_cases hpn : p = n
          · rw [hpn] at hx; exact absurd G189n hx
          · rw [G189 p hpn] at hx ⊢
            rw [F 4 (by omega) (by omega) (by omega) (by omega) (by omega) (by omega) (by omega) (by omega)]
            exact o6 p (by omega) hx
      · rw [G189 d (by omega)]
        exact ((hi.2.2.2.2.2.2.1 d (by omega)).2.2.2.2.2.2.2.2.2 () hcl).1
      · obtain ⟨E1, E2, E3, E4, E5, E6, E7, E8, E9, E10⟩ := hi.2.2.2.2.2.2.1 d hd
        refine ⟨fun j _ => by rw [F _ (by omega) (by omega) (by omega) (by omega) (by omega) (by omega) (by omega) (by omega)], F _ (by omega) (by omega) (by omega) (by omega) (by omega) (by omega) (by omega) (by omega), F _ (by omega) (by omega) (by omega) (by omega) (by omega) (by omega) (by omega) (by omega), F _ (by omega) (by omega) (by omega) (by omega) (by omega) (by omega) (by omega) (by omega), fun q' hq' => ?_, CL_mono (CL_cong (F _ (by omega) (by omega) (by omega) (by omega) (by omega) (by omega) (by omega) (by omega)) (F _ (by omega) (by omega) (by omega) (by omega) (by omega) (by omega) (by omega) (by omega)) E3), ?_, fun hle => (E9 (by omega)).2.1⟩
        · unfold ww
          rw [F _ (by omega) (by omega) (by omega) (by omega) (by omega) (by omega) (by omega) (by omega), F 197 (by omega) (by omega) (by omega) (by omega) (by omega) (by omega) (by omega) (by omega)]
          exact E2 q' hq'
        · refine CR_mono ?_
          unfold CR
          rw [F 201 (by omega) (by omega) (by omega) (by omega) (by omega) (by omega) (by omega) (by omega), F 202 (by omega) (by omega) (by omega) (by omega) (by omega) (by omega) (by omega) (by omega)]
          exact E4
    · refine CM_thr (k := 2) (b := 0) hi ?_ (by omega) ⟨gb_up σ 187 43 2, ?_, up43_SC 2, up43_ST 2 hi.2.1, up_eq _ _ _ _, up_ne _ _ _ _ (by omega)⟩ (by unfold rI; omega)
      · unfold fx_197 fx_81
        rw [gq_R (by omega) (by omega), if_neg (by omega), gq_R (by omega) (by omega), if_neg (by omega), h23, gq_R (by omega) (by omega), if_neg (by omega), gch_e, if_neg (by decide), if_pos rfl]
      · unfold fx_137
        have e128 := i128 (σ := σ) true false
        rw [ibT, ibF] at e128
        rw [i126 h1 (by omega) (by omega), gc_v, hN, gq_R (by omega) (by omega), if_neg (by omega), decide_eq_true (by omega), ibT]
        unfold fx_137_24
        rw [e128, gc_v]
        exact (gq_R (by decide) (by decide)).trans (if_pos rfl)
  · refine CM_thr (k := 1) (b := 0) hi ?_ (by omega) ⟨gb_up σ 187 43 1, ?_, up43_SC 1, up43_ST 1 hi.2.1, up_eq _ _ _ _, up_ne _ _ _ _ (by omega)⟩ (by unfold rI; omega)
    · unfold fx_197 fx_81
      rw [gq_R (by omega) (by omega)]
      by_cases h0 : x < 0
      · rw [if_pos h0, gch_e, if_pos rfl]
      · rw [if_neg h0, gq_R (by omega) (by omega), if_pos (by omega), gch_e, if_pos rfl]
    · unfold fx_137
      rw [i126 h1 (by omega) (by omega), gc_v, hN, gq_R (by omega) (by omega), decide_eq_false (by omega), ibF]
      have e1 := i128 (σ := σ) false true
      have e2 := i128 (σ := σ) false false
      rw [ibF, ibT] at e1
      rw [ibF] at e2
      unfold fx_137_24
      by_cases h14 : (n : Int) < 14
      · rw [if_pos h14, e1, gc_v]
        exact (gq_R (by decide) (by decide)).trans (if_pos rfl)
      · rw [if_neg h14, e2, gc_v]
        exact (gq_R (by decide) (by decide)).trans (if_pos rfl)
end BI2
