section WL1
variable {σ σ' : gb_S} {c n nb nd : Nat} {P : pT} {ps : Nat → Nat} {De : Nat → dT} {Cf : Nat → List Nat}
theorem c114 {x y : Int} (h1 : -2147483648 ≤ x ∧ x ≤ 2147483647) (h2 : -2147483648 ≤ y ∧ y ≤ 2147483647) : fx_114 x y σ = some (if x = y then .inr 1 else .inl 0, σ) := by
  unfold fx_114
  rw [gq_R h1.1 h1.2, gq_R h2.1 h2.2]
  by_cases h : x = y
  · rw [if_pos h, if_pos h]
  · rw [if_neg h, if_neg h]
theorem c113 {x lo : Int} (h1 : -2147483648 ≤ x ∧ x ≤ 2147483647) (h2 : -2147483648 ≤ lo ∧ lo ≤ 2147483647) : fx_113 x lo σ = some (if lo ≤ x ∧ x ≤ 9 then .inl 0 else .inr 1, σ) := by
  unfold fx_113
  rw [gq_R h1.1 h1.2, gq_R h2.1 h2.2]
  by_cases h : x < lo
  · rw [if_pos h, if_neg (by omega)]
  · rw [if_neg h]
    by_cases h9 : 9 < x
    · rw [if_pos h9, if_neg (by omega)]
    · rw [if_neg h9, if_pos (by omega)]
theorem RB_ww (hj : ∀ j, j = 3 ∨ j = 8 ∨ j = 12 → σ' 187 j = σ 187 j) (h : ∀ c, (188 ≤ c ∧ c ≤ 200 ∧ c ≠ 197) ∨ c = 210 → σ' c = σ c) (h11 : ∀ d p, d < 14 → p < 14 → (0 ≤ ww σ' d p ∧ ww σ' d p ≤ 9) ∧ (n ≤ p → ww σ' d p = 0)) (hb : RB σ n nb P ps) : RB σ' n nb P ps := by
  obtain ⟨b1, b2, b3, b4, b5, b6, b7, b8, b9, b10, b11⟩ := hb
  exact ⟨b1, by rw [hj 3 (by simp)]; exact b2, b3, PR_cong (hj 8 (by simp)) (hj 12 (by simp)) (fun c h1 h2 => h c (by omega)) b4, by rw [h 188 (by omega)]; exact b5, by rw [h 210 (by omega)]; exact b6, by rw [h 210 (by omega)]; exact b7, by rw [h 210 (by omega), h 188 (by omega)]; exact b8, by rw [h 188 (by omega), h 189 (by omega)]; exact b9, by rw [h 198 (by omega), h 200 (by omega)]; exact b10, h11⟩
/-- the reference's way through a will's conditions -/
theorem r152 {x y z : Int} (h1 : -2147483648 ≤ x ∧ x ≤ 2147483647) (h2 : -2147483648 ≤ y ∧ y ≤ 2147483647) (h3 : -2147483648 ≤ z ∧ z ≤ 2147483647) (hb : RB σ n nb P ps) : ∀ b1 b2 b3 : Bool, b1 = (decide (0 ≤ x ∧ x < (n : Int)) && decide (0 ≤ y ∧ y < (n : Int))) → b2 = (!decide (x = y) && decide (0 ≤ z ∧ z ≤ 9)) → b3 = (b1 && decide (σ 189 x.toNat = -1)) → fx_152 x y z σ = fx_152_66 x y z (ib b3) (ib b2) (ib b1) σ := by
  intro b1 b2 b3 hb1 hb2 hb3
  have hn := hb.1
  have h187 := hb.2.1
  have sA : fx_152 x y z σ = fx_152_21 x y z (ib b1) σ := by
    unfold fx_152
    rw [i131 h1 hn h187, gc_v, gq_R (ibR _).1 (ibR _).2]
    cases hx : decide (0 ≤ x ∧ x < (n : Int)) with
    | false => rw [hb1, hx, Bool.false_and, ibF, if_pos rfl]
    | true =>
      rw [hb1, hx, Bool.true_and, ibT, if_neg (by decide), i131 h2 hn h187, gc_v, gq_R (ibR _).1 (ibR _).2]
      cases hy : decide (0 ≤ y ∧ y < (n : Int)) with
      | false => rw [ibF, if_pos rfl]
      | true => rw [ibT, if_neg (by decide)]
  have sB : fx_152_21 x y z (ib b1) σ = fx_152_46 x y z (ib b1) (ib b2) (ib b1) σ := by
    unfold fx_152_21
    rw [gq_R h1.1 h1.2, gq_R h2.1 h2.2]
    by_cases hxy : x = y
    · rw [if_pos hxy, hb2, decide_eq_true hxy, Bool.not_true, Bool.false_and, ibF]
    · rw [if_neg hxy, i126 h3 (by omega) (by omega), gc_v, gq_R (ibR _).1 (ibR _).2, hb2, decide_eq_false hxy, Bool.not_false, Bool.true_and]
      cases decide (0 ≤ z ∧ z ≤ 9) with
      | false => rw [ibF, if_pos rfl]
      | true => rw [ibT, if_neg (by decide)]
  have sC : fx_152_46 x y z (ib b1) (ib b2) (ib b1) σ = fx_152_66 x y z (ib b3) (ib b2) (ib b1) σ := by
    unfold fx_152_46
    rw [gq_R (ibR _).1 (ibR _).2]
    cases b1 with
    | false => rw [ibF, if_pos rfl, hb3, Bool.false_and, ibF]
    | true =>
      have hxn : 0 ≤ x ∧ x < (n : Int) := by
        rw [eq_comm, Bool.and_eq_true, decide_eq_true_eq] at hb1
        exact hb1.1
      have h9 := (hb.2.2.2.2.2.2.2.2.1 x.toNat (by omega)).2
      rw [ibT, if_neg (by decide), gq_ix (by omega) (by omega), gq_R (by omega) (by omega), hb3, Bool.true_and]
      by_cases h : σ 189 x.toNat = -1
      · rw [if_pos h, decide_eq_true h, ibT]
      · rw [if_neg h, decide_eq_false h, ibF]
  rw [sA, sB, sC]
theorem r152f {x y z t : Int} {b1 b2 b3 : Bool} (h : (b1 && (b2 && b3)) = false) (ht : (if b1 = true then (if b2 = true then (if b3 = true then (0 : Int) else 3) else 2) else 1) = t) (hst : ST σ n P) (e : fx_152 x y z σ = fx_152_66 x y z (ib b3) (ib b2) (ib b1) σ) : RQ (fx_152 x y z) t 0 n P σ := by
  refine ⟨gb_up σ 187 43 t, ?_, up43_SC t, up43_ST t hst, up_eq _ _ _ _, up_ne _ _ _ _ (by omega)⟩
  rw [e]
  unfold fx_152_66
  rw [i129, gc_v, h, ht]
  exact (gq_R (by decide) (by decide)).trans (if_pos rfl)
/-- 13: will -/
theorem uc13 {x y z : Int} (h1 : -2147483648 ≤ x ∧ x ≤ 2147483647) (h2 : -2147483648 ≤ y ∧ y ≤ 2147483647) (h3 : -2147483648 ≤ z ∧ z ≤ 2147483647) (hi : IV2 c σ n nb nd P ps De Cf) : CM rI c (fx_206 x y z) (fx_152 x y z) σ := by
  have hn := hi.1.1
  have h23 := hi.2.2.2.1.1
  have hr := r152 h1 h2 h3 hi.1
  by_cases hx : 0 ≤ x ∧ x < (n : Int)
  · have cx : fx_110 x σ = some (.inl 0, σ) := by rw [c110 h1 hn h23, if_pos hx]
    by_cases hy : 0 ≤ y ∧ y < (n : Int)
    · have cy : fx_110 y σ = some (.inl 0, σ) := by rw [c110 h2 hn h23, if_pos hy]
      have hb1 : true = (decide (0 ≤ x ∧ x < (n : Int)) && decide (0 ≤ y ∧ y < (n : Int))) := by rw [decide_eq_true hx, decide_eq_true hy]; rfl
      by_cases hxy : x = y
      · have hb2 : false = (!decide (x = y) && decide (0 ≤ z ∧ z ≤ 9)) := by rw [decide_eq_true hxy]; rfl
        refine CM_thr (k := 2) (b := 0) hi ?_ (by omega) (r152f (by rfl) (by rfl) hi.2.1 (hr true false _ hb1 hb2 rfl)) (by unfold rI; omega)
        unfold fx_206 fx_92
        rw [cx, gc_v, cy, gc_v, c114 h1 h2, if_pos hxy, gc_e, gch_e, if_neg (by decide), if_pos rfl]
      · by_cases hz : 0 ≤ z ∧ z ≤ 9
        · have hb2 : true = (!decide (x = y) && decide (0 ≤ z ∧ z ≤ 9)) := by rw [decide_eq_false hxy, decide_eq_true hz]; rfl
          obtain ⟨p, rfl⟩ : ∃ p : Nat, x = (p : Int) := ⟨x.toNat, by omega⟩
          obtain ⟨q, rfl⟩ : ∃ q : Nat, y = (q : Int) := ⟨y.toNat, by omega⟩
          have hp : p < n := by omega
          have hq : q < n := by omega
          by_cases ha : σ 189 p = -1
          · obtain ⟨e1, e2, e3, e4, e5, e6, e7, e8, e9, e10⟩ := hi.2.2.2.2.2.2.1 p (by omega)
            have hold := e2 q (by omega)
            have hwb := (hi.1.2.2.2.2.2.2.2.2.2.2 p q (by omega) (by omega)).1
            have hc1 : fx_206 (p : Int) (q : Int) z σ = some (.inl 0, gb_up (gb_up σ (47 + 10 * p + 1) q z) 224 0 (ww σ p q)) := by
              unfold fx_206 fx_92
              rw [cx, gc_v, cy, gc_v, c114 h1 h2, if_neg hxy, gc_v, c113 h3 (by omega), if_pos hz, gc_v, alive_yes hi hp ha, gc_v, gq_ix (by omega) (by omega), Int.toNat_natCast]
              unfold fx_14 fx_13
              rw [gq_R h2.1 h2.2, if_neg (by omega), if_pos (by omega), gq_ix (by omega) (by omega), Int.toNat_natCast, gc_v, gq_R h2.1 h2.2, if_neg (by omega), if_pos (by omega), gq_ix (by omega) (by omega), gc_v, gch_v, hold, gq_R (by omega) (by omega)]
            generalize hs1 : gb_up (gb_up σ (47 + 10 * p + 1) q z) 224 0 (ww σ p q) = s1 at hc1
            have f1 : ∀ c, c ≠ 47 + 10 * p + 1 → c ≠ 224 → s1 c = σ c := fun c h1 h2 => by rw [← hs1, up_ne _ _ _ _ h2, up_ne _ _ _ _ h1]
            have hrb1 : RB s1 n nb P ps := RB_cong (fun j _ => by rw [f1 187 (by omega) (by omega)]) (fun c h => f1 c (by omega) (by omega)) hi.1
            have hc2 : fx_152 (p : Int) (q : Int) z s1 = some (.inl (ww σ p q), gb_up (gb_up s1 187 43 0) 197 (14 * p + q) z) := by
              rw [r152 h1 h2 h3 hrb1 true true true hb1 hb2 (by rw [Int.toNat_natCast, f1 189 (by omega) (by omega), decide_eq_true ha]; rfl)]
              unfold fx_152_66
              rw [i129, gc_v, Bool.true_and, Bool.true_and, ibT, gq_R (by omega) (by omega), if_neg (by decide), gq_ix (by omega) (by omega), show ((14 * (p : Int)) + (q : Int)).toNat = 14 * p + q by omega, up_ne _ _ _ _ (by omega : (197 : Nat) ≠ 187), f1 197 (by omega) (by omega)]
              rfl
            refine ⟨0, s1, _, _, hc1, hc2, ?_, fun _ => ?_, by omega, by unfold rI; omega, n, nb, nd, P, ps, De, Cf, IV_mono ?_⟩
            · rw [up_ne _ _ _ _ (by omega), up_eq]
            · rw [up_ne _ _ _ _ (by omega), up_ne _ _ _ _ (by omega), ← hs1, up_eq]
            · generalize hs2 : gb_up (gb_up s1 187 43 0) 197 (14 * p + q) z = s2
              have f2 : ∀ c, c ≠ 47 + 10 * p + 1 → c ≠ 224 → c ≠ 187 → c ≠ 197 → s2 c = σ c := fun c h1 h2 h3 h4 => by rw [← hs2, up_ne _ _ _ _ h4, up_ne _ _ _ _ h3, f1 c h1 h2]
              have j2 : ∀ j, j ≠ 43 → s2 187 j = σ 187 j := fun j h => by rw [← hs2, up_ne _ _ _ _ (by omega), up_nj _ _ _ _ h, f1 187 (by omega) (by omega)]
              have w2 : s2 197 (14 * p + q) = z := by rw [← hs2, up_eq]
              have w3 : ∀ i, i ≠ 14 * p + q → s2 197 i = σ 197 i := fun i h => by rw [← hs2, up_nj _ _ _ _ h, up_ne _ _ _ _ (by omega), f1 197 (by omega) (by omega)]
              have v2 : s2 (47 + 10 * p + 1) q = z := by rw [← hs2, up_ne _ _ _ _ (by omega), up_ne _ _ _ _ (by omega), ← hs1, up_ne _ _ _ _ (by omega), up_eq]
              have v3 : ∀ i, i ≠ q → s2 (47 + 10 * p + 1) i = σ (47 + 10 * p + 1) i := fun i h => by rw [← hs2, up_ne _ _ _ _ (by omega), up_ne _ _ _ _ (by omega), ← hs1, up_ne _ _ _ _ (by omega), up_nj _ _ _ _ h]
              have hrb2 : RB s2 n nb P ps := RB_ww (fun j h => j2 j (by omega)) (fun c h => f2 c (by omega) (by omega) (by omega) (by omega)) (fun d q' hd hq' => by
                have hb := hi.1.2.2.2.2.2.2.2.2.2.2 d q' hd hq'
                unfold ww at hb ⊢
                by_cases he : 14 * d + q' = 14 * p + q
                · rw [he, w2]
                  exact ⟨hz, fun _ => by omega⟩
                · rw [w3 _ he]; exact hb) hi.1
              refine IV_upd hi (Nat.le_refl _) hrb2 (ST_cong (j2 29 (by omega)) (f2 212 (by omega) (by omega) (by omega) (by omega)) (f2 213 (by omega) (by omega) (by omega) (by omega)) hi.2.1) ?_ (FO_cong (fun c h => f2 c (by omega) (by omega) (by omega) (by omega)) hi.2.2.2.1) (PO_cong (fun c h => f2 c (by omega) (by omega) (by omega) (by omega)) hi.2.2.2.2.1) (KP_cong (fun c h => f2 c (by omega) (by omega) (by omega) (by omega)) hi.2.2.2.2.2.1) (fun d hd h1 => ?_) (fun d hd => ?_) (fun c h => f2 c (by omega) (by omega) (by omega) (by omega)) (j2 25 (by omega)) (j2 26 (by omega))
              · rw [j2 0 (by omega), f2 1 (by omega) (by omega) (by omega) (by omega)]
                exact hi.2.2.1
              · have hE := hi.2.2.2.2.2.2.1 d (by omega)
                have hx := (hE.2.2.2.2.2.2.2.2.2 () h1).1
                have hdp : d ≠ p := fun h => hx (by rw [h]; exact ha)
                refine ⟨Rd_w hi.1 hd (TT_cong (fun c h => f2 c (by omega) (by omega) (by omega) (by omega)) n P d) (fun q' hq' => w3 _ (by omega)), rfl, ?_⟩
                rw [f2 189 (by omega) (by omega) (by omega) (by omega)]
                exact hx
              · obtain ⟨E1, E2, E3, E4, E5, E6, E7, E8, E9, E10⟩ := hi.2.2.2.2.2.2.1 d hd
                refine ⟨fun j _ => by rw [f2 _ (by omega) (by omega) (by omega) (by omega)], f2 _ (by omega) (by omega) (by omega) (by omega), f2 _ (by omega) (by omega) (by omega) (by omega), f2 _ (by omega) (by omega) (by omega) (by omega), fun q' hq' => ?_, CL_cong (f2 _ (by omega) (by omega) (by omega) (by omega)) (f2 _ (by omega) (by omega) (by omega) (by omega)) E3, ?_, fun hle => (E9 hle).2.1⟩
                · have hE := E2 q' hq'
                  unfold ww at hE ⊢
                  by_cases hdp : d = p
                  · subst hdp
                    by_cases hqq : q' = q
                    · subst hqq; rw [v2, w2]
                    · rw [v3 _ hqq, w3 _ (by omega)]; exact hE
                  · rw [f2 _ (by omega) (by omega) (by omega) (by omega), w3 _ (by omega)]; exact hE
                · unfold CR
                  rw [f2 201 (by omega) (by omega) (by omega) (by omega), f2 202 (by omega) (by omega) (by omega) (by omega)]
                  exact E4
          · refine CM_thr (k := 3) (b := 0) hi ?_ (by omega) (r152f (by rfl) (by rfl) hi.2.1 (hr true true false hb1 hb2 (by rw [Int.toNat_natCast, decide_eq_false ha]; rfl))) (by unfold rI; omega)
            unfold fx_206 fx_92
            rw [cx, gc_v, cy, gc_v, c114 h1 h2, if_neg hxy, gc_v, c113 h3 (by omega), if_pos hz, gc_v, alive_no hi hp ha, gc_e, gch_e, if_neg (by decide), if_neg (by decide), if_pos rfl]
        · have hb2 : false = (!decide (x = y) && decide (0 ≤ z ∧ z ≤ 9)) := by rw [decide_eq_false hz, Bool.and_false]
          refine CM_thr (k := 2) (b := 0) hi ?_ (by omega) (r152f (by rfl) (by rfl) hi.2.1 (hr true false _ hb1 hb2 rfl)) (by unfold rI; omega)
          unfold fx_206 fx_92
          rw [cx, gc_v, cy, gc_v, c114 h1 h2, if_neg hxy, gc_v, c113 h3 (by omega), if_neg hz, gc_e, gch_e, if_neg (by decide), if_pos rfl]
    · refine CM_thr (k := 1) (b := 0) hi ?_ (by omega) (r152f (by rfl) (by rfl) hi.2.1 (hr false _ _ (by rw [decide_eq_false hy, Bool.and_false]) rfl rfl)) (by unfold rI; omega)
      unfold fx_206 fx_92
      rw [cx, gc_v, c110n h2 hn h23 hy, gc_e, gch_e, if_pos rfl]
  · refine CM_thr (k := 1) (b := 0) hi ?_ (by omega) (r152f (by rfl) (by rfl) hi.2.1 (hr false _ _ (by rw [decide_eq_false hx]; rfl) rfl rfl)) (by unfold rI; omega)
    unfold fx_206 fx_92
    rw [c110n h1 hn h23 hx, gc_e, gch_e, if_pos rfl]
end WL1
