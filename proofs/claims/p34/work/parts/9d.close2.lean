section CO2
variable {σ σ' : gb_S} {c n nb nd : Nat} {P : pT} {ps : Nat → Nat} {De : Nat → dT} {Cf : Nat → List Nat}
/-- 16: close -/
theorem uc16 {x : Int} (h1 : -2147483648 ≤ x ∧ x ≤ 2147483647) (hi : IV2 c σ n nb nd P ps De Cf) : CM rI c (fx_209 x) (fx_156 x) σ := by
  have hn := hi.1.1
  have h23 := hi.2.2.2.1.1
  have hE0 := hi.2.2.2.2.2.2.1
  obtain ⟨l1, l2, l3, l4, l5, l6, l7, ⟨l8, l8b⟩, l9, l10⟩ := id hi.2.2.2.2.2.2.2
  have hr := r156c h1 hi.1
  by_cases hx : 0 ≤ x ∧ x < (n : Int)
  · have hb1 : true = decide (0 ≤ x ∧ x < (n : Int)) := by rw [decide_eq_true hx]
    obtain ⟨d, rfl⟩ : ∃ d : Nat, x = (d : Int) := ⟨x.toNat, by omega⟩
    have hd : d < n := by omega
    obtain ⟨e1, e2, e3, e4, e5, e6, e7, e8, e9, e10⟩ := hE0 d (by omega)
    rw [Int.toNat_natCast] at hr
    by_cases a1 : σ 189 d = -1
    · refine CM_thr (k := 2) (b := 0) hi ?_ (by omega) (r156f (b1 := true) (b2 := false) (by rfl) (by rfl) hi.2.1 (hr true false hb1 (by rw [decide_eq_true a1]; rfl))) (by unfold rI; omega)
      unfold fx_209 fx_95
      rw [c110y hd hn h23, gc_v, dead_no hi hd a1, gc_e, gch_e, if_neg (by decide), if_pos rfl]
    · by_cases a2 : σ 198 d = 0
      · obtain ⟨b1, b2, b3, b4, b5, b6, b7, b8, b9, b10, b11⟩ := id hi.1
        obtain ⟨o1, o2, o3, o4, o5, o6⟩ := id hi.2.2.2.1
        have hCV : CV n Cf := fun d hd => by have := (hE0 d (by omega)).2.2.2.1; exact ⟨this.2.2.1, this.2.2.2.1⟩
        have hct := ct_more (b := fun d => !decide (σ 198 d = 0)) (b' := fun _ => true) (m := 14) (u := d) (fun _ _ _ => rfl) (by omega) (by rw [decide_eq_true a2]; rfl) rfl
        have hct2 := ct_le (fun _ => true) 14
        have hct3 := ct_le (fun u => !decide (σ 209 u = 0)) 60
        have hnd : nd < 134 := by omega
        have hSR : ∀ d, d < n → SR n (Rd σ n P d) := fun d hd => Rd_SR hi.1 hd
        -- the class: shares
        obtain ⟨sA, eA, cmA, fA⟩ := g1 (r := 47 + 10 * d + 3) (TT_KH hi.1 hd) (KP_KC hi.1 hi.2.2.2.2.2.1 d) (IV_FK hi hd a1) (Or.inl rfl) ⟨d, by omega, rfl⟩ (by omega)
        have cmA : cm sA (47 + 10 * d + 3) (Rd σ n P d) := cmA
        have fA : ∀ c, c ≠ 26 → c ≠ 28 → c ≠ 29 → c ≠ 51 + 10 * d → c ≠ 52 + 10 * d → sA c = σ c := fun c h1 h2 h3 h4 h5 => fA c h1 h2 h3 (by omega) (by omega)
        generalize hsB : gb_up (gb_up sA (47 + 10 * d) 4 1) (47 + 10 * d) 5 (σ 2 4) = sB
        have fB : ∀ c, c ≠ 47 + 10 * d → sB c = sA c := fun c h => by rw [← hsB, up_ne _ _ _ _ h, up_ne _ _ _ _ h]
        have jB : ∀ j, j ≠ 4 → j ≠ 5 → sB (47 + 10 * d) j = σ (47 + 10 * d) j := fun j h1 h2 => by rw [← hsB, up_nj _ _ _ _ h2, up_nj _ _ _ _ h1, fA _ (by omega) (by omega) (by omega) (by omega) (by omega)]
        have jB4 : sB (47 + 10 * d) 4 = 1 := by rw [← hsB, up_nj _ _ _ _ (by omega), up_eq]
        have jB5 : sB (47 + 10 * d) 5 = σ 2 4 := by rw [← hsB, up_eq]
        have FB : ∀ c, c ≠ 26 → c ≠ 28 → c ≠ 29 → c ≠ 51 + 10 * d → c ≠ 52 + 10 * d → c ≠ 47 + 10 * d → sB c = σ c := fun c h1 h2 h3 h4 h5 h6 => by rw [fB c h6, fA c h1 h2 h3 h4 h5]
        -- the class: the deed and its draw
        have hDCB : DC sB nd De := DC_cong (by rw [FB 30 (by omega) (by omega) (by omega) (by omega) (by omega) (by omega)]) (fun c h1 h2 => FB c (by omega) (by omega) (by omega) (by omega) (by omega) (by omega)) l1
        generalize hsC : gb_up (en48 sB nd (d : Int) (-1) 0 60) 35 nd 1 = sC
        have hDCC : DC sC (nd + 1) (snD De nd (2, d, 0, 0, 60)) := by rw [← hsC]; exact DC_cl hDCB
        have fC : ∀ c, c ≠ 35 → (c < 30 ∨ 34 < c) → sC c = sB c := fun c h1 h2 => by rw [← hsC, up_ne _ _ _ _ h1, en48_o _ _ _ _ _ h2]
        have hown : ∀ u, -1 ≤ ow n (Rd σ n P) Cf De nd u ∧ ow n (Rd σ n P) Cf De nd u < (n : Int) := ow_b l3 hCV (Nat.le_refl _)
        have hECC : EC sC n 3 Cf (Rd σ n P) d := ⟨by rw [fC _ (by omega) (by omega), jB 0 (by omega) (by omega)]; exact e1, by
          unfold CL
          rw [fC (47 + 10 * d) (by omega) (by omega), fC (47 + 10 * d + 2) (by omega) (by omega), jB 3 (by omega) (by omega), FB (47 + 10 * d + 2) (by omega) (by omega) (by omega) (by omega) (by omega) (by omega)]
          exact e3, cm_cong (by rw [fC _ (by omega) (by omega), fB _ (by omega)]) (by rw [fC _ (by omega) (by omega), fB _ (by omega)]) cmA⟩
        obtain ⟨sD, e52, r52a, r52b, fD⟩ := g52 (σ := sC) (Cf := Cf) (Rf := Rd σ n P) hn hd _ hown (fun u hu => by rw [fC 37 (by omega) (by omega), FB 37 (by omega) (by omega) (by omega) (by omega) (by omega) (by omega)]; exact l9 u hu) hECC (hSR d hd)
        have e47 : fx_47 (47 + 10 * d) sB = some (.inl (nd : Int), sD) := by
          unfold fx_47
          rw [jB 0 (by omega) (by omega), e1, c48 (by rw [FB 30 (by omega) (by omega) (by omega) (by omega) (by omega) (by omega)]; exact l1.1) hnd, gc_v, gq_R (by omega) (by omega), if_pos (by omega), gq_ix (by omega) (by omega), Int.toNat_natCast, hsC, e52, gc_v]
        generalize hsE : gb_up sD (47 + 10 * d) 6 (nd : Int) = sE
        have cmE : cm sE (47 + 10 * d + 3) (Rd σ n P d) := cm_cong (by rw [← hsE, up_ne _ _ _ _ (by omega), fD _ (by omega) (by omega) (by omega) (by omega), fC _ (by omega) (by omega), fB _ (by omega)]) (by rw [← hsE, up_ne _ _ _ _ (by omega), fD _ (by omega) (by omega) (by omega) (by omega), fC _ (by omega) (by omega), fB _ (by omega)]) cmA
        have hhe := ct_le (fun p => decide (0 < Rd σ n P d p)) n
        have hc1 : fx_209 (d : Int) σ = some (.inl 0, gb_up sE 224 0 ((ct (fun p => decide (0 < Rd σ n P d p)) n : Nat) : Int)) := by
          unfold fx_209 fx_95
          rw [c110y hd hn h23, gc_v, dead_yes hi hd a1, gc_v, gq_ix (by omega) (by omega), Int.toNat_natCast, c118 (by rw [e5]; exact e6), e5, if_pos a2, gc_v, eA, gc_v, up_ne _ _ _ _ (by omega : (2 : Nat) ≠ 47 + 10 * d), fA 2 (by omega) (by omega) (by omega) (by omega) (by omega), hsB, e47, gc_v, hsE, c75 cmE (hSR d hd) hn, gc_v, gch_v, gq_R (by omega) (by omega)]
        generalize hs1 : gb_up sE 224 0 ((ct (fun p => decide (0 < Rd σ n P d p)) n : Nat) : Int) = s1 at hc1
        -- what the class has done
        have S1 : ∀ c, c ≠ 224 → c ≠ 47 + 10 * d → c ≠ 37 → c ≠ 39 → c ≠ 40 → c ≠ 56 + 10 * d → s1 c = sC c := fun c h1 h2 h3 h4 h5 h6 => by rw [← hs1, up_ne _ _ _ _ h1, ← hsE, up_ne _ _ _ _ h2, fD c h4 h5 h3 h6]
        have f1 : ∀ c, ¬ scr c → c ≠ 37 → (c < 30 ∨ 35 < c) → c ≠ 47 + 10 * d → c ≠ 51 + 10 * d → c ≠ 52 + 10 * d → c ≠ 56 + 10 * d → c ≠ 224 → s1 c = σ c := fun c k1 k2 k3 k4 k5 k6 k7 k8 => by
          unfold scr at k1
          rw [S1 c k8 k4 k2 (by omega) (by omega) k7, fC c (by omega) (by omega), FB c (by omega) (by omega) (by omega) k5 k6 k4]
        have j1 : ∀ j, s1 (47 + 10 * d) j = if j = 6 then (nd : Int) else sB (47 + 10 * d) j := fun j => by
          rw [← hs1, up_ne _ _ _ _ (by omega), ← hsE]
          by_cases h : j = 6
          · rw [if_pos h, h, up_eq]
          · rw [if_neg h, up_nj _ _ _ _ h, fD _ (by omega) (by omega) (by omega) (by omega), fC _ (by omega) (by omega)]
        have h187 : s1 187 = σ 187 := f1 187 (by unfold scr; omega) (by omega) (by omega) (by omega) (by omega) (by omega) (by omega) (by omega)
        have fr : ∀ c, 187 ≤ c → c ≤ 210 → s1 c = σ c := fun c k1 k2 => f1 c (by unfold scr; omega) (by omega) (by omega) (by omega) (by omega) (by omega) (by omega) (by omega)
        have fr2 : s1 212 = σ 212 ∧ s1 213 = σ 213 := by
          refine ⟨?_, ?_⟩
          · rw [S1 212 (by omega) (by omega) (by omega) (by omega) (by omega) (by omega), fC 212 (by omega) (by omega), FB 212 (by omega) (by omega) (by omega) (by omega) (by omega) (by omega)]
          · rw [S1 213 (by omega) (by omega) (by omega) (by omega) (by omega) (by omega), fC 213 (by omega) (by omega), FB 213 (by omega) (by omega) (by omega) (by omega) (by omega) (by omega)]
        have hrb1 : RB s1 n nb P ps := RB_cong (fun j _ => by rw [h187]) (fun c h => fr c (by omega) (by omega)) hi.1
        -- the reference
        obtain ⟨s2a, e53, m199, m199b, f2a⟩ := r156 (n := n) (d := d) hn (by omega) n gFU (gb_up (gb_up s1 187 43 0) 199 d 0) (Nat.le_refl _) (by unfold gFU; omega) (by rw [up_ne _ _ _ _ (by omega), up_nj _ _ _ _ (by omega), h187]; exact b2) (fun p hp => by rw [up_ne _ _ _ _ (by omega), up_ne _ _ _ _ (by omega), fr 189 (by omega) (by omega)]; have := (b9 p hp).2; omega) (fun p => by rw [up_eq, bt_zero, Nat.sub_self]; rfl)
        have e53 : fx_156_53 gFU (d : Int) 0 (gb_up (gb_up s1 187 43 0) 199 d 0) = gc (fx_180 2 (d : Int) (-1) 0 60 (gb_up (gb_up s2a 200 d (n : Int)) 198 d 1)) (fun _ s5 => gc (fx_169 (d : Int) s5) (fun r6 s7 => some (.inl r6, s7))) := by
          rw [Nat.sub_self] at e53
          exact e53
        have g2a : ∀ c, c ≠ 187 → c ≠ 199 → s2a c = s1 c := fun c h1 h2 => by rw [f2a c h2, up_ne _ _ _ _ h2, up_ne _ _ _ _ h1]
        have k2a : ∀ j, j ≠ 43 → s2a 187 j = σ 187 j := fun j h => by rw [f2a 187 (by omega), up_ne _ _ _ _ (by omega), up_nj _ _ _ _ h, h187]
        have m199c : ∀ p, bt (s2a 199 d) p = (decide (p < n) && decide (σ 189 p = -1)) := fun p => by rw [m199 p, up_ne _ _ _ _ (by omega), up_ne _ _ _ _ (by omega), fr 189 (by omega) (by omega)]
        have m199d : ∀ j, j ≠ d → s2a 199 j = σ 199 j := fun j hj => by rw [m199b j hj, up_nj _ _ _ _ hj, up_ne _ _ _ _ (by omega), fr 199 (by omega) (by omega)]
        generalize hsF : gb_up (gb_up s2a 200 d (n : Int)) 198 d 1 = sF at e53
        have fF : ∀ c, c ≠ 198 → c ≠ 200 → sF c = s2a c := fun c h1 h2 => by rw [← hsF, up_ne _ _ _ _ h1, up_ne _ _ _ _ h2]
        have F198 : ∀ j, sF 198 j = if j = d then 1 else σ 198 j := fun j => by
          rw [← hsF]
          by_cases h : j = d
          · rw [if_pos h, h, up_eq]
          · rw [if_neg h, up_nj _ _ _ _ h, up_ne _ _ _ _ (by omega), g2a 198 (by omega) (by omega), fr 198 (by omega) (by omega)]
        have F200 : ∀ j, sF 200 j = if j = d then (n : Int) else σ 200 j := fun j => by
          rw [← hsF, up_ne _ _ _ _ (by omega)]
          by_cases h : j = d
          · rw [if_pos h, h, up_eq]
          · rw [if_neg h, up_nj _ _ _ _ h, g2a 200 (by omega) (by omega), fr 200 (by omega) (by omega)]
        generalize hsG : en180 sF nd 2 (d : Int) (-1) 0 60 = sG
        have fG : ∀ c, c ≠ 187 → (c < 204 ∨ 208 < c) → sG c = sF c := fun c h1 h2 => by rw [← hsG, en180_o _ _ _ _ _ _ h2 h1]
        have jG : ∀ j, j ≠ 25 → j ≠ 43 → sG 187 j = σ 187 j := fun j h1 h2 => by rw [← hsG, en180_j _ _ _ _ _ _ h1, fF 187 (by omega) (by omega), k2a j h2]
        have FG : ∀ c, 188 ≤ c → c ≤ 210 → c ≠ 198 → c ≠ 199 → c ≠ 200 → (c < 204 ∨ 208 < c) → sG c = σ c := fun c k1 k2 k3 k4 k5 k6 => by rw [fG c (by omega) k6, fF c k3 k5, g2a c (by omega) k4, fr c (by omega) k2]
        have hRd : Rd sG n P = Rd σ n P := by
          funext d2
          have hTA : TA sG n d2 = TA σ n d2 := by
            funext p
            unfold TA
            rw [fG 198 (by omega) (by omega), fG 199 (by omega) (by omega), fG 200 (by omega) (by omega), F198, F200, FG 189 (by omega) (by omega) (by omega) (by omega) (by omega) (by omega), fF 199 (by omega) (by omega)]
            by_cases h : d2 = d
            · rw [h, if_pos rfl, if_pos rfl, if_neg (by decide), m199c p, if_pos a2]
              by_cases hp : p < n
              · rw [decide_eq_true hp, decide_eq_false (show ¬ (n : Int) ≤ (p : Int) by omega)]
                simp
              · rw [decide_eq_false hp]
                rfl
            · rw [if_neg h, if_neg h, m199d d2 h]
          unfold Rd ww TT
          rw [hTA, FG 188 (by omega) (by omega) (by omega) (by omega) (by omega) (by omega), FG 189 (by omega) (by omega) (by omega) (by omega) (by omega) (by omega), FG 197 (by omega) (by omega) (by omega) (by omega) (by omega) (by omega), FG 210 (by omega) (by omega) (by omega) (by omega) (by omega) (by omega)]
        have hrbG : RB sG n nb P ps := by
          refine ⟨b1, by rw [jG 3 (by omega) (by omega)]; exact b2, b3, PR_cong (jG 8 (by omega) (by omega)) (jG 12 (by omega) (by omega)) (fun c h1 h2 => FG c (by omega) (by omega) (by omega) (by omega) (by omega) (by omega)) b4, by rw [FG 188 (by omega) (by omega) (by omega) (by omega) (by omega) (by omega)]; exact b5, by rw [FG 210 (by omega) (by omega) (by omega) (by omega) (by omega) (by omega)]; exact b6, by rw [FG 210 (by omega) (by omega) (by omega) (by omega) (by omega) (by omega)]; exact b7, by rw [FG 210 (by omega) (by omega) (by omega) (by omega) (by omega) (by omega), FG 188 (by omega) (by omega) (by omega) (by omega) (by omega) (by omega)]; exact b8, by rw [FG 188 (by omega) (by omega) (by omega) (by omega) (by omega) (by omega), FG 189 (by omega) (by omega) (by omega) (by omega) (by omega) (by omega)]; exact b9, fun d2 hd2 => ?_, ?_⟩
          · rw [fG 198 (by omega) (by omega), fG 200 (by omega) (by omega), F198, F200]
            by_cases h : d2 = d
            · rw [if_pos h, if_pos h]; omega
            · rw [if_neg h, if_neg h]; exact b10 d2 hd2
          · unfold ww
            rw [FG 197 (by omega) (by omega) (by omega) (by omega) (by omega) (by omega)]
            exact b11
        have g2G : ∀ c, 211 ≤ c → sG c = s1 c := fun c h => by rw [fG c (by omega) (by omega), fF c (by omega) (by omega), g2a c (by omega) (by omega)]
        have hstG : ST sG n P := ST_cong (jG 29 (by omega) (by omega)) (by rw [g2G 212 (by omega), fr2.1]) (by rw [g2G 213 (by omega), fr2.2]) hi.2.1
        obtain ⟨s2, e169, _, j2, z2, k2, f2⟩ := g169 hrbG hstG hd
        rw [hRd] at e169
        have hc2 : fx_156 (d : Int) s1 = some (.inl ((ct (fun p => decide (0 < Rd σ n P d p)) n : Nat) : Int), s2) := by
          rw [r156c h1 hrb1 true true hb1 (by rw [Int.toNat_natCast, fr 189 (by omega) (by omega), fr 198 (by omega) (by omega), decide_eq_false a1, decide_eq_true a2]; rfl)]
          unfold fx_156_36
          rw [i128, gc_v, Bool.true_and, ibT, gq_R (by omega) (by omega), if_neg (by decide), if_pos rfl, if_pos rfl, gq_ix (by omega) (by omega), Int.toNat_natCast, e53, r180 (by rw [fF 187 (by omega) (by omega), k2a 25 (by omega)]; exact l2.1) hnd, gc_v, hsG, e169, gc_v]
        have scG : SC sG s2 := ⟨fun c h1 h2 => f2 c h2 (by unfold scr at h1; omega), fun i h1 _ => j2 i h1⟩
        have hstS : ST s2 n P := Or.inl ⟨z2, k2⟩
        refine ⟨0, s1, _, s2, hc1, hc2, ?_, fun _ => ?_, by omega, by unfold rI; omega, n, nb, nd + 1, P, ps, snD De nd (2, d, 0, 0, 60), Cf, IV_mono (SC_IV scG hstS ?_)⟩
        · rw [j2 43 (by omega), ← hsG, en180_j _ _ _ _ _ _ (by omega), fF 187 (by omega) (by omega), f2a 187 (by omega), up_ne _ _ _ _ (by omega), up_eq]
        · rw [f2 224 (by omega) (by omega), g2G 224 (by omega), ← hs1, up_eq]
        · -- the invariant at sG
          have G1 : ∀ c, c < 187 → sG c = s1 c := fun c h => by rw [fG c (by omega) (by omega), fF c (by omega) (by omega), g2a c (by omega) (by omega)]
          have G : ∀ c, ¬ scr c → c < 187 → c ≠ 37 → (c < 30 ∨ 35 < c) → c ≠ 47 + 10 * d → c ≠ 51 + 10 * d → c ≠ 52 + 10 * d → c ≠ 56 + 10 * d → sG c = σ c := fun c k1 k2 k3 k4 k5 k6 k7 k8 => by rw [G1 c k2, f1 c k1 k3 k4 k5 k6 k7 k8 (by omega)]
          have Gd : ∀ c, 30 ≤ c → c ≤ 35 → sG c = sC c := fun c k1 k2 => by rw [G1 c (by omega), S1 c (by omega) (by omega) (by omega) (by omega) (by omega) (by omega)]
          refine ⟨hrbG, hstG, ?_, ?_, ?_, ?_, fun d2 hd2 => ?_, ?_⟩
          · rw [jG 0 (by omega) (by omega), G 1 (by unfold scr; omega) (by omega) (by omega) (by omega) (by omega) (by omega) (by omega) (by omega)]
            exact hi.2.2.1
          · exact FO_cong (fun c h => by
              by_cases hc : c < 187
              · exact G c (by unfold scr; omega) hc (by omega) (by omega) (by omega) (by omega) (by omega) (by omega)
              · exact FG c (by omega) (by omega) (by omega) (by omega) (by omega) (by omega)) hi.2.2.2.1
          · exact PO_cong (fun c h => by
              by_cases hc : c < 187
              · exact G c (by unfold scr; omega) hc (by omega) (by omega) (by omega) (by omega) (by omega) (by omega)
              · exact FG c (by omega) (by omega) (by omega) (by omega) (by omega) (by omega)) hi.2.2.2.2.1
          · exact KP_cong (fun c h => G c (by unfold scr; omega) (by omega) (by omega) (by omega) (by omega) (by omega) (by omega) (by omega)) hi.2.2.2.2.2.1
          · by_cases hdd : d2 = d
            · subst hdd
              have jG1 : ∀ j, sG (47 + 10 * d2) j = if j = 6 then (nd : Int) else sB (47 + 10 * d2) j := fun j => by rw [G1 _ (by omega)]; exact j1 j
              have q198 : sG 198 d2 = 1 := by rw [fG 198 (by omega) (by omega), F198, if_pos rfl]
              have q200 : sG 200 d2 = (n : Int) := by rw [fG 200 (by omega) (by omega), F200, if_pos rfl]
              have q203 : sG 203 = σ 203 := FG 203 (by omega) (by omega) (by omega) (by omega) (by omega) (by omega)
              refine ⟨by rw [jG1 0, if_neg (by omega), jB 0 (by omega) (by omega)]; exact e1, fun p hp => ?_, ?_, ?_, by rw [jG1 4, if_neg (by omega), jB4, q198], by rw [q198]; omega, by rw [jG1 7, if_neg (by omega), jB 7 (by omega) (by omega), q203]; exact e7, by rw [q203]; exact e8, fun h => by omega, fun _ _ => ⟨?_, ?_, ?_, fun p hp => ?_, ⟨nd, by omega, ?_, snD_eq, fun u hu => ?_⟩, ?_⟩⟩
              · unfold ww
                rw [G _ (by unfold scr; omega) (by omega) (by omega) (by omega) (by omega) (by omega) (by omega) (by omega), FG 197 (by omega) (by omega) (by omega) (by omega) (by omega) (by omega)]
                exact e2 p hp
              · unfold CL
                rw [jG1 3, if_neg (by omega), jB 3 (by omega) (by omega), G (47 + 10 * d2 + 2) (by unfold scr; omega) (by omega) (by omega) (by omega) (by omega) (by omega) (by omega) (by omega)]
                exact e3
              · unfold CR
                rw [FG 201 (by omega) (by omega) (by omega) (by omega) (by omega) (by omega), FG 202 (by omega) (by omega) (by omega) (by omega) (by omega) (by omega)]
                exact e4
              · rw [FG 189 (by omega) (by omega) (by omega) (by omega) (by omega) (by omega)]; exact a1
              · rw [q200]; omega
              · rw [jG1 5, if_neg (by omega), jB5]; exact o4
              · rw [jG1 5, if_neg (by omega), jB5, o5 p, q200, fG 199 (by omega) (by omega), fF 199 (by omega) (by omega), m199c p]
                by_cases hp2 : p < n
                · rw [decide_eq_true hp2, decide_eq_true (show (p : Int) < (n : Int) by omega)]; simp
                · rw [decide_eq_false hp2, decide_eq_false (show ¬ (p : Int) < (n : Int) by omega)]; rfl
              · rw [jG1 6, if_pos rfl]
              · rw [hRd, ow_sn (Nat.le_refl _), G1 _ (by omega), ← hs1, up_ne _ _ _ _ (by omega), ← hsE, up_ne _ _ _ _ (by omega)]
                exact r52b u hu
              · rw [hRd]
                exact cm_cong (by rw [G1 _ (by omega), ← hs1, up_ne _ _ _ _ (by omega)]) (by rw [G1 _ (by omega), ← hs1, up_ne _ _ _ _ (by omega)]) cmE
            · obtain ⟨E1, E2, E3, E4, E5, E6, E7, E8, E9, E10⟩ := hE0 d2 hd2
              have Ge : ∀ j, j ≤ 9 → j ≠ 7 → j ≠ 8 → sG (47 + 10 * d2 + j) = σ (47 + 10 * d2 + j) := fun j k1 k2 k3 => G _ (by unfold scr; omega) (by omega) (by omega) (by omega) (by omega) (by omega) (by omega) (by omega)
              have Ge0 : sG (47 + 10 * d2) = σ (47 + 10 * d2) := Ge 0 (by omega) (by omega) (by omega)
              have Ge9 : sG (56 + 10 * d2) = σ (56 + 10 * d2) := G _ (by unfold scr; omega) (by omega) (by omega) (by omega) (by omega) (by omega) (by omega) (by omega)
              have q198 : sG 198 d2 = σ 198 d2 := by rw [fG 198 (by omega) (by omega), F198, if_neg hdd]
              have q200 : sG 200 d2 = σ 200 d2 := by rw [fG 200 (by omega) (by omega), F200, if_neg hdd]
              have q199 : sG 199 d2 = σ 199 d2 := by rw [fG 199 (by omega) (by omega), fF 199 (by omega) (by omega), m199d d2 hdd]
              have q203 : sG 203 = σ 203 := FG 203 (by omega) (by omega) (by omega) (by omega) (by omega) (by omega)
              refine ⟨by rw [Ge0]; exact E1, fun p hp => ?_, CL_cong Ge0 (Ge 2 (by omega) (by omega) (by omega)) E3, ?_, by rw [Ge0, q198]; exact E5, by rw [q198]; exact E6, by rw [Ge0, q203]; exact E7, by rw [q203]; exact E8, fun h => by rw [q198, q200, q203]; exact E9 h, fun u h => ?_⟩
              · unfold ww
                rw [Ge 1 (by omega) (by omega) (by omega), FG 197 (by omega) (by omega) (by omega) (by omega) (by omega) (by omega)]
                exact E2 p hp
              · unfold CR
                rw [FG 201 (by omega) (by omega) (by omega) (by omega) (by omega) (by omega), FG 202 (by omega) (by omega) (by omega) (by omega) (by omega) (by omega)]
                exact E4
              · rw [q198] at h
                obtain ⟨g1, g2, g3, g4, ⟨k, k1, k2, k3, k4⟩, g6⟩ := E10 u h
                rw [Ge0, Ge9, q199, q200, FG 189 (by omega) (by omega) (by omega) (by omega) (by omega) (by omega), hRd]
                exact ⟨g1, g2, g3, g4, ⟨k, by omega, k2, by rw [snD_ne (by omega)]; exact k3, fun u hu => by rw [ow_sn (by omega)]; exact k4 u hu⟩, cm_cong (Ge 4 (by omega) (by omega) (by omega)) (Ge 5 (by omega) (by omega) (by omega)) g6⟩
          · refine ⟨DC_cong (by rw [Gd 30 (by omega) (by omega)]) (fun c k1 k2 => Gd c (by omega) (by omega)) hDCC, ?_, ⟨by omega, fun k hk => ?_⟩, fun k hk hk0 j hj hj0 u hu1 hu2 => ?_, fun k hk hk2 => ?_, ?_, ?_, ⟨fun u hu => ?_, fun k k1 k2 => ?_⟩, fun u hu => ?_, ?_⟩
            · rw [← hsG]
              exact DR_sn (DR_cong (by rw [fF 187 (by omega) (by omega), k2a 25 (by omega)]) (fun c hc => by rw [fF c (by omega) (by omega), g2a c (by omega) (by omega), fr c (by omega) (by omega)]) l2) rfl rfl (fun h => absurd (show (2 : Nat) = 1 from h) (by decide)) rfl rfl
            · by_cases hkn : k = nd
              · rw [hkn, snD_eq]
                exact ⟨show (2 : Nat) ≤ 2 by decide, hd, fun h => absurd (show (2 : Nat) = 1 from h) (by decide), show (0 : Nat) < 60 by decide, show (60 : Nat) ≤ 60 by decide⟩
              · rw [snD_ne hkn]; exact l3.2 k (by omega)
            · by_cases hkn : k = nd
              · rw [hkn, snD_eq] at hk0
                exact absurd (show (2 : Nat) = 0 from hk0) (by decide)
              · rw [snD_ne hkn] at hk0 hu1 hu2
                rw [snD_ne (by omega)] at hj0 ⊢
                exact l4 k (by omega) hk0 j hj hj0 u hu1 hu2
            · by_cases hkn : k = nd
              · rw [hkn, snD_eq]
                show sG 198 d = 1 ∧ sG (47 + 10 * d) 6 = (nd : Int)
                refine ⟨by rw [fG 198 (by omega) (by omega), F198, if_pos rfl], ?_⟩
                rw [G1 _ (by omega), j1 6, if_pos rfl]
              · rw [snD_ne hkn] at hk2 ⊢
                have hdk := (l3.2 k (by omega)).2.1
                have h5 := l5 k (by omega) hk2
                have hdd : (De k).2.1 ≠ d := fun h => by rw [h, a2] at h5; exact absurd h5.1 (by decide)
                rw [fG 198 (by omega) (by omega), F198, if_neg hdd, G (47 + 10 * (De k).2.1) (by unfold scr; omega) (by omega) (by omega) (by omega) (by omega) (by omega) (by omega) (by omega)]
                exact h5
            · rw [jG 26 (by omega) (by omega), Gd 30 (by omega) (by omega), ← hsC, up_ne _ _ _ _ (by omega)]
              unfold en48
              rw [up_nj _ _ _ _ (by omega), up_ne _ _ _ _ (by omega), up_ne _ _ _ _ (by omega), up_ne _ _ _ _ (by omega), up_ne _ _ _ _ (by omega), FB 30 (by omega) (by omega) (by omega) (by omega) (by omega) (by omega)]
              exact l6
            · rw [jG 26 (by omega) (by omega)]; exact l7
            · rw [G 36 (by unfold scr; omega) (by omega) (by omega) (by omega) (by omega) (by omega) (by omega) (by omega), FG 209 (by omega) (by omega) (by omega) (by omega) (by omega) (by omega)]
              refine ⟨(l8 u hu).1, (l8 u hu).2.1, fun h k hk hk0 => ?_⟩
              by_cases hkn : k = nd
              · rw [hkn, snD_eq] at hk0; exact absurd (show (2 : Nat) = 0 from hk0) (by decide)
              · rw [snD_ne hkn] at hk0 ⊢
                exact (l8 u hu).2.2 h k (by omega) hk0
            · rw [Gd 35 (by omega) (by omega), ← hsC, up_nj _ _ _ _ (by omega), en48_o _ _ _ _ _ (by omega), FB 35 (by omega) (by omega) (by omega) (by omega) (by omega) (by omega)]
              exact l8b k (by omega) k2
            · rw [hRd, ow, ow_sn (Nat.le_refl _), snD_eq, G1 37 (by omega), ← hs1, up_ne _ _ _ _ (by omega), ← hsE, up_ne _ _ _ _ (by omega), r52a u hu]
              rfl
            · rw [jG 26 (by omega) (by omega), FG 209 (by omega) (by omega) (by omega) (by omega) (by omega) (by omega)]
              have := ct_more (b := fun d => !decide (σ 198 d = 0)) (b' := fun d => !decide (sG 198 d = 0)) (m := 14) (u := d) (fun i _ hb => by
                rw [Bool.not_eq_true', decide_eq_false_iff_not] at hb ⊢
                rw [fG 198 (by omega) (by omega), F198]
                split
                · decide
                · exact hb) (by omega) (by rw [decide_eq_true a2]; rfl) (by rw [fG 198 (by omega) (by omega), F198, if_pos rfl]; rfl)
              omega
      · refine CM_thr (k := 2) (b := 0) hi ?_ (by omega) (r156f (b1 := true) (b2 := false) (by rfl) (by rfl) hi.2.1 (hr true false hb1 (by rw [decide_eq_false a2, Bool.and_false, Bool.and_false]))) (by unfold rI; omega)
        unfold fx_209 fx_95
        rw [c110y hd hn h23, gc_v, dead_yes hi hd a1, gc_v, gq_ix (by omega) (by omega), Int.toNat_natCast, c118 (by rw [e5]; exact e6), e5, if_neg a2, gc_e, gch_e, if_neg (by decide), if_pos rfl]
  · refine CM_thr (k := 1) (b := 0) hi ?_ (by omega) (r156f (b1 := false) (by rfl) (by rfl) hi.2.1 (hr false _ (by rw [decide_eq_false hx]) rfl)) (by unfold rI; omega)
    unfold fx_209 fx_95
    rw [c110n h1 hn h23 hx, gc_e, gch_e, if_pos rfl]
end CO2
