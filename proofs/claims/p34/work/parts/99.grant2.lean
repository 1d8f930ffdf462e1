section GR2
variable {σ σ' : gb_S} {c n nb nd : Nat} {P : pT} {ps : Nat → Nat} {De : Nat → dT} {Cf : Nat → List Nat}
/-- 24: grant -/
theorem uc24 {x y z : Int} (h1 : -2147483648 ≤ x ∧ x ≤ 2147483647) (h2 : -2147483648 ≤ y ∧ y ≤ 2147483647) (h3 : -2147483648 ≤ z ∧ z ≤ 2147483647) (hi : IV2 c σ n nb nd P ps De Cf) : CM rI c (fx_217 x y z) (fx_186 x y z) σ := by
  have hn := hi.1.1
  have h23 := hi.2.2.2.1.1
  obtain ⟨l1, l2, l3, l4, l5, l6, l7, ⟨l8, l8b⟩, l9, l10⟩ := id hi.2.2.2.2.2.2.2
  have hr := r186 h1 h2 h3 hi.1 (fun u hu => (l8 u hu).2.1)
  by_cases hx : 0 ≤ x ∧ x < (n : Int)
  · have cx : fx_110 x σ = some (.inl 0, σ) := by rw [c110 h1 hn h23, if_pos hx]
    obtain ⟨p, rfl⟩ : ∃ p : Nat, x = (p : Int) := ⟨x.toNat, by omega⟩
    have hp : p < n := by omega
    by_cases hy : 0 ≤ y ∧ y < z ∧ z ≤ 60
    · have cy : fx_115 y z σ = some (.inl 0, σ) := by rw [c115 h2 h3, if_pos hy]
      obtain ⟨a, rfl⟩ : ∃ a : Nat, y = (a : Int) := ⟨y.toNat, by omega⟩
      obtain ⟨b, rfl⟩ : ∃ b : Nat, z = (b : Int) := ⟨z.toNat, by omega⟩
      have hab : a < b := by omega
      have hb60 : b ≤ 60 := by omega
      obtain ⟨b3, e3, hb3⟩ := hr true true (by rw [decide_eq_true hx]) (by rw [decide_eq_true hy])
      have hb3 := hb3 rfl rfl
      rw [Int.toNat_natCast, Int.toNat_natCast, Int.toNat_natCast] at hb3
      by_cases ha : σ 189 p = -1
      · rw [decide_eq_true ha, Bool.true_and] at hb3
        have h36 : frB (σ 36) b (b - a) = frB (σ 209) b (b - a) := frB_congr (by omega) (fun u hu => (l8 u (by omega)).1)
        have e41 := c41 (σ := σ) hab hb60 (fun u hu => by have := l8 u hu; omega)
        rw [h36, ← hb3] at e41
        cases b3 with
        | false =>
          refine CM_thr (k := 3) (b := 0) hi ?_ (by omega) (r186f (by rfl) (by rfl) hi.2.1 e3) (by unfold rI; omega)
          unfold fx_217 fx_103
          rw [cx, gc_v, cy, gc_v, alive_yes hi hp ha, gc_v, e41, gc_v, Bool.not_false, ibT, gq_R (by omega) (by omega), if_neg (by decide), gch_e, if_neg (by decide), if_neg (by decide), if_pos rfl]
        | true =>
          have hfree := (frB_iff (f := σ 209) (b := b) (m := b - a) (by omega)).mp hb3.symm
          have hfree : ∀ u, a ≤ u → u < b → σ 209 u = 0 := fun u hu1 hu2 => hfree u (by omega) hu2
          -- how many deeds there are
          have hct := ct_more (b := fun u => !decide (σ 209 u = 0)) (b' := fun _ => true) (m := 60) (u := a) (fun _ _ _ => rfl) (by omega) (by rw [decide_eq_true (hfree a (Nat.le_refl _) hab)]; rfl) rfl
          have hct2 := ct_le (fun _ => true) 60
          have hct3 := ct_le (fun d => !decide (σ 198 d = 0)) 14
          have hnd : nd < 134 := by omega
          -- the class
          obtain ⟨sA, eA, r36, fA⟩ := c45 (x1 := (p : Int)) (x2 := (a : Int)) hb60 hab (b - a) gFU σ (Nat.le_refl _) (by unfold gFU; omega)
          rw [show b - (b - a) = a by omega] at eA r36
          have hDC1 : DC (en48 sA nd (-1) (p : Int) (a : Int) (b : Int)) (nd + 1) (snD De nd (0, p, 0, a, b)) := DC_sn (DC_cong (by rw [fA 30 (by omega)]) (fun c h1 h2 => fA c (by omega)) l1) (by rw [fA 35 (by omega)]; exact l8b nd (Nat.le_refl _) hnd) rfl (fun _ => rfl) (fun h => absurd (show (0 : Nat) = 1 from h) (by decide)) rfl rfl
          have hDV : DV n (nd + 1) (snD De nd (0, p, 0, a, b)) := ⟨by omega, fun k hk => by
            by_cases hkn : k = nd
            · rw [hkn, snD_eq]
              exact ⟨show (0 : Nat) ≤ 2 by decide, hp, fun h => absurd (show (0 : Nat) = 1 from h) (by decide), hab, hb60⟩
            · rw [snD_ne hkn]; exact l3.2 k (by omega)⟩
          have hGD : GD (nd + 1) (snD De nd (0, p, 0, a, b)) := fun k hk hk0 j hj hj0 u hu1 hu2 => by
            by_cases hkn : k = nd
            · subst hkn
              rw [snD_eq] at hu1 hu2
              rw [snD_ne (by omega)] at hj0 ⊢
              exact (l8 u (by have hu2 : u < b := hu2; omega)).2.2 (hfree u hu1 hu2) j hj hj0
            · rw [snD_ne hkn] at hk0 hu1 hu2
              rw [snD_ne (by omega)] at hj0 ⊢
              exact l4 k (by omega) hk0 j hj hj0 u hu1 hu2
          have hown := fun (u : Nat) (hu : u < 60) => own_b hi hu
          have h37 : ∀ u, en48 sA nd (-1) (p : Int) (a : Int) (b : Int) 37 u = σ 37 u := fun u => by rw [en48_o _ _ _ _ _ (by omega), fA 37 (by omega)]
          obtain ⟨s1b, e51, r51, f51⟩ := g51 (a := 37) (σ := en48 sA nd (-1) (p : Int) (a : Int) (b : Int)) (Or.inl rfl) hn hDC1 hDV (k := nd) (by omega) (by rw [snD_eq]; exact (by decide : ¬ (0 : Nat) = 2)) (fun u hu => by rw [h37]; have := hown u hu; omega)
          have hc1 : fx_217 (p : Int) (a : Int) (b : Int) σ = some (.inl 0, gb_up s1b 224 0 ((b : Int) - (a : Int))) := by
            unfold fx_217 fx_103
            rw [cx, gc_v, cy, gc_v, alive_yes hi hp ha, gc_v, e41, gc_v, Bool.not_true, ibF, gq_R (by omega) (by omega), if_pos rfl]
            unfold fx_45
            rw [gq_R (by omega) (by omega), show max ((a : Nat) : Int) 0 = (a : Int) by omega, eA]
            unfold fx_45_34
            rw [c48 (by rw [fA 30 (by omega)]; exact l1.1) hnd, gc_v, e51, gc_v, gc_v, gch_v, gq_R (by omega) (by omega)]
          generalize hs1 : gb_up s1b 224 0 ((b : Int) - (a : Int)) = s1 at hc1
          have f1 : ∀ c, c ≠ 36 → c ≠ 37 → c ≠ 224 → (c < 30 ∨ 34 < c) → s1 c = σ c := fun c h1 h2 h3 h4 => by rw [← hs1, up_ne _ _ _ _ h3, f51 c h2, en48_o _ _ _ _ _ h4, fA c h1]
          have h187 : s1 187 = σ 187 := f1 187 (by omega) (by omega) (by omega) (by omega)
          have hrb1 : RB s1 n nb P ps := RB_cong (fun j _ => by rw [h187]) (fun c h => f1 c (by omega) (by omega) (by omega) (by omega)) hi.1
          -- the reference
          obtain ⟨s2b, e96, r209, f96⟩ := r186m (x1 := (p : Int)) (x2 := (a : Int)) hb60 hab (b - a) gFU (gb_up s1 187 43 0) (Nat.le_refl _) (by unfold gFU; omega)
          rw [show b - (b - a) = a by omega] at e96 r209
          have k2b : ∀ j, j ≠ 43 → s2b 187 j = σ 187 j := fun j h => by rw [f96 187 (by omega), up_nj _ _ _ _ h, h187]
          have f2b : ∀ c, c ≠ 209 → c ≠ 187 → s2b c = s1 c := fun c h1 h2 => by rw [f96 c h1, up_ne _ _ _ _ h2]
          have hc2 : fx_186 (p : Int) (a : Int) (b : Int) s1 = some (.inl ((b : Int) - (a : Int)), en180 s2b nd 0 (p : Int) (-1) (a : Int) (b : Int)) := by
            have h209 : s1 209 = σ 209 := f1 209 (by omega) (by omega) (by omega) (by omega)
            obtain ⟨b4, e4, hb4⟩ := r186 h1 h2 h3 hrb1 (fun u hu => by rw [h209]; exact (l8 u hu).2.1) true true (by rw [decide_eq_true hx]) (by rw [decide_eq_true hy])
            have hb4 := hb4 rfl rfl
            rw [Int.toNat_natCast, Int.toNat_natCast, Int.toNat_natCast, h209, f1 189 (by omega) (by omega) (by omega) (by omega), decide_eq_true ha, Bool.true_and, ← hb3] at hb4
            rw [e4, hb4]
            unfold fx_186_78
            rw [i129, gc_v, Bool.true_and, Bool.true_and, ibT, gq_R (by omega) (by omega), if_neg (by decide), if_pos rfl, if_pos rfl, if_pos rfl, e96, r180 (by rw [k2b 25 (by omega)]; exact l2.1) hnd, gc_v]
          generalize hs2 : en180 s2b nd 0 (p : Int) (-1) (a : Int) (b : Int) = s2 at hc2
          have g2 : ∀ c, c ≠ 187 → (c < 204 ∨ 209 < c) → s2 c = s1 c := fun c h1 h2 => by rw [← hs2, en180_o _ _ _ _ _ _ (by omega) h1, f2b c (by omega) h1]
          have J : ∀ j, j ≠ 25 → j ≠ 43 → s2 187 j = σ 187 j := fun j h1 h2 => by rw [← hs2, en180_j _ _ _ _ _ _ h1, k2b j h2]
          have F : ∀ c, c ≠ 36 → c ≠ 37 → c ≠ 224 → (c < 30 ∨ 34 < c) → c ≠ 187 → (c < 204 ∨ 209 < c) → s2 c = σ c := fun c h1 h2 h3 h4 h5 h6 => by rw [g2 c h5 h6, f1 c h1 h2 h3 h4]
          have S1 : ∀ c, c ≠ 224 → c ≠ 37 → s1 c = en48 sA nd (-1) (p : Int) (a : Int) (b : Int) c := fun c h1 h2 => by rw [← hs1, up_ne _ _ _ _ h1, f51 c h2]
          have G209 : ∀ u, s2 209 u = if a ≤ u ∧ u < b then 1 else σ 209 u := fun u => by rw [← hs2, en180_o _ _ _ _ _ _ (by omega) (by omega), r209 u, up_ne _ _ _ _ (by omega), f1 209 (by omega) (by omega) (by omega) (by omega)]
          refine ⟨0, s1, _, s2, hc1, hc2, ?_, fun _ => ?_, by omega, by unfold rI; omega, n, nb, nd + 1, P, ps, snD De nd (0, p, 0, a, b), Cf, IV_mono (IV_deed hi (fun c k1 k2 k3 k4 => ?_) (fun j k1 k2 k3 k4 => J j k3 k2) (ST_cong (J 29 (by omega) (by omega)) (F 212 (by omega) (by omega) (by omega) (by omega) (by omega) (by omega)) (F 213 (by omega) (by omega) (by omega) (by omega) (by omega) (by omega)) hi.2.1) (fun hR => ?_))⟩
          · rw [← hs2, en180_j _ _ _ _ _ _ (by omega), f96 187 (by omega), up_eq]
          · rw [g2 224 (by omega) (by omega), ← hs1, up_eq]
          · exact F c (by omega) (by omega) (by intro q; apply k1; unfold scr; omega) (by omega) k2 (by omega)
          · refine ⟨?_, ?_, hDV, hGD, fun k hk hk2 => ?_, ?_, ?_, ⟨fun u hu => ?_, fun k k1 k2 => ?_⟩, fun u hu => ?_, ?_⟩
            · refine DC_cong ?_ (fun c k1 k2 => ?_) hDC1
              · rw [g2 30 (by omega) (by omega), S1 30 (by omega) (by omega)]
              · rw [g2 c (by omega) (by omega), S1 c (by omega) (by omega)]
            · rw [← hs2]
              exact DR_sn (DR_cong (k2b 25 (by omega)) (fun c hc => by rw [f2b c (by omega) (by omega), f1 c (by omega) (by omega) (by omega) (by omega)]) l2) rfl rfl (fun h => absurd (show (0 : Nat) = 1 from h) (by decide)) rfl rfl
            · by_cases hkn : k = nd
              · rw [hkn, snD_eq] at hk2; exact absurd (show (0 : Nat) = 2 from hk2) (by decide)
              · rw [snD_ne hkn] at hk2 ⊢
                have hd := (l3.2 k (by omega)).2.1
                rw [F 198 (by omega) (by omega) (by omega) (by omega) (by omega) (by omega), F (47 + 10 * (De k).2.1) (by omega) (by omega) (by omega) (by omega) (by omega) (by omega)]
                exact l5 k (by omega) hk2
            · rw [J 26 (by omega) (by omega), g2 30 (by omega) (by omega), S1 30 (by omega) (by omega)]
              unfold en48
              rw [up_nj _ _ _ _ (by omega), up_ne _ _ _ _ (by omega), up_ne _ _ _ _ (by omega), up_ne _ _ _ _ (by omega), up_ne _ _ _ _ (by omega), fA 30 (by omega)]
              exact l6
            · rw [J 26 (by omega) (by omega)]; exact l7
            · rw [G209 u, g2 36 (by omega) (by omega), S1 36 (by omega) (by omega), en48_o _ _ _ _ _ (by omega), r36 u]
              by_cases hu2 : a ≤ u ∧ u < b
              · rw [if_pos hu2, if_pos hu2]
                exact ⟨rfl, Or.inr rfl, fun h => absurd h (by decide)⟩
              · rw [if_neg hu2, if_neg hu2]
                refine ⟨(l8 u hu).1, (l8 u hu).2.1, fun h k hk hk0 => ?_⟩
                by_cases hkn : k = nd
                · rw [hkn, snD_eq]; exact hu2
                · rw [snD_ne hkn] at hk0 ⊢
                  exact (l8 u hu).2.2 h k (by omega) hk0
            · rw [F 35 (by omega) (by omega) (by omega) (by omega) (by omega) (by omega)]
              exact l8b k (by omega) k2
            · have hdho := dst_ho (n := n) (Rf := Rd σ n P) (Cf := Cf) hGD (k := nd) (by omega) (by rw [snD_eq]; exact ⟨show (0 : Nat) ≤ 2 by decide, show ¬ (0 : Nat) = 2 by decide⟩) u
              rw [hR, ow, hdho, ow_sn (Nat.le_refl _), g2 37 (by omega) (by omega), ← hs1, up_ne _ _ _ _ (by omega), r51 u hu, h37, l9 u hu]
            · rw [J 26 (by omega) (by omega), F 198 (by omega) (by omega) (by omega) (by omega) (by omega) (by omega)]
              have := ct_more (b := fun u => !decide (σ 209 u = 0)) (b' := fun u => !decide (s2 209 u = 0)) (m := 60) (u := a) (fun i _ hb => by
                rw [Bool.not_eq_true', decide_eq_false_iff_not] at hb ⊢
                rw [G209 i]
                split
                · decide
                · exact hb) (by omega) (by rw [decide_eq_true (hfree a (Nat.le_refl _) hab)]; rfl) (by rw [G209 a, if_pos ⟨Nat.le_refl _, hab⟩]; rfl)
              omega
      · rw [decide_eq_false ha, Bool.false_and] at hb3
        refine CM_thr (k := 3) (b := 0) hi ?_ (by omega) (r186f (by rw [hb3]; rfl) (by rw [hb3]; rfl) hi.2.1 e3) (by unfold rI; omega)
        unfold fx_217 fx_103
        rw [cx, gc_v, cy, gc_v, alive_no hi hp ha, gc_e, gch_e, if_neg (by decide), if_neg (by decide), if_pos rfl]
    · obtain ⟨b3, e3, _⟩ := hr true false (by rw [decide_eq_true hx]) (by rw [decide_eq_false hy])
      refine CM_thr (k := 2) (b := 0) hi ?_ (by omega) (r186f (by rfl) (by rfl) hi.2.1 e3) (by unfold rI; omega)
      unfold fx_217 fx_103
      rw [cx, gc_v, c115 h2 h3, if_neg hy, gc_e, gch_e, if_neg (by decide), if_pos rfl]
  · obtain ⟨b3, e3, _⟩ := hr false _ (by rw [decide_eq_false hx]) rfl
    refine CM_thr (k := 1) (b := 0) hi ?_ (by omega) (r186f (by rfl) (by rfl) hi.2.1 e3) (by unfold rI; omega)
    unfold fx_217 fx_103
    rw [c110n h1 hn h23 hx, gc_e, gch_e, if_pos rfl]
end GR2
