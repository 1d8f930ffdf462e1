section HA2
variable {σ σ' : gb_S} {c n nb nd : Nat} {P : pT} {ps : Nat → Nat} {De : Nat → dT} {Cf : Nat → List Nat}
/-- 25: hand -/
theorem uc25 {x y z w : Int} (h1 : -2147483648 ≤ x ∧ x ≤ 2147483647) (h2 : -2147483648 ≤ y ∧ y ≤ 2147483647) (h3 : -2147483648 ≤ z ∧ z ≤ 2147483647) (h4 : -2147483648 ≤ w ∧ w ≤ 2147483647) (hi : IV2 c σ n nb nd P ps De Cf) : CM rI c (fx_218 x y z w) (fx_187 x y z w) σ := by
  have hn := hi.1.1
  have h23 := hi.2.2.2.1.1
  obtain ⟨l1, l2, l3, l4, l5, l6, l7, ⟨l8, l8b⟩, l9, l10⟩ := id hi.2.2.2.2.2.2.2
  have hr := r187e h1 h2 h3 h4 hi.1
  by_cases hx : 0 ≤ x ∧ x < (n : Int)
  · have cx : fx_110 x σ = some (.inl 0, σ) := by rw [c110 h1 hn h23, if_pos hx]
    by_cases hy : 0 ≤ y ∧ y < (n : Int)
    · have cy : fx_110 y σ = some (.inl 0, σ) := by rw [c110 h2 hn h23, if_pos hy]
      have hb1 : true = (decide (0 ≤ x ∧ x < (n : Int)) && decide (0 ≤ y ∧ y < (n : Int))) := by rw [decide_eq_true hx, decide_eq_true hy]; rfl
      by_cases hxy : x = y
      · refine CM_thr (k := 2) (b := 0) hi ?_ (by omega) (r187f (b1 := true) (b2 := false) (by rfl) (by rfl) hi.2.1 ((hr true false hb1 (by rw [decide_eq_true hxy]; rfl)).2 rfl)) (by unfold rI; omega)
        unfold fx_218 fx_104
        rw [cx, gc_v, cy, gc_v, c114 h1 h2, if_pos hxy, gc_e, gch_e, if_neg (by decide), if_pos rfl]
      · by_cases hz : 0 ≤ z ∧ z < w ∧ w ≤ 60
        · have hb2 : true = (!decide (x = y) && decide (0 ≤ z ∧ z < w ∧ w ≤ 60)) := by rw [decide_eq_false hxy, decide_eq_true hz]; rfl
          obtain ⟨p, rfl⟩ : ∃ p : Nat, x = (p : Int) := ⟨x.toNat, by omega⟩
          obtain ⟨q, rfl⟩ : ∃ q : Nat, y = (q : Int) := ⟨y.toNat, by omega⟩
          obtain ⟨a, rfl⟩ : ∃ a : Nat, z = (a : Int) := ⟨z.toNat, by omega⟩
          obtain ⟨b, rfl⟩ : ∃ b : Nat, w = (b : Int) := ⟨w.toNat, by omega⟩
          have hp : p < n := by omega
          have hq : q < n := by omega
          have hpq : p ≠ q := by omega
          have hab : a < b := by omega
          have hb60 : b ≤ 60 := by omega
          have hown := fun (u : Nat) (hu : u < 60) => own_b hi hu
          have e57 := g57 (σ := σ) (a := 37) rfl (fun u hu => by have := hown u hu; omega) (x := (p : Int)) (by omega) (b := a) (t := b) hab hb60
          have hkle := ct_le (fun u => decide (a ≤ u) && decide (σ 37 u = (p : Int))) b
          have cc : ∀ X, fx_218 (p : Int) (q : Int) (a : Int) (b : Int) σ = X → X = X := fun _ _ => rfl
          -- refused late, by the reference
          have late : (decide (0 < ct (fun u => decide (a ≤ u) && decide (σ 37 u = (p : Int))) b) && (decide (σ 189 p = -1) && (decide (σ 189 q = -1) && decide (σ 187 26 < 60)))) = false → RQ (fx_187 (p : Int) (q : Int) (a : Int) (b : Int)) 3 0 n P σ := fun h => by
            obtain ⟨s, e, sc, st, t, o⟩ := r187y hp hq hpq hab hb60 hi
            refine ⟨gb_up s 187 43 3, ?_, SC_trans sc (up43_SC 3), up43_ST 3 st, up_eq _ _ _ _, by rw [up_ne _ _ _ _ (by omega)]; exact o⟩
            rw [e, h]
            unfold fx_187_142
            have := i129 (σ := s) true true false
            rw [ibT] at this
            rw [this, gc_v]
            exact (gq_R (by decide) (by decide)).trans (if_pos rfl)
          have pre : fx_104 (p : Int) (q : Int) (a : Int) (b : Int) σ = gc (fx_116 (p : Int) σ) (fun _ s10 => gc (fx_116 (q : Int) s10) (fun _ s12 => gc (fx_42 (p : Int) (a : Int) (b : Int) s12) (fun r13 s14 => gq (gR r13) (if r13 = 0 then some (.inr 2, s14) else gq (gR (s14 30 6)) (if (s14 30 6) < 60 then gc (fx_46 (p : Int) (q : Int) (a : Int) (b : Int) s14) (fun _ s18 => some (.inl r13, s18)) else some (.inr 2, s14)))))) := by
            unfold fx_104
            rw [cx, gc_v, cy, gc_v, c114 h1 h2, if_neg hxy, gc_v, c115 h3 h4, if_pos hz, gc_v]
          by_cases a1 : σ 189 p = -1
          · by_cases a2 : σ 189 q = -1
            · have e42 : fx_42 (p : Int) (a : Int) (b : Int) σ = some (.inl ((ct (fun u => decide (a ≤ u) && decide (σ 37 u = (p : Int))) b : Nat) : Int), σ) := by
                unfold fx_42
                rw [e57, gc_v]
              by_cases a3 : 0 < ct (fun u => decide (a ≤ u) && decide (σ 37 u = (p : Int))) b
              · by_cases a4 : σ 187 26 < 60
                · have hct := ct_le (fun u => !decide (σ 209 u = 0)) 60
                  have hct3 := ct_le (fun d => !decide (σ 198 d = 0)) 14
                  have hnd : nd < 134 := by omega
                  -- the class
                  generalize hsA : gb_up σ 30 6 (σ 30 6 + 1) = sA
                  have fA : ∀ c, c ≠ 30 → sA c = σ c := fun c h => by rw [← hsA, up_ne _ _ _ _ h]
                  have hA5 : sA 30 5 = σ 30 5 := by rw [← hsA, up_nj _ _ _ _ (by omega)]
                  have hA6 : sA 30 6 = σ 30 6 + 1 := by rw [← hsA, up_eq]
                  have hDC1 : DC (en48 sA nd (p : Int) (q : Int) (a : Int) (b : Int)) (nd + 1) (snD De nd (1, p, q, a, b)) := DC_sn (DC_cong hA5 (fun c h1 h2 => fA c (by omega)) l1) (by rw [fA 35 (by omega)]; exact l8b nd (Nat.le_refl _) hnd) rfl (fun h => absurd (show (1 : Nat) = 0 from h) (by decide)) (fun _ => rfl) rfl rfl
                  have hDV : DV n (nd + 1) (snD De nd (1, p, q, a, b)) := ⟨by omega, fun k hk => by
                    by_cases hkn : k = nd
                    · rw [hkn, snD_eq]
                      exact ⟨show (1 : Nat) ≤ 2 by decide, hp, fun _ => hq, hab, hb60⟩
                    · rw [snD_ne hkn]; exact l3.2 k (by omega)⟩
                  have hGD : GD (nd + 1) (snD De nd (1, p, q, a, b)) := fun k hk hk0 j hj hj0 u hu1 hu2 => by
                    by_cases hkn : k = nd
                    · rw [hkn, snD_eq] at hk0
                      exact absurd (show (1 : Nat) = 0 from hk0) (by decide)
                    · rw [snD_ne hkn] at hk0 hu1 hu2
                      rw [snD_ne (by omega)] at hj0 ⊢
                      exact l4 k (by omega) hk0 j hj hj0 u hu1 hu2
                  have h37 : ∀ u, en48 sA nd (p : Int) (q : Int) (a : Int) (b : Int) 37 u = σ 37 u := fun u => by rw [en48_o _ _ _ _ _ (by omega), fA 37 (by omega)]
                  obtain ⟨s1b, e51, r51, f51⟩ := g51 (a := 37) (σ := en48 sA nd (p : Int) (q : Int) (a : Int) (b : Int)) (Or.inl rfl) hn hDC1 hDV (k := nd) (by omega) (by rw [snD_eq]; exact (by decide : ¬ (1 : Nat) = 2)) (fun u hu => by rw [h37]; have := hown u hu; omega)
                  have hc1 : fx_218 (p : Int) (q : Int) (a : Int) (b : Int) σ = some (.inl 0, gb_up s1b 224 0 ((ct (fun u => decide (a ≤ u) && decide (σ 37 u = (p : Int))) b : Nat) : Int)) := by
                    unfold fx_218
                    rw [pre, alive_yes hi hp a1, gc_v, alive_yes hi hq a2, gc_v, e42, gc_v, gq_R (by omega) (by omega), if_neg (by omega), gq_R (by omega) (by omega), if_pos (by omega)]
                    unfold fx_46
                    rw [hsA, c48 (by rw [hA5]; exact l1.1) hnd, gc_v, e51, gc_v, gc_v, gch_v, gq_R (by omega) (by omega)]
                  generalize hs1 : gb_up s1b 224 0 ((ct (fun u => decide (a ≤ u) && decide (σ 37 u = (p : Int))) b : Nat) : Int) = s1 at hc1
                  -- the reference, on the world behind the class: first its drawing, on a world with the old land
                  have f1 : ∀ c, c ≠ 37 → c ≠ 224 → (c < 30 ∨ 34 < c) → s1 c = σ c := fun c h1 h2 h3 => by rw [← hs1, up_ne _ _ _ _ h2, f51 c h1, en48_o _ _ _ _ _ h3, fA c (by omega)]
                  have h187 : s1 187 = σ 187 := f1 187 (by omega) (by omega) (by omega)
                  have S1 : ∀ c, c ≠ 224 → c ≠ 37 → s1 c = en48 sA nd (p : Int) (q : Int) (a : Int) (b : Int) c := fun c h1 h2 => by rw [← hs1, up_ne _ _ _ _ h1, f51 c h2]
                  have hrb1 : RB s1 n nb P ps := RB_cong (fun j _ => by rw [h187]) (fun c h => f1 c (by omega) (by omega) (by omega)) hi.1
                  have hst1 : ST s1 n P := ST_cong (by rw [h187]) (f1 212 (by omega) (by omega) (by omega)) (f1 213 (by omega) (by omega) (by omega)) hi.2.1
                  have hDR1 : DR s1 nd De := DR_cong (by rw [h187]) (fun c hc => f1 c (by omega) (by omega) (by omega)) l2
                  have hR1 : Rd s1 n P = Rd σ n P := funext fun d => Rd_cong (fun c h => f1 c (by omega) (by omega) (by omega)) n P d
                  obtain ⟨s, e184, r184a, d1, d2, d3⟩ := g184 (De := De) (Cf := Cf) hrb1 hst1 hDR1 l3 (fun d hd => by
                    have := (hi.2.2.2.2.2.2.1 d (by omega)).2.2.2.1
                    exact CR_keep (by rw [f1 202 (by omega) (by omega) (by omega)]) (fun k _ => by rw [f1 201 (by omega) (by omega) (by omega)]) this)
                  have hs222 : ∀ u, u < 60 → s 222 u = σ 37 u := fun u hu => by rw [r184a u hu, hR1, l9 u hu]
                  have sc1 : SC s1 s := ⟨fun c h1 h2 => d3 c h2 (by unfold scr at h1; omega) (by unfold scr at h1; omega), fun j h1 _ => d1 j h1⟩
                  have hrbs : RB s n nb P ps := RB_cong (fun j h => sc1.2 j (by omega) (by omega)) (fun c h => sc1.1 c (by unfold scr; omega) (by omega)) hrb1
                  have e26 : s 187 26 = σ 187 26 := by rw [sc1.2 26 (by omega) (by omega), h187]
                  have e189 : s 189 = σ 189 := by rw [sc1.1 189 (by unfold scr; omega) (by omega), f1 189 (by omega) (by omega) (by omega)]
                  have hc2 : fx_187 (p : Int) (q : Int) (a : Int) (b : Int) s1 = some (.inl ((ct (fun u => decide (a ≤ u) && decide (σ 37 u = (p : Int))) b : Nat) : Int), en180 (gb_up (gb_up s 187 43 0) 187 26 (σ 187 26 + 1)) nd 1 (p : Int) (q : Int) (a : Int) (b : Int)) := by
                    rw [(r187e (σ := s1) (x := (p : Int)) (y := (q : Int)) (z := (a : Int)) (w := (b : Int)) h1 h2 h3 h4 hrb1 true true hb1 hb2).1]
                    unfold fx_187_42
                    rw [ibT, gq_R (by omega) (by omega), if_neg (by decide), gq_R (by omega) (by omega), if_neg (by decide), e184, gc_v]
                    have hl := r187l (σ := s) (x := (p : Int)) (y := (q : Int)) (z := (a : Int)) (x5 := 1) (x6 := 1) (by omega) hab hb60 (fun u hu => by rw [hs222 u hu]; have := hown u hu; omega) (b - a) gFU (Nat.le_refl _) (by unfold gFU; omega)
                    rw [show b - (b - a) = a by omega, ct_zero (b := fun u => decide (a ≤ u) && decide (s 222 u = (p : Int))) (m := a) (fun u hu => by rw [decide_eq_false (by omega)]; rfl), ct_congr (b := fun u => decide (a ≤ u) && decide (s 222 u = (p : Int))) (c := fun u => decide (a ≤ u) && decide (σ 37 u = (p : Int))) (m := b) (fun u hu => by rw [hs222 u (by omega)])] at hl
                    refine hl.trans ?_
                    rw [r187_98 hrbs hp hq (by omega) (by rw [e26]; exact l7), e189, e26, decide_eq_true a1, decide_eq_true a2, decide_eq_true a3, decide_eq_true a4]
                    unfold fx_187_142
                    have := i129 (σ := s) true true true
                    rw [ibT] at this
                    rw [show (true && (true && (true && true))) = true from rfl, ibT, this, gc_v, Bool.true_and, Bool.true_and, ibT, gq_R (by omega) (by omega), if_neg (by decide), if_pos rfl, if_pos rfl, if_pos rfl, up_nj _ _ _ _ (by omega : (26 : Nat) ≠ 43), e26, r180 (by rw [up_nj _ _ _ _ (by omega), up_nj _ _ _ _ (by omega), sc1.2 25 (by omega) (by omega), h187]; exact l2.1) hnd, gc_v]
                  generalize hs2 : en180 (gb_up (gb_up s 187 43 0) 187 26 (σ 187 26 + 1)) nd 1 (p : Int) (q : Int) (a : Int) (b : Int) = s2 at hc2
                  have g2 : ∀ c, ¬ scr c → c ≠ 187 → (c < 204 ∨ 208 < c) → s2 c = s1 c := fun c h1 h2 h3 => by rw [← hs2, en180_o _ _ _ _ _ _ h3 h2, up_ne _ _ _ _ h2, up_ne _ _ _ _ h2, sc1.1 c h1 h2]
                  have J : ∀ j, j ≠ 25 → j ≠ 26 → j ≠ 29 → j ≠ 43 → s2 187 j = σ 187 j := fun j h1 h2 h3 h4 => by rw [← hs2, en180_j _ _ _ _ _ _ h1, up_nj _ _ _ _ h2, up_nj _ _ _ _ h4, sc1.2 j h3 h4, h187]
                  have J26 : s2 187 26 = σ 187 26 + 1 := by rw [← hs2, en180_j _ _ _ _ _ _ (by omega), up_eq]
                  have F : ∀ c, ¬ scr c → c ≠ 37 → (c < 30 ∨ 34 < c) → c ≠ 187 → (c < 204 ∨ 208 < c) → s2 c = σ c := fun c h1 h2 h3 h4 h5 => by
                    rw [g2 c h1 h4 h5, f1 c h2 (by intro q; apply h1; unfold scr; omega) h3]
                  have hst2 : ST s2 n P := ST_cong (by rw [← hs2, en180_j _ _ _ _ _ _ (by omega), up_nj _ _ _ _ (by omega), up_nj _ _ _ _ (by omega)]) (by rw [← hs2, en180_o _ _ _ _ _ _ (by omega) (by omega), up_ne _ _ _ _ (by omega), up_ne _ _ _ _ (by omega)]) (by rw [← hs2, en180_o _ _ _ _ _ _ (by omega) (by omega), up_ne _ _ _ _ (by omega), up_ne _ _ _ _ (by omega)]) d2
                  refine ⟨0, s1, _, s2, hc1, hc2, ?_, fun _ => ?_, by omega, by unfold rI; omega, n, nb, nd + 1, P, ps, snD De nd (1, p, q, a, b), Cf, IV_mono (IV_deed hi (fun c k1 k2 k3 k4 => ?_) (fun j k1 k2 k3 k4 => J j k3 k4 k1 k2) hst2 (fun hR => ?_))⟩
                  · rw [← hs2, en180_j _ _ _ _ _ _ (by omega), up_nj _ _ _ _ (by omega), up_eq]
                  · rw [← hs2, en180_o _ _ _ _ _ _ (by omega) (by omega), up_ne _ _ _ _ (by omega), up_ne _ _ _ _ (by omega), d3 224 (by omega) (by omega) (by omega), ← hs1, up_eq]
                  · exact F c k1 (by omega) (by omega) k2 (by omega)
                  · refine ⟨?_, ?_, hDV, hGD, fun k hk hk2 => ?_, ?_, ?_, ⟨fun u hu => ?_, fun k k1 k2 => ?_⟩, fun u hu => ?_, ?_⟩
                    · refine DC_cong ?_ (fun c k1 k2 => ?_) hDC1
                      · rw [g2 30 (by unfold scr; omega) (by omega) (by omega), S1 30 (by omega) (by omega)]
                      · rw [g2 c (by unfold scr; omega) (by omega) (by omega), S1 c (by omega) (by omega)]
                    · rw [← hs2]
                      exact DR_sn (DR_cong (by rw [up_nj _ _ _ _ (by omega), up_nj _ _ _ _ (by omega), sc1.2 25 (by omega) (by omega)]) (fun c hc => by rw [up_ne _ _ _ _ (by omega), up_ne _ _ _ _ (by omega), sc1.1 c (by unfold scr; omega) (by omega)]) hDR1) rfl rfl (fun _ => rfl) rfl rfl
                    · by_cases hkn : k = nd
                      · rw [hkn, snD_eq] at hk2; exact absurd (show (1 : Nat) = 2 from hk2) (by decide)
                      · rw [snD_ne hkn] at hk2 ⊢
                        have hd := (l3.2 k (by omega)).2.1
                        rw [F 198 (by unfold scr; omega) (by omega) (by omega) (by omega) (by omega), F (47 + 10 * (De k).2.1) (by unfold scr; omega) (by omega) (by omega) (by omega) (by omega)]
                        exact l5 k (by omega) hk2
                    · rw [J26, g2 30 (by unfold scr; omega) (by omega) (by omega), S1 30 (by omega) (by omega)]
                      unfold en48
                      rw [up_nj _ _ _ _ (by omega), up_ne _ _ _ _ (by omega), up_ne _ _ _ _ (by omega), up_ne _ _ _ _ (by omega), up_ne _ _ _ _ (by omega), hA6, l6]
                    · rw [J26]; omega
                    · rw [F 209 (by unfold scr; omega) (by omega) (by omega) (by omega) (by omega), F 36 (by unfold scr; omega) (by omega) (by omega) (by omega) (by omega)]
                      refine ⟨(l8 u hu).1, (l8 u hu).2.1, fun h k hk hk0 => ?_⟩
                      by_cases hkn : k = nd
                      · rw [hkn, snD_eq] at hk0; exact absurd (show (1 : Nat) = 0 from hk0) (by decide)
                      · rw [snD_ne hkn] at hk0 ⊢
                        exact (l8 u hu).2.2 h k (by omega) hk0
                    · rw [F 35 (by unfold scr; omega) (by omega) (by omega) (by omega) (by omega)]
                      exact l8b k (by omega) k2
                    · have hdho := dst_ho (n := n) (Rf := Rd σ n P) (Cf := Cf) hGD (k := nd) (by omega) (by rw [snD_eq]; exact ⟨show (1 : Nat) ≤ 2 by decide, show ¬ (1 : Nat) = 2 by decide⟩) u
                      rw [hR, ow, hdho, ow_sn (Nat.le_refl _), g2 37 (by unfold scr; omega) (by omega) (by omega), ← hs1, up_ne _ _ _ _ (by omega), r51 u hu, h37, l9 u hu]
                    · rw [J26, F 198 (by unfold scr; omega) (by omega) (by omega) (by omega) (by omega), F 209 (by unfold scr; omega) (by omega) (by omega) (by omega) (by omega)]
                      omega
                · refine CM_thr (k := 3) (b := 0) hi ?_ (by omega) (late (by rw [decide_eq_false a4]; simp)) (by unfold rI; omega)
                  unfold fx_218
                  rw [pre, alive_yes hi hp a1, gc_v, alive_yes hi hq a2, gc_v, e42, gc_v, gq_R (by omega) (by omega), if_neg (by omega), gq_R (by omega) (by omega), if_neg (by omega), gch_e, if_neg (by decide), if_neg (by decide), if_pos rfl]
              · refine CM_thr (k := 3) (b := 0) hi ?_ (by omega) (late (by rw [decide_eq_false a3]; rfl)) (by unfold rI; omega)
                unfold fx_218
                rw [pre, alive_yes hi hp a1, gc_v, alive_yes hi hq a2, gc_v, e42, gc_v, gq_R (by omega) (by omega), if_pos (by omega), gch_e, if_neg (by decide), if_neg (by decide), if_pos rfl]
            · refine CM_thr (k := 3) (b := 0) hi ?_ (by omega) (late (by rw [decide_eq_false a2]; simp)) (by unfold rI; omega)
              unfold fx_218
              rw [pre, alive_yes hi hp a1, gc_v, alive_no hi hq a2, gc_e, gch_e, if_neg (by decide), if_neg (by decide), if_pos rfl]
          · refine CM_thr (k := 3) (b := 0) hi ?_ (by omega) (late (by rw [decide_eq_false a1]; simp)) (by unfold rI; omega)
            unfold fx_218
            rw [pre, alive_no hi hp a1, gc_e, gch_e, if_neg (by decide), if_neg (by decide), if_pos rfl]
        · refine CM_thr (k := 2) (b := 0) hi ?_ (by omega) (r187f (b1 := true) (b2 := false) (by rfl) (by rfl) hi.2.1 ((hr true false hb1 (by rw [decide_eq_false hz, Bool.and_false])).2 rfl)) (by unfold rI; omega)
          unfold fx_218 fx_104
          rw [cx, gc_v, cy, gc_v, c114 h1 h2, if_neg hxy, gc_v, c115 h3 h4, if_neg hz, gc_e, gch_e, if_neg (by decide), if_pos rfl]
    · refine CM_thr (k := 1) (b := 0) hi ?_ (by omega) (r187f (b1 := false) (by rfl) (by rfl) hi.2.1 ((hr false _ (by rw [decide_eq_false hy, Bool.and_false]) rfl).2 rfl)) (by unfold rI; omega)
      unfold fx_218 fx_104
      rw [cx, gc_v, c110n h2 hn h23 hy, gc_e, gch_e, if_pos rfl]
  · refine CM_thr (k := 1) (b := 0) hi ?_ (by omega) (r187f (b1 := false) (by rfl) (by rfl) hi.2.1 ((hr false _ (by rw [decide_eq_false hx]; rfl) rfl).2 rfl)) (by unfold rI; omega)
    unfold fx_218 fx_104
    rw [c110n h1 hn h23 hx, gc_e, gch_e, if_pos rfl]
end HA2
