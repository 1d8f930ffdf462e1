section GF1
variable {c0 : gx_C}
theorem gt_3_22 (k : Nat) : ∀ (a2 : Nat) (a3 : Nat) (a4 : Nat) (x5 : Int) (h2 : gb_kd a2 = 3) (h3 : gb_kd a3 = 1) (h4 : gb_kd a4 = 6) {lo : gh_L} (l0 : lo.lookup 0 = some (vr c0 26)) (l1 : lo.lookup 1 = some (vr c0 2)) (l2 : lo.lookup 2 = some (vr c0 a2)) (l3 : lo.lookup 3 = some (vr c0 a3)) (l4 : lo.lookup 4 = some (vr c0 a4)) (l5 : lo.lookup 5 = some (vi x5)) {σ : gb_S}, gb_G (fx_3_22 k a2 a3 a4 x5 σ) 60 0 none (fun _ _ => none) gk_3 c0 eV 22 lo [] σ := by
  induction k with
  | zero => intros; exact gg_n
  | succ k ih =>
    intro a2 a3 a4 x5 h2 h3 h4 lo l0 l1 l2 l3 l4 l5 σ
    rw [fx_3_22]
    refine gg_il 24 5 rfl rfl l5 ?_
    refine gg_al 25 1 rfl rfl l1 ?_
    refine gg_gi 28 rfl rfl rfl gcl_2 rfl ?_
    refine gg_q (fun q1 => ?_)
    refine gg_q (fun q2 => ?_)
    refine gg_ige 57 31 rfl rfl rfl rfl q1 q2 ?_ ?_
    · refine gg_al 58 0 rfl rfl l0 ?_
      refine gg_al 59 3 rfl rfl l3 ?_
      refine gg_al 61 4 rfl rfl l4 ?_
      refine gg_cV 64 rfl (gm_10 _ _ h3 h4) (Nat.le_of_ble_eq_true rfl) (gb_vs rfl rfl rfl rfl rfl gcl_26 rfl rfl rfl) rfl (fun _ => rfl) (fun _ => rfl) (fun s4 => ?_)
      exact gg_vr rfl
    · refine gg_al 32 0 rfl rfl l0 ?_
      refine gg_gi 35 rfl rfl rfl gcl_26 rfl ?_
      refine gg_il 37 5 rfl rfl l5 ?_
      refine gg_cI 40 rfl (gm_123 _ _) (Nat.le_of_ble_eq_true rfl) (gb_ss rfl rfl rfl rfl rfl rfl rfl) rfl (fun _ => rfl) (fun _ => rfl) (fun r5 s6 => ?_)
      refine gg_q (fun q7 => ?_)
      refine gg_zeq 51 43 rfl rfl rfl rfl q7 ?_ ?_
      · refine gg_inc 54 rfl rfl l5 ?_
        refine gg_go 22 rfl rfl rfl ?_
        exact ih a2 a3 a4 (x5 + 1) h2 h3 h4 (gl1 rfl rfl l0) (gl1 rfl rfl l1) (gl1 rfl rfl l2) (gl1 rfl rfl l3) (gl1 rfl rfl l4) gs1
      · refine gg_al 44 0 rfl rfl l0 ?_
        refine gg_il 46 5 rfl rfl l5 ?_
        refine gg_al 47 2 rfl rfl l2 ?_
        refine gg_ci 48 0 rfl rfl ?_
        refine gg_cV 51 rfl (gm_4 20 _ _ _ h2) (Nat.le_of_ble_eq_true rfl) (gb_vs rfl rfl rfl rfl rfl gcl_26 rfl rfl rfl) rfl (fun _ => rfl) (fun _ => rfl) (fun s9 => ?_)
        refine gg_inc 54 rfl rfl l5 ?_
        refine gg_go 22 rfl rfl rfl ?_
        exact ih a2 a3 a4 (x5 + 1) h2 h3 h4 (gl1 rfl rfl l0) (gl1 rfl rfl l1) (gl1 rfl rfl l2) (gl1 rfl rfl l3) (gl1 rfl rfl l4) gs1
theorem gm_3 (a2 : Nat) (a3 : Nat) (a4 : Nat) (h2 : gb_kd a2 = 3) (h3 : gb_kd a3 = 1) (h4 : gb_kd a4 = 6) {σ : gb_S} : gb_M (fx_3 a2 a3 a4 σ) 61 c0 eV 3 [vr c0 26, vr c0 2, vr c0 a2, vr c0 a3, vr c0 a4] σ := by
  rw [fx_3]
  refine gg_m (own := 0) (rt := none) (hnd := fun _ _ => none) (K := gk_3) (δ := 60) rfl rfl ?_
  refine gg_al 1 0 rfl rfl rfl ?_
  refine gg_al 2 1 rfl rfl rfl ?_
  refine gg_al 3 2 rfl rfl rfl ?_
  refine gg_al 4 3 rfl rfl rfl ?_
  refine gg_cV 7 rfl (gm_7 _ _ h2 h3) (Nat.le_of_ble_eq_true rfl) (gb_vs rfl rfl rfl rfl rfl gcl_26 rfl rfl rfl) rfl (fun _ => rfl) (fun _ => rfl) (fun s2 => ?_)
  refine gg_al 8 0 rfl rfl rfl ?_
  refine gg_gr 11 27 rfl rfl rfl gcl_26 rfl ?_
  refine gg_cV 14 rfl (gm_69 _ (rfl : gb_kd 27 = 6)) (Nat.le_of_ble_eq_true rfl) (gb_vs rfl rfl rfl rfl rfl gcl_27 rfl rfl rfl) rfl (fun _ => rfl) (fun _ => rfl) (fun s4 => ?_)
  refine gg_al 15 0 rfl rfl rfl ?_
  refine gg_ci 16 0 rfl rfl ?_
  refine gg_pf 19 rfl rfl rfl gcl_26 rfl ⟨rfl, rfl⟩ ?_
  refine gg_ci 20 0 rfl rfl ?_
  refine gg_s 22 rfl rfl ?_
  exact gt_3_22 gFU a2 a3 a4 0 h2 h3 h4 (gl1 rfl rfl rfl) (gl1 rfl rfl rfl) (gl1 rfl rfl rfl) (gl1 rfl rfl rfl) (gl1 rfl rfl rfl) gs1
theorem gm_14 (a0 : Nat) (x1 : Int) (x2 : Int) (h0 : gb_kd a0 = 1) {σ : gb_S} : gb_M (fx_14 a0 x1 x2 σ) 2 c0 eI 14 [vr c0 a0, vi x1, vi x2] σ := by
  rw [fx_14]
  refine gg_m (own := 1) (rt := (some .int)) (hnd := fun _ _ => none) (K := gk_14) (δ := 1) rfl rfl ?_
  refine gg_al 1 0 rfl rfl rfl ?_
  refine gg_il 2 1 rfl rfl rfl ?_
  refine gg_cI 5 rfl (gm_13 _ _ h0) (Nat.le_of_ble_eq_true rfl) (gb_vs rfl rfl rfl rfl rfl (ges0 h0) rfl rfl rfl) rfl (fun _ => rfl) (fun _ => rfl) (fun r1 s2 => ?_)
  refine gg_s 6 rfl rfl ?_
  refine gg_il 7 1 rfl rfl (gl1 rfl rfl rfl) ?_
  refine gg_q (fun q3 => ?_)
  refine gg_zlt 23 10 rfl rfl rfl rfl q3 ?_ ?_
  · refine gg_il 24 3 rfl rfl gs1 ?_
    exact gg_ir rfl
  · refine gg_il 11 1 rfl rfl (gl1 rfl rfl rfl) ?_
    refine gg_ci 13 14 rfl rfl ?_
    refine gg_ige 23 16 rfl rfl rfl rfl q3 (gRl rfl) ?_ ?_
    · refine gg_il 24 3 rfl rfl gs1 ?_
      exact gg_ir rfl
    · refine gg_al 17 0 rfl rfl (gl1 rfl rfl rfl) ?_
      refine gg_gr 20 (a0 + 1) rfl rfl rfl (ges0 h0) rfl ?_
      refine gg_il 21 1 rfl rfl (gl1 rfl rfl rfl) ?_
      refine gg_il 22 2 rfl rfl (gl1 rfl rfl rfl) ?_
      refine gg_q (fun q4 => ?_)
      refine gg_ias 23 rfl rfl (ges1 h0) q4 ?_
      refine gg_il 24 3 rfl rfl gs1 ?_
      exact gg_ir rfl
theorem gt_18_2 (k : Nat) : ∀ (a0 : Nat) (x1 : Int) (x2 : Int) (h0 : gb_kd a0 = 1) {lo : gh_L} (l0 : lo.lookup 0 = some (vr c0 a0)) (l1 : lo.lookup 1 = some (vi x1)) (l2 : lo.lookup 2 = some (vi x2)) {σ : gb_S}, gb_G (fx_18_2 k a0 x1 x2 σ) 0 1 (some .int) (fun _ _ => none) gk_18 c0 eI 2 lo [] σ := by
  induction k with
  | zero => intros; exact gg_n
  | succ k ih =>
    intro a0 x1 x2 h0 lo l0 l1 l2 σ
    rw [fx_18_2]
    refine gg_il 3 2 rfl rfl l2 ?_
    refine gg_al 4 0 rfl rfl l0 ?_
    refine gg_gi 7 rfl rfl rfl (ges0 h0) rfl ?_
    refine gg_q (fun q1 => ?_)
    refine gg_q (fun q2 => ?_)
    refine gg_ige 28 10 rfl rfl rfl rfl q1 q2 ?_ ?_
    · refine gg_ci 29 (-1) rfl rfl ?_
      exact gg_ir rfl
    · refine gg_al 11 0 rfl rfl l0 ?_
      refine gg_gr 14 (a0 + 2) rfl rfl rfl (ges0 h0) rfl ?_
      refine gg_il 15 2 rfl rfl l2 ?_
      refine gg_q (fun q3 => ?_)
      refine gg_ial 16 rfl rfl (ges2 h0) q3 ?_
      refine gg_il 17 1 rfl rfl l1 ?_
      refine gg_q (fun q4 => ?_)
      refine gg_q (fun q5 => ?_)
      refine gg_ine 22 20 rfl rfl rfl rfl q4 q5 ?_ ?_
      · refine gg_inc 25 rfl rfl l2 ?_
        refine gg_go 2 rfl rfl rfl ?_
        exact ih a0 x1 (x2 + 1) h0 (gl1 rfl rfl l0) (gl1 rfl rfl l1) gs1
      · refine gg_il 21 2 rfl rfl l2 ?_
        exact gg_ir rfl
theorem gm_18 (a0 : Nat) (x1 : Int) (h0 : gb_kd a0 = 1) {σ : gb_S} : gb_M (fx_18 a0 x1 σ) 1 c0 eI 18 [vr c0 a0, vi x1] σ := by
  rw [fx_18]
  refine gg_m (own := 1) (rt := (some .int)) (hnd := fun _ _ => none) (K := gk_18) (δ := 0) rfl rfl ?_
  refine gg_ci 1 0 rfl rfl ?_
  refine gg_s 2 rfl rfl ?_
  exact gt_18_2 gFU a0 x1 0 h0 (gl1 rfl rfl rfl) (gl1 rfl rfl rfl) gs1
theorem gm_15 (a0 : Nat) (x1 : Int) (h0 : gb_kd a0 = 1) {σ : gb_S} : gb_M (fx_15 a0 x1 σ) 2 c0 eI 15 [vr c0 a0, vi x1] σ := by
  rw [fx_15]
  refine gg_m (own := 1) (rt := (some .boolean)) (hnd := fun _ _ => none) (K := gk_15) (δ := 1) rfl rfl ?_
  refine gg_al 1 0 rfl rfl rfl ?_
  refine gg_il 2 1 rfl rfl rfl ?_
  refine gg_cI 5 rfl (gm_18 _ _ h0) (Nat.le_of_ble_eq_true rfl) (gb_vs rfl rfl rfl rfl rfl (ges0 h0) rfl rfl rfl) rfl (fun _ => rfl) (fun _ => rfl) (fun r1 s2 => ?_)
  refine gg_ci 6 (-1) rfl rfl ?_
  refine gg_q (fun q3 => ?_)
  refine gg_ieq 13 9 rfl rfl rfl rfl q3 (gRl rfl) ?_ ?_
  · refine gg_ci 14 0 rfl rfl ?_
    exact gg_zr rfl (Or.inl rfl)
  · refine gg_ci 10 1 rfl rfl ?_
    refine gg_go 14 rfl rfl rfl ?_
    exact gg_zr rfl (Or.inr rfl)
theorem gm_16 (a0 : Nat) (x1 : Int) (h0 : gb_kd a0 = 1) {σ : gb_S} : gb_M (fx_16 a0 x1 σ) 1 c0 eV 16 [vr c0 a0, vi x1] σ := by
  rw [fx_16]
  refine gg_m (own := 1) (rt := none) (hnd := fun _ _ => none) (K := gk_16) (δ := 0) rfl rfl ?_
  refine gg_al 1 0 rfl rfl rfl ?_
  refine gg_gi 4 rfl rfl rfl (ges0 h0) rfl ?_
  refine gg_ci 6 14 rfl rfl ?_
  refine gg_q (fun q1 => ?_)
  refine gg_ige 29 9 rfl rfl rfl rfl q1 (gRl rfl) ?_ ?_
  · exact gg_vr rfl
  · refine gg_al 10 0 rfl rfl rfl ?_
    refine gg_gr 13 (a0 + 2) rfl rfl rfl (ges0 h0) rfl ?_
    refine gg_al 14 0 rfl rfl rfl ?_
    refine gg_gi 17 rfl rfl rfl (ges0 h0) rfl ?_
    refine gg_il 18 1 rfl rfl rfl ?_
    refine gg_q (fun q2 => ?_)
    refine gg_ias 19 rfl rfl (ges2 h0) q2 ?_
    refine gg_al 20 0 rfl rfl rfl ?_
    refine gg_s 21 rfl rfl ?_
    refine gg_gi 24 rfl rfl rfl (ges0 h0) rfl ?_
    refine gg_ci 25 1 rfl rfl ?_
    refine gg_add 26 rfl rfl ?_
    refine gg_pf 29 rfl rfl rfl (ges0 h0) rfl ⟨rfl, rfl⟩ ?_
    exact gg_vr rfl
theorem gt_17_17 (k : Nat) : ∀ (a0 : Nat) (x3 : Int) (h0 : gb_kd a0 = 1) {lo : gh_L} (l0 : lo.lookup 0 = some (vr c0 a0)) (l3 : lo.lookup 3 = some (vi x3)) {σ : gb_S}, gb_G (fx_17_17 k a0 x3 σ) 1 1 (some .boolean) (fun _ _ => none) gk_17 c0 eI 17 lo [] σ := by
  induction k with
  | zero => intros; exact gg_n
  | succ k ih =>
    intro a0 x3 h0 lo l0 l3 σ
    rw [fx_17_17]
    refine gg_il 18 3 rfl rfl l3 ?_
    refine gg_al 19 0 rfl rfl l0 ?_
    refine gg_gi 22 rfl rfl rfl (ges0 h0) rfl ?_
    refine gg_q (fun q1 => ?_)
    refine gg_q (fun q2 => ?_)
    refine gg_ige 45 25 rfl rfl rfl rfl q1 q2 ?_ ?_
    · refine gg_al 46 0 rfl rfl l0 ?_
      refine gg_s 47 rfl rfl ?_
      refine gg_gi 50 rfl rfl rfl (ges0 h0) rfl ?_
      refine gg_ci 51 1 rfl rfl ?_
      refine gg_sub 52 rfl rfl ?_
      refine gg_pf 55 rfl rfl rfl (ges0 h0) rfl ⟨rfl, rfl⟩ ?_
      refine gg_ci 56 1 rfl rfl ?_
      exact gg_zr rfl (Or.inr rfl)
    · refine gg_al 26 0 rfl rfl l0 ?_
      refine gg_gr 29 (a0 + 2) rfl rfl rfl (ges0 h0) rfl ?_
      refine gg_il 30 3 rfl rfl l3 ?_
      refine gg_ci 31 1 rfl rfl ?_
      refine gg_sub 32 rfl rfl ?_
      refine gg_al 33 0 rfl rfl l0 ?_
      refine gg_gr 36 (a0 + 2) rfl rfl rfl (ges0 h0) rfl ?_
      refine gg_il 37 3 rfl rfl l3 ?_
      refine gg_q (fun q3 => ?_)
      refine gg_ial 38 rfl rfl (ges2 h0) q3 ?_
      refine gg_q (fun q4 => ?_)
      refine gg_ias 39 rfl rfl (ges2 h0) q4 ?_
      refine gg_inc 42 rfl rfl l3 ?_
      refine gg_go 17 rfl rfl rfl ?_
      exact ih a0 (x3 + 1) h0 (gl1 rfl rfl l0) gs1
theorem gm_17 (a0 : Nat) (x1 : Int) (h0 : gb_kd a0 = 1) {σ : gb_S} : gb_M (fx_17 a0 x1 σ) 2 c0 eI 17 [vr c0 a0, vi x1] σ := by
  rw [fx_17]
  refine gg_m (own := 1) (rt := (some .boolean)) (hnd := fun _ _ => none) (K := gk_17) (δ := 1) rfl rfl ?_
  refine gg_al 1 0 rfl rfl rfl ?_
  refine gg_il 2 1 rfl rfl rfl ?_
  refine gg_cI 5 rfl (gm_18 _ _ h0) (Nat.le_of_ble_eq_true rfl) (gb_vs rfl rfl rfl rfl rfl (ges0 h0) rfl rfl rfl) rfl (fun _ => rfl) (fun _ => rfl) (fun r1 s2 => ?_)
  refine gg_s 6 rfl rfl ?_
  refine gg_il 7 2 rfl rfl gs1 ?_
  refine gg_ci 8 (-1) rfl rfl ?_
  refine gg_q (fun q3 => ?_)
  refine gg_ine 13 11 rfl rfl rfl rfl q3 (gRl rfl) ?_ ?_
  · refine gg_il 14 2 rfl rfl gs1 ?_
    refine gg_ci 15 1 rfl rfl ?_
    refine gg_add 16 rfl rfl ?_
    refine gg_s 17 rfl rfl ?_
    exact gt_17_17 gFU a0 (r1 + 1) h0 (gl1 rfl rfl (gl1 rfl rfl rfl)) gs1
  · refine gg_ci 12 0 rfl rfl ?_
    exact gg_zr rfl (Or.inl rfl)
theorem gm_20 (x0 : Int) (a1 : Nat) (a2 : Nat) (x3 : Int) (h1 : gb_kd a1 = 6) (h2 : gb_kd a2 = 20) {σ : gb_S} : gb_M (fx_20 x0 a1 a2 x3 σ) 2 c0 eI 20 [vi x0, vr c0 a1, vr c0 a2, vi x3] σ := by
  rw [fx_20]
  refine gg_m (own := 1) (rt := (some .int)) (hnd := fun _ _ => none) (K := gk_20) (δ := 1) rfl rfl ?_
  refine gg_al 1 1 rfl rfl rfl ?_
  refine gg_il 2 0 rfl rfl rfl ?_
  refine gg_cLo 5 rfl (gm_71 _ _ h1) (Nat.le_of_ble_eq_true rfl) (gb_vs rfl rfl rfl rfl rfl (gsh0 h1) rfl rfl rfl) rfl (fun _ => rfl) (fun _ => rfl) (fun r1 s2 => ?_)
  refine gg_cl 6 0 rfl rfl ?_
  refine gg_q (fun q3 => ?_)
  refine gg_Leq 16 10 rfl rfl rfl rfl rfl q3 ⟨by decide, by decide⟩ ?_ ?_
  · refine gg_il 17 3 rfl rfl rfl ?_
    exact gg_ir rfl
  · refine gg_il 11 3 rfl rfl rfl ?_
    refine gg_al 12 2 rfl rfl rfl ?_
    refine gg_len 13 rfl rfl (gar h2) ?_
    refine gg_q (fun q4 => ?_)
    refine gg_q (fun q5 => ?_)
    refine gg_ilt 18 16 rfl rfl rfl rfl q4 q5 ?_ ?_
    · refine gg_al 19 2 rfl rfl rfl ?_
      refine gg_il 20 3 rfl rfl rfl ?_
      refine gg_il 21 0 rfl rfl rfl ?_
      refine gg_q (fun q6 => ?_)
      refine gg_ias 22 rfl rfl (gar h2) q6 ?_
      refine gg_il 23 3 rfl rfl rfl ?_
      refine gg_ci 24 1 rfl rfl ?_
      refine gg_add 25 rfl rfl ?_
      exact gg_ir rfl
    · refine gg_il 17 3 rfl rfl rfl ?_
      exact gg_ir rfl
theorem gt_19_37 (k : Nat) : ∀ (a0 : Nat) (a1 : Nat) (a2 : Nat) (x3 : Int) (x4 : Int) (h0 : gb_kd a0 = 1) (h1 : gb_kd a1 = 6) (h2 : gb_kd a2 = 20) {lo : gh_L} (l0 : lo.lookup 0 = some (vr c0 a0)) (l1 : lo.lookup 1 = some (vr c0 a1)) (l2 : lo.lookup 2 = some (vr c0 a2)) (l3 : lo.lookup 3 = some (vi x3)) (l4 : lo.lookup 4 = some (vi x4)) {σ : gb_S}, gb_G (fx_19_37 k a0 a1 a2 x3 x4 σ) 2 1 (some .int) (fun _ _ => none) gk_19 c0 eI 37 lo [] σ := by
  induction k with
  | zero => intros; exact gg_n
  | succ k ih =>
    intro a0 a1 a2 x3 x4 h0 h1 h2 lo l0 l1 l2 l3 l4 σ
    rw [fx_19_37]
    refine gg_il 39 4 rfl rfl l4 ?_
    refine gg_ci 41 14 rfl rfl ?_
    refine gg_q (fun q1 => ?_)
    refine gg_ige 68 44 rfl rfl rfl rfl q1 (gRl rfl) ?_ ?_
    · refine gg_il 69 3 rfl rfl l3 ?_
      exact gg_ir rfl
    · refine gg_al 45 0 rfl rfl l0 ?_
      refine gg_il 47 4 rfl rfl l4 ?_
      refine gg_cI 50 rfl (gm_15 _ _ h0) (Nat.le_of_ble_eq_true rfl) (gb_vs rfl rfl rfl rfl rfl (ges0 h0) rfl rfl rfl) rfl (fun _ => rfl) (fun _ => rfl) (fun r2 s3 => ?_)
      refine gg_q (fun q4 => ?_)
      refine gg_zne 62 53 rfl rfl rfl rfl q4 ?_ ?_
      · refine gg_inc 65 rfl rfl l4 ?_
        refine gg_go 37 rfl rfl rfl ?_
        exact ih a0 a1 a2 x3 (x4 + 1) h0 h1 h2 (gl1 rfl rfl l0) (gl1 rfl rfl l1) (gl1 rfl rfl l2) (gl1 rfl rfl l3) gs1
      · refine gg_il 55 4 rfl rfl l4 ?_
        refine gg_al 56 1 rfl rfl l1 ?_
        refine gg_al 57 2 rfl rfl l2 ?_
        refine gg_il 58 3 rfl rfl l3 ?_
        refine gg_cI 61 rfl (gm_20 _ _ _ _ h1 h2) (Nat.le_of_ble_eq_true rfl) (gb_ss rfl rfl rfl rfl rfl rfl rfl) rfl (fun _ => rfl) (fun _ => rfl) (fun r5 s6 => ?_)
        refine gg_s 62 rfl rfl ?_
        refine gg_inc 65 rfl rfl (gl1 rfl rfl l4) ?_
        refine gg_go 37 rfl rfl rfl ?_
        exact ih a0 a1 a2 r5 (x4 + 1) h0 h1 h2 (gl1 rfl rfl (gl1 rfl rfl l0)) (gl1 rfl rfl (gl1 rfl rfl l1)) (gl1 rfl rfl (gl1 rfl rfl l2)) (gl1 rfl rfl gs1) gs1
theorem gt_19_5 (k : Nat) : ∀ (a0 : Nat) (a1 : Nat) (a2 : Nat) (x3 : Int) (x4 : Int) (h0 : gb_kd a0 = 1) (h1 : gb_kd a1 = 6) (h2 : gb_kd a2 = 20) {lo : gh_L} (l0 : lo.lookup 0 = some (vr c0 a0)) (l1 : lo.lookup 1 = some (vr c0 a1)) (l2 : lo.lookup 2 = some (vr c0 a2)) (l3 : lo.lookup 3 = some (vi x3)) (l4 : lo.lookup 4 = some (vi x4)) {σ : gb_S}, gb_G (fx_19_5 k a0 a1 a2 x3 x4 σ) 2 1 (some .int) (fun _ _ => none) gk_19 c0 eI 5 lo [] σ := by
  induction k with
  | zero => intros; exact gg_n
  | succ k ih =>
    intro a0 a1 a2 x3 x4 h0 h1 h2 lo l0 l1 l2 l3 l4 σ
    rw [fx_19_5]
    refine gg_il 7 4 rfl rfl l4 ?_
    refine gg_al 8 0 rfl rfl l0 ?_
    refine gg_gi 11 rfl rfl rfl (ges0 h0) rfl ?_
    refine gg_q (fun q1 => ?_)
    refine gg_q (fun q2 => ?_)
    refine gg_ige 34 14 rfl rfl rfl rfl q1 q2 ?_ ?_
    · refine gg_ci 35 0 rfl rfl ?_
      refine gg_s 37 rfl rfl ?_
      exact gt_19_37 gFU a0 a1 a2 x3 0 h0 h1 h2 (gl1 rfl rfl l0) (gl1 rfl rfl l1) (gl1 rfl rfl l2) (gl1 rfl rfl l3) gs1
    · refine gg_al 15 0 rfl rfl l0 ?_
      refine gg_gr 18 (a0 + 2) rfl rfl rfl (ges0 h0) rfl ?_
      refine gg_il 20 4 rfl rfl l4 ?_
      refine gg_q (fun q3 => ?_)
      refine gg_ial 21 rfl rfl (ges2 h0) q3 ?_
      refine gg_al 22 1 rfl rfl l1 ?_
      refine gg_al 23 2 rfl rfl l2 ?_
      refine gg_il 24 3 rfl rfl l3 ?_
      refine gg_cI 27 rfl (gm_20 _ _ _ _ h1 h2) (Nat.le_of_ble_eq_true rfl) (gb_ss rfl rfl rfl rfl rfl rfl rfl) rfl (fun _ => rfl) (fun _ => rfl) (fun r4 s5 => ?_)
      refine gg_s 28 rfl rfl ?_
      refine gg_inc 31 rfl rfl (gl1 rfl rfl l4) ?_
      refine gg_go 5 rfl rfl rfl ?_
      exact ih a0 a1 a2 r4 (x4 + 1) h0 h1 h2 (gl1 rfl rfl (gl1 rfl rfl l0)) (gl1 rfl rfl (gl1 rfl rfl l1)) (gl1 rfl rfl (gl1 rfl rfl l2)) (gl1 rfl rfl gs1) gs1
theorem gm_19 (a0 : Nat) (a1 : Nat) (a2 : Nat) (h0 : gb_kd a0 = 1) (h1 : gb_kd a1 = 6) (h2 : gb_kd a2 = 20) {σ : gb_S} : gb_M (fx_19 a0 a1 a2 σ) 3 c0 eI 19 [vr c0 a0, vr c0 a1, vr c0 a2] σ := by
  rw [fx_19]
  refine gg_m (own := 1) (rt := (some .int)) (hnd := fun _ _ => none) (K := gk_19) (δ := 2) rfl rfl ?_
  refine gg_ci 1 0 rfl rfl ?_
  refine gg_s 2 rfl rfl ?_
  refine gg_ci 3 0 rfl rfl ?_
  refine gg_s 5 rfl rfl ?_
  exact gt_19_5 gFU a0 a1 a2 0 0 h0 h1 h2 (gl1 rfl rfl (gl1 rfl rfl rfl)) (gl1 rfl rfl (gl1 rfl rfl rfl)) (gl1 rfl rfl (gl1 rfl rfl rfl)) (gl1 rfl rfl gs1) gs1
theorem gt_22_68 (x2 : Int) (x3 : Int) {lo : gh_L} (l0 : lo.lookup 0 = some (vr c0 2)) (l2 : lo.lookup 2 = some (vi x2)) (l3 : lo.lookup 3 = some (vi x3)) {σ : gb_S} : gb_G (fx_22_68 x2 x3 σ) 1 2 (some .int) (fun _ _ => none) gk_22 c0 eI 68 lo [] σ := by
  rw [fx_22_68]
  refine gg_al 69 0 rfl rfl l0 ?_
  refine gg_gr 72 5 rfl rfl rfl gcl_2 rfl ?_
  refine gg_il 73 3 rfl rfl l3 ?_
  refine gg_il 74 2 rfl rfl l2 ?_
  refine gg_q (fun q1 => ?_)
  refine gg_ias 75 rfl rfl gar_5 q1 ?_
  refine gg_al 76 0 rfl rfl l0 ?_
  refine gg_s 77 rfl rfl ?_
  refine gg_gi 80 rfl rfl rfl gcl_2 rfl ?_
  refine gg_ci 81 1 rfl rfl ?_
  refine gg_add 82 rfl rfl ?_
  refine gg_pf 85 rfl rfl rfl gcl_2 rfl ⟨rfl, rfl⟩ ?_
  refine gg_il 86 2 rfl rfl l2 ?_
  exact gg_ir rfl
theorem gt_22_28 (k : Nat) : ∀ (x1 : Int) (x2 : Int) (x3 : Int) {lo : gh_L} (l0 : lo.lookup 0 = some (vr c0 2)) (l1 : lo.lookup 1 = some (vi x1)) (l2 : lo.lookup 2 = some (vi x2)) (l3 : lo.lookup 3 = some (vi x3)) {σ : gb_S}, gb_G (fx_22_28 k x1 x2 x3 σ) 1 2 (some .int) (fun _ _ => none) gk_22 c0 eI 28 lo [] σ := by
  induction k with
  | zero => intros; exact gg_n
  | succ k ih =>
    intro x1 x2 x3 lo l0 l1 l2 l3 σ
    rw [fx_22_28]
    refine gg_il 29 3 rfl rfl l3 ?_
    refine gg_q (fun q1 => ?_)
    refine gg_zle 68 32 rfl rfl rfl rfl q1 ?_ ?_
    · exact gt_22_68 x2 x3 l0 l2 l3
    · refine gg_al 33 0 rfl rfl l0 ?_
      refine gg_al 34 0 rfl rfl l0 ?_
      refine gg_gr 37 5 rfl rfl rfl gcl_2 rfl ?_
      refine gg_il 38 3 rfl rfl l3 ?_
      refine gg_ci 39 1 rfl rfl ?_
      refine gg_sub 40 rfl rfl ?_
      refine gg_q (fun q2 => ?_)
      refine gg_ial 41 rfl rfl gar_5 q2 ?_
      refine gg_cI 44 rfl (gm_25 _) (Nat.le_of_ble_eq_true rfl) (gb_vs rfl rfl rfl rfl rfl gcl_2 rfl rfl rfl) rfl (fun _ => rfl) (fun _ => rfl) (fun r3 s4 => ?_)
      refine gg_il 45 1 rfl rfl l1 ?_
      refine gg_q (fun q5 => ?_)
      refine gg_q (fun q6 => ?_)
      refine gg_ile 68 48 rfl rfl rfl rfl q5 q6 ?_ ?_
      · exact gt_22_68 x2 x3 l0 l2 l3
      · refine gg_al 49 0 rfl rfl l0 ?_
        refine gg_gr 52 5 rfl rfl rfl gcl_2 rfl ?_
        refine gg_il 53 3 rfl rfl l3 ?_
        refine gg_al 54 0 rfl rfl l0 ?_
        refine gg_gr 57 5 rfl rfl rfl gcl_2 rfl ?_
        refine gg_il 58 3 rfl rfl l3 ?_
        refine gg_ci 59 1 rfl rfl ?_
        refine gg_sub 60 rfl rfl ?_
        refine gg_ial 61 rfl rfl gar_5 q2 ?_
        refine gg_q (fun q7 => ?_)
        refine gg_ias 62 rfl rfl gar_5 q7 ?_
        refine gg_inc 65 rfl rfl l3 ?_
        refine gg_go 28 rfl rfl rfl ?_
        exact ih x1 x2 (x3 + (-1)) (gl1 rfl rfl l0) (gl1 rfl rfl l1) (gl1 rfl rfl l2) gs1
theorem gm_22 (x1 : Int) {σ : gb_S} : gb_M (fx_22 x1 σ) 2 c0 eI 22 [vr c0 2, vi x1] σ := by
  rw [fx_22]
  refine gg_m (own := 2) (rt := (some .int)) (hnd := fun _ _ => none) (K := gk_22) (δ := 1) rfl rfl ?_
  refine gg_al 1 0 rfl rfl rfl ?_
  refine gg_gi 4 rfl rfl rfl gcl_2 rfl ?_
  refine gg_ci 6 14 rfl rfl ?_
  refine gg_q (fun q1 => ?_)
  refine gg_ilt 11 9 rfl rfl rfl rfl q1 (gRl rfl) ?_ ?_
  · refine gg_al 12 0 rfl rfl rfl ?_
    refine gg_gi 15 rfl rfl rfl gcl_2 rfl ?_
    refine gg_s 16 rfl rfl ?_
    refine gg_al 17 0 rfl rfl (gl1 rfl rfl rfl) ?_
    refine gg_gi 20 rfl rfl rfl gcl_2 rfl ?_
    refine gg_s 21 rfl rfl ?_
    refine gg_al 22 0 rfl rfl (gl1 rfl rfl (gl1 rfl rfl rfl)) ?_
    refine gg_gr 25 3 rfl rfl rfl gcl_2 rfl ?_
    refine gg_il 26 2 rfl rfl (gl1 rfl rfl gs1) ?_
    refine gg_il 27 1 rfl rfl (gl1 rfl rfl (gl1 rfl rfl rfl)) ?_
    refine gg_q (fun q2 => ?_)
    refine gg_ias 28 rfl rfl gar_3 q2 ?_
    exact gt_22_28 gFU x1 (σ 2 3) (σ 2 3) (gl1 rfl rfl (gl1 rfl rfl rfl)) (gl1 rfl rfl (gl1 rfl rfl rfl)) (gl1 rfl rfl gs1) gs1
  · refine gg_ci 10 (-1) rfl rfl ?_
    exact gg_ir rfl
theorem gm_23 (x1 : Int) (x2 : Int) {σ : gb_S} : gb_M (fx_23 x1 x2 σ) 1 c0 eV 23 [vr c0 2, vi x1, vi x2] σ := by
  rw [fx_23]
  refine gg_m (own := 2) (rt := none) (hnd := fun _ _ => none) (K := gk_23) (δ := 0) rfl rfl ?_
  refine gg_il 1 1 rfl rfl rfl ?_
  refine gg_q (fun q1 => ?_)
  refine gg_zlt 29 4 rfl rfl rfl rfl q1 ?_ ?_
  · exact gg_vr rfl
  · refine gg_il 5 1 rfl rfl rfl ?_
    refine gg_ci 7 14 rfl rfl ?_
    refine gg_ige 29 10 rfl rfl rfl rfl q1 (gRl rfl) ?_ ?_
    · exact gg_vr rfl
    · refine gg_al 11 0 rfl rfl rfl ?_
      refine gg_gr 14 4 rfl rfl rfl gcl_2 rfl ?_
      refine gg_il 15 1 rfl rfl rfl ?_
      refine gg_il 16 2 rfl rfl rfl ?_
      refine gg_q (fun q2 => ?_)
      refine gg_ias 17 rfl rfl gar_4 q2 ?_
      refine gg_al 18 0 rfl rfl rfl ?_
      refine gg_s 19 rfl rfl ?_
      refine gg_gi 22 rfl rfl rfl gcl_2 rfl ?_
      refine gg_ci 23 1 rfl rfl ?_
      refine gg_il 24 1 rfl rfl rfl ?_
      refine gg_shl 25 rfl rfl ?_
      refine gg_or 26 rfl rfl ?_
      refine gg_pf 29 rfl rfl rfl gcl_2 rfl ⟨rfl, rfl⟩ ?_
      exact gg_vr rfl
theorem gm_24 (x1 : Int) {σ : gb_S} : gb_M (fx_24 x1 σ) 2 c0 eI 24 [vr c0 2, vi x1] σ := by
  rw [fx_24]
  refine gg_m (own := 2) (rt := (some .boolean)) (hnd := fun _ _ => none) (K := gk_24) (δ := 1) rfl rfl ?_
  refine gg_al 1 0 rfl rfl rfl ?_
  refine gg_gi 4 rfl rfl rfl gcl_2 rfl ?_
  refine gg_il 5 1 rfl rfl rfl ?_
  refine gg_cI 8 rfl (gm_123 _ _) (Nat.le_of_ble_eq_true rfl) (gb_ss rfl rfl rfl rfl rfl rfl rfl) rfl (fun _ => rfl) (fun _ => rfl) (fun r1 s2 => ?_)
  refine gg_q (fun q3 => ?_)
  exact gg_zr rfl q3
theorem gm_27 (x1 : Int) (x2 : Int) {σ : gb_S} : gb_M (fx_27 x1 x2 σ) 2 c0 eI 27 [vr c0 2, vi x1, vi x2] σ := by
  rw [fx_27]
  refine gg_m (own := 2) (rt := (some .boolean)) (hnd := fun _ _ => none) (K := gk_27) (δ := 1) rfl rfl ?_
  refine gg_al 1 0 rfl rfl rfl ?_
  refine gg_il 2 1 rfl rfl rfl ?_
  refine gg_cI 5 rfl (gm_25 _) (Nat.le_of_ble_eq_true rfl) (gb_vs rfl rfl rfl rfl rfl gcl_2 rfl rfl rfl) rfl (fun _ => rfl) (fun _ => rfl) (fun r1 s2 => ?_)
  refine gg_al 6 0 rfl rfl rfl ?_
  refine gg_il 7 2 rfl rfl rfl ?_
  refine gg_cI 10 rfl (gm_25 _) (Nat.le_of_ble_eq_true rfl) (gb_vs rfl rfl rfl rfl rfl gcl_2 rfl rfl rfl) rfl (fun _ => rfl) (fun _ => rfl) (fun r3 s4 => ?_)
  refine gg_q (fun q5 => ?_)
  refine gg_q (fun q6 => ?_)
  refine gg_ige 17 13 rfl rfl rfl rfl q5 q6 ?_ ?_
  · refine gg_ci 18 0 rfl rfl ?_
    exact gg_zr rfl (Or.inl rfl)
  · refine gg_ci 14 1 rfl rfl ?_
    refine gg_go 18 rfl rfl rfl ?_
    exact gg_zr rfl (Or.inr rfl)
theorem gm_63 (x1 : Int) {σ : gb_S} : gb_M (fx_63 x1 σ) 1 c0 eI 63 [vr c0 6, vi x1] σ := by
  rw [fx_63]
  refine gg_m (own := 5) (rt := (some .boolean)) (hnd := fun _ _ => none) (K := gk_63) (δ := 0) rfl rfl ?_
  refine gg_il 1 1 rfl rfl rfl ?_
  refine gg_q (fun q1 => ?_)
  refine gg_zlt 16 4 rfl rfl rfl rfl q1 ?_ ?_
  · refine gg_ci 17 0 rfl rfl ?_
    exact gg_zr rfl (Or.inl rfl)
  · refine gg_il 5 1 rfl rfl rfl ?_
    refine gg_al 6 0 rfl rfl rfl ?_
    refine gg_gi 9 rfl rfl rfl gcl_6 rfl ?_
    refine gg_q (fun q2 => ?_)
    refine gg_ige 16 12 rfl rfl rfl rfl q1 q2 ?_ ?_
    · refine gg_ci 17 0 rfl rfl ?_
      exact gg_zr rfl (Or.inl rfl)
    · refine gg_ci 13 1 rfl rfl ?_
      refine gg_go 17 rfl rfl rfl ?_
      exact gg_zr rfl (Or.inr rfl)
theorem gm_67 (x1 : Int) {σ : gb_S} : gb_M (fx_67 x1 σ) 2 c0 eI 67 [vr c0 6, vi x1] σ := by
  rw [fx_67]
  refine gg_m (own := 5) (rt := (some .int)) (hnd := fun _ _ => none) (K := gk_67) (δ := 1) rfl rfl ?_
  refine gg_al 1 0 rfl rfl rfl ?_
  refine gg_il 2 1 rfl rfl rfl ?_
  refine gg_cI 5 rfl (gm_63 _) (Nat.le_of_ble_eq_true rfl) (gb_vs rfl rfl rfl rfl rfl gcl_6 rfl rfl rfl) rfl (fun _ => rfl) (fun _ => rfl) (fun r1 s2 => ?_)
  refine gg_q (fun q3 => ?_)
  refine gg_zeq 17 8 rfl rfl rfl rfl q3 ?_ ?_
  · refine gg_ci 18 0 rfl rfl ?_
    exact gg_ir rfl
  · refine gg_al 9 0 rfl rfl rfl ?_
    refine gg_gr 12 11 rfl rfl rfl gcl_6 rfl ?_
    refine gg_il 13 1 rfl rfl rfl ?_
    refine gg_q (fun q4 => ?_)
    refine gg_bal 14 rfl rfl gar_11 q4 ?_
    refine gg_q (fun q5 => ?_)
    refine gg_zeq 19 17 rfl rfl rfl rfl q5 ?_ ?_
    · refine gg_ci 20 0 rfl rfl ?_
      refine gg_al 21 0 rfl rfl rfl ?_
      refine gg_gr 24 9 rfl rfl rfl gcl_6 rfl ?_
      refine gg_il 25 1 rfl rfl rfl ?_
      refine gg_ial 26 rfl rfl gar_9 q4 ?_
      refine gg_al 27 0 rfl rfl rfl ?_
      refine gg_gr 30 10 rfl rfl rfl gcl_6 rfl ?_
      refine gg_il 31 1 rfl rfl rfl ?_
      refine gg_ial 32 rfl rfl gar_10 q4 ?_
      refine gg_sub 33 rfl rfl ?_
      refine gg_q (fun q6 => ?_)
      refine gg_max 36 rfl rfl rfl rfl (gRl rfl) q6 ?_
      exact gg_ir rfl
    · refine gg_ci 18 0 rfl rfl ?_
      exact gg_ir rfl
theorem gt_36_11 (k : Nat) : ∀ (a0 : Nat) (x2 : Int) (x3 : Int) (x4 : Int) (h0 : gb_kd a0 = 3) {lo : gh_L} (l0 : lo.lookup 0 = some (vr c0 a0)) (l1 : lo.lookup 1 = some (vr c0 6)) (l2 : lo.lookup 2 = some (vi x2)) (l3 : lo.lookup 3 = some (vi x3)) (l4 : lo.lookup 4 = some (vi x4)) {σ : gb_S}, gb_G (fx_36_11 k a0 x2 x3 x4 σ) 2 3 none (fun _ _ => none) gk_36 c0 eV 11 lo [] σ := by
  induction k with
  | zero => intros; exact gg_n
  | succ k ih =>
    intro a0 x2 x3 x4 h0 lo l0 l1 l2 l3 l4 σ
    rw [fx_36_11]
    refine gg_il 13 4 rfl rfl l4 ?_
    refine gg_al 14 1 rfl rfl l1 ?_
    refine gg_gi 17 rfl rfl rfl gcl_6 rfl ?_
    refine gg_q (fun q1 => ?_)
    refine gg_q (fun q2 => ?_)
    refine gg_ige 87 20 rfl rfl rfl rfl q1 q2 ?_ ?_
    · exact gg_vr rfl
    · refine gg_al 21 1 rfl rfl l1 ?_
      refine gg_gr 24 7 rfl rfl rfl gcl_6 rfl ?_
      refine gg_il 26 4 rfl rfl l4 ?_
      refine gg_q (fun q3 => ?_)
      refine gg_ial 27 rfl rfl gar_7 q3 ?_
      refine gg_s 29 rfl rfl ?_
      refine gg_al 30 1 rfl rfl (gl1 rfl rfl l1) ?_
      refine gg_gr 33 8 rfl rfl rfl gcl_6 rfl ?_
      refine gg_il 35 4 rfl rfl (gl1 rfl rfl l4) ?_
      refine gg_ial 36 rfl rfl gar_8 q3 ?_
      refine gg_il 37 2 rfl rfl (gl1 rfl rfl l2) ?_
      refine gg_q (fun q4 => ?_)
      refine gg_q (fun q5 => ?_)
      refine gg_ine 81 40 rfl rfl rfl rfl q4 q5 ?_ ?_
      · refine gg_inc 84 rfl rfl (gl1 rfl rfl l4) ?_
        refine gg_go 11 rfl rfl rfl ?_
        exact ih a0 x2 x3 (x4 + 1) h0 (gl1 rfl rfl (gl1 rfl rfl l0)) (gl1 rfl rfl (gl1 rfl rfl l1)) (gl1 rfl rfl (gl1 rfl rfl l2)) (gl1 rfl rfl (gl1 rfl rfl l3)) gs1
      · refine gg_il 42 4 rfl rfl (gl1 rfl rfl l4) ?_
        refine gg_il 43 3 rfl rfl (gl1 rfl rfl l3) ?_
        refine gg_q (fun q6 => ?_)
        refine gg_ieq 81 46 rfl rfl rfl rfl q1 q6 ?_ ?_
        · refine gg_inc 84 rfl rfl (gl1 rfl rfl l4) ?_
          refine gg_go 11 rfl rfl rfl ?_
          exact ih a0 x2 x3 (x4 + 1) h0 (gl1 rfl rfl (gl1 rfl rfl l0)) (gl1 rfl rfl (gl1 rfl rfl l1)) (gl1 rfl rfl (gl1 rfl rfl l2)) (gl1 rfl rfl (gl1 rfl rfl l3)) gs1
        · refine gg_il 48 5 rfl rfl gs1 ?_
          refine gg_q (fun q7 => ?_)
          refine gg_zlt 81 51 rfl rfl rfl rfl q7 ?_ ?_
          · refine gg_inc 84 rfl rfl (gl1 rfl rfl l4) ?_
            refine gg_go 11 rfl rfl rfl ?_
            exact ih a0 x2 x3 (x4 + 1) h0 (gl1 rfl rfl (gl1 rfl rfl l0)) (gl1 rfl rfl (gl1 rfl rfl l1)) (gl1 rfl rfl (gl1 rfl rfl l2)) (gl1 rfl rfl (gl1 rfl rfl l3)) gs1
          · refine gg_il 53 5 rfl rfl gs1 ?_
            refine gg_ci 55 14 rfl rfl ?_
            refine gg_ige 81 58 rfl rfl rfl rfl q7 (gRl rfl) ?_ ?_
            · refine gg_inc 84 rfl rfl (gl1 rfl rfl l4) ?_
              refine gg_go 11 rfl rfl rfl ?_
              exact ih a0 x2 x3 (x4 + 1) h0 (gl1 rfl rfl (gl1 rfl rfl l0)) (gl1 rfl rfl (gl1 rfl rfl l1)) (gl1 rfl rfl (gl1 rfl rfl l2)) (gl1 rfl rfl (gl1 rfl rfl l3)) gs1
            · refine gg_al 59 0 rfl rfl (gl1 rfl rfl l0) ?_
              refine gg_gr 62 (a0 + 4) rfl rfl rfl (gkin0 h0) rfl ?_
              refine gg_il 64 5 rfl rfl gs1 ?_
              refine gg_al 65 0 rfl rfl (gl1 rfl rfl l0) ?_
              refine gg_gr 68 (a0 + 4) rfl rfl rfl (gkin0 h0) rfl ?_
              refine gg_il 70 5 rfl rfl gs1 ?_
              refine gg_q (fun q8 => ?_)
              refine gg_ial 71 rfl rfl (gkin4 h0) q8 ?_
              refine gg_al 72 1 rfl rfl (gl1 rfl rfl l1) ?_
              refine gg_il 74 4 rfl rfl (gl1 rfl rfl l4) ?_
              refine gg_cI 77 rfl (gm_67 _) (Nat.le_of_ble_eq_true rfl) (gb_vs rfl rfl rfl rfl rfl gcl_6 rfl rfl rfl) rfl (fun _ => rfl) (fun _ => rfl) (fun r9 s10 => ?_)
              refine gg_q (fun q11 => ?_)
              refine gg_q (fun q12 => ?_)
              refine gg_max 80 rfl rfl rfl rfl q11 q12 ?_
              refine gg_ias 81 rfl rfl (gkin4 h0) q8 ?_
              refine gg_inc 84 rfl rfl (gl1 rfl rfl l4) ?_
              refine gg_go 11 rfl rfl rfl ?_
              exact ih a0 x2 x3 (x4 + 1) h0 (gl1 rfl rfl (gl1 rfl rfl l0)) (gl1 rfl rfl (gl1 rfl rfl l1)) (gl1 rfl rfl (gl1 rfl rfl l2)) (gl1 rfl rfl (gl1 rfl rfl l3)) gs1
theorem gm_36 (a0 : Nat) (x2 : Int) (x3 : Int) (h0 : gb_kd a0 = 3) {σ : gb_S} : gb_M (fx_36 a0 x2 x3 σ) 3 c0 eV 36 [vr c0 a0, vr c0 6, vi x2, vi x3] σ := by
  rw [fx_36]
  refine gg_m (own := 3) (rt := none) (hnd := fun _ _ => none) (K := gk_36) (δ := 2) rfl rfl ?_
  refine gg_al 1 0 rfl rfl rfl ?_
  refine gg_gr 4 (a0 + 4) rfl rfl rfl (gkin0 h0) rfl ?_
  refine gg_ci 5 0 rfl rfl ?_
  refine gg_cF 8 rfl (gm_125 (gkin4 h0)) (Nat.le_of_ble_eq_true rfl) (gb_ss rfl rfl rfl rfl rfl rfl rfl) rfl (fun _ => rfl) (fun _ => rfl) ?_
  refine gg_ci 9 0 rfl rfl ?_
  refine gg_s 11 rfl rfl ?_
  exact gt_36_11 gFU a0 x2 x3 0 h0 (gl1 rfl rfl rfl) (gl1 rfl rfl rfl) (gl1 rfl rfl rfl) (gl1 rfl rfl rfl) gs1
theorem gt_37_7 (k : Nat) : ∀ (a0 : Nat) (x1 : Int) (x2 : Int) (x3 : Int) (x4 : Int) (h0 : gb_kd a0 = 3) {lo : gh_L} (l0 : lo.lookup 0 = some (vr c0 a0)) (l1 : lo.lookup 1 = some (vi x1)) (l2 : lo.lookup 2 = some (vi x2)) (l3 : lo.lookup 3 = some (vi x3)) (l4 : lo.lookup 4 = some (vi x4)) {σ : gb_S}, gb_G (fx_37_7 k a0 x1 x2 x3 x4 σ) 0 3 (some .int) (fun _ _ => none) gk_37 c0 eI 7 lo [] σ := by
  induction k with
  | zero => intros; exact gg_n
  | succ k ih =>
    intro a0 x1 x2 x3 x4 h0 lo l0 l1 l2 l3 l4 σ
    rw [fx_37_7]
    refine gg_il 9 4 rfl rfl l4 ?_
    refine gg_ci 11 14 rfl rfl ?_
    refine gg_q (fun q1 => ?_)
    refine gg_ige 48 14 rfl rfl rfl rfl q1 (gRl rfl) ?_ ?_
    · refine gg_il 49 2 rfl rfl l2 ?_
      exact gg_ir rfl
    · refine gg_il 16 4 rfl rfl l4 ?_
      refine gg_il 17 1 rfl rfl l1 ?_
      refine gg_q (fun q2 => ?_)
      refine gg_ieq 42 20 rfl rfl rfl rfl q1 q2 ?_ ?_
      · refine gg_inc 45 rfl rfl l4 ?_
        refine gg_go 7 rfl rfl rfl ?_
        exact ih a0 x1 x2 x3 (x4 + 1) h0 (gl1 rfl rfl l0) (gl1 rfl rfl l1) (gl1 rfl rfl l2) (gl1 rfl rfl l3) gs1
      · refine gg_al 21 0 rfl rfl l0 ?_
        refine gg_gr 24 (a0 + 4) rfl rfl rfl (gkin0 h0) rfl ?_
        refine gg_il 26 4 rfl rfl l4 ?_
        refine gg_q (fun q3 => ?_)
        refine gg_ial 27 rfl rfl (gkin4 h0) q3 ?_
        refine gg_il 28 3 rfl rfl l3 ?_
        refine gg_q (fun q4 => ?_)
        refine gg_q (fun q5 => ?_)
        refine gg_ile 42 31 rfl rfl rfl rfl q4 q5 ?_ ?_
        · refine gg_inc 45 rfl rfl l4 ?_
          refine gg_go 7 rfl rfl rfl ?_
          exact ih a0 x1 x2 x3 (x4 + 1) h0 (gl1 rfl rfl l0) (gl1 rfl rfl l1) (gl1 rfl rfl l2) (gl1 rfl rfl l3) gs1
        · refine gg_il 33 4 rfl rfl l4 ?_
          refine gg_s 34 rfl rfl ?_
          refine gg_al 35 0 rfl rfl (gl1 rfl rfl l0) ?_
          refine gg_gr 38 (a0 + 4) rfl rfl rfl (gkin0 h0) rfl ?_
          refine gg_il 40 4 rfl rfl (gl1 rfl rfl l4) ?_
          refine gg_ial 41 rfl rfl (gkin4 h0) q3 ?_
          refine gg_s 42 rfl rfl ?_
          refine gg_inc 45 rfl rfl (gl1 rfl rfl (gl1 rfl rfl l4)) ?_
          refine gg_go 7 rfl rfl rfl ?_
          exact ih a0 x1 x4 (σ (a0 + 4) x4.toNat) (x4 + 1) h0 (gl1 rfl rfl (gl1 rfl rfl (gl1 rfl rfl l0))) (gl1 rfl rfl (gl1 rfl rfl (gl1 rfl rfl l1))) (gl1 rfl rfl (gl1 rfl rfl gs1)) (gl1 rfl rfl gs1) gs1
theorem gm_37 (a0 : Nat) (x1 : Int) (h0 : gb_kd a0 = 3) {σ : gb_S} : gb_M (fx_37 a0 x1 σ) 1 c0 eI 37 [vr c0 a0, vi x1] σ := by
  rw [fx_37]
  refine gg_m (own := 3) (rt := (some .int)) (hnd := fun _ _ => none) (K := gk_37) (δ := 0) rfl rfl ?_
  refine gg_ci 1 (-1) rfl rfl ?_
  refine gg_s 2 rfl rfl ?_
  refine gg_ci 3 0 rfl rfl ?_
  refine gg_s 4 rfl rfl ?_
  refine gg_ci 5 0 rfl rfl ?_
  refine gg_s 7 rfl rfl ?_
  exact gt_37_7 gFU a0 x1 (-1) 0 0 h0 (gl1 rfl rfl (gl1 rfl rfl (gl1 rfl rfl rfl))) (gl1 rfl rfl (gl1 rfl rfl (gl1 rfl rfl rfl))) (gl1 rfl rfl (gl1 rfl rfl gs1)) (gl1 rfl rfl gs1) gs1
theorem gm_38 (a0 : Nat) (x1 : Int) (x2 : Int) (h0 : gb_kd a0 = 3) {σ : gb_S} : gb_M (fx_38 a0 x1 x2 σ) 1 c0 eV 38 [vr c0 a0, vi x1, vi x2] σ := by
  rw [fx_38]
  refine gg_m (own := 3) (rt := none) (hnd := fun _ _ => none) (K := gk_38) (δ := 0) rfl rfl ?_
  refine gg_il 1 1 rfl rfl rfl ?_
  refine gg_q (fun q1 => ?_)
  refine gg_zlt 22 4 rfl rfl rfl rfl q1 ?_ ?_
  · exact gg_vr rfl
  · refine gg_il 5 1 rfl rfl rfl ?_
    refine gg_ci 7 14 rfl rfl ?_
    refine gg_ige 22 10 rfl rfl rfl rfl q1 (gRl rfl) ?_ ?_
    · exact gg_vr rfl
    · refine gg_al 11 0 rfl rfl rfl ?_
      refine gg_gr 14 (a0 + 3) rfl rfl rfl (gkin0 h0) rfl ?_
      refine gg_il 15 1 rfl rfl rfl ?_
      refine gg_s 16 rfl rfl ?_
      refine gg_q (fun q2 => ?_)
      refine gg_ial 17 rfl rfl (gkin3 h0) q2 ?_
      refine gg_ci 18 1 rfl rfl ?_
      refine gg_il 19 2 rfl rfl rfl ?_
      refine gg_shl 20 rfl rfl ?_
      refine gg_or 21 rfl rfl ?_
      refine gg_ias 22 rfl rfl (gkin3 h0) q2 ?_
      exact gg_vr rfl
theorem gt_35_10 (k : Nat) : ∀ (a0 : Nat) (x2 : Int) (x3 : Int) (h0 : gb_kd a0 = 3) {lo : gh_L} (l0 : lo.lookup 0 = some (vr c0 a0)) (l1 : lo.lookup 1 = some (vr c0 6)) (l2 : lo.lookup 2 = some (vi x2)) (l3 : lo.lookup 3 = some (vi x3)) {σ : gb_S}, gb_G (fx_35_10 k a0 x2 x3 σ) 3 3 none (fun _ _ => none) gk_35 c0 eV 10 lo [] σ := by
  induction k with
  | zero => intros; exact gg_n
  | succ k ih =>
    intro a0 x2 x3 h0 lo l0 l1 l2 l3 σ
    rw [fx_35_10]
    refine gg_il 11 3 rfl rfl l3 ?_
    refine gg_ci 13 14 rfl rfl ?_
    refine gg_q (fun q1 => ?_)
    refine gg_ige 78 16 rfl rfl rfl rfl q1 (gRl rfl) ?_ ?_
    · exact gg_vr rfl
    · refine gg_al 17 0 rfl rfl l0 ?_
      refine gg_al 18 1 rfl rfl l1 ?_
      refine gg_il 19 3 rfl rfl l3 ?_
      refine gg_il 20 2 rfl rfl l2 ?_
      refine gg_cV 23 rfl (gm_36 _ _ _ h0) (Nat.le_of_ble_eq_true rfl) (gb_vs rfl rfl rfl rfl rfl (gkin0 h0) rfl rfl rfl) rfl (fun _ => rfl) (fun _ => rfl) (fun s3 => ?_)
      refine gg_al 24 0 rfl rfl l0 ?_
      refine gg_gr 27 (a0 + 1) rfl rfl rfl (gkin0 h0) rfl ?_
      refine gg_il 28 3 rfl rfl l3 ?_
      refine gg_al 29 0 rfl rfl l0 ?_
      refine gg_ci 30 (-1) rfl rfl ?_
      refine gg_cI 33 rfl (gm_37 _ _ h0) (Nat.le_of_ble_eq_true rfl) (gb_vs rfl rfl rfl rfl rfl (gkin0 h0) rfl rfl rfl) rfl (fun _ => rfl) (fun _ => rfl) (fun r4 s5 => ?_)
      refine gg_q (fun q6 => ?_)
      refine gg_ias 34 rfl rfl (gkin1 h0) q6 ?_
      refine gg_al 35 0 rfl rfl l0 ?_
      refine gg_gr 38 (a0 + 2) rfl rfl rfl (gkin0 h0) rfl ?_
      refine gg_il 39 3 rfl rfl l3 ?_
      refine gg_al 40 0 rfl rfl l0 ?_
      refine gg_al 41 0 rfl rfl l0 ?_
      refine gg_gr 44 (a0 + 1) rfl rfl rfl (gkin0 h0) rfl ?_
      refine gg_il 45 3 rfl rfl l3 ?_
      refine gg_ial 46 rfl rfl (gkin1 h0) q6 ?_
      refine gg_cI 49 rfl (gm_37 _ _ h0) (Nat.le_of_ble_eq_true rfl) (gb_vs rfl rfl rfl rfl rfl (gkin0 h0) rfl rfl rfl) rfl (fun _ => rfl) (fun _ => rfl) (fun r7 s8 => ?_)
      refine gg_ias 50 rfl rfl (gkin2 h0) q6 ?_
      refine gg_al 51 0 rfl rfl l0 ?_
      refine gg_al 52 0 rfl rfl l0 ?_
      refine gg_gr 55 (a0 + 1) rfl rfl rfl (gkin0 h0) rfl ?_
      refine gg_il 56 3 rfl rfl l3 ?_
      refine gg_ial 57 rfl rfl (gkin1 h0) q6 ?_
      refine gg_il 58 3 rfl rfl l3 ?_
      refine gg_cV 61 rfl (gm_38 _ _ _ h0) (Nat.le_of_ble_eq_true rfl) (gb_vs rfl rfl rfl rfl rfl (gkin0 h0) rfl rfl rfl) rfl (fun _ => rfl) (fun _ => rfl) (fun s10 => ?_)
      refine gg_al 62 0 rfl rfl l0 ?_
      refine gg_al 63 0 rfl rfl l0 ?_
      refine gg_gr 66 (a0 + 2) rfl rfl rfl (gkin0 h0) rfl ?_
      refine gg_il 67 3 rfl rfl l3 ?_
      refine gg_ial 68 rfl rfl (gkin2 h0) q6 ?_
      refine gg_il 69 3 rfl rfl l3 ?_
      refine gg_cV 72 rfl (gm_38 _ _ _ h0) (Nat.le_of_ble_eq_true rfl) (gb_vs rfl rfl rfl rfl rfl (gkin0 h0) rfl rfl rfl) rfl (fun _ => rfl) (fun _ => rfl) (fun s12 => ?_)
      refine gg_inc 75 rfl rfl l3 ?_
      refine gg_go 10 rfl rfl rfl ?_
      exact ih a0 x2 (x3 + 1) h0 (gl1 rfl rfl l0) (gl1 rfl rfl l1) (gl1 rfl rfl l2) gs1
theorem gm_35 (a0 : Nat) (x2 : Int) (h0 : gb_kd a0 = 3) {σ : gb_S} : gb_M (fx_35 a0 x2 σ) 4 c0 eV 35 [vr c0 a0, vr c0 6, vi x2] σ := by
  rw [fx_35]
  refine gg_m (own := 3) (rt := none) (hnd := fun _ _ => none) (K := gk_35) (δ := 3) rfl rfl ?_
  refine gg_al 1 0 rfl rfl rfl ?_
  refine gg_gr 4 (a0 + 3) rfl rfl rfl (gkin0 h0) rfl ?_
  refine gg_ci 5 0 rfl rfl ?_
  refine gg_cF 8 rfl (gm_125 (gkin3 h0)) (Nat.le_of_ble_eq_true rfl) (gb_ss rfl rfl rfl rfl rfl rfl rfl) rfl (fun _ => rfl) (fun _ => rfl) ?_
  refine gg_ci 9 0 rfl rfl ?_
  refine gg_s 10 rfl rfl ?_
  exact gt_35_10 gFU a0 x2 0 h0 (gl1 rfl rfl rfl) (gl1 rfl rfl rfl) (gl1 rfl rfl rfl) gs1
theorem gm_40 (x1 : Int) {σ : gb_S} : gb_M (fx_40 x1 σ) 1 c0 eI 40 [vr c0 30, vi x1] σ := by
  rw [fx_40]
  refine gg_m (own := 4) (rt := (some .int)) (hnd := fun _ _ => none) (K := gk_40) (δ := 0) rfl rfl ?_
  refine gg_il 1 1 rfl rfl rfl ?_
  refine gg_q (fun q1 => ?_)
  refine gg_zlt 19 4 rfl rfl rfl rfl q1 ?_ ?_
  · refine gg_ci 20 (-1) rfl rfl ?_
    exact gg_ir rfl
  · refine gg_il 5 1 rfl rfl rfl ?_
    refine gg_ci 7 60 rfl rfl ?_
    refine gg_ige 19 10 rfl rfl rfl rfl q1 (gRl rfl) ?_ ?_
    · refine gg_ci 20 (-1) rfl rfl ?_
      exact gg_ir rfl
    · refine gg_al 11 0 rfl rfl rfl ?_
      refine gg_gr 14 37 rfl rfl rfl gcl_30 rfl ?_
      refine gg_il 15 1 rfl rfl rfl ?_
      refine gg_q (fun q2 => ?_)
      refine gg_ial 16 rfl rfl gar_37 q2 ?_
      refine gg_go 20 rfl rfl rfl ?_
      exact gg_ir rfl
theorem gt_41_6 (k : Nat) : ∀ (x2 : Int) (x3 : Int) {lo : gh_L} (l0 : lo.lookup 0 = some (vr c0 30)) (l2 : lo.lookup 2 = some (vi x2)) (l3 : lo.lookup 3 = some (vi x3)) {σ : gb_S}, gb_G (fx_41_6 k x2 x3 σ) 0 4 (some .boolean) (fun _ _ => none) gk_41 c0 eI 6 lo [] σ := by
  induction k with
  | zero => intros; exact gg_n
  | succ k ih =>
    intro x2 x3 lo l0 l2 l3 σ
    rw [fx_41_6]
    refine gg_il 7 3 rfl rfl l3 ?_
    refine gg_il 8 2 rfl rfl l2 ?_
    refine gg_q (fun q1 => ?_)
    refine gg_q (fun q2 => ?_)
    refine gg_ige 34 11 rfl rfl rfl rfl q1 q2 ?_ ?_
    · refine gg_ci 35 0 rfl rfl ?_
      exact gg_zr rfl (Or.inl rfl)
    · refine gg_il 12 3 rfl rfl l3 ?_
      refine gg_ci 14 60 rfl rfl ?_
      refine gg_ige 34 17 rfl rfl rfl rfl q1 (gRl rfl) ?_ ?_
      · refine gg_ci 35 0 rfl rfl ?_
        exact gg_zr rfl (Or.inl rfl)
      · refine gg_al 18 0 rfl rfl l0 ?_
        refine gg_gr 21 36 rfl rfl rfl gcl_30 rfl ?_
        refine gg_il 22 3 rfl rfl l3 ?_
        refine gg_q (fun q3 => ?_)
        refine gg_bal 23 rfl rfl gar_36 q3 ?_
        refine gg_q (fun q4 => ?_)
        refine gg_zeq 28 26 rfl rfl rfl rfl q4 ?_ ?_
        · refine gg_inc 31 rfl rfl l3 ?_
          refine gg_go 6 rfl rfl rfl ?_
          exact ih x2 (x3 + 1) (gl1 rfl rfl l0) (gl1 rfl rfl l2) gs1
        · refine gg_ci 27 1 rfl rfl ?_
          exact gg_zr rfl (Or.inr rfl)
theorem gm_41 (x1 : Int) (x2 : Int) {σ : gb_S} : gb_M (fx_41 x1 x2 σ) 1 c0 eI 41 [vr c0 30, vi x1, vi x2] σ := by
  rw [fx_41]
  refine gg_m (own := 4) (rt := (some .boolean)) (hnd := fun _ _ => none) (K := gk_41) (δ := 0) rfl rfl ?_
  refine gg_il 1 1 rfl rfl rfl ?_
  refine gg_ci 2 0 rfl rfl ?_
  refine gg_q (fun q1 => ?_)
  refine gg_max 5 rfl rfl rfl rfl q1 (gRl rfl) ?_
  refine gg_s 6 rfl rfl ?_
  exact gt_41_6 gFU x2 (max x1 0) (gl1 rfl rfl rfl) (gl1 rfl rfl rfl) gs1
theorem gt_57_10 (k : Nat) : ∀ (a0 : Nat) (x1 : Int) (x3 : Int) (x4 : Int) (x5 : Int) (h0 : gb_kd a0 = 20) {lo : gh_L} (l0 : lo.lookup 0 = some (vr c0 a0)) (l1 : lo.lookup 1 = some (vi x1)) (l3 : lo.lookup 3 = some (vi x3)) (l4 : lo.lookup 4 = some (vi x4)) (l5 : lo.lookup 5 = some (vi x5)) {σ : gb_S}, gb_G (fx_57_10 k a0 x1 x3 x4 x5 σ) 0 4 (some .int) (fun _ _ => none) gk_57 c0 eI 10 lo [] σ := by
  induction k with
  | zero => intros; exact gg_n
  | succ k ih =>
    intro a0 x1 x3 x4 x5 h0 lo l0 l1 l3 l4 l5 σ
    rw [fx_57_10]
    refine gg_il 12 5 rfl rfl l5 ?_
    refine gg_il 13 3 rfl rfl l3 ?_
    refine gg_q (fun q1 => ?_)
    refine gg_q (fun q2 => ?_)
    refine gg_ige 40 16 rfl rfl rfl rfl q1 q2 ?_ ?_
    · refine gg_il 42 4 rfl rfl l4 ?_
      exact gg_ir rfl
    · refine gg_il 18 5 rfl rfl l5 ?_
      refine gg_al 19 0 rfl rfl l0 ?_
      refine gg_len 20 rfl rfl (gar h0) ?_
      refine gg_q (fun q3 => ?_)
      refine gg_ige 40 23 rfl rfl rfl rfl q1 q3 ?_ ?_
      · refine gg_il 42 4 rfl rfl l4 ?_
        exact gg_ir rfl
      · refine gg_al 24 0 rfl rfl l0 ?_
        refine gg_il 26 5 rfl rfl l5 ?_
        refine gg_q (fun q4 => ?_)
        refine gg_ial 27 rfl rfl (gar h0) q4 ?_
        refine gg_il 28 1 rfl rfl l1 ?_
        refine gg_q (fun q5 => ?_)
        refine gg_q (fun q6 => ?_)
        refine gg_ine 34 31 rfl rfl rfl rfl q5 q6 ?_ ?_
        · refine gg_inc 37 rfl rfl l5 ?_
          refine gg_go 10 rfl rfl rfl ?_
          exact ih a0 x1 x3 x4 (x5 + 1) h0 (gl1 rfl rfl l0) (gl1 rfl rfl l1) (gl1 rfl rfl l3) (gl1 rfl rfl l4) gs1
        · refine gg_inc 34 rfl rfl l4 ?_
          refine gg_inc 37 rfl rfl (gl1 rfl rfl l5) ?_
          refine gg_go 10 rfl rfl rfl ?_
          exact ih a0 x1 x3 (x4 + 1) (x5 + 1) h0 (gl1 rfl rfl (gl1 rfl rfl l0)) (gl1 rfl rfl (gl1 rfl rfl l1)) (gl1 rfl rfl (gl1 rfl rfl l3)) (gl1 rfl rfl gs1) gs1
theorem gm_57 (a0 : Nat) (x1 : Int) (x2 : Int) (x3 : Int) (h0 : gb_kd a0 = 20) {σ : gb_S} : gb_M (fx_57 a0 x1 x2 x3 σ) 1 c0 eI 57 [vr c0 a0, vi x1, vi x2, vi x3] σ := by
  rw [fx_57]
  refine gg_m (own := 4) (rt := (some .int)) (hnd := fun _ _ => none) (K := gk_57) (δ := 0) rfl rfl ?_
  refine gg_ci 1 0 rfl rfl ?_
  refine gg_s 3 rfl rfl ?_
  refine gg_il 4 2 rfl rfl (gl1 rfl rfl rfl) ?_
  refine gg_ci 5 0 rfl rfl ?_
  refine gg_q (fun q1 => ?_)
  refine gg_max 8 rfl rfl rfl rfl q1 (gRl rfl) ?_
  refine gg_s 10 rfl rfl ?_
  exact gt_57_10 gFU a0 x1 x3 0 (max x2 0) h0 (gl1 rfl rfl (gl1 rfl rfl rfl)) (gl1 rfl rfl (gl1 rfl rfl rfl)) (gl1 rfl rfl (gl1 rfl rfl rfl)) (gl1 rfl rfl gs1) gs1
theorem gm_42 (x1 : Int) (x2 : Int) (x3 : Int) {σ : gb_S} : gb_M (fx_42 x1 x2 x3 σ) 2 c0 eI 42 [vr c0 30, vi x1, vi x2, vi x3] σ := by
  rw [fx_42]
  refine gg_m (own := 4) (rt := (some .int)) (hnd := fun _ _ => none) (K := gk_42) (δ := 1) rfl rfl ?_
  refine gg_al 1 0 rfl rfl rfl ?_
  refine gg_gr 4 37 rfl rfl rfl gcl_30 rfl ?_
  refine gg_il 5 1 rfl rfl rfl ?_
  refine gg_il 6 2 rfl rfl rfl ?_
  refine gg_il 7 3 rfl rfl rfl ?_
  refine gg_cI 10 rfl (gm_57 _ _ _ _ (rfl : gb_kd 37 = 20)) (Nat.le_of_ble_eq_true rfl) (gb_ss rfl rfl rfl rfl rfl rfl rfl) rfl (fun _ => rfl) (fun _ => rfl) (fun r1 s2 => ?_)
  exact gg_ir rfl
theorem gt_43_2 (k : Nat) : ∀ (x1 : Int) (x2 : Int) {lo : gh_L} (l0 : lo.lookup 0 = some (vr c0 30)) (l1 : lo.lookup 1 = some (vi x1)) (l2 : lo.lookup 2 = some (vi x2)) {σ : gb_S}, gb_G (fx_43_2 k x1 x2 σ) 1 4 (some .int) (fun _ _ => none) gk_43 c0 eI 2 lo [] σ := by
  induction k with
  | zero => intros; exact gg_n
  | succ k ih =>
    intro x1 x2 lo l0 l1 l2 σ
    rw [fx_43_2]
    refine gg_il 3 2 rfl rfl l2 ?_
    refine gg_q (fun q1 => ?_)
    refine gg_zle 27 6 rfl rfl rfl rfl q1 ?_ ?_
    · refine gg_il 28 2 rfl rfl l2 ?_
      exact gg_ir rfl
    · refine gg_al 7 0 rfl rfl l0 ?_
      refine gg_il 8 2 rfl rfl l2 ?_
      refine gg_ci 9 1 rfl rfl ?_
      refine gg_sub 10 rfl rfl ?_
      refine gg_cI 13 rfl (gm_40 _) (Nat.le_of_ble_eq_true rfl) (gb_vs rfl rfl rfl rfl rfl gcl_30 rfl rfl rfl) rfl (fun _ => rfl) (fun _ => rfl) (fun r2 s3 => ?_)
      refine gg_al 14 0 rfl rfl l0 ?_
      refine gg_il 15 1 rfl rfl l1 ?_
      refine gg_cI 18 rfl (gm_40 _) (Nat.le_of_ble_eq_true rfl) (gb_vs rfl rfl rfl rfl rfl gcl_30 rfl rfl rfl) rfl (fun _ => rfl) (fun _ => rfl) (fun r4 s5 => ?_)
      refine gg_q (fun q6 => ?_)
      refine gg_q (fun q7 => ?_)
      refine gg_ine 27 21 rfl rfl rfl rfl q6 q7 ?_ ?_
      · refine gg_il 28 2 rfl rfl l2 ?_
        exact gg_ir rfl
      · refine gg_inc 24 rfl rfl l2 ?_
        refine gg_go 2 rfl rfl rfl ?_
        exact ih x1 (x2 + (-1)) (gl1 rfl rfl l0) (gl1 rfl rfl l1) gs1
theorem gm_43 (x1 : Int) {σ : gb_S} : gb_M (fx_43 x1 σ) 2 c0 eI 43 [vr c0 30, vi x1] σ := by
  rw [fx_43]
  refine gg_m (own := 4) (rt := (some .int)) (hnd := fun _ _ => none) (K := gk_43) (δ := 1) rfl rfl ?_
  refine gg_il 1 1 rfl rfl rfl ?_
  refine gg_s 2 rfl rfl ?_
  exact gt_43_2 gFU x1 x1 (gl1 rfl rfl rfl) (gl1 rfl rfl rfl) gs1
theorem gt_44_4 (k : Nat) : ∀ (x1 : Int) (x2 : Int) {lo : gh_L} (l0 : lo.lookup 0 = some (vr c0 30)) (l1 : lo.lookup 1 = some (vi x1)) (l2 : lo.lookup 2 = some (vi x2)) {σ : gb_S}, gb_G (fx_44_4 k x1 x2 σ) 1 4 (some .int) (fun _ _ => none) gk_44 c0 eI 4 lo [] σ := by
  induction k with
  | zero => intros; exact gg_n
  | succ k ih =>
    intro x1 x2 lo l0 l1 l2 σ
    rw [fx_44_4]
    refine gg_il 5 2 rfl rfl l2 ?_
    refine gg_ci 7 60 rfl rfl ?_
    refine gg_q (fun q1 => ?_)
    refine gg_ige 29 10 rfl rfl rfl rfl q1 (gRl rfl) ?_ ?_
    · refine gg_il 30 2 rfl rfl l2 ?_
      exact gg_ir rfl
    · refine gg_al 11 0 rfl rfl l0 ?_
      refine gg_il 12 2 rfl rfl l2 ?_
      refine gg_cI 15 rfl (gm_40 _) (Nat.le_of_ble_eq_true rfl) (gb_vs rfl rfl rfl rfl rfl gcl_30 rfl rfl rfl) rfl (fun _ => rfl) (fun _ => rfl) (fun r2 s3 => ?_)
      refine gg_al 16 0 rfl rfl l0 ?_
      refine gg_il 17 1 rfl rfl l1 ?_
      refine gg_cI 20 rfl (gm_40 _) (Nat.le_of_ble_eq_true rfl) (gb_vs rfl rfl rfl rfl rfl gcl_30 rfl rfl rfl) rfl (fun _ => rfl) (fun _ => rfl) (fun r4 s5 => ?_)
      refine gg_q (fun q6 => ?_)
      refine gg_q (fun q7 => ?_)
      refine gg_ine 29 23 rfl rfl rfl rfl q6 q7 ?_ ?_
      · refine gg_il 30 2 rfl rfl l2 ?_
        exact gg_ir rfl
      · refine gg_inc 26 rfl rfl l2 ?_
        refine gg_go 4 rfl rfl rfl ?_
        exact ih x1 (x2 + 1) (gl1 rfl rfl l0) (gl1 rfl rfl l1) gs1
theorem gm_44 (x1 : Int) {σ : gb_S} : gb_M (fx_44 x1 σ) 2 c0 eI 44 [vr c0 30, vi x1] σ := by
  rw [fx_44]
  refine gg_m (own := 4) (rt := (some .int)) (hnd := fun _ _ => none) (K := gk_44) (δ := 1) rfl rfl ?_
  refine gg_il 1 1 rfl rfl rfl ?_
  refine gg_ci 2 1 rfl rfl ?_
  refine gg_add 3 rfl rfl ?_
  refine gg_s 4 rfl rfl ?_
  exact gt_44_4 gFU x1 (x1 + 1) (gl1 rfl rfl rfl) (gl1 rfl rfl rfl) gs1
theorem gm_48 (x1 : Int) (x2 : Int) (x3 : Int) (x4 : Int) {σ : gb_S} : gb_M (fx_48 x1 x2 x3 x4 σ) 1 c0 eI 48 [vr c0 30, vi x1, vi x2, vi x3, vi x4] σ := by
  rw [fx_48]
  refine gg_m (own := 4) (rt := (some .int)) (hnd := fun _ _ => none) (K := gk_48) (δ := 0) rfl rfl ?_
  refine gg_al 1 0 rfl rfl rfl ?_
  refine gg_gi 4 rfl rfl rfl gcl_30 rfl ?_
  refine gg_ci 7 134 rfl rfl ?_
  refine gg_q (fun q1 => ?_)
  refine gg_ilt 14 10 rfl rfl rfl rfl q1 (gRl rfl) ?_ ?_
  · refine gg_al 15 0 rfl rfl rfl ?_
    refine gg_gr 18 31 rfl rfl rfl gcl_30 rfl ?_
    refine gg_al 19 0 rfl rfl rfl ?_
    refine gg_gi 22 rfl rfl rfl gcl_30 rfl ?_
    refine gg_il 23 1 rfl rfl rfl ?_
    refine gg_q (fun q2 => ?_)
    refine gg_ias 24 rfl rfl gar_31 q2 ?_
    refine gg_al 25 0 rfl rfl rfl ?_
    refine gg_gr 28 32 rfl rfl rfl gcl_30 rfl ?_
    refine gg_al 29 0 rfl rfl rfl ?_
    refine gg_gi 32 rfl rfl rfl gcl_30 rfl ?_
    refine gg_il 33 2 rfl rfl rfl ?_
    refine gg_q (fun q3 => ?_)
    refine gg_ias 34 rfl rfl gar_32 q3 ?_
    refine gg_al 35 0 rfl rfl rfl ?_
    refine gg_gr 38 33 rfl rfl rfl gcl_30 rfl ?_
    refine gg_al 39 0 rfl rfl rfl ?_
    refine gg_gi 42 rfl rfl rfl gcl_30 rfl ?_
    refine gg_il 43 3 rfl rfl rfl ?_
    refine gg_q (fun q4 => ?_)
    refine gg_ias 44 rfl rfl gar_33 q4 ?_
    refine gg_al 45 0 rfl rfl rfl ?_
    refine gg_gr 48 34 rfl rfl rfl gcl_30 rfl ?_
    refine gg_al 49 0 rfl rfl rfl ?_
    refine gg_gi 52 rfl rfl rfl gcl_30 rfl ?_
    refine gg_il 54 4 rfl rfl rfl ?_
    refine gg_q (fun q5 => ?_)
    refine gg_ias 55 rfl rfl gar_34 q5 ?_
    refine gg_al 56 0 rfl rfl rfl ?_
    refine gg_s 57 rfl rfl ?_
    refine gg_gi 60 rfl rfl rfl gcl_30 rfl ?_
    refine gg_ci 61 1 rfl rfl ?_
    refine gg_add 62 rfl rfl ?_
    refine gg_pf 65 rfl rfl rfl gcl_30 rfl ⟨rfl, rfl⟩ ?_
    refine gg_al 66 0 rfl rfl rfl ?_
    refine gg_gi 69 rfl rfl rfl gcl_30 rfl ?_
    refine gg_ci 70 1 rfl rfl ?_
    refine gg_sub 71 rfl rfl ?_
    exact gg_ir rfl
  · refine gg_ci 13 134 rfl rfl ?_
    exact gg_ir rfl
theorem gt_51_24 (k : Nat) : ∀ (a1 : Nat) (x2 : Int) (x3 : Int) (h1 : gb_kd a1 = 20) {lo : gh_L} (l0 : lo.lookup 0 = some (vr c0 30)) (l1 : lo.lookup 1 = some (vr c0 a1)) (l2 : lo.lookup 2 = some (vi x2)) (l3 : lo.lookup 3 = some (vi x3)) {σ : gb_S}, gb_G (fx_51_24 k a1 x2 x3 σ) 0 4 none (fun _ _ => none) gk_51 c0 eV 24 lo [] σ := by
  induction k with
  | zero => intros; exact gg_n
  | succ k ih =>
    intro a1 x2 x3 h1 lo l0 l1 l2 l3 σ
    rw [fx_51_24]
    refine gg_il 25 3 rfl rfl l3 ?_
    refine gg_al 26 0 rfl rfl l0 ?_
    refine gg_gr 29 34 rfl rfl rfl gcl_30 rfl ?_
    refine gg_il 30 2 rfl rfl l2 ?_
    refine gg_q (fun q1 => ?_)
    refine gg_ial 31 rfl rfl gar_34 q1 ?_
    refine gg_q (fun q2 => ?_)
    refine gg_q (fun q3 => ?_)
    refine gg_ige 67 34 rfl rfl rfl rfl q2 q3 ?_ ?_
    · exact gg_vr rfl
    · refine gg_il 35 3 rfl rfl l3 ?_
      refine gg_al 36 1 rfl rfl l1 ?_
      refine gg_len 37 rfl rfl (gar h1) ?_
      refine gg_q (fun q4 => ?_)
      refine gg_ige 67 40 rfl rfl rfl rfl q2 q4 ?_ ?_
      · exact gg_vr rfl
      · refine gg_al 41 1 rfl rfl l1 ?_
        refine gg_il 42 3 rfl rfl l3 ?_
        refine gg_q (fun q5 => ?_)
        refine gg_ial 43 rfl rfl (gar h1) q5 ?_
        refine gg_al 44 0 rfl rfl l0 ?_
        refine gg_gr 47 31 rfl rfl rfl gcl_30 rfl ?_
        refine gg_il 48 2 rfl rfl l2 ?_
        refine gg_ial 49 rfl rfl gar_31 q1 ?_
        refine gg_q (fun q6 => ?_)
        refine gg_q (fun q7 => ?_)
        refine gg_ine 61 52 rfl rfl rfl rfl q6 q7 ?_ ?_
        · refine gg_inc 64 rfl rfl l3 ?_
          refine gg_go 24 rfl rfl rfl ?_
          exact ih a1 x2 (x3 + 1) h1 (gl1 rfl rfl l0) (gl1 rfl rfl l1) (gl1 rfl rfl l2) gs1
        · refine gg_al 53 1 rfl rfl l1 ?_
          refine gg_il 54 3 rfl rfl l3 ?_
          refine gg_al 55 0 rfl rfl l0 ?_
          refine gg_gr 58 32 rfl rfl rfl gcl_30 rfl ?_
          refine gg_il 59 2 rfl rfl l2 ?_
          refine gg_ial 60 rfl rfl gar_32 q1 ?_
          refine gg_ias 61 rfl rfl (gar h1) q5 ?_
          refine gg_inc 64 rfl rfl l3 ?_
          refine gg_go 24 rfl rfl rfl ?_
          exact ih a1 x2 (x3 + 1) h1 (gl1 rfl rfl l0) (gl1 rfl rfl l1) (gl1 rfl rfl l2) gs1
theorem gm_51 (a1 : Nat) (x2 : Int) (h1 : gb_kd a1 = 20) {σ : gb_S} : gb_M (fx_51 a1 x2 σ) 1 c0 eV 51 [vr c0 30, vr c0 a1, vi x2] σ := by
  rw [fx_51]
  refine gg_m (own := 4) (rt := none) (hnd := fun _ _ => none) (K := gk_51) (δ := 0) rfl rfl ?_
  refine gg_il 1 2 rfl rfl rfl ?_
  refine gg_q (fun q1 => ?_)
  refine gg_zlt 12 4 rfl rfl rfl rfl q1 ?_ ?_
  · exact gg_vr rfl
  · refine gg_il 5 2 rfl rfl rfl ?_
    refine gg_al 6 0 rfl rfl rfl ?_
    refine gg_gi 9 rfl rfl rfl gcl_30 rfl ?_
    refine gg_q (fun q2 => ?_)
    refine gg_ilt 13 12 rfl rfl rfl rfl q1 q2 ?_ ?_
    · refine gg_al 14 0 rfl rfl rfl ?_
      refine gg_gr 17 33 rfl rfl rfl gcl_30 rfl ?_
      refine gg_il 18 2 rfl rfl rfl ?_
      refine gg_q (fun q3 => ?_)
      refine gg_ial 19 rfl rfl gar_33 q3 ?_
      refine gg_ci 20 0 rfl rfl ?_
      refine gg_q (fun q4 => ?_)
      refine gg_max 23 rfl rfl rfl rfl q4 (gRl rfl) ?_
      refine gg_s 24 rfl rfl ?_
      exact gt_51_24 gFU a1 x2 (max (σ 33 x2.toNat) 0) h1 (gl1 rfl rfl rfl) (gl1 rfl rfl rfl) (gl1 rfl rfl rfl) gs1
    · exact gg_vr rfl
theorem gt_45_34 (x1 : Int) (x2 : Int) (x3 : Int) {lo : gh_L} (l0 : lo.lookup 0 = some (vr c0 30)) (l1 : lo.lookup 1 = some (vi x1)) (l2 : lo.lookup 2 = some (vi x2)) (l3 : lo.lookup 3 = some (vi x3)) {σ : gb_S} : gb_G (fx_45_34 x1 x2 x3 σ) 1 4 none (fun _ _ => none) gk_45 c0 eV 34 lo [] σ := by
  rw [fx_45_34]
  refine gg_al 35 0 rfl rfl l0 ?_
  refine gg_al 36 0 rfl rfl l0 ?_
  refine gg_gr 39 37 rfl rfl rfl gcl_30 rfl ?_
  refine gg_al 40 0 rfl rfl l0 ?_
  refine gg_ci 41 (-1) rfl rfl ?_
  refine gg_il 42 1 rfl rfl l1 ?_
  refine gg_il 43 2 rfl rfl l2 ?_
  refine gg_il 44 3 rfl rfl l3 ?_
  refine gg_cI 47 rfl (gm_48 _ _ _ _) (Nat.le_of_ble_eq_true rfl) (gb_vs rfl rfl rfl rfl rfl gcl_30 rfl rfl rfl) rfl (fun _ => rfl) (fun _ => rfl) (fun r1 s2 => ?_)
  refine gg_cV 50 rfl (gm_51 _ _ (rfl : gb_kd 37 = 20)) (Nat.le_of_ble_eq_true rfl) (gb_vs rfl rfl rfl rfl rfl gcl_30 rfl rfl rfl) rfl (fun _ => rfl) (fun _ => rfl) (fun s4 => ?_)
  exact gg_vr rfl
theorem gt_45_7 (k : Nat) : ∀ (x1 : Int) (x2 : Int) (x3 : Int) (x4 : Int) {lo : gh_L} (l0 : lo.lookup 0 = some (vr c0 30)) (l1 : lo.lookup 1 = some (vi x1)) (l2 : lo.lookup 2 = some (vi x2)) (l3 : lo.lookup 3 = some (vi x3)) (l4 : lo.lookup 4 = some (vi x4)) {σ : gb_S}, gb_G (fx_45_7 k x1 x2 x3 x4 σ) 1 4 none (fun _ _ => none) gk_45 c0 eV 7 lo [] σ := by
  induction k with
  | zero => intros; exact gg_n
  | succ k ih =>
    intro x1 x2 x3 x4 lo l0 l1 l2 l3 l4 σ
    rw [fx_45_7]
    refine gg_il 9 4 rfl rfl l4 ?_
    refine gg_il 10 3 rfl rfl l3 ?_
    refine gg_q (fun q1 => ?_)
    refine gg_q (fun q2 => ?_)
    refine gg_ige 34 13 rfl rfl rfl rfl q1 q2 ?_ ?_
    · exact gt_45_34 x1 x2 x3 l0 l1 l2 l3
    · refine gg_il 15 4 rfl rfl l4 ?_
      refine gg_ci 17 60 rfl rfl ?_
      refine gg_ige 34 20 rfl rfl rfl rfl q1 (gRl rfl) ?_ ?_
      · exact gt_45_34 x1 x2 x3 l0 l1 l2 l3
      · refine gg_al 21 0 rfl rfl l0 ?_
        refine gg_gr 24 36 rfl rfl rfl gcl_30 rfl ?_
        refine gg_il 26 4 rfl rfl l4 ?_
        refine gg_ci 27 1 rfl rfl ?_
        refine gg_q (fun q3 => ?_)
        refine gg_bas 28 rfl rfl gar_36 q3 (Or.inr rfl) ?_
        refine gg_inc 31 rfl rfl l4 ?_
        refine gg_go 7 rfl rfl rfl ?_
        exact ih x1 x2 x3 (x4 + 1) (gl1 rfl rfl l0) (gl1 rfl rfl l1) (gl1 rfl rfl l2) (gl1 rfl rfl l3) gs1
theorem gm_45 (x1 : Int) (x2 : Int) (x3 : Int) {σ : gb_S} : gb_M (fx_45 x1 x2 x3 σ) 2 c0 eV 45 [vr c0 30, vi x1, vi x2, vi x3] σ := by
  rw [fx_45]
  refine gg_m (own := 4) (rt := none) (hnd := fun _ _ => none) (K := gk_45) (δ := 1) rfl rfl ?_
  refine gg_il 1 2 rfl rfl rfl ?_
  refine gg_ci 2 0 rfl rfl ?_
  refine gg_q (fun q1 => ?_)
  refine gg_max 5 rfl rfl rfl rfl q1 (gRl rfl) ?_
  refine gg_s 7 rfl rfl ?_
  exact gt_45_7 gFU x1 x2 x3 (max x2 0) (gl1 rfl rfl rfl) (gl1 rfl rfl rfl) (gl1 rfl rfl rfl) (gl1 rfl rfl rfl) gs1
theorem gm_46 (x1 : Int) (x2 : Int) (x3 : Int) (x4 : Int) {σ : gb_S} : gb_M (fx_46 x1 x2 x3 x4 σ) 2 c0 eV 46 [vr c0 30, vi x1, vi x2, vi x3, vi x4] σ := by
  rw [fx_46]
  refine gg_m (own := 4) (rt := none) (hnd := fun _ _ => none) (K := gk_46) (δ := 1) rfl rfl ?_
  refine gg_al 1 0 rfl rfl rfl ?_
  refine gg_s 2 rfl rfl ?_
  refine gg_gi 5 rfl rfl rfl gcl_30 rfl ?_
  refine gg_ci 6 1 rfl rfl ?_
  refine gg_add 7 rfl rfl ?_
  refine gg_pf 10 rfl rfl rfl gcl_30 rfl ⟨rfl, rfl⟩ ?_
  refine gg_al 11 0 rfl rfl rfl ?_
  refine gg_al 12 0 rfl rfl rfl ?_
  refine gg_gr 15 37 rfl rfl rfl gcl_30 rfl ?_
  refine gg_al 16 0 rfl rfl rfl ?_
  refine gg_il 17 1 rfl rfl rfl ?_
  refine gg_il 18 2 rfl rfl rfl ?_
  refine gg_il 19 3 rfl rfl rfl ?_
  refine gg_il 21 4 rfl rfl rfl ?_
  refine gg_cI 24 rfl (gm_48 _ _ _ _) (Nat.le_of_ble_eq_true rfl) (gb_vs rfl rfl rfl rfl rfl gcl_30 rfl rfl rfl) rfl (fun _ => rfl) (fun _ => rfl) (fun r1 s2 => ?_)
  refine gg_cV 27 rfl (gm_51 _ _ (rfl : gb_kd 37 = 20)) (Nat.le_of_ble_eq_true rfl) (gb_vs rfl rfl rfl rfl rfl gcl_30 rfl rfl rfl) rfl (fun _ => rfl) (fun _ => rfl) (fun s4 => ?_)
  exact gg_vr rfl
theorem gm_54 (x1 : Int) (x2 : Int) {σ : gb_S} : gb_M (fx_54 x1 x2 σ) 1 c0 eI 54 [vr c0 30, vi x1, vi x2] σ := by
  rw [fx_54]
  refine gg_m (own := 4) (rt := (some .int)) (hnd := fun _ _ => none) (K := gk_54) (δ := 0) rfl rfl ?_
  refine gg_il 1 1 rfl rfl rfl ?_
  refine gg_q (fun q1 => ?_)
  refine gg_zlt 15 4 rfl rfl rfl rfl q1 ?_ ?_
  · refine gg_ci 16 (-1) rfl rfl ?_
    exact gg_ir rfl
  · refine gg_il 5 1 rfl rfl rfl ?_
    refine gg_il 6 2 rfl rfl rfl ?_
    refine gg_q (fun q2 => ?_)
    refine gg_ige 15 9 rfl rfl rfl rfl q1 q2 ?_ ?_
    · refine gg_ci 16 (-1) rfl rfl ?_
      exact gg_ir rfl
    · refine gg_il 10 1 rfl rfl rfl ?_
      refine gg_ci 12 14 rfl rfl ?_
      refine gg_ilt 17 15 rfl rfl rfl rfl q1 (gRl rfl) ?_ ?_
      · refine gg_al 18 0 rfl rfl rfl ?_
        refine gg_gr 21 40 rfl rfl rfl gcl_30 rfl ?_
        refine gg_il 22 1 rfl rfl rfl ?_
        refine gg_s 23 rfl rfl ?_
        refine gg_q (fun q3 => ?_)
        refine gg_ial 24 rfl rfl gar_40 q3 ?_
        refine gg_ci 25 1 rfl rfl ?_
        refine gg_sub 26 rfl rfl ?_
        refine gg_ias 27 rfl rfl gar_40 q3 ?_
        refine gg_al 28 0 rfl rfl rfl ?_
        refine gg_gr 31 39 rfl rfl rfl gcl_30 rfl ?_
        refine gg_il 32 1 rfl rfl rfl ?_
        refine gg_ial 33 rfl rfl gar_39 q3 ?_
        exact gg_ir rfl
      · refine gg_ci 16 (-1) rfl rfl ?_
        exact gg_ir rfl
theorem gm_74 (a0 : Nat) (x1 : Int) (x2 : Int) (h0 : gb_kd a0 = 6) {σ : gb_S} : gb_M (fx_74 a0 x1 x2 σ) 2 c0 eI 74 [vr c0 a0, vi x1, vi x2] σ := by
  rw [fx_74]
  refine gg_m (own := 6) (rt := (some .int)) (hnd := fun _ _ => none) (K := gk_74) (δ := 1) rfl rfl ?_
  refine gg_al 1 0 rfl rfl rfl ?_
  refine gg_il 2 1 rfl rfl rfl ?_
  refine gg_cLo 5 rfl (gm_72 _ _ h0) (Nat.le_of_ble_eq_true rfl) (gb_vs rfl rfl rfl rfl rfl (gsh0 h0) rfl rfl rfl) rfl (fun _ => rfl) (fun _ => rfl) (fun r1 s2 => ?_)
  refine gg_s 6 rfl rfl ?_
  refine gg_ll 7 3 rfl rfl gs2 ?_
  refine gg_cl 8 0 rfl rfl ?_
  refine gg_q (fun q3 => ?_)
  refine gg_Lle 26 12 rfl rfl rfl rfl rfl q3 ⟨by decide, by decide⟩ ?_ ?_
  · refine gg_ci 27 0 rfl rfl ?_
    exact gg_ir rfl
  · refine gg_il 13 2 rfl rfl (gl2 rfl rfl rfl rfl) ?_
    refine gg_q (fun q4 => ?_)
    refine gg_i2l 14 rfl rfl q4 ?_
    refine gg_al 15 0 rfl rfl (gl2 rfl rfl rfl rfl) ?_
    refine gg_il 16 1 rfl rfl (gl2 rfl rfl rfl rfl) ?_
    refine gg_cLo 19 rfl (gm_71 _ _ h0) (Nat.le_of_ble_eq_true rfl) (gb_vs rfl rfl rfl rfl rfl (gsh0 h0) rfl rfl rfl) rfl (fun _ => rfl) (fun _ => rfl) (fun r5 s6 => ?_)
    refine gg_lmul 20 rfl rfl ?_
    refine gg_ll 21 3 rfl rfl gs2 ?_
    refine gg_q (fun q7 => ?_)
    refine gg_ldiv 22 rfl rfl q7 ?_
    refine gg_l2i 23 rfl rfl ?_
    refine gg_go 27 rfl rfl rfl ?_
    exact gg_ir rfl
end GF1
