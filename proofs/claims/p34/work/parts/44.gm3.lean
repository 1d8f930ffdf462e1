section GF3
variable {c0 : gx_C}
theorem gt_121_18 (k : Nat) : ∀ (x1 : Int) (x2 : Int) {lo : gh_L} (l0 : lo.lookup 0 = some (vr c0 1)) (l1 : lo.lookup 1 = some (vi x1)) (l2 : lo.lookup 2 = some (vi x2)) {σ : gb_S}, gb_G (fx_121_18 k x1 x2 σ) 6 7 (some .int) (fun _ _ => none) gk_121 c0 eI 18 lo [] σ := by
  induction k with
  | zero => intros; exact gg_n
  | succ k ih =>
    intro x1 x2 lo l0 l1 l2 σ
    rw [fx_121_18]
    refine gg_il 19 2 rfl rfl l2 ?_
    refine gg_ci 21 14 rfl rfl ?_
    refine gg_q (fun q1 => ?_)
    refine gg_ige 61 24 rfl rfl rfl rfl q1 (gRl rfl) ?_ ?_
    · refine gg_al 62 0 rfl rfl l0 ?_
      refine gg_gr 65 30 rfl rfl rfl gcl_1 rfl ?_
      refine gg_il 66 1 rfl rfl l1 ?_
      refine gg_al 67 0 rfl rfl l0 ?_
      refine gg_gr 70 25 rfl rfl rfl gcl_1 rfl ?_
      refine gg_cI 73 rfl (gm_49 _) (Nat.le_of_ble_eq_true rfl) (gb_vs rfl rfl rfl rfl rfl gcl_30 rfl rfl rfl) rfl (fun _ => rfl) (fun _ => rfl) (fun r2 s3 => ?_)
      exact gg_ir rfl
    · refine gg_al 25 0 rfl rfl l0 ?_
      refine gg_gr 28 25 rfl rfl rfl gcl_1 rfl ?_
      refine gg_il 29 2 rfl rfl l2 ?_
      refine gg_q (fun q4 => ?_)
      refine gg_aal 30 rfl rfl q4 ?_
      refine gg_s 31 rfl rfl ?_
      refine gg_al 32 3 rfl rfl gs1 ?_
      refine gg_gi 35 rfl rfl rfl (ges0 (ges_at q4)) rfl ?_
      refine gg_q (fun q5 => ?_)
      refine gg_zeq 55 38 rfl rfl rfl rfl q5 ?_ ?_
      · refine gg_inc 58 rfl rfl (gl1 rfl rfl l2) ?_
        refine gg_go 18 rfl rfl rfl ?_
        exact ih x1 (x2 + 1) (gl1 rfl rfl (gl1 rfl rfl l0)) (gl1 rfl rfl (gl1 rfl rfl l1)) gs1
      · refine gg_al 39 0 rfl rfl (gl1 rfl rfl l0) ?_
        refine gg_al 40 3 rfl rfl gs1 ?_
        refine gg_cI 43 rfl (gm_122 _ (ges_at q4)) (Nat.le_of_ble_eq_true rfl) (gb_vs rfl rfl rfl rfl rfl gcl_1 rfl rfl rfl) rfl (fun _ => rfl) (fun _ => rfl) (fun r6 s7 => ?_)
        refine gg_q (fun q8 => ?_)
        refine gg_zeq 55 46 rfl rfl rfl rfl q8 ?_ ?_
        · refine gg_inc 58 rfl rfl (gl1 rfl rfl l2) ?_
          refine gg_go 18 rfl rfl rfl ?_
          exact ih x1 (x2 + 1) (gl1 rfl rfl (gl1 rfl rfl l0)) (gl1 rfl rfl (gl1 rfl rfl l1)) gs1
        · refine gg_il 47 1 rfl rfl (gl1 rfl rfl l1) ?_
          refine gg_al 48 3 rfl rfl gs1 ?_
          refine gg_gi 51 rfl rfl rfl (ges0 (ges_at q4)) rfl ?_
          refine gg_q (fun q9 => ?_)
          refine gg_q (fun q10 => ?_)
          refine gg_min 54 rfl rfl rfl rfl q9 q10 ?_
          refine gg_s 55 rfl rfl ?_
          refine gg_inc 58 rfl rfl (gl1 rfl rfl (gl1 rfl rfl l2)) ?_
          refine gg_go 18 rfl rfl rfl ?_
          exact ih (min x1 (s7 (47 + 10 * x2.toNat) 6)) (x2 + 1) (gl1 rfl rfl (gl1 rfl rfl (gl1 rfl rfl l0))) (gl1 rfl rfl gs1) gs1
theorem gm_121 {σ : gb_S} : gb_M (fx_121 σ) 7 c0 eI 121 [vr c0 1] σ := by
  rw [fx_121]
  refine gg_m (own := 7) (rt := (some .int)) (hnd := fun _ _ => none) (K := gk_121) (δ := 6) rfl rfl ?_
  refine gg_al 1 0 rfl rfl rfl ?_
  refine gg_gr 4 15 rfl rfl rfl gcl_1 rfl ?_
  refine gg_al 5 0 rfl rfl rfl ?_
  refine gg_gr 8 6 rfl rfl rfl gcl_1 rfl ?_
  refine gg_ci 9 (-1) rfl rfl ?_
  refine gg_cV 12 rfl (gm_35 _ _ (rfl : gb_kd 15 = 3)) (Nat.le_of_ble_eq_true rfl) (gb_vs rfl rfl rfl rfl rfl gcl_15 rfl rfl rfl) rfl (fun _ => rfl) (fun _ => rfl) (fun s2 => ?_)
  refine gg_ci 15 134 rfl rfl ?_
  refine gg_s 16 rfl rfl ?_
  refine gg_ci 17 0 rfl rfl ?_
  refine gg_s 18 rfl rfl ?_
  exact gt_121_18 gFU 134 0 (gl1 rfl rfl (gl1 rfl rfl rfl)) (gl1 rfl rfl gs1) gs1
theorem gm_85 (x1 : Int) (x2 : Int) (x3 : Int) {σ : gb_S} : gb_M (fx_85 x1 x2 x3 σ) 8 c0 eI 85 [vr c0 1, vi x1, vi x2, vi x3] σ := by
  rw [fx_85]
  refine gg_m (own := 7) (rt := (some .int)) (hnd := fun _ _ => none) (K := gk_85) (δ := 7) rfl rfl ?_
  refine gg_al 1 0 rfl rfl rfl ?_
  refine gg_il 2 1 rfl rfl rfl ?_
  refine gg_cV 5 rfl (gm_110 _) (Nat.le_of_ble_eq_true rfl) (gb_vs rfl rfl rfl rfl rfl gcl_1 rfl rfl rfl) rfl (fun _ => rfl) (fun _ => rfl) (fun s2 => ?_)
  refine gg_al 6 0 rfl rfl rfl ?_
  refine gg_il 7 2 rfl rfl rfl ?_
  refine gg_cV 10 rfl (gm_110 _) (Nat.le_of_ble_eq_true rfl) (gb_vs rfl rfl rfl rfl rfl gcl_1 rfl rfl rfl) rfl (fun _ => rfl) (fun _ => rfl) (fun s4 => ?_)
  refine gg_al 11 0 rfl rfl rfl ?_
  refine gg_il 12 3 rfl rfl rfl ?_
  refine gg_ci 13 1 rfl rfl ?_
  refine gg_cV 16 rfl (gm_113 _ _) (Nat.le_of_ble_eq_true rfl) (gb_vs rfl rfl rfl rfl rfl gcl_1 rfl rfl rfl) rfl (fun _ => rfl) (fun _ => rfl) (fun s6 => ?_)
  refine gg_al 17 0 rfl rfl rfl ?_
  refine gg_gr 20 2 rfl rfl rfl gcl_1 rfl ?_
  refine gg_il 21 1 rfl rfl rfl ?_
  refine gg_il 22 2 rfl rfl rfl ?_
  refine gg_cI 25 rfl (gm_27 _ _) (Nat.le_of_ble_eq_true rfl) (gb_vs rfl rfl rfl rfl rfl gcl_2 rfl rfl rfl) rfl (fun _ => rfl) (fun _ => rfl) (fun r7 s8 => ?_)
  refine gg_q (fun q9 => ?_)
  refine gg_zne 38 28 rfl rfl rfl rfl q9 ?_ ?_
  · refine gg_al 39 0 rfl rfl rfl ?_
    refine gg_gr 42 6 rfl rfl rfl gcl_1 rfl ?_
    refine gg_gi 45 rfl rfl rfl gcl_6 rfl ?_
    refine gg_ci 47 30 rfl rfl ?_
    refine gg_q (fun q10 => ?_)
    refine gg_ilt 60 50 rfl rfl rfl rfl q10 (gRl rfl) ?_ ?_
    · refine gg_al 61 0 rfl rfl rfl ?_
      refine gg_gr 64 6 rfl rfl rfl gcl_1 rfl ?_
      refine gg_il 65 1 rfl rfl rfl ?_
      refine gg_il 66 2 rfl rfl rfl ?_
      refine gg_il 67 3 rfl rfl rfl ?_
      refine gg_cI 70 rfl (gm_59 _ _ _) (Nat.le_of_ble_eq_true rfl) (gb_vs rfl rfl rfl rfl rfl gcl_6 rfl rfl rfl) rfl (fun _ => rfl) (fun _ => rfl) (fun r11 s12 => ?_)
      refine gg_s 72 rfl rfl ?_
      refine gg_al 73 0 rfl rfl (gl1 rfl rfl rfl) ?_
      refine gg_cI 76 rfl (gm_121) (Nat.le_of_ble_eq_true rfl) (gb_vs rfl rfl rfl rfl rfl gcl_1 rfl rfl rfl) rfl (fun _ => rfl) (fun _ => rfl) (fun r13 s14 => ?_)
      refine gg_s 77 rfl rfl ?_
      refine gg_il 79 4 rfl rfl gs1 ?_
      exact gg_ir rfl
    · exact gg_th rfl rfl rfl
  · exact gg_th rfl rfl rfl
theorem gm_111 (x1 : Int) {σ : gb_S} : gb_M (fx_111 x1 σ) 1 c0 eV 111 [vr c0 1, vi x1] σ := by
  rw [fx_111]
  refine gg_m (own := 7) (rt := none) (hnd := fun _ _ => none) (K := gk_111) (δ := 0) rfl rfl ?_
  refine gg_il 1 1 rfl rfl rfl ?_
  refine gg_q (fun q1 => ?_)
  refine gg_zlt 15 4 rfl rfl rfl rfl q1 ?_ ?_
  · exact gg_th rfl rfl rfl
  · refine gg_il 5 1 rfl rfl rfl ?_
    refine gg_al 6 0 rfl rfl rfl ?_
    refine gg_gr 9 6 rfl rfl rfl gcl_1 rfl ?_
    refine gg_gi 12 rfl rfl rfl gcl_6 rfl ?_
    refine gg_q (fun q2 => ?_)
    refine gg_ilt 26 15 rfl rfl rfl rfl q1 q2 ?_ ?_
    · exact gg_vr rfl
    · exact gg_th rfl rfl rfl
theorem gm_86 (x1 : Int) (x2 : Int) {σ : gb_S} : gb_M (fx_86 x1 x2 σ) 8 c0 eI 86 [vr c0 1, vi x1, vi x2] σ := by
  rw [fx_86]
  refine gg_m (own := 7) (rt := (some .int)) (hnd := fun _ _ => none) (K := gk_86) (δ := 7) rfl rfl ?_
  refine gg_al 1 0 rfl rfl rfl ?_
  refine gg_il 2 1 rfl rfl rfl ?_
  refine gg_cV 5 rfl (gm_111 _) (Nat.le_of_ble_eq_true rfl) (gb_vs rfl rfl rfl rfl rfl gcl_1 rfl rfl rfl) rfl (fun _ => rfl) (fun _ => rfl) (fun s2 => ?_)
  refine gg_al 6 0 rfl rfl rfl ?_
  refine gg_il 7 2 rfl rfl rfl ?_
  refine gg_ci 8 1 rfl rfl ?_
  refine gg_cV 11 rfl (gm_113 _ _) (Nat.le_of_ble_eq_true rfl) (gb_vs rfl rfl rfl rfl rfl gcl_1 rfl rfl rfl) rfl (fun _ => rfl) (fun _ => rfl) (fun s4 => ?_)
  refine gg_al 12 0 rfl rfl rfl ?_
  refine gg_gr 15 6 rfl rfl rfl gcl_1 rfl ?_
  refine gg_il 16 1 rfl rfl rfl ?_
  refine gg_cI 19 rfl (gm_65 _) (Nat.le_of_ble_eq_true rfl) (gb_vs rfl rfl rfl rfl rfl gcl_6 rfl rfl rfl) rfl (fun _ => rfl) (fun _ => rfl) (fun r5 s6 => ?_)
  refine gg_q (fun q7 => ?_)
  refine gg_zeq 32 22 rfl rfl rfl rfl q7 ?_ ?_
  · refine gg_al 33 0 rfl rfl rfl ?_
    refine gg_gr 36 6 rfl rfl rfl gcl_1 rfl ?_
    refine gg_gi 39 rfl rfl rfl gcl_6 rfl ?_
    refine gg_ci 41 30 rfl rfl ?_
    refine gg_q (fun q8 => ?_)
    refine gg_ilt 54 44 rfl rfl rfl rfl q8 (gRl rfl) ?_ ?_
    · refine gg_al 55 0 rfl rfl rfl ?_
      refine gg_gr 58 6 rfl rfl rfl gcl_1 rfl ?_
      refine gg_il 59 1 rfl rfl rfl ?_
      refine gg_il 60 2 rfl rfl rfl ?_
      refine gg_cI 63 rfl (gm_60 _ _) (Nat.le_of_ble_eq_true rfl) (gb_vs rfl rfl rfl rfl rfl gcl_6 rfl rfl rfl) rfl (fun _ => rfl) (fun _ => rfl) (fun r9 s10 => ?_)
      refine gg_s 64 rfl rfl ?_
      refine gg_al 65 0 rfl rfl (gl1 rfl rfl rfl) ?_
      refine gg_cI 68 rfl (gm_121) (Nat.le_of_ble_eq_true rfl) (gb_vs rfl rfl rfl rfl rfl gcl_1 rfl rfl rfl) rfl (fun _ => rfl) (fun _ => rfl) (fun r11 s12 => ?_)
      refine gg_s 69 rfl rfl ?_
      refine gg_il 70 3 rfl rfl gs1 ?_
      exact gg_ir rfl
    · exact gg_th rfl rfl rfl
  · exact gg_th rfl rfl rfl
theorem gm_87 (x1 : Int) (x2 : Int) {σ : gb_S} : gb_M (fx_87 x1 x2 σ) 8 c0 eI 87 [vr c0 1, vi x1, vi x2] σ := by
  rw [fx_87]
  refine gg_m (own := 7) (rt := (some .int)) (hnd := fun _ _ => none) (K := gk_87) (δ := 7) rfl rfl ?_
  refine gg_il 1 1 rfl rfl rfl ?_
  refine gg_q (fun q1 => ?_)
  refine gg_zlt 15 4 rfl rfl rfl rfl q1 ?_ ?_
  · exact gg_th rfl rfl rfl
  · refine gg_il 5 1 rfl rfl rfl ?_
    refine gg_al 6 0 rfl rfl rfl ?_
    refine gg_gr 9 6 rfl rfl rfl gcl_1 rfl ?_
    refine gg_gi 12 rfl rfl rfl gcl_6 rfl ?_
    refine gg_q (fun q2 => ?_)
    refine gg_ilt 25 15 rfl rfl rfl rfl q1 q2 ?_ ?_
    · refine gg_al 26 0 rfl rfl rfl ?_
      refine gg_gr 29 6 rfl rfl rfl gcl_1 rfl ?_
      refine gg_il 30 1 rfl rfl rfl ?_
      refine gg_cI 33 rfl (gm_64 _) (Nat.le_of_ble_eq_true rfl) (gb_vs rfl rfl rfl rfl rfl gcl_6 rfl rfl rfl) rfl (fun _ => rfl) (fun _ => rfl) (fun r3 s4 => ?_)
      refine gg_q (fun q5 => ?_)
      refine gg_zne 46 36 rfl rfl rfl rfl q5 ?_ ?_
      · refine gg_al 47 0 rfl rfl rfl ?_
        refine gg_gr 50 6 rfl rfl rfl gcl_1 rfl ?_
        refine gg_il 51 1 rfl rfl rfl ?_
        refine gg_il 52 2 rfl rfl rfl ?_
        refine gg_cV 55 rfl (gm_61 _ _) (Nat.le_of_ble_eq_true rfl) (gb_vs rfl rfl rfl rfl rfl gcl_6 rfl rfl rfl) rfl (fun _ => rfl) (fun _ => rfl) (fun s7 => ?_)
        refine gg_al 56 0 rfl rfl rfl ?_
        refine gg_cI 59 rfl (gm_121) (Nat.le_of_ble_eq_true rfl) (gb_vs rfl rfl rfl rfl rfl gcl_1 rfl rfl rfl) rfl (fun _ => rfl) (fun _ => rfl) (fun r8 s9 => ?_)
        exact gg_ir rfl
      · exact gg_th rfl rfl rfl
    · exact gg_th rfl rfl rfl
theorem gm_88 (x1 : Int) {σ : gb_S} : gb_M (fx_88 x1 σ) 3 c0 eI 88 [vr c0 1, vi x1] σ := by
  rw [fx_88]
  refine gg_m (own := 7) (rt := (some .int)) (hnd := fun _ _ => none) (K := gk_88) (δ := 2) rfl rfl ?_
  refine gg_al 1 0 rfl rfl rfl ?_
  refine gg_il 2 1 rfl rfl rfl ?_
  refine gg_cV 5 rfl (gm_111 _) (Nat.le_of_ble_eq_true rfl) (gb_vs rfl rfl rfl rfl rfl gcl_1 rfl rfl rfl) rfl (fun _ => rfl) (fun _ => rfl) (fun s2 => ?_)
  refine gg_al 6 0 rfl rfl rfl ?_
  refine gg_gr 9 6 rfl rfl rfl gcl_1 rfl ?_
  refine gg_il 10 1 rfl rfl rfl ?_
  refine gg_cI 13 rfl (gm_67 _) (Nat.le_of_ble_eq_true rfl) (gb_vs rfl rfl rfl rfl rfl gcl_6 rfl rfl rfl) rfl (fun _ => rfl) (fun _ => rfl) (fun r3 s4 => ?_)
  exact gg_ir rfl
theorem gt_89_4 (k : Nat) : ∀ (x1 : Int) (x2 : Int) {lo : gh_L} (l0 : lo.lookup 0 = some (vr c0 1)) (l1 : lo.lookup 1 = some (vi x1)) (l2 : lo.lookup 2 = some (vi x2)) {σ : gb_S}, gb_G (fx_89_4 k x1 x2 σ) 1 7 (some .int) (fun _ _ => none) gk_89 c0 eI 4 lo [] σ := by
  induction k with
  | zero => intros; exact gg_n
  | succ k ih =>
    intro x1 x2 lo l0 l1 l2 σ
    rw [fx_89_4]
    refine gg_il 5 2 rfl rfl l2 ?_
    refine gg_al 6 0 rfl rfl l0 ?_
    refine gg_gr 9 6 rfl rfl rfl gcl_1 rfl ?_
    refine gg_gi 12 rfl rfl rfl gcl_6 rfl ?_
    refine gg_q (fun q1 => ?_)
    refine gg_q (fun q2 => ?_)
    refine gg_ige 35 15 rfl rfl rfl rfl q1 q2 ?_ ?_
    · refine gg_il 36 1 rfl rfl l1 ?_
      exact gg_ir rfl
    · refine gg_al 16 0 rfl rfl l0 ?_
      refine gg_gr 19 6 rfl rfl rfl gcl_1 rfl ?_
      refine gg_il 20 2 rfl rfl l2 ?_
      refine gg_cI 23 rfl (gm_64 _) (Nat.le_of_ble_eq_true rfl) (gb_vs rfl rfl rfl rfl rfl gcl_6 rfl rfl rfl) rfl (fun _ => rfl) (fun _ => rfl) (fun r3 s4 => ?_)
      refine gg_q (fun q5 => ?_)
      refine gg_zeq 29 26 rfl rfl rfl rfl q5 ?_ ?_
      · refine gg_inc 32 rfl rfl l2 ?_
        refine gg_go 4 rfl rfl rfl ?_
        exact ih x1 (x2 + 1) (gl1 rfl rfl l0) (gl1 rfl rfl l1) gs1
      · refine gg_inc 29 rfl rfl l1 ?_
        refine gg_inc 32 rfl rfl (gl1 rfl rfl l2) ?_
        refine gg_go 4 rfl rfl rfl ?_
        exact ih (x1 + 1) (x2 + 1) (gl1 rfl rfl (gl1 rfl rfl l0)) (gl1 rfl rfl gs1) gs1
theorem gm_89 {σ : gb_S} : gb_M (fx_89 σ) 2 c0 eI 89 [vr c0 1] σ := by
  rw [fx_89]
  refine gg_m (own := 7) (rt := (some .int)) (hnd := fun _ _ => none) (K := gk_89) (δ := 1) rfl rfl ?_
  refine gg_ci 1 0 rfl rfl ?_
  refine gg_s 2 rfl rfl ?_
  refine gg_ci 3 0 rfl rfl ?_
  refine gg_s 4 rfl rfl ?_
  exact gt_89_4 gFU 0 0 (gl1 rfl rfl (gl1 rfl rfl rfl)) (gl1 rfl rfl gs1) gs1
theorem gt_90_24 (x1 : Int) (x2 : Int) {lo : gh_L} (l0 : lo.lookup 0 = some (vr c0 1)) (l1 : lo.lookup 1 = some (vi x1)) (l2 : lo.lookup 2 = some (vi x2)) {σ : gb_S} : gb_G (fx_90_24 x1 x2 σ) 1 7 (some .int) (fun _ _ => none) gk_90 c0 eI 24 lo [] σ := by
  rw [fx_90_24]
  refine gg_il 25 2 rfl rfl l2 ?_
  refine gg_q (fun q1 => ?_)
  refine gg_zne 39 28 rfl rfl rfl rfl q1 ?_ ?_
  · refine gg_al 40 0 rfl rfl l0 ?_
    refine gg_gr 43 15 rfl rfl rfl gcl_1 rfl ?_
    refine gg_il 44 1 rfl rfl l1 ?_
    refine gg_cI 47 rfl (gm_31 _ _ (rfl : gb_kd 15 = 3)) (Nat.le_of_ble_eq_true rfl) (gb_vs rfl rfl rfl rfl rfl gcl_15 rfl rfl rfl) rfl (fun _ => rfl) (fun _ => rfl) (fun r2 s3 => ?_)
    exact gg_ir rfl
  · refine gg_al 29 0 rfl rfl l0 ?_
    refine gg_gr 32 15 rfl rfl rfl gcl_1 rfl ?_
    refine gg_il 33 1 rfl rfl l1 ?_
    refine gg_cI 36 rfl (gm_30 _ _ (rfl : gb_kd 15 = 3)) (Nat.le_of_ble_eq_true rfl) (gb_vs rfl rfl rfl rfl rfl gcl_15 rfl rfl rfl) rfl (fun _ => rfl) (fun _ => rfl) (fun r4 s5 => ?_)
    refine gg_go 47 rfl rfl rfl ?_
    exact gg_ir rfl
theorem gm_90 (x1 : Int) (x2 : Int) {σ : gb_S} : gb_M (fx_90 x1 x2 σ) 2 c0 eI 90 [vr c0 1, vi x1, vi x2] σ := by
  rw [fx_90]
  refine gg_m (own := 7) (rt := (some .int)) (hnd := fun _ _ => none) (K := gk_90) (δ := 1) rfl rfl ?_
  refine gg_al 1 0 rfl rfl rfl ?_
  refine gg_il 2 1 rfl rfl rfl ?_
  refine gg_cV 5 rfl (gm_110 _) (Nat.le_of_ble_eq_true rfl) (gb_vs rfl rfl rfl rfl rfl gcl_1 rfl rfl rfl) rfl (fun _ => rfl) (fun _ => rfl) (fun s2 => ?_)
  refine gg_il 6 2 rfl rfl rfl ?_
  refine gg_q (fun q3 => ?_)
  refine gg_zeq 24 9 rfl rfl rfl rfl q3 ?_ ?_
  · exact gt_90_24 x1 x2 rfl rfl rfl
  · refine gg_il 10 2 rfl rfl rfl ?_
    refine gg_ci 11 1 rfl rfl ?_
    refine gg_ieq 24 14 rfl rfl rfl rfl q3 (gRl rfl) ?_ ?_
    · exact gt_90_24 x1 x2 rfl rfl rfl
    · exact gg_th rfl rfl rfl
theorem gm_91 (x1 : Int) {σ : gb_S} : gb_M (fx_91 x1 σ) 2 c0 eI 91 [vr c0 1, vi x1] σ := by
  rw [fx_91]
  refine gg_m (own := 7) (rt := (some .int)) (hnd := fun _ _ => none) (K := gk_91) (δ := 1) rfl rfl ?_
  refine gg_al 1 0 rfl rfl rfl ?_
  refine gg_il 2 1 rfl rfl rfl ?_
  refine gg_cV 5 rfl (gm_110 _) (Nat.le_of_ble_eq_true rfl) (gb_vs rfl rfl rfl rfl rfl gcl_1 rfl rfl rfl) rfl (fun _ => rfl) (fun _ => rfl) (fun s2 => ?_)
  refine gg_al 6 0 rfl rfl rfl ?_
  refine gg_gr 9 15 rfl rfl rfl gcl_1 rfl ?_
  refine gg_il 10 1 rfl rfl rfl ?_
  refine gg_cI 13 rfl (gm_32 _ _ (rfl : gb_kd 15 = 3)) (Nat.le_of_ble_eq_true rfl) (gb_vs rfl rfl rfl rfl rfl gcl_15 rfl rfl rfl) rfl (fun _ => rfl) (fun _ => rfl) (fun r3 s4 => ?_)
  exact gg_ir rfl
theorem gm_114 (x1 : Int) (x2 : Int) {σ : gb_S} : gb_M (fx_114 x1 x2 σ) 1 c0 eV 114 [vr c0 1, vi x1, vi x2] σ := by
  rw [fx_114]
  refine gg_m (own := 7) (rt := none) (hnd := fun _ _ => none) (K := gk_114) (δ := 0) rfl rfl ?_
  refine gg_il 1 1 rfl rfl rfl ?_
  refine gg_il 2 2 rfl rfl rfl ?_
  refine gg_q (fun q1 => ?_)
  refine gg_q (fun q2 => ?_)
  refine gg_ine 16 5 rfl rfl rfl rfl q1 q2 ?_ ?_
  · exact gg_vr rfl
  · exact gg_th rfl rfl rfl
theorem gm_92 (x1 : Int) (x2 : Int) (x3 : Int) {σ : gb_S} : gb_M (fx_92 x1 x2 x3 σ) 4 c0 eI 92 [vr c0 1, vi x1, vi x2, vi x3] σ := by
  rw [fx_92]
  refine gg_m (own := 7) (rt := (some .int)) (hnd := fun _ _ => none) (K := gk_92) (δ := 3) rfl rfl ?_
  refine gg_al 1 0 rfl rfl rfl ?_
  refine gg_il 2 1 rfl rfl rfl ?_
  refine gg_cV 5 rfl (gm_110 _) (Nat.le_of_ble_eq_true rfl) (gb_vs rfl rfl rfl rfl rfl gcl_1 rfl rfl rfl) rfl (fun _ => rfl) (fun _ => rfl) (fun s2 => ?_)
  refine gg_al 6 0 rfl rfl rfl ?_
  refine gg_il 7 2 rfl rfl rfl ?_
  refine gg_cV 10 rfl (gm_110 _) (Nat.le_of_ble_eq_true rfl) (gb_vs rfl rfl rfl rfl rfl gcl_1 rfl rfl rfl) rfl (fun _ => rfl) (fun _ => rfl) (fun s4 => ?_)
  refine gg_al 11 0 rfl rfl rfl ?_
  refine gg_il 12 1 rfl rfl rfl ?_
  refine gg_il 13 2 rfl rfl rfl ?_
  refine gg_cV 16 rfl (gm_114 _ _) (Nat.le_of_ble_eq_true rfl) (gb_vs rfl rfl rfl rfl rfl gcl_1 rfl rfl rfl) rfl (fun _ => rfl) (fun _ => rfl) (fun s6 => ?_)
  refine gg_al 17 0 rfl rfl rfl ?_
  refine gg_il 18 3 rfl rfl rfl ?_
  refine gg_ci 19 0 rfl rfl ?_
  refine gg_cV 22 rfl (gm_113 _ _) (Nat.le_of_ble_eq_true rfl) (gb_vs rfl rfl rfl rfl rfl gcl_1 rfl rfl rfl) rfl (fun _ => rfl) (fun _ => rfl) (fun s8 => ?_)
  refine gg_al 23 0 rfl rfl rfl ?_
  refine gg_il 24 1 rfl rfl rfl ?_
  refine gg_cV 27 rfl (gm_116 _) (Nat.le_of_ble_eq_true rfl) (gb_vs rfl rfl rfl rfl rfl gcl_1 rfl rfl rfl) rfl (fun _ => rfl) (fun _ => rfl) (fun s10 => ?_)
  refine gg_al 28 0 rfl rfl rfl ?_
  refine gg_gr 31 25 rfl rfl rfl gcl_1 rfl ?_
  refine gg_il 32 1 rfl rfl rfl ?_
  refine gg_q (fun q11 => ?_)
  refine gg_aal 33 rfl rfl q11 ?_
  refine gg_il 34 2 rfl rfl rfl ?_
  refine gg_il 35 3 rfl rfl rfl ?_
  refine gg_cI 38 rfl (gm_14 _ _ _ (ges_at q11)) (Nat.le_of_ble_eq_true rfl) (gb_vs rfl rfl rfl rfl rfl (ges0 (ges_at q11)) rfl rfl rfl) rfl (fun _ => rfl) (fun _ => rfl) (fun r12 s13 => ?_)
  exact gg_ir rfl
theorem gm_117 (x1 : Int) {σ : gb_S} : gb_M (fx_117 x1 σ) 3 c0 eV 117 [vr c0 1, vi x1] σ := by
  rw [fx_117]
  refine gg_m (own := 7) (rt := none) (hnd := fun _ _ => none) (K := gk_117) (δ := 2) rfl rfl ?_
  refine gg_al 1 0 rfl rfl rfl ?_
  refine gg_gr 4 2 rfl rfl rfl gcl_1 rfl ?_
  refine gg_il 5 1 rfl rfl rfl ?_
  refine gg_cI 8 rfl (gm_24 _) (Nat.le_of_ble_eq_true rfl) (gb_vs rfl rfl rfl rfl rfl gcl_2 rfl rfl rfl) rfl (fun _ => rfl) (fun _ => rfl) (fun r1 s2 => ?_)
  refine gg_q (fun q3 => ?_)
  refine gg_zne 22 11 rfl rfl rfl rfl q3 ?_ ?_
  · exact gg_vr rfl
  · exact gg_th rfl rfl rfl
theorem gm_118 (a1 : Nat) (h1 : gb_kd a1 = 1) {σ : gb_S} : gb_M (fx_118 a1 σ) 1 c0 eV 118 [vr c0 1, vr c0 a1] σ := by
  rw [fx_118]
  refine gg_m (own := 7) (rt := none) (hnd := fun _ _ => none) (K := gk_118) (δ := 0) rfl rfl ?_
  refine gg_al 1 1 rfl rfl rfl ?_
  refine gg_gi 4 rfl rfl rfl (ges0 h1) rfl ?_
  refine gg_q (fun q1 => ?_)
  refine gg_zeq 18 7 rfl rfl rfl rfl q1 ?_ ?_
  · exact gg_vr rfl
  · exact gg_th rfl rfl rfl
theorem gm_93 (x1 : Int) (x2 : Int) {σ : gb_S} : gb_M (fx_93 x1 x2 σ) 4 c0 eI 93 [vr c0 1, vi x1, vi x2] σ := by
  rw [fx_93]
  refine gg_m (own := 7) (rt := (some .int)) (hnd := fun _ _ => none) (K := gk_93) (δ := 3) rfl rfl ?_
  refine gg_al 1 0 rfl rfl rfl ?_
  refine gg_il 2 1 rfl rfl rfl ?_
  refine gg_cV 5 rfl (gm_110 _) (Nat.le_of_ble_eq_true rfl) (gb_vs rfl rfl rfl rfl rfl gcl_1 rfl rfl rfl) rfl (fun _ => rfl) (fun _ => rfl) (fun s2 => ?_)
  refine gg_al 6 0 rfl rfl rfl ?_
  refine gg_il 7 2 rfl rfl rfl ?_
  refine gg_cV 10 rfl (gm_110 _) (Nat.le_of_ble_eq_true rfl) (gb_vs rfl rfl rfl rfl rfl gcl_1 rfl rfl rfl) rfl (fun _ => rfl) (fun _ => rfl) (fun s4 => ?_)
  refine gg_al 11 0 rfl rfl rfl ?_
  refine gg_il 12 1 rfl rfl rfl ?_
  refine gg_cV 15 rfl (gm_116 _) (Nat.le_of_ble_eq_true rfl) (gb_vs rfl rfl rfl rfl rfl gcl_1 rfl rfl rfl) rfl (fun _ => rfl) (fun _ => rfl) (fun s6 => ?_)
  refine gg_al 16 0 rfl rfl rfl ?_
  refine gg_il 17 2 rfl rfl rfl ?_
  refine gg_cV 20 rfl (gm_117 _) (Nat.le_of_ble_eq_true rfl) (gb_vs rfl rfl rfl rfl rfl gcl_1 rfl rfl rfl) rfl (fun _ => rfl) (fun _ => rfl) (fun s8 => ?_)
  refine gg_al 21 0 rfl rfl rfl ?_
  refine gg_gr 24 25 rfl rfl rfl gcl_1 rfl ?_
  refine gg_il 25 2 rfl rfl rfl ?_
  refine gg_q (fun q9 => ?_)
  refine gg_aal 26 rfl rfl q9 ?_
  refine gg_s 27 rfl rfl ?_
  refine gg_al 28 0 rfl rfl (gl1 rfl rfl rfl) ?_
  refine gg_al 29 3 rfl rfl gs1 ?_
  refine gg_cV 32 rfl (gm_118 _ (ges_at q9)) (Nat.le_of_ble_eq_true rfl) (gb_vs rfl rfl rfl rfl rfl gcl_1 rfl rfl rfl) rfl (fun _ => rfl) (fun _ => rfl) (fun s11 => ?_)
  refine gg_al 33 3 rfl rfl gs1 ?_
  refine gg_il 34 1 rfl rfl (gl1 rfl rfl rfl) ?_
  refine gg_cI 37 rfl (gm_15 _ _ (ges_at q9)) (Nat.le_of_ble_eq_true rfl) (gb_vs rfl rfl rfl rfl rfl (ges0 (ges_at q9)) rfl rfl rfl) rfl (fun _ => rfl) (fun _ => rfl) (fun r12 s13 => ?_)
  refine gg_q (fun q14 => ?_)
  refine gg_zeq 50 40 rfl rfl rfl rfl q14 ?_ ?_
  · refine gg_al 51 3 rfl rfl gs1 ?_
    refine gg_il 52 1 rfl rfl (gl1 rfl rfl rfl) ?_
    refine gg_cV 55 rfl (gm_16 _ _ (ges_at q9)) (Nat.le_of_ble_eq_true rfl) (gb_vs rfl rfl rfl rfl rfl (ges0 (ges_at q9)) rfl rfl rfl) rfl (fun _ => rfl) (fun _ => rfl) (fun s16 => ?_)
    refine gg_al 56 3 rfl rfl gs1 ?_
    refine gg_gi 59 rfl rfl rfl (ges0 (ges_at q9)) rfl ?_
    exact gg_ir rfl
  · exact gg_th rfl rfl rfl
theorem gm_94 (x1 : Int) {σ : gb_S} : gb_M (fx_94 x1 σ) 2 c0 eI 94 [vr c0 1, vi x1] σ := by
  rw [fx_94]
  refine gg_m (own := 7) (rt := (some .int)) (hnd := fun _ _ => none) (K := gk_94) (δ := 1) rfl rfl ?_
  refine gg_al 1 0 rfl rfl rfl ?_
  refine gg_il 2 1 rfl rfl rfl ?_
  refine gg_cV 5 rfl (gm_110 _) (Nat.le_of_ble_eq_true rfl) (gb_vs rfl rfl rfl rfl rfl gcl_1 rfl rfl rfl) rfl (fun _ => rfl) (fun _ => rfl) (fun s2 => ?_)
  refine gg_al 6 0 rfl rfl rfl ?_
  refine gg_gr 9 25 rfl rfl rfl gcl_1 rfl ?_
  refine gg_il 10 1 rfl rfl rfl ?_
  refine gg_q (fun q3 => ?_)
  refine gg_aal 11 rfl rfl q3 ?_
  refine gg_gi 14 rfl rfl rfl (ges0 (ges_at q3)) rfl ?_
  exact gg_ir rfl
theorem gm_95 (x1 : Int) {σ : gb_S} : gb_M (fx_95 x1 σ) 7 c0 eI 95 [vr c0 1, vi x1] σ := by
  rw [fx_95]
  refine gg_m (own := 7) (rt := (some .int)) (hnd := fun _ _ => none) (K := gk_95) (δ := 6) rfl rfl ?_
  refine gg_al 1 0 rfl rfl rfl ?_
  refine gg_il 2 1 rfl rfl rfl ?_
  refine gg_cV 5 rfl (gm_110 _) (Nat.le_of_ble_eq_true rfl) (gb_vs rfl rfl rfl rfl rfl gcl_1 rfl rfl rfl) rfl (fun _ => rfl) (fun _ => rfl) (fun s2 => ?_)
  refine gg_al 6 0 rfl rfl rfl ?_
  refine gg_il 7 1 rfl rfl rfl ?_
  refine gg_cV 10 rfl (gm_117 _) (Nat.le_of_ble_eq_true rfl) (gb_vs rfl rfl rfl rfl rfl gcl_1 rfl rfl rfl) rfl (fun _ => rfl) (fun _ => rfl) (fun s4 => ?_)
  refine gg_al 11 0 rfl rfl rfl ?_
  refine gg_gr 14 25 rfl rfl rfl gcl_1 rfl ?_
  refine gg_il 15 1 rfl rfl rfl ?_
  refine gg_q (fun q5 => ?_)
  refine gg_aal 16 rfl rfl q5 ?_
  refine gg_s 17 rfl rfl ?_
  refine gg_al 18 0 rfl rfl (gl1 rfl rfl rfl) ?_
  refine gg_al 19 2 rfl rfl gs1 ?_
  refine gg_cV 22 rfl (gm_118 _ (ges_at q5)) (Nat.le_of_ble_eq_true rfl) (gb_vs rfl rfl rfl rfl rfl gcl_1 rfl rfl rfl) rfl (fun _ => rfl) (fun _ => rfl) (fun s7 => ?_)
  refine gg_al 23 0 rfl rfl (gl1 rfl rfl rfl) ?_
  refine gg_gr 26 26 rfl rfl rfl gcl_1 rfl ?_
  refine gg_al 27 0 rfl rfl (gl1 rfl rfl rfl) ?_
  refine gg_gr 30 2 rfl rfl rfl gcl_1 rfl ?_
  refine gg_al 31 0 rfl rfl (gl1 rfl rfl rfl) ?_
  refine gg_gr 34 15 rfl rfl rfl gcl_1 rfl ?_
  refine gg_al 35 2 rfl rfl gs1 ?_
  refine gg_al 36 2 rfl rfl gs1 ?_
  refine gg_gr 39 ((47 + 10 * x1.toNat) + 3) rfl rfl rfl (ges0 (ges_at q5)) rfl ?_
  refine gg_cV 42 rfl (gm_1 _ _ _ (rfl : gb_kd 15 = 3) (ges_at q5) (ges3 (ges_at q5))) (Nat.le_of_ble_eq_true rfl) (gb_vs rfl rfl rfl rfl rfl gcl_26 rfl rfl rfl) rfl (fun _ => rfl) (fun _ => rfl) (fun s9 => ?_)
  refine gg_al 43 2 rfl rfl gs1 ?_
  refine gg_ci 44 1 rfl rfl ?_
  refine gg_pf 47 rfl rfl rfl (ges0 (ges_at q5)) rfl ⟨rfl, rfl⟩ ?_
  refine gg_al 48 2 rfl rfl gs1 ?_
  refine gg_al 49 0 rfl rfl (gl1 rfl rfl rfl) ?_
  refine gg_gr 52 2 rfl rfl rfl gcl_1 rfl ?_
  refine gg_gi 55 rfl rfl rfl gcl_2 rfl ?_
  refine gg_pf 58 rfl rfl rfl (ges0 (ges_at q5)) rfl ⟨rfl, rfl⟩ ?_
  refine gg_al 59 2 rfl rfl gs1 ?_
  refine gg_al 60 0 rfl rfl (gl1 rfl rfl rfl) ?_
  refine gg_gr 63 30 rfl rfl rfl gcl_1 rfl ?_
  refine gg_al 64 2 rfl rfl gs1 ?_
  refine gg_cI 67 rfl (gm_47 _ (ges_at q5)) (Nat.le_of_ble_eq_true rfl) (gb_vs rfl rfl rfl rfl rfl gcl_30 rfl rfl rfl) rfl (fun _ => rfl) (fun _ => rfl) (fun r10 s11 => ?_)
  refine gg_pf 70 rfl rfl rfl (ges0 (ges_at q5)) rfl ⟨rfl, rfl⟩ ?_
  refine gg_al 71 2 rfl rfl gs1 ?_
  refine gg_gr 74 ((47 + 10 * x1.toNat) + 3) rfl rfl rfl (ges0 (ges_at q5)) rfl ?_
  refine gg_cI 77 rfl (gm_75 _ (ges3 (ges_at q5))) (Nat.le_of_ble_eq_true rfl) (gb_vs rfl rfl rfl rfl rfl (gsh0 (ges3 (ges_at q5))) rfl rfl rfl) rfl (fun _ => rfl) (fun _ => rfl) (fun r12 s13 => ?_)
  exact gg_ir rfl
theorem gm_96 (x1 : Int) {σ : gb_S} : gb_M (fx_96 x1 σ) 2 c0 eI 96 [vr c0 1, vi x1] σ := by
  rw [fx_96]
  refine gg_m (own := 7) (rt := (some .boolean)) (hnd := fun _ _ => none) (K := gk_96) (δ := 1) rfl rfl ?_
  refine gg_al 1 0 rfl rfl rfl ?_
  refine gg_il 2 1 rfl rfl rfl ?_
  refine gg_cV 5 rfl (gm_110 _) (Nat.le_of_ble_eq_true rfl) (gb_vs rfl rfl rfl rfl rfl gcl_1 rfl rfl rfl) rfl (fun _ => rfl) (fun _ => rfl) (fun s2 => ?_)
  refine gg_al 6 0 rfl rfl rfl ?_
  refine gg_gr 9 25 rfl rfl rfl gcl_1 rfl ?_
  refine gg_il 10 1 rfl rfl rfl ?_
  refine gg_q (fun q3 => ?_)
  refine gg_aal 11 rfl rfl q3 ?_
  refine gg_gi 14 rfl rfl rfl (ges0 (ges_at q3)) rfl ?_
  refine gg_q (fun q4 => ?_)
  exact gg_zr rfl q4
theorem gm_119 (x1 : Int) {σ : gb_S} : gb_M (fx_119 x1 σ) 6 c0 (eA c0) 119 [vr c0 1, vi x1] σ := by
  rw [fx_119]
  refine gg_m (own := 7) (rt := (some (.object "Treeclerk$Shares"))) (hnd := fun _ _ => none) (K := gk_119) (δ := 5) rfl rfl ?_
  refine gg_al 1 0 rfl rfl rfl ?_
  refine gg_gr 4 25 rfl rfl rfl gcl_1 rfl ?_
  refine gg_il 5 1 rfl rfl rfl ?_
  refine gg_q (fun q1 => ?_)
  refine gg_aal 6 rfl rfl q1 ?_
  refine gg_s 7 rfl rfl ?_
  refine gg_al 8 2 rfl rfl gs1 ?_
  refine gg_gi 11 rfl rfl rfl (ges0 (ges_at q1)) rfl ?_
  refine gg_q (fun q2 => ?_)
  refine gg_zeq 19 14 rfl rfl rfl rfl q2 ?_ ?_
  · refine gg_al 20 0 rfl rfl (gl1 rfl rfl rfl) ?_
    refine gg_gr 23 26 rfl rfl rfl gcl_1 rfl ?_
    refine gg_al 24 0 rfl rfl (gl1 rfl rfl rfl) ?_
    refine gg_gr 27 2 rfl rfl rfl gcl_1 rfl ?_
    refine gg_al 28 0 rfl rfl (gl1 rfl rfl rfl) ?_
    refine gg_gr 31 15 rfl rfl rfl gcl_1 rfl ?_
    refine gg_al 32 2 rfl rfl gs1 ?_
    refine gg_al 33 0 rfl rfl (gl1 rfl rfl rfl) ?_
    refine gg_gr 36 41 rfl rfl rfl gcl_1 rfl ?_
    refine gg_cV 39 rfl (gm_1 _ _ _ (rfl : gb_kd 15 = 3) (ges_at q1) (rfl : gb_kd 41 = 6)) (Nat.le_of_ble_eq_true rfl) (gb_vs rfl rfl rfl rfl rfl gcl_26 rfl rfl rfl) rfl (fun _ => rfl) (fun _ => rfl) (fun s4 => ?_)
    refine gg_al 40 0 rfl rfl (gl1 rfl rfl rfl) ?_
    refine gg_gr 43 41 rfl rfl rfl gcl_1 rfl ?_
    exact gg_ar rfl
  · refine gg_al 15 2 rfl rfl gs1 ?_
    refine gg_gr 18 ((47 + 10 * x1.toNat) + 3) rfl rfl rfl (ges0 (ges_at q1)) rfl ?_
    exact gg_ar rfl
theorem gm_97 (x1 : Int) (x2 : Int) {σ : gb_S} : gb_M (fx_97 x1 x2 σ) 7 c0 eL 97 [vr c0 1, vi x1, vi x2] σ := by
  rw [fx_97]
  refine gg_m (own := 7) (rt := (some .long)) (hnd := fun _ _ => none) (K := gk_97) (δ := 6) rfl rfl ?_
  refine gg_al 1 0 rfl rfl rfl ?_
  refine gg_il 2 1 rfl rfl rfl ?_
  refine gg_cV 5 rfl (gm_110 _) (Nat.le_of_ble_eq_true rfl) (gb_vs rfl rfl rfl rfl rfl gcl_1 rfl rfl rfl) rfl (fun _ => rfl) (fun _ => rfl) (fun s2 => ?_)
  refine gg_al 6 0 rfl rfl rfl ?_
  refine gg_il 7 2 rfl rfl rfl ?_
  refine gg_cV 10 rfl (gm_110 _) (Nat.le_of_ble_eq_true rfl) (gb_vs rfl rfl rfl rfl rfl gcl_1 rfl rfl rfl) rfl (fun _ => rfl) (fun _ => rfl) (fun s4 => ?_)
  refine gg_al 11 0 rfl rfl rfl ?_
  refine gg_il 12 2 rfl rfl rfl ?_
  refine gg_cV 15 rfl (gm_117 _) (Nat.le_of_ble_eq_true rfl) (gb_vs rfl rfl rfl rfl rfl gcl_1 rfl rfl rfl) rfl (fun _ => rfl) (fun _ => rfl) (fun s6 => ?_)
  refine gg_al 16 0 rfl rfl rfl ?_
  refine gg_il 17 2 rfl rfl rfl ?_
  refine gg_cA 20 rfl (gm_119 _) (Nat.le_of_ble_eq_true rfl) (gb_vs rfl rfl rfl rfl rfl gcl_1 rfl rfl rfl) rfl (fun _ => rfl) (fun _ => rfl) (fun r7 s8 => ?_)
  refine gg_q (fun qar7 => ?_)
  refine gg_il 21 1 rfl rfl rfl ?_
  refine gg_cLo 24 rfl (gm_71 _ _ qar7) (Nat.le_of_ble_eq_true rfl) (gb_vs rfl rfl rfl rfl rfl (gsh0 qar7) rfl rfl rfl) rfl (fun _ => rfl) (fun _ => rfl) (fun r9 s10 => ?_)
  exact gg_lr rfl
theorem gm_98 (x1 : Int) (x2 : Int) {σ : gb_S} : gb_M (fx_98 x1 x2 σ) 7 c0 eL 98 [vr c0 1, vi x1, vi x2] σ := by
  rw [fx_98]
  refine gg_m (own := 7) (rt := (some .long)) (hnd := fun _ _ => none) (K := gk_98) (δ := 6) rfl rfl ?_
  refine gg_al 1 0 rfl rfl rfl ?_
  refine gg_il 2 1 rfl rfl rfl ?_
  refine gg_cV 5 rfl (gm_110 _) (Nat.le_of_ble_eq_true rfl) (gb_vs rfl rfl rfl rfl rfl gcl_1 rfl rfl rfl) rfl (fun _ => rfl) (fun _ => rfl) (fun s2 => ?_)
  refine gg_al 6 0 rfl rfl rfl ?_
  refine gg_il 7 2 rfl rfl rfl ?_
  refine gg_cV 10 rfl (gm_110 _) (Nat.le_of_ble_eq_true rfl) (gb_vs rfl rfl rfl rfl rfl gcl_1 rfl rfl rfl) rfl (fun _ => rfl) (fun _ => rfl) (fun s4 => ?_)
  refine gg_al 11 0 rfl rfl rfl ?_
  refine gg_il 12 2 rfl rfl rfl ?_
  refine gg_cV 15 rfl (gm_117 _) (Nat.le_of_ble_eq_true rfl) (gb_vs rfl rfl rfl rfl rfl gcl_1 rfl rfl rfl) rfl (fun _ => rfl) (fun _ => rfl) (fun s6 => ?_)
  refine gg_al 16 0 rfl rfl rfl ?_
  refine gg_il 17 2 rfl rfl rfl ?_
  refine gg_cA 20 rfl (gm_119 _) (Nat.le_of_ble_eq_true rfl) (gb_vs rfl rfl rfl rfl rfl gcl_1 rfl rfl rfl) rfl (fun _ => rfl) (fun _ => rfl) (fun r7 s8 => ?_)
  refine gg_q (fun qar7 => ?_)
  refine gg_il 21 1 rfl rfl rfl ?_
  refine gg_cLo 24 rfl (gm_72 _ _ qar7) (Nat.le_of_ble_eq_true rfl) (gb_vs rfl rfl rfl rfl rfl (gsh0 qar7) rfl rfl rfl) rfl (fun _ => rfl) (fun _ => rfl) (fun r9 s10 => ?_)
  exact gg_lr rfl
theorem gm_99 (x1 : Int) (x2 : Int) {σ : gb_S} : gb_M (fx_99 x1 x2 σ) 62 c0 eL 99 [vr c0 1, vi x1, vi x2] σ := by
  rw [fx_99]
  refine gg_m (own := 7) (rt := (some .long)) (hnd := fun _ _ => none) (K := gk_99) (δ := 61) rfl rfl ?_
  refine gg_al 1 0 rfl rfl rfl ?_
  refine gg_il 2 1 rfl rfl rfl ?_
  refine gg_cV 5 rfl (gm_110 _) (Nat.le_of_ble_eq_true rfl) (gb_vs rfl rfl rfl rfl rfl gcl_1 rfl rfl rfl) rfl (fun _ => rfl) (fun _ => rfl) (fun s2 => ?_)
  refine gg_al 6 0 rfl rfl rfl ?_
  refine gg_il 7 2 rfl rfl rfl ?_
  refine gg_cV 10 rfl (gm_110 _) (Nat.le_of_ble_eq_true rfl) (gb_vs rfl rfl rfl rfl rfl gcl_1 rfl rfl rfl) rfl (fun _ => rfl) (fun _ => rfl) (fun s4 => ?_)
  refine gg_al 11 0 rfl rfl rfl ?_
  refine gg_il 12 2 rfl rfl rfl ?_
  refine gg_cV 15 rfl (gm_117 _) (Nat.le_of_ble_eq_true rfl) (gb_vs rfl rfl rfl rfl rfl gcl_1 rfl rfl rfl) rfl (fun _ => rfl) (fun _ => rfl) (fun s6 => ?_)
  refine gg_al 16 0 rfl rfl rfl ?_
  refine gg_gr 19 26 rfl rfl rfl gcl_1 rfl ?_
  refine gg_al 20 0 rfl rfl rfl ?_
  refine gg_gr 23 2 rfl rfl rfl gcl_1 rfl ?_
  refine gg_al 24 0 rfl rfl rfl ?_
  refine gg_gr 27 15 rfl rfl rfl gcl_1 rfl ?_
  refine gg_al 28 0 rfl rfl rfl ?_
  refine gg_gr 31 25 rfl rfl rfl gcl_1 rfl ?_
  refine gg_il 32 2 rfl rfl rfl ?_
  refine gg_q (fun q7 => ?_)
  refine gg_aal 33 rfl rfl q7 ?_
  refine gg_al 34 0 rfl rfl rfl ?_
  refine gg_gr 37 41 rfl rfl rfl gcl_1 rfl ?_
  refine gg_cV 40 rfl (gm_3 _ _ _ (rfl : gb_kd 15 = 3) (ges_at q7) (rfl : gb_kd 41 = 6)) (Nat.le_of_ble_eq_true rfl) (gb_vs rfl rfl rfl rfl rfl gcl_26 rfl rfl rfl) rfl (fun _ => rfl) (fun _ => rfl) (fun s9 => ?_)
  refine gg_al 41 0 rfl rfl rfl ?_
  refine gg_gr 44 41 rfl rfl rfl gcl_1 rfl ?_
  refine gg_il 45 1 rfl rfl rfl ?_
  refine gg_cLo 48 rfl (gm_71 _ _ (rfl : gb_kd 41 = 6)) (Nat.le_of_ble_eq_true rfl) (gb_vs rfl rfl rfl rfl rfl gcl_41 rfl rfl rfl) rfl (fun _ => rfl) (fun _ => rfl) (fun r10 s11 => ?_)
  exact gg_lr rfl
theorem gm_100 (x1 : Int) {σ : gb_S} : gb_M (fx_100 x1 σ) 7 c0 eI 100 [vr c0 1, vi x1] σ := by
  rw [fx_100]
  refine gg_m (own := 7) (rt := (some .int)) (hnd := fun _ _ => none) (K := gk_100) (δ := 6) rfl rfl ?_
  refine gg_al 1 0 rfl rfl rfl ?_
  refine gg_il 2 1 rfl rfl rfl ?_
  refine gg_cV 5 rfl (gm_110 _) (Nat.le_of_ble_eq_true rfl) (gb_vs rfl rfl rfl rfl rfl gcl_1 rfl rfl rfl) rfl (fun _ => rfl) (fun _ => rfl) (fun s2 => ?_)
  refine gg_al 6 0 rfl rfl rfl ?_
  refine gg_il 7 1 rfl rfl rfl ?_
  refine gg_cV 10 rfl (gm_117 _) (Nat.le_of_ble_eq_true rfl) (gb_vs rfl rfl rfl rfl rfl gcl_1 rfl rfl rfl) rfl (fun _ => rfl) (fun _ => rfl) (fun s4 => ?_)
  refine gg_al 11 0 rfl rfl rfl ?_
  refine gg_il 12 1 rfl rfl rfl ?_
  refine gg_cA 15 rfl (gm_119 _) (Nat.le_of_ble_eq_true rfl) (gb_vs rfl rfl rfl rfl rfl gcl_1 rfl rfl rfl) rfl (fun _ => rfl) (fun _ => rfl) (fun r5 s6 => ?_)
  refine gg_q (fun qar5 => ?_)
  refine gg_cI 18 rfl (gm_75 _ qar5) (Nat.le_of_ble_eq_true rfl) (gb_vs rfl rfl rfl rfl rfl (gsh0 qar5) rfl rfl rfl) rfl (fun _ => rfl) (fun _ => rfl) (fun r7 s8 => ?_)
  exact gg_ir rfl
theorem gm_120 (a1 : Nat) (a2 : Nat) (x3 : Int) (h1 : gb_kd a1 = 1) (h2 : gb_kd a2 = 6) {σ : gb_S} : gb_M (fx_120 a1 a2 x3 σ) 6 c0 eI 120 [vr c0 1, vr c0 a1, vr c0 a2, vi x3] σ := by
  rw [fx_120]
  refine gg_m (own := 7) (rt := (some .boolean)) (hnd := fun _ _ => none) (K := gk_120) (δ := 5) rfl rfl ?_
  refine gg_al 1 0 rfl rfl rfl ?_
  refine gg_gr 4 6 rfl rfl rfl gcl_1 rfl ?_
  refine gg_il 5 3 rfl rfl rfl ?_
  refine gg_cI 8 rfl (gm_67 _) (Nat.le_of_ble_eq_true rfl) (gb_vs rfl rfl rfl rfl rfl gcl_6 rfl rfl rfl) rfl (fun _ => rfl) (fun _ => rfl) (fun r1 s2 => ?_)
  refine gg_q (fun q3 => ?_)
  refine gg_zne 13 11 rfl rfl rfl rfl q3 ?_ ?_
  · refine gg_al 14 0 rfl rfl rfl ?_
    refine gg_gr 17 20 rfl rfl rfl gcl_1 rfl ?_
    refine gg_al 18 0 rfl rfl rfl ?_
    refine gg_gr 21 6 rfl rfl rfl gcl_1 rfl ?_
    refine gg_il 22 3 rfl rfl rfl ?_
    refine gg_cV 25 rfl (gm_35 _ _ (rfl : gb_kd 20 = 3)) (Nat.le_of_ble_eq_true rfl) (gb_vs rfl rfl rfl rfl rfl gcl_20 rfl rfl rfl) rfl (fun _ => rfl) (fun _ => rfl) (fun s5 => ?_)
    refine gg_al 26 0 rfl rfl rfl ?_
    refine gg_gr 29 26 rfl rfl rfl gcl_1 rfl ?_
    refine gg_al 30 0 rfl rfl rfl ?_
    refine gg_gr 33 2 rfl rfl rfl gcl_1 rfl ?_
    refine gg_al 34 0 rfl rfl rfl ?_
    refine gg_gr 37 20 rfl rfl rfl gcl_1 rfl ?_
    refine gg_al 38 1 rfl rfl rfl ?_
    refine gg_al 39 0 rfl rfl rfl ?_
    refine gg_gr 42 44 rfl rfl rfl gcl_1 rfl ?_
    refine gg_cV 45 rfl (gm_1 _ _ _ (rfl : gb_kd 20 = 3) h1 (rfl : gb_kd 44 = 6)) (Nat.le_of_ble_eq_true rfl) (gb_vs rfl rfl rfl rfl rfl gcl_26 rfl rfl rfl) rfl (fun _ => rfl) (fun _ => rfl) (fun s7 => ?_)
    refine gg_al 46 0 rfl rfl rfl ?_
    refine gg_gr 49 44 rfl rfl rfl gcl_1 rfl ?_
    refine gg_al 50 2 rfl rfl rfl ?_
    refine gg_cI 53 rfl (gm_76 _ _ (rfl : gb_kd 44 = 6) h2) (Nat.le_of_ble_eq_true rfl) (gb_vs rfl rfl rfl rfl rfl gcl_44 rfl rfl rfl) rfl (fun _ => rfl) (fun _ => rfl) (fun r8 s9 => ?_)
    refine gg_q (fun q10 => ?_)
    refine gg_zne 60 56 rfl rfl rfl rfl q10 ?_ ?_
    · refine gg_ci 61 0 rfl rfl ?_
      exact gg_zr rfl (Or.inl rfl)
    · refine gg_ci 57 1 rfl rfl ?_
      refine gg_go 61 rfl rfl rfl ?_
      exact gg_zr rfl (Or.inr rfl)
  · refine gg_ci 12 0 rfl rfl ?_
    exact gg_zr rfl (Or.inl rfl)
theorem gt_101_21 (k : Nat) : ∀ (x1 : Int) (a2 : Nat) (x3 : Int) (x4 : Int) (h2 : gb_kd a2 = 6) {lo : gh_L} (l0 : lo.lookup 0 = some (vr c0 1)) (l1 : lo.lookup 1 = some (vi x1)) (l2 : lo.lookup 2 = some (vr c0 a2)) (l3 : lo.lookup 3 = some (vi x3)) (l4 : lo.lookup 4 = some (vi x4)) {σ : gb_S}, gb_G (fx_101_21 k x1 a2 x3 x4 σ) 6 7 (some .int) (fun _ _ => none) gk_101 c0 eI 21 lo [] σ := by
  induction k with
  | zero => intros; exact gg_n
  | succ k ih =>
    intro x1 a2 x3 x4 h2 lo l0 l1 l2 l3 l4 σ
    rw [fx_101_21]
    refine gg_il 23 4 rfl rfl l4 ?_
    refine gg_al 24 0 rfl rfl l0 ?_
    refine gg_gr 27 6 rfl rfl rfl gcl_1 rfl ?_
    refine gg_gi 30 rfl rfl rfl gcl_6 rfl ?_
    refine gg_q (fun q1 => ?_)
    refine gg_q (fun q2 => ?_)
    refine gg_ige 76 33 rfl rfl rfl rfl q1 q2 ?_ ?_
    · refine gg_il 77 3 rfl rfl l3 ?_
      exact gg_ir rfl
    · refine gg_al 34 0 rfl rfl l0 ?_
      refine gg_gr 37 6 rfl rfl rfl gcl_1 rfl ?_
      refine gg_il 39 4 rfl rfl l4 ?_
      refine gg_cI 42 rfl (gm_66 _) (Nat.le_of_ble_eq_true rfl) (gb_vs rfl rfl rfl rfl rfl gcl_6 rfl rfl rfl) rfl (fun _ => rfl) (fun _ => rfl) (fun r3 s4 => ?_)
      refine gg_s 44 rfl rfl ?_
      refine gg_il 46 5 rfl rfl gs1 ?_
      refine gg_q (fun q5 => ?_)
      refine gg_zle 70 49 rfl rfl rfl rfl q5 ?_ ?_
      · refine gg_inc 73 rfl rfl (gl1 rfl rfl l4) ?_
        refine gg_go 21 rfl rfl rfl ?_
        exact ih x1 a2 x3 (x4 + 1) h2 (gl1 rfl rfl (gl1 rfl rfl l0)) (gl1 rfl rfl (gl1 rfl rfl l1)) (gl1 rfl rfl (gl1 rfl rfl l2)) (gl1 rfl rfl (gl1 rfl rfl l3)) gs1
      · refine gg_al 50 0 rfl rfl (gl1 rfl rfl l0) ?_
        refine gg_al 51 0 rfl rfl (gl1 rfl rfl l0) ?_
        refine gg_gr 54 25 rfl rfl rfl gcl_1 rfl ?_
        refine gg_il 55 1 rfl rfl (gl1 rfl rfl l1) ?_
        refine gg_q (fun q6 => ?_)
        refine gg_aal 56 rfl rfl q6 ?_
        refine gg_al 57 2 rfl rfl (gl1 rfl rfl l2) ?_
        refine gg_il 59 4 rfl rfl (gl1 rfl rfl l4) ?_
        refine gg_cI 62 rfl (gm_120 _ _ _ (ges_at q6) h2) (Nat.le_of_ble_eq_true rfl) (gb_vs rfl rfl rfl rfl rfl gcl_1 rfl rfl rfl) rfl (fun _ => rfl) (fun _ => rfl) (fun r7 s8 => ?_)
        refine gg_q (fun q9 => ?_)
        refine gg_zeq 70 65 rfl rfl rfl rfl q9 ?_ ?_
        · refine gg_inc 73 rfl rfl (gl1 rfl rfl l4) ?_
          refine gg_go 21 rfl rfl rfl ?_
          exact ih x1 a2 x3 (x4 + 1) h2 (gl1 rfl rfl (gl1 rfl rfl l0)) (gl1 rfl rfl (gl1 rfl rfl l1)) (gl1 rfl rfl (gl1 rfl rfl l2)) (gl1 rfl rfl (gl1 rfl rfl l3)) gs1
        · refine gg_il 66 3 rfl rfl (gl1 rfl rfl l3) ?_
          refine gg_il 68 5 rfl rfl gs1 ?_
          refine gg_add 69 rfl rfl ?_
          refine gg_s 70 rfl rfl ?_
          refine gg_inc 73 rfl rfl (gl1 rfl rfl (gl1 rfl rfl l4)) ?_
          refine gg_go 21 rfl rfl rfl ?_
          exact ih x1 a2 (x3 + r3) (x4 + 1) h2 (gl1 rfl rfl (gl1 rfl rfl (gl1 rfl rfl l0))) (gl1 rfl rfl (gl1 rfl rfl (gl1 rfl rfl l1))) (gl1 rfl rfl (gl1 rfl rfl (gl1 rfl rfl l2))) (gl1 rfl rfl gs1) gs1
theorem gm_101 (x1 : Int) {σ : gb_S} : gb_M (fx_101 x1 σ) 7 c0 eI 101 [vr c0 1, vi x1] σ := by
  rw [fx_101]
  refine gg_m (own := 7) (rt := (some .int)) (hnd := fun _ _ => none) (K := gk_101) (δ := 6) rfl rfl ?_
  refine gg_al 1 0 rfl rfl rfl ?_
  refine gg_il 2 1 rfl rfl rfl ?_
  refine gg_cV 5 rfl (gm_110 _) (Nat.le_of_ble_eq_true rfl) (gb_vs rfl rfl rfl rfl rfl gcl_1 rfl rfl rfl) rfl (fun _ => rfl) (fun _ => rfl) (fun s2 => ?_)
  refine gg_al 6 0 rfl rfl rfl ?_
  refine gg_il 7 1 rfl rfl rfl ?_
  refine gg_cV 10 rfl (gm_117 _) (Nat.le_of_ble_eq_true rfl) (gb_vs rfl rfl rfl rfl rfl gcl_1 rfl rfl rfl) rfl (fun _ => rfl) (fun _ => rfl) (fun s4 => ?_)
  refine gg_al 11 0 rfl rfl rfl ?_
  refine gg_il 12 1 rfl rfl rfl ?_
  refine gg_cA 15 rfl (gm_119 _) (Nat.le_of_ble_eq_true rfl) (gb_vs rfl rfl rfl rfl rfl gcl_1 rfl rfl rfl) rfl (fun _ => rfl) (fun _ => rfl) (fun r5 s6 => ?_)
  refine gg_q (fun qar5 => ?_)
  refine gg_s 16 rfl rfl ?_
  refine gg_ci 17 0 rfl rfl ?_
  refine gg_s 18 rfl rfl ?_
  refine gg_ci 19 0 rfl rfl ?_
  refine gg_s 21 rfl rfl ?_
  exact gt_101_21 gFU x1 r5.toNat 0 0 qar5 (gl1 rfl rfl (gl1 rfl rfl (gl1 rfl rfl rfl))) (gl1 rfl rfl (gl1 rfl rfl (gl1 rfl rfl rfl))) (gl1 rfl rfl (gl1 rfl rfl gs1)) (gl1 rfl rfl gs1) gs1
theorem gm_102 (x1 : Int) {σ : gb_S} : gb_M (fx_102 x1 σ) 2 c0 eI 102 [vr c0 1, vi x1] σ := by
  rw [fx_102]
  refine gg_m (own := 7) (rt := (some .int)) (hnd := fun _ _ => none) (K := gk_102) (δ := 1) rfl rfl ?_
  refine gg_al 1 0 rfl rfl rfl ?_
  refine gg_il 2 1 rfl rfl rfl ?_
  refine gg_cV 5 rfl (gm_110 _) (Nat.le_of_ble_eq_true rfl) (gb_vs rfl rfl rfl rfl rfl gcl_1 rfl rfl rfl) rfl (fun _ => rfl) (fun _ => rfl) (fun s2 => ?_)
  refine gg_al 6 0 rfl rfl rfl ?_
  refine gg_gr 9 25 rfl rfl rfl gcl_1 rfl ?_
  refine gg_il 10 1 rfl rfl rfl ?_
  refine gg_q (fun q3 => ?_)
  refine gg_aal 11 rfl rfl q3 ?_
  refine gg_gi 14 rfl rfl rfl (ges0 (ges_at q3)) rfl ?_
  exact gg_ir rfl
theorem gm_115 (x1 : Int) (x2 : Int) {σ : gb_S} : gb_M (fx_115 x1 x2 σ) 1 c0 eV 115 [vr c0 1, vi x1, vi x2] σ := by
  rw [fx_115]
  refine gg_m (own := 7) (rt := none) (hnd := fun _ _ => none) (K := gk_115) (δ := 0) rfl rfl ?_
  refine gg_il 1 1 rfl rfl rfl ?_
  refine gg_q (fun q1 => ?_)
  refine gg_zlt 21 4 rfl rfl rfl rfl q1 ?_ ?_
  · exact gg_th rfl rfl rfl
  · refine gg_il 5 1 rfl rfl rfl ?_
    refine gg_ci 7 60 rfl rfl ?_
    refine gg_ige 21 10 rfl rfl rfl rfl q1 (gRl rfl) ?_ ?_
    · exact gg_th rfl rfl rfl
    · refine gg_il 11 2 rfl rfl rfl ?_
      refine gg_il 12 1 rfl rfl rfl ?_
      refine gg_q (fun q2 => ?_)
      refine gg_ile 21 15 rfl rfl rfl rfl q2 q1 ?_ ?_
      · exact gg_th rfl rfl rfl
      · refine gg_il 16 2 rfl rfl rfl ?_
        refine gg_ci 18 60 rfl rfl ?_
        refine gg_ile 32 21 rfl rfl rfl rfl q2 (gRl rfl) ?_ ?_
        · exact gg_vr rfl
        · exact gg_th rfl rfl rfl
theorem gm_103 (x1 : Int) (x2 : Int) (x3 : Int) {σ : gb_S} : gb_M (fx_103 x1 x2 x3 σ) 4 c0 eI 103 [vr c0 1, vi x1, vi x2, vi x3] σ := by
  rw [fx_103]
  refine gg_m (own := 7) (rt := (some .int)) (hnd := fun _ _ => none) (K := gk_103) (δ := 3) rfl rfl ?_
  refine gg_al 1 0 rfl rfl rfl ?_
  refine gg_il 2 1 rfl rfl rfl ?_
  refine gg_cV 5 rfl (gm_110 _) (Nat.le_of_ble_eq_true rfl) (gb_vs rfl rfl rfl rfl rfl gcl_1 rfl rfl rfl) rfl (fun _ => rfl) (fun _ => rfl) (fun s2 => ?_)
  refine gg_al 6 0 rfl rfl rfl ?_
  refine gg_il 7 2 rfl rfl rfl ?_
  refine gg_il 8 3 rfl rfl rfl ?_
  refine gg_cV 11 rfl (gm_115 _ _) (Nat.le_of_ble_eq_true rfl) (gb_vs rfl rfl rfl rfl rfl gcl_1 rfl rfl rfl) rfl (fun _ => rfl) (fun _ => rfl) (fun s4 => ?_)
  refine gg_al 12 0 rfl rfl rfl ?_
  refine gg_il 13 1 rfl rfl rfl ?_
  refine gg_cV 16 rfl (gm_116 _) (Nat.le_of_ble_eq_true rfl) (gb_vs rfl rfl rfl rfl rfl gcl_1 rfl rfl rfl) rfl (fun _ => rfl) (fun _ => rfl) (fun s6 => ?_)
  refine gg_al 17 0 rfl rfl rfl ?_
  refine gg_gr 20 30 rfl rfl rfl gcl_1 rfl ?_
  refine gg_il 21 2 rfl rfl rfl ?_
  refine gg_il 22 3 rfl rfl rfl ?_
  refine gg_cI 25 rfl (gm_41 _ _) (Nat.le_of_ble_eq_true rfl) (gb_vs rfl rfl rfl rfl rfl gcl_30 rfl rfl rfl) rfl (fun _ => rfl) (fun _ => rfl) (fun r7 s8 => ?_)
  refine gg_q (fun q9 => ?_)
  refine gg_zeq 39 28 rfl rfl rfl rfl q9 ?_ ?_
  · refine gg_al 40 0 rfl rfl rfl ?_
    refine gg_gr 43 30 rfl rfl rfl gcl_1 rfl ?_
    refine gg_il 44 1 rfl rfl rfl ?_
    refine gg_il 45 2 rfl rfl rfl ?_
    refine gg_il 46 3 rfl rfl rfl ?_
    refine gg_cV 49 rfl (gm_45 _ _ _) (Nat.le_of_ble_eq_true rfl) (gb_vs rfl rfl rfl rfl rfl gcl_30 rfl rfl rfl) rfl (fun _ => rfl) (fun _ => rfl) (fun s11 => ?_)
    refine gg_il 50 3 rfl rfl rfl ?_
    refine gg_il 51 2 rfl rfl rfl ?_
    refine gg_sub 52 rfl rfl ?_
    exact gg_ir rfl
  · exact gg_th rfl rfl rfl
theorem gm_104 (x1 : Int) (x2 : Int) (x3 : Int) (x4 : Int) {σ : gb_S} : gb_M (fx_104 x1 x2 x3 x4 σ) 4 c0 eI 104 [vr c0 1, vi x1, vi x2, vi x3, vi x4] σ := by
  rw [fx_104]
  refine gg_m (own := 7) (rt := (some .int)) (hnd := fun _ _ => none) (K := gk_104) (δ := 3) rfl rfl ?_
  refine gg_al 1 0 rfl rfl rfl ?_
  refine gg_il 2 1 rfl rfl rfl ?_
  refine gg_cV 5 rfl (gm_110 _) (Nat.le_of_ble_eq_true rfl) (gb_vs rfl rfl rfl rfl rfl gcl_1 rfl rfl rfl) rfl (fun _ => rfl) (fun _ => rfl) (fun s2 => ?_)
  refine gg_al 6 0 rfl rfl rfl ?_
  refine gg_il 7 2 rfl rfl rfl ?_
  refine gg_cV 10 rfl (gm_110 _) (Nat.le_of_ble_eq_true rfl) (gb_vs rfl rfl rfl rfl rfl gcl_1 rfl rfl rfl) rfl (fun _ => rfl) (fun _ => rfl) (fun s4 => ?_)
  refine gg_al 11 0 rfl rfl rfl ?_
  refine gg_il 12 1 rfl rfl rfl ?_
  refine gg_il 13 2 rfl rfl rfl ?_
  refine gg_cV 16 rfl (gm_114 _ _) (Nat.le_of_ble_eq_true rfl) (gb_vs rfl rfl rfl rfl rfl gcl_1 rfl rfl rfl) rfl (fun _ => rfl) (fun _ => rfl) (fun s6 => ?_)
  refine gg_al 17 0 rfl rfl rfl ?_
  refine gg_il 18 3 rfl rfl rfl ?_
  refine gg_il 20 4 rfl rfl rfl ?_
  refine gg_cV 23 rfl (gm_115 _ _) (Nat.le_of_ble_eq_true rfl) (gb_vs rfl rfl rfl rfl rfl gcl_1 rfl rfl rfl) rfl (fun _ => rfl) (fun _ => rfl) (fun s8 => ?_)
  refine gg_al 24 0 rfl rfl rfl ?_
  refine gg_il 25 1 rfl rfl rfl ?_
  refine gg_cV 28 rfl (gm_116 _) (Nat.le_of_ble_eq_true rfl) (gb_vs rfl rfl rfl rfl rfl gcl_1 rfl rfl rfl) rfl (fun _ => rfl) (fun _ => rfl) (fun s10 => ?_)
  refine gg_al 29 0 rfl rfl rfl ?_
  refine gg_il 30 2 rfl rfl rfl ?_
  refine gg_cV 33 rfl (gm_116 _) (Nat.le_of_ble_eq_true rfl) (gb_vs rfl rfl rfl rfl rfl gcl_1 rfl rfl rfl) rfl (fun _ => rfl) (fun _ => rfl) (fun s12 => ?_)
  refine gg_al 34 0 rfl rfl rfl ?_
  refine gg_gr 37 30 rfl rfl rfl gcl_1 rfl ?_
  refine gg_il 38 1 rfl rfl rfl ?_
  refine gg_il 39 3 rfl rfl rfl ?_
  refine gg_il 41 4 rfl rfl rfl ?_
  refine gg_cI 44 rfl (gm_42 _ _ _) (Nat.le_of_ble_eq_true rfl) (gb_vs rfl rfl rfl rfl rfl gcl_30 rfl rfl rfl) rfl (fun _ => rfl) (fun _ => rfl) (fun r13 s14 => ?_)
  refine gg_s 46 rfl rfl ?_
  refine gg_il 48 5 rfl rfl gs1 ?_
  refine gg_q (fun q15 => ?_)
  refine gg_zne 62 51 rfl rfl rfl rfl q15 ?_ ?_
  · refine gg_al 63 0 rfl rfl (gl1 rfl rfl rfl) ?_
    refine gg_gr 66 30 rfl rfl rfl gcl_1 rfl ?_
    refine gg_gi 69 rfl rfl rfl gcl_30 rfl ?_
    refine gg_ci 71 60 rfl rfl ?_
    refine gg_q (fun q16 => ?_)
    refine gg_ilt 85 74 rfl rfl rfl rfl q16 (gRl rfl) ?_ ?_
    · refine gg_al 86 0 rfl rfl (gl1 rfl rfl rfl) ?_
      refine gg_gr 89 30 rfl rfl rfl gcl_1 rfl ?_
      refine gg_il 90 1 rfl rfl (gl1 rfl rfl rfl) ?_
      refine gg_il 91 2 rfl rfl (gl1 rfl rfl rfl) ?_
      refine gg_il 92 3 rfl rfl (gl1 rfl rfl rfl) ?_
      refine gg_il 94 4 rfl rfl (gl1 rfl rfl rfl) ?_
      refine gg_cV 97 rfl (gm_46 _ _ _ _) (Nat.le_of_ble_eq_true rfl) (gb_vs rfl rfl rfl rfl rfl gcl_30 rfl rfl rfl) rfl (fun _ => rfl) (fun _ => rfl) (fun s18 => ?_)
      refine gg_il 99 5 rfl rfl gs1 ?_
      exact gg_ir rfl
    · exact gg_th rfl rfl rfl
  · exact gg_th rfl rfl rfl
theorem gm_112 (x1 : Int) {σ : gb_S} : gb_M (fx_112 x1 σ) 1 c0 eV 112 [vr c0 1, vi x1] σ := by
  rw [fx_112]
  refine gg_m (own := 7) (rt := none) (hnd := fun _ _ => none) (K := gk_112) (δ := 0) rfl rfl ?_
  refine gg_il 1 1 rfl rfl rfl ?_
  refine gg_q (fun q1 => ?_)
  refine gg_zlt 10 4 rfl rfl rfl rfl q1 ?_ ?_
  · exact gg_th rfl rfl rfl
  · refine gg_il 5 1 rfl rfl rfl ?_
    refine gg_ci 7 60 rfl rfl ?_
    refine gg_ilt 21 10 rfl rfl rfl rfl q1 (gRl rfl) ?_ ?_
    · exact gg_vr rfl
    · exact gg_th rfl rfl rfl
theorem gm_105 (x1 : Int) {σ : gb_S} : gb_M (fx_105 x1 σ) 2 c0 eI 105 [vr c0 1, vi x1] σ := by
  rw [fx_105]
  refine gg_m (own := 7) (rt := (some .int)) (hnd := fun _ _ => none) (K := gk_105) (δ := 1) rfl rfl ?_
  refine gg_al 1 0 rfl rfl rfl ?_
  refine gg_il 2 1 rfl rfl rfl ?_
  refine gg_cV 5 rfl (gm_112 _) (Nat.le_of_ble_eq_true rfl) (gb_vs rfl rfl rfl rfl rfl gcl_1 rfl rfl rfl) rfl (fun _ => rfl) (fun _ => rfl) (fun s2 => ?_)
  refine gg_al 6 0 rfl rfl rfl ?_
  refine gg_gr 9 30 rfl rfl rfl gcl_1 rfl ?_
  refine gg_il 10 1 rfl rfl rfl ?_
  refine gg_cI 13 rfl (gm_40 _) (Nat.le_of_ble_eq_true rfl) (gb_vs rfl rfl rfl rfl rfl gcl_30 rfl rfl rfl) rfl (fun _ => rfl) (fun _ => rfl) (fun r3 s4 => ?_)
  exact gg_ir rfl
theorem gt_106_7 (k : Nat) : ∀ (x1 : Int) (x2 : Int) {lo : gh_L} (l0 : lo.lookup 0 = some (vr c0 1)) (l1 : lo.lookup 1 = some (vi x1)) (l2 : lo.lookup 2 = some (vi x2)) {σ : gb_S}, gb_G (fx_106_7 k x1 x2 σ) 61 7 (some .int) (fun _ _ => none) gk_106 c0 eI 7 lo [] σ := by
  induction k with
  | zero => intros; exact gg_n
  | succ k ih =>
    intro x1 x2 lo l0 l1 l2 σ
    rw [fx_106_7]
    refine gg_il 8 2 rfl rfl l2 ?_
    refine gg_ci 10 14 rfl rfl ?_
    refine gg_q (fun q1 => ?_)
    refine gg_ige 61 13 rfl rfl rfl rfl q1 (gRl rfl) ?_ ?_
    · refine gg_al 62 0 rfl rfl l0 ?_
      refine gg_gr 65 30 rfl rfl rfl gcl_1 rfl ?_
      refine gg_il 66 1 rfl rfl l1 ?_
      refine gg_al 67 0 rfl rfl l0 ?_
      refine gg_gr 70 25 rfl rfl rfl gcl_1 rfl ?_
      refine gg_cI 73 rfl (gm_50 _) (Nat.le_of_ble_eq_true rfl) (gb_vs rfl rfl rfl rfl rfl gcl_30 rfl rfl rfl) rfl (fun _ => rfl) (fun _ => rfl) (fun r2 s3 => ?_)
      exact gg_ir rfl
    · refine gg_al 14 0 rfl rfl l0 ?_
      refine gg_gr 17 25 rfl rfl rfl gcl_1 rfl ?_
      refine gg_il 18 2 rfl rfl l2 ?_
      refine gg_q (fun q4 => ?_)
      refine gg_aal 19 rfl rfl q4 ?_
      refine gg_gi 22 rfl rfl rfl (ges0 (ges_at q4)) rfl ?_
      refine gg_q (fun q5 => ?_)
      refine gg_zeq 55 25 rfl rfl rfl rfl q5 ?_ ?_
      · refine gg_inc 58 rfl rfl l2 ?_
        refine gg_go 7 rfl rfl rfl ?_
        exact ih x1 (x2 + 1) (gl1 rfl rfl l0) (gl1 rfl rfl l1) gs1
      · refine gg_al 26 0 rfl rfl l0 ?_
        refine gg_gr 29 26 rfl rfl rfl gcl_1 rfl ?_
        refine gg_al 30 0 rfl rfl l0 ?_
        refine gg_gr 33 2 rfl rfl rfl gcl_1 rfl ?_
        refine gg_al 34 0 rfl rfl l0 ?_
        refine gg_gr 37 15 rfl rfl rfl gcl_1 rfl ?_
        refine gg_al 38 0 rfl rfl l0 ?_
        refine gg_gr 41 25 rfl rfl rfl gcl_1 rfl ?_
        refine gg_il 42 2 rfl rfl l2 ?_
        refine gg_aal 43 rfl rfl q4 ?_
        refine gg_al 44 0 rfl rfl l0 ?_
        refine gg_gr 47 25 rfl rfl rfl gcl_1 rfl ?_
        refine gg_il 48 2 rfl rfl l2 ?_
        refine gg_aal 49 rfl rfl q4 ?_
        refine gg_gr 52 ((47 + 10 * x2.toNat) + 6) rfl rfl rfl (ges0 (ges_at q4)) rfl ?_
        refine gg_cV 55 rfl (gm_3 _ _ _ (rfl : gb_kd 15 = 3) (ges_at q4) (ges6 (ges_at q4))) (Nat.le_of_ble_eq_true rfl) (gb_vs rfl rfl rfl rfl rfl gcl_26 rfl rfl rfl) rfl (fun _ => rfl) (fun _ => rfl) (fun s7 => ?_)
        refine gg_inc 58 rfl rfl l2 ?_
        refine gg_go 7 rfl rfl rfl ?_
        exact ih x1 (x2 + 1) (gl1 rfl rfl l0) (gl1 rfl rfl l1) gs1
theorem gm_106 (x1 : Int) {σ : gb_S} : gb_M (fx_106 x1 σ) 62 c0 eI 106 [vr c0 1, vi x1] σ := by
  rw [fx_106]
  refine gg_m (own := 7) (rt := (some .int)) (hnd := fun _ _ => none) (K := gk_106) (δ := 61) rfl rfl ?_
  refine gg_al 1 0 rfl rfl rfl ?_
  refine gg_il 2 1 rfl rfl rfl ?_
  refine gg_cV 5 rfl (gm_112 _) (Nat.le_of_ble_eq_true rfl) (gb_vs rfl rfl rfl rfl rfl gcl_1 rfl rfl rfl) rfl (fun _ => rfl) (fun _ => rfl) (fun s2 => ?_)
  refine gg_ci 6 0 rfl rfl ?_
  refine gg_s 7 rfl rfl ?_
  exact gt_106_7 gFU x1 0 (gl1 rfl rfl rfl) (gl1 rfl rfl rfl) gs1
theorem gm_107 (x1 : Int) {σ : gb_S} : gb_M (fx_107 x1 σ) 3 c0 eI 107 [vr c0 1, vi x1] σ := by
  rw [fx_107]
  refine gg_m (own := 7) (rt := (some .int)) (hnd := fun _ _ => none) (K := gk_107) (δ := 2) rfl rfl ?_
  refine gg_al 1 0 rfl rfl rfl ?_
  refine gg_il 2 1 rfl rfl rfl ?_
  refine gg_cV 5 rfl (gm_110 _) (Nat.le_of_ble_eq_true rfl) (gb_vs rfl rfl rfl rfl rfl gcl_1 rfl rfl rfl) rfl (fun _ => rfl) (fun _ => rfl) (fun s2 => ?_)
  refine gg_al 6 0 rfl rfl rfl ?_
  refine gg_gr 9 30 rfl rfl rfl gcl_1 rfl ?_
  refine gg_il 10 1 rfl rfl rfl ?_
  refine gg_ci 11 0 rfl rfl ?_
  refine gg_ci 13 60 rfl rfl ?_
  refine gg_cI 16 rfl (gm_42 _ _ _) (Nat.le_of_ble_eq_true rfl) (gb_vs rfl rfl rfl rfl rfl gcl_30 rfl rfl rfl) rfl (fun _ => rfl) (fun _ => rfl) (fun r3 s4 => ?_)
  exact gg_ir rfl
theorem gt_108_4 (k : Nat) : ∀ (x1 : Int) (x2 : Int) {lo : gh_L} (l0 : lo.lookup 0 = some (vr c0 1)) (l1 : lo.lookup 1 = some (vi x1)) (l2 : lo.lookup 2 = some (vi x2)) {σ : gb_S}, gb_G (fx_108_4 k x1 x2 σ) 2 7 (some .int) (fun _ _ => none) gk_108 c0 eI 4 lo [] σ := by
  induction k with
  | zero => intros; exact gg_n
  | succ k ih =>
    intro x1 x2 lo l0 l1 l2 σ
    rw [fx_108_4]
    refine gg_il 5 2 rfl rfl l2 ?_
    refine gg_ci 7 60 rfl rfl ?_
    refine gg_q (fun q1 => ?_)
    refine gg_ige 43 10 rfl rfl rfl rfl q1 (gRl rfl) ?_ ?_
    · refine gg_il 44 1 rfl rfl l1 ?_
      exact gg_ir rfl
    · refine gg_al 11 0 rfl rfl l0 ?_
      refine gg_gr 14 30 rfl rfl rfl gcl_1 rfl ?_
      refine gg_il 15 2 rfl rfl l2 ?_
      refine gg_cI 18 rfl (gm_40 _) (Nat.le_of_ble_eq_true rfl) (gb_vs rfl rfl rfl rfl rfl gcl_30 rfl rfl rfl) rfl (fun _ => rfl) (fun _ => rfl) (fun r2 s3 => ?_)
      refine gg_ci 19 (-1) rfl rfl ?_
      refine gg_q (fun q4 => ?_)
      refine gg_ieq 37 22 rfl rfl rfl rfl q4 (gRl rfl) ?_ ?_
      · refine gg_inc 40 rfl rfl l2 ?_
        refine gg_go 4 rfl rfl rfl ?_
        exact ih x1 (x2 + 1) (gl1 rfl rfl l0) (gl1 rfl rfl l1) gs1
      · refine gg_al 23 0 rfl rfl l0 ?_
        refine gg_gr 26 30 rfl rfl rfl gcl_1 rfl ?_
        refine gg_il 27 2 rfl rfl l2 ?_
        refine gg_cI 30 rfl (gm_43 _) (Nat.le_of_ble_eq_true rfl) (gb_vs rfl rfl rfl rfl rfl gcl_30 rfl rfl rfl) rfl (fun _ => rfl) (fun _ => rfl) (fun r5 s6 => ?_)
        refine gg_il 31 2 rfl rfl l2 ?_
        refine gg_q (fun q7 => ?_)
        refine gg_ine 37 34 rfl rfl rfl rfl q7 q1 ?_ ?_
        · refine gg_inc 40 rfl rfl l2 ?_
          refine gg_go 4 rfl rfl rfl ?_
          exact ih x1 (x2 + 1) (gl1 rfl rfl l0) (gl1 rfl rfl l1) gs1
        · refine gg_inc 37 rfl rfl l1 ?_
          refine gg_inc 40 rfl rfl (gl1 rfl rfl l2) ?_
          refine gg_go 4 rfl rfl rfl ?_
          exact ih (x1 + 1) (x2 + 1) (gl1 rfl rfl (gl1 rfl rfl l0)) (gl1 rfl rfl gs1) gs1
theorem gm_108 {σ : gb_S} : gb_M (fx_108 σ) 3 c0 eI 108 [vr c0 1] σ := by
  rw [fx_108]
  refine gg_m (own := 7) (rt := (some .int)) (hnd := fun _ _ => none) (K := gk_108) (δ := 2) rfl rfl ?_
  refine gg_ci 1 0 rfl rfl ?_
  refine gg_s 2 rfl rfl ?_
  refine gg_ci 3 0 rfl rfl ?_
  refine gg_s 4 rfl rfl ?_
  exact gt_108_4 gFU 0 0 (gl1 rfl rfl (gl1 rfl rfl rfl)) (gl1 rfl rfl gs1) gs1
theorem gm_109 (x1 : Int) {σ : gb_S} : gb_M (fx_109 x1 σ) 3 c0 eI 109 [vr c0 1, vi x1] σ := by
  rw [fx_109]
  refine gg_m (own := 7) (rt := (some .int)) (hnd := fun _ _ => none) (K := gk_109) (δ := 2) rfl rfl ?_
  refine gg_al 1 0 rfl rfl rfl ?_
  refine gg_il 2 1 rfl rfl rfl ?_
  refine gg_cV 5 rfl (gm_112 _) (Nat.le_of_ble_eq_true rfl) (gb_vs rfl rfl rfl rfl rfl gcl_1 rfl rfl rfl) rfl (fun _ => rfl) (fun _ => rfl) (fun s2 => ?_)
  refine gg_al 6 0 rfl rfl rfl ?_
  refine gg_gr 9 30 rfl rfl rfl gcl_1 rfl ?_
  refine gg_il 10 1 rfl rfl rfl ?_
  refine gg_cI 13 rfl (gm_40 _) (Nat.le_of_ble_eq_true rfl) (gb_vs rfl rfl rfl rfl rfl gcl_30 rfl rfl rfl) rfl (fun _ => rfl) (fun _ => rfl) (fun r3 s4 => ?_)
  refine gg_ci 14 (-1) rfl rfl ?_
  refine gg_q (fun q5 => ?_)
  refine gg_ine 28 17 rfl rfl rfl rfl q5 (gRl rfl) ?_ ?_
  · refine gg_al 29 0 rfl rfl rfl ?_
    refine gg_gr 32 30 rfl rfl rfl gcl_1 rfl ?_
    refine gg_il 33 1 rfl rfl rfl ?_
    refine gg_cI 36 rfl (gm_43 _) (Nat.le_of_ble_eq_true rfl) (gb_vs rfl rfl rfl rfl rfl gcl_30 rfl rfl rfl) rfl (fun _ => rfl) (fun _ => rfl) (fun r6 s7 => ?_)
    refine gg_s 37 rfl rfl ?_
    refine gg_ci 39 100 rfl rfl ?_
    refine gg_il 40 2 rfl rfl gs1 ?_
    refine gg_mul 41 rfl rfl ?_
    refine gg_al 42 0 rfl rfl (gl1 rfl rfl rfl) ?_
    refine gg_gr 45 30 rfl rfl rfl gcl_1 rfl ?_
    refine gg_il 46 1 rfl rfl (gl1 rfl rfl rfl) ?_
    refine gg_cI 49 rfl (gm_44 _) (Nat.le_of_ble_eq_true rfl) (gb_vs rfl rfl rfl rfl rfl gcl_30 rfl rfl rfl) rfl (fun _ => rfl) (fun _ => rfl) (fun r8 s9 => ?_)
    refine gg_add 50 rfl rfl ?_
    refine gg_il 51 2 rfl rfl gs1 ?_
    refine gg_sub 52 rfl rfl ?_
    exact gg_ir rfl
  · exact gg_th rfl rfl rfl
/-- TreeclerkLaw.act -/
def fy_128 (x1 : Int) (x2 : Int) (σ : gb_S) : Option gb_P :=
  gq (gR x1) (
  (if x1 = 0 then
    (gch (fx_79 x2 σ) (fun r8 s9 =>
      some (.inl r8, s9)) (fun E s => if E = 0 then some (.inl (-8), s) else if E = 1 then some (.inl (-8), s) else if E = 2 then some (.inl (-8), s) else some (.inr E, s)))
  else
    (if x1 = 1 then
      (gch (fx_81 x2 σ) (fun r6 s7 =>
        some (.inl r6, s7)) (fun E s => if E = 0 then some (.inl (-8), s) else if E = 1 then some (.inl (-8), s) else if E = 2 then some (.inl (-8), s) else some (.inr E, s)))
    else
      (if x1 = 2 then
        (gch (fx_82 x2 σ) (fun r4 s5 =>
          some (.inl r4, s5)) (fun E s => if E = 0 then some (.inl (-8), s) else if E = 1 then some (.inl (-8), s) else if E = 2 then some (.inl (-8), s) else some (.inr E, s)))
      else
        (gch (fx_95 x2 σ) (fun r2 s3 =>
          some (.inl r2, s3)) (fun E s => if E = 0 then some (.inl (-8), s) else if E = 1 then some (.inl (-8), s) else if E = 2 then some (.inl (-8), s) else some (.inr E, s)))))))
theorem gm_128 (x1 : Int) (x2 : Int) {σ : gb_S} : gb_M (fy_128 x1 x2 σ) 8 c0 eI 128 [vr c0 1, vi x1, vi x2] σ := by
  rw [fy_128]
  refine gg_m (own := 9) (rt := (some .int)) (hnd := fun pc E => if ([6, 19, 32, 40] : List Nat).contains pc = true then [(0, 45, 3), (1, 49, 3), (2, 53, 3)].lookup E else none) (K := gk_128) (δ := 7) rfl rfl ?_
  refine gg_il 1 1 rfl rfl rfl ?_
  refine gg_q (fun q1 => ?_)
  refine gg_zne 12 4 rfl rfl rfl rfl q1 ?_ ?_
  · refine gg_il 13 1 rfl rfl rfl ?_
    refine gg_ci 14 1 rfl rfl ?_
    refine gg_ine 25 17 rfl rfl rfl rfl q1 (gRl rfl) ?_ ?_
    · refine gg_il 26 1 rfl rfl rfl ?_
      refine gg_ci 27 2 rfl rfl ?_
      refine gg_ine 38 30 rfl rfl rfl rfl q1 (gRl rfl) ?_ ?_
      · refine gg_al 39 0 rfl rfl rfl ?_
        refine gg_il 40 2 rfl rfl rfl ?_
        refine gg_chI 43 rfl (gm_95 _) (Nat.le_of_ble_eq_true rfl) (gb_vs rfl rfl rfl rfl rfl gcl_1 rfl rfl rfl) rfl (fun _ => rfl) (fun r2 s3 => ?_) (fun E s => ?_)
        · exact gg_ir rfl
        · match E with
          | 0 =>
            show gb_G _ _ _ _ _ _ _ _ _ _ _ _
            refine gg_ci 47 (-8) rfl rfl ?_
            exact gg_ir rfl
          | 1 =>
            show gb_G _ _ _ _ _ _ _ _ _ _ _ _
            refine gg_ci 51 (-8) rfl rfl ?_
            exact gg_ir rfl
          | 2 =>
            show gb_G _ _ _ _ _ _ _ _ _ _ _ _
            refine gg_ci 55 (-8) rfl rfl ?_
            exact gg_ir rfl
          | E + 3 => exact rfl
      · refine gg_al 31 0 rfl rfl rfl ?_
        refine gg_il 32 2 rfl rfl rfl ?_
        refine gg_chI 35 rfl (gm_82 _) (Nat.le_of_ble_eq_true rfl) (gb_vs rfl rfl rfl rfl rfl gcl_1 rfl rfl rfl) rfl (fun _ => rfl) (fun r4 s5 => ?_) (fun E s => ?_)
        · refine gg_go 43 rfl rfl rfl ?_
          exact gg_ir rfl
        · match E with
          | 0 =>
            show gb_G _ _ _ _ _ _ _ _ _ _ _ _
            refine gg_ci 47 (-8) rfl rfl ?_
            exact gg_ir rfl
          | 1 =>
            show gb_G _ _ _ _ _ _ _ _ _ _ _ _
            refine gg_ci 51 (-8) rfl rfl ?_
            exact gg_ir rfl
          | 2 =>
            show gb_G _ _ _ _ _ _ _ _ _ _ _ _
            refine gg_ci 55 (-8) rfl rfl ?_
            exact gg_ir rfl
          | E + 3 => exact rfl
    · refine gg_al 18 0 rfl rfl rfl ?_
      refine gg_il 19 2 rfl rfl rfl ?_
      refine gg_chI 22 rfl (gm_81 _) (Nat.le_of_ble_eq_true rfl) (gb_vs rfl rfl rfl rfl rfl gcl_1 rfl rfl rfl) rfl (fun _ => rfl) (fun r6 s7 => ?_) (fun E s => ?_)
      · refine gg_go 43 rfl rfl rfl ?_
        exact gg_ir rfl
      · match E with
        | 0 =>
          show gb_G _ _ _ _ _ _ _ _ _ _ _ _
          refine gg_ci 47 (-8) rfl rfl ?_
          exact gg_ir rfl
        | 1 =>
          show gb_G _ _ _ _ _ _ _ _ _ _ _ _
          refine gg_ci 51 (-8) rfl rfl ?_
          exact gg_ir rfl
        | 2 =>
          show gb_G _ _ _ _ _ _ _ _ _ _ _ _
          refine gg_ci 55 (-8) rfl rfl ?_
          exact gg_ir rfl
        | E + 3 => exact rfl
  · refine gg_al 5 0 rfl rfl rfl ?_
    refine gg_il 6 2 rfl rfl rfl ?_
    refine gg_chI 9 rfl (gm_79 _) (Nat.le_of_ble_eq_true rfl) (gb_vs rfl rfl rfl rfl rfl gcl_1 rfl rfl rfl) rfl (fun _ => rfl) (fun r8 s9 => ?_) (fun E s => ?_)
    · refine gg_go 43 rfl rfl rfl ?_
      exact gg_ir rfl
    · match E with
      | 0 =>
        show gb_G _ _ _ _ _ _ _ _ _ _ _ _
        refine gg_ci 47 (-8) rfl rfl ?_
        exact gg_ir rfl
      | 1 =>
        show gb_G _ _ _ _ _ _ _ _ _ _ _ _
        refine gg_ci 51 (-8) rfl rfl ?_
        exact gg_ir rfl
      | 2 =>
        show gb_G _ _ _ _ _ _ _ _ _ _ _ _
        refine gg_ci 55 (-8) rfl rfl ?_
        exact gg_ir rfl
      | E + 3 => exact rfl
end GF3
