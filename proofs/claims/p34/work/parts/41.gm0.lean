section GF0
variable {c0 : gx_C}
theorem gm_32 (a0 : Nat) (x1 : Int) (h0 : gb_kd a0 = 3) {σ : gb_S} : gb_M (fx_32 a0 x1 σ) 1 c0 eI 32 [vr c0 a0, vi x1] σ := by
  rw [fx_32]
  refine gg_m (own := 3) (rt := (some .int)) (hnd := fun _ _ => none) (K := gk_32) (δ := 0) rfl rfl ?_
  refine gg_il 1 1 rfl rfl rfl ?_
  refine gg_q (fun q1 => ?_)
  refine gg_zlt 19 4 rfl rfl rfl rfl q1 ?_ ?_
  · refine gg_ci 20 0 rfl rfl ?_
    exact gg_ir rfl
  · refine gg_il 5 1 rfl rfl rfl ?_
    refine gg_ci 7 14 rfl rfl ?_
    refine gg_ige 19 10 rfl rfl rfl rfl q1 (gRl rfl) ?_ ?_
    · refine gg_ci 20 0 rfl rfl ?_
      exact gg_ir rfl
    · refine gg_al 11 0 rfl rfl rfl ?_
      refine gg_gr 14 (a0 + 3) rfl rfl rfl (gkin0 h0) rfl ?_
      refine gg_il 15 1 rfl rfl rfl ?_
      refine gg_q (fun q2 => ?_)
      refine gg_ial 16 rfl rfl (gkin3 h0) q2 ?_
      refine gg_go 20 rfl rfl rfl ?_
      exact gg_ir rfl
theorem gm_71 (a0 : Nat) (x1 : Int) (h0 : gb_kd a0 = 6) {σ : gb_S} : gb_M (fx_71 a0 x1 σ) 1 c0 eL 71 [vr c0 a0, vi x1] σ := by
  rw [fx_71]
  refine gg_m (own := 6) (rt := (some .long)) (hnd := fun _ _ => none) (K := gk_71) (δ := 0) rfl rfl ?_
  refine gg_il 1 1 rfl rfl rfl ?_
  refine gg_q (fun q1 => ?_)
  refine gg_zlt 19 4 rfl rfl rfl rfl q1 ?_ ?_
  · refine gg_cl 20 0 rfl rfl ?_
    exact gg_lr rfl
  · refine gg_il 5 1 rfl rfl rfl ?_
    refine gg_ci 7 14 rfl rfl ?_
    refine gg_ige 19 10 rfl rfl rfl rfl q1 (gRl rfl) ?_ ?_
    · refine gg_cl 20 0 rfl rfl ?_
      exact gg_lr rfl
    · refine gg_al 11 0 rfl rfl rfl ?_
      refine gg_gr 14 (a0 + 1) rfl rfl rfl (gsh0 h0) rfl ?_
      refine gg_il 15 1 rfl rfl rfl ?_
      refine gg_q (fun q2 => ?_)
      refine gg_lal 16 rfl rfl (gsh1 h0) q2 ?_
      refine gg_go 20 rfl rfl rfl ?_
      exact gg_lr rfl
theorem gm_72 (a0 : Nat) (x1 : Int) (h0 : gb_kd a0 = 6) {σ : gb_S} : gb_M (fx_72 a0 x1 σ) 1 c0 eL 72 [vr c0 a0, vi x1] σ := by
  rw [fx_72]
  refine gg_m (own := 6) (rt := (some .long)) (hnd := fun _ _ => none) (K := gk_72) (δ := 0) rfl rfl ?_
  refine gg_il 1 1 rfl rfl rfl ?_
  refine gg_q (fun q1 => ?_)
  refine gg_zlt 19 4 rfl rfl rfl rfl q1 ?_ ?_
  · refine gg_cl 20 1 rfl rfl ?_
    exact gg_lr rfl
  · refine gg_il 5 1 rfl rfl rfl ?_
    refine gg_ci 7 14 rfl rfl ?_
    refine gg_ige 19 10 rfl rfl rfl rfl q1 (gRl rfl) ?_ ?_
    · refine gg_cl 20 1 rfl rfl ?_
      exact gg_lr rfl
    · refine gg_al 11 0 rfl rfl rfl ?_
      refine gg_gr 14 (a0 + 2) rfl rfl rfl (gsh0 h0) rfl ?_
      refine gg_il 15 1 rfl rfl rfl ?_
      refine gg_q (fun q2 => ?_)
      refine gg_lal 16 rfl rfl (gsh2 h0) q2 ?_
      refine gg_go 20 rfl rfl rfl ?_
      exact gg_lr rfl
theorem gt_77_3 (k : Nat) : ∀ (x0 : Int) (x2 : Int) (x4 : Int) {lo : gh_L} (l0 : lo.lookup 0 = some (vl x0)) (l2 : lo.lookup 2 = some (vl x2)) (l4 : lo.lookup 4 = some (vi x4)) {σ : gb_S}, gb_G (fx_77_3 k x0 x2 x4 σ) 0 6 (some .long) (fun _ _ => none) gk_77 c0 eL 3 lo [] σ := by
  induction k with
  | zero => intros; exact gg_n
  | succ k ih =>
    intro x0 x2 x4 lo l0 l2 l4 σ
    rw [fx_77_3]
    refine gg_il 5 4 rfl rfl l4 ?_
    refine gg_ci 7 100 rfl rfl ?_
    refine gg_q (fun q1 => ?_)
    refine gg_ige 32 10 rfl rfl rfl rfl q1 (gRl rfl) ?_ ?_
    · refine gg_ll 33 0 rfl rfl l0 ?_
      exact gg_lr rfl
    · refine gg_ll 11 2 rfl rfl l2 ?_
      refine gg_cl 12 0 rfl rfl ?_
      refine gg_q (fun q2 => ?_)
      refine gg_Leq 32 16 rfl rfl rfl rfl rfl q2 ⟨by decide, by decide⟩ ?_ ?_
      · refine gg_ll 33 0 rfl rfl l0 ?_
        exact gg_lr rfl
      · refine gg_ll 17 0 rfl rfl l0 ?_
        refine gg_ll 18 2 rfl rfl l2 ?_
        refine gg_q (fun q3 => ?_)
        refine gg_lrem 19 rfl rfl q3 ?_
        refine gg_s 21 rfl rfl ?_
        refine gg_ll 22 2 rfl rfl (gl2 rfl rfl rfl l2) ?_
        refine gg_s 23 rfl rfl ?_
        refine gg_ll 25 5 rfl rfl (gl2 rfl rfl rfl gs2) ?_
        refine gg_s 26 rfl rfl ?_
        refine gg_inc 29 rfl rfl (gl2 rfl rfl rfl (gl2 rfl rfl rfl (gl2 rfl rfl rfl l4))) ?_
        refine gg_go 3 rfl rfl rfl ?_
        exact ih x2 (x0 % x2) (x4 + 1) (gl1 rfl rfl (gl2 rfl rfl rfl gs2)) (gl1 rfl rfl gs2) gs1
theorem gm_77 (x0 : Int) (x2 : Int) {σ : gb_S} : gb_M (fx_77 x0 x2 σ) 1 c0 eL 77 [vl x0, vl x2] σ := by
  rw [fx_77]
  refine gg_m (own := 6) (rt := (some .long)) (hnd := fun _ _ => none) (K := gk_77) (δ := 0) rfl rfl ?_
  refine gg_ci 1 0 rfl rfl ?_
  refine gg_s 3 rfl rfl ?_
  exact gt_77_3 gFU x0 x2 0 (gl1 rfl rfl rfl) (gl1 rfl rfl rfl) gs1
theorem gm_73 (a0 : Nat) (x1 : Int) (x2 : Int) (x4 : Int) (h0 : gb_kd a0 = 6) {σ : gb_S} : gb_M (fx_73 a0 x1 x2 x4 σ) 2 c0 eV 73 [vr c0 a0, vi x1, vl x2, vl x4] σ := by
  rw [fx_73]
  refine gg_m (own := 6) (rt := none) (hnd := fun _ _ => none) (K := gk_73) (δ := 1) rfl rfl ?_
  refine gg_il 1 1 rfl rfl rfl ?_
  refine gg_q (fun q1 => ?_)
  refine gg_zlt 17 4 rfl rfl rfl rfl q1 ?_ ?_
  · exact gg_vr rfl
  · refine gg_il 5 1 rfl rfl rfl ?_
    refine gg_ci 7 14 rfl rfl ?_
    refine gg_ige 17 10 rfl rfl rfl rfl q1 (gRl rfl) ?_ ?_
    · exact gg_vr rfl
    · refine gg_ll 12 4 rfl rfl rfl ?_
      refine gg_cl 13 0 rfl rfl ?_
      refine gg_q (fun q2 => ?_)
      refine gg_Lgt 18 17 rfl rfl rfl rfl rfl q2 ⟨by decide, by decide⟩ ?_ ?_
      · refine gg_al 19 0 rfl rfl rfl ?_
        refine gg_gr 22 (a0 + 1) rfl rfl rfl (gsh0 h0) rfl ?_
        refine gg_il 23 1 rfl rfl rfl ?_
        refine gg_q (fun q3 => ?_)
        refine gg_lal 24 rfl rfl (gsh1 h0) q3 ?_
        refine gg_ll 26 4 rfl rfl rfl ?_
        refine gg_lmul 27 rfl rfl ?_
        refine gg_ll 28 2 rfl rfl rfl ?_
        refine gg_al 29 0 rfl rfl rfl ?_
        refine gg_gr 32 (a0 + 2) rfl rfl rfl (gsh0 h0) rfl ?_
        refine gg_il 33 1 rfl rfl rfl ?_
        refine gg_lal 34 rfl rfl (gsh2 h0) q3 ?_
        refine gg_lmul 35 rfl rfl ?_
        refine gg_ladd 36 rfl rfl ?_
        refine gg_s 38 rfl rfl ?_
        refine gg_al 39 0 rfl rfl (gl2 rfl rfl rfl rfl) ?_
        refine gg_gr 42 (a0 + 2) rfl rfl rfl (gsh0 h0) rfl ?_
        refine gg_il 43 1 rfl rfl (gl2 rfl rfl rfl rfl) ?_
        refine gg_lal 44 rfl rfl (gsh2 h0) q3 ?_
        refine gg_ll 46 4 rfl rfl (gl2 rfl rfl rfl rfl) ?_
        refine gg_lmul 47 rfl rfl ?_
        refine gg_s 49 rfl rfl ?_
        refine gg_ll 51 6 rfl rfl (gl2 rfl rfl rfl gs2) ?_
        refine gg_ll 53 8 rfl rfl gs2 ?_
        refine gg_cLo 56 rfl (gm_77 _ _) (Nat.le_of_ble_eq_true rfl) (gb_ss rfl rfl rfl rfl rfl rfl rfl) rfl (fun _ => rfl) (fun _ => rfl) (fun r4 s5 => ?_)
        refine gg_s 58 rfl rfl ?_
        refine gg_ll 60 10 rfl rfl gs2 ?_
        refine gg_cl 61 0 rfl rfl ?_
        refine gg_q (fun q6 => ?_)
        refine gg_Lle 87 65 rfl rfl rfl rfl rfl q6 ⟨by decide, by decide⟩ ?_ ?_
        · exact gg_vr rfl
        · refine gg_al 66 0 rfl rfl (gl2 rfl rfl rfl (gl2 rfl rfl rfl (gl2 rfl rfl rfl rfl))) ?_
          refine gg_gr 69 (a0 + 1) rfl rfl rfl (gsh0 h0) rfl ?_
          refine gg_il 70 1 rfl rfl (gl2 rfl rfl rfl (gl2 rfl rfl rfl (gl2 rfl rfl rfl rfl))) ?_
          refine gg_ll 72 6 rfl rfl (gl2 rfl rfl rfl (gl2 rfl rfl rfl gs2)) ?_
          refine gg_ll 74 10 rfl rfl gs2 ?_
          refine gg_q (fun q7 => ?_)
          refine gg_ldiv 75 rfl rfl q7 ?_
          refine gg_las 76 rfl rfl (gsh1 h0) q3 ?_
          refine gg_al 77 0 rfl rfl (gl2 rfl rfl rfl (gl2 rfl rfl rfl (gl2 rfl rfl rfl rfl))) ?_
          refine gg_gr 80 (a0 + 2) rfl rfl rfl (gsh0 h0) rfl ?_
          refine gg_il 81 1 rfl rfl (gl2 rfl rfl rfl (gl2 rfl rfl rfl (gl2 rfl rfl rfl rfl))) ?_
          refine gg_ll 83 8 rfl rfl (gl2 rfl rfl rfl gs2) ?_
          refine gg_ll 85 10 rfl rfl gs2 ?_
          refine gg_q (fun q8 => ?_)
          refine gg_ldiv 86 rfl rfl q8 ?_
          refine gg_las 87 rfl rfl (gsh2 h0) q3 ?_
          exact gg_vr rfl
      · exact gg_vr rfl
theorem gm_123 (x0 : Int) (x1 : Int) {σ : gb_S} : gb_M (fx_123 x0 x1 σ) 1 c0 eI 123 [vi x0, vi x1] σ := by
  rw [fx_123]
  refine gg_m (own := 7) (rt := (some .boolean)) (hnd := fun _ _ => none) (K := gk_123) (δ := 0) rfl rfl ?_
  refine gg_il 1 1 rfl rfl rfl ?_
  refine gg_q (fun q1 => ?_)
  refine gg_zlt 22 4 rfl rfl rfl rfl q1 ?_ ?_
  · refine gg_ci 23 0 rfl rfl ?_
    exact gg_zr rfl (Or.inl rfl)
  · refine gg_il 5 1 rfl rfl rfl ?_
    refine gg_ci 7 14 rfl rfl ?_
    refine gg_ige 22 10 rfl rfl rfl rfl q1 (gRl rfl) ?_ ?_
    · refine gg_ci 23 0 rfl rfl ?_
      exact gg_zr rfl (Or.inl rfl)
    · refine gg_il 11 0 rfl rfl rfl ?_
      refine gg_il 12 1 rfl rfl rfl ?_
      refine gg_shr 13 rfl rfl ?_
      refine gg_ci 14 1 rfl rfl ?_
      refine gg_and 15 rfl rfl ?_
      refine gg_q (fun q2 => ?_)
      refine gg_zeq 22 18 rfl rfl rfl rfl q2 ?_ ?_
      · refine gg_ci 23 0 rfl rfl ?_
        exact gg_zr rfl (Or.inl rfl)
      · refine gg_ci 19 1 rfl rfl ?_
        refine gg_go 23 rfl rfl rfl ?_
        exact gg_zr rfl (Or.inr rfl)
theorem gm_124 (x0 : Int) {σ : gb_S} : gb_M (fx_193 x0 σ) 1 c0 eI 124 [vi x0] σ := by
  rw [fx_193]
  refine gg_m (own := 10) (rt := (some .int)) (hnd := fun _ _ => none) (K := gk_124) (δ := 0) rfl rfl ?_
  refine gg_il 1 0 rfl rfl rfl ?_
  refine gg_il 2 0 rfl rfl rfl ?_
  refine gg_ci 3 1 rfl rfl ?_
  refine gg_ushr 4 rfl rfl ?_
  refine gg_ci 7 1431655765 rfl rfl ?_
  refine gg_and 8 rfl rfl ?_
  refine gg_sub 9 rfl rfl ?_
  refine gg_s 10 rfl rfl ?_
  refine gg_il 11 0 rfl rfl gs1 ?_
  refine gg_ci 14 858993459 rfl rfl ?_
  refine gg_and 15 rfl rfl ?_
  refine gg_il 16 0 rfl rfl gs1 ?_
  refine gg_ci 17 2 rfl rfl ?_
  refine gg_ushr 18 rfl rfl ?_
  refine gg_ci 21 858993459 rfl rfl ?_
  refine gg_and 22 rfl rfl ?_
  refine gg_add 23 rfl rfl ?_
  refine gg_s 24 rfl rfl ?_
  refine gg_il 25 0 rfl rfl gs1 ?_
  refine gg_il 26 0 rfl rfl gs1 ?_
  refine gg_ci 27 4 rfl rfl ?_
  refine gg_ushr 28 rfl rfl ?_
  refine gg_add 29 rfl rfl ?_
  refine gg_ci 32 252645135 rfl rfl ?_
  refine gg_and 33 rfl rfl ?_
  refine gg_s 34 rfl rfl ?_
  refine gg_il 35 0 rfl rfl gs1 ?_
  refine gg_il 36 0 rfl rfl gs1 ?_
  refine gg_ci 38 8 rfl rfl ?_
  refine gg_ushr 39 rfl rfl ?_
  refine gg_add 40 rfl rfl ?_
  refine gg_s 41 rfl rfl ?_
  refine gg_il 42 0 rfl rfl gs1 ?_
  refine gg_il 43 0 rfl rfl gs1 ?_
  refine gg_ci 45 16 rfl rfl ?_
  refine gg_ushr 46 rfl rfl ?_
  refine gg_add 47 rfl rfl ?_
  refine gg_s 48 rfl rfl ?_
  refine gg_il 49 0 rfl rfl gs1 ?_
  refine gg_ci 51 63 rfl rfl ?_
  refine gg_and 52 rfl rfl ?_
  exact gg_ir rfl
theorem gt_2_30 (k : Nat) : ∀ (x1 : Int) (x3 : Int) (x4 : Int) (x6 : Int) {lo : gh_L} (l0 : lo.lookup 0 = some (vr c0 26)) (l1 : lo.lookup 1 = some (vi x1)) (l3 : lo.lookup 3 = some (vi x3)) (l4 : lo.lookup 4 = some (vl x4)) (l6 : lo.lookup 6 = some (vi x6)) {σ : gb_S}, gb_G (fx_2_30 k x1 x3 x4 x6 σ) 2 0 none (fun _ _ => none) gk_2 c0 eV 30 lo [] σ := by
  induction k with
  | zero => intros; exact gg_n
  | succ k ih =>
    intro x1 x3 x4 x6 lo l0 l1 l3 l4 l6 σ
    rw [fx_2_30]
    refine gg_il 32 6 rfl rfl l6 ?_
    refine gg_ci 34 14 rfl rfl ?_
    refine gg_q (fun q1 => ?_)
    refine gg_ige 71 37 rfl rfl rfl rfl q1 (gRl rfl) ?_ ?_
    · exact gg_vr rfl
    · refine gg_il 38 3 rfl rfl l3 ?_
      refine gg_il 40 6 rfl rfl l6 ?_
      refine gg_cI 43 rfl (gm_123 _ _) (Nat.le_of_ble_eq_true rfl) (gb_ss rfl rfl rfl rfl rfl rfl rfl) rfl (fun _ => rfl) (fun _ => rfl) (fun r2 s3 => ?_)
      refine gg_q (fun q4 => ?_)
      refine gg_zeq 65 46 rfl rfl rfl rfl q4 ?_ ?_
      · refine gg_inc 68 rfl rfl l6 ?_
        refine gg_go 30 rfl rfl rfl ?_
        exact ih x1 x3 x4 (x6 + 1) (gl1 rfl rfl l0) (gl1 rfl rfl l1) (gl1 rfl rfl l3) (gl1 rfl rfl l4) gs1
      · refine gg_al 47 0 rfl rfl l0 ?_
        refine gg_gr 50 27 rfl rfl rfl gcl_26 rfl ?_
        refine gg_il 52 6 rfl rfl l6 ?_
        refine gg_al 53 0 rfl rfl l0 ?_
        refine gg_gr 56 27 rfl rfl rfl gcl_26 rfl ?_
        refine gg_il 57 1 rfl rfl l1 ?_
        refine gg_cLo 60 rfl (gm_71 _ _ (rfl : gb_kd 27 = 6)) (Nat.le_of_ble_eq_true rfl) (gb_vs rfl rfl rfl rfl rfl gcl_27 rfl rfl rfl) rfl (fun _ => rfl) (fun _ => rfl) (fun r5 s6 => ?_)
        refine gg_ll 62 4 rfl rfl l4 ?_
        refine gg_cV 65 rfl (gm_73 _ _ _ _ (rfl : gb_kd 27 = 6)) (Nat.le_of_ble_eq_true rfl) (gb_vs rfl rfl rfl rfl rfl gcl_27 rfl rfl rfl) rfl (fun _ => rfl) (fun _ => rfl) (fun s8 => ?_)
        refine gg_inc 68 rfl rfl l6 ?_
        refine gg_go 30 rfl rfl rfl ?_
        exact ih x1 x3 x4 (x6 + 1) (gl1 rfl rfl l0) (gl1 rfl rfl l1) (gl1 rfl rfl l3) (gl1 rfl rfl l4) gs1
theorem gm_2 (x1 : Int) (a2 : Nat) (h2 : gb_kd a2 = 3) {σ : gb_S} : gb_M (fx_2 x1 a2 σ) 3 c0 eV 2 [vr c0 26, vi x1, vr c0 a2] σ := by
  rw [fx_2]
  refine gg_m (own := 0) (rt := none) (hnd := fun _ _ => none) (K := gk_2) (δ := 2) rfl rfl ?_
  refine gg_al 1 2 rfl rfl rfl ?_
  refine gg_il 2 1 rfl rfl rfl ?_
  refine gg_cI 5 rfl (gm_32 _ _ h2) (Nat.le_of_ble_eq_true rfl) (gb_vs rfl rfl rfl rfl rfl (gkin0 h2) rfl rfl rfl) rfl (fun _ => rfl) (fun _ => rfl) (fun r1 s2 => ?_)
  refine gg_al 6 0 rfl rfl rfl ?_
  refine gg_gi 9 rfl rfl rfl gcl_26 rfl ?_
  refine gg_and 10 rfl rfl ?_
  refine gg_s 11 rfl rfl ?_
  refine gg_al 12 0 rfl rfl (gl1 rfl rfl rfl) ?_
  refine gg_gr 15 27 rfl rfl rfl gcl_26 rfl ?_
  refine gg_il 16 1 rfl rfl (gl1 rfl rfl rfl) ?_
  refine gg_cLo 19 rfl (gm_72 _ _ (rfl : gb_kd 27 = 6)) (Nat.le_of_ble_eq_true rfl) (gb_vs rfl rfl rfl rfl rfl gcl_27 rfl rfl rfl) rfl (fun _ => rfl) (fun _ => rfl) (fun r3 s4 => ?_)
  refine gg_il 20 3 rfl rfl gs1 ?_
  refine gg_cI 23 rfl (gm_124 _) (Nat.le_of_ble_eq_true rfl) (gb_ss rfl rfl rfl rfl rfl rfl rfl) rfl (fun _ => rfl) (fun _ => rfl) (fun r5 s6 => ?_)
  refine gg_q (fun q7 => ?_)
  refine gg_i2l 24 rfl rfl q7 ?_
  refine gg_lmul 25 rfl rfl ?_
  refine gg_s 27 rfl rfl ?_
  refine gg_ci 28 0 rfl rfl ?_
  refine gg_s 30 rfl rfl ?_
  exact gt_2_30 gFU x1 (gb_and r1 (s2 26 2)) (r3 * r5) 0 (gl1 rfl rfl (gl2 rfl rfl rfl (gl1 rfl rfl rfl))) (gl1 rfl rfl (gl2 rfl rfl rfl (gl1 rfl rfl rfl))) (gl1 rfl rfl (gl2 rfl rfl rfl gs1)) (gl1 rfl rfl gs2) gs1
theorem gm_6 (x1 : Int) {σ : gb_S} : gb_M (fx_6 x1 σ) 3 c0 eV 6 [vr c0 26, vi x1] σ := by
  rw [fx_6]
  refine gg_m (own := 0) (rt := none) (hnd := fun _ _ => none) (K := gk_6) (δ := 2) rfl rfl ?_
  refine gg_al 1 0 rfl rfl rfl ?_
  refine gg_gi 4 rfl rfl rfl gcl_26 rfl ?_
  refine gg_il 5 1 rfl rfl rfl ?_
  refine gg_cI 8 rfl (gm_123 _ _) (Nat.le_of_ble_eq_true rfl) (gb_ss rfl rfl rfl rfl rfl rfl rfl) rfl (fun _ => rfl) (fun _ => rfl) (fun r1 s2 => ?_)
  refine gg_q (fun q3 => ?_)
  refine gg_zeq 28 11 rfl rfl rfl rfl q3 ?_ ?_
  · exact gg_vr rfl
  · refine gg_al 12 0 rfl rfl rfl ?_
    refine gg_gr 15 27 rfl rfl rfl gcl_26 rfl ?_
    refine gg_il 16 1 rfl rfl rfl ?_
    refine gg_cl 17 1 rfl rfl ?_
    refine gg_al 18 0 rfl rfl rfl ?_
    refine gg_gi 21 rfl rfl rfl gcl_26 rfl ?_
    refine gg_cI 24 rfl (gm_124 _) (Nat.le_of_ble_eq_true rfl) (gb_ss rfl rfl rfl rfl rfl rfl rfl) rfl (fun _ => rfl) (fun _ => rfl) (fun r4 s5 => ?_)
    refine gg_q (fun q6 => ?_)
    refine gg_i2l 25 rfl rfl q6 ?_
    refine gg_cV 28 rfl (gm_73 _ _ _ _ (rfl : gb_kd 27 = 6)) (Nat.le_of_ble_eq_true rfl) (gb_vs rfl rfl rfl rfl rfl gcl_27 rfl rfl rfl) rfl (fun _ => rfl) (fun _ => rfl) (fun s8 => ?_)
    exact gg_vr rfl
theorem gm_25 (x1 : Int) {σ : gb_S} : gb_M (fx_25 x1 σ) 1 c0 eI 25 [vr c0 2, vi x1] σ := by
  rw [fx_25]
  refine gg_m (own := 2) (rt := (some .int)) (hnd := fun _ _ => none) (K := gk_25) (δ := 0) rfl rfl ?_
  refine gg_il 1 1 rfl rfl rfl ?_
  refine gg_q (fun q1 => ?_)
  refine gg_zlt 19 4 rfl rfl rfl rfl q1 ?_ ?_
  · refine gg_ci 20 0 rfl rfl ?_
    exact gg_ir rfl
  · refine gg_il 5 1 rfl rfl rfl ?_
    refine gg_ci 7 14 rfl rfl ?_
    refine gg_ige 19 10 rfl rfl rfl rfl q1 (gRl rfl) ?_ ?_
    · refine gg_ci 20 0 rfl rfl ?_
      exact gg_ir rfl
    · refine gg_al 11 0 rfl rfl rfl ?_
      refine gg_gr 14 3 rfl rfl rfl gcl_2 rfl ?_
      refine gg_il 15 1 rfl rfl rfl ?_
      refine gg_q (fun q2 => ?_)
      refine gg_ial 16 rfl rfl gar_3 q2 ?_
      refine gg_go 20 rfl rfl rfl ?_
      exact gg_ir rfl
theorem gm_26 (x1 : Int) {σ : gb_S} : gb_M (fx_26 x1 σ) 1 c0 eI 26 [vr c0 2, vi x1] σ := by
  rw [fx_26]
  refine gg_m (own := 2) (rt := (some .int)) (hnd := fun _ _ => none) (K := gk_26) (δ := 0) rfl rfl ?_
  refine gg_il 1 1 rfl rfl rfl ?_
  refine gg_q (fun q1 => ?_)
  refine gg_zlt 19 4 rfl rfl rfl rfl q1 ?_ ?_
  · refine gg_ci 20 0 rfl rfl ?_
    exact gg_ir rfl
  · refine gg_il 5 1 rfl rfl rfl ?_
    refine gg_ci 7 14 rfl rfl ?_
    refine gg_ige 19 10 rfl rfl rfl rfl q1 (gRl rfl) ?_ ?_
    · refine gg_ci 20 0 rfl rfl ?_
      exact gg_ir rfl
    · refine gg_al 11 0 rfl rfl rfl ?_
      refine gg_gr 14 4 rfl rfl rfl gcl_2 rfl ?_
      refine gg_il 15 1 rfl rfl rfl ?_
      refine gg_q (fun q2 => ?_)
      refine gg_ial 16 rfl rfl gar_4 q2 ?_
      refine gg_go 20 rfl rfl rfl ?_
      exact gg_ir rfl
theorem gm_28 (x1 : Int) {σ : gb_S} : gb_M (fx_28 x1 σ) 1 c0 eI 28 [vr c0 2, vi x1] σ := by
  rw [fx_28]
  refine gg_m (own := 2) (rt := (some .int)) (hnd := fun _ _ => none) (K := gk_28) (δ := 0) rfl rfl ?_
  refine gg_il 1 1 rfl rfl rfl ?_
  refine gg_q (fun q1 => ?_)
  refine gg_zlt 19 4 rfl rfl rfl rfl q1 ?_ ?_
  · refine gg_ci 20 (-1) rfl rfl ?_
    exact gg_ir rfl
  · refine gg_il 5 1 rfl rfl rfl ?_
    refine gg_ci 7 14 rfl rfl ?_
    refine gg_ige 19 10 rfl rfl rfl rfl q1 (gRl rfl) ?_ ?_
    · refine gg_ci 20 (-1) rfl rfl ?_
      exact gg_ir rfl
    · refine gg_al 11 0 rfl rfl rfl ?_
      refine gg_gr 14 5 rfl rfl rfl gcl_2 rfl ?_
      refine gg_il 15 1 rfl rfl rfl ?_
      refine gg_q (fun q2 => ?_)
      refine gg_ial 16 rfl rfl gar_5 q2 ?_
      refine gg_go 20 rfl rfl rfl ?_
      exact gg_ir rfl
theorem gt_8_81 {k21 : Nat → Int → Int → Int → gb_S → Option gb_P} (hk21 : ∀ (a2 : Nat) (x4 : Int) (x5 : Int) (x6 : Int) (h2 : gb_kd a2 = 3) {lo : gh_L} (l0 : lo.lookup 0 = some (vr c0 26)) (l1 : lo.lookup 1 = some (vr c0 2)) (l2 : lo.lookup 2 = some (vr c0 a2)) (l4 : lo.lookup 4 = some (vi x4)) (l5 : lo.lookup 5 = some (vi x5)) (l6 : lo.lookup 6 = some (vi x6)) {σ : gb_S}, gb_G (k21 a2 x4 x5 x6 σ) 1 0 (some .int) (fun _ _ => none) gk_8 c0 eI 21 lo [] σ) (a2 : Nat) (x4 : Int) (x5 : Int) (x6 : Int) (x7 : Int) (h2 : gb_kd a2 = 3) {lo : gh_L} (l0 : lo.lookup 0 = some (vr c0 26)) (l1 : lo.lookup 1 = some (vr c0 2)) (l2 : lo.lookup 2 = some (vr c0 a2)) (l4 : lo.lookup 4 = some (vi x4)) (l5 : lo.lookup 5 = some (vi x5)) (l6 : lo.lookup 6 = some (vi x6)) (l7 : lo.lookup 7 = some (vi x7)) {σ : gb_S} : gb_G (fx_8_81 k21 a2 x4 x5 x6 x7 σ) 1 0 (some .int) (fun _ _ => none) gk_8 c0 eI 81 lo [] σ := by
  rw [fx_8_81]
  refine gg_il 83 4 rfl rfl l4 ?_
  refine gg_ci 84 1 rfl rfl ?_
  refine gg_il 86 7 rfl rfl l7 ?_
  refine gg_shl 87 rfl rfl ?_
  refine gg_or 88 rfl rfl ?_
  refine gg_s 90 rfl rfl ?_
  refine gg_inc 93 rfl rfl (gl1 rfl rfl l6) ?_
  refine gg_go 21 rfl rfl rfl ?_
  exact hk21 a2 (gb_or x4 (gb_shl 1 x7)) x5 (x6 + (-1)) h2 (gl1 rfl rfl (gl1 rfl rfl l0)) (gl1 rfl rfl (gl1 rfl rfl l1)) (gl1 rfl rfl (gl1 rfl rfl l2)) (gl1 rfl rfl gs1) (gl1 rfl rfl (gl1 rfl rfl l5)) gs1
theorem gt_8_62 {k21 : Nat → Int → Int → Int → gb_S → Option gb_P} (hk21 : ∀ (a2 : Nat) (x4 : Int) (x5 : Int) (x6 : Int) (h2 : gb_kd a2 = 3) {lo : gh_L} (l0 : lo.lookup 0 = some (vr c0 26)) (l1 : lo.lookup 1 = some (vr c0 2)) (l2 : lo.lookup 2 = some (vr c0 a2)) (l4 : lo.lookup 4 = some (vi x4)) (l5 : lo.lookup 5 = some (vi x5)) (l6 : lo.lookup 6 = some (vi x6)) {σ : gb_S}, gb_G (k21 a2 x4 x5 x6 σ) 1 0 (some .int) (fun _ _ => none) gk_8 c0 eI 21 lo [] σ) (a2 : Nat) (x4 : Int) (x5 : Int) (x6 : Int) (x7 : Int) (y0 : Int) (h2 : gb_kd a2 = 3) {lo : gh_L} (l0 : lo.lookup 0 = some (vr c0 26)) (l1 : lo.lookup 1 = some (vr c0 2)) (l2 : lo.lookup 2 = some (vr c0 a2)) (l4 : lo.lookup 4 = some (vi x4)) (l5 : lo.lookup 5 = some (vi x5)) (l6 : lo.lookup 6 = some (vi x6)) (l7 : lo.lookup 7 = some (vi x7)) {σ : gb_S} : gb_G (fx_8_62 k21 a2 x4 x5 x6 x7 y0 σ) 1 0 (some .int) (fun _ _ => none) gk_8 c0 eI 62 lo [vi y0] σ := by
  rw [fx_8_62]
  refine gg_s 64 rfl rfl ?_
  refine gg_il 66 8 rfl rfl gs1 ?_
  refine gg_q (fun q1 => ?_)
  refine gg_zne 81 69 rfl rfl rfl rfl q1 ?_ ?_
  · exact gt_8_81 hk21 a2 x4 x5 x6 x7 h2 (gl1 rfl rfl l0) (gl1 rfl rfl l1) (gl1 rfl rfl l2) (gl1 rfl rfl l4) (gl1 rfl rfl l5) (gl1 rfl rfl l6) (gl1 rfl rfl l7)
  · refine gg_al 70 2 rfl rfl (gl1 rfl rfl l2) ?_
    refine gg_il 72 7 rfl rfl (gl1 rfl rfl l7) ?_
    refine gg_cI 75 rfl (gm_32 _ _ h2) (Nat.le_of_ble_eq_true rfl) (gb_vs rfl rfl rfl rfl rfl (gkin0 h2) rfl rfl rfl) rfl (fun _ => rfl) (fun _ => rfl) (fun r2 s3 => ?_)
    refine gg_il 77 4 rfl rfl (gl1 rfl rfl l4) ?_
    refine gg_and 78 rfl rfl ?_
    refine gg_q (fun q4 => ?_)
    refine gg_zeq 90 81 rfl rfl rfl rfl q4 ?_ ?_
    · refine gg_inc 93 rfl rfl (gl1 rfl rfl l6) ?_
      refine gg_go 21 rfl rfl rfl ?_
      exact hk21 a2 x4 x5 (x6 + (-1)) h2 (gl1 rfl rfl (gl1 rfl rfl l0)) (gl1 rfl rfl (gl1 rfl rfl l1)) (gl1 rfl rfl (gl1 rfl rfl l2)) (gl1 rfl rfl (gl1 rfl rfl l4)) (gl1 rfl rfl (gl1 rfl rfl l5)) gs1
    · exact gt_8_81 hk21 a2 x4 x5 x6 x7 h2 (gl1 rfl rfl l0) (gl1 rfl rfl l1) (gl1 rfl rfl l2) (gl1 rfl rfl l4) (gl1 rfl rfl l5) (gl1 rfl rfl l6) (gl1 rfl rfl l7)
theorem gt_8_21 (k : Nat) : ∀ (a2 : Nat) (x4 : Int) (x5 : Int) (x6 : Int) (h2 : gb_kd a2 = 3) {lo : gh_L} (l0 : lo.lookup 0 = some (vr c0 26)) (l1 : lo.lookup 1 = some (vr c0 2)) (l2 : lo.lookup 2 = some (vr c0 a2)) (l4 : lo.lookup 4 = some (vi x4)) (l5 : lo.lookup 5 = some (vi x5)) (l6 : lo.lookup 6 = some (vi x6)) {σ : gb_S}, gb_G (fx_8_21 k a2 x4 x5 x6 σ) 1 0 (some .int) (fun _ _ => none) gk_8 c0 eI 21 lo [] σ := by
  induction k with
  | zero => intros; exact gg_n
  | succ k ih =>
    intro a2 x4 x5 x6 h2 lo l0 l1 l2 l4 l5 l6 σ
    rw [fx_8_21]
    refine gg_il 23 6 rfl rfl l6 ?_
    refine gg_q (fun q1 => ?_)
    refine gg_zlt 96 26 rfl rfl rfl rfl q1 ?_ ?_
    · refine gg_il 98 4 rfl rfl l4 ?_
      exact gg_ir rfl
    · refine gg_al 27 1 rfl rfl l1 ?_
      refine gg_il 29 6 rfl rfl l6 ?_
      refine gg_cI 32 rfl (gm_28 _) (Nat.le_of_ble_eq_true rfl) (gb_vs rfl rfl rfl rfl rfl gcl_2 rfl rfl rfl) rfl (fun _ => rfl) (fun _ => rfl) (fun r2 s3 => ?_)
      refine gg_s 34 rfl rfl ?_
      refine gg_al 35 0 rfl rfl (gl1 rfl rfl l0) ?_
      refine gg_gi 38 rfl rfl rfl gcl_26 rfl ?_
      refine gg_il 40 7 rfl rfl gs1 ?_
      refine gg_cI 43 rfl (gm_123 _ _) (Nat.le_of_ble_eq_true rfl) (gb_ss rfl rfl rfl rfl rfl rfl rfl) rfl (fun _ => rfl) (fun _ => rfl) (fun r4 s5 => ?_)
      refine gg_q (fun q6 => ?_)
      refine gg_zeq 61 46 rfl rfl rfl rfl q6 ?_ ?_
      · refine gg_ci 62 0 rfl rfl ?_
        exact gt_8_62 ih a2 x4 x5 x6 r2 0 h2 (gl1 rfl rfl l0) (gl1 rfl rfl l1) (gl1 rfl rfl l2) (gl1 rfl rfl l4) (gl1 rfl rfl l5) (gl1 rfl rfl l6) gs1
      · refine gg_al 47 1 rfl rfl (gl1 rfl rfl l1) ?_
        refine gg_il 49 7 rfl rfl gs1 ?_
        refine gg_cI 52 rfl (gm_25 _) (Nat.le_of_ble_eq_true rfl) (gb_vs rfl rfl rfl rfl rfl gcl_2 rfl rfl rfl) rfl (fun _ => rfl) (fun _ => rfl) (fun r7 s8 => ?_)
        refine gg_il 54 5 rfl rfl (gl1 rfl rfl l5) ?_
        refine gg_q (fun q9 => ?_)
        refine gg_q (fun q10 => ?_)
        refine gg_igt 61 57 rfl rfl rfl rfl q9 q10 ?_ ?_
        · refine gg_ci 62 0 rfl rfl ?_
          exact gt_8_62 ih a2 x4 x5 x6 r2 0 h2 (gl1 rfl rfl l0) (gl1 rfl rfl l1) (gl1 rfl rfl l2) (gl1 rfl rfl l4) (gl1 rfl rfl l5) (gl1 rfl rfl l6) gs1
        · refine gg_ci 58 1 rfl rfl ?_
          refine gg_go 62 rfl rfl rfl ?_
          exact gt_8_62 ih a2 x4 x5 x6 r2 1 h2 (gl1 rfl rfl l0) (gl1 rfl rfl l1) (gl1 rfl rfl l2) (gl1 rfl rfl l4) (gl1 rfl rfl l5) (gl1 rfl rfl l6) gs1
theorem gm_8 (a2 : Nat) (a3 : Nat) (h2 : gb_kd a2 = 3) (h3 : gb_kd a3 = 1) {σ : gb_S} : gb_M (fx_8 a2 a3 σ) 2 c0 eI 8 [vr c0 26, vr c0 2, vr c0 a2, vr c0 a3] σ := by
  rw [fx_8]
  refine gg_m (own := 0) (rt := (some .int)) (hnd := fun _ _ => none) (K := gk_8) (δ := 1) rfl rfl ?_
  refine gg_ci 1 0 rfl rfl ?_
  refine gg_s 3 rfl rfl ?_
  refine gg_al 4 1 rfl rfl (gl1 rfl rfl rfl) ?_
  refine gg_al 5 3 rfl rfl (gl1 rfl rfl rfl) ?_
  refine gg_gi 8 rfl rfl rfl (ges0 h3) rfl ?_
  refine gg_cI 11 rfl (gm_26 _) (Nat.le_of_ble_eq_true rfl) (gb_vs rfl rfl rfl rfl rfl gcl_2 rfl rfl rfl) rfl (fun _ => rfl) (fun _ => rfl) (fun r1 s2 => ?_)
  refine gg_s 13 rfl rfl ?_
  refine gg_al 14 1 rfl rfl (gl1 rfl rfl (gl1 rfl rfl rfl)) ?_
  refine gg_gi 17 rfl rfl rfl gcl_2 rfl ?_
  refine gg_ci 18 1 rfl rfl ?_
  refine gg_sub 19 rfl rfl ?_
  refine gg_s 21 rfl rfl ?_
  exact gt_8_21 gFU a2 0 r1 ((s2 2 3) - 1) h2 (gl1 rfl rfl (gl1 rfl rfl (gl1 rfl rfl rfl))) (gl1 rfl rfl (gl1 rfl rfl (gl1 rfl rfl rfl))) (gl1 rfl rfl (gl1 rfl rfl (gl1 rfl rfl rfl))) (gl1 rfl rfl (gl1 rfl rfl gs1)) (gl1 rfl rfl gs1) gs1
theorem gm_30 (a0 : Nat) (x1 : Int) (h0 : gb_kd a0 = 3) {σ : gb_S} : gb_M (fx_30 a0 x1 σ) 1 c0 eI 30 [vr c0 a0, vi x1] σ := by
  rw [fx_30]
  refine gg_m (own := 3) (rt := (some .int)) (hnd := fun _ _ => none) (K := gk_30) (δ := 0) rfl rfl ?_
  refine gg_il 1 1 rfl rfl rfl ?_
  refine gg_q (fun q1 => ?_)
  refine gg_zlt 19 4 rfl rfl rfl rfl q1 ?_ ?_
  · refine gg_ci 20 (-1) rfl rfl ?_
    exact gg_ir rfl
  · refine gg_il 5 1 rfl rfl rfl ?_
    refine gg_ci 7 14 rfl rfl ?_
    refine gg_ige 19 10 rfl rfl rfl rfl q1 (gRl rfl) ?_ ?_
    · refine gg_ci 20 (-1) rfl rfl ?_
      exact gg_ir rfl
    · refine gg_al 11 0 rfl rfl rfl ?_
      refine gg_gr 14 (a0 + 1) rfl rfl rfl (gkin0 h0) rfl ?_
      refine gg_il 15 1 rfl rfl rfl ?_
      refine gg_q (fun q2 => ?_)
      refine gg_ial 16 rfl rfl (gkin1 h0) q2 ?_
      refine gg_go 20 rfl rfl rfl ?_
      exact gg_ir rfl
theorem gm_31 (a0 : Nat) (x1 : Int) (h0 : gb_kd a0 = 3) {σ : gb_S} : gb_M (fx_31 a0 x1 σ) 1 c0 eI 31 [vr c0 a0, vi x1] σ := by
  rw [fx_31]
  refine gg_m (own := 3) (rt := (some .int)) (hnd := fun _ _ => none) (K := gk_31) (δ := 0) rfl rfl ?_
  refine gg_il 1 1 rfl rfl rfl ?_
  refine gg_q (fun q1 => ?_)
  refine gg_zlt 19 4 rfl rfl rfl rfl q1 ?_ ?_
  · refine gg_ci 20 (-1) rfl rfl ?_
    exact gg_ir rfl
  · refine gg_il 5 1 rfl rfl rfl ?_
    refine gg_ci 7 14 rfl rfl ?_
    refine gg_ige 19 10 rfl rfl rfl rfl q1 (gRl rfl) ?_ ?_
    · refine gg_ci 20 (-1) rfl rfl ?_
      exact gg_ir rfl
    · refine gg_al 11 0 rfl rfl rfl ?_
      refine gg_gr 14 (a0 + 2) rfl rfl rfl (gkin0 h0) rfl ?_
      refine gg_il 15 1 rfl rfl rfl ?_
      refine gg_q (fun q2 => ?_)
      refine gg_ial 16 rfl rfl (gkin2 h0) q2 ?_
      refine gg_go 20 rfl rfl rfl ?_
      exact gg_ir rfl
theorem gm_34 (x0 : Int) {σ : gb_S} : gb_M (fx_34 x0 σ) 1 c0 eI 34 [vi x0] σ := by
  rw [fx_34]
  refine gg_m (own := 3) (rt := (some .int)) (hnd := fun _ _ => none) (K := gk_34) (δ := 0) rfl rfl ?_
  refine gg_il 1 0 rfl rfl rfl ?_
  refine gg_ci 2 (-1) rfl rfl ?_
  refine gg_q (fun q1 => ?_)
  refine gg_ine 9 5 rfl rfl rfl rfl q1 (gRl rfl) ?_ ?_
  · refine gg_ci 10 1 rfl rfl ?_
    refine gg_il 11 0 rfl rfl rfl ?_
    refine gg_shl 12 rfl rfl ?_
    exact gg_ir rfl
  · refine gg_ci 6 0 rfl rfl ?_
    refine gg_go 12 rfl rfl rfl ?_
    exact gg_ir rfl
theorem gm_33 (a0 : Nat) (x1 : Int) (h0 : gb_kd a0 = 3) {σ : gb_S} : gb_M (fx_33 a0 x1 σ) 2 c0 eI 33 [vr c0 a0, vi x1] σ := by
  rw [fx_33]
  refine gg_m (own := 3) (rt := (some .int)) (hnd := fun _ _ => none) (K := gk_33) (δ := 1) rfl rfl ?_
  refine gg_al 1 0 rfl rfl rfl ?_
  refine gg_il 2 1 rfl rfl rfl ?_
  refine gg_cI 5 rfl (gm_30 _ _ h0) (Nat.le_of_ble_eq_true rfl) (gb_vs rfl rfl rfl rfl rfl (gkin0 h0) rfl rfl rfl) rfl (fun _ => rfl) (fun _ => rfl) (fun r1 s2 => ?_)
  refine gg_cI 8 rfl (gm_34 _) (Nat.le_of_ble_eq_true rfl) (gb_ss rfl rfl rfl rfl rfl rfl rfl) rfl (fun _ => rfl) (fun _ => rfl) (fun r3 s4 => ?_)
  refine gg_al 9 0 rfl rfl rfl ?_
  refine gg_il 10 1 rfl rfl rfl ?_
  refine gg_cI 13 rfl (gm_31 _ _ h0) (Nat.le_of_ble_eq_true rfl) (gb_vs rfl rfl rfl rfl rfl (gkin0 h0) rfl rfl rfl) rfl (fun _ => rfl) (fun _ => rfl) (fun r5 s6 => ?_)
  refine gg_cI 16 rfl (gm_34 _) (Nat.le_of_ble_eq_true rfl) (gb_ss rfl rfl rfl rfl rfl rfl rfl) rfl (fun _ => rfl) (fun _ => rfl) (fun r7 s8 => ?_)
  refine gg_or 17 rfl rfl ?_
  exact gg_ir rfl
theorem gm_9 (a1 : Nat) (x2 : Int) (h1 : gb_kd a1 = 3) {σ : gb_S} : gb_M (fx_9 a1 x2 σ) 3 c0 eI 9 [vr c0 26, vr c0 a1, vi x2] σ := by
  rw [fx_9]
  refine gg_m (own := 0) (rt := (some .int)) (hnd := fun _ _ => none) (K := gk_9) (δ := 2) rfl rfl ?_
  refine gg_al 1 0 rfl rfl rfl ?_
  refine gg_gi 4 rfl rfl rfl gcl_26 rfl ?_
  refine gg_il 5 2 rfl rfl rfl ?_
  refine gg_cI 8 rfl (gm_123 _ _) (Nat.le_of_ble_eq_true rfl) (gb_ss rfl rfl rfl rfl rfl rfl rfl) rfl (fun _ => rfl) (fun _ => rfl) (fun r1 s2 => ?_)
  refine gg_q (fun q3 => ?_)
  refine gg_zeq 15 11 rfl rfl rfl rfl q3 ?_ ?_
  · refine gg_al 16 1 rfl rfl rfl ?_
    refine gg_il 17 2 rfl rfl rfl ?_
    refine gg_cI 20 rfl (gm_33 _ _ h1) (Nat.le_of_ble_eq_true rfl) (gb_vs rfl rfl rfl rfl rfl (gkin0 h1) rfl rfl rfl) rfl (fun _ => rfl) (fun _ => rfl) (fun r4 s5 => ?_)
    refine gg_s 21 rfl rfl ?_
    refine gg_il 22 3 rfl rfl gs1 ?_
    refine gg_al 23 0 rfl rfl (gl1 rfl rfl rfl) ?_
    refine gg_gi 26 rfl rfl rfl gcl_26 rfl ?_
    refine gg_and 27 rfl rfl ?_
    refine gg_q (fun q6 => ?_)
    refine gg_zeq 37 30 rfl rfl rfl rfl q6 ?_ ?_
    · refine gg_al 38 1 rfl rfl (gl1 rfl rfl rfl) ?_
      refine gg_al 39 1 rfl rfl (gl1 rfl rfl rfl) ?_
      refine gg_il 40 2 rfl rfl (gl1 rfl rfl rfl) ?_
      refine gg_cI 43 rfl (gm_30 _ _ h1) (Nat.le_of_ble_eq_true rfl) (gb_vs rfl rfl rfl rfl rfl (gkin0 h1) rfl rfl rfl) rfl (fun _ => rfl) (fun _ => rfl) (fun r7 s8 => ?_)
      refine gg_cI 46 rfl (gm_33 _ _ h1) (Nat.le_of_ble_eq_true rfl) (gb_vs rfl rfl rfl rfl rfl (gkin0 h1) rfl rfl rfl) rfl (fun _ => rfl) (fun _ => rfl) (fun r9 s10 => ?_)
      refine gg_al 47 1 rfl rfl (gl1 rfl rfl rfl) ?_
      refine gg_al 48 1 rfl rfl (gl1 rfl rfl rfl) ?_
      refine gg_il 49 2 rfl rfl (gl1 rfl rfl rfl) ?_
      refine gg_cI 52 rfl (gm_31 _ _ h1) (Nat.le_of_ble_eq_true rfl) (gb_vs rfl rfl rfl rfl rfl (gkin0 h1) rfl rfl rfl) rfl (fun _ => rfl) (fun _ => rfl) (fun r11 s12 => ?_)
      refine gg_cI 55 rfl (gm_33 _ _ h1) (Nat.le_of_ble_eq_true rfl) (gb_vs rfl rfl rfl rfl rfl (gkin0 h1) rfl rfl rfl) rfl (fun _ => rfl) (fun _ => rfl) (fun r13 s14 => ?_)
      refine gg_or 56 rfl rfl ?_
      refine gg_s 58 rfl rfl ?_
      refine gg_il 60 4 rfl rfl gs1 ?_
      refine gg_al 61 0 rfl rfl (gl1 rfl rfl (gl1 rfl rfl rfl)) ?_
      refine gg_gi 64 rfl rfl rfl gcl_26 rfl ?_
      refine gg_and 65 rfl rfl ?_
      exact gg_ir rfl
    · refine gg_il 31 3 rfl rfl gs1 ?_
      refine gg_al 32 0 rfl rfl (gl1 rfl rfl rfl) ?_
      refine gg_gi 35 rfl rfl rfl gcl_26 rfl ?_
      refine gg_and 36 rfl rfl ?_
      exact gg_ir rfl
  · refine gg_ci 12 1 rfl rfl ?_
    refine gg_il 13 2 rfl rfl rfl ?_
    refine gg_shl 14 rfl rfl ?_
    exact gg_ir rfl
theorem gt_7_19 (a2 : Nat) (a3 : Nat) (y0 : Int) (h2 : gb_kd a2 = 3) (h3 : gb_kd a3 = 1) {lo : gh_L} (l0 : lo.lookup 0 = some (vr c0 26)) (l1 : lo.lookup 1 = some (vr c0 2)) (l2 : lo.lookup 2 = some (vr c0 a2)) (l3 : lo.lookup 3 = some (vr c0 a3)) {σ : gb_S} : gb_G (fx_7_19 a2 a3 y0 σ) 3 0 none (fun _ _ => none) gk_7 c0 eV 19 lo [vi y0, vr c0 26] σ := by
  rw [fx_7_19]
  refine gg_ci 20 (-1) rfl rfl ?_
  refine gg_xor 21 rfl rfl ?_
  refine gg_pf 24 rfl rfl rfl gcl_26 rfl ⟨rfl, rfl⟩ ?_
  refine gg_al 25 0 rfl rfl l0 ?_
  refine gg_al 26 0 rfl rfl l0 ?_
  refine gg_al 27 1 rfl rfl l1 ?_
  refine gg_al 28 2 rfl rfl l2 ?_
  refine gg_al 29 3 rfl rfl l3 ?_
  refine gg_cI 32 rfl (gm_8 _ _ h2 h3) (Nat.le_of_ble_eq_true rfl) (gb_vs rfl rfl rfl rfl rfl gcl_26 rfl rfl rfl) rfl (fun _ => rfl) (fun _ => rfl) (fun r1 s2 => ?_)
  refine gg_pf 35 rfl rfl rfl gcl_26 rfl ⟨rfl, rfl⟩ ?_
  refine gg_al 36 0 rfl rfl l0 ?_
  refine gg_al 37 0 rfl rfl l0 ?_
  refine gg_al 38 2 rfl rfl l2 ?_
  refine gg_al 39 3 rfl rfl l3 ?_
  refine gg_gi 42 rfl rfl rfl (ges0 h3) rfl ?_
  refine gg_cI 45 rfl (gm_9 _ _ h2) (Nat.le_of_ble_eq_true rfl) (gb_vs rfl rfl rfl rfl rfl gcl_26 rfl rfl rfl) rfl (fun _ => rfl) (fun _ => rfl) (fun r3 s4 => ?_)
  refine gg_pf 48 rfl rfl rfl gcl_26 rfl ⟨rfl, rfl⟩ ?_
  exact gg_vr rfl
theorem gm_7 (a2 : Nat) (a3 : Nat) (h2 : gb_kd a2 = 3) (h3 : gb_kd a3 = 1) {σ : gb_S} : gb_M (fx_7 a2 a3 σ) 4 c0 eV 7 [vr c0 26, vr c0 2, vr c0 a2, vr c0 a3] σ := by
  rw [fx_7]
  refine gg_m (own := 0) (rt := none) (hnd := fun _ _ => none) (K := gk_7) (δ := 3) rfl rfl ?_
  refine gg_al 1 0 rfl rfl rfl ?_
  refine gg_al 2 3 rfl rfl rfl ?_
  refine gg_gi 5 rfl rfl rfl (ges0 h3) rfl ?_
  refine gg_q (fun q1 => ?_)
  refine gg_zeq 15 8 rfl rfl rfl rfl q1 ?_ ?_
  · refine gg_al 16 1 rfl rfl rfl ?_
    refine gg_gi 19 rfl rfl rfl gcl_2 rfl ?_
    exact gt_7_19 a2 a3 (σ 2 4) h2 h3 rfl rfl rfl rfl
  · refine gg_al 9 3 rfl rfl rfl ?_
    refine gg_gi 12 rfl rfl rfl (ges0 h3) rfl ?_
    refine gg_go 19 rfl rfl rfl ?_
    exact gt_7_19 a2 a3 (σ a3 5) h2 h3 rfl rfl rfl rfl
theorem gm_13 (a0 : Nat) (x1 : Int) (h0 : gb_kd a0 = 1) {σ : gb_S} : gb_M (fx_13 a0 x1 σ) 1 c0 eI 13 [vr c0 a0, vi x1] σ := by
  rw [fx_13]
  refine gg_m (own := 1) (rt := (some .int)) (hnd := fun _ _ => none) (K := gk_13) (δ := 0) rfl rfl ?_
  refine gg_il 1 1 rfl rfl rfl ?_
  refine gg_q (fun q1 => ?_)
  refine gg_zlt 19 4 rfl rfl rfl rfl q1 ?_ ?_
  · refine gg_ci 20 0 rfl rfl ?_
    exact gg_ir rfl
  · refine gg_il 5 1 rfl rfl rfl ?_
    refine gg_ci 7 14 rfl rfl ?_
    refine gg_ige 19 10 rfl rfl rfl rfl q1 (gRl rfl) ?_ ?_
    · refine gg_ci 20 0 rfl rfl ?_
      exact gg_ir rfl
    · refine gg_al 11 0 rfl rfl rfl ?_
      refine gg_gr 14 (a0 + 1) rfl rfl rfl (ges0 h0) rfl ?_
      refine gg_il 15 1 rfl rfl rfl ?_
      refine gg_q (fun q2 => ?_)
      refine gg_ial 16 rfl rfl (ges1 h0) q2 ?_
      refine gg_go 20 rfl rfl rfl ?_
      exact gg_ir rfl
theorem gm_11 (a1 : Nat) (x2 : Int) (h1 : gb_kd a1 = 1) {σ : gb_S} : gb_M (fx_11 a1 x2 σ) 2 c0 eI 11 [vr c0 26, vr c0 a1, vi x2] σ := by
  rw [fx_11]
  refine gg_m (own := 0) (rt := (some .int)) (hnd := fun _ _ => none) (K := gk_11) (δ := 1) rfl rfl ?_
  refine gg_al 1 0 rfl rfl rfl ?_
  refine gg_gi 4 rfl rfl rfl gcl_26 rfl ?_
  refine gg_il 5 2 rfl rfl rfl ?_
  refine gg_cI 8 rfl (gm_123 _ _) (Nat.le_of_ble_eq_true rfl) (gb_ss rfl rfl rfl rfl rfl rfl rfl) rfl (fun _ => rfl) (fun _ => rfl) (fun r1 s2 => ?_)
  refine gg_q (fun q3 => ?_)
  refine gg_zeq 19 11 rfl rfl rfl rfl q3 ?_ ?_
  · refine gg_ci 20 0 rfl rfl ?_
    exact gg_ir rfl
  · refine gg_al 12 1 rfl rfl rfl ?_
    refine gg_il 13 2 rfl rfl rfl ?_
    refine gg_cI 16 rfl (gm_13 _ _ h1) (Nat.le_of_ble_eq_true rfl) (gb_vs rfl rfl rfl rfl rfl (ges0 h1) rfl rfl rfl) rfl (fun _ => rfl) (fun _ => rfl) (fun r4 s5 => ?_)
    refine gg_go 20 rfl rfl rfl ?_
    exact gg_ir rfl
theorem gm_69 (a0 : Nat) (h0 : gb_kd a0 = 6) {σ : gb_S} : gb_M (fx_69 a0 σ) 2 c0 eV 69 [vr c0 a0] σ := by
  rw [fx_69]
  refine gg_m (own := 6) (rt := none) (hnd := fun _ _ => none) (K := gk_69) (δ := 1) rfl rfl ?_
  refine gg_al 1 0 rfl rfl rfl ?_
  refine gg_gr 4 (a0 + 1) rfl rfl rfl (gsh0 h0) rfl ?_
  refine gg_cl 5 0 rfl rfl ?_
  refine gg_cF 8 rfl (gm_126 (gsh1 h0)) (Nat.le_of_ble_eq_true rfl) (gb_ss rfl rfl rfl rfl rfl rfl rfl) rfl (fun _ => rfl) (fun _ => rfl) ?_
  refine gg_al 9 0 rfl rfl rfl ?_
  refine gg_gr 12 (a0 + 2) rfl rfl rfl (gsh0 h0) rfl ?_
  refine gg_cl 13 1 rfl rfl ?_
  refine gg_cF 16 rfl (gm_126 (gsh2 h0)) (Nat.le_of_ble_eq_true rfl) (gb_ss rfl rfl rfl rfl rfl rfl rfl) rfl (fun _ => rfl) (fun _ => rfl) ?_
  exact gg_vr rfl
theorem gt_10_121 {k89 : Nat → Nat → Int → Int → Int → Int → Int → gb_S → Option gb_P} (hk89 : ∀ (a1 : Nat) (a2 : Nat) (x3 : Int) (x4 : Int) (x5 : Int) (x6 : Int) (x7 : Int) (h1 : gb_kd a1 = 1) (h2 : gb_kd a2 = 6) {lo : gh_L} (l0 : lo.lookup 0 = some (vr c0 26)) (l1 : lo.lookup 1 = some (vr c0 a1)) (l2 : lo.lookup 2 = some (vr c0 a2)) (l3 : lo.lookup 3 = some (vi x3)) (l4 : lo.lookup 4 = some (vi x4)) (l5 : lo.lookup 5 = some (vi x5)) (l6 : lo.lookup 6 = some (vi x6)) (l7 : lo.lookup 7 = some (vi x7)) {σ : gb_S}, gb_G (k89 a1 a2 x3 x4 x5 x6 x7 σ) 2 0 none (fun _ _ => none) gk_10 c0 eV 89 lo [] σ) (a1 : Nat) (a2 : Nat) (x3 : Int) (x4 : Int) (x5 : Int) (x6 : Int) (x7 : Int) (h1 : gb_kd a1 = 1) (h2 : gb_kd a2 = 6) {lo : gh_L} (l0 : lo.lookup 0 = some (vr c0 26)) (l1 : lo.lookup 1 = some (vr c0 a1)) (l2 : lo.lookup 2 = some (vr c0 a2)) (l3 : lo.lookup 3 = some (vi x3)) (l4 : lo.lookup 4 = some (vi x4)) (l5 : lo.lookup 5 = some (vi x5)) (l6 : lo.lookup 6 = some (vi x6)) (l7 : lo.lookup 7 = some (vi x7)) {σ : gb_S} : gb_G (fx_10_121 k89 a1 a2 x3 x4 x5 x6 x7 σ) 2 0 none (fun _ _ => none) gk_10 c0 eV 121 lo [] σ := by
  rw [fx_10_121]
  refine gg_il 123 5 rfl rfl l5 ?_
  refine gg_q (fun q1 => ?_)
  refine gg_zeq 166 126 rfl rfl rfl rfl q1 ?_ ?_
  · refine gg_inc 169 rfl rfl l7 ?_
    refine gg_go 89 rfl rfl rfl ?_
    exact hk89 a1 a2 x3 x4 x5 x6 (x7 + 1) h1 h2 (gl1 rfl rfl l0) (gl1 rfl rfl l1) (gl1 rfl rfl l2) (gl1 rfl rfl l3) (gl1 rfl rfl l4) (gl1 rfl rfl l5) (gl1 rfl rfl l6) gs1
  · refine gg_al 127 0 rfl rfl l0 ?_
    refine gg_gi 130 rfl rfl rfl gcl_26 rfl ?_
    refine gg_il 132 7 rfl rfl l7 ?_
    refine gg_cI 135 rfl (gm_123 _ _) (Nat.le_of_ble_eq_true rfl) (gb_ss rfl rfl rfl rfl rfl rfl rfl) rfl (fun _ => rfl) (fun _ => rfl) (fun r2 s3 => ?_)
    refine gg_q (fun q4 => ?_)
    refine gg_zeq 166 138 rfl rfl rfl rfl q4 ?_ ?_
    · refine gg_inc 169 rfl rfl l7 ?_
      refine gg_go 89 rfl rfl rfl ?_
      exact hk89 a1 a2 x3 x4 x5 x6 (x7 + 1) h1 h2 (gl1 rfl rfl l0) (gl1 rfl rfl l1) (gl1 rfl rfl l2) (gl1 rfl rfl l3) (gl1 rfl rfl l4) (gl1 rfl rfl l5) (gl1 rfl rfl l6) gs1
    · refine gg_al 139 2 rfl rfl l2 ?_
      refine gg_il 141 7 rfl rfl l7 ?_
      refine gg_al 142 0 rfl rfl l0 ?_
      refine gg_gr 145 27 rfl rfl rfl gcl_26 rfl ?_
      refine gg_il 147 7 rfl rfl l7 ?_
      refine gg_cLo 150 rfl (gm_71 _ _ (rfl : gb_kd 27 = 6)) (Nat.le_of_ble_eq_true rfl) (gb_vs rfl rfl rfl rfl rfl gcl_27 rfl rfl rfl) rfl (fun _ => rfl) (fun _ => rfl) (fun r5 s6 => ?_)
      refine gg_al 151 0 rfl rfl l0 ?_
      refine gg_gr 154 27 rfl rfl rfl gcl_26 rfl ?_
      refine gg_il 156 7 rfl rfl l7 ?_
      refine gg_cLo 159 rfl (gm_72 _ _ (rfl : gb_kd 27 = 6)) (Nat.le_of_ble_eq_true rfl) (gb_vs rfl rfl rfl rfl rfl gcl_27 rfl rfl rfl) rfl (fun _ => rfl) (fun _ => rfl) (fun r7 s8 => ?_)
      refine gg_il 161 6 rfl rfl l6 ?_
      refine gg_q (fun q9 => ?_)
      refine gg_i2l 162 rfl rfl q9 ?_
      refine gg_lmul 163 rfl rfl ?_
      refine gg_cV 166 rfl (gm_73 _ _ _ _ h2) (Nat.le_of_ble_eq_true rfl) (gb_vs rfl rfl rfl rfl rfl (gsh0 h2) rfl rfl rfl) rfl (fun _ => rfl) (fun _ => rfl) (fun s11 => ?_)
      refine gg_inc 169 rfl rfl l7 ?_
      refine gg_go 89 rfl rfl rfl ?_
      exact hk89 a1 a2 x3 x4 x5 x6 (x7 + 1) h1 h2 (gl1 rfl rfl l0) (gl1 rfl rfl l1) (gl1 rfl rfl l2) (gl1 rfl rfl l3) (gl1 rfl rfl l4) (gl1 rfl rfl l5) (gl1 rfl rfl l6) gs1
theorem gt_10_89 (k : Nat) : ∀ (a1 : Nat) (a2 : Nat) (x3 : Int) (x4 : Int) (x5 : Int) (x6 : Int) (x7 : Int) (h1 : gb_kd a1 = 1) (h2 : gb_kd a2 = 6) {lo : gh_L} (l0 : lo.lookup 0 = some (vr c0 26)) (l1 : lo.lookup 1 = some (vr c0 a1)) (l2 : lo.lookup 2 = some (vr c0 a2)) (l3 : lo.lookup 3 = some (vi x3)) (l4 : lo.lookup 4 = some (vi x4)) (l5 : lo.lookup 5 = some (vi x5)) (l6 : lo.lookup 6 = some (vi x6)) (l7 : lo.lookup 7 = some (vi x7)) {σ : gb_S}, gb_G (fx_10_89 k a1 a2 x3 x4 x5 x6 x7 σ) 2 0 none (fun _ _ => none) gk_10 c0 eV 89 lo [] σ := by
  induction k with
  | zero => intros; exact gg_n
  | succ k ih =>
    intro a1 a2 x3 x4 x5 x6 x7 h1 h2 lo l0 l1 l2 l3 l4 l5 l6 l7 σ
    rw [fx_10_89]
    refine gg_il 91 7 rfl rfl l7 ?_
    refine gg_ci 93 14 rfl rfl ?_
    refine gg_q (fun q1 => ?_)
    refine gg_ige 172 96 rfl rfl rfl rfl q1 (gRl rfl) ?_ ?_
    · exact gg_vr rfl
    · refine gg_il 98 4 rfl rfl l4 ?_
      refine gg_q (fun q2 => ?_)
      refine gg_zeq 121 101 rfl rfl rfl rfl q2 ?_ ?_
      · exact gt_10_121 ih a1 a2 x3 x4 x5 x6 x7 h1 h2 l0 l1 l2 l3 l4 l5 l6 l7
      · refine gg_al 102 2 rfl rfl l2 ?_
        refine gg_il 104 7 rfl rfl l7 ?_
        refine gg_al 105 0 rfl rfl l0 ?_
        refine gg_al 106 1 rfl rfl l1 ?_
        refine gg_il 108 7 rfl rfl l7 ?_
        refine gg_cI 111 rfl (gm_11 _ _ h1) (Nat.le_of_ble_eq_true rfl) (gb_vs rfl rfl rfl rfl rfl gcl_26 rfl rfl rfl) rfl (fun _ => rfl) (fun _ => rfl) (fun r3 s4 => ?_)
        refine gg_q (fun q5 => ?_)
        refine gg_i2l 112 rfl rfl q5 ?_
        refine gg_il 113 3 rfl rfl l3 ?_
        refine gg_q (fun q6 => ?_)
        refine gg_i2l 114 rfl rfl q6 ?_
        refine gg_il 116 6 rfl rfl l6 ?_
        refine gg_q (fun q7 => ?_)
        refine gg_i2l 117 rfl rfl q7 ?_
        refine gg_lmul 118 rfl rfl ?_
        refine gg_cV 121 rfl (gm_73 _ _ _ _ h2) (Nat.le_of_ble_eq_true rfl) (gb_vs rfl rfl rfl rfl rfl (gsh0 h2) rfl rfl rfl) rfl (fun _ => rfl) (fun _ => rfl) (fun s9 => ?_)
        exact gt_10_121 ih a1 a2 x3 x4 x5 x6 x7 h1 h2 l0 l1 l2 l3 l4 l5 l6 l7
theorem gt_10_63 (a1 : Nat) (a2 : Nat) (x3 : Int) (x4 : Int) (y0 : Int) (h1 : gb_kd a1 = 1) (h2 : gb_kd a2 = 6) {lo : gh_L} (l0 : lo.lookup 0 = some (vr c0 26)) (l1 : lo.lookup 1 = some (vr c0 a1)) (l2 : lo.lookup 2 = some (vr c0 a2)) (l3 : lo.lookup 3 = some (vi x3)) (l4 : lo.lookup 4 = some (vi x4)) {σ : gb_S} : gb_G (fx_10_63 a1 a2 x3 x4 y0 σ) 2 0 none (fun _ _ => none) gk_10 c0 eV 63 lo [vi y0] σ := by
  rw [fx_10_63]
  refine gg_s 65 rfl rfl ?_
  refine gg_il 67 4 rfl rfl (gl1 rfl rfl l4) ?_
  refine gg_q (fun q1 => ?_)
  refine gg_zeq 79 70 rfl rfl rfl rfl q1 ?_ ?_
  · refine gg_ci 80 1 rfl rfl ?_
    refine gg_s 82 rfl rfl ?_
    refine gg_al 83 2 rfl rfl (gl1 rfl rfl (gl1 rfl rfl l2)) ?_
    refine gg_cV 86 rfl (gm_69 _ h2) (Nat.le_of_ble_eq_true rfl) (gb_vs rfl rfl rfl rfl rfl (gsh0 h2) rfl rfl rfl) rfl (fun _ => rfl) (fun _ => rfl) (fun s3 => ?_)
    refine gg_ci 87 0 rfl rfl ?_
    refine gg_s 89 rfl rfl ?_
    exact gt_10_89 gFU a1 a2 x3 x4 y0 1 0 h1 h2 (gl1 rfl rfl (gl1 rfl rfl (gl1 rfl rfl l0))) (gl1 rfl rfl (gl1 rfl rfl (gl1 rfl rfl l1))) (gl1 rfl rfl (gl1 rfl rfl (gl1 rfl rfl l2))) (gl1 rfl rfl (gl1 rfl rfl (gl1 rfl rfl l3))) (gl1 rfl rfl (gl1 rfl rfl (gl1 rfl rfl l4))) (gl1 rfl rfl (gl1 rfl rfl gs1)) (gl1 rfl rfl gs1) gs1
  · refine gg_il 72 5 rfl rfl gs1 ?_
    refine gg_q (fun q4 => ?_)
    refine gg_zeq 79 75 rfl rfl rfl rfl q4 ?_ ?_
    · refine gg_ci 80 1 rfl rfl ?_
      refine gg_s 82 rfl rfl ?_
      refine gg_al 83 2 rfl rfl (gl1 rfl rfl (gl1 rfl rfl l2)) ?_
      refine gg_cV 86 rfl (gm_69 _ h2) (Nat.le_of_ble_eq_true rfl) (gb_vs rfl rfl rfl rfl rfl (gsh0 h2) rfl rfl rfl) rfl (fun _ => rfl) (fun _ => rfl) (fun s6 => ?_)
      refine gg_ci 87 0 rfl rfl ?_
      refine gg_s 89 rfl rfl ?_
      exact gt_10_89 gFU a1 a2 x3 x4 y0 1 0 h1 h2 (gl1 rfl rfl (gl1 rfl rfl (gl1 rfl rfl l0))) (gl1 rfl rfl (gl1 rfl rfl (gl1 rfl rfl l1))) (gl1 rfl rfl (gl1 rfl rfl (gl1 rfl rfl l2))) (gl1 rfl rfl (gl1 rfl rfl (gl1 rfl rfl l3))) (gl1 rfl rfl (gl1 rfl rfl (gl1 rfl rfl l4))) (gl1 rfl rfl (gl1 rfl rfl gs1)) (gl1 rfl rfl gs1) gs1
    · refine gg_ci 76 2 rfl rfl ?_
      refine gg_go 80 rfl rfl rfl ?_
      refine gg_s 82 rfl rfl ?_
      refine gg_al 83 2 rfl rfl (gl1 rfl rfl (gl1 rfl rfl l2)) ?_
      refine gg_cV 86 rfl (gm_69 _ h2) (Nat.le_of_ble_eq_true rfl) (gb_vs rfl rfl rfl rfl rfl (gsh0 h2) rfl rfl rfl) rfl (fun _ => rfl) (fun _ => rfl) (fun s8 => ?_)
      refine gg_ci 87 0 rfl rfl ?_
      refine gg_s 89 rfl rfl ?_
      exact gt_10_89 gFU a1 a2 x3 x4 y0 2 0 h1 h2 (gl1 rfl rfl (gl1 rfl rfl (gl1 rfl rfl l0))) (gl1 rfl rfl (gl1 rfl rfl (gl1 rfl rfl l1))) (gl1 rfl rfl (gl1 rfl rfl (gl1 rfl rfl l2))) (gl1 rfl rfl (gl1 rfl rfl (gl1 rfl rfl l3))) (gl1 rfl rfl (gl1 rfl rfl (gl1 rfl rfl l4))) (gl1 rfl rfl (gl1 rfl rfl gs1)) (gl1 rfl rfl gs1) gs1
theorem gt_10_37 (a1 : Nat) (a2 : Nat) (x3 : Int) (y0 : Int) (h1 : gb_kd a1 = 1) (h2 : gb_kd a2 = 6) {lo : gh_L} (l0 : lo.lookup 0 = some (vr c0 26)) (l1 : lo.lookup 1 = some (vr c0 a1)) (l2 : lo.lookup 2 = some (vr c0 a2)) (l3 : lo.lookup 3 = some (vi x3)) {σ : gb_S} : gb_G (fx_10_37 a1 a2 x3 y0 σ) 2 0 none (fun _ _ => none) gk_10 c0 eV 37 lo [vi y0] σ := by
  rw [fx_10_37]
  refine gg_s 39 rfl rfl ?_
  refine gg_il 41 4 rfl rfl gs1 ?_
  refine gg_q (fun q1 => ?_)
  refine gg_zeq 58 44 rfl rfl rfl rfl q1 ?_ ?_
  · refine gg_ci 59 1 rfl rfl ?_
    refine gg_go 63 rfl rfl rfl ?_
    exact gt_10_63 a1 a2 x3 y0 1 h1 h2 (gl1 rfl rfl l0) (gl1 rfl rfl l1) (gl1 rfl rfl l2) (gl1 rfl rfl l3) gs1
  · refine gg_al 45 0 rfl rfl (gl1 rfl rfl l0) ?_
    refine gg_gi 48 rfl rfl rfl gcl_26 rfl ?_
    refine gg_al 49 1 rfl rfl (gl1 rfl rfl l1) ?_
    refine gg_gi 52 rfl rfl rfl (ges0 h1) rfl ?_
    refine gg_cI 55 rfl (gm_123 _ _) (Nat.le_of_ble_eq_true rfl) (gb_ss rfl rfl rfl rfl rfl rfl rfl) rfl (fun _ => rfl) (fun _ => rfl) (fun r2 s3 => ?_)
    refine gg_q (fun q4 => ?_)
    refine gg_zeq 62 58 rfl rfl rfl rfl q4 ?_ ?_
    · refine gg_ci 63 0 rfl rfl ?_
      exact gt_10_63 a1 a2 x3 y0 0 h1 h2 (gl1 rfl rfl l0) (gl1 rfl rfl l1) (gl1 rfl rfl l2) (gl1 rfl rfl l3) gs1
    · refine gg_ci 59 1 rfl rfl ?_
      refine gg_go 63 rfl rfl rfl ?_
      exact gt_10_63 a1 a2 x3 y0 1 h1 h2 (gl1 rfl rfl l0) (gl1 rfl rfl l1) (gl1 rfl rfl l2) (gl1 rfl rfl l3) gs1
theorem gt_10_5 (k : Nat) : ∀ (a1 : Nat) (a2 : Nat) (x3 : Int) (x4 : Int) (h1 : gb_kd a1 = 1) (h2 : gb_kd a2 = 6) {lo : gh_L} (l0 : lo.lookup 0 = some (vr c0 26)) (l1 : lo.lookup 1 = some (vr c0 a1)) (l2 : lo.lookup 2 = some (vr c0 a2)) (l3 : lo.lookup 3 = some (vi x3)) (l4 : lo.lookup 4 = some (vi x4)) {σ : gb_S}, gb_G (fx_10_5 k a1 a2 x3 x4 σ) 2 0 none (fun _ _ => none) gk_10 c0 eV 5 lo [] σ := by
  induction k with
  | zero => intros; exact gg_n
  | succ k ih =>
    intro a1 a2 x3 x4 h1 h2 lo l0 l1 l2 l3 l4 σ
    rw [fx_10_5]
    refine gg_il 7 4 rfl rfl l4 ?_
    refine gg_ci 9 14 rfl rfl ?_
    refine gg_q (fun q1 => ?_)
    refine gg_ige 28 12 rfl rfl rfl rfl q1 (gRl rfl) ?_ ?_
    · refine gg_il 29 3 rfl rfl l3 ?_
      refine gg_q (fun q2 => ?_)
      refine gg_zle 36 32 rfl rfl rfl rfl q2 ?_ ?_
      · refine gg_ci 37 0 rfl rfl ?_
        exact gt_10_37 a1 a2 x3 0 h1 h2 l0 l1 l2 l3
      · refine gg_ci 33 1 rfl rfl ?_
        refine gg_go 37 rfl rfl rfl ?_
        exact gt_10_37 a1 a2 x3 1 h1 h2 l0 l1 l2 l3
    · refine gg_il 13 3 rfl rfl l3 ?_
      refine gg_al 14 0 rfl rfl l0 ?_
      refine gg_al 15 1 rfl rfl l1 ?_
      refine gg_il 17 4 rfl rfl l4 ?_
      refine gg_cI 20 rfl (gm_11 _ _ h1) (Nat.le_of_ble_eq_true rfl) (gb_vs rfl rfl rfl rfl rfl gcl_26 rfl rfl rfl) rfl (fun _ => rfl) (fun _ => rfl) (fun r3 s4 => ?_)
      refine gg_add 21 rfl rfl ?_
      refine gg_s 22 rfl rfl ?_
      refine gg_inc 25 rfl rfl (gl1 rfl rfl l4) ?_
      refine gg_go 5 rfl rfl rfl ?_
      exact ih a1 a2 (x3 + r3) (x4 + 1) h1 h2 (gl1 rfl rfl (gl1 rfl rfl l0)) (gl1 rfl rfl (gl1 rfl rfl l1)) (gl1 rfl rfl (gl1 rfl rfl l2)) (gl1 rfl rfl gs1) gs1
theorem gm_10 (a1 : Nat) (a2 : Nat) (h1 : gb_kd a1 = 1) (h2 : gb_kd a2 = 6) {σ : gb_S} : gb_M (fx_10 a1 a2 σ) 3 c0 eV 10 [vr c0 26, vr c0 a1, vr c0 a2] σ := by
  rw [fx_10]
  refine gg_m (own := 0) (rt := none) (hnd := fun _ _ => none) (K := gk_10) (δ := 2) rfl rfl ?_
  refine gg_ci 1 0 rfl rfl ?_
  refine gg_s 2 rfl rfl ?_
  refine gg_ci 3 0 rfl rfl ?_
  refine gg_s 5 rfl rfl ?_
  exact gt_10_5 gFU a1 a2 0 0 h1 h2 (gl1 rfl rfl (gl1 rfl rfl rfl)) (gl1 rfl rfl (gl1 rfl rfl rfl)) (gl1 rfl rfl (gl1 rfl rfl rfl)) (gl1 rfl rfl gs1) gs1
theorem gt_1_39 (k : Nat) : ∀ (a2 : Nat) (a3 : Nat) (a4 : Nat) (x5 : Int) (h2 : gb_kd a2 = 3) (h3 : gb_kd a3 = 1) (h4 : gb_kd a4 = 6) {lo : gh_L} (l0 : lo.lookup 0 = some (vr c0 26)) (l1 : lo.lookup 1 = some (vr c0 2)) (l2 : lo.lookup 2 = some (vr c0 a2)) (l3 : lo.lookup 3 = some (vr c0 a3)) (l4 : lo.lookup 4 = some (vr c0 a4)) (l5 : lo.lookup 5 = some (vi x5)) {σ : gb_S}, gb_G (fx_1_39 k a2 a3 a4 x5 σ) 4 0 none (fun _ _ => none) gk_1 c0 eV 39 lo [] σ := by
  induction k with
  | zero => intros; exact gg_n
  | succ k ih =>
    intro a2 a3 a4 x5 h2 h3 h4 lo l0 l1 l2 l3 l4 l5 σ
    rw [fx_1_39]
    refine gg_il 41 5 rfl rfl l5 ?_
    refine gg_al 42 1 rfl rfl l1 ?_
    refine gg_gi 45 rfl rfl rfl gcl_2 rfl ?_
    refine gg_q (fun q1 => ?_)
    refine gg_q (fun q2 => ?_)
    refine gg_ige 95 48 rfl rfl rfl rfl q1 q2 ?_ ?_
    · refine gg_al 96 0 rfl rfl l0 ?_
      refine gg_al 97 3 rfl rfl l3 ?_
      refine gg_al 99 4 rfl rfl l4 ?_
      refine gg_cV 102 rfl (gm_10 _ _ h3 h4) (Nat.le_of_ble_eq_true rfl) (gb_vs rfl rfl rfl rfl rfl gcl_26 rfl rfl rfl) rfl (fun _ => rfl) (fun _ => rfl) (fun s4 => ?_)
      exact gg_vr rfl
    · refine gg_al 49 1 rfl rfl l1 ?_
      refine gg_il 51 5 rfl rfl l5 ?_
      refine gg_cI 54 rfl (gm_28 _) (Nat.le_of_ble_eq_true rfl) (gb_vs rfl rfl rfl rfl rfl gcl_2 rfl rfl rfl) rfl (fun _ => rfl) (fun _ => rfl) (fun r5 s6 => ?_)
      refine gg_s 56 rfl rfl ?_
      refine gg_al 57 0 rfl rfl (gl1 rfl rfl l0) ?_
      refine gg_gi 60 rfl rfl rfl gcl_26 rfl ?_
      refine gg_il 62 6 rfl rfl gs1 ?_
      refine gg_cI 65 rfl (gm_123 _ _) (Nat.le_of_ble_eq_true rfl) (gb_ss rfl rfl rfl rfl rfl rfl rfl) rfl (fun _ => rfl) (fun _ => rfl) (fun r7 s8 => ?_)
      refine gg_q (fun q9 => ?_)
      refine gg_zne 89 68 rfl rfl rfl rfl q9 ?_ ?_
      · refine gg_inc 92 rfl rfl (gl1 rfl rfl l5) ?_
        refine gg_go 39 rfl rfl rfl ?_
        exact ih a2 a3 a4 (x5 + 1) h2 h3 h4 (gl1 rfl rfl (gl1 rfl rfl l0)) (gl1 rfl rfl (gl1 rfl rfl l1)) (gl1 rfl rfl (gl1 rfl rfl l2)) (gl1 rfl rfl (gl1 rfl rfl l3)) (gl1 rfl rfl (gl1 rfl rfl l4)) gs1
      · refine gg_al 69 0 rfl rfl (gl1 rfl rfl l0) ?_
        refine gg_gr 72 27 rfl rfl rfl gcl_26 rfl ?_
        refine gg_il 74 6 rfl rfl gs1 ?_
        refine gg_cLo 77 rfl (gm_71 _ _ (rfl : gb_kd 27 = 6)) (Nat.le_of_ble_eq_true rfl) (gb_vs rfl rfl rfl rfl rfl gcl_27 rfl rfl rfl) rfl (fun _ => rfl) (fun _ => rfl) (fun r10 s11 => ?_)
        refine gg_cl 78 0 rfl rfl ?_
        refine gg_q (fun q12 => ?_)
        refine gg_Lle 89 82 rfl rfl rfl rfl rfl q12 ⟨by decide, by decide⟩ ?_ ?_
        · refine gg_inc 92 rfl rfl (gl1 rfl rfl l5) ?_
          refine gg_go 39 rfl rfl rfl ?_
          exact ih a2 a3 a4 (x5 + 1) h2 h3 h4 (gl1 rfl rfl (gl1 rfl rfl l0)) (gl1 rfl rfl (gl1 rfl rfl l1)) (gl1 rfl rfl (gl1 rfl rfl l2)) (gl1 rfl rfl (gl1 rfl rfl l3)) (gl1 rfl rfl (gl1 rfl rfl l4)) gs1
        · refine gg_al 83 0 rfl rfl (gl1 rfl rfl l0) ?_
          refine gg_il 85 6 rfl rfl gs1 ?_
          refine gg_al 86 2 rfl rfl (gl1 rfl rfl l2) ?_
          refine gg_cV 89 rfl (gm_2 _ _ h2) (Nat.le_of_ble_eq_true rfl) (gb_vs rfl rfl rfl rfl rfl gcl_26 rfl rfl rfl) rfl (fun _ => rfl) (fun _ => rfl) (fun s14 => ?_)
          refine gg_inc 92 rfl rfl (gl1 rfl rfl l5) ?_
          refine gg_go 39 rfl rfl rfl ?_
          exact ih a2 a3 a4 (x5 + 1) h2 h3 h4 (gl1 rfl rfl (gl1 rfl rfl l0)) (gl1 rfl rfl (gl1 rfl rfl l1)) (gl1 rfl rfl (gl1 rfl rfl l2)) (gl1 rfl rfl (gl1 rfl rfl l3)) (gl1 rfl rfl (gl1 rfl rfl l4)) gs1
theorem gt_1_17 (k : Nat) : ∀ (a2 : Nat) (a3 : Nat) (a4 : Nat) (x5 : Int) (h2 : gb_kd a2 = 3) (h3 : gb_kd a3 = 1) (h4 : gb_kd a4 = 6) {lo : gh_L} (l0 : lo.lookup 0 = some (vr c0 26)) (l1 : lo.lookup 1 = some (vr c0 2)) (l2 : lo.lookup 2 = some (vr c0 a2)) (l3 : lo.lookup 3 = some (vr c0 a3)) (l4 : lo.lookup 4 = some (vr c0 a4)) (l5 : lo.lookup 5 = some (vi x5)) {σ : gb_S}, gb_G (fx_1_17 k a2 a3 a4 x5 σ) 4 0 none (fun _ _ => none) gk_1 c0 eV 17 lo [] σ := by
  induction k with
  | zero => intros; exact gg_n
  | succ k ih =>
    intro a2 a3 a4 x5 h2 h3 h4 lo l0 l1 l2 l3 l4 l5 σ
    rw [fx_1_17]
    refine gg_il 19 5 rfl rfl l5 ?_
    refine gg_ci 21 14 rfl rfl ?_
    refine gg_q (fun q1 => ?_)
    refine gg_ige 36 24 rfl rfl rfl rfl q1 (gRl rfl) ?_ ?_
    · refine gg_ci 37 0 rfl rfl ?_
      refine gg_s 39 rfl rfl ?_
      exact gt_1_39 gFU a2 a3 a4 0 h2 h3 h4 (gl1 rfl rfl l0) (gl1 rfl rfl l1) (gl1 rfl rfl l2) (gl1 rfl rfl l3) (gl1 rfl rfl l4) gs1
    · refine gg_al 25 0 rfl rfl l0 ?_
      refine gg_il 27 5 rfl rfl l5 ?_
      refine gg_cV 30 rfl (gm_6 _) (Nat.le_of_ble_eq_true rfl) (gb_vs rfl rfl rfl rfl rfl gcl_26 rfl rfl rfl) rfl (fun _ => rfl) (fun _ => rfl) (fun s3 => ?_)
      refine gg_inc 33 rfl rfl l5 ?_
      refine gg_go 17 rfl rfl rfl ?_
      exact ih a2 a3 a4 (x5 + 1) h2 h3 h4 (gl1 rfl rfl l0) (gl1 rfl rfl l1) (gl1 rfl rfl l2) (gl1 rfl rfl l3) (gl1 rfl rfl l4) gs1
theorem gm_1 (a2 : Nat) (a3 : Nat) (a4 : Nat) (h2 : gb_kd a2 = 3) (h3 : gb_kd a3 = 1) (h4 : gb_kd a4 = 6) {σ : gb_S} : gb_M (fx_1 a2 a3 a4 σ) 5 c0 eV 1 [vr c0 26, vr c0 2, vr c0 a2, vr c0 a3, vr c0 a4] σ := by
  rw [fx_1]
  refine gg_m (own := 0) (rt := none) (hnd := fun _ _ => none) (K := gk_1) (δ := 4) rfl rfl ?_
  refine gg_al 1 0 rfl rfl rfl ?_
  refine gg_al 2 1 rfl rfl rfl ?_
  refine gg_al 3 2 rfl rfl rfl ?_
  refine gg_al 4 3 rfl rfl rfl ?_
  refine gg_cV 7 rfl (gm_7 _ _ h2 h3) (Nat.le_of_ble_eq_true rfl) (gb_vs rfl rfl rfl rfl rfl gcl_26 rfl rfl rfl) rfl (fun _ => rfl) (fun _ => rfl) (fun s2 => ?_)
  refine gg_al 8 0 rfl rfl rfl ?_
  refine gg_gr 11 27 rfl rfl rfl gcl_26 rfl ?_
  refine gg_cV 14 rfl (gm_69 _ (rfl : gb_kd 27 = 6)) (Nat.le_of_ble_eq_true rfl) (gb_vs rfl rfl rfl rfl rfl gcl_27 rfl rfl rfl) rfl (fun _ => rfl) (fun _ => rfl) (fun s4 => ?_)
  refine gg_ci 15 0 rfl rfl ?_
  refine gg_s 17 rfl rfl ?_
  exact gt_1_17 gFU a2 a3 a4 0 h2 h3 h4 (gl1 rfl rfl rfl) (gl1 rfl rfl rfl) (gl1 rfl rfl rfl) (gl1 rfl rfl rfl) (gl1 rfl rfl rfl) gs1
theorem gm_5 {d : Nat} {rec : Int → Nat → Int → gb_S → Option gb_P} (hd20 : 20 ≤ d) (hrec : ∀ (x1 : Int) (a2 : Nat) (x3 : Int) (h2 : gb_kd a2 = 3) {σ : gb_S}, gb_M (rec x1 a2 x3 σ) d c0 eV 4 [vr c0 26, vi x1, vr c0 a2, vi x3] σ) (x1 : Int) (x2 : Int) (a3 : Nat) (x4 : Int) (h3 : gb_kd a3 = 3) {σ : gb_S} : gb_M (fx_5 rec x1 x2 a3 x4 σ) (d + 1) c0 eV 5 [vr c0 26, vi x1, vi x2, vr c0 a3, vi x4] σ := by
  rw [fx_5]
  refine gg_m (own := 0) (rt := none) (hnd := fun _ _ => none) (K := gk_5) (δ := d) rfl rfl ?_
  refine gg_il 1 1 rfl rfl rfl ?_
  refine gg_ci 2 (-1) rfl rfl ?_
  refine gg_q (fun q1 => ?_)
  refine gg_ieq 16 5 rfl rfl rfl rfl q1 (gRl rfl) ?_ ?_
  · exact gg_vr rfl
  · refine gg_al 6 0 rfl rfl rfl ?_
    refine gg_gi 9 rfl rfl rfl gcl_26 rfl ?_
    refine gg_il 10 1 rfl rfl rfl ?_
    refine gg_cI 13 rfl (gm_123 _ _) (by omega) (gb_ss rfl rfl rfl rfl rfl rfl rfl) rfl (fun _ => rfl) (fun _ => rfl) (fun r2 s3 => ?_)
    refine gg_q (fun q4 => ?_)
    refine gg_zeq 17 16 rfl rfl rfl rfl q4 ?_ ?_
    · refine gg_al 18 0 rfl rfl rfl ?_
      refine gg_il 19 1 rfl rfl rfl ?_
      refine gg_al 20 3 rfl rfl rfl ?_
      refine gg_il 22 4 rfl rfl rfl ?_
      refine gg_ci 23 1 rfl rfl ?_
      refine gg_add 24 rfl rfl ?_
      refine gg_cV 27 rfl (hrec _ _ _ h3) (by omega) (gb_vs rfl rfl rfl rfl rfl gcl_26 rfl rfl rfl) rfl (fun _ => rfl) (fun _ => rfl) (fun s6 => ?_)
      refine gg_al 28 3 rfl rfl rfl ?_
      refine gg_il 29 1 rfl rfl rfl ?_
      refine gg_cI 32 rfl (gm_32 _ _ h3) (by omega) (gb_vs rfl rfl rfl rfl rfl (gkin0 h3) rfl rfl rfl) rfl (fun _ => rfl) (fun _ => rfl) (fun r7 s8 => ?_)
      refine gg_al 33 0 rfl rfl rfl ?_
      refine gg_gi 36 rfl rfl rfl gcl_26 rfl ?_
      refine gg_and 37 rfl rfl ?_
      refine gg_cI 40 rfl (gm_124 _) (by omega) (gb_ss rfl rfl rfl rfl rfl rfl rfl) rfl (fun _ => rfl) (fun _ => rfl) (fun r9 s10 => ?_)
      refine gg_s 42 rfl rfl ?_
      refine gg_al 43 0 rfl rfl (gl1 rfl rfl rfl) ?_
      refine gg_gr 46 27 rfl rfl rfl gcl_26 rfl ?_
      refine gg_il 47 2 rfl rfl (gl1 rfl rfl rfl) ?_
      refine gg_al 48 0 rfl rfl (gl1 rfl rfl rfl) ?_
      refine gg_gr 51 27 rfl rfl rfl gcl_26 rfl ?_
      refine gg_il 52 1 rfl rfl (gl1 rfl rfl rfl) ?_
      refine gg_cLo 55 rfl (gm_71 _ _ (rfl : gb_kd 27 = 6)) (by omega) (gb_vs rfl rfl rfl rfl rfl gcl_27 rfl rfl rfl) rfl (fun _ => rfl) (fun _ => rfl) (fun r11 s12 => ?_)
      refine gg_al 56 0 rfl rfl (gl1 rfl rfl rfl) ?_
      refine gg_gr 59 27 rfl rfl rfl gcl_26 rfl ?_
      refine gg_il 60 1 rfl rfl (gl1 rfl rfl rfl) ?_
      refine gg_cLo 63 rfl (gm_72 _ _ (rfl : gb_kd 27 = 6)) (by omega) (gb_vs rfl rfl rfl rfl rfl gcl_27 rfl rfl rfl) rfl (fun _ => rfl) (fun _ => rfl) (fun r13 s14 => ?_)
      refine gg_il 65 5 rfl rfl gs1 ?_
      refine gg_q (fun q15 => ?_)
      refine gg_i2l 66 rfl rfl q15 ?_
      refine gg_lmul 67 rfl rfl ?_
      refine gg_cV 70 rfl (gm_73 _ _ _ _ (rfl : gb_kd 27 = 6)) (by omega) (gb_vs rfl rfl rfl rfl rfl gcl_27 rfl rfl rfl) rfl (fun _ => rfl) (fun _ => rfl) (fun s17 => ?_)
      exact gg_vr rfl
    · exact gg_vr rfl
theorem gm_4 (k : Nat) : ∀ (x1 : Int) (a2 : Nat) (x3 : Int) (h2 : gb_kd a2 = 3) {σ : gb_S}, gb_M (fx_4 k x1 a2 x3 σ) (2 * k + 20) c0 eV 4 [vr c0 26, vi x1, vr c0 a2, vi x3] σ := by
  induction k with
  | zero => intros; intro o σ1 h; cases h
  | succ k gm_4 =>
    intro x1 a2 x3 h2 σ
    rw [fx_4]
    refine gg_m (own := 0) (rt := none) (hnd := fun _ _ => none) (K := gk_4) (δ := (2 * k + 21)) rfl rfl ?_
    refine gg_il 1 3 rfl rfl rfl ?_
    refine gg_ci 3 14 rfl rfl ?_
    refine gg_q (fun q1 => ?_)
    refine gg_ige 28 6 rfl rfl rfl rfl q1 (gRl rfl) ?_ ?_
    · exact gg_vr rfl
    · refine gg_al 7 0 rfl rfl rfl ?_
      refine gg_gi 10 rfl rfl rfl gcl_26 rfl ?_
      refine gg_il 11 1 rfl rfl rfl ?_
      refine gg_cI 14 rfl (gm_123 _ _) (by omega) (gb_ss rfl rfl rfl rfl rfl rfl rfl) rfl (fun _ => rfl) (fun _ => rfl) (fun r2 s3 => ?_)
      refine gg_q (fun q4 => ?_)
      refine gg_zne 28 17 rfl rfl rfl rfl q4 ?_ ?_
      · exact gg_vr rfl
      · refine gg_al 18 0 rfl rfl rfl ?_
        refine gg_gi 21 rfl rfl rfl gcl_26 rfl ?_
        refine gg_il 22 1 rfl rfl rfl ?_
        refine gg_cI 25 rfl (gm_123 _ _) (by omega) (gb_ss rfl rfl rfl rfl rfl rfl rfl) rfl (fun _ => rfl) (fun _ => rfl) (fun r5 s6 => ?_)
        refine gg_q (fun q7 => ?_)
        refine gg_zne 29 28 rfl rfl rfl rfl q7 ?_ ?_
        · refine gg_al 30 0 rfl rfl rfl ?_
          refine gg_s 31 rfl rfl ?_
          refine gg_gi 34 rfl rfl rfl gcl_26 rfl ?_
          refine gg_ci 35 1 rfl rfl ?_
          refine gg_il 36 1 rfl rfl rfl ?_
          refine gg_shl 37 rfl rfl ?_
          refine gg_or 38 rfl rfl ?_
          refine gg_pf 41 rfl rfl rfl gcl_26 rfl ⟨rfl, rfl⟩ ?_
          refine gg_al 42 0 rfl rfl rfl ?_
          refine gg_il 43 1 rfl rfl rfl ?_
          refine gg_cV 46 rfl (gm_6 _) (by omega) (gb_vs rfl rfl rfl rfl rfl gcl_26 rfl rfl rfl) rfl (fun _ => rfl) (fun _ => rfl) (fun s9 => ?_)
          refine gg_al 47 0 rfl rfl rfl ?_
          refine gg_al 48 2 rfl rfl rfl ?_
          refine gg_il 49 1 rfl rfl rfl ?_
          refine gg_cI 52 rfl (gm_30 _ _ h2) (by omega) (gb_vs rfl rfl rfl rfl rfl (gkin0 h2) rfl rfl rfl) rfl (fun _ => rfl) (fun _ => rfl) (fun r10 s11 => ?_)
          refine gg_il 53 1 rfl rfl rfl ?_
          refine gg_al 54 2 rfl rfl rfl ?_
          refine gg_il 55 3 rfl rfl rfl ?_
          refine gg_cV 58 rfl (gm_5 (by omega) gm_4 _ _ _ _ h2) (by omega) (gb_vs rfl rfl rfl rfl rfl gcl_26 rfl rfl rfl) rfl (fun _ => rfl) (fun _ => rfl) (fun s13 => ?_)
          refine gg_al 59 0 rfl rfl rfl ?_
          refine gg_al 60 2 rfl rfl rfl ?_
          refine gg_il 61 1 rfl rfl rfl ?_
          refine gg_cI 64 rfl (gm_31 _ _ h2) (by omega) (gb_vs rfl rfl rfl rfl rfl (gkin0 h2) rfl rfl rfl) rfl (fun _ => rfl) (fun _ => rfl) (fun r14 s15 => ?_)
          refine gg_il 65 1 rfl rfl rfl ?_
          refine gg_al 66 2 rfl rfl rfl ?_
          refine gg_il 67 3 rfl rfl rfl ?_
          refine gg_cV 70 rfl (gm_5 (by omega) gm_4 _ _ _ _ h2) (by omega) (gb_vs rfl rfl rfl rfl rfl gcl_26 rfl rfl rfl) rfl (fun _ => rfl) (fun _ => rfl) (fun s17 => ?_)
          exact gg_vr rfl
        · exact gg_vr rfl
end GF0
