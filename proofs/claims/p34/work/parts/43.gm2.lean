section GF2
variable {c0 : gx_C}
theorem gt_55_59 (k : Nat) : ∀ (x2 : Int) (x4 : Int) (x5 : Int) {lo : gh_L} (l0 : lo.lookup 0 = some (vr c0 30)) (l2 : lo.lookup 2 = some (vi x2)) (l4 : lo.lookup 4 = some (vi x4)) (l5 : lo.lookup 5 = some (vi x5)) {σ : gb_S}, gb_G (fx_55_59 k x2 x4 x5 σ) 2 4 none (fun _ _ => none) gk_55 c0 eV 59 lo [] σ := by
  induction k with
  | zero => intros; exact gg_n
  | succ k ih =>
    intro x2 x4 x5 lo l0 l2 l4 l5 σ
    rw [fx_55_59]
    refine gg_il 61 5 rfl rfl l5 ?_
    refine gg_il 62 2 rfl rfl l2 ?_
    refine gg_q (fun q1 => ?_)
    refine gg_q (fun q2 => ?_)
    refine gg_ige 97 65 rfl rfl rfl rfl q1 q2 ?_ ?_
    · exact gg_vr rfl
    · refine gg_il 67 5 rfl rfl l5 ?_
      refine gg_ci 69 14 rfl rfl ?_
      refine gg_ige 97 72 rfl rfl rfl rfl q1 (gRl rfl) ?_ ?_
      · exact gg_vr rfl
      · refine gg_il 74 4 rfl rfl l4 ?_
        refine gg_q (fun q3 => ?_)
        refine gg_zle 97 77 rfl rfl rfl rfl q3 ?_ ?_
        · exact gg_vr rfl
        · refine gg_al 78 0 rfl rfl l0 ?_
          refine gg_gr 81 40 rfl rfl rfl gcl_30 rfl ?_
          refine gg_il 83 5 rfl rfl l5 ?_
          refine gg_s 84 rfl rfl ?_
          refine gg_q (fun q4 => ?_)
          refine gg_ial 85 rfl rfl gar_40 q4 ?_
          refine gg_ci 86 1 rfl rfl ?_
          refine gg_add 87 rfl rfl ?_
          refine gg_ias 88 rfl rfl gar_40 q4 ?_
          refine gg_inc 91 rfl rfl l4 ?_
          refine gg_inc 94 rfl rfl (gl1 rfl rfl l5) ?_
          refine gg_go 59 rfl rfl rfl ?_
          exact ih x2 (x4 + (-1)) (x5 + 1) (gl1 rfl rfl (gl1 rfl rfl l0)) (gl1 rfl rfl (gl1 rfl rfl l2)) (gl1 rfl rfl gs1) gs1
theorem gt_55_6 (k : Nat) : ∀ (x1 : Int) (x2 : Int) (a3 : Nat) (x4 : Int) (x5 : Int) (h3 : gb_kd a3 = 6) {lo : gh_L} (l0 : lo.lookup 0 = some (vr c0 30)) (l1 : lo.lookup 1 = some (vi x1)) (l2 : lo.lookup 2 = some (vi x2)) (l3 : lo.lookup 3 = some (vr c0 a3)) (l4 : lo.lookup 4 = some (vi x4)) (l5 : lo.lookup 5 = some (vi x5)) {σ : gb_S}, gb_G (fx_55_6 k x1 x2 a3 x4 x5 σ) 2 4 none (fun _ _ => none) gk_55 c0 eV 6 lo [] σ := by
  induction k with
  | zero => intros; exact gg_n
  | succ k ih =>
    intro x1 x2 a3 x4 x5 h3 lo l0 l1 l2 l3 l4 l5 σ
    rw [fx_55_6]
    refine gg_il 8 5 rfl rfl l5 ?_
    refine gg_il 9 2 rfl rfl l2 ?_
    refine gg_q (fun q1 => ?_)
    refine gg_q (fun q2 => ?_)
    refine gg_ige 56 12 rfl rfl rfl rfl q1 q2 ?_ ?_
    · refine gg_ci 57 0 rfl rfl ?_
      refine gg_s 59 rfl rfl ?_
      exact gt_55_59 gFU x2 x4 0 (gl1 rfl rfl l0) (gl1 rfl rfl l2) (gl1 rfl rfl l4) gs1
    · refine gg_il 14 5 rfl rfl l5 ?_
      refine gg_ci 16 14 rfl rfl ?_
      refine gg_ige 56 19 rfl rfl rfl rfl q1 (gRl rfl) ?_ ?_
      · refine gg_ci 57 0 rfl rfl ?_
        refine gg_s 59 rfl rfl ?_
        exact gt_55_59 gFU x2 x4 0 (gl1 rfl rfl l0) (gl1 rfl rfl l2) (gl1 rfl rfl l4) gs1
      · refine gg_al 20 0 rfl rfl l0 ?_
        refine gg_gr 23 40 rfl rfl rfl gcl_30 rfl ?_
        refine gg_il 25 5 rfl rfl l5 ?_
        refine gg_al 26 3 rfl rfl l3 ?_
        refine gg_al 27 0 rfl rfl l0 ?_
        refine gg_gr 30 39 rfl rfl rfl gcl_30 rfl ?_
        refine gg_il 32 5 rfl rfl l5 ?_
        refine gg_q (fun q3 => ?_)
        refine gg_ial 33 rfl rfl gar_39 q3 ?_
        refine gg_il 34 1 rfl rfl l1 ?_
        refine gg_cI 37 rfl (gm_74 _ _ _ h3) (Nat.le_of_ble_eq_true rfl) (gb_vs rfl rfl rfl rfl rfl (gsh0 h3) rfl rfl rfl) rfl (fun _ => rfl) (fun _ => rfl) (fun r4 s5 => ?_)
        refine gg_ias 38 rfl rfl gar_40 q3 ?_
        refine gg_il 40 4 rfl rfl l4 ?_
        refine gg_al 41 0 rfl rfl l0 ?_
        refine gg_gr 44 40 rfl rfl rfl gcl_30 rfl ?_
        refine gg_il 46 5 rfl rfl l5 ?_
        refine gg_ial 47 rfl rfl gar_40 q3 ?_
        refine gg_sub 48 rfl rfl ?_
        refine gg_s 50 rfl rfl ?_
        refine gg_inc 53 rfl rfl (gl1 rfl rfl l5) ?_
        refine gg_go 6 rfl rfl rfl ?_
        exact ih x1 x2 a3 (x4 - ((gb_up s5 40 x5.toNat r4) 40 x5.toNat)) (x5 + 1) h3 (gl1 rfl rfl (gl1 rfl rfl l0)) (gl1 rfl rfl (gl1 rfl rfl l1)) (gl1 rfl rfl (gl1 rfl rfl l2)) (gl1 rfl rfl (gl1 rfl rfl l3)) (gl1 rfl rfl gs1) gs1
theorem gm_55 (x1 : Int) (x2 : Int) (a3 : Nat) (h3 : gb_kd a3 = 6) {σ : gb_S} : gb_M (fx_55 x1 x2 a3 σ) 3 c0 eV 55 [vr c0 30, vi x1, vi x2, vr c0 a3] σ := by
  rw [fx_55]
  refine gg_m (own := 4) (rt := none) (hnd := fun _ _ => none) (K := gk_55) (δ := 2) rfl rfl ?_
  refine gg_il 1 1 rfl rfl rfl ?_
  refine gg_s 3 rfl rfl ?_
  refine gg_ci 4 0 rfl rfl ?_
  refine gg_s 6 rfl rfl ?_
  exact gt_55_6 gFU x1 x2 a3 x1 0 h3 (gl1 rfl rfl (gl1 rfl rfl rfl)) (gl1 rfl rfl (gl1 rfl rfl rfl)) (gl1 rfl rfl (gl1 rfl rfl rfl)) (gl1 rfl rfl (gl1 rfl rfl rfl)) (gl1 rfl rfl gs1) gs1
theorem gt_53_83 {k35 : Nat → Nat → Int → Int → Int → gb_S → Option gb_P} (hk35 : ∀ (a1 : Nat) (a2 : Nat) (x4 : Int) (x5 : Int) (x6 : Int) (h1 : gb_kd a1 = 20) (h2 : gb_kd a2 = 1) {lo : gh_L} (l0 : lo.lookup 0 = some (vr c0 30)) (l1 : lo.lookup 1 = some (vr c0 a1)) (l2 : lo.lookup 2 = some (vr c0 a2)) (l4 : lo.lookup 4 = some (vi x4)) (l5 : lo.lookup 5 = some (vi x5)) (l6 : lo.lookup 6 = some (vi x6)) {σ : gb_S}, gb_G (k35 a1 a2 x4 x5 x6 σ) 3 4 none (fun _ _ => none) gk_53 c0 eV 35 lo [] σ) (a1 : Nat) (a2 : Nat) (x4 : Int) (x5 : Int) (x6 : Int) (h1 : gb_kd a1 = 20) (h2 : gb_kd a2 = 1) {lo : gh_L} (l0 : lo.lookup 0 = some (vr c0 30)) (l1 : lo.lookup 1 = some (vr c0 a1)) (l2 : lo.lookup 2 = some (vr c0 a2)) (l4 : lo.lookup 4 = some (vi x4)) (l5 : lo.lookup 5 = some (vi x5)) (l6 : lo.lookup 6 = some (vi x6)) {σ : gb_S} : gb_G (fx_53_83 k35 a1 a2 x4 x5 x6 σ) 3 4 none (fun _ _ => none) gk_53 c0 eV 83 lo [] σ := by
  rw [fx_53_83]
  refine gg_al 84 1 rfl rfl l1 ?_
  refine gg_il 86 6 rfl rfl l6 ?_
  refine gg_al 87 0 rfl rfl l0 ?_
  refine gg_il 89 5 rfl rfl l5 ?_
  refine gg_il 91 4 rfl rfl l4 ?_
  refine gg_cI 94 rfl (gm_54 _ _) (Nat.le_of_ble_eq_true rfl) (gb_vs rfl rfl rfl rfl rfl gcl_30 rfl rfl rfl) rfl (fun _ => rfl) (fun _ => rfl) (fun r1 s2 => ?_)
  refine gg_q (fun q3 => ?_)
  refine gg_ias 95 rfl rfl (gar h1) q3 ?_
  refine gg_inc 98 rfl rfl l6 ?_
  refine gg_go 35 rfl rfl rfl ?_
  exact hk35 a1 a2 x4 x5 (x6 + 1) h1 h2 (gl1 rfl rfl l0) (gl1 rfl rfl l1) (gl1 rfl rfl l2) (gl1 rfl rfl l4) (gl1 rfl rfl l5) gs1
theorem gt_53_53 (k : Nat) {k35 : Nat → Nat → Int → Int → Int → gb_S → Option gb_P} (hk35 : ∀ (a1 : Nat) (a2 : Nat) (x4 : Int) (x5 : Int) (x6 : Int) (h1 : gb_kd a1 = 20) (h2 : gb_kd a2 = 1) {lo : gh_L} (l0 : lo.lookup 0 = some (vr c0 30)) (l1 : lo.lookup 1 = some (vr c0 a1)) (l2 : lo.lookup 2 = some (vr c0 a2)) (l4 : lo.lookup 4 = some (vi x4)) (l5 : lo.lookup 5 = some (vi x5)) (l6 : lo.lookup 6 = some (vi x6)) {σ : gb_S}, gb_G (k35 a1 a2 x4 x5 x6 σ) 3 4 none (fun _ _ => none) gk_53 c0 eV 35 lo [] σ) : ∀ (a1 : Nat) (a2 : Nat) (x4 : Int) (x5 : Int) (x6 : Int) (h1 : gb_kd a1 = 20) (h2 : gb_kd a2 = 1) {lo : gh_L} (l0 : lo.lookup 0 = some (vr c0 30)) (l1 : lo.lookup 1 = some (vr c0 a1)) (l2 : lo.lookup 2 = some (vr c0 a2)) (l4 : lo.lookup 4 = some (vi x4)) (l5 : lo.lookup 5 = some (vi x5)) (l6 : lo.lookup 6 = some (vi x6)) {σ : gb_S}, gb_G (fx_53_53 k k35 a1 a2 x4 x5 x6 σ) 3 4 none (fun _ _ => none) gk_53 c0 eV 53 lo [] σ := by
  induction k with
  | zero => intros; exact gg_n
  | succ k ih =>
    intro a1 a2 x4 x5 x6 h1 h2 lo l0 l1 l2 l4 l5 l6 σ
    rw [fx_53_53]
    refine gg_il 55 5 rfl rfl l5 ?_
    refine gg_il 57 4 rfl rfl l4 ?_
    refine gg_q (fun q1 => ?_)
    refine gg_q (fun q2 => ?_)
    refine gg_ige 83 60 rfl rfl rfl rfl q1 q2 ?_ ?_
    · exact gt_53_83 hk35 a1 a2 x4 x5 x6 h1 h2 l0 l1 l2 l4 l5 l6
    · refine gg_il 62 5 rfl rfl l5 ?_
      refine gg_ci 64 14 rfl rfl ?_
      refine gg_ige 83 67 rfl rfl rfl rfl q1 (gRl rfl) ?_ ?_
      · exact gt_53_83 hk35 a1 a2 x4 x5 x6 h1 h2 l0 l1 l2 l4 l5 l6
      · refine gg_al 68 0 rfl rfl l0 ?_
        refine gg_gr 71 40 rfl rfl rfl gcl_30 rfl ?_
        refine gg_il 73 5 rfl rfl l5 ?_
        refine gg_q (fun q3 => ?_)
        refine gg_ial 74 rfl rfl gar_40 q3 ?_
        refine gg_q (fun q4 => ?_)
        refine gg_zne 83 77 rfl rfl rfl rfl q4 ?_ ?_
        · exact gt_53_83 hk35 a1 a2 x4 x5 x6 h1 h2 l0 l1 l2 l4 l5 l6
        · refine gg_inc 80 rfl rfl l5 ?_
          refine gg_go 53 rfl rfl rfl ?_
          exact ih a1 a2 x4 (x5 + 1) x6 h1 h2 (gl1 rfl rfl l0) (gl1 rfl rfl l1) (gl1 rfl rfl l2) (gl1 rfl rfl l4) gs1 (gl1 rfl rfl l6)
theorem gt_53_35 (k : Nat) : ∀ (a1 : Nat) (a2 : Nat) (x4 : Int) (x5 : Int) (x6 : Int) (h1 : gb_kd a1 = 20) (h2 : gb_kd a2 = 1) {lo : gh_L} (l0 : lo.lookup 0 = some (vr c0 30)) (l1 : lo.lookup 1 = some (vr c0 a1)) (l2 : lo.lookup 2 = some (vr c0 a2)) (l4 : lo.lookup 4 = some (vi x4)) (l5 : lo.lookup 5 = some (vi x5)) (l6 : lo.lookup 6 = some (vi x6)) {σ : gb_S}, gb_G (fx_53_35 k a1 a2 x4 x5 x6 σ) 3 4 none (fun _ _ => none) gk_53 c0 eV 35 lo [] σ := by
  induction k with
  | zero => intros; exact gg_n
  | succ k ih =>
    intro a1 a2 x4 x5 x6 h1 h2 lo l0 l1 l2 l4 l5 l6 σ
    rw [fx_53_35]
    refine gg_il 37 6 rfl rfl l6 ?_
    refine gg_al 38 1 rfl rfl l1 ?_
    refine gg_len 39 rfl rfl (gar h1) ?_
    refine gg_q (fun q1 => ?_)
    refine gg_q (fun q2 => ?_)
    refine gg_ige 101 42 rfl rfl rfl rfl q1 q2 ?_ ?_
    · exact gg_vr rfl
    · refine gg_al 43 1 rfl rfl l1 ?_
      refine gg_il 45 6 rfl rfl l6 ?_
      refine gg_q (fun q3 => ?_)
      refine gg_ial 46 rfl rfl (gar h1) q3 ?_
      refine gg_al 47 2 rfl rfl l2 ?_
      refine gg_gi 50 rfl rfl rfl (ges0 h2) rfl ?_
      refine gg_q (fun q4 => ?_)
      refine gg_q (fun q5 => ?_)
      refine gg_ine 95 53 rfl rfl rfl rfl q4 q5 ?_ ?_
      · refine gg_inc 98 rfl rfl l6 ?_
        refine gg_go 35 rfl rfl rfl ?_
        exact ih a1 a2 x4 x5 (x6 + 1) h1 h2 (gl1 rfl rfl l0) (gl1 rfl rfl l1) (gl1 rfl rfl l2) (gl1 rfl rfl l4) (gl1 rfl rfl l5) gs1
      · exact gt_53_53 gFU ih a1 a2 x4 x5 x6 h1 h2 l0 l1 l2 l4 l5 l6
theorem gm_53 (a1 : Nat) (a2 : Nat) (a3 : Nat) (h1 : gb_kd a1 = 20) (h2 : gb_kd a2 = 1) (h3 : gb_kd a3 = 6) {σ : gb_S} : gb_M (fx_53 a1 a2 a3 σ) 4 c0 eV 53 [vr c0 30, vr c0 a1, vr c0 a2, vr c0 a3] σ := by
  rw [fx_53]
  refine gg_m (own := 4) (rt := none) (hnd := fun _ _ => none) (K := gk_53) (δ := 3) rfl rfl ?_
  refine gg_al 1 2 rfl rfl rfl ?_
  refine gg_al 2 3 rfl rfl rfl ?_
  refine gg_al 3 0 rfl rfl rfl ?_
  refine gg_gr 6 39 rfl rfl rfl gcl_30 rfl ?_
  refine gg_cI 9 rfl (gm_19 _ _ _ h2 h3 (rfl : gb_kd 39 = 20)) (Nat.le_of_ble_eq_true rfl) (gb_vs rfl rfl rfl rfl rfl (ges0 h2) rfl rfl rfl) rfl (fun _ => rfl) (fun _ => rfl) (fun r1 s2 => ?_)
  refine gg_s 11 rfl rfl ?_
  refine gg_al 12 0 rfl rfl (gl1 rfl rfl rfl) ?_
  refine gg_al 13 1 rfl rfl (gl1 rfl rfl rfl) ?_
  refine gg_al 14 2 rfl rfl (gl1 rfl rfl rfl) ?_
  refine gg_gi 17 rfl rfl rfl (ges0 h2) rfl ?_
  refine gg_ci 18 0 rfl rfl ?_
  refine gg_ci 20 60 rfl rfl ?_
  refine gg_cI 23 rfl (gm_57 _ _ _ _ h1) (Nat.le_of_ble_eq_true rfl) (gb_ss rfl rfl rfl rfl rfl rfl rfl) rfl (fun _ => rfl) (fun _ => rfl) (fun r3 s4 => ?_)
  refine gg_il 25 4 rfl rfl gs1 ?_
  refine gg_al 26 3 rfl rfl (gl1 rfl rfl rfl) ?_
  refine gg_cV 29 rfl (gm_55 _ _ _ h3) (Nat.le_of_ble_eq_true rfl) (gb_vs rfl rfl rfl rfl rfl gcl_30 rfl rfl rfl) rfl (fun _ => rfl) (fun _ => rfl) (fun s6 => ?_)
  refine gg_ci 30 0 rfl rfl ?_
  refine gg_s 32 rfl rfl ?_
  refine gg_ci 33 0 rfl rfl ?_
  refine gg_s 35 rfl rfl ?_
  exact gt_53_35 gFU a1 a2 r1 0 0 h1 h2 (gl1 rfl rfl (gl1 rfl rfl (gl1 rfl rfl rfl))) (gl1 rfl rfl (gl1 rfl rfl (gl1 rfl rfl rfl))) (gl1 rfl rfl (gl1 rfl rfl (gl1 rfl rfl rfl))) (gl1 rfl rfl (gl1 rfl rfl gs1)) (gl1 rfl rfl gs1) gs1
theorem gm_52 (a1 : Nat) (h1 : gb_kd a1 = 1) {σ : gb_S} : gb_M (fx_52 a1 σ) 5 c0 eV 52 [vr c0 30, vr c0 a1] σ := by
  rw [fx_52]
  refine gg_m (own := 4) (rt := none) (hnd := fun _ _ => none) (K := gk_52) (δ := 4) rfl rfl ?_
  refine gg_al 1 0 rfl rfl rfl ?_
  refine gg_gr 4 37 rfl rfl rfl gcl_30 rfl ?_
  refine gg_ci 5 0 rfl rfl ?_
  refine gg_al 6 1 rfl rfl rfl ?_
  refine gg_gr 9 (a1 + 9) rfl rfl rfl (ges0 h1) rfl ?_
  refine gg_ci 10 0 rfl rfl ?_
  refine gg_ci 12 60 rfl rfl ?_
  refine gg_acp 15 (Or.inl ⟨rfl, rfl⟩) (Nat.le_of_ble_eq_true rfl) rfl rfl rfl rfl gar_37.1 (ges9 h1).1 ?_
  refine gg_al 16 0 rfl rfl rfl ?_
  refine gg_al 17 0 rfl rfl rfl ?_
  refine gg_gr 20 37 rfl rfl rfl gcl_30 rfl ?_
  refine gg_al 21 1 rfl rfl rfl ?_
  refine gg_al 22 1 rfl rfl rfl ?_
  refine gg_gr 25 (a1 + 3) rfl rfl rfl (ges0 h1) rfl ?_
  refine gg_cV 28 rfl (gm_53 _ _ _ (rfl : gb_kd 37 = 20) h1 (ges3 h1)) (Nat.le_of_ble_eq_true rfl) (gb_vs rfl rfl rfl rfl rfl gcl_30 rfl rfl rfl) rfl (fun _ => rfl) (fun _ => rfl) (fun s2 => ?_)
  exact gg_vr rfl
theorem gm_47 (a1 : Nat) (h1 : gb_kd a1 = 1) {σ : gb_S} : gb_M (fx_47 a1 σ) 6 c0 eI 47 [vr c0 30, vr c0 a1] σ := by
  rw [fx_47]
  refine gg_m (own := 4) (rt := (some .int)) (hnd := fun _ _ => none) (K := gk_47) (δ := 5) rfl rfl ?_
  refine gg_al 1 0 rfl rfl rfl ?_
  refine gg_al 2 1 rfl rfl rfl ?_
  refine gg_gi 5 rfl rfl rfl (ges0 h1) rfl ?_
  refine gg_ci 6 (-1) rfl rfl ?_
  refine gg_ci 7 0 rfl rfl ?_
  refine gg_ci 9 60 rfl rfl ?_
  refine gg_cI 12 rfl (gm_48 _ _ _ _) (Nat.le_of_ble_eq_true rfl) (gb_vs rfl rfl rfl rfl rfl gcl_30 rfl rfl rfl) rfl (fun _ => rfl) (fun _ => rfl) (fun r1 s2 => ?_)
  refine gg_s 13 rfl rfl ?_
  refine gg_il 14 2 rfl rfl gs1 ?_
  refine gg_ci 17 134 rfl rfl ?_
  refine gg_q (fun q3 => ?_)
  refine gg_ige 27 20 rfl rfl rfl rfl q3 (gRl rfl) ?_ ?_
  · refine gg_al 28 0 rfl rfl (gl1 rfl rfl rfl) ?_
    refine gg_al 29 1 rfl rfl (gl1 rfl rfl rfl) ?_
    refine gg_cV 32 rfl (gm_52 _ h1) (Nat.le_of_ble_eq_true rfl) (gb_vs rfl rfl rfl rfl rfl gcl_30 rfl rfl rfl) rfl (fun _ => rfl) (fun _ => rfl) (fun s5 => ?_)
    refine gg_il 33 2 rfl rfl gs1 ?_
    exact gg_ir rfl
  · refine gg_al 21 0 rfl rfl (gl1 rfl rfl rfl) ?_
    refine gg_gr 24 35 rfl rfl rfl gcl_30 rfl ?_
    refine gg_il 25 2 rfl rfl gs1 ?_
    refine gg_ci 26 1 rfl rfl ?_
    refine gg_q (fun q6 => ?_)
    refine gg_bas 27 rfl rfl gar_35 q6 (Or.inr rfl) ?_
    refine gg_al 28 0 rfl rfl (gl1 rfl rfl rfl) ?_
    refine gg_al 29 1 rfl rfl (gl1 rfl rfl rfl) ?_
    refine gg_cV 32 rfl (gm_52 _ h1) (Nat.le_of_ble_eq_true rfl) (gb_vs rfl rfl rfl rfl rfl gcl_30 rfl rfl rfl) rfl (fun _ => rfl) (fun _ => rfl) (fun s8 => ?_)
    refine gg_il 33 2 rfl rfl gs1 ?_
    exact gg_ir rfl
theorem gm_56 (x0 : Int) {σ : gb_S} : gb_M (fx_56 x0 σ) 1 c0 eI 56 [vi x0, vr c0 25] σ := by
  rw [fx_56]
  refine gg_m (own := 4) (rt := (some .boolean)) (hnd := fun _ _ => none) (K := gk_56) (δ := 0) rfl rfl ?_
  refine gg_il 1 0 rfl rfl rfl ?_
  refine gg_q (fun q1 => ?_)
  refine gg_zlt 14 4 rfl rfl rfl rfl q1 ?_ ?_
  · refine gg_ci 15 0 rfl rfl ?_
    exact gg_zr rfl (Or.inl rfl)
  · refine gg_il 5 0 rfl rfl rfl ?_
    refine gg_al 6 1 rfl rfl rfl ?_
    refine gg_lenE 7 rfl rfl ?_
    refine gg_ige 14 10 rfl rfl rfl rfl q1 (gRl rfl) ?_ ?_
    · refine gg_ci 15 0 rfl rfl ?_
      exact gg_zr rfl (Or.inl rfl)
    · refine gg_ci 11 1 rfl rfl ?_
      refine gg_go 15 rfl rfl rfl ?_
      exact gg_zr rfl (Or.inr rfl)
theorem gt_49_131 (k : Nat) : ∀ (x3 : Int) (x4 : Int) {lo : gh_L} (l0 : lo.lookup 0 = some (vr c0 30)) (l3 : lo.lookup 3 = some (vi x3)) (l4 : lo.lookup 4 = some (vi x4)) {σ : gb_S}, gb_G (fx_49_131 k x3 x4 σ) 5 4 (some .int) (fun _ _ => none) gk_49 c0 eI 131 lo [] σ := by
  induction k with
  | zero => intros; exact gg_n
  | succ k ih =>
    intro x3 x4 lo l0 l3 l4 σ
    rw [fx_49_131]
    refine gg_il 133 4 rfl rfl l4 ?_
    refine gg_ci 135 60 rfl rfl ?_
    refine gg_q (fun q1 => ?_)
    refine gg_ige 164 138 rfl rfl rfl rfl q1 (gRl rfl) ?_ ?_
    · refine gg_il 165 3 rfl rfl l3 ?_
      exact gg_ir rfl
    · refine gg_al 139 0 rfl rfl l0 ?_
      refine gg_gr 142 37 rfl rfl rfl gcl_30 rfl ?_
      refine gg_il 144 4 rfl rfl l4 ?_
      refine gg_q (fun q2 => ?_)
      refine gg_ial 145 rfl rfl gar_37 q2 ?_
      refine gg_al 146 0 rfl rfl l0 ?_
      refine gg_gr 149 38 rfl rfl rfl gcl_30 rfl ?_
      refine gg_il 151 4 rfl rfl l4 ?_
      refine gg_ial 152 rfl rfl gar_38 q2 ?_
      refine gg_q (fun q3 => ?_)
      refine gg_q (fun q4 => ?_)
      refine gg_ieq 158 155 rfl rfl rfl rfl q3 q4 ?_ ?_
      · refine gg_inc 161 rfl rfl l4 ?_
        refine gg_go 131 rfl rfl rfl ?_
        exact ih x3 (x4 + 1) (gl1 rfl rfl l0) (gl1 rfl rfl l3) gs1
      · refine gg_inc 158 rfl rfl l3 ?_
        refine gg_inc 161 rfl rfl (gl1 rfl rfl l4) ?_
        refine gg_go 131 rfl rfl rfl ?_
        exact ih (x3 + 1) (x4 + 1) (gl1 rfl rfl (gl1 rfl rfl l0)) (gl1 rfl rfl gs1) gs1
theorem gt_49_66 (k : Nat) : ∀ (x3 : Int) {lo : gh_L} (l0 : lo.lookup 0 = some (vr c0 30)) (l2 : lo.lookup 2 = some (vr c0 25)) (l3 : lo.lookup 3 = some (vi x3)) {σ : gb_S}, gb_G (fx_49_66 k x3 σ) 5 4 (some .int) (fun _ _ => none) gk_49 c0 eI 66 lo [] σ := by
  induction k with
  | zero => intros; exact gg_n
  | succ k ih =>
    intro x3 lo l0 l2 l3 σ
    rw [fx_49_66]
    refine gg_il 67 3 rfl rfl l3 ?_
    refine gg_al 68 0 rfl rfl l0 ?_
    refine gg_gi 71 rfl rfl rfl gcl_30 rfl ?_
    refine gg_q (fun q1 => ?_)
    refine gg_q (fun q2 => ?_)
    refine gg_ige 126 74 rfl rfl rfl rfl q1 q2 ?_ ?_
    · refine gg_ci 127 0 rfl rfl ?_
      refine gg_s 128 rfl rfl ?_
      refine gg_ci 129 0 rfl rfl ?_
      refine gg_s 131 rfl rfl ?_
      exact gt_49_131 gFU 0 0 (gl1 rfl rfl (gl1 rfl rfl l0)) (gl1 rfl rfl gs1) gs1
    · refine gg_al 75 0 rfl rfl l0 ?_
      refine gg_gr 78 35 rfl rfl rfl gcl_30 rfl ?_
      refine gg_il 79 3 rfl rfl l3 ?_
      refine gg_q (fun q3 => ?_)
      refine gg_bal 80 rfl rfl gar_35 q3 ?_
      refine gg_q (fun q4 => ?_)
      refine gg_zne 95 83 rfl rfl rfl rfl q4 ?_ ?_
      · refine gg_al 96 0 rfl rfl l0 ?_
        refine gg_gr 99 31 rfl rfl rfl gcl_30 rfl ?_
        refine gg_il 100 3 rfl rfl l3 ?_
        refine gg_ial 101 rfl rfl gar_31 q3 ?_
        refine gg_al 102 2 rfl rfl l2 ?_
        refine gg_cI 105 rfl (gm_56 _) (Nat.le_of_ble_eq_true rfl) (gb_ss rfl rfl rfl rfl rfl rfl rfl) rfl (fun _ => rfl) (fun _ => rfl) (fun r5 s6 => ?_)
        refine gg_q (fun q7 => ?_)
        refine gg_zeq 120 108 rfl rfl rfl rfl q7 ?_ ?_
        · refine gg_inc 123 rfl rfl l3 ?_
          refine gg_go 66 rfl rfl rfl ?_
          exact ih (x3 + 1) (gl1 rfl rfl l0) (gl1 rfl rfl l2) gs1
        · refine gg_al 109 0 rfl rfl l0 ?_
          refine gg_al 110 2 rfl rfl l2 ?_
          refine gg_al 111 0 rfl rfl l0 ?_
          refine gg_gr 114 31 rfl rfl rfl gcl_30 rfl ?_
          refine gg_il 115 3 rfl rfl l3 ?_
          refine gg_ial 116 rfl rfl gar_31 q3 ?_
          refine gg_q (fun q8 => ?_)
          refine gg_aal 117 rfl rfl q8 ?_
          refine gg_cV 120 rfl (gm_52 _ (ges_at q8)) (Nat.le_of_ble_eq_true rfl) (gb_vs rfl rfl rfl rfl rfl gcl_30 rfl rfl rfl) rfl (fun _ => rfl) (fun _ => rfl) (fun s10 => ?_)
          refine gg_inc 123 rfl rfl l3 ?_
          refine gg_go 66 rfl rfl rfl ?_
          exact ih (x3 + 1) (gl1 rfl rfl l0) (gl1 rfl rfl l2) gs1
      · refine gg_al 84 0 rfl rfl l0 ?_
        refine gg_al 85 0 rfl rfl l0 ?_
        refine gg_gr 88 37 rfl rfl rfl gcl_30 rfl ?_
        refine gg_il 89 3 rfl rfl l3 ?_
        refine gg_cV 92 rfl (gm_51 _ _ (rfl : gb_kd 37 = 20)) (Nat.le_of_ble_eq_true rfl) (gb_vs rfl rfl rfl rfl rfl gcl_30 rfl rfl rfl) rfl (fun _ => rfl) (fun _ => rfl) (fun s12 => ?_)
        refine gg_go 120 rfl rfl rfl ?_
        refine gg_inc 123 rfl rfl l3 ?_
        refine gg_go 66 rfl rfl rfl ?_
        exact ih (x3 + 1) (gl1 rfl rfl l0) (gl1 rfl rfl l2) gs1
theorem gm_49 (x1 : Int) {σ : gb_S} : gb_M (fx_49 x1 σ) 6 c0 eI 49 [vr c0 30, vi x1, vr c0 25] σ := by
  rw [fx_49]
  refine gg_m (own := 4) (rt := (some .int)) (hnd := fun _ _ => none) (K := gk_49) (δ := 5) rfl rfl ?_
  refine gg_il 1 1 rfl rfl rfl ?_
  refine gg_q (fun q1 => ?_)
  refine gg_zlt 25 4 rfl rfl rfl rfl q1 ?_ ?_
  · refine gg_ci 26 0 rfl rfl ?_
    exact gg_ir rfl
  · refine gg_il 5 1 rfl rfl rfl ?_
    refine gg_al 6 0 rfl rfl rfl ?_
    refine gg_gi 9 rfl rfl rfl gcl_30 rfl ?_
    refine gg_q (fun q2 => ?_)
    refine gg_ige 25 12 rfl rfl rfl rfl q1 q2 ?_ ?_
    · refine gg_ci 26 0 rfl rfl ?_
      exact gg_ir rfl
    · refine gg_al 13 0 rfl rfl rfl ?_
      refine gg_gr 16 31 rfl rfl rfl gcl_30 rfl ?_
      refine gg_il 17 1 rfl rfl rfl ?_
      refine gg_q (fun q3 => ?_)
      refine gg_ial 18 rfl rfl gar_31 q3 ?_
      refine gg_al 19 2 rfl rfl rfl ?_
      refine gg_cI 22 rfl (gm_56 _) (Nat.le_of_ble_eq_true rfl) (gb_ss rfl rfl rfl rfl rfl rfl rfl) rfl (fun _ => rfl) (fun _ => rfl) (fun r4 s5 => ?_)
      refine gg_q (fun q6 => ?_)
      refine gg_zne 27 25 rfl rfl rfl rfl q6 ?_ ?_
      · refine gg_al 28 0 rfl rfl rfl ?_
        refine gg_gr 31 37 rfl rfl rfl gcl_30 rfl ?_
        refine gg_ci 32 0 rfl rfl ?_
        refine gg_al 33 0 rfl rfl rfl ?_
        refine gg_gr 36 38 rfl rfl rfl gcl_30 rfl ?_
        refine gg_ci 37 0 rfl rfl ?_
        refine gg_ci 39 60 rfl rfl ?_
        refine gg_acp 42 (Or.inl ⟨rfl, rfl⟩) (Nat.le_of_ble_eq_true rfl) rfl rfl rfl rfl gar_37.1 gar_38.1 ?_
        refine gg_al 43 2 rfl rfl rfl ?_
        refine gg_al 44 0 rfl rfl rfl ?_
        refine gg_gr 47 31 rfl rfl rfl gcl_30 rfl ?_
        refine gg_il 48 1 rfl rfl rfl ?_
        refine gg_ial 49 rfl rfl gar_31 q3 ?_
        refine gg_q (fun q7 => ?_)
        refine gg_aal 50 rfl rfl q7 ?_
        refine gg_gr 53 ((47 + 10 * ((gb_cp s5 37 38) 31 x1.toNat).toNat) + 9) rfl rfl rfl (ges0 (ges_at q7)) rfl ?_
        refine gg_ci 54 0 rfl rfl ?_
        refine gg_al 55 0 rfl rfl rfl ?_
        refine gg_gr 58 37 rfl rfl rfl gcl_30 rfl ?_
        refine gg_ci 59 0 rfl rfl ?_
        refine gg_ci 61 60 rfl rfl ?_
        refine gg_acp 64 (Or.inl ⟨rfl, rfl⟩) (Nat.le_of_ble_eq_true rfl) rfl rfl rfl rfl (ges9 (ges_at q7)).1 gar_37.1 ?_
        refine gg_il 65 1 rfl rfl rfl ?_
        refine gg_s 66 rfl rfl ?_
        exact gt_49_66 gFU x1 (gl1 rfl rfl rfl) (gl1 rfl rfl rfl) gs1
      · refine gg_ci 26 0 rfl rfl ?_
        exact gg_ir rfl
theorem gt_50_10 (k : Nat) : ∀ (x1 : Int) (x3 : Int) {lo : gh_L} (l0 : lo.lookup 0 = some (vr c0 30)) (l1 : lo.lookup 1 = some (vi x1)) (l2 : lo.lookup 2 = some (vr c0 25)) (l3 : lo.lookup 3 = some (vi x3)) {σ : gb_S}, gb_G (fx_50_10 k x1 x3 σ) 4 4 (some .int) (fun _ _ => none) gk_50 c0 eI 10 lo [] σ := by
  induction k with
  | zero => intros; exact gg_n
  | succ k ih =>
    intro x1 x3 lo l0 l1 l2 l3 σ
    rw [fx_50_10]
    refine gg_il 11 3 rfl rfl l3 ?_
    refine gg_al 12 0 rfl rfl l0 ?_
    refine gg_gi 15 rfl rfl rfl gcl_30 rfl ?_
    refine gg_q (fun q1 => ?_)
    refine gg_q (fun q2 => ?_)
    refine gg_ige 83 18 rfl rfl rfl rfl q1 q2 ?_ ?_
    · refine gg_il 84 1 rfl rfl l1 ?_
      refine gg_q (fun q3 => ?_)
      refine gg_zlt 102 87 rfl rfl rfl rfl q3 ?_ ?_
      · refine gg_ci 103 (-1) rfl rfl ?_
        exact gg_ir rfl
      · refine gg_il 88 1 rfl rfl l1 ?_
        refine gg_ci 90 60 rfl rfl ?_
        refine gg_ige 102 93 rfl rfl rfl rfl q3 (gRl rfl) ?_ ?_
        · refine gg_ci 103 (-1) rfl rfl ?_
          exact gg_ir rfl
        · refine gg_al 94 0 rfl rfl l0 ?_
          refine gg_gr 97 38 rfl rfl rfl gcl_30 rfl ?_
          refine gg_il 98 1 rfl rfl l1 ?_
          refine gg_q (fun q4 => ?_)
          refine gg_ial 99 rfl rfl gar_38 q4 ?_
          refine gg_go 103 rfl rfl rfl ?_
          exact gg_ir rfl
    · refine gg_al 19 0 rfl rfl l0 ?_
      refine gg_gr 22 35 rfl rfl rfl gcl_30 rfl ?_
      refine gg_il 23 3 rfl rfl l3 ?_
      refine gg_q (fun q5 => ?_)
      refine gg_bal 24 rfl rfl gar_35 q5 ?_
      refine gg_q (fun q6 => ?_)
      refine gg_zne 39 27 rfl rfl rfl rfl q6 ?_ ?_
      · refine gg_al 40 0 rfl rfl l0 ?_
        refine gg_gr 43 31 rfl rfl rfl gcl_30 rfl ?_
        refine gg_il 44 3 rfl rfl l3 ?_
        refine gg_ial 45 rfl rfl gar_31 q5 ?_
        refine gg_al 46 2 rfl rfl l2 ?_
        refine gg_cI 49 rfl (gm_56 _) (Nat.le_of_ble_eq_true rfl) (gb_ss rfl rfl rfl rfl rfl rfl rfl) rfl (fun _ => rfl) (fun _ => rfl) (fun r7 s8 => ?_)
        refine gg_q (fun q9 => ?_)
        refine gg_zeq 77 52 rfl rfl rfl rfl q9 ?_ ?_
        · refine gg_inc 80 rfl rfl l3 ?_
          refine gg_go 10 rfl rfl rfl ?_
          exact ih x1 (x3 + 1) (gl1 rfl rfl l0) (gl1 rfl rfl l1) (gl1 rfl rfl l2) gs1
        · refine gg_al 53 2 rfl rfl l2 ?_
          refine gg_al 54 0 rfl rfl l0 ?_
          refine gg_gr 57 31 rfl rfl rfl gcl_30 rfl ?_
          refine gg_il 58 3 rfl rfl l3 ?_
          refine gg_ial 59 rfl rfl gar_31 q5 ?_
          refine gg_q (fun q10 => ?_)
          refine gg_aal 60 rfl rfl q10 ?_
          refine gg_s 62 rfl rfl ?_
          refine gg_al 63 0 rfl rfl (gl1 rfl rfl l0) ?_
          refine gg_al 64 0 rfl rfl (gl1 rfl rfl l0) ?_
          refine gg_gr 67 38 rfl rfl rfl gcl_30 rfl ?_
          refine gg_al 69 4 rfl rfl gs1 ?_
          refine gg_al 71 4 rfl rfl gs1 ?_
          refine gg_gr 74 ((47 + 10 * (s8 31 x3.toNat).toNat) + 6) rfl rfl rfl (ges0 (ges_at q10)) rfl ?_
          refine gg_cV 77 rfl (gm_53 _ _ _ (rfl : gb_kd 38 = 20) (ges_at q10) (ges6 (ges_at q10))) (Nat.le_of_ble_eq_true rfl) (gb_vs rfl rfl rfl rfl rfl gcl_30 rfl rfl rfl) rfl (fun _ => rfl) (fun _ => rfl) (fun s12 => ?_)
          refine gg_inc 80 rfl rfl (gl1 rfl rfl l3) ?_
          refine gg_go 10 rfl rfl rfl ?_
          exact ih x1 (x3 + 1) (gl1 rfl rfl (gl1 rfl rfl l0)) (gl1 rfl rfl (gl1 rfl rfl l1)) (gl1 rfl rfl (gl1 rfl rfl l2)) gs1
      · refine gg_al 28 0 rfl rfl l0 ?_
        refine gg_al 29 0 rfl rfl l0 ?_
        refine gg_gr 32 38 rfl rfl rfl gcl_30 rfl ?_
        refine gg_il 33 3 rfl rfl l3 ?_
        refine gg_cV 36 rfl (gm_51 _ _ (rfl : gb_kd 38 = 20)) (Nat.le_of_ble_eq_true rfl) (gb_vs rfl rfl rfl rfl rfl gcl_30 rfl rfl rfl) rfl (fun _ => rfl) (fun _ => rfl) (fun s14 => ?_)
        refine gg_go 77 rfl rfl rfl ?_
        refine gg_inc 80 rfl rfl l3 ?_
        refine gg_go 10 rfl rfl rfl ?_
        exact ih x1 (x3 + 1) (gl1 rfl rfl l0) (gl1 rfl rfl l1) (gl1 rfl rfl l2) gs1
theorem gm_50 (x1 : Int) {σ : gb_S} : gb_M (fx_50 x1 σ) 5 c0 eI 50 [vr c0 30, vi x1, vr c0 25] σ := by
  rw [fx_50]
  refine gg_m (own := 4) (rt := (some .int)) (hnd := fun _ _ => none) (K := gk_50) (δ := 4) rfl rfl ?_
  refine gg_al 1 0 rfl rfl rfl ?_
  refine gg_gr 4 38 rfl rfl rfl gcl_30 rfl ?_
  refine gg_ci 5 (-1) rfl rfl ?_
  refine gg_cF 8 rfl (gm_125 gar_38) (Nat.le_of_ble_eq_true rfl) (gb_ss rfl rfl rfl rfl rfl rfl rfl) rfl (fun _ => rfl) (fun _ => rfl) ?_
  refine gg_ci 9 0 rfl rfl ?_
  refine gg_s 10 rfl rfl ?_
  exact gt_50_10 gFU x1 0 (gl1 rfl rfl rfl) (gl1 rfl rfl rfl) (gl1 rfl rfl rfl) gs1
theorem gm_59 (x1 : Int) (x2 : Int) (x3 : Int) {σ : gb_S} : gb_M (fx_59 x1 x2 x3 σ) 1 c0 eI 59 [vr c0 6, vi x1, vi x2, vi x3] σ := by
  rw [fx_59]
  refine gg_m (own := 5) (rt := (some .int)) (hnd := fun _ _ => none) (K := gk_59) (δ := 0) rfl rfl ?_
  refine gg_al 1 0 rfl rfl rfl ?_
  refine gg_gi 4 rfl rfl rfl gcl_6 rfl ?_
  refine gg_ci 6 30 rfl rfl ?_
  refine gg_q (fun q1 => ?_)
  refine gg_ilt 11 9 rfl rfl rfl rfl q1 (gRl rfl) ?_ ?_
  · refine gg_al 12 0 rfl rfl rfl ?_
    refine gg_gr 15 7 rfl rfl rfl gcl_6 rfl ?_
    refine gg_al 16 0 rfl rfl rfl ?_
    refine gg_gi 19 rfl rfl rfl gcl_6 rfl ?_
    refine gg_il 20 1 rfl rfl rfl ?_
    refine gg_q (fun q2 => ?_)
    refine gg_ias 21 rfl rfl gar_7 q2 ?_
    refine gg_al 22 0 rfl rfl rfl ?_
    refine gg_gr 25 8 rfl rfl rfl gcl_6 rfl ?_
    refine gg_al 26 0 rfl rfl rfl ?_
    refine gg_gi 29 rfl rfl rfl gcl_6 rfl ?_
    refine gg_il 30 2 rfl rfl rfl ?_
    refine gg_q (fun q3 => ?_)
    refine gg_ias 31 rfl rfl gar_8 q3 ?_
    refine gg_al 32 0 rfl rfl rfl ?_
    refine gg_gr 35 9 rfl rfl rfl gcl_6 rfl ?_
    refine gg_al 36 0 rfl rfl rfl ?_
    refine gg_gi 39 rfl rfl rfl gcl_6 rfl ?_
    refine gg_il 40 3 rfl rfl rfl ?_
    refine gg_q (fun q4 => ?_)
    refine gg_ias 41 rfl rfl gar_9 q4 ?_
    refine gg_al 42 0 rfl rfl rfl ?_
    refine gg_s 43 rfl rfl ?_
    refine gg_gi 46 rfl rfl rfl gcl_6 rfl ?_
    refine gg_ci 47 1 rfl rfl ?_
    refine gg_add 48 rfl rfl ?_
    refine gg_pf 51 rfl rfl rfl gcl_6 rfl ⟨rfl, rfl⟩ ?_
    refine gg_al 52 0 rfl rfl rfl ?_
    refine gg_gi 55 rfl rfl rfl gcl_6 rfl ?_
    refine gg_ci 56 1 rfl rfl ?_
    refine gg_sub 57 rfl rfl ?_
    exact gg_ir rfl
  · refine gg_ci 10 (-1) rfl rfl ?_
    exact gg_ir rfl
theorem gm_60 (x1 : Int) (x2 : Int) {σ : gb_S} : gb_M (fx_60 x1 x2 σ) 2 c0 eI 60 [vr c0 6, vi x1, vi x2] σ := by
  rw [fx_60]
  refine gg_m (own := 5) (rt := (some .int)) (hnd := fun _ _ => none) (K := gk_60) (δ := 1) rfl rfl ?_
  refine gg_al 1 0 rfl rfl rfl ?_
  refine gg_gi 4 rfl rfl rfl gcl_6 rfl ?_
  refine gg_ci 6 30 rfl rfl ?_
  refine gg_q (fun q1 => ?_)
  refine gg_ige 17 9 rfl rfl rfl rfl q1 (gRl rfl) ?_ ?_
  · refine gg_ci 18 (-1) rfl rfl ?_
    exact gg_ir rfl
  · refine gg_al 10 0 rfl rfl rfl ?_
    refine gg_il 11 1 rfl rfl rfl ?_
    refine gg_cI 14 rfl (gm_63 _) (Nat.le_of_ble_eq_true rfl) (gb_vs rfl rfl rfl rfl rfl gcl_6 rfl rfl rfl) rfl (fun _ => rfl) (fun _ => rfl) (fun r2 s3 => ?_)
    refine gg_q (fun q4 => ?_)
    refine gg_zne 19 17 rfl rfl rfl rfl q4 ?_ ?_
    · refine gg_al 20 0 rfl rfl rfl ?_
      refine gg_gr 23 12 rfl rfl rfl gcl_6 rfl ?_
      refine gg_al 24 0 rfl rfl rfl ?_
      refine gg_gi 27 rfl rfl rfl gcl_6 rfl ?_
      refine gg_il 28 1 rfl rfl rfl ?_
      refine gg_q (fun q5 => ?_)
      refine gg_ias 29 rfl rfl gar_12 q5 ?_
      refine gg_al 30 0 rfl rfl rfl ?_
      refine gg_gr 33 13 rfl rfl rfl gcl_6 rfl ?_
      refine gg_al 34 0 rfl rfl rfl ?_
      refine gg_gi 37 rfl rfl rfl gcl_6 rfl ?_
      refine gg_il 38 2 rfl rfl rfl ?_
      refine gg_q (fun q6 => ?_)
      refine gg_ias 39 rfl rfl gar_13 q6 ?_
      refine gg_al 40 0 rfl rfl rfl ?_
      refine gg_gr 43 14 rfl rfl rfl gcl_6 rfl ?_
      refine gg_al 44 0 rfl rfl rfl ?_
      refine gg_gi 47 rfl rfl rfl gcl_6 rfl ?_
      refine gg_ci 48 1 rfl rfl ?_
      refine gg_q (fun q7 => ?_)
      refine gg_bas 49 rfl rfl gar_14 q7 (Or.inr rfl) ?_
      refine gg_al 50 0 rfl rfl rfl ?_
      refine gg_gr 53 10 rfl rfl rfl gcl_6 rfl ?_
      refine gg_il 54 1 rfl rfl rfl ?_
      refine gg_s 55 rfl rfl ?_
      refine gg_q (fun q8 => ?_)
      refine gg_ial 56 rfl rfl gar_10 q8 ?_
      refine gg_il 57 2 rfl rfl rfl ?_
      refine gg_add 58 rfl rfl ?_
      refine gg_ias 59 rfl rfl gar_10 q8 ?_
      refine gg_al 60 0 rfl rfl rfl ?_
      refine gg_s 61 rfl rfl ?_
      refine gg_gi 64 rfl rfl rfl gcl_6 rfl ?_
      refine gg_ci 65 1 rfl rfl ?_
      refine gg_add 66 rfl rfl ?_
      refine gg_pf 69 rfl rfl rfl gcl_6 rfl ⟨rfl, rfl⟩ ?_
      refine gg_al 70 0 rfl rfl rfl ?_
      refine gg_gi 73 rfl rfl rfl gcl_6 rfl ?_
      refine gg_ci 74 1 rfl rfl ?_
      refine gg_sub 75 rfl rfl ?_
      exact gg_ir rfl
    · refine gg_ci 18 (-1) rfl rfl ?_
      exact gg_ir rfl
theorem gm_64 (x1 : Int) {σ : gb_S} : gb_M (fx_64 x1 σ) 1 c0 eI 64 [vr c0 6, vi x1] σ := by
  rw [fx_64]
  refine gg_m (own := 5) (rt := (some .boolean)) (hnd := fun _ _ => none) (K := gk_64) (δ := 0) rfl rfl ?_
  refine gg_il 1 1 rfl rfl rfl ?_
  refine gg_q (fun q1 => ?_)
  refine gg_zlt 25 4 rfl rfl rfl rfl q1 ?_ ?_
  · refine gg_ci 26 0 rfl rfl ?_
    exact gg_zr rfl (Or.inl rfl)
  · refine gg_il 5 1 rfl rfl rfl ?_
    refine gg_al 6 0 rfl rfl rfl ?_
    refine gg_gi 9 rfl rfl rfl gcl_6 rfl ?_
    refine gg_q (fun q2 => ?_)
    refine gg_ige 25 12 rfl rfl rfl rfl q1 q2 ?_ ?_
    · refine gg_ci 26 0 rfl rfl ?_
      exact gg_zr rfl (Or.inl rfl)
    · refine gg_al 13 0 rfl rfl rfl ?_
      refine gg_gr 16 14 rfl rfl rfl gcl_6 rfl ?_
      refine gg_il 17 1 rfl rfl rfl ?_
      refine gg_q (fun q3 => ?_)
      refine gg_bal 18 rfl rfl gar_14 q3 ?_
      refine gg_q (fun q4 => ?_)
      refine gg_zeq 25 21 rfl rfl rfl rfl q4 ?_ ?_
      · refine gg_ci 26 0 rfl rfl ?_
        exact gg_zr rfl (Or.inl rfl)
      · refine gg_ci 22 1 rfl rfl ?_
        refine gg_go 26 rfl rfl rfl ?_
        exact gg_zr rfl (Or.inr rfl)
theorem gm_62 (x1 : Int) {σ : gb_S} : gb_M (fx_62 x1 σ) 2 c0 eV 62 [vr c0 6, vi x1] σ := by
  rw [fx_62]
  refine gg_m (own := 5) (rt := none) (hnd := fun _ _ => none) (K := gk_62) (δ := 1) rfl rfl ?_
  refine gg_al 1 0 rfl rfl rfl ?_
  refine gg_il 2 1 rfl rfl rfl ?_
  refine gg_cI 5 rfl (gm_64 _) (Nat.le_of_ble_eq_true rfl) (gb_vs rfl rfl rfl rfl rfl gcl_6 rfl rfl rfl) rfl (fun _ => rfl) (fun _ => rfl) (fun r1 s2 => ?_)
  refine gg_q (fun q3 => ?_)
  refine gg_zne 9 8 rfl rfl rfl rfl q3 ?_ ?_
  · refine gg_al 10 0 rfl rfl rfl ?_
    refine gg_gr 13 14 rfl rfl rfl gcl_6 rfl ?_
    refine gg_il 14 1 rfl rfl rfl ?_
    refine gg_ci 15 0 rfl rfl ?_
    refine gg_q (fun q4 => ?_)
    refine gg_bas 16 rfl rfl gar_14 q4 (Or.inl rfl) ?_
    refine gg_al 17 0 rfl rfl rfl ?_
    refine gg_gr 20 12 rfl rfl rfl gcl_6 rfl ?_
    refine gg_il 21 1 rfl rfl rfl ?_
    refine gg_ial 22 rfl rfl gar_12 q4 ?_
    refine gg_s 23 rfl rfl ?_
    refine gg_al 24 0 rfl rfl (gl1 rfl rfl rfl) ?_
    refine gg_il 25 2 rfl rfl gs1 ?_
    refine gg_cI 28 rfl (gm_63 _) (Nat.le_of_ble_eq_true rfl) (gb_vs rfl rfl rfl rfl rfl gcl_6 rfl rfl rfl) rfl (fun _ => rfl) (fun _ => rfl) (fun r5 s6 => ?_)
    refine gg_q (fun q7 => ?_)
    refine gg_zeq 46 31 rfl rfl rfl rfl q7 ?_ ?_
    · exact gg_vr rfl
    · refine gg_al 32 0 rfl rfl (gl1 rfl rfl rfl) ?_
      refine gg_gr 35 10 rfl rfl rfl gcl_6 rfl ?_
      refine gg_il 36 2 rfl rfl gs1 ?_
      refine gg_s 37 rfl rfl ?_
      refine gg_q (fun q8 => ?_)
      refine gg_ial 38 rfl rfl gar_10 q8 ?_
      refine gg_al 39 0 rfl rfl (gl1 rfl rfl rfl) ?_
      refine gg_gr 42 13 rfl rfl rfl gcl_6 rfl ?_
      refine gg_il 43 1 rfl rfl (gl1 rfl rfl rfl) ?_
      refine gg_ial 44 rfl rfl gar_13 q4 ?_
      refine gg_sub 45 rfl rfl ?_
      refine gg_ias 46 rfl rfl gar_10 q8 ?_
      exact gg_vr rfl
  · exact gg_vr rfl
theorem gt_61_43 (k : Nat) : ∀ (x3 : Int) (x4 : Int) {lo : gh_L} (l0 : lo.lookup 0 = some (vr c0 6)) (l3 : lo.lookup 3 = some (vi x3)) (l4 : lo.lookup 4 = some (vi x4)) {σ : gb_S}, gb_G (fx_61_43 k x3 x4 σ) 2 5 none (fun _ _ => none) gk_61 c0 eV 43 lo [] σ := by
  induction k with
  | zero => intros; exact gg_n
  | succ k ih =>
    intro x3 x4 lo l0 l3 l4 σ
    rw [fx_61_43]
    refine gg_il 45 4 rfl rfl l4 ?_
    refine gg_al 46 0 rfl rfl l0 ?_
    refine gg_gi 49 rfl rfl rfl gcl_6 rfl ?_
    refine gg_q (fun q1 => ?_)
    refine gg_q (fun q2 => ?_)
    refine gg_ige 75 52 rfl rfl rfl rfl q1 q2 ?_ ?_
    · exact gg_vr rfl
    · refine gg_al 53 0 rfl rfl l0 ?_
      refine gg_gr 56 12 rfl rfl rfl gcl_6 rfl ?_
      refine gg_il 58 4 rfl rfl l4 ?_
      refine gg_q (fun q3 => ?_)
      refine gg_ial 59 rfl rfl gar_12 q3 ?_
      refine gg_il 60 3 rfl rfl l3 ?_
      refine gg_q (fun q4 => ?_)
      refine gg_q (fun q5 => ?_)
      refine gg_ine 69 63 rfl rfl rfl rfl q4 q5 ?_ ?_
      · refine gg_inc 72 rfl rfl l4 ?_
        refine gg_go 43 rfl rfl rfl ?_
        exact ih x3 (x4 + 1) (gl1 rfl rfl l0) (gl1 rfl rfl l3) gs1
      · refine gg_al 64 0 rfl rfl l0 ?_
        refine gg_il 66 4 rfl rfl l4 ?_
        refine gg_cV 69 rfl (gm_62 _) (Nat.le_of_ble_eq_true rfl) (gb_vs rfl rfl rfl rfl rfl gcl_6 rfl rfl rfl) rfl (fun _ => rfl) (fun _ => rfl) (fun s7 => ?_)
        refine gg_inc 72 rfl rfl l4 ?_
        refine gg_go 43 rfl rfl rfl ?_
        exact ih x3 (x4 + 1) (gl1 rfl rfl l0) (gl1 rfl rfl l3) gs1
theorem gm_61 (x1 : Int) (x2 : Int) {σ : gb_S} : gb_M (fx_61 x1 x2 σ) 3 c0 eV 61 [vr c0 6, vi x1, vi x2] σ := by
  rw [fx_61]
  refine gg_m (own := 5) (rt := none) (hnd := fun _ _ => none) (K := gk_61) (δ := 2) rfl rfl ?_
  refine gg_al 1 0 rfl rfl rfl ?_
  refine gg_il 2 1 rfl rfl rfl ?_
  refine gg_cI 5 rfl (gm_64 _) (Nat.le_of_ble_eq_true rfl) (gb_vs rfl rfl rfl rfl rfl gcl_6 rfl rfl rfl) rfl (fun _ => rfl) (fun _ => rfl) (fun r1 s2 => ?_)
  refine gg_q (fun q3 => ?_)
  refine gg_zne 9 8 rfl rfl rfl rfl q3 ?_ ?_
  · refine gg_al 10 0 rfl rfl rfl ?_
    refine gg_gr 13 12 rfl rfl rfl gcl_6 rfl ?_
    refine gg_il 14 1 rfl rfl rfl ?_
    refine gg_q (fun q4 => ?_)
    refine gg_ial 15 rfl rfl gar_12 q4 ?_
    refine gg_s 16 rfl rfl ?_
    refine gg_al 17 0 rfl rfl (gl1 rfl rfl rfl) ?_
    refine gg_il 18 1 rfl rfl (gl1 rfl rfl rfl) ?_
    refine gg_cV 21 rfl (gm_62 _) (Nat.le_of_ble_eq_true rfl) (gb_vs rfl rfl rfl rfl rfl gcl_6 rfl rfl rfl) rfl (fun _ => rfl) (fun _ => rfl) (fun s6 => ?_)
    refine gg_il 22 2 rfl rfl (gl1 rfl rfl rfl) ?_
    refine gg_q (fun q7 => ?_)
    refine gg_zeq 75 25 rfl rfl rfl rfl q7 ?_ ?_
    · exact gg_vr rfl
    · refine gg_al 26 0 rfl rfl (gl1 rfl rfl rfl) ?_
      refine gg_il 27 3 rfl rfl gs1 ?_
      refine gg_cI 30 rfl (gm_63 _) (Nat.le_of_ble_eq_true rfl) (gb_vs rfl rfl rfl rfl rfl gcl_6 rfl rfl rfl) rfl (fun _ => rfl) (fun _ => rfl) (fun r8 s9 => ?_)
      refine gg_q (fun q10 => ?_)
      refine gg_zeq 75 33 rfl rfl rfl rfl q10 ?_ ?_
      · exact gg_vr rfl
      · refine gg_al 34 0 rfl rfl (gl1 rfl rfl rfl) ?_
        refine gg_gr 37 11 rfl rfl rfl gcl_6 rfl ?_
        refine gg_il 38 3 rfl rfl gs1 ?_
        refine gg_ci 39 1 rfl rfl ?_
        refine gg_q (fun q11 => ?_)
        refine gg_bas 40 rfl rfl gar_11 q11 (Or.inr rfl) ?_
        refine gg_ci 41 0 rfl rfl ?_
        refine gg_s 43 rfl rfl ?_
        exact gt_61_43 gFU (s2 12 x1.toNat) 0 (gl1 rfl rfl (gl1 rfl rfl rfl)) (gl1 rfl rfl gs1) gs1
  · exact gg_vr rfl
theorem gm_65 (x1 : Int) {σ : gb_S} : gb_M (fx_65 x1 σ) 2 c0 eI 65 [vr c0 6, vi x1] σ := by
  rw [fx_65]
  refine gg_m (own := 5) (rt := (some .boolean)) (hnd := fun _ _ => none) (K := gk_65) (δ := 1) rfl rfl ?_
  refine gg_al 1 0 rfl rfl rfl ?_
  refine gg_il 2 1 rfl rfl rfl ?_
  refine gg_cI 5 rfl (gm_63 _) (Nat.le_of_ble_eq_true rfl) (gb_vs rfl rfl rfl rfl rfl gcl_6 rfl rfl rfl) rfl (fun _ => rfl) (fun _ => rfl) (fun r1 s2 => ?_)
  refine gg_q (fun q3 => ?_)
  refine gg_zeq 21 8 rfl rfl rfl rfl q3 ?_ ?_
  · refine gg_ci 22 0 rfl rfl ?_
    exact gg_zr rfl (Or.inl rfl)
  · refine gg_al 9 0 rfl rfl rfl ?_
    refine gg_gr 12 11 rfl rfl rfl gcl_6 rfl ?_
    refine gg_il 13 1 rfl rfl rfl ?_
    refine gg_q (fun q4 => ?_)
    refine gg_bal 14 rfl rfl gar_11 q4 ?_
    refine gg_q (fun q5 => ?_)
    refine gg_zeq 21 17 rfl rfl rfl rfl q5 ?_ ?_
    · refine gg_ci 22 0 rfl rfl ?_
      exact gg_zr rfl (Or.inl rfl)
    · refine gg_ci 18 1 rfl rfl ?_
      refine gg_go 22 rfl rfl rfl ?_
      exact gg_zr rfl (Or.inr rfl)
theorem gt_66_4 (k : Nat) : ∀ (x1 : Int) (x2 : Int) (x3 : Int) {lo : gh_L} (l0 : lo.lookup 0 = some (vr c0 6)) (l1 : lo.lookup 1 = some (vi x1)) (l2 : lo.lookup 2 = some (vi x2)) (l3 : lo.lookup 3 = some (vi x3)) {σ : gb_S}, gb_G (fx_66_4 k x1 x2 x3 σ) 0 5 (some .int) (fun _ _ => none) gk_66 c0 eI 4 lo [] σ := by
  induction k with
  | zero => intros; exact gg_n
  | succ k ih =>
    intro x1 x2 x3 lo l0 l1 l2 l3 σ
    rw [fx_66_4]
    refine gg_il 5 3 rfl rfl l3 ?_
    refine gg_al 6 0 rfl rfl l0 ?_
    refine gg_gi 9 rfl rfl rfl gcl_6 rfl ?_
    refine gg_q (fun q1 => ?_)
    refine gg_q (fun q2 => ?_)
    refine gg_ige 40 12 rfl rfl rfl rfl q1 q2 ?_ ?_
    · refine gg_il 41 2 rfl rfl l2 ?_
      exact gg_ir rfl
    · refine gg_al 13 0 rfl rfl l0 ?_
      refine gg_gr 16 12 rfl rfl rfl gcl_6 rfl ?_
      refine gg_il 17 3 rfl rfl l3 ?_
      refine gg_q (fun q3 => ?_)
      refine gg_ial 18 rfl rfl gar_12 q3 ?_
      refine gg_il 19 1 rfl rfl l1 ?_
      refine gg_q (fun q4 => ?_)
      refine gg_q (fun q5 => ?_)
      refine gg_ine 34 22 rfl rfl rfl rfl q4 q5 ?_ ?_
      · refine gg_inc 37 rfl rfl l3 ?_
        refine gg_go 4 rfl rfl rfl ?_
        exact ih x1 x2 (x3 + 1) (gl1 rfl rfl l0) (gl1 rfl rfl l1) (gl1 rfl rfl l2) gs1
      · refine gg_al 23 0 rfl rfl l0 ?_
        refine gg_gr 26 14 rfl rfl rfl gcl_6 rfl ?_
        refine gg_il 27 3 rfl rfl l3 ?_
        refine gg_bal 28 rfl rfl gar_14 q3 ?_
        refine gg_q (fun q6 => ?_)
        refine gg_zeq 34 31 rfl rfl rfl rfl q6 ?_ ?_
        · refine gg_inc 37 rfl rfl l3 ?_
          refine gg_go 4 rfl rfl rfl ?_
          exact ih x1 x2 (x3 + 1) (gl1 rfl rfl l0) (gl1 rfl rfl l1) (gl1 rfl rfl l2) gs1
        · refine gg_inc 34 rfl rfl l2 ?_
          refine gg_inc 37 rfl rfl (gl1 rfl rfl l3) ?_
          refine gg_go 4 rfl rfl rfl ?_
          exact ih x1 (x2 + 1) (x3 + 1) (gl1 rfl rfl (gl1 rfl rfl l0)) (gl1 rfl rfl (gl1 rfl rfl l1)) (gl1 rfl rfl gs1) gs1
theorem gm_66 (x1 : Int) {σ : gb_S} : gb_M (fx_66 x1 σ) 1 c0 eI 66 [vr c0 6, vi x1] σ := by
  rw [fx_66]
  refine gg_m (own := 5) (rt := (some .int)) (hnd := fun _ _ => none) (K := gk_66) (δ := 0) rfl rfl ?_
  refine gg_ci 1 0 rfl rfl ?_
  refine gg_s 2 rfl rfl ?_
  refine gg_ci 3 0 rfl rfl ?_
  refine gg_s 4 rfl rfl ?_
  exact gt_66_4 gFU x1 0 0 (gl1 rfl rfl (gl1 rfl rfl rfl)) (gl1 rfl rfl (gl1 rfl rfl rfl)) (gl1 rfl rfl gs1) gs1
theorem gm_70 (a0 : Nat) (a1 : Nat) (h0 : gb_kd a0 = 6) (h1 : gb_kd a1 = 6) {σ : gb_S} : gb_M (fx_70 a0 a1 σ) 1 c0 eV 70 [vr c0 a0, vr c0 a1] σ := by
  rw [fx_70]
  refine gg_m (own := 6) (rt := none) (hnd := fun _ _ => none) (K := gk_70) (δ := 0) rfl rfl ?_
  refine gg_al 1 1 rfl rfl rfl ?_
  refine gg_gr 4 (a1 + 1) rfl rfl rfl (gsh0 h1) rfl ?_
  refine gg_ci 5 0 rfl rfl ?_
  refine gg_al 6 0 rfl rfl rfl ?_
  refine gg_gr 9 (a0 + 1) rfl rfl rfl (gsh0 h0) rfl ?_
  refine gg_ci 10 0 rfl rfl ?_
  refine gg_ci 12 14 rfl rfl ?_
  refine gg_acp 15 (Or.inr ⟨rfl, rfl⟩) (Nat.le_of_ble_eq_true rfl) rfl rfl rfl rfl (gsh1 h1).1 (gsh1 h0).1 ?_
  refine gg_al 16 1 rfl rfl rfl ?_
  refine gg_gr 19 (a1 + 2) rfl rfl rfl (gsh0 h1) rfl ?_
  refine gg_ci 20 0 rfl rfl ?_
  refine gg_al 21 0 rfl rfl rfl ?_
  refine gg_gr 24 (a0 + 2) rfl rfl rfl (gsh0 h0) rfl ?_
  refine gg_ci 25 0 rfl rfl ?_
  refine gg_ci 27 14 rfl rfl ?_
  refine gg_acp 30 (Or.inr ⟨rfl, rfl⟩) (Nat.le_of_ble_eq_true rfl) rfl rfl rfl rfl (gsh2 h1).1 (gsh2 h0).1 ?_
  exact gg_vr rfl
theorem gt_75_4 (k : Nat) : ∀ (a0 : Nat) (x1 : Int) (x2 : Int) (h0 : gb_kd a0 = 6) {lo : gh_L} (l0 : lo.lookup 0 = some (vr c0 a0)) (l1 : lo.lookup 1 = some (vi x1)) (l2 : lo.lookup 2 = some (vi x2)) {σ : gb_S}, gb_G (fx_75_4 k a0 x1 x2 σ) 0 6 (some .int) (fun _ _ => none) gk_75 c0 eI 4 lo [] σ := by
  induction k with
  | zero => intros; exact gg_n
  | succ k ih =>
    intro a0 x1 x2 h0 lo l0 l1 l2 σ
    rw [fx_75_4]
    refine gg_il 5 2 rfl rfl l2 ?_
    refine gg_ci 7 14 rfl rfl ?_
    refine gg_q (fun q1 => ?_)
    refine gg_ige 30 10 rfl rfl rfl rfl q1 (gRl rfl) ?_ ?_
    · refine gg_il 31 1 rfl rfl l1 ?_
      exact gg_ir rfl
    · refine gg_al 11 0 rfl rfl l0 ?_
      refine gg_gr 14 (a0 + 1) rfl rfl rfl (gsh0 h0) rfl ?_
      refine gg_il 15 2 rfl rfl l2 ?_
      refine gg_q (fun q2 => ?_)
      refine gg_lal 16 rfl rfl (gsh1 h0) q2 ?_
      refine gg_cl 17 0 rfl rfl ?_
      refine gg_q (fun q3 => ?_)
      refine gg_Lle 24 21 rfl rfl rfl rfl rfl q3 ⟨by decide, by decide⟩ ?_ ?_
      · refine gg_inc 27 rfl rfl l2 ?_
        refine gg_go 4 rfl rfl rfl ?_
        exact ih a0 x1 (x2 + 1) h0 (gl1 rfl rfl l0) (gl1 rfl rfl l1) gs1
      · refine gg_inc 24 rfl rfl l1 ?_
        refine gg_inc 27 rfl rfl (gl1 rfl rfl l2) ?_
        refine gg_go 4 rfl rfl rfl ?_
        exact ih a0 (x1 + 1) (x2 + 1) h0 (gl1 rfl rfl (gl1 rfl rfl l0)) (gl1 rfl rfl gs1) gs1
theorem gm_75 (a0 : Nat) (h0 : gb_kd a0 = 6) {σ : gb_S} : gb_M (fx_75 a0 σ) 1 c0 eI 75 [vr c0 a0] σ := by
  rw [fx_75]
  refine gg_m (own := 6) (rt := (some .int)) (hnd := fun _ _ => none) (K := gk_75) (δ := 0) rfl rfl ?_
  refine gg_ci 1 0 rfl rfl ?_
  refine gg_s 2 rfl rfl ?_
  refine gg_ci 3 0 rfl rfl ?_
  refine gg_s 4 rfl rfl ?_
  exact gt_75_4 gFU a0 0 0 h0 (gl1 rfl rfl (gl1 rfl rfl rfl)) (gl1 rfl rfl gs1) gs1
theorem gt_76_2 (k : Nat) : ∀ (a0 : Nat) (a1 : Nat) (x2 : Int) (h0 : gb_kd a0 = 6) (h1 : gb_kd a1 = 6) {lo : gh_L} (l0 : lo.lookup 0 = some (vr c0 a0)) (l1 : lo.lookup 1 = some (vr c0 a1)) (l2 : lo.lookup 2 = some (vi x2)) {σ : gb_S}, gb_G (fx_76_2 k a0 a1 x2 σ) 0 6 (some .boolean) (fun _ _ => none) gk_76 c0 eI 2 lo [] σ := by
  induction k with
  | zero => intros; exact gg_n
  | succ k ih =>
    intro a0 a1 x2 h0 h1 lo l0 l1 l2 σ
    rw [fx_76_2]
    refine gg_il 3 2 rfl rfl l2 ?_
    refine gg_ci 5 14 rfl rfl ?_
    refine gg_q (fun q1 => ?_)
    refine gg_ige 48 8 rfl rfl rfl rfl q1 (gRl rfl) ?_ ?_
    · refine gg_ci 49 1 rfl rfl ?_
      exact gg_zr rfl (Or.inr rfl)
    · refine gg_al 9 0 rfl rfl l0 ?_
      refine gg_gr 12 (a0 + 1) rfl rfl rfl (gsh0 h0) rfl ?_
      refine gg_il 13 2 rfl rfl l2 ?_
      refine gg_q (fun q2 => ?_)
      refine gg_lal 14 rfl rfl (gsh1 h0) q2 ?_
      refine gg_al 15 1 rfl rfl l1 ?_
      refine gg_gr 18 (a1 + 1) rfl rfl rfl (gsh0 h1) rfl ?_
      refine gg_il 19 2 rfl rfl l2 ?_
      refine gg_lal 20 rfl rfl (gsh1 h1) q2 ?_
      refine gg_q (fun q3 => ?_)
      refine gg_q (fun q4 => ?_)
      refine gg_Lne 40 24 rfl rfl rfl rfl rfl q3 q4 ?_ ?_
      · refine gg_ci 41 0 rfl rfl ?_
        exact gg_zr rfl (Or.inl rfl)
      · refine gg_al 25 0 rfl rfl l0 ?_
        refine gg_gr 28 (a0 + 2) rfl rfl rfl (gsh0 h0) rfl ?_
        refine gg_il 29 2 rfl rfl l2 ?_
        refine gg_lal 30 rfl rfl (gsh2 h0) q2 ?_
        refine gg_al 31 1 rfl rfl l1 ?_
        refine gg_gr 34 (a1 + 2) rfl rfl rfl (gsh0 h1) rfl ?_
        refine gg_il 35 2 rfl rfl l2 ?_
        refine gg_lal 36 rfl rfl (gsh2 h1) q2 ?_
        refine gg_q (fun q5 => ?_)
        refine gg_q (fun q6 => ?_)
        refine gg_Leq 42 40 rfl rfl rfl rfl rfl q5 q6 ?_ ?_
        · refine gg_inc 45 rfl rfl l2 ?_
          refine gg_go 2 rfl rfl rfl ?_
          exact ih a0 a1 (x2 + 1) h0 h1 (gl1 rfl rfl l0) (gl1 rfl rfl l1) gs1
        · refine gg_ci 41 0 rfl rfl ?_
          exact gg_zr rfl (Or.inl rfl)
theorem gm_76 (a0 : Nat) (a1 : Nat) (h0 : gb_kd a0 = 6) (h1 : gb_kd a1 = 6) {σ : gb_S} : gb_M (fx_76 a0 a1 σ) 1 c0 eI 76 [vr c0 a0, vr c0 a1] σ := by
  rw [fx_76]
  refine gg_m (own := 6) (rt := (some .boolean)) (hnd := fun _ _ => none) (K := gk_76) (δ := 0) rfl rfl ?_
  refine gg_ci 1 0 rfl rfl ?_
  refine gg_s 2 rfl rfl ?_
  exact gt_76_2 gFU a0 a1 0 h0 h1 (gl1 rfl rfl rfl) (gl1 rfl rfl rfl) gs1
theorem gm_79 (x1 : Int) {σ : gb_S} : gb_M (fx_79 x1 σ) 1 c0 eI 79 [vr c0 1, vi x1] σ := by
  rw [fx_79]
  refine gg_m (own := 7) (rt := (some .int)) (hnd := fun _ _ => none) (K := gk_79) (δ := 0) rfl rfl ?_
  refine gg_il 1 1 rfl rfl rfl ?_
  refine gg_ci 2 1 rfl rfl ?_
  refine gg_q (fun q1 => ?_)
  refine gg_ilt 11 5 rfl rfl rfl rfl q1 (gRl rfl) ?_ ?_
  · exact gg_th rfl rfl rfl
  · refine gg_il 6 1 rfl rfl rfl ?_
    refine gg_ci 8 100 rfl rfl ?_
    refine gg_ile 21 11 rfl rfl rfl rfl q1 (gRl rfl) ?_ ?_
    · refine gg_al 22 0 rfl rfl rfl ?_
      refine gg_gi 25 rfl rfl rfl gcl_1 rfl ?_
      refine gg_il 26 1 rfl rfl rfl ?_
      refine gg_add 27 rfl rfl ?_
      refine gg_ci 30 2000 rfl rfl ?_
      refine gg_q (fun q2 => ?_)
      refine gg_ile 43 33 rfl rfl rfl rfl q2 (gRl rfl) ?_ ?_
      · refine gg_al 44 0 rfl rfl rfl ?_
        refine gg_s 45 rfl rfl ?_
        refine gg_gi 48 rfl rfl rfl gcl_1 rfl ?_
        refine gg_il 49 1 rfl rfl rfl ?_
        refine gg_add 50 rfl rfl ?_
        refine gg_pf 53 rfl rfl rfl gcl_1 rfl ⟨rfl, rfl⟩ ?_
        refine gg_al 54 0 rfl rfl rfl ?_
        refine gg_gi 57 rfl rfl rfl gcl_1 rfl ?_
        exact gg_ir rfl
      · exact gg_th rfl rfl rfl
    · exact gg_th rfl rfl rfl
theorem gm_80 {σ : gb_S} : gb_M (fx_80 σ) 1 c0 eI 80 [vr c0 1] σ := by
  rw [fx_80]
  refine gg_m (own := 7) (rt := (some .int)) (hnd := fun _ _ => none) (K := gk_80) (δ := 0) rfl rfl ?_
  refine gg_al 1 0 rfl rfl rfl ?_
  refine gg_gi 4 rfl rfl rfl gcl_1 rfl ?_
  exact gg_ir rfl
theorem gm_81 (x1 : Int) {σ : gb_S} : gb_M (fx_81 x1 σ) 3 c0 eI 81 [vr c0 1, vi x1] σ := by
  rw [fx_81]
  refine gg_m (own := 7) (rt := (some .int)) (hnd := fun _ _ => none) (K := gk_81) (δ := 2) rfl rfl ?_
  refine gg_il 1 1 rfl rfl rfl ?_
  refine gg_q (fun q1 => ?_)
  refine gg_zlt 12 4 rfl rfl rfl rfl q1 ?_ ?_
  · exact gg_th rfl rfl rfl
  · refine gg_il 5 1 rfl rfl rfl ?_
    refine gg_al 6 0 rfl rfl rfl ?_
    refine gg_gi 9 rfl rfl rfl gcl_1 rfl ?_
    refine gg_q (fun q2 => ?_)
    refine gg_ile 22 12 rfl rfl rfl rfl q1 q2 ?_ ?_
    · refine gg_al 23 0 rfl rfl rfl ?_
      refine gg_gr 26 2 rfl rfl rfl gcl_1 rfl ?_
      refine gg_gi 29 rfl rfl rfl gcl_2 rfl ?_
      refine gg_ci 31 14 rfl rfl ?_
      refine gg_q (fun q3 => ?_)
      refine gg_ilt 44 34 rfl rfl rfl rfl q3 (gRl rfl) ?_ ?_
      · refine gg_al 45 0 rfl rfl rfl ?_
        refine gg_gr 48 2 rfl rfl rfl gcl_1 rfl ?_
        refine gg_il 49 1 rfl rfl rfl ?_
        refine gg_cI 52 rfl (gm_22 _) (Nat.le_of_ble_eq_true rfl) (gb_vs rfl rfl rfl rfl rfl gcl_2 rfl rfl rfl) rfl (fun _ => rfl) (fun _ => rfl) (fun r4 s5 => ?_)
        exact gg_ir rfl
      · exact gg_th rfl rfl rfl
    · exact gg_th rfl rfl rfl
theorem gm_110 (x1 : Int) {σ : gb_S} : gb_M (fx_110 x1 σ) 1 c0 eV 110 [vr c0 1, vi x1] σ := by
  rw [fx_110]
  refine gg_m (own := 7) (rt := none) (hnd := fun _ _ => none) (K := gk_110) (δ := 0) rfl rfl ?_
  refine gg_il 1 1 rfl rfl rfl ?_
  refine gg_q (fun q1 => ?_)
  refine gg_zlt 15 4 rfl rfl rfl rfl q1 ?_ ?_
  · exact gg_th rfl rfl rfl
  · refine gg_il 5 1 rfl rfl rfl ?_
    refine gg_al 6 0 rfl rfl rfl ?_
    refine gg_gr 9 2 rfl rfl rfl gcl_1 rfl ?_
    refine gg_gi 12 rfl rfl rfl gcl_2 rfl ?_
    refine gg_q (fun q2 => ?_)
    refine gg_ilt 26 15 rfl rfl rfl rfl q1 q2 ?_ ?_
    · exact gg_vr rfl
    · exact gg_th rfl rfl rfl
theorem gm_116 (x1 : Int) {σ : gb_S} : gb_M (fx_116 x1 σ) 3 c0 eV 116 [vr c0 1, vi x1] σ := by
  rw [fx_116]
  refine gg_m (own := 7) (rt := none) (hnd := fun _ _ => none) (K := gk_116) (δ := 2) rfl rfl ?_
  refine gg_al 1 0 rfl rfl rfl ?_
  refine gg_gr 4 2 rfl rfl rfl gcl_1 rfl ?_
  refine gg_il 5 1 rfl rfl rfl ?_
  refine gg_cI 8 rfl (gm_24 _) (Nat.le_of_ble_eq_true rfl) (gb_vs rfl rfl rfl rfl rfl gcl_2 rfl rfl rfl) rfl (fun _ => rfl) (fun _ => rfl) (fun r1 s2 => ?_)
  refine gg_q (fun q3 => ?_)
  refine gg_zeq 22 11 rfl rfl rfl rfl q3 ?_ ?_
  · exact gg_vr rfl
  · exact gg_th rfl rfl rfl
theorem gt_82_26 (k : Nat) : ∀ (x1 : Int) (x2 : Int) (x3 : Int) {lo : gh_L} (l0 : lo.lookup 0 = some (vr c0 1)) (l1 : lo.lookup 1 = some (vi x1)) (l2 : lo.lookup 2 = some (vi x2)) (l3 : lo.lookup 3 = some (vi x3)) {σ : gb_S}, gb_G (fx_82_26 k x1 x2 x3 σ) 3 7 (some .int) (fun _ _ => none) gk_82 c0 eI 26 lo [] σ := by
  induction k with
  | zero => intros; exact gg_n
  | succ k ih =>
    intro x1 x2 x3 lo l0 l1 l2 l3 σ
    rw [fx_82_26]
    refine gg_il 27 3 rfl rfl l3 ?_
    refine gg_ci 29 14 rfl rfl ?_
    refine gg_q (fun q1 => ?_)
    refine gg_ige 66 32 rfl rfl rfl rfl q1 (gRl rfl) ?_ ?_
    · refine gg_il 67 2 rfl rfl l2 ?_
      exact gg_ir rfl
    · refine gg_al 33 0 rfl rfl l0 ?_
      refine gg_gr 36 25 rfl rfl rfl gcl_1 rfl ?_
      refine gg_il 37 3 rfl rfl l3 ?_
      refine gg_q (fun q2 => ?_)
      refine gg_aal 38 rfl rfl q2 ?_
      refine gg_gi 41 rfl rfl rfl (ges0 (ges_at q2)) rfl ?_
      refine gg_q (fun q3 => ?_)
      refine gg_zne 60 44 rfl rfl rfl rfl q3 ?_ ?_
      · refine gg_inc 63 rfl rfl l3 ?_
        refine gg_go 26 rfl rfl rfl ?_
        exact ih x1 x2 (x3 + 1) (gl1 rfl rfl l0) (gl1 rfl rfl l1) (gl1 rfl rfl l2) gs1
      · refine gg_al 45 0 rfl rfl l0 ?_
        refine gg_gr 48 25 rfl rfl rfl gcl_1 rfl ?_
        refine gg_il 49 3 rfl rfl l3 ?_
        refine gg_aal 50 rfl rfl q2 ?_
        refine gg_il 51 1 rfl rfl l1 ?_
        refine gg_cI 54 rfl (gm_17 _ _ (ges_at q2)) (Nat.le_of_ble_eq_true rfl) (gb_vs rfl rfl rfl rfl rfl (ges0 (ges_at q2)) rfl rfl rfl) rfl (fun _ => rfl) (fun _ => rfl) (fun r4 s5 => ?_)
        refine gg_q (fun q6 => ?_)
        refine gg_zeq 60 57 rfl rfl rfl rfl q6 ?_ ?_
        · refine gg_inc 63 rfl rfl l3 ?_
          refine gg_go 26 rfl rfl rfl ?_
          exact ih x1 x2 (x3 + 1) (gl1 rfl rfl l0) (gl1 rfl rfl l1) (gl1 rfl rfl l2) gs1
        · refine gg_inc 60 rfl rfl l2 ?_
          refine gg_inc 63 rfl rfl (gl1 rfl rfl l3) ?_
          refine gg_go 26 rfl rfl rfl ?_
          exact ih x1 (x2 + 1) (x3 + 1) (gl1 rfl rfl (gl1 rfl rfl l0)) (gl1 rfl rfl (gl1 rfl rfl l1)) (gl1 rfl rfl gs1) gs1
theorem gm_82 (x1 : Int) {σ : gb_S} : gb_M (fx_82 x1 σ) 4 c0 eI 82 [vr c0 1, vi x1] σ := by
  rw [fx_82]
  refine gg_m (own := 7) (rt := (some .int)) (hnd := fun _ _ => none) (K := gk_82) (δ := 3) rfl rfl ?_
  refine gg_al 1 0 rfl rfl rfl ?_
  refine gg_il 2 1 rfl rfl rfl ?_
  refine gg_cV 5 rfl (gm_110 _) (Nat.le_of_ble_eq_true rfl) (gb_vs rfl rfl rfl rfl rfl gcl_1 rfl rfl rfl) rfl (fun _ => rfl) (fun _ => rfl) (fun s2 => ?_)
  refine gg_al 6 0 rfl rfl rfl ?_
  refine gg_il 7 1 rfl rfl rfl ?_
  refine gg_cV 10 rfl (gm_116 _) (Nat.le_of_ble_eq_true rfl) (gb_vs rfl rfl rfl rfl rfl gcl_1 rfl rfl rfl) rfl (fun _ => rfl) (fun _ => rfl) (fun s4 => ?_)
  refine gg_al 11 0 rfl rfl rfl ?_
  refine gg_gr 14 2 rfl rfl rfl gcl_1 rfl ?_
  refine gg_il 15 1 rfl rfl rfl ?_
  refine gg_al 16 0 rfl rfl rfl ?_
  refine gg_gi 19 rfl rfl rfl gcl_1 rfl ?_
  refine gg_cV 22 rfl (gm_23 _ _) (Nat.le_of_ble_eq_true rfl) (gb_vs rfl rfl rfl rfl rfl gcl_2 rfl rfl rfl) rfl (fun _ => rfl) (fun _ => rfl) (fun s6 => ?_)
  refine gg_ci 23 0 rfl rfl ?_
  refine gg_s 24 rfl rfl ?_
  refine gg_ci 25 0 rfl rfl ?_
  refine gg_s 26 rfl rfl ?_
  exact gt_82_26 gFU x1 0 0 (gl1 rfl rfl (gl1 rfl rfl rfl)) (gl1 rfl rfl (gl1 rfl rfl rfl)) (gl1 rfl rfl gs1) gs1
theorem gm_83 {σ : gb_S} : gb_M (fx_83 σ) 1 c0 eI 83 [vr c0 1] σ := by
  rw [fx_83]
  refine gg_m (own := 7) (rt := (some .int)) (hnd := fun _ _ => none) (K := gk_83) (δ := 0) rfl rfl ?_
  refine gg_al 1 0 rfl rfl rfl ?_
  refine gg_gr 4 2 rfl rfl rfl gcl_1 rfl ?_
  refine gg_gi 7 rfl rfl rfl gcl_2 rfl ?_
  exact gg_ir rfl
theorem gm_84 (x1 : Int) {σ : gb_S} : gb_M (fx_84 x1 σ) 3 c0 eI 84 [vr c0 1, vi x1] σ := by
  rw [fx_84]
  refine gg_m (own := 7) (rt := (some .boolean)) (hnd := fun _ _ => none) (K := gk_84) (δ := 2) rfl rfl ?_
  refine gg_al 1 0 rfl rfl rfl ?_
  refine gg_il 2 1 rfl rfl rfl ?_
  refine gg_cV 5 rfl (gm_110 _) (Nat.le_of_ble_eq_true rfl) (gb_vs rfl rfl rfl rfl rfl gcl_1 rfl rfl rfl) rfl (fun _ => rfl) (fun _ => rfl) (fun s2 => ?_)
  refine gg_al 6 0 rfl rfl rfl ?_
  refine gg_gr 9 2 rfl rfl rfl gcl_1 rfl ?_
  refine gg_il 10 1 rfl rfl rfl ?_
  refine gg_cI 13 rfl (gm_24 _) (Nat.le_of_ble_eq_true rfl) (gb_vs rfl rfl rfl rfl rfl gcl_2 rfl rfl rfl) rfl (fun _ => rfl) (fun _ => rfl) (fun r3 s4 => ?_)
  refine gg_q (fun q5 => ?_)
  refine gg_zne 20 16 rfl rfl rfl rfl q5 ?_ ?_
  · refine gg_ci 21 0 rfl rfl ?_
    exact gg_zr rfl (Or.inl rfl)
  · refine gg_ci 17 1 rfl rfl ?_
    refine gg_go 21 rfl rfl rfl ?_
    exact gg_zr rfl (Or.inr rfl)
theorem gm_113 (x1 : Int) (x2 : Int) {σ : gb_S} : gb_M (fx_113 x1 x2 σ) 1 c0 eV 113 [vr c0 1, vi x1, vi x2] σ := by
  rw [fx_113]
  refine gg_m (own := 7) (rt := none) (hnd := fun _ _ => none) (K := gk_113) (δ := 0) rfl rfl ?_
  refine gg_il 1 1 rfl rfl rfl ?_
  refine gg_il 2 2 rfl rfl rfl ?_
  refine gg_q (fun q1 => ?_)
  refine gg_q (fun q2 => ?_)
  refine gg_ilt 11 5 rfl rfl rfl rfl q1 q2 ?_ ?_
  · exact gg_th rfl rfl rfl
  · refine gg_il 6 1 rfl rfl rfl ?_
    refine gg_ci 8 9 rfl rfl ?_
    refine gg_ile 22 11 rfl rfl rfl rfl q1 (gRl rfl) ?_ ?_
    · exact gg_vr rfl
    · exact gg_th rfl rfl rfl
theorem gm_122 (a1 : Nat) (h1 : gb_kd a1 = 1) {σ : gb_S} : gb_M (fx_122 a1 σ) 6 c0 eI 122 [vr c0 1, vr c0 a1] σ := by
  rw [fx_122]
  refine gg_m (own := 7) (rt := (some .boolean)) (hnd := fun _ _ => none) (K := gk_122) (δ := 5) rfl rfl ?_
  refine gg_al 1 0 rfl rfl rfl ?_
  refine gg_gr 4 26 rfl rfl rfl gcl_1 rfl ?_
  refine gg_al 5 0 rfl rfl rfl ?_
  refine gg_gr 8 2 rfl rfl rfl gcl_1 rfl ?_
  refine gg_al 9 0 rfl rfl rfl ?_
  refine gg_gr 12 15 rfl rfl rfl gcl_1 rfl ?_
  refine gg_al 13 1 rfl rfl rfl ?_
  refine gg_al 14 0 rfl rfl rfl ?_
  refine gg_gr 17 41 rfl rfl rfl gcl_1 rfl ?_
  refine gg_cV 20 rfl (gm_1 _ _ _ (rfl : gb_kd 15 = 3) h1 (rfl : gb_kd 41 = 6)) (Nat.le_of_ble_eq_true rfl) (gb_vs rfl rfl rfl rfl rfl gcl_26 rfl rfl rfl) rfl (fun _ => rfl) (fun _ => rfl) (fun s2 => ?_)
  refine gg_al 21 0 rfl rfl rfl ?_
  refine gg_gr 24 41 rfl rfl rfl gcl_1 rfl ?_
  refine gg_al 25 1 rfl rfl rfl ?_
  refine gg_gr 28 (a1 + 3) rfl rfl rfl (ges0 h1) rfl ?_
  refine gg_cI 31 rfl (gm_76 _ _ (rfl : gb_kd 41 = 6) (ges3 h1)) (Nat.le_of_ble_eq_true rfl) (gb_vs rfl rfl rfl rfl rfl gcl_41 rfl rfl rfl) rfl (fun _ => rfl) (fun _ => rfl) (fun r3 s4 => ?_)
  refine gg_q (fun q5 => ?_)
  refine gg_zeq 36 34 rfl rfl rfl rfl q5 ?_ ?_
  · refine gg_al 37 1 rfl rfl rfl ?_
    refine gg_gr 40 (a1 + 3) rfl rfl rfl (ges0 h1) rfl ?_
    refine gg_al 41 0 rfl rfl rfl ?_
    refine gg_gr 44 41 rfl rfl rfl gcl_1 rfl ?_
    refine gg_cV 47 rfl (gm_70 _ _ (ges3 h1) (rfl : gb_kd 41 = 6)) (Nat.le_of_ble_eq_true rfl) (gb_vs rfl rfl rfl rfl rfl (gsh0 (ges3 h1)) rfl rfl rfl) rfl (fun _ => rfl) (fun _ => rfl) (fun s7 => ?_)
    refine gg_al 48 1 rfl rfl rfl ?_
    refine gg_s 49 rfl rfl ?_
    refine gg_gi 52 rfl rfl rfl (ges0 h1) rfl ?_
    refine gg_ci 53 1 rfl rfl ?_
    refine gg_add 54 rfl rfl ?_
    refine gg_pf 57 rfl rfl rfl (ges0 h1) rfl ⟨rfl, rfl⟩ ?_
    refine gg_ci 58 1 rfl rfl ?_
    exact gg_zr rfl (Or.inr rfl)
  · refine gg_ci 35 0 rfl rfl ?_
    exact gg_zr rfl (Or.inl rfl)
end GF2
