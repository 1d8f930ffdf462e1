section GF3
variable {c0 : gh_C}
def fx_49_131 (k : Nat) (x3 : Int) (x4 : Int) (σ : gb_S) : Option gb_P := match k with
  | 0 => none
  | k + 1 =>
    gq (gR x4) (
    (if x4 < 60 then
      gq (0 ≤ x4 ∧ x4 < 60) (
      gq (gR (σ 37 x4.toNat)) (
      gq (gR (σ 38 x4.toNat)) (
      (if (σ 37 x4.toNat) = (σ 38 x4.toNat) then
        fx_49_131 k x3 (x4 + 1) σ
      else
        fx_49_131 k (x3 + 1) (x4 + 1) σ))))
    else
      some (.inl x3, σ)))
def fx_49_66 (k : Nat) (x3 : Int) (σ : gb_S) : Option gb_P := match k with
  | 0 => none
  | k + 1 =>
    gq (gR x3) (
    gq (gR (σ 30 5)) (
    (if x3 < (σ 30 5) then
      gq (0 ≤ x3 ∧ x3 < 134) (
      gq (gR (σ 35 x3.toNat)) (
      (if (σ 35 x3.toNat) = 0 then
        gc (fx_51 37 x3 σ) (fun _ s12 =>
        fx_49_66 k (x3 + 1) s12)
      else
        gc (fx_56 (σ 31 x3.toNat) σ) (fun r5 s6 =>
        gq (gR r5) (
        (if r5 = 0 then
          fx_49_66 k (x3 + 1) s6
        else
          gq (0 ≤ (s6 31 x3.toNat) ∧ (s6 31 x3.toNat) < 14) (
          gc (fx_52 (47 + 10 * (s6 31 x3.toNat).toNat) s6) (fun _ s10 =>
          fx_49_66 k (x3 + 1) s10))))))))
    else
      fx_49_131 gFU 0 0 σ)))
/-- Treeclerk$Land.redrawFrom -/
def fx_49 (x1 : Int) (σ : gb_S) : Option gb_P :=
  gq (gR x1) (
  (if x1 < 0 then
    some (.inl 0, σ)
  else
    gq (gR (σ 30 5)) (
    (if x1 < (σ 30 5) then
      gq (0 ≤ x1 ∧ x1 < 134) (
      gc (fx_56 (σ 31 x1.toNat) σ) (fun r4 s5 =>
      gq (gR r4) (
      (if r4 = 0 then
        some (.inl 0, s5)
      else
        gq (0 ≤ ((gb_cp s5 37 38) 31 x1.toNat) ∧ ((gb_cp s5 37 38) 31 x1.toNat) < 14) (
        fx_49_66 gFU x1 (gb_cp (gb_cp s5 37 38) ((47 + 10 * ((gb_cp s5 37 38) 31 x1.toNat).toNat) + 9) 37))))))
    else
      some (.inl 0, σ)))))
theorem gt_49_131 (k : Nat) : ∀ (x3 : Int) (x4 : Int) {lo : gh_L} (l0 : lo.lookup 0 = some (vr 30)) (l3 : lo.lookup 3 = some (vi x3)) (l4 : lo.lookup 4 = some (vi x4)) {σ : gb_S}, gb_G (fx_49_131 k x3 x4 σ) 5 4 (some .int) (fun _ _ => none) gk_49 c0 eI 131 lo [] σ := by
  induction k with
  | zero => intros; exact gg_n
  | succ k ih =>
    intro x3 x4 lo l0 l3 l4 σ
    rw [fx_49_131]
    refine gg_il 133 4 rfl rfl l4 ?_
    refine gg_ci 135 60 rfl rfl ?_
    refine gg_q (fun q1 => ?_)
    refine gg_ige 164 138 rfl rfl rfl rfl q1 (gRl rfl) ?_ ?_
    · refine gg_il 165 3 rfl rfl l3 ?_
      exact gg_ir rfl
    · refine gg_al 139 0 rfl rfl l0 ?_
      refine gg_gr 142 37 rfl rfl rfl gcl_30 rfl ?_
      refine gg_il 144 4 rfl rfl l4 ?_
      refine gg_q (fun q2 => ?_)
      refine gg_ial 145 rfl rfl gar_37 q2 ?_
      refine gg_al 146 0 rfl rfl l0 ?_
      refine gg_gr 149 38 rfl rfl rfl gcl_30 rfl ?_
      refine gg_il 151 4 rfl rfl l4 ?_
      refine gg_ial 152 rfl rfl gar_38 q2 ?_
      refine gg_q (fun q3 => ?_)
      refine gg_q (fun q4 => ?_)
      refine gg_ieq 158 155 rfl rfl rfl rfl q3 q4 ?_ ?_
      · refine gg_inc 161 rfl rfl l4 ?_
        refine gg_go 131 rfl rfl rfl ?_
        exact ih x3 (x4 + 1) (gl1 rfl rfl l0) (gl1 rfl rfl l3) gs1
      · refine gg_inc 158 rfl rfl l3 ?_
        refine gg_inc 161 rfl rfl (gl1 rfl rfl l4) ?_
        refine gg_go 131 rfl rfl rfl ?_
        exact ih (x3 + 1) (x4 + 1) (gl1 rfl rfl (gl1 rfl rfl l0)) (gl1 rfl rfl gs1) gs1
theorem gt_49_66 (k : Nat) : ∀ (x3 : Int) {lo : gh_L} (l0 : lo.lookup 0 = some (vr 30)) (l2 : lo.lookup 2 = some (vr 25)) (l3 : lo.lookup 3 = some (vi x3)) {σ : gb_S}, gb_G (fx_49_66 k x3 σ) 5 4 (some .int) (fun _ _ => none) gk_49 c0 eI 66 lo [] σ := by
  induction k with
  | zero => intros; exact gg_n
  | succ k ih =>
    intro x3 lo l0 l2 l3 σ
    rw [fx_49_66]
    refine gg_il 67 3 rfl rfl l3 ?_
    refine gg_al 68 0 rfl rfl l0 ?_
    refine gg_gi 71 rfl rfl rfl gcl_30 rfl ?_
    refine gg_q (fun q1 => ?_)
    refine gg_q (fun q2 => ?_)
    refine gg_ige 126 74 rfl rfl rfl rfl q1 q2 ?_ ?_
    · refine gg_ci 127 0 rfl rfl ?_
      refine gg_s 128 rfl rfl ?_
      refine gg_ci 129 0 rfl rfl ?_
      refine gg_s 131 rfl rfl ?_
      exact gt_49_131 gFU 0 0 (gl1 rfl rfl (gl1 rfl rfl l0)) (gl1 rfl rfl gs1) gs1
    · refine gg_al 75 0 rfl rfl l0 ?_
      refine gg_gr 78 35 rfl rfl rfl gcl_30 rfl ?_
      refine gg_il 79 3 rfl rfl l3 ?_
      refine gg_q (fun q3 => ?_)
      refine gg_bal 80 rfl rfl gar_35 q3 ?_
      refine gg_q (fun q4 => ?_)
      refine gg_zne 95 83 rfl rfl rfl rfl q4 ?_ ?_
      · refine gg_al 96 0 rfl rfl l0 ?_
        refine gg_gr 99 31 rfl rfl rfl gcl_30 rfl ?_
        refine gg_il 100 3 rfl rfl l3 ?_
        refine gg_ial 101 rfl rfl gar_31 q3 ?_
        refine gg_al 102 2 rfl rfl l2 ?_
        refine gg_cI 105 rfl (gm_56 _) (Nat.le_of_ble_eq_true rfl) (gb_ss rfl rfl rfl rfl rfl rfl rfl) rfl (fun _ => rfl) (fun _ => rfl) (fun r5 s6 => ?_)
        refine gg_q (fun q7 => ?_)
        refine gg_zeq 120 108 rfl rfl rfl rfl q7 ?_ ?_
        · refine gg_inc 123 rfl rfl l3 ?_
          refine gg_go 66 rfl rfl rfl ?_
          exact ih (x3 + 1) (gl1 rfl rfl l0) (gl1 rfl rfl l2) gs1
        · refine gg_al 109 0 rfl rfl l0 ?_
          refine gg_al 110 2 rfl rfl l2 ?_
          refine gg_al 111 0 rfl rfl l0 ?_
          refine gg_gr 114 31 rfl rfl rfl gcl_30 rfl ?_
          refine gg_il 115 3 rfl rfl l3 ?_
          refine gg_ial 116 rfl rfl gar_31 q3 ?_
          refine gg_q (fun q8 => ?_)
          refine gg_aal 117 rfl rfl q8 ?_
          refine gg_cV 120 rfl (gm_52 _ (ges_at q8)) (Nat.le_of_ble_eq_true rfl) (gb_vs rfl rfl rfl rfl rfl gcl_30 rfl rfl rfl) rfl (fun _ => rfl) (fun _ => rfl) (fun s10 => ?_)
          refine gg_inc 123 rfl rfl l3 ?_
          refine gg_go 66 rfl rfl rfl ?_
          exact ih (x3 + 1) (gl1 rfl rfl l0) (gl1 rfl rfl l2) gs1
      · refine gg_al 84 0 rfl rfl l0 ?_
        refine gg_al 85 0 rfl rfl l0 ?_
        refine gg_gr 88 37 rfl rfl rfl gcl_30 rfl ?_
        refine gg_il 89 3 rfl rfl l3 ?_
        refine gg_cV 92 rfl (gm_51 _ _ (rfl : gb_kd 37 = 20)) (Nat.le_of_ble_eq_true rfl) (gb_vs rfl rfl rfl rfl rfl gcl_30 rfl rfl rfl) rfl (fun _ => rfl) (fun _ => rfl) (fun s12 => ?_)
        refine gg_go 120 rfl rfl rfl ?_
        refine gg_inc 123 rfl rfl l3 ?_
        refine gg_go 66 rfl rfl rfl ?_
        exact ih (x3 + 1) (gl1 rfl rfl l0) (gl1 rfl rfl l2) gs1
theorem gm_49 (x1 : Int) {σ : gb_S} : gb_M (fx_49 x1 σ) 6 c0 eI 49 [vr 30, vi x1, vr 25] σ := by
  rw [fx_49]
  refine gg_m (own := 4) (rt := (some .int)) (hnd := fun _ _ => none) (K := gk_49) (δ := 5) rfl rfl ?_
  refine gg_il 1 1 rfl rfl rfl ?_
  refine gg_q (fun q1 => ?_)
  refine gg_zlt 25 4 rfl rfl rfl rfl q1 ?_ ?_
  · refine gg_ci 26 0 rfl rfl ?_
    exact gg_ir rfl
  · refine gg_il 5 1 rfl rfl rfl ?_
    refine gg_al 6 0 rfl rfl rfl ?_
    refine gg_gi 9 rfl rfl rfl gcl_30 rfl ?_
    refine gg_q (fun q2 => ?_)
    refine gg_ige 25 12 rfl rfl rfl rfl q1 q2 ?_ ?_
    · refine gg_ci 26 0 rfl rfl ?_
      exact gg_ir rfl
    · refine gg_al 13 0 rfl rfl rfl ?_
      refine gg_gr 16 31 rfl rfl rfl gcl_30 rfl ?_
      refine gg_il 17 1 rfl rfl rfl ?_
      refine gg_q (fun q3 => ?_)
      refine gg_ial 18 rfl rfl gar_31 q3 ?_
      refine gg_al 19 2 rfl rfl rfl ?_
      refine gg_cI 22 rfl (gm_56 _) (Nat.le_of_ble_eq_true rfl) (gb_ss rfl rfl rfl rfl rfl rfl rfl) rfl (fun _ => rfl) (fun _ => rfl) (fun r4 s5 => ?_)
      refine gg_q (fun q6 => ?_)
      refine gg_zne 27 25 rfl rfl rfl rfl q6 ?_ ?_
      · refine gg_al 28 0 rfl rfl rfl ?_
        refine gg_gr 31 37 rfl rfl rfl gcl_30 rfl ?_
        refine gg_ci 32 0 rfl rfl ?_
        refine gg_al 33 0 rfl rfl rfl ?_
        refine gg_gr 36 38 rfl rfl rfl gcl_30 rfl ?_
        refine gg_ci 37 0 rfl rfl ?_
        refine gg_ci 39 60 rfl rfl ?_
        refine gg_acp 42 (Or.inl ⟨rfl, rfl⟩) (Nat.le_of_ble_eq_true rfl) rfl rfl rfl rfl gar_37.1 gar_38.1 ?_
        refine gg_al 43 2 rfl rfl rfl ?_
        refine gg_al 44 0 rfl rfl rfl ?_
        refine gg_gr 47 31 rfl rfl rfl gcl_30 rfl ?_
        refine gg_il 48 1 rfl rfl rfl ?_
        refine gg_ial 49 rfl rfl gar_31 q3 ?_
        refine gg_q (fun q7 => ?_)
        refine gg_aal 50 rfl rfl q7 ?_
        refine gg_gr 53 ((47 + 10 * ((gb_cp s5 37 38) 31 x1.toNat).toNat) + 9) rfl rfl rfl (ges0 (ges_at q7)) rfl ?_
        refine gg_ci 54 0 rfl rfl ?_
        refine gg_al 55 0 rfl rfl rfl ?_
        refine gg_gr 58 37 rfl rfl rfl gcl_30 rfl ?_
        refine gg_ci 59 0 rfl rfl ?_
        refine gg_ci 61 60 rfl rfl ?_
        refine gg_acp 64 (Or.inl ⟨rfl, rfl⟩) (Nat.le_of_ble_eq_true rfl) rfl rfl rfl rfl (ges9 (ges_at q7)).1 gar_37.1 ?_
        refine gg_il 65 1 rfl rfl rfl ?_
        refine gg_s 66 rfl rfl ?_
        exact gt_49_66 gFU x1 (gl1 rfl rfl rfl) (gl1 rfl rfl rfl) gs1
      · refine gg_ci 26 0 rfl rfl ?_
        exact gg_ir rfl
def fx_50_10 (k : Nat) (x1 : Int) (x3 : Int) (σ : gb_S) : Option gb_P := match k with
  | 0 => none
  | k + 1 =>
    gq (gR x3) (
    gq (gR (σ 30 5)) (
    (if x3 < (σ 30 5) then
      gq (0 ≤ x3 ∧ x3 < 134) (
      gq (gR (σ 35 x3.toNat)) (
      (if (σ 35 x3.toNat) = 0 then
        gc (fx_51 38 x3 σ) (fun _ s14 =>
        fx_50_10 k x1 (x3 + 1) s14)
      else
        gc (fx_56 (σ 31 x3.toNat) σ) (fun r7 s8 =>
        gq (gR r7) (
        (if r7 = 0 then
          fx_50_10 k x1 (x3 + 1) s8
        else
          gq (0 ≤ (s8 31 x3.toNat) ∧ (s8 31 x3.toNat) < 14) (
          gc (fx_53 38 (47 + 10 * (s8 31 x3.toNat).toNat) ((47 + 10 * (s8 31 x3.toNat).toNat) + 6) s8) (fun _ s12 =>
          fx_50_10 k x1 (x3 + 1) s12))))))))
    else
      gq (gR x1) (
      (if x1 < 0 then
        some (.inl (-1), σ)
      else
        (if x1 < 60 then
          gq (0 ≤ x1 ∧ x1 < 60) (
          some (.inl (σ 38 x1.toNat), σ))
        else
          some (.inl (-1), σ)))))))
/-- Treeclerk$Land.foundOwner -/
def fx_50 (x1 : Int) (σ : gb_S) : Option gb_P :=
  fx_50_10 gFU x1 0 (gb_fi σ 38 (-1))
theorem gt_50_10 (k : Nat) : ∀ (x1 : Int) (x3 : Int) {lo : gh_L} (l0 : lo.lookup 0 = some (vr 30)) (l1 : lo.lookup 1 = some (vi x1)) (l2 : lo.lookup 2 = some (vr 25)) (l3 : lo.lookup 3 = some (vi x3)) {σ : gb_S}, gb_G (fx_50_10 k x1 x3 σ) 4 4 (some .int) (fun _ _ => none) gk_50 c0 eI 10 lo [] σ := by
  induction k with
  | zero => intros; exact gg_n
  | succ k ih =>
    intro x1 x3 lo l0 l1 l2 l3 σ
    rw [fx_50_10]
    refine gg_il 11 3 rfl rfl l3 ?_
    refine gg_al 12 0 rfl rfl l0 ?_
    refine gg_gi 15 rfl rfl rfl gcl_30 rfl ?_
    refine gg_q (fun q1 => ?_)
    refine gg_q (fun q2 => ?_)
    refine gg_ige 83 18 rfl rfl rfl rfl q1 q2 ?_ ?_
    · refine gg_il 84 1 rfl rfl l1 ?_
      refine gg_q (fun q3 => ?_)
      refine gg_zlt 102 87 rfl rfl rfl rfl q3 ?_ ?_
      · refine gg_ci 103 (-1) rfl rfl ?_
        exact gg_ir rfl
      · refine gg_il 88 1 rfl rfl l1 ?_
        refine gg_ci 90 60 rfl rfl ?_
        refine gg_ige 102 93 rfl rfl rfl rfl q3 (gRl rfl) ?_ ?_
        · refine gg_ci 103 (-1) rfl rfl ?_
          exact gg_ir rfl
        · refine gg_al 94 0 rfl rfl l0 ?_
          refine gg_gr 97 38 rfl rfl rfl gcl_30 rfl ?_
          refine gg_il 98 1 rfl rfl l1 ?_
          refine gg_q (fun q4 => ?_)
          refine gg_ial 99 rfl rfl gar_38 q4 ?_
          refine gg_go 103 rfl rfl rfl ?_
          exact gg_ir rfl
    · refine gg_al 19 0 rfl rfl l0 ?_
      refine gg_gr 22 35 rfl rfl rfl gcl_30 rfl ?_
      refine gg_il 23 3 rfl rfl l3 ?_
      refine gg_q (fun q5 => ?_)
      refine gg_bal 24 rfl rfl gar_35 q5 ?_
      refine gg_q (fun q6 => ?_)
      refine gg_zne 39 27 rfl rfl rfl rfl q6 ?_ ?_
      · refine gg_al 40 0 rfl rfl l0 ?_
        refine gg_gr 43 31 rfl rfl rfl gcl_30 rfl ?_
        refine gg_il 44 3 rfl rfl l3 ?_
        refine gg_ial 45 rfl rfl gar_31 q5 ?_
        refine gg_al 46 2 rfl rfl l2 ?_
        refine gg_cI 49 rfl (gm_56 _) (Nat.le_of_ble_eq_true rfl) (gb_ss rfl rfl rfl rfl rfl rfl rfl) rfl (fun _ => rfl) (fun _ => rfl) (fun r7 s8 => ?_)
        refine gg_q (fun q9 => ?_)
        refine gg_zeq 77 52 rfl rfl rfl rfl q9 ?_ ?_
        · refine gg_inc 80 rfl rfl l3 ?_
          refine gg_go 10 rfl rfl rfl ?_
          exact ih x1 (x3 + 1) (gl1 rfl rfl l0) (gl1 rfl rfl l1) (gl1 rfl rfl l2) gs1
        · refine gg_al 53 2 rfl rfl l2 ?_
          refine gg_al 54 0 rfl rfl l0 ?_
          refine gg_gr 57 31 rfl rfl rfl gcl_30 rfl ?_
          refine gg_il 58 3 rfl rfl l3 ?_
          refine gg_ial 59 rfl rfl gar_31 q5 ?_
          refine gg_q (fun q10 => ?_)
          refine gg_aal 60 rfl rfl q10 ?_
          refine gg_s 62 rfl rfl ?_
          refine gg_al 63 0 rfl rfl (gl1 rfl rfl l0) ?_
          refine gg_al 64 0 rfl rfl (gl1 rfl rfl l0) ?_
          refine gg_gr 67 38 rfl rfl rfl gcl_30 rfl ?_
          refine gg_al 69 4 rfl rfl gs1 ?_
          refine gg_al 71 4 rfl rfl gs1 ?_
          refine gg_gr 74 ((47 + 10 * (s8 31 x3.toNat).toNat) + 6) rfl rfl rfl (ges0 (ges_at q10)) rfl ?_
          refine gg_cV 77 rfl (gm_53 _ _ _ (rfl : gb_kd 38 = 20) (ges_at q10) (ges6 (ges_at q10))) (Nat.le_of_ble_eq_true rfl) (gb_vs rfl rfl rfl rfl rfl gcl_30 rfl rfl rfl) rfl (fun _ => rfl) (fun _ => rfl) (fun s12 => ?_)
          refine gg_inc 80 rfl rfl (gl1 rfl rfl l3) ?_
          refine gg_go 10 rfl rfl rfl ?_
          exact ih x1 (x3 + 1) (gl1 rfl rfl (gl1 rfl rfl l0)) (gl1 rfl rfl (gl1 rfl rfl l1)) (gl1 rfl rfl (gl1 rfl rfl l2)) gs1
      · refine gg_al 28 0 rfl rfl l0 ?_
        refine gg_al 29 0 rfl rfl l0 ?_
        refine gg_gr 32 38 rfl rfl rfl gcl_30 rfl ?_
        refine gg_il 33 3 rfl rfl l3 ?_
        refine gg_cV 36 rfl (gm_51 _ _ (rfl : gb_kd 38 = 20)) (Nat.le_of_ble_eq_true rfl) (gb_vs rfl rfl rfl rfl rfl gcl_30 rfl rfl rfl) rfl (fun _ => rfl) (fun _ => rfl) (fun s14 => ?_)
        refine gg_go 77 rfl rfl rfl ?_
        refine gg_inc 80 rfl rfl l3 ?_
        refine gg_go 10 rfl rfl rfl ?_
        exact ih x1 (x3 + 1) (gl1 rfl rfl l0) (gl1 rfl rfl l1) (gl1 rfl rfl l2) gs1
theorem gm_50 (x1 : Int) {σ : gb_S} : gb_M (fx_50 x1 σ) 5 c0 eI 50 [vr 30, vi x1, vr 25] σ := by
  rw [fx_50]
  refine gg_m (own := 4) (rt := (some .int)) (hnd := fun _ _ => none) (K := gk_50) (δ := 4) rfl rfl ?_
  refine gg_al 1 0 rfl rfl rfl ?_
  refine gg_gr 4 38 rfl rfl rfl gcl_30 rfl ?_
  refine gg_ci 5 (-1) rfl rfl ?_
  refine gg_cF 8 rfl (gm_194 gar_38) (Nat.le_of_ble_eq_true rfl) (gb_ss rfl rfl rfl rfl rfl rfl rfl) rfl (fun _ => rfl) (fun _ => rfl) ?_
  refine gg_ci 9 0 rfl rfl ?_
  refine gg_s 10 rfl rfl ?_
  exact gt_50_10 gFU x1 0 (gl1 rfl rfl rfl) (gl1 rfl rfl rfl) (gl1 rfl rfl rfl) gs1
/-- Treeclerk$Proofs.file -/
def fx_59 (x1 : Int) (x2 : Int) (x3 : Int) (σ : gb_S) : Option gb_P :=
  gq (gR (σ 6 5)) (
  (if (σ 6 5) < 30 then
    gq (0 ≤ (σ 6 5) ∧ (σ 6 5) < 30) (
    gq (0 ≤ ((gb_up σ 7 (σ 6 5).toNat x1) 6 5) ∧ ((gb_up σ 7 (σ 6 5).toNat x1) 6 5) < 30) (
    gq (0 ≤ ((gb_up (gb_up σ 7 (σ 6 5).toNat x1) 8 ((gb_up σ 7 (σ 6 5).toNat x1) 6 5).toNat x2) 6 5) ∧ ((gb_up (gb_up σ 7 (σ 6 5).toNat x1) 8 ((gb_up σ 7 (σ 6 5).toNat x1) 6 5).toNat x2) 6 5) < 30) (
    some (.inl (((gb_up (gb_up (gb_up (gb_up σ 7 (σ 6 5).toNat x1) 8 ((gb_up σ 7 (σ 6 5).toNat x1) 6 5).toNat x2) 9 ((gb_up (gb_up σ 7 (σ 6 5).toNat x1) 8 ((gb_up σ 7 (σ 6 5).toNat x1) 6 5).toNat x2) 6 5).toNat x3) 6 5 (((gb_up (gb_up (gb_up σ 7 (σ 6 5).toNat x1) 8 ((gb_up σ 7 (σ 6 5).toNat x1) 6 5).toNat x2) 9 ((gb_up (gb_up σ 7 (σ 6 5).toNat x1) 8 ((gb_up σ 7 (σ 6 5).toNat x1) 6 5).toNat x2) 6 5).toNat x3) 6 5) + 1)) 6 5) - 1), (gb_up (gb_up (gb_up (gb_up σ 7 (σ 6 5).toNat x1) 8 ((gb_up σ 7 (σ 6 5).toNat x1) 6 5).toNat x2) 9 ((gb_up (gb_up σ 7 (σ 6 5).toNat x1) 8 ((gb_up σ 7 (σ 6 5).toNat x1) 6 5).toNat x2) 6 5).toNat x3) 6 5 (((gb_up (gb_up (gb_up σ 7 (σ 6 5).toNat x1) 8 ((gb_up σ 7 (σ 6 5).toNat x1) 6 5).toNat x2) 9 ((gb_up (gb_up σ 7 (σ 6 5).toNat x1) 8 ((gb_up σ 7 (σ 6 5).toNat x1) 6 5).toNat x2) 6 5).toNat x3) 6 5) + 1))))))
  else
    some (.inl (-1), σ)))
theorem gm_59 (x1 : Int) (x2 : Int) (x3 : Int) {σ : gb_S} : gb_M (fx_59 x1 x2 x3 σ) 1 c0 eI 59 [vr 6, vi x1, vi x2, vi x3] σ := by
  rw [fx_59]
  refine gg_m (own := 5) (rt := (some .int)) (hnd := fun _ _ => none) (K := gk_59) (δ := 0) rfl rfl ?_
  refine gg_al 1 0 rfl rfl rfl ?_
  refine gg_gi 4 rfl rfl rfl gcl_6 rfl ?_
  refine gg_ci 6 30 rfl rfl ?_
  refine gg_q (fun q1 => ?_)
  refine gg_ilt 11 9 rfl rfl rfl rfl q1 (gRl rfl) ?_ ?_
  · refine gg_al 12 0 rfl rfl rfl ?_
    refine gg_gr 15 7 rfl rfl rfl gcl_6 rfl ?_
    refine gg_al 16 0 rfl rfl rfl ?_
    refine gg_gi 19 rfl rfl rfl gcl_6 rfl ?_
    refine gg_il 20 1 rfl rfl rfl ?_
    refine gg_q (fun q2 => ?_)
    refine gg_ias 21 rfl rfl gar_7 q2 ?_
    refine gg_al 22 0 rfl rfl rfl ?_
    refine gg_gr 25 8 rfl rfl rfl gcl_6 rfl ?_
    refine gg_al 26 0 rfl rfl rfl ?_
    refine gg_gi 29 rfl rfl rfl gcl_6 rfl ?_
    refine gg_il 30 2 rfl rfl rfl ?_
    refine gg_q (fun q3 => ?_)
    refine gg_ias 31 rfl rfl gar_8 q3 ?_
    refine gg_al 32 0 rfl rfl rfl ?_
    refine gg_gr 35 9 rfl rfl rfl gcl_6 rfl ?_
    refine gg_al 36 0 rfl rfl rfl ?_
    refine gg_gi 39 rfl rfl rfl gcl_6 rfl ?_
    refine gg_il 40 3 rfl rfl rfl ?_
    refine gg_q (fun q4 => ?_)
    refine gg_ias 41 rfl rfl gar_9 q4 ?_
    refine gg_al 42 0 rfl rfl rfl ?_
    refine gg_s 43 rfl rfl ?_
    refine gg_gi 46 rfl rfl rfl gcl_6 rfl ?_
    refine gg_ci 47 1 rfl rfl ?_
    refine gg_add 48 rfl rfl ?_
    refine gg_pf 51 rfl rfl rfl gcl_6 rfl ⟨rfl, rfl⟩ ?_
    refine gg_al 52 0 rfl rfl rfl ?_
    refine gg_gi 55 rfl rfl rfl gcl_6 rfl ?_
    refine gg_ci 56 1 rfl rfl ?_
    refine gg_sub 57 rfl rfl ?_
    exact gg_ir rfl
  · refine gg_ci 10 (-1) rfl rfl ?_
    exact gg_ir rfl
/-- Treeclerk$Proofs.fileDoubt -/
def fx_60 (x1 : Int) (x2 : Int) (σ : gb_S) : Option gb_P :=
  gq (gR (σ 6 9)) (
  (if (σ 6 9) < 30 then
    gc (fx_63 x1 σ) (fun r2 s3 =>
    gq (gR r2) (
    (if r2 = 0 then
      some (.inl (-1), s3)
    else
      gq (0 ≤ (s3 6 9) ∧ (s3 6 9) < 30) (
      gq (0 ≤ ((gb_up s3 12 (s3 6 9).toNat x1) 6 9) ∧ ((gb_up s3 12 (s3 6 9).toNat x1) 6 9) < 30) (
      gq (0 ≤ ((gb_up (gb_up s3 12 (s3 6 9).toNat x1) 13 ((gb_up s3 12 (s3 6 9).toNat x1) 6 9).toNat x2) 6 9) ∧ ((gb_up (gb_up s3 12 (s3 6 9).toNat x1) 13 ((gb_up s3 12 (s3 6 9).toNat x1) 6 9).toNat x2) 6 9) < 30) (
      gq (0 ≤ x1 ∧ x1 < 30) (
      some (.inl (((gb_up (gb_up (gb_up (gb_up (gb_up s3 12 (s3 6 9).toNat x1) 13 ((gb_up s3 12 (s3 6 9).toNat x1) 6 9).toNat x2) 14 ((gb_up (gb_up s3 12 (s3 6 9).toNat x1) 13 ((gb_up s3 12 (s3 6 9).toNat x1) 6 9).toNat x2) 6 9).toNat 1) 10 x1.toNat (((gb_up (gb_up (gb_up s3 12 (s3 6 9).toNat x1) 13 ((gb_up s3 12 (s3 6 9).toNat x1) 6 9).toNat x2) 14 ((gb_up (gb_up s3 12 (s3 6 9).toNat x1) 13 ((gb_up s3 12 (s3 6 9).toNat x1) 6 9).toNat x2) 6 9).toNat 1) 10 x1.toNat) + x2)) 6 9 (((gb_up (gb_up (gb_up (gb_up s3 12 (s3 6 9).toNat x1) 13 ((gb_up s3 12 (s3 6 9).toNat x1) 6 9).toNat x2) 14 ((gb_up (gb_up s3 12 (s3 6 9).toNat x1) 13 ((gb_up s3 12 (s3 6 9).toNat x1) 6 9).toNat x2) 6 9).toNat 1) 10 x1.toNat (((gb_up (gb_up (gb_up s3 12 (s3 6 9).toNat x1) 13 ((gb_up s3 12 (s3 6 9).toNat x1) 6 9).toNat x2) 14 ((gb_up (gb_up s3 12 (s3 6 9).toNat x1) 13 ((gb_up s3 12 (s3 6 9).toNat x1) 6 9).toNat x2) 6 9).toNat 1) 10 x1.toNat) + x2)) 6 9) + 1)) 6 9) - 1), (gb_up (gb_up (gb_up (gb_up (gb_up s3 12 (s3 6 9).toNat x1) 13 ((gb_up s3 12 (s3 6 9).toNat x1) 6 9).toNat x2) 14 ((gb_up (gb_up s3 12 (s3 6 9).toNat x1) 13 ((gb_up s3 12 (s3 6 9).toNat x1) 6 9).toNat x2) 6 9).toNat 1) 10 x1.toNat (((gb_up (gb_up (gb_up s3 12 (s3 6 9).toNat x1) 13 ((gb_up s3 12 (s3 6 9).toNat x1) 6 9).toNat x2) 14 ((gb_up (gb_up s3 12 (s3 6 9).toNat x1) 13 ((gb_up s3 12 (s3 6 9).toNat x1) 6 9).toNat x2) 6 9).toNat 1) 10 x1.toNat) + x2)) 6 9 (((gb_up (gb_up (gb_up (gb_up s3 12 (s3 6 9).toNat x1) 13 ((gb_up s3 12 (s3 6 9).toNat x1) 6 9).toNat x2) 14 ((gb_up (gb_up s3 12 (s3 6 9).toNat x1) 13 ((gb_up s3 12 (s3 6 9).toNat x1) 6 9).toNat x2) 6 9).toNat 1) 10 x1.toNat (((gb_up (gb_up (gb_up s3 12 (s3 6 9).toNat x1) 13 ((gb_up s3 12 (s3 6 9).toNat x1) 6 9).toNat x2) 14 ((gb_up (gb_up s3 12 (s3 6 9).toNat x1) 13 ((gb_up s3 12 (s3 6 9).toNat x1) 6 9).toNat x2) 6 9).toNat 1) 10 x1.toNat) + x2)) 6 9) + 1))))))))))
  else
    some (.inl (-1), σ)))
theorem gm_60 (x1 : Int) (x2 : Int) {σ : gb_S} : gb_M (fx_60 x1 x2 σ) 2 c0 eI 60 [vr 6, vi x1, vi x2] σ := by
  rw [fx_60]
  refine gg_m (own := 5) (rt := (some .int)) (hnd := fun _ _ => none) (K := gk_60) (δ := 1) rfl rfl ?_
  refine gg_al 1 0 rfl rfl rfl ?_
  refine gg_gi 4 rfl rfl rfl gcl_6 rfl ?_
  refine gg_ci 6 30 rfl rfl ?_
  refine gg_q (fun q1 => ?_)
  refine gg_ige 17 9 rfl rfl rfl rfl q1 (gRl rfl) ?_ ?_
  · refine gg_ci 18 (-1) rfl rfl ?_
    exact gg_ir rfl
  · refine gg_al 10 0 rfl rfl rfl ?_
    refine gg_il 11 1 rfl rfl rfl ?_
    refine gg_cI 14 rfl (gm_63 _) (Nat.le_of_ble_eq_true rfl) (gb_vs rfl rfl rfl rfl rfl gcl_6 rfl rfl rfl) rfl (fun _ => rfl) (fun _ => rfl) (fun r2 s3 => ?_)
    refine gg_q (fun q4 => ?_)
    refine gg_zne 19 17 rfl rfl rfl rfl q4 ?_ ?_
    · refine gg_al 20 0 rfl rfl rfl ?_
      refine gg_gr 23 12 rfl rfl rfl gcl_6 rfl ?_
      refine gg_al 24 0 rfl rfl rfl ?_
      refine gg_gi 27 rfl rfl rfl gcl_6 rfl ?_
      refine gg_il 28 1 rfl rfl rfl ?_
      refine gg_q (fun q5 => ?_)
      refine gg_ias 29 rfl rfl gar_12 q5 ?_
      refine gg_al 30 0 rfl rfl rfl ?_
      refine gg_gr 33 13 rfl rfl rfl gcl_6 rfl ?_
      refine gg_al 34 0 rfl rfl rfl ?_
      refine gg_gi 37 rfl rfl rfl gcl_6 rfl ?_
      refine gg_il 38 2 rfl rfl rfl ?_
      refine gg_q (fun q6 => ?_)
      refine gg_ias 39 rfl rfl gar_13 q6 ?_
      refine gg_al 40 0 rfl rfl rfl ?_
      refine gg_gr 43 14 rfl rfl rfl gcl_6 rfl ?_
      refine gg_al 44 0 rfl rfl rfl ?_
      refine gg_gi 47 rfl rfl rfl gcl_6 rfl ?_
      refine gg_ci 48 1 rfl rfl ?_
      refine gg_q (fun q7 => ?_)
      refine gg_bas 49 rfl rfl gar_14 q7 (Or.inr rfl) ?_
      refine gg_al 50 0 rfl rfl rfl ?_
      refine gg_gr 53 10 rfl rfl rfl gcl_6 rfl ?_
      refine gg_il 54 1 rfl rfl rfl ?_
      refine gg_s 55 rfl rfl ?_
      refine gg_q (fun q8 => ?_)
      refine gg_ial 56 rfl rfl gar_10 q8 ?_
      refine gg_il 57 2 rfl rfl rfl ?_
      refine gg_add 58 rfl rfl ?_
      refine gg_ias 59 rfl rfl gar_10 q8 ?_
      refine gg_al 60 0 rfl rfl rfl ?_
      refine gg_s 61 rfl rfl ?_
      refine gg_gi 64 rfl rfl rfl gcl_6 rfl ?_
      refine gg_ci 65 1 rfl rfl ?_
      refine gg_add 66 rfl rfl ?_
      refine gg_pf 69 rfl rfl rfl gcl_6 rfl ⟨rfl, rfl⟩ ?_
      refine gg_al 70 0 rfl rfl rfl ?_
      refine gg_gi 73 rfl rfl rfl gcl_6 rfl ?_
      refine gg_ci 74 1 rfl rfl ?_
      refine gg_sub 75 rfl rfl ?_
      exact gg_ir rfl
    · refine gg_ci 18 (-1) rfl rfl ?_
      exact gg_ir rfl
/-- Treeclerk$Proofs.isOpen -/
def fx_64 (x1 : Int) (σ : gb_S) : Option gb_P :=
  gq (gR x1) (
  (if x1 < 0 then
    some (.inl 0, σ)
  else
    gq (gR (σ 6 9)) (
    (if x1 < (σ 6 9) then
      gq (0 ≤ x1 ∧ x1 < 30) (
      gq (gR (σ 14 x1.toNat)) (
      (if (σ 14 x1.toNat) = 0 then
        some (.inl 0, σ)
      else
        some (.inl 1, σ))))
    else
      some (.inl 0, σ)))))
theorem gm_64 (x1 : Int) {σ : gb_S} : gb_M (fx_64 x1 σ) 1 c0 eI 64 [vr 6, vi x1] σ := by
  rw [fx_64]
  refine gg_m (own := 5) (rt := (some .boolean)) (hnd := fun _ _ => none) (K := gk_64) (δ := 0) rfl rfl ?_
  refine gg_il 1 1 rfl rfl rfl ?_
  refine gg_q (fun q1 => ?_)
  refine gg_zlt 25 4 rfl rfl rfl rfl q1 ?_ ?_
  · refine gg_ci 26 0 rfl rfl ?_
    exact gg_zr rfl (Or.inl rfl)
  · refine gg_il 5 1 rfl rfl rfl ?_
    refine gg_al 6 0 rfl rfl rfl ?_
    refine gg_gi 9 rfl rfl rfl gcl_6 rfl ?_
    refine gg_q (fun q2 => ?_)
    refine gg_ige 25 12 rfl rfl rfl rfl q1 q2 ?_ ?_
    · refine gg_ci 26 0 rfl rfl ?_
      exact gg_zr rfl (Or.inl rfl)
    · refine gg_al 13 0 rfl rfl rfl ?_
      refine gg_gr 16 14 rfl rfl rfl gcl_6 rfl ?_
      refine gg_il 17 1 rfl rfl rfl ?_
      refine gg_q (fun q3 => ?_)
      refine gg_bal 18 rfl rfl gar_14 q3 ?_
      refine gg_q (fun q4 => ?_)
      refine gg_zeq 25 21 rfl rfl rfl rfl q4 ?_ ?_
      · refine gg_ci 26 0 rfl rfl ?_
        exact gg_zr rfl (Or.inl rfl)
      · refine gg_ci 22 1 rfl rfl ?_
        refine gg_go 26 rfl rfl rfl ?_
        exact gg_zr rfl (Or.inr rfl)
/-- Treeclerk$Proofs.lift -/
def fx_62 (x1 : Int) (σ : gb_S) : Option gb_P :=
  gc (fx_64 x1 σ) (fun r1 s2 =>
  gq (gR r1) (
  (if r1 = 0 then
    some (.inl 0, s2)
  else
    gq (0 ≤ x1 ∧ x1 < 30) (
    gc (fx_63 ((gb_up s2 14 x1.toNat 0) 12 x1.toNat) (gb_up s2 14 x1.toNat 0)) (fun r5 s6 =>
    gq (gR r5) (
    (if r5 = 0 then
      some (.inl 0, s6)
    else
      gq (0 ≤ ((gb_up s2 14 x1.toNat 0) 12 x1.toNat) ∧ ((gb_up s2 14 x1.toNat 0) 12 x1.toNat) < 30) (
      some (.inl 0, (gb_up s6 10 ((gb_up s2 14 x1.toNat 0) 12 x1.toNat).toNat ((s6 10 ((gb_up s2 14 x1.toNat 0) 12 x1.toNat).toNat) - (s6 13 x1.toNat))))))))))))
theorem gm_62 (x1 : Int) {σ : gb_S} : gb_M (fx_62 x1 σ) 2 c0 eV 62 [vr 6, vi x1] σ := by
  rw [fx_62]
  refine gg_m (own := 5) (rt := none) (hnd := fun _ _ => none) (K := gk_62) (δ := 1) rfl rfl ?_
  refine gg_al 1 0 rfl rfl rfl ?_
  refine gg_il 2 1 rfl rfl rfl ?_
  refine gg_cI 5 rfl (gm_64 _) (Nat.le_of_ble_eq_true rfl) (gb_vs rfl rfl rfl rfl rfl gcl_6 rfl rfl rfl) rfl (fun _ => rfl) (fun _ => rfl) (fun r1 s2 => ?_)
  refine gg_q (fun q3 => ?_)
  refine gg_zne 9 8 rfl rfl rfl rfl q3 ?_ ?_
  · refine gg_al 10 0 rfl rfl rfl ?_
    refine gg_gr 13 14 rfl rfl rfl gcl_6 rfl ?_
    refine gg_il 14 1 rfl rfl rfl ?_
    refine gg_ci 15 0 rfl rfl ?_
    refine gg_q (fun q4 => ?_)
    refine gg_bas 16 rfl rfl gar_14 q4 (Or.inl rfl) ?_
    refine gg_al 17 0 rfl rfl rfl ?_
    refine gg_gr 20 12 rfl rfl rfl gcl_6 rfl ?_
    refine gg_il 21 1 rfl rfl rfl ?_
    refine gg_ial 22 rfl rfl gar_12 q4 ?_
    refine gg_s 23 rfl rfl ?_
    refine gg_al 24 0 rfl rfl (gl1 rfl rfl rfl) ?_
    refine gg_il 25 2 rfl rfl gs1 ?_
    refine gg_cI 28 rfl (gm_63 _) (Nat.le_of_ble_eq_true rfl) (gb_vs rfl rfl rfl rfl rfl gcl_6 rfl rfl rfl) rfl (fun _ => rfl) (fun _ => rfl) (fun r5 s6 => ?_)
    refine gg_q (fun q7 => ?_)
    refine gg_zeq 46 31 rfl rfl rfl rfl q7 ?_ ?_
    · exact gg_vr rfl
    · refine gg_al 32 0 rfl rfl (gl1 rfl rfl rfl) ?_
      refine gg_gr 35 10 rfl rfl rfl gcl_6 rfl ?_
      refine gg_il 36 2 rfl rfl gs1 ?_
      refine gg_s 37 rfl rfl ?_
      refine gg_q (fun q8 => ?_)
      refine gg_ial 38 rfl rfl gar_10 q8 ?_
      refine gg_al 39 0 rfl rfl (gl1 rfl rfl rfl) ?_
      refine gg_gr 42 13 rfl rfl rfl gcl_6 rfl ?_
      refine gg_il 43 1 rfl rfl (gl1 rfl rfl rfl) ?_
      refine gg_ial 44 rfl rfl gar_13 q4 ?_
      refine gg_sub 45 rfl rfl ?_
      refine gg_ias 46 rfl rfl gar_10 q8 ?_
      exact gg_vr rfl
  · exact gg_vr rfl
def fx_61_43 (k : Nat) (x3 : Int) (x4 : Int) (σ : gb_S) : Option gb_P := match k with
  | 0 => none
  | k + 1 =>
    gq (gR x4) (
    gq (gR (σ 6 9)) (
    (if x4 < (σ 6 9) then
      gq (0 ≤ x4 ∧ x4 < 30) (
      gq (gR (σ 12 x4.toNat)) (
      gq (gR x3) (
      (if (σ 12 x4.toNat) = x3 then
        gc (fx_62 x4 σ) (fun _ s7 =>
        fx_61_43 k x3 (x4 + 1) s7)
      else
        fx_61_43 k x3 (x4 + 1) σ))))
    else
      some (.inl 0, σ))))
/-- Treeclerk$Proofs.settle -/
def fx_61 (x1 : Int) (x2 : Int) (σ : gb_S) : Option gb_P :=
  gc (fx_64 x1 σ) (fun r1 s2 =>
  gq (gR r1) (
  (if r1 = 0 then
    some (.inl 0, s2)
  else
    gq (0 ≤ x1 ∧ x1 < 30) (
    gc (fx_62 x1 s2) (fun _ s6 =>
    gq (gR x2) (
    (if x2 = 0 then
      some (.inl 0, s6)
    else
      gc (fx_63 (s2 12 x1.toNat) s6) (fun r8 s9 =>
      gq (gR r8) (
      (if r8 = 0 then
        some (.inl 0, s9)
      else
        gq (0 ≤ (s2 12 x1.toNat) ∧ (s2 12 x1.toNat) < 30) (
        fx_61_43 gFU (s2 12 x1.toNat) 0 (gb_up s9 11 (s2 12 x1.toNat).toNat 1))))))))))))
theorem gt_61_43 (k : Nat) : ∀ (x3 : Int) (x4 : Int) {lo : gh_L} (l0 : lo.lookup 0 = some (vr 6)) (l3 : lo.lookup 3 = some (vi x3)) (l4 : lo.lookup 4 = some (vi x4)) {σ : gb_S}, gb_G (fx_61_43 k x3 x4 σ) 2 5 none (fun _ _ => none) gk_61 c0 eV 43 lo [] σ := by
  induction k with
  | zero => intros; exact gg_n
  | succ k ih =>
    intro x3 x4 lo l0 l3 l4 σ
    rw [fx_61_43]
    refine gg_il 45 4 rfl rfl l4 ?_
    refine gg_al 46 0 rfl rfl l0 ?_
    refine gg_gi 49 rfl rfl rfl gcl_6 rfl ?_
    refine gg_q (fun q1 => ?_)
    refine gg_q (fun q2 => ?_)
    refine gg_ige 75 52 rfl rfl rfl rfl q1 q2 ?_ ?_
    · exact gg_vr rfl
    · refine gg_al 53 0 rfl rfl l0 ?_
      refine gg_gr 56 12 rfl rfl rfl gcl_6 rfl ?_
      refine gg_il 58 4 rfl rfl l4 ?_
      refine gg_q (fun q3 => ?_)
      refine gg_ial 59 rfl rfl gar_12 q3 ?_
      refine gg_il 60 3 rfl rfl l3 ?_
      refine gg_q (fun q4 => ?_)
      refine gg_q (fun q5 => ?_)
      refine gg_ine 69 63 rfl rfl rfl rfl q4 q5 ?_ ?_
      · refine gg_inc 72 rfl rfl l4 ?_
        refine gg_go 43 rfl rfl rfl ?_
        exact ih x3 (x4 + 1) (gl1 rfl rfl l0) (gl1 rfl rfl l3) gs1
      · refine gg_al 64 0 rfl rfl l0 ?_
        refine gg_il 66 4 rfl rfl l4 ?_
        refine gg_cV 69 rfl (gm_62 _) (Nat.le_of_ble_eq_true rfl) (gb_vs rfl rfl rfl rfl rfl gcl_6 rfl rfl rfl) rfl (fun _ => rfl) (fun _ => rfl) (fun s7 => ?_)
        refine gg_inc 72 rfl rfl l4 ?_
        refine gg_go 43 rfl rfl rfl ?_
        exact ih x3 (x4 + 1) (gl1 rfl rfl l0) (gl1 rfl rfl l3) gs1
theorem gm_61 (x1 : Int) (x2 : Int) {σ : gb_S} : gb_M (fx_61 x1 x2 σ) 3 c0 eV 61 [vr 6, vi x1, vi x2] σ := by
  rw [fx_61]
  refine gg_m (own := 5) (rt := none) (hnd := fun _ _ => none) (K := gk_61) (δ := 2) rfl rfl ?_
  refine gg_al 1 0 rfl rfl rfl ?_
  refine gg_il 2 1 rfl rfl rfl ?_
  refine gg_cI 5 rfl (gm_64 _) (Nat.le_of_ble_eq_true rfl) (gb_vs rfl rfl rfl rfl rfl gcl_6 rfl rfl rfl) rfl (fun _ => rfl) (fun _ => rfl) (fun r1 s2 => ?_)
  refine gg_q (fun q3 => ?_)
  refine gg_zne 9 8 rfl rfl rfl rfl q3 ?_ ?_
  · refine gg_al 10 0 rfl rfl rfl ?_
    refine gg_gr 13 12 rfl rfl rfl gcl_6 rfl ?_
    refine gg_il 14 1 rfl rfl rfl ?_
    refine gg_q (fun q4 => ?_)
    refine gg_ial 15 rfl rfl gar_12 q4 ?_
    refine gg_s 16 rfl rfl ?_
    refine gg_al 17 0 rfl rfl (gl1 rfl rfl rfl) ?_
    refine gg_il 18 1 rfl rfl (gl1 rfl rfl rfl) ?_
    refine gg_cV 21 rfl (gm_62 _) (Nat.le_of_ble_eq_true rfl) (gb_vs rfl rfl rfl rfl rfl gcl_6 rfl rfl rfl) rfl (fun _ => rfl) (fun _ => rfl) (fun s6 => ?_)
    refine gg_il 22 2 rfl rfl (gl1 rfl rfl rfl) ?_
    refine gg_q (fun q7 => ?_)
    refine gg_zeq 75 25 rfl rfl rfl rfl q7 ?_ ?_
    · exact gg_vr rfl
    · refine gg_al 26 0 rfl rfl (gl1 rfl rfl rfl) ?_
      refine gg_il 27 3 rfl rfl gs1 ?_
      refine gg_cI 30 rfl (gm_63 _) (Nat.le_of_ble_eq_true rfl) (gb_vs rfl rfl rfl rfl rfl gcl_6 rfl rfl rfl) rfl (fun _ => rfl) (fun _ => rfl) (fun r8 s9 => ?_)
      refine gg_q (fun q10 => ?_)
      refine gg_zeq 75 33 rfl rfl rfl rfl q10 ?_ ?_
      · exact gg_vr rfl
      · refine gg_al 34 0 rfl rfl (gl1 rfl rfl rfl) ?_
        refine gg_gr 37 11 rfl rfl rfl gcl_6 rfl ?_
        refine gg_il 38 3 rfl rfl gs1 ?_
        refine gg_ci 39 1 rfl rfl ?_
        refine gg_q (fun q11 => ?_)
        refine gg_bas 40 rfl rfl gar_11 q11 (Or.inr rfl) ?_
        refine gg_ci 41 0 rfl rfl ?_
        refine gg_s 43 rfl rfl ?_
        exact gt_61_43 gFU (s2 12 x1.toNat) 0 (gl1 rfl rfl (gl1 rfl rfl rfl)) (gl1 rfl rfl gs1) gs1
  · exact gg_vr rfl
/-- Treeclerk$Proofs.hasFallen -/
def fx_65 (x1 : Int) (σ : gb_S) : Option gb_P :=
  gc (fx_63 x1 σ) (fun r1 s2 =>
  gq (gR r1) (
  (if r1 = 0 then
    some (.inl 0, s2)
  else
    gq (0 ≤ x1 ∧ x1 < 30) (
    gq (gR (s2 11 x1.toNat)) (
    (if (s2 11 x1.toNat) = 0 then
      some (.inl 0, s2)
    else
      some (.inl 1, s2)))))))
theorem gm_65 (x1 : Int) {σ : gb_S} : gb_M (fx_65 x1 σ) 2 c0 eI 65 [vr 6, vi x1] σ := by
  rw [fx_65]
  refine gg_m (own := 5) (rt := (some .boolean)) (hnd := fun _ _ => none) (K := gk_65) (δ := 1) rfl rfl ?_
  refine gg_al 1 0 rfl rfl rfl ?_
  refine gg_il 2 1 rfl rfl rfl ?_
  refine gg_cI 5 rfl (gm_63 _) (Nat.le_of_ble_eq_true rfl) (gb_vs rfl rfl rfl rfl rfl gcl_6 rfl rfl rfl) rfl (fun _ => rfl) (fun _ => rfl) (fun r1 s2 => ?_)
  refine gg_q (fun q3 => ?_)
  refine gg_zeq 21 8 rfl rfl rfl rfl q3 ?_ ?_
  · refine gg_ci 22 0 rfl rfl ?_
    exact gg_zr rfl (Or.inl rfl)
  · refine gg_al 9 0 rfl rfl rfl ?_
    refine gg_gr 12 11 rfl rfl rfl gcl_6 rfl ?_
    refine gg_il 13 1 rfl rfl rfl ?_
    refine gg_q (fun q4 => ?_)
    refine gg_bal 14 rfl rfl gar_11 q4 ?_
    refine gg_q (fun q5 => ?_)
    refine gg_zeq 21 17 rfl rfl rfl rfl q5 ?_ ?_
    · refine gg_ci 22 0 rfl rfl ?_
      exact gg_zr rfl (Or.inl rfl)
    · refine gg_ci 18 1 rfl rfl ?_
      refine gg_go 22 rfl rfl rfl ?_
      exact gg_zr rfl (Or.inr rfl)
def fx_66_4 (k : Nat) (x1 : Int) (x2 : Int) (x3 : Int) (σ : gb_S) : Option gb_P := match k with
  | 0 => none
  | k + 1 =>
    gq (gR x3) (
    gq (gR (σ 6 9)) (
    (if x3 < (σ 6 9) then
      gq (0 ≤ x3 ∧ x3 < 30) (
      gq (gR (σ 12 x3.toNat)) (
      gq (gR x1) (
      (if (σ 12 x3.toNat) = x1 then
        gq (gR (σ 14 x3.toNat)) (
        (if (σ 14 x3.toNat) = 0 then
          fx_66_4 k x1 x2 (x3 + 1) σ
        else
          fx_66_4 k x1 (x2 + 1) (x3 + 1) σ))
      else
        fx_66_4 k x1 x2 (x3 + 1) σ))))
    else
      some (.inl x2, σ))))
/-- Treeclerk$Proofs.countOpen -/
def fx_66 (x1 : Int) (σ : gb_S) : Option gb_P :=
  fx_66_4 gFU x1 0 0 σ
theorem gt_66_4 (k : Nat) : ∀ (x1 : Int) (x2 : Int) (x3 : Int) {lo : gh_L} (l0 : lo.lookup 0 = some (vr 6)) (l1 : lo.lookup 1 = some (vi x1)) (l2 : lo.lookup 2 = some (vi x2)) (l3 : lo.lookup 3 = some (vi x3)) {σ : gb_S}, gb_G (fx_66_4 k x1 x2 x3 σ) 0 5 (some .int) (fun _ _ => none) gk_66 c0 eI 4 lo [] σ := by
  induction k with
  | zero => intros; exact gg_n
  | succ k ih =>
    intro x1 x2 x3 lo l0 l1 l2 l3 σ
    rw [fx_66_4]
    refine gg_il 5 3 rfl rfl l3 ?_
    refine gg_al 6 0 rfl rfl l0 ?_
    refine gg_gi 9 rfl rfl rfl gcl_6 rfl ?_
    refine gg_q (fun q1 => ?_)
    refine gg_q (fun q2 => ?_)
    refine gg_ige 40 12 rfl rfl rfl rfl q1 q2 ?_ ?_
    · refine gg_il 41 2 rfl rfl l2 ?_
      exact gg_ir rfl
    · refine gg_al 13 0 rfl rfl l0 ?_
      refine gg_gr 16 12 rfl rfl rfl gcl_6 rfl ?_
      refine gg_il 17 3 rfl rfl l3 ?_
      refine gg_q (fun q3 => ?_)
      refine gg_ial 18 rfl rfl gar_12 q3 ?_
      refine gg_il 19 1 rfl rfl l1 ?_
      refine gg_q (fun q4 => ?_)
      refine gg_q (fun q5 => ?_)
      refine gg_ine 34 22 rfl rfl rfl rfl q4 q5 ?_ ?_
      · refine gg_inc 37 rfl rfl l3 ?_
        refine gg_go 4 rfl rfl rfl ?_
        exact ih x1 x2 (x3 + 1) (gl1 rfl rfl l0) (gl1 rfl rfl l1) (gl1 rfl rfl l2) gs1
      · refine gg_al 23 0 rfl rfl l0 ?_
        refine gg_gr 26 14 rfl rfl rfl gcl_6 rfl ?_
        refine gg_il 27 3 rfl rfl l3 ?_
        refine gg_bal 28 rfl rfl gar_14 q3 ?_
        refine gg_q (fun q6 => ?_)
        refine gg_zeq 34 31 rfl rfl rfl rfl q6 ?_ ?_
        · refine gg_inc 37 rfl rfl l3 ?_
          refine gg_go 4 rfl rfl rfl ?_
          exact ih x1 x2 (x3 + 1) (gl1 rfl rfl l0) (gl1 rfl rfl l1) (gl1 rfl rfl l2) gs1
        · refine gg_inc 34 rfl rfl l2 ?_
          refine gg_inc 37 rfl rfl (gl1 rfl rfl l3) ?_
          refine gg_go 4 rfl rfl rfl ?_
          exact ih x1 (x2 + 1) (x3 + 1) (gl1 rfl rfl (gl1 rfl rfl l0)) (gl1 rfl rfl (gl1 rfl rfl l1)) (gl1 rfl rfl gs1) gs1
theorem gm_66 (x1 : Int) {σ : gb_S} : gb_M (fx_66 x1 σ) 1 c0 eI 66 [vr 6, vi x1] σ := by
  rw [fx_66]
  refine gg_m (own := 5) (rt := (some .int)) (hnd := fun _ _ => none) (K := gk_66) (δ := 0) rfl rfl ?_
  refine gg_ci 1 0 rfl rfl ?_
  refine gg_s 2 rfl rfl ?_
  refine gg_ci 3 0 rfl rfl ?_
  refine gg_s 4 rfl rfl ?_
  exact gt_66_4 gFU x1 0 0 (gl1 rfl rfl (gl1 rfl rfl rfl)) (gl1 rfl rfl (gl1 rfl rfl rfl)) (gl1 rfl rfl gs1) gs1
/-- Treeclerk$Shares.copy -/
def fx_70 (a0 : Nat) (a1 : Nat) (σ : gb_S) : Option gb_P :=
  some (.inl 0, (gb_cp (gb_cp σ (a1 + 1) (a0 + 1)) (a1 + 2) (a0 + 2)))
theorem gm_70 (a0 : Nat) (a1 : Nat) (h0 : gb_kd a0 = 6) (h1 : gb_kd a1 = 6) {σ : gb_S} : gb_M (fx_70 a0 a1 σ) 1 c0 eV 70 [vr a0, vr a1] σ := by
  rw [fx_70]
  refine gg_m (own := 6) (rt := none) (hnd := fun _ _ => none) (K := gk_70) (δ := 0) rfl rfl ?_
  refine gg_al 1 1 rfl rfl rfl ?_
  refine gg_gr 4 (a1 + 1) rfl rfl rfl (gsh0 h1) rfl ?_
  refine gg_ci 5 0 rfl rfl ?_
  refine gg_al 6 0 rfl rfl rfl ?_
  refine gg_gr 9 (a0 + 1) rfl rfl rfl (gsh0 h0) rfl ?_
  refine gg_ci 10 0 rfl rfl ?_
  refine gg_ci 12 14 rfl rfl ?_
  refine gg_acp 15 (Or.inr ⟨rfl, rfl⟩) (Nat.le_of_ble_eq_true rfl) rfl rfl rfl rfl (gsh1 h1).1 (gsh1 h0).1 ?_
  refine gg_al 16 1 rfl rfl rfl ?_
  refine gg_gr 19 (a1 + 2) rfl rfl rfl (gsh0 h1) rfl ?_
  refine gg_ci 20 0 rfl rfl ?_
  refine gg_al 21 0 rfl rfl rfl ?_
  refine gg_gr 24 (a0 + 2) rfl rfl rfl (gsh0 h0) rfl ?_
  refine gg_ci 25 0 rfl rfl ?_
  refine gg_ci 27 14 rfl rfl ?_
  refine gg_acp 30 (Or.inr ⟨rfl, rfl⟩) (Nat.le_of_ble_eq_true rfl) rfl rfl rfl rfl (gsh2 h1).1 (gsh2 h0).1 ?_
  exact gg_vr rfl
def fx_75_4 (k : Nat) (a0 : Nat) (x1 : Int) (x2 : Int) (σ : gb_S) : Option gb_P := match k with
  | 0 => none
  | k + 1 =>
    gq (gR x2) (
    (if x2 < 14 then
      gq (0 ≤ x2 ∧ x2 < 14) (
      gq (gRL (σ (a0 + 1) x2.toNat)) (
      (if 0 < (σ (a0 + 1) x2.toNat) then
        fx_75_4 k a0 (x1 + 1) (x2 + 1) σ
      else
        fx_75_4 k a0 x1 (x2 + 1) σ)))
    else
      some (.inl x1, σ)))
/-- Treeclerk$Shares.countHeirs -/
def fx_75 (a0 : Nat) (σ : gb_S) : Option gb_P :=
  fx_75_4 gFU a0 0 0 σ
theorem gt_75_4 (k : Nat) : ∀ (a0 : Nat) (x1 : Int) (x2 : Int) (h0 : gb_kd a0 = 6) {lo : gh_L} (l0 : lo.lookup 0 = some (vr a0)) (l1 : lo.lookup 1 = some (vi x1)) (l2 : lo.lookup 2 = some (vi x2)) {σ : gb_S}, gb_G (fx_75_4 k a0 x1 x2 σ) 0 6 (some .int) (fun _ _ => none) gk_75 c0 eI 4 lo [] σ := by
  induction k with
  | zero => intros; exact gg_n
  | succ k ih =>
    intro a0 x1 x2 h0 lo l0 l1 l2 σ
    rw [fx_75_4]
    refine gg_il 5 2 rfl rfl l2 ?_
    refine gg_ci 7 14 rfl rfl ?_
    refine gg_q (fun q1 => ?_)
    refine gg_ige 30 10 rfl rfl rfl rfl q1 (gRl rfl) ?_ ?_
    · refine gg_il 31 1 rfl rfl l1 ?_
      exact gg_ir rfl
    · refine gg_al 11 0 rfl rfl l0 ?_
      refine gg_gr 14 (a0 + 1) rfl rfl rfl (gsh0 h0) rfl ?_
      refine gg_il 15 2 rfl rfl l2 ?_
      refine gg_q (fun q2 => ?_)
      refine gg_lal 16 rfl rfl (gsh1 h0) q2 ?_
      refine gg_cl 17 0 rfl rfl ?_
      refine gg_q (fun q3 => ?_)
      refine gg_Lle 24 21 rfl rfl rfl rfl rfl q3 ⟨by decide, by decide⟩ ?_ ?_
      · refine gg_inc 27 rfl rfl l2 ?_
        refine gg_go 4 rfl rfl rfl ?_
        exact ih a0 x1 (x2 + 1) h0 (gl1 rfl rfl l0) (gl1 rfl rfl l1) gs1
      · refine gg_inc 24 rfl rfl l1 ?_
        refine gg_inc 27 rfl rfl (gl1 rfl rfl l2) ?_
        refine gg_go 4 rfl rfl rfl ?_
        exact ih a0 (x1 + 1) (x2 + 1) h0 (gl1 rfl rfl (gl1 rfl rfl l0)) (gl1 rfl rfl gs1) gs1
theorem gm_75 (a0 : Nat) (h0 : gb_kd a0 = 6) {σ : gb_S} : gb_M (fx_75 a0 σ) 1 c0 eI 75 [vr a0] σ := by
  rw [fx_75]
  refine gg_m (own := 6) (rt := (some .int)) (hnd := fun _ _ => none) (K := gk_75) (δ := 0) rfl rfl ?_
  refine gg_ci 1 0 rfl rfl ?_
  refine gg_s 2 rfl rfl ?_
  refine gg_ci 3 0 rfl rfl ?_
  refine gg_s 4 rfl rfl ?_
  exact gt_75_4 gFU a0 0 0 h0 (gl1 rfl rfl (gl1 rfl rfl rfl)) (gl1 rfl rfl gs1) gs1
def fx_76_2 (k : Nat) (a0 : Nat) (a1 : Nat) (x2 : Int) (σ : gb_S) : Option gb_P := match k with
  | 0 => none
  | k + 1 =>
    gq (gR x2) (
    (if x2 < 14 then
      gq (0 ≤ x2 ∧ x2 < 14) (
      gq (gRL (σ (a0 + 1) x2.toNat)) (
      gq (gRL (σ (a1 + 1) x2.toNat)) (
      (if (σ (a0 + 1) x2.toNat) = (σ (a1 + 1) x2.toNat) then
        gq (gRL (σ (a0 + 2) x2.toNat)) (
        gq (gRL (σ (a1 + 2) x2.toNat)) (
        (if (σ (a0 + 2) x2.toNat) = (σ (a1 + 2) x2.toNat) then
          fx_76_2 k a0 a1 (x2 + 1) σ
        else
          some (.inl 0, σ))))
      else
        some (.inl 0, σ)))))
    else
      some (.inl 1, σ)))
/-- Treeclerk$Shares.isSame -/
def fx_76 (a0 : Nat) (a1 : Nat) (σ : gb_S) : Option gb_P :=
  fx_76_2 gFU a0 a1 0 σ
theorem gt_76_2 (k : Nat) : ∀ (a0 : Nat) (a1 : Nat) (x2 : Int) (h0 : gb_kd a0 = 6) (h1 : gb_kd a1 = 6) {lo : gh_L} (l0 : lo.lookup 0 = some (vr a0)) (l1 : lo.lookup 1 = some (vr a1)) (l2 : lo.lookup 2 = some (vi x2)) {σ : gb_S}, gb_G (fx_76_2 k a0 a1 x2 σ) 0 6 (some .boolean) (fun _ _ => none) gk_76 c0 eI 2 lo [] σ := by
  induction k with
  | zero => intros; exact gg_n
  | succ k ih =>
    intro a0 a1 x2 h0 h1 lo l0 l1 l2 σ
    rw [fx_76_2]
    refine gg_il 3 2 rfl rfl l2 ?_
    refine gg_ci 5 14 rfl rfl ?_
    refine gg_q (fun q1 => ?_)
    refine gg_ige 48 8 rfl rfl rfl rfl q1 (gRl rfl) ?_ ?_
    · refine gg_ci 49 1 rfl rfl ?_
      exact gg_zr rfl (Or.inr rfl)
    · refine gg_al 9 0 rfl rfl l0 ?_
      refine gg_gr 12 (a0 + 1) rfl rfl rfl (gsh0 h0) rfl ?_
      refine gg_il 13 2 rfl rfl l2 ?_
      refine gg_q (fun q2 => ?_)
      refine gg_lal 14 rfl rfl (gsh1 h0) q2 ?_
      refine gg_al 15 1 rfl rfl l1 ?_
      refine gg_gr 18 (a1 + 1) rfl rfl rfl (gsh0 h1) rfl ?_
      refine gg_il 19 2 rfl rfl l2 ?_
      refine gg_lal 20 rfl rfl (gsh1 h1) q2 ?_
      refine gg_q (fun q3 => ?_)
      refine gg_q (fun q4 => ?_)
      refine gg_Lne 40 24 rfl rfl rfl rfl rfl q3 q4 ?_ ?_
      · refine gg_ci 41 0 rfl rfl ?_
        exact gg_zr rfl (Or.inl rfl)
      · refine gg_al 25 0 rfl rfl l0 ?_
        refine gg_gr 28 (a0 + 2) rfl rfl rfl (gsh0 h0) rfl ?_
        refine gg_il 29 2 rfl rfl l2 ?_
        refine gg_lal 30 rfl rfl (gsh2 h0) q2 ?_
        refine gg_al 31 1 rfl rfl l1 ?_
        refine gg_gr 34 (a1 + 2) rfl rfl rfl (gsh0 h1) rfl ?_
        refine gg_il 35 2 rfl rfl l2 ?_
        refine gg_lal 36 rfl rfl (gsh2 h1) q2 ?_
        refine gg_q (fun q5 => ?_)
        refine gg_q (fun q6 => ?_)
        refine gg_Leq 42 40 rfl rfl rfl rfl rfl q5 q6 ?_ ?_
        · refine gg_inc 45 rfl rfl l2 ?_
          refine gg_go 2 rfl rfl rfl ?_
          exact ih a0 a1 (x2 + 1) h0 h1 (gl1 rfl rfl l0) (gl1 rfl rfl l1) gs1
        · refine gg_ci 41 0 rfl rfl ?_
          exact gg_zr rfl (Or.inl rfl)
theorem gm_76 (a0 : Nat) (a1 : Nat) (h0 : gb_kd a0 = 6) (h1 : gb_kd a1 = 6) {σ : gb_S} : gb_M (fx_76 a0 a1 σ) 1 c0 eI 76 [vr a0, vr a1] σ := by
  rw [fx_76]
  refine gg_m (own := 6) (rt := (some .boolean)) (hnd := fun _ _ => none) (K := gk_76) (δ := 0) rfl rfl ?_
  refine gg_ci 1 0 rfl rfl ?_
  refine gg_s 2 rfl rfl ?_
  exact gt_76_2 gFU a0 a1 0 h0 h1 (gl1 rfl rfl rfl) (gl1 rfl rfl rfl) gs1
/-- Treeclerk.pass -/
def fx_79 (x1 : Int) (σ : gb_S) : Option gb_P :=
  gq (gR x1) (
  (if x1 < 1 then
    some (.inr 1, σ)
  else
    (if 100 < x1 then
      some (.inr 1, σ)
    else
      gq (gR ((σ 1 9) + x1)) (
      (if 2000 < ((σ 1 9) + x1) then
        some (.inr 2, σ)
      else
        some (.inl ((gb_up σ 1 9 ((σ 1 9) + x1)) 1 9), (gb_up σ 1 9 ((σ 1 9) + x1))))))))
theorem gm_79 (x1 : Int) {σ : gb_S} : gb_M (fx_79 x1 σ) 1 c0 eI 79 [vr 1, vi x1] σ := by
  rw [fx_79]
  refine gg_m (own := 7) (rt := (some .int)) (hnd := fun _ _ => none) (K := gk_79) (δ := 0) rfl rfl ?_
  refine gg_il 1 1 rfl rfl rfl ?_
  refine gg_ci 2 1 rfl rfl ?_
  refine gg_q (fun q1 => ?_)
  refine gg_ilt 11 5 rfl rfl rfl rfl q1 (gRl rfl) ?_ ?_
  · exact gg_th rfl rfl rfl
  · refine gg_il 6 1 rfl rfl rfl ?_
    refine gg_ci 8 100 rfl rfl ?_
    refine gg_ile 21 11 rfl rfl rfl rfl q1 (gRl rfl) ?_ ?_
    · refine gg_al 22 0 rfl rfl rfl ?_
      refine gg_gi 25 rfl rfl rfl gcl_1 rfl ?_
      refine gg_il 26 1 rfl rfl rfl ?_
      refine gg_add 27 rfl rfl ?_
      refine gg_ci 30 2000 rfl rfl ?_
      refine gg_q (fun q2 => ?_)
      refine gg_ile 43 33 rfl rfl rfl rfl q2 (gRl rfl) ?_ ?_
      · refine gg_al 44 0 rfl rfl rfl ?_
        refine gg_s 45 rfl rfl ?_
        refine gg_gi 48 rfl rfl rfl gcl_1 rfl ?_
        refine gg_il 49 1 rfl rfl rfl ?_
        refine gg_add 50 rfl rfl ?_
        refine gg_pf 53 rfl rfl rfl gcl_1 rfl ⟨rfl, rfl⟩ ?_
        refine gg_al 54 0 rfl rfl rfl ?_
        refine gg_gi 57 rfl rfl rfl gcl_1 rfl ?_
        exact gg_ir rfl
      · exact gg_th rfl rfl rfl
    · exact gg_th rfl rfl rfl
/-- Treeclerk.today -/
def fx_80 (σ : gb_S) : Option gb_P :=
  some (.inl (σ 1 9), σ)
theorem gm_80 {σ : gb_S} : gb_M (fx_80 σ) 1 c0 eI 80 [vr 1] σ := by
  rw [fx_80]
  refine gg_m (own := 7) (rt := (some .int)) (hnd := fun _ _ => none) (K := gk_80) (δ := 0) rfl rfl ?_
  refine gg_al 1 0 rfl rfl rfl ?_
  refine gg_gi 4 rfl rfl rfl gcl_1 rfl ?_
  exact gg_ir rfl
/-- Treeclerk.birth -/
def fx_81 (x1 : Int) (σ : gb_S) : Option gb_P :=
  gq (gR x1) (
  (if x1 < 0 then
    some (.inr 1, σ)
  else
    gq (gR (σ 1 9)) (
    (if (σ 1 9) < x1 then
      some (.inr 1, σ)
    else
      gq (gR (σ 2 3)) (
      (if (σ 2 3) < 14 then
        gc (fx_22 x1 σ) (fun r4 s5 =>
        some (.inl r4, s5))
      else
        some (.inr 2, σ)))))))
theorem gm_81 (x1 : Int) {σ : gb_S} : gb_M (fx_81 x1 σ) 3 c0 eI 81 [vr 1, vi x1] σ := by
  rw [fx_81]
  refine gg_m (own := 7) (rt := (some .int)) (hnd := fun _ _ => none) (K := gk_81) (δ := 2) rfl rfl ?_
  refine gg_il 1 1 rfl rfl rfl ?_
  refine gg_q (fun q1 => ?_)
  refine gg_zlt 12 4 rfl rfl rfl rfl q1 ?_ ?_
  · exact gg_th rfl rfl rfl
  · refine gg_il 5 1 rfl rfl rfl ?_
    refine gg_al 6 0 rfl rfl rfl ?_
    refine gg_gi 9 rfl rfl rfl gcl_1 rfl ?_
    refine gg_q (fun q2 => ?_)
    refine gg_ile 22 12 rfl rfl rfl rfl q1 q2 ?_ ?_
    · refine gg_al 23 0 rfl rfl rfl ?_
      refine gg_gr 26 2 rfl rfl rfl gcl_1 rfl ?_
      refine gg_gi 29 rfl rfl rfl gcl_2 rfl ?_
      refine gg_ci 31 14 rfl rfl ?_
      refine gg_q (fun q3 => ?_)
      refine gg_ilt 44 34 rfl rfl rfl rfl q3 (gRl rfl) ?_ ?_
      · refine gg_al 45 0 rfl rfl rfl ?_
        refine gg_gr 48 2 rfl rfl rfl gcl_1 rfl ?_
        refine gg_il 49 1 rfl rfl rfl ?_
        refine gg_cI 52 rfl (gm_22 _) (Nat.le_of_ble_eq_true rfl) (gb_vs rfl rfl rfl rfl rfl gcl_2 rfl rfl rfl) rfl (fun _ => rfl) (fun _ => rfl) (fun r4 s5 => ?_)
        exact gg_ir rfl
      · exact gg_th rfl rfl rfl
    · exact gg_th rfl rfl rfl
/-- Treeclerk.requirePerson -/
def fx_110 (x1 : Int) (σ : gb_S) : Option gb_P :=
  gq (gR x1) (
  (if x1 < 0 then
    some (.inr 0, σ)
  else
    gq (gR (σ 2 3)) (
    (if x1 < (σ 2 3) then
      some (.inl 0, σ)
    else
      some (.inr 0, σ)))))
theorem gm_110 (x1 : Int) {σ : gb_S} : gb_M (fx_110 x1 σ) 1 c0 eV 110 [vr 1, vi x1] σ := by
  rw [fx_110]
  refine gg_m (own := 7) (rt := none) (hnd := fun _ _ => none) (K := gk_110) (δ := 0) rfl rfl ?_
  refine gg_il 1 1 rfl rfl rfl ?_
  refine gg_q (fun q1 => ?_)
  refine gg_zlt 15 4 rfl rfl rfl rfl q1 ?_ ?_
  · exact gg_th rfl rfl rfl
  · refine gg_il 5 1 rfl rfl rfl ?_
    refine gg_al 6 0 rfl rfl rfl ?_
    refine gg_gr 9 2 rfl rfl rfl gcl_1 rfl ?_
    refine gg_gi 12 rfl rfl rfl gcl_2 rfl ?_
    refine gg_q (fun q2 => ?_)
    refine gg_ilt 26 15 rfl rfl rfl rfl q1 q2 ?_ ?_
    · exact gg_vr rfl
    · exact gg_th rfl rfl rfl
/-- Treeclerk.requireAlive -/
def fx_116 (x1 : Int) (σ : gb_S) : Option gb_P :=
  gc (fx_24 x1 σ) (fun r1 s2 =>
  gq (gR r1) (
  (if r1 = 0 then
    some (.inl 0, s2)
  else
    some (.inr 2, s2))))
theorem gm_116 (x1 : Int) {σ : gb_S} : gb_M (fx_116 x1 σ) 3 c0 eV 116 [vr 1, vi x1] σ := by
  rw [fx_116]
  refine gg_m (own := 7) (rt := none) (hnd := fun _ _ => none) (K := gk_116) (δ := 2) rfl rfl ?_
  refine gg_al 1 0 rfl rfl rfl ?_
  refine gg_gr 4 2 rfl rfl rfl gcl_1 rfl ?_
  refine gg_il 5 1 rfl rfl rfl ?_
  refine gg_cI 8 rfl (gm_24 _) (Nat.le_of_ble_eq_true rfl) (gb_vs rfl rfl rfl rfl rfl gcl_2 rfl rfl rfl) rfl (fun _ => rfl) (fun _ => rfl) (fun r1 s2 => ?_)
  refine gg_q (fun q3 => ?_)
  refine gg_zeq 22 11 rfl rfl rfl rfl q3 ?_ ?_
  · exact gg_vr rfl
  · exact gg_th rfl rfl rfl
def fx_82_26 (k : Nat) (x1 : Int) (x2 : Int) (x3 : Int) (σ : gb_S) : Option gb_P := match k with
  | 0 => none
  | k + 1 =>
    gq (gR x3) (
    (if x3 < 14 then
      gq (0 ≤ x3 ∧ x3 < 14) (
      gq (gR (σ (47 + 10 * x3.toNat) 4)) (
      (if (σ (47 + 10 * x3.toNat) 4) = 0 then
        gc (fx_17 (47 + 10 * x3.toNat) x1 σ) (fun r4 s5 =>
        gq (gR r4) (
        (if r4 = 0 then
          fx_82_26 k x1 x2 (x3 + 1) s5
        else
          fx_82_26 k x1 (x2 + 1) (x3 + 1) s5)))
      else
        fx_82_26 k x1 x2 (x3 + 1) σ)))
    else
      some (.inl x2, σ)))
/-- Treeclerk.death -/
def fx_82 (x1 : Int) (σ : gb_S) : Option gb_P :=
  gc (fx_110 x1 σ) (fun _ s2 =>
  gc (fx_116 x1 s2) (fun _ s4 =>
  gc (fx_23 x1 (s4 1 9) s4) (fun _ s6 =>
  fx_82_26 gFU x1 0 0 s6)))
theorem gt_82_26 (k : Nat) : ∀ (x1 : Int) (x2 : Int) (x3 : Int) {lo : gh_L} (l0 : lo.lookup 0 = some (vr 1)) (l1 : lo.lookup 1 = some (vi x1)) (l2 : lo.lookup 2 = some (vi x2)) (l3 : lo.lookup 3 = some (vi x3)) {σ : gb_S}, gb_G (fx_82_26 k x1 x2 x3 σ) 3 7 (some .int) (fun _ _ => none) gk_82 c0 eI 26 lo [] σ := by
  induction k with
  | zero => intros; exact gg_n
  | succ k ih =>
    intro x1 x2 x3 lo l0 l1 l2 l3 σ
    rw [fx_82_26]
    refine gg_il 27 3 rfl rfl l3 ?_
    refine gg_ci 29 14 rfl rfl ?_
    refine gg_q (fun q1 => ?_)
    refine gg_ige 66 32 rfl rfl rfl rfl q1 (gRl rfl) ?_ ?_
    · refine gg_il 67 2 rfl rfl l2 ?_
      exact gg_ir rfl
    · refine gg_al 33 0 rfl rfl l0 ?_
      refine gg_gr 36 25 rfl rfl rfl gcl_1 rfl ?_
      refine gg_il 37 3 rfl rfl l3 ?_
      refine gg_q (fun q2 => ?_)
      refine gg_aal 38 rfl rfl q2 ?_
      refine gg_gi 41 rfl rfl rfl (ges0 (ges_at q2)) rfl ?_
      refine gg_q (fun q3 => ?_)
      refine gg_zne 60 44 rfl rfl rfl rfl q3 ?_ ?_
      · refine gg_inc 63 rfl rfl l3 ?_
        refine gg_go 26 rfl rfl rfl ?_
        exact ih x1 x2 (x3 + 1) (gl1 rfl rfl l0) (gl1 rfl rfl l1) (gl1 rfl rfl l2) gs1
      · refine gg_al 45 0 rfl rfl l0 ?_
        refine gg_gr 48 25 rfl rfl rfl gcl_1 rfl ?_
        refine gg_il 49 3 rfl rfl l3 ?_
        refine gg_aal 50 rfl rfl q2 ?_
        refine gg_il 51 1 rfl rfl l1 ?_
        refine gg_cI 54 rfl (gm_17 _ _ (ges_at q2)) (Nat.le_of_ble_eq_true rfl) (gb_vs rfl rfl rfl rfl rfl (ges0 (ges_at q2)) rfl rfl rfl) rfl (fun _ => rfl) (fun _ => rfl) (fun r4 s5 => ?_)
        refine gg_q (fun q6 => ?_)
        refine gg_zeq 60 57 rfl rfl rfl rfl q6 ?_ ?_
        · refine gg_inc 63 rfl rfl l3 ?_
          refine gg_go 26 rfl rfl rfl ?_
          exact ih x1 x2 (x3 + 1) (gl1 rfl rfl l0) (gl1 rfl rfl l1) (gl1 rfl rfl l2) gs1
        · refine gg_inc 60 rfl rfl l2 ?_
          refine gg_inc 63 rfl rfl (gl1 rfl rfl l3) ?_
          refine gg_go 26 rfl rfl rfl ?_
          exact ih x1 (x2 + 1) (x3 + 1) (gl1 rfl rfl (gl1 rfl rfl l0)) (gl1 rfl rfl (gl1 rfl rfl l1)) (gl1 rfl rfl gs1) gs1
theorem gm_82 (x1 : Int) {σ : gb_S} : gb_M (fx_82 x1 σ) 4 c0 eI 82 [vr 1, vi x1] σ := by
  rw [fx_82]
  refine gg_m (own := 7) (rt := (some .int)) (hnd := fun _ _ => none) (K := gk_82) (δ := 3) rfl rfl ?_
  refine gg_al 1 0 rfl rfl rfl ?_
  refine gg_il 2 1 rfl rfl rfl ?_
  refine gg_cV 5 rfl (gm_110 _) (Nat.le_of_ble_eq_true rfl) (gb_vs rfl rfl rfl rfl rfl gcl_1 rfl rfl rfl) rfl (fun _ => rfl) (fun _ => rfl) (fun s2 => ?_)
  refine gg_al 6 0 rfl rfl rfl ?_
  refine gg_il 7 1 rfl rfl rfl ?_
  refine gg_cV 10 rfl (gm_116 _) (Nat.le_of_ble_eq_true rfl) (gb_vs rfl rfl rfl rfl rfl gcl_1 rfl rfl rfl) rfl (fun _ => rfl) (fun _ => rfl) (fun s4 => ?_)
  refine gg_al 11 0 rfl rfl rfl ?_
  refine gg_gr 14 2 rfl rfl rfl gcl_1 rfl ?_
  refine gg_il 15 1 rfl rfl rfl ?_
  refine gg_al 16 0 rfl rfl rfl ?_
  refine gg_gi 19 rfl rfl rfl gcl_1 rfl ?_
  refine gg_cV 22 rfl (gm_23 _ _) (Nat.le_of_ble_eq_true rfl) (gb_vs rfl rfl rfl rfl rfl gcl_2 rfl rfl rfl) rfl (fun _ => rfl) (fun _ => rfl) (fun s6 => ?_)
  refine gg_ci 23 0 rfl rfl ?_
  refine gg_s 24 rfl rfl ?_
  refine gg_ci 25 0 rfl rfl ?_
  refine gg_s 26 rfl rfl ?_
  exact gt_82_26 gFU x1 0 0 (gl1 rfl rfl (gl1 rfl rfl rfl)) (gl1 rfl rfl (gl1 rfl rfl rfl)) (gl1 rfl rfl gs1) gs1
/-- Treeclerk.people -/
def fx_83 (σ : gb_S) : Option gb_P :=
  some (.inl (σ 2 3), σ)
theorem gm_83 {σ : gb_S} : gb_M (fx_83 σ) 1 c0 eI 83 [vr 1] σ := by
  rw [fx_83]
  refine gg_m (own := 7) (rt := (some .int)) (hnd := fun _ _ => none) (K := gk_83) (δ := 0) rfl rfl ?_
  refine gg_al 1 0 rfl rfl rfl ?_
  refine gg_gr 4 2 rfl rfl rfl gcl_1 rfl ?_
  refine gg_gi 7 rfl rfl rfl gcl_2 rfl ?_
  exact gg_ir rfl
/-- Treeclerk.isAlive -/
def fx_84 (x1 : Int) (σ : gb_S) : Option gb_P :=
  gc (fx_110 x1 σ) (fun _ s2 =>
  gc (fx_24 x1 s2) (fun r3 s4 =>
  gq (gR r3) (
  (if r3 = 0 then
    some (.inl 1, s4)
  else
    some (.inl 0, s4)))))
theorem gm_84 (x1 : Int) {σ : gb_S} : gb_M (fx_84 x1 σ) 3 c0 eI 84 [vr 1, vi x1] σ := by
  rw [fx_84]
  refine gg_m (own := 7) (rt := (some .boolean)) (hnd := fun _ _ => none) (K := gk_84) (δ := 2) rfl rfl ?_
  refine gg_al 1 0 rfl rfl rfl ?_
  refine gg_il 2 1 rfl rfl rfl ?_
  refine gg_cV 5 rfl (gm_110 _) (Nat.le_of_ble_eq_true rfl) (gb_vs rfl rfl rfl rfl rfl gcl_1 rfl rfl rfl) rfl (fun _ => rfl) (fun _ => rfl) (fun s2 => ?_)
  refine gg_al 6 0 rfl rfl rfl ?_
  refine gg_gr 9 2 rfl rfl rfl gcl_1 rfl ?_
  refine gg_il 10 1 rfl rfl rfl ?_
  refine gg_cI 13 rfl (gm_24 _) (Nat.le_of_ble_eq_true rfl) (gb_vs rfl rfl rfl rfl rfl gcl_2 rfl rfl rfl) rfl (fun _ => rfl) (fun _ => rfl) (fun r3 s4 => ?_)
  refine gg_q (fun q5 => ?_)
  refine gg_zne 20 16 rfl rfl rfl rfl q5 ?_ ?_
  · refine gg_ci 21 0 rfl rfl ?_
    exact gg_zr rfl (Or.inl rfl)
  · refine gg_ci 17 1 rfl rfl ?_
    refine gg_go 21 rfl rfl rfl ?_
    exact gg_zr rfl (Or.inr rfl)
/-- Treeclerk.requireWeight -/
def fx_113 (x1 : Int) (x2 : Int) (σ : gb_S) : Option gb_P :=
  gq (gR x1) (
  gq (gR x2) (
  (if x1 < x2 then
    some (.inr 1, σ)
  else
    (if 9 < x1 then
      some (.inr 1, σ)
    else
      some (.inl 0, σ)))))
theorem gm_113 (x1 : Int) (x2 : Int) {σ : gb_S} : gb_M (fx_113 x1 x2 σ) 1 c0 eV 113 [vr 1, vi x1, vi x2] σ := by
  rw [fx_113]
  refine gg_m (own := 7) (rt := none) (hnd := fun _ _ => none) (K := gk_113) (δ := 0) rfl rfl ?_
  refine gg_il 1 1 rfl rfl rfl ?_
  refine gg_il 2 2 rfl rfl rfl ?_
  refine gg_q (fun q1 => ?_)
  refine gg_q (fun q2 => ?_)
  refine gg_ilt 11 5 rfl rfl rfl rfl q1 q2 ?_ ?_
  · exact gg_th rfl rfl rfl
  · refine gg_il 6 1 rfl rfl rfl ?_
    refine gg_ci 8 9 rfl rfl ?_
    refine gg_ile 22 11 rfl rfl rfl rfl q1 (gRl rfl) ?_ ?_
    · exact gg_vr rfl
    · exact gg_th rfl rfl rfl
/-- Treeclerk.reopen -/
def fx_122 (a1 : Nat) (σ : gb_S) : Option gb_P :=
  gc (fx_1 15 a1 41 σ) (fun _ s2 =>
  gc (fx_76 41 (a1 + 3) s2) (fun r3 s4 =>
  gq (gR r3) (
  (if r3 = 0 then
    gc (fx_70 (a1 + 3) 41 s4) (fun _ s7 =>
    some (.inl 1, (gb_up s7 a1 7 ((s7 a1 7) + 1))))
  else
    some (.inl 0, s4)))))
theorem gm_122 (a1 : Nat) (h1 : gb_kd a1 = 1) {σ : gb_S} : gb_M (fx_122 a1 σ) 6 c0 eI 122 [vr 1, vr a1] σ := by
  rw [fx_122]
  refine gg_m (own := 7) (rt := (some .boolean)) (hnd := fun _ _ => none) (K := gk_122) (δ := 5) rfl rfl ?_
  refine gg_al 1 0 rfl rfl rfl ?_
  refine gg_gr 4 26 rfl rfl rfl gcl_1 rfl ?_
  refine gg_al 5 0 rfl rfl rfl ?_
  refine gg_gr 8 2 rfl rfl rfl gcl_1 rfl ?_
  refine gg_al 9 0 rfl rfl rfl ?_
  refine gg_gr 12 15 rfl rfl rfl gcl_1 rfl ?_
  refine gg_al 13 1 rfl rfl rfl ?_
  refine gg_al 14 0 rfl rfl rfl ?_
  refine gg_gr 17 41 rfl rfl rfl gcl_1 rfl ?_
  refine gg_cV 20 rfl (gm_1 _ _ _ (rfl : gb_kd 15 = 3) h1 (rfl : gb_kd 41 = 6)) (Nat.le_of_ble_eq_true rfl) (gb_vs rfl rfl rfl rfl rfl gcl_26 rfl rfl rfl) rfl (fun _ => rfl) (fun _ => rfl) (fun s2 => ?_)
  refine gg_al 21 0 rfl rfl rfl ?_
  refine gg_gr 24 41 rfl rfl rfl gcl_1 rfl ?_
  refine gg_al 25 1 rfl rfl rfl ?_
  refine gg_gr 28 (a1 + 3) rfl rfl rfl (ges0 h1) rfl ?_
  refine gg_cI 31 rfl (gm_76 _ _ (rfl : gb_kd 41 = 6) (ges3 h1)) (Nat.le_of_ble_eq_true rfl) (gb_vs rfl rfl rfl rfl rfl gcl_41 rfl rfl rfl) rfl (fun _ => rfl) (fun _ => rfl) (fun r3 s4 => ?_)
  refine gg_q (fun q5 => ?_)
  refine gg_zeq 36 34 rfl rfl rfl rfl q5 ?_ ?_
  · refine gg_al 37 1 rfl rfl rfl ?_
    refine gg_gr 40 (a1 + 3) rfl rfl rfl (ges0 h1) rfl ?_
    refine gg_al 41 0 rfl rfl rfl ?_
    refine gg_gr 44 41 rfl rfl rfl gcl_1 rfl ?_
    refine gg_cV 47 rfl (gm_70 _ _ (ges3 h1) (rfl : gb_kd 41 = 6)) (Nat.le_of_ble_eq_true rfl) (gb_vs rfl rfl rfl rfl rfl (gsh0 (ges3 h1)) rfl rfl rfl) rfl (fun _ => rfl) (fun _ => rfl) (fun s7 => ?_)
    refine gg_al 48 1 rfl rfl rfl ?_
    refine gg_s 49 rfl rfl ?_
    refine gg_gi 52 rfl rfl rfl (ges0 h1) rfl ?_
    refine gg_ci 53 1 rfl rfl ?_
    refine gg_add 54 rfl rfl ?_
    refine gg_pf 57 rfl rfl rfl (ges0 h1) rfl ⟨rfl, rfl⟩ ?_
    refine gg_ci 58 1 rfl rfl ?_
    exact gg_zr rfl (Or.inr rfl)
  · refine gg_ci 35 0 rfl rfl ?_
    exact gg_zr rfl (Or.inl rfl)
end GF3
