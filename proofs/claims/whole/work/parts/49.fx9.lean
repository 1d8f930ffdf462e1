section GF9
variable {c0 : gh_C}
def fx_149_4 (k : Nat) (x1 : Int) (x2 : Int) (σ : gb_S) : Option gb_P := match k with
  | 0 => none
  | k + 1 =>
    gq (gR x2) (
    gq (gR (σ 187 12)) (
    (if x2 < (σ 187 12) then
      gq (0 ≤ x2 ∧ x2 < 30) (
      gq (gR (σ 196 x2.toNat)) (
      (if (σ 196 x2.toNat) = 0 then
        fx_149_4 k (x1 + 0) (x2 + 1) σ
      else
        fx_149_4 k (x1 + 1) (x2 + 1) σ)))
    else
      gc (fx_130 x1 σ) (fun r3 s4 =>
      some (.inl r3, s4)))))
/-- TreeclerkModel.openDoubts -/
def fx_149 (σ : gb_S) : Option gb_P :=
  fx_149_4 gFU 0 0 σ
theorem gt_149_4 (k : Nat) : ∀ (x1 : Int) (x2 : Int) {lo : gh_L} (l0 : lo.lookup 0 = some (vr 187)) (l1 : lo.lookup 1 = some (vi x1)) (l2 : lo.lookup 2 = some (vi x2)) {σ : gb_S}, gb_G (fx_149_4 k x1 x2 σ) 1 8 (some .int) (fun _ _ => none) gk_149 c0 eI 4 lo [] σ := by
  induction k with
  | zero => intros; exact gg_n
  | succ k ih =>
    intro x1 x2 lo l0 l1 l2 σ
    rw [fx_149_4]
    refine gg_il 5 2 rfl rfl l2 ?_
    refine gg_al 6 0 rfl rfl l0 ?_
    refine gg_gi 9 rfl rfl rfl gcl_187 rfl ?_
    refine gg_q (fun q1 => ?_)
    refine gg_q (fun q2 => ?_)
    refine gg_ige 35 12 rfl rfl rfl rfl q1 q2 ?_ ?_
    · refine gg_al 36 0 rfl rfl l0 ?_
      refine gg_il 37 1 rfl rfl l1 ?_
      refine gg_cI 40 rfl (gm_130 _) (Nat.le_of_ble_eq_true rfl) (gb_vs rfl rfl rfl rfl rfl gcl_187 rfl rfl rfl) rfl (fun _ => rfl) (fun _ => rfl) (fun r3 s4 => ?_)
      exact gg_ir rfl
    · refine gg_il 13 1 rfl rfl l1 ?_
      refine gg_al 14 0 rfl rfl l0 ?_
      refine gg_gr 17 196 rfl rfl rfl gcl_187 rfl ?_
      refine gg_il 18 2 rfl rfl l2 ?_
      refine gg_q (fun q5 => ?_)
      refine gg_bal 19 rfl rfl gar_196 q5 ?_
      refine gg_q (fun q6 => ?_)
      refine gg_zeq 26 22 rfl rfl rfl rfl q6 ?_ ?_
      · refine gg_ci 27 0 rfl rfl ?_
        refine gg_add 28 rfl rfl ?_
        refine gg_s 29 rfl rfl ?_
        refine gg_inc 32 rfl rfl (gl1 rfl rfl l2) ?_
        refine gg_go 4 rfl rfl rfl ?_
        exact ih (x1 + 0) (x2 + 1) (gl1 rfl rfl (gl1 rfl rfl l0)) (gl1 rfl rfl gs1) gs1
      · refine gg_ci 23 1 rfl rfl ?_
        refine gg_go 27 rfl rfl rfl ?_
        refine gg_add 28 rfl rfl ?_
        refine gg_s 29 rfl rfl ?_
        refine gg_inc 32 rfl rfl (gl1 rfl rfl l2) ?_
        refine gg_go 4 rfl rfl rfl ?_
        exact ih (x1 + 1) (x2 + 1) (gl1 rfl rfl (gl1 rfl rfl l0)) (gl1 rfl rfl gs1) gs1
theorem gm_149 {σ : gb_S} : gb_M (fx_149 σ) 2 c0 eI 149 [vr 187] σ := by
  rw [fx_149]
  refine gg_m (own := 8) (rt := (some .int)) (hnd := fun _ _ => none) (K := gk_149) (δ := 1) rfl rfl ?_
  refine gg_ci 1 0 rfl rfl ?_
  refine gg_s 2 rfl rfl ?_
  refine gg_ci 3 0 rfl rfl ?_
  refine gg_s 4 rfl rfl ?_
  exact gt_149_4 gFU 0 0 (gl1 rfl rfl (gl1 rfl rfl rfl)) (gl1 rfl rfl gs1) gs1
/-- TreeclerkModel.parentOf -/
def fx_150 (x1 : Int) (x2 : Int) (σ : gb_S) : Option gb_P :=
  gc (fx_131 x1 σ) (fun r1 s2 =>
  gc (fx_126 x2 0 1 s2) (fun r3 s4 =>
  gc (fx_128 r1 r3 s4) (fun r5 s6 =>
  gq (gR r5) (
  (if r5 = 0 then
    some (.inl 0, s6)
  else
    gc (fx_143 s6) (fun _ s9 =>
    gq (gR x2) (
    (if x2 = 0 then
      gq (0 ≤ x1 ∧ x1 < 14) (
      some (.inl (s9 212 x1.toNat), s9))
    else
      gq (0 ≤ x1 ∧ x1 < 14) (
      some (.inl (s9 213 x1.toNat), s9))))))))))
theorem gm_150 (x1 : Int) (x2 : Int) {σ : gb_S} : gb_M (fx_150 x1 x2 σ) 3 c0 eI 150 [vr 187, vi x1, vi x2] σ := by
  rw [fx_150]
  refine gg_m (own := 8) (rt := (some .int)) (hnd := fun _ _ => none) (K := gk_150) (δ := 2) rfl rfl ?_
  refine gg_al 1 0 rfl rfl rfl ?_
  refine gg_al 2 0 rfl rfl rfl ?_
  refine gg_il 3 1 rfl rfl rfl ?_
  refine gg_cI 6 rfl (gm_131 _) (Nat.le_of_ble_eq_true rfl) (gb_vs rfl rfl rfl rfl rfl gcl_187 rfl rfl rfl) rfl (fun _ => rfl) (fun _ => rfl) (fun r1 s2 => ?_)
  refine gg_il 7 2 rfl rfl rfl ?_
  refine gg_ci 8 0 rfl rfl ?_
  refine gg_ci 9 1 rfl rfl ?_
  refine gg_cI 12 rfl (gm_126 _ _ _) (Nat.le_of_ble_eq_true rfl) (gb_ss rfl rfl rfl rfl rfl rfl rfl) rfl (fun _ => rfl) (fun _ => rfl) (fun r3 s4 => ?_)
  refine gg_cI 15 rfl (gm_128 _ _) (Nat.le_of_ble_eq_true rfl) (gb_vs rfl rfl rfl rfl rfl gcl_187 rfl rfl rfl) rfl (fun _ => rfl) (fun _ => rfl) (fun r5 s6 => ?_)
  refine gg_q (fun q7 => ?_)
  refine gg_zne 20 18 rfl rfl rfl rfl q7 ?_ ?_
  · refine gg_al 21 0 rfl rfl rfl ?_
    refine gg_cV 24 rfl (gm_143) (Nat.le_of_ble_eq_true rfl) (gb_vs rfl rfl rfl rfl rfl gcl_187 rfl rfl rfl) rfl (fun _ => rfl) (fun _ => rfl) (fun s9 => ?_)
    refine gg_il 25 2 rfl rfl rfl ?_
    refine gg_q (fun q10 => ?_)
    refine gg_zne 37 28 rfl rfl rfl rfl q10 ?_ ?_
    · refine gg_al 38 0 rfl rfl rfl ?_
      refine gg_gr 41 213 rfl rfl rfl gcl_187 rfl ?_
      refine gg_il 42 1 rfl rfl rfl ?_
      refine gg_q (fun q11 => ?_)
      refine gg_ial 43 rfl rfl gar_213 q11 ?_
      exact gg_ir rfl
    · refine gg_al 29 0 rfl rfl rfl ?_
      refine gg_gr 32 212 rfl rfl rfl gcl_187 rfl ?_
      refine gg_il 33 1 rfl rfl rfl ?_
      refine gg_q (fun q12 => ?_)
      refine gg_ial 34 rfl rfl gar_212 q12 ?_
      refine gg_go 43 rfl rfl rfl ?_
      exact gg_ir rfl
  · refine gg_ci 19 0 rfl rfl ?_
    exact gg_ir rfl
def fx_151_22 (k : Nat) (x1 : Int) (x2 : Int) (x3 : Int) (σ : gb_S) : Option gb_P := match k with
  | 0 => none
  | k + 1 =>
    gq (gR x3) (
    gq (gR (σ 187 3)) (
    (if x3 < (σ 187 3) then
      gc (fx_144 x1 x3 σ) (fun r3 s4 =>
      gq (gR r3) (
      (if r3 = 0 then
        fx_151_22 k x1 (gb_or x2 0) (x3 + 1) s4
      else
        fx_151_22 k x1 (gb_or x2 (gb_shl 1 x3)) (x3 + 1) s4)))
    else
      some (.inl x2, σ))))
/-- TreeclerkModel.childrenOf -/
def fx_151 (x1 : Int) (σ : gb_S) : Option gb_P :=
  gc (fx_131 x1 σ) (fun r1 s2 =>
  gc (fx_127 r1 s2) (fun r3 s4 =>
  gq (gR r3) (
  (if r3 = 0 then
    some (.inl 0, s4)
  else
    gc (fx_143 s4) (fun _ s7 =>
    fx_151_22 gFU x1 0 0 s7)))))
theorem gt_151_22 (k : Nat) : ∀ (x1 : Int) (x2 : Int) (x3 : Int) {lo : gh_L} (l0 : lo.lookup 0 = some (vr 187)) (l1 : lo.lookup 1 = some (vi x1)) (l2 : lo.lookup 2 = some (vi x2)) (l3 : lo.lookup 3 = some (vi x3)) {σ : gb_S}, gb_G (fx_151_22 k x1 x2 x3 σ) 2 8 (some .int) (fun _ _ => none) gk_151 c0 eI 22 lo [] σ := by
  induction k with
  | zero => intros; exact gg_n
  | succ k ih =>
    intro x1 x2 x3 lo l0 l1 l2 l3 σ
    rw [fx_151_22]
    refine gg_il 23 3 rfl rfl l3 ?_
    refine gg_al 24 0 rfl rfl l0 ?_
    refine gg_gi 27 rfl rfl rfl gcl_187 rfl ?_
    refine gg_q (fun q1 => ?_)
    refine gg_q (fun q2 => ?_)
    refine gg_ige 55 30 rfl rfl rfl rfl q1 q2 ?_ ?_
    · refine gg_il 56 2 rfl rfl l2 ?_
      exact gg_ir rfl
    · refine gg_il 31 2 rfl rfl l2 ?_
      refine gg_al 32 0 rfl rfl l0 ?_
      refine gg_il 33 1 rfl rfl l1 ?_
      refine gg_il 34 3 rfl rfl l3 ?_
      refine gg_cI 37 rfl (gm_144 _ _) (Nat.le_of_ble_eq_true rfl) (gb_vs rfl rfl rfl rfl rfl gcl_187 rfl rfl rfl) rfl (fun _ => rfl) (fun _ => rfl) (fun r3 s4 => ?_)
      refine gg_q (fun q5 => ?_)
      refine gg_zeq 46 40 rfl rfl rfl rfl q5 ?_ ?_
      · refine gg_ci 47 0 rfl rfl ?_
        refine gg_or 48 rfl rfl ?_
        refine gg_s 49 rfl rfl ?_
        refine gg_inc 52 rfl rfl (gl1 rfl rfl l3) ?_
        refine gg_go 22 rfl rfl rfl ?_
        exact ih x1 (gb_or x2 0) (x3 + 1) (gl1 rfl rfl (gl1 rfl rfl l0)) (gl1 rfl rfl (gl1 rfl rfl l1)) (gl1 rfl rfl gs1) gs1
      · refine gg_ci 41 1 rfl rfl ?_
        refine gg_il 42 3 rfl rfl l3 ?_
        refine gg_shl 43 rfl rfl ?_
        refine gg_go 47 rfl rfl rfl ?_
        refine gg_or 48 rfl rfl ?_
        refine gg_s 49 rfl rfl ?_
        refine gg_inc 52 rfl rfl (gl1 rfl rfl l3) ?_
        refine gg_go 22 rfl rfl rfl ?_
        exact ih x1 (gb_or x2 (gb_shl 1 x3)) (x3 + 1) (gl1 rfl rfl (gl1 rfl rfl l0)) (gl1 rfl rfl (gl1 rfl rfl l1)) (gl1 rfl rfl gs1) gs1
theorem gm_151 (x1 : Int) {σ : gb_S} : gb_M (fx_151 x1 σ) 3 c0 eI 151 [vr 187, vi x1] σ := by
  rw [fx_151]
  refine gg_m (own := 8) (rt := (some .int)) (hnd := fun _ _ => none) (K := gk_151) (δ := 2) rfl rfl ?_
  refine gg_al 1 0 rfl rfl rfl ?_
  refine gg_al 2 0 rfl rfl rfl ?_
  refine gg_il 3 1 rfl rfl rfl ?_
  refine gg_cI 6 rfl (gm_131 _) (Nat.le_of_ble_eq_true rfl) (gb_vs rfl rfl rfl rfl rfl gcl_187 rfl rfl rfl) rfl (fun _ => rfl) (fun _ => rfl) (fun r1 s2 => ?_)
  refine gg_cI 9 rfl (gm_127 _) (Nat.le_of_ble_eq_true rfl) (gb_vs rfl rfl rfl rfl rfl gcl_187 rfl rfl rfl) rfl (fun _ => rfl) (fun _ => rfl) (fun r3 s4 => ?_)
  refine gg_q (fun q5 => ?_)
  refine gg_zne 14 12 rfl rfl rfl rfl q5 ?_ ?_
  · refine gg_al 15 0 rfl rfl rfl ?_
    refine gg_cV 18 rfl (gm_143) (Nat.le_of_ble_eq_true rfl) (gb_vs rfl rfl rfl rfl rfl gcl_187 rfl rfl rfl) rfl (fun _ => rfl) (fun _ => rfl) (fun s7 => ?_)
    refine gg_ci 19 0 rfl rfl ?_
    refine gg_s 20 rfl rfl ?_
    refine gg_ci 21 0 rfl rfl ?_
    refine gg_s 22 rfl rfl ?_
    exact gt_151_22 gFU x1 0 0 (gl1 rfl rfl (gl1 rfl rfl rfl)) (gl1 rfl rfl (gl1 rfl rfl rfl)) (gl1 rfl rfl gs1) gs1
  · refine gg_ci 13 0 rfl rfl ?_
    exact gg_ir rfl
def fx_152_66 (x1 : Int) (x2 : Int) (x3 : Int) (y0 : Int) (y1 : Int) (y2 : Int) (σ : gb_S) : Option gb_P :=
  gc (fx_129 y2 y1 y0 σ) (fun r1 s2 =>
  gq (gR r1) (
  (if r1 = 0 then
    some (.inl 0, s2)
  else
    gq (0 ≤ ((14 * x1) + x2) ∧ ((14 * x1) + x2) < 196) (
    some (.inl (s2 197 ((14 * x1) + x2).toNat), (gb_up s2 197 ((14 * x1) + x2).toNat x3))))))
def fx_152_46 (x1 : Int) (x2 : Int) (x3 : Int) (x4 : Int) (y0 : Int) (y1 : Int) (σ : gb_S) : Option gb_P :=
  gq (gR x4) (
  (if x4 = 0 then
    fx_152_66 x1 x2 x3 0 y0 y1 σ
  else
    gq (0 ≤ x1 ∧ x1 < 14) (
    gq (gR (σ 189 x1.toNat)) (
    (if (σ 189 x1.toNat) = (-1) then
      fx_152_66 x1 x2 x3 1 y0 y1 σ
    else
      fx_152_66 x1 x2 x3 0 y0 y1 σ)))))
def fx_152_21 (x1 : Int) (x2 : Int) (x3 : Int) (y0 : Int) (σ : gb_S) : Option gb_P :=
  gq (gR x1) (
  gq (gR x2) (
  (if x1 = x2 then
    fx_152_46 x1 x2 x3 y0 0 y0 σ
  else
    gc (fx_126 x3 0 9 σ) (fun r3 s4 =>
    gq (gR r3) (
    (if r3 = 0 then
      fx_152_46 x1 x2 x3 y0 0 y0 s4
    else
      fx_152_46 x1 x2 x3 y0 1 y0 s4))))))
/-- TreeclerkModel.will -/
def fx_152 (x1 : Int) (x2 : Int) (x3 : Int) (σ : gb_S) : Option gb_P :=
  gc (fx_131 x1 σ) (fun r1 s2 =>
  gq (gR r1) (
  (if r1 = 0 then
    fx_152_21 x1 x2 x3 0 s2
  else
    gc (fx_131 x2 s2) (fun r4 s5 =>
    gq (gR r4) (
    (if r4 = 0 then
      fx_152_21 x1 x2 x3 0 s5
    else
      fx_152_21 x1 x2 x3 1 s5))))))
theorem gt_152_66 (x1 : Int) (x2 : Int) (x3 : Int) (y0 : Int) (y1 : Int) (y2 : Int) {lo : gh_L} (l0 : lo.lookup 0 = some (vr 187)) (l1 : lo.lookup 1 = some (vi x1)) (l2 : lo.lookup 2 = some (vi x2)) (l3 : lo.lookup 3 = some (vi x3)) {σ : gb_S} : gb_G (fx_152_66 x1 x2 x3 y0 y1 y2 σ) 2 8 (some .int) (fun _ _ => none) gk_152 c0 eI 66 lo [vi y0, vi y1, vi y2, vr 187] σ := by
  rw [fx_152_66]
  refine gg_cI 69 rfl (gm_129 _ _ _) (Nat.le_of_ble_eq_true rfl) (gb_vs rfl rfl rfl rfl rfl gcl_187 rfl rfl rfl) rfl (fun _ => rfl) (fun _ => rfl) (fun r1 s2 => ?_)
  refine gg_q (fun q3 => ?_)
  refine gg_zne 74 72 rfl rfl rfl rfl q3 ?_ ?_
  · refine gg_al 75 0 rfl rfl l0 ?_
    refine gg_gr 78 197 rfl rfl rfl gcl_187 rfl ?_
    refine gg_ci 80 14 rfl rfl ?_
    refine gg_il 81 1 rfl rfl l1 ?_
    refine gg_mul 82 rfl rfl ?_
    refine gg_il 83 2 rfl rfl l2 ?_
    refine gg_add 84 rfl rfl ?_
    refine gg_q (fun q4 => ?_)
    refine gg_ial 85 rfl rfl gar_197 q4 ?_
    refine gg_s 87 rfl rfl ?_
    refine gg_al 88 0 rfl rfl (gl1 rfl rfl l0) ?_
    refine gg_gr 91 197 rfl rfl rfl gcl_187 rfl ?_
    refine gg_ci 93 14 rfl rfl ?_
    refine gg_il 94 1 rfl rfl (gl1 rfl rfl l1) ?_
    refine gg_mul 95 rfl rfl ?_
    refine gg_il 96 2 rfl rfl (gl1 rfl rfl l2) ?_
    refine gg_add 97 rfl rfl ?_
    refine gg_il 98 3 rfl rfl (gl1 rfl rfl l3) ?_
    refine gg_ias 99 rfl rfl gar_197 q4 ?_
    refine gg_il 101 5 rfl rfl gs1 ?_
    exact gg_ir rfl
  · refine gg_ci 73 0 rfl rfl ?_
    exact gg_ir rfl
theorem gt_152_46 (x1 : Int) (x2 : Int) (x3 : Int) (x4 : Int) (y0 : Int) (y1 : Int) {lo : gh_L} (l0 : lo.lookup 0 = some (vr 187)) (l1 : lo.lookup 1 = some (vi x1)) (l2 : lo.lookup 2 = some (vi x2)) (l3 : lo.lookup 3 = some (vi x3)) (l4 : lo.lookup 4 = some (vi x4)) {σ : gb_S} : gb_G (fx_152_46 x1 x2 x3 x4 y0 y1 σ) 2 8 (some .int) (fun _ _ => none) gk_152 c0 eI 46 lo [vi y0, vi y1, vr 187] σ := by
  rw [fx_152_46]
  refine gg_il 48 4 rfl rfl l4 ?_
  refine gg_q (fun q1 => ?_)
  refine gg_zeq 65 51 rfl rfl rfl rfl q1 ?_ ?_
  · refine gg_ci 66 0 rfl rfl ?_
    exact gt_152_66 x1 x2 x3 0 y0 y1 l0 l1 l2 l3
  · refine gg_al 52 0 rfl rfl l0 ?_
    refine gg_gr 55 189 rfl rfl rfl gcl_187 rfl ?_
    refine gg_il 56 1 rfl rfl l1 ?_
    refine gg_q (fun q2 => ?_)
    refine gg_ial 57 rfl rfl gar_189 q2 ?_
    refine gg_ci 58 (-1) rfl rfl ?_
    refine gg_q (fun q3 => ?_)
    refine gg_ine 65 61 rfl rfl rfl rfl q3 (gRl rfl) ?_ ?_
    · refine gg_ci 66 0 rfl rfl ?_
      exact gt_152_66 x1 x2 x3 0 y0 y1 l0 l1 l2 l3
    · refine gg_ci 62 1 rfl rfl ?_
      refine gg_go 66 rfl rfl rfl ?_
      exact gt_152_66 x1 x2 x3 1 y0 y1 l0 l1 l2 l3
theorem gt_152_21 (x1 : Int) (x2 : Int) (x3 : Int) (y0 : Int) {lo : gh_L} (l0 : lo.lookup 0 = some (vr 187)) (l1 : lo.lookup 1 = some (vi x1)) (l2 : lo.lookup 2 = some (vi x2)) (l3 : lo.lookup 3 = some (vi x3)) {σ : gb_S} : gb_G (fx_152_21 x1 x2 x3 y0 σ) 2 8 (some .int) (fun _ _ => none) gk_152 c0 eI 21 lo [vi y0] σ := by
  rw [fx_152_21]
  refine gg_s 23 rfl rfl ?_
  refine gg_al 24 0 rfl rfl (gl1 rfl rfl l0) ?_
  refine gg_il 26 4 rfl rfl gs1 ?_
  refine gg_il 27 1 rfl rfl (gl1 rfl rfl l1) ?_
  refine gg_il 28 2 rfl rfl (gl1 rfl rfl l2) ?_
  refine gg_q (fun q1 => ?_)
  refine gg_q (fun q2 => ?_)
  refine gg_ieq 45 31 rfl rfl rfl rfl q1 q2 ?_ ?_
  · refine gg_ci 46 0 rfl rfl ?_
    exact gt_152_46 x1 x2 x3 y0 0 y0 (gl1 rfl rfl l0) (gl1 rfl rfl l1) (gl1 rfl rfl l2) (gl1 rfl rfl l3) gs1
  · refine gg_il 32 3 rfl rfl (gl1 rfl rfl l3) ?_
    refine gg_ci 33 0 rfl rfl ?_
    refine gg_ci 35 9 rfl rfl ?_
    refine gg_cI 38 rfl (gm_126 _ _ _) (Nat.le_of_ble_eq_true rfl) (gb_ss rfl rfl rfl rfl rfl rfl rfl) rfl (fun _ => rfl) (fun _ => rfl) (fun r3 s4 => ?_)
    refine gg_q (fun q5 => ?_)
    refine gg_zeq 45 41 rfl rfl rfl rfl q5 ?_ ?_
    · refine gg_ci 46 0 rfl rfl ?_
      exact gt_152_46 x1 x2 x3 y0 0 y0 (gl1 rfl rfl l0) (gl1 rfl rfl l1) (gl1 rfl rfl l2) (gl1 rfl rfl l3) gs1
    · refine gg_ci 42 1 rfl rfl ?_
      refine gg_go 46 rfl rfl rfl ?_
      exact gt_152_46 x1 x2 x3 y0 1 y0 (gl1 rfl rfl l0) (gl1 rfl rfl l1) (gl1 rfl rfl l2) (gl1 rfl rfl l3) gs1
theorem gm_152 (x1 : Int) (x2 : Int) (x3 : Int) {σ : gb_S} : gb_M (fx_152 x1 x2 x3 σ) 3 c0 eI 152 [vr 187, vi x1, vi x2, vi x3] σ := by
  rw [fx_152]
  refine gg_m (own := 8) (rt := (some .int)) (hnd := fun _ _ => none) (K := gk_152) (δ := 2) rfl rfl ?_
  refine gg_al 1 0 rfl rfl rfl ?_
  refine gg_il 2 1 rfl rfl rfl ?_
  refine gg_cI 5 rfl (gm_131 _) (Nat.le_of_ble_eq_true rfl) (gb_vs rfl rfl rfl rfl rfl gcl_187 rfl rfl rfl) rfl (fun _ => rfl) (fun _ => rfl) (fun r1 s2 => ?_)
  refine gg_q (fun q3 => ?_)
  refine gg_zeq 20 8 rfl rfl rfl rfl q3 ?_ ?_
  · refine gg_ci 21 0 rfl rfl ?_
    exact gt_152_21 x1 x2 x3 0 rfl rfl rfl rfl
  · refine gg_al 9 0 rfl rfl rfl ?_
    refine gg_il 10 2 rfl rfl rfl ?_
    refine gg_cI 13 rfl (gm_131 _) (Nat.le_of_ble_eq_true rfl) (gb_vs rfl rfl rfl rfl rfl gcl_187 rfl rfl rfl) rfl (fun _ => rfl) (fun _ => rfl) (fun r4 s5 => ?_)
    refine gg_q (fun q6 => ?_)
    refine gg_zeq 20 16 rfl rfl rfl rfl q6 ?_ ?_
    · refine gg_ci 21 0 rfl rfl ?_
      exact gt_152_21 x1 x2 x3 0 rfl rfl rfl rfl
    · refine gg_ci 17 1 rfl rfl ?_
      refine gg_go 21 rfl rfl rfl ?_
      exact gt_152_21 x1 x2 x3 1 rfl rfl rfl rfl
def fx_154_72 (x1 : Int) (x2 : Int) (y0 : Int) (y1 : Int) (σ : gb_S) : Option gb_P :=
  gc (fx_128 y1 y0 σ) (fun r1 s2 =>
  gq (gR r1) (
  (if r1 = 0 then
    some (.inl 0, s2)
  else
    gq (0 ≤ x2 ∧ x2 < 14) (
    gq (0 ≤ ((14 * x2) + (s2 202 x2.toNat)) ∧ ((14 * x2) + (s2 202 x2.toNat)) < 196) (
    some (.inl ((gb_up (gb_up s2 201 ((14 * x2) + (s2 202 x2.toNat)).toNat x1) 202 x2.toNat (((gb_up s2 201 ((14 * x2) + (s2 202 x2.toNat)).toNat x1) 202 x2.toNat) + 1)) 202 x2.toNat), (gb_up (gb_up s2 201 ((14 * x2) + (s2 202 x2.toNat)).toNat x1) 202 x2.toNat (((gb_up s2 201 ((14 * x2) + (s2 202 x2.toNat)).toNat x1) 202 x2.toNat) + 1))))))))
def fx_154_21 (x1 : Int) (x2 : Int) (y0 : Int) (σ : gb_S) : Option gb_P :=
  gq (gR y0) (
  (if y0 = 0 then
    fx_154_72 x1 x2 0 y0 σ
  else
    gq (0 ≤ x1 ∧ x1 < 14) (
    gq (gR (σ 189 x1.toNat)) (
    (if (σ 189 x1.toNat) = (-1) then
      gq (0 ≤ x2 ∧ x2 < 14) (
      gq (gR (σ 189 x2.toNat)) (
      (if (σ 189 x2.toNat) = (-1) then
        fx_154_72 x1 x2 0 y0 σ
      else
        gq (gR (σ 198 x2.toNat)) (
        (if (σ 198 x2.toNat) = 0 then
          gc (fx_153 x1 x2 σ) (fun r7 s8 =>
          gq (gR r7) (
          (if r7 = (-1) then
            fx_154_72 x1 x2 1 y0 s8
          else
            fx_154_72 x1 x2 0 y0 s8)))
        else
          fx_154_72 x1 x2 0 y0 σ)))))
    else
      fx_154_72 x1 x2 0 y0 σ)))))
/-- TreeclerkModel.claim -/
def fx_154 (x1 : Int) (x2 : Int) (σ : gb_S) : Option gb_P :=
  gc (fx_131 x1 σ) (fun r1 s2 =>
  gq (gR r1) (
  (if r1 = 0 then
    fx_154_21 x1 x2 0 s2
  else
    gc (fx_131 x2 s2) (fun r4 s5 =>
    gq (gR r4) (
    (if r4 = 0 then
      fx_154_21 x1 x2 0 s5
    else
      fx_154_21 x1 x2 1 s5))))))
theorem gt_154_72 (x1 : Int) (x2 : Int) (y0 : Int) (y1 : Int) {lo : gh_L} (l0 : lo.lookup 0 = some (vr 187)) (l1 : lo.lookup 1 = some (vi x1)) (l2 : lo.lookup 2 = some (vi x2)) {σ : gb_S} : gb_G (fx_154_72 x1 x2 y0 y1 σ) 2 8 (some .int) (fun _ _ => none) gk_154 c0 eI 72 lo [vi y0, vi y1, vr 187] σ := by
  rw [fx_154_72]
  refine gg_cI 75 rfl (gm_128 _ _) (Nat.le_of_ble_eq_true rfl) (gb_vs rfl rfl rfl rfl rfl gcl_187 rfl rfl rfl) rfl (fun _ => rfl) (fun _ => rfl) (fun r1 s2 => ?_)
  refine gg_q (fun q3 => ?_)
  refine gg_zne 80 78 rfl rfl rfl rfl q3 ?_ ?_
  · refine gg_al 81 0 rfl rfl l0 ?_
    refine gg_gr 84 201 rfl rfl rfl gcl_187 rfl ?_
    refine gg_ci 86 14 rfl rfl ?_
    refine gg_il 87 2 rfl rfl l2 ?_
    refine gg_mul 88 rfl rfl ?_
    refine gg_al 89 0 rfl rfl l0 ?_
    refine gg_gr 92 202 rfl rfl rfl gcl_187 rfl ?_
    refine gg_il 93 2 rfl rfl l2 ?_
    refine gg_q (fun q4 => ?_)
    refine gg_ial 94 rfl rfl gar_202 q4 ?_
    refine gg_add 95 rfl rfl ?_
    refine gg_il 96 1 rfl rfl l1 ?_
    refine gg_q (fun q5 => ?_)
    refine gg_ias 97 rfl rfl gar_201 q5 ?_
    refine gg_al 98 0 rfl rfl l0 ?_
    refine gg_gr 101 202 rfl rfl rfl gcl_187 rfl ?_
    refine gg_il 102 2 rfl rfl l2 ?_
    refine gg_s 103 rfl rfl ?_
    refine gg_ial 104 rfl rfl gar_202 q4 ?_
    refine gg_ci 105 1 rfl rfl ?_
    refine gg_add 106 rfl rfl ?_
    refine gg_ias 107 rfl rfl gar_202 q4 ?_
    refine gg_al 108 0 rfl rfl l0 ?_
    refine gg_gr 111 202 rfl rfl rfl gcl_187 rfl ?_
    refine gg_il 112 2 rfl rfl l2 ?_
    refine gg_ial 113 rfl rfl gar_202 q4 ?_
    exact gg_ir rfl
  · refine gg_ci 79 0 rfl rfl ?_
    exact gg_ir rfl
theorem gt_154_21 (x1 : Int) (x2 : Int) (y0 : Int) {lo : gh_L} (l0 : lo.lookup 0 = some (vr 187)) (l1 : lo.lookup 1 = some (vi x1)) (l2 : lo.lookup 2 = some (vi x2)) {σ : gb_S} : gb_G (fx_154_21 x1 x2 y0 σ) 2 8 (some .int) (fun _ _ => none) gk_154 c0 eI 21 lo [vi y0] σ := by
  rw [fx_154_21]
  refine gg_s 22 rfl rfl ?_
  refine gg_al 23 0 rfl rfl (gl1 rfl rfl l0) ?_
  refine gg_il 24 3 rfl rfl gs1 ?_
  refine gg_il 25 3 rfl rfl gs1 ?_
  refine gg_q (fun q1 => ?_)
  refine gg_zeq 71 28 rfl rfl rfl rfl q1 ?_ ?_
  · refine gg_ci 72 0 rfl rfl ?_
    exact gt_154_72 x1 x2 0 y0 (gl1 rfl rfl l0) (gl1 rfl rfl l1) (gl1 rfl rfl l2)
  · refine gg_al 29 0 rfl rfl (gl1 rfl rfl l0) ?_
    refine gg_gr 32 189 rfl rfl rfl gcl_187 rfl ?_
    refine gg_il 33 1 rfl rfl (gl1 rfl rfl l1) ?_
    refine gg_q (fun q2 => ?_)
    refine gg_ial 34 rfl rfl gar_189 q2 ?_
    refine gg_ci 35 (-1) rfl rfl ?_
    refine gg_q (fun q3 => ?_)
    refine gg_ine 71 38 rfl rfl rfl rfl q3 (gRl rfl) ?_ ?_
    · refine gg_ci 72 0 rfl rfl ?_
      exact gt_154_72 x1 x2 0 y0 (gl1 rfl rfl l0) (gl1 rfl rfl l1) (gl1 rfl rfl l2)
    · refine gg_al 39 0 rfl rfl (gl1 rfl rfl l0) ?_
      refine gg_gr 42 189 rfl rfl rfl gcl_187 rfl ?_
      refine gg_il 43 2 rfl rfl (gl1 rfl rfl l2) ?_
      refine gg_q (fun q4 => ?_)
      refine gg_ial 44 rfl rfl gar_189 q4 ?_
      refine gg_ci 45 (-1) rfl rfl ?_
      refine gg_q (fun q5 => ?_)
      refine gg_ieq 71 48 rfl rfl rfl rfl q5 (gRl rfl) ?_ ?_
      · refine gg_ci 72 0 rfl rfl ?_
        exact gt_154_72 x1 x2 0 y0 (gl1 rfl rfl l0) (gl1 rfl rfl l1) (gl1 rfl rfl l2)
      · refine gg_al 49 0 rfl rfl (gl1 rfl rfl l0) ?_
        refine gg_gr 52 198 rfl rfl rfl gcl_187 rfl ?_
        refine gg_il 53 2 rfl rfl (gl1 rfl rfl l2) ?_
        refine gg_bal 54 rfl rfl gar_198 q4 ?_
        refine gg_q (fun q6 => ?_)
        refine gg_zne 71 57 rfl rfl rfl rfl q6 ?_ ?_
        · refine gg_ci 72 0 rfl rfl ?_
          exact gt_154_72 x1 x2 0 y0 (gl1 rfl rfl l0) (gl1 rfl rfl l1) (gl1 rfl rfl l2)
        · refine gg_al 58 0 rfl rfl (gl1 rfl rfl l0) ?_
          refine gg_il 59 1 rfl rfl (gl1 rfl rfl l1) ?_
          refine gg_il 60 2 rfl rfl (gl1 rfl rfl l2) ?_
          refine gg_cI 63 rfl (gm_153 _ _) (Nat.le_of_ble_eq_true rfl) (gb_vs rfl rfl rfl rfl rfl gcl_187 rfl rfl rfl) rfl (fun _ => rfl) (fun _ => rfl) (fun r7 s8 => ?_)
          refine gg_ci 64 (-1) rfl rfl ?_
          refine gg_q (fun q9 => ?_)
          refine gg_ine 71 67 rfl rfl rfl rfl q9 (gRl rfl) ?_ ?_
          · refine gg_ci 72 0 rfl rfl ?_
            exact gt_154_72 x1 x2 0 y0 (gl1 rfl rfl l0) (gl1 rfl rfl l1) (gl1 rfl rfl l2)
          · refine gg_ci 68 1 rfl rfl ?_
            refine gg_go 72 rfl rfl rfl ?_
            exact gt_154_72 x1 x2 1 y0 (gl1 rfl rfl l0) (gl1 rfl rfl l1) (gl1 rfl rfl l2)
theorem gm_154 (x1 : Int) (x2 : Int) {σ : gb_S} : gb_M (fx_154 x1 x2 σ) 3 c0 eI 154 [vr 187, vi x1, vi x2] σ := by
  rw [fx_154]
  refine gg_m (own := 8) (rt := (some .int)) (hnd := fun _ _ => none) (K := gk_154) (δ := 2) rfl rfl ?_
  refine gg_al 1 0 rfl rfl rfl ?_
  refine gg_il 2 1 rfl rfl rfl ?_
  refine gg_cI 5 rfl (gm_131 _) (Nat.le_of_ble_eq_true rfl) (gb_vs rfl rfl rfl rfl rfl gcl_187 rfl rfl rfl) rfl (fun _ => rfl) (fun _ => rfl) (fun r1 s2 => ?_)
  refine gg_q (fun q3 => ?_)
  refine gg_zeq 20 8 rfl rfl rfl rfl q3 ?_ ?_
  · refine gg_ci 21 0 rfl rfl ?_
    exact gt_154_21 x1 x2 0 rfl rfl rfl
  · refine gg_al 9 0 rfl rfl rfl ?_
    refine gg_il 10 2 rfl rfl rfl ?_
    refine gg_cI 13 rfl (gm_131 _) (Nat.le_of_ble_eq_true rfl) (gb_vs rfl rfl rfl rfl rfl gcl_187 rfl rfl rfl) rfl (fun _ => rfl) (fun _ => rfl) (fun r4 s5 => ?_)
    refine gg_q (fun q6 => ?_)
    refine gg_zeq 20 16 rfl rfl rfl rfl q6 ?_ ?_
    · refine gg_ci 21 0 rfl rfl ?_
      exact gt_154_21 x1 x2 0 rfl rfl rfl
    · refine gg_ci 17 1 rfl rfl ?_
      refine gg_go 21 rfl rfl rfl ?_
      exact gt_154_21 x1 x2 1 rfl rfl rfl
/-- TreeclerkModel.claims -/
def fx_155 (x1 : Int) (σ : gb_S) : Option gb_P :=
  gc (fx_131 x1 σ) (fun r1 s2 =>
  gc (fx_127 r1 s2) (fun r3 s4 =>
  gq (gR r3) (
  (if r3 = 0 then
    some (.inl 0, s4)
  else
    gq (0 ≤ x1 ∧ x1 < 14) (
    some (.inl (s4 202 x1.toNat), s4))))))
theorem gm_155 (x1 : Int) {σ : gb_S} : gb_M (fx_155 x1 σ) 3 c0 eI 155 [vr 187, vi x1] σ := by
  rw [fx_155]
  refine gg_m (own := 8) (rt := (some .int)) (hnd := fun _ _ => none) (K := gk_155) (δ := 2) rfl rfl ?_
  refine gg_al 1 0 rfl rfl rfl ?_
  refine gg_al 2 0 rfl rfl rfl ?_
  refine gg_il 3 1 rfl rfl rfl ?_
  refine gg_cI 6 rfl (gm_131 _) (Nat.le_of_ble_eq_true rfl) (gb_vs rfl rfl rfl rfl rfl gcl_187 rfl rfl rfl) rfl (fun _ => rfl) (fun _ => rfl) (fun r1 s2 => ?_)
  refine gg_cI 9 rfl (gm_127 _) (Nat.le_of_ble_eq_true rfl) (gb_vs rfl rfl rfl rfl rfl gcl_187 rfl rfl rfl) rfl (fun _ => rfl) (fun _ => rfl) (fun r3 s4 => ?_)
  refine gg_q (fun q5 => ?_)
  refine gg_zeq 21 12 rfl rfl rfl rfl q5 ?_ ?_
  · refine gg_ci 22 0 rfl rfl ?_
    exact gg_ir rfl
  · refine gg_al 13 0 rfl rfl rfl ?_
    refine gg_gr 16 202 rfl rfl rfl gcl_187 rfl ?_
    refine gg_il 17 1 rfl rfl rfl ?_
    refine gg_q (fun q6 => ?_)
    refine gg_ial 18 rfl rfl gar_202 q6 ?_
    refine gg_go 22 rfl rfl rfl ?_
    exact gg_ir rfl
/-- TreeclerkModel.does -/
def fx_180 (x1 : Int) (x2 : Int) (x3 : Int) (x4 : Int) (x5 : Int) (σ : gb_S) : Option gb_P :=
  gq (0 ≤ (σ 187 25) ∧ (σ 187 25) < 140) (
  gq (0 ≤ ((gb_up σ 204 (σ 187 25).toNat x1) 187 25) ∧ ((gb_up σ 204 (σ 187 25).toNat x1) 187 25) < 140) (
  gq (0 ≤ ((gb_up (gb_up σ 204 (σ 187 25).toNat x1) 205 ((gb_up σ 204 (σ 187 25).toNat x1) 187 25).toNat x2) 187 25) ∧ ((gb_up (gb_up σ 204 (σ 187 25).toNat x1) 205 ((gb_up σ 204 (σ 187 25).toNat x1) 187 25).toNat x2) 187 25) < 140) (
  gq (0 ≤ ((gb_up (gb_up (gb_up σ 204 (σ 187 25).toNat x1) 205 ((gb_up σ 204 (σ 187 25).toNat x1) 187 25).toNat x2) 206 ((gb_up (gb_up σ 204 (σ 187 25).toNat x1) 205 ((gb_up σ 204 (σ 187 25).toNat x1) 187 25).toNat x2) 187 25).toNat x3) 187 25) ∧ ((gb_up (gb_up (gb_up σ 204 (σ 187 25).toNat x1) 205 ((gb_up σ 204 (σ 187 25).toNat x1) 187 25).toNat x2) 206 ((gb_up (gb_up σ 204 (σ 187 25).toNat x1) 205 ((gb_up σ 204 (σ 187 25).toNat x1) 187 25).toNat x2) 187 25).toNat x3) 187 25) < 140) (
  gq (0 ≤ ((gb_up (gb_up (gb_up (gb_up σ 204 (σ 187 25).toNat x1) 205 ((gb_up σ 204 (σ 187 25).toNat x1) 187 25).toNat x2) 206 ((gb_up (gb_up σ 204 (σ 187 25).toNat x1) 205 ((gb_up σ 204 (σ 187 25).toNat x1) 187 25).toNat x2) 187 25).toNat x3) 207 ((gb_up (gb_up (gb_up σ 204 (σ 187 25).toNat x1) 205 ((gb_up σ 204 (σ 187 25).toNat x1) 187 25).toNat x2) 206 ((gb_up (gb_up σ 204 (σ 187 25).toNat x1) 205 ((gb_up σ 204 (σ 187 25).toNat x1) 187 25).toNat x2) 187 25).toNat x3) 187 25).toNat x4) 187 25) ∧ ((gb_up (gb_up (gb_up (gb_up σ 204 (σ 187 25).toNat x1) 205 ((gb_up σ 204 (σ 187 25).toNat x1) 187 25).toNat x2) 206 ((gb_up (gb_up σ 204 (σ 187 25).toNat x1) 205 ((gb_up σ 204 (σ 187 25).toNat x1) 187 25).toNat x2) 187 25).toNat x3) 207 ((gb_up (gb_up (gb_up σ 204 (σ 187 25).toNat x1) 205 ((gb_up σ 204 (σ 187 25).toNat x1) 187 25).toNat x2) 206 ((gb_up (gb_up σ 204 (σ 187 25).toNat x1) 205 ((gb_up σ 204 (σ 187 25).toNat x1) 187 25).toNat x2) 187 25).toNat x3) 187 25).toNat x4) 187 25) < 140) (
  some (.inl 0, (gb_up (gb_up (gb_up (gb_up (gb_up (gb_up σ 204 (σ 187 25).toNat x1) 205 ((gb_up σ 204 (σ 187 25).toNat x1) 187 25).toNat x2) 206 ((gb_up (gb_up σ 204 (σ 187 25).toNat x1) 205 ((gb_up σ 204 (σ 187 25).toNat x1) 187 25).toNat x2) 187 25).toNat x3) 207 ((gb_up (gb_up (gb_up σ 204 (σ 187 25).toNat x1) 205 ((gb_up σ 204 (σ 187 25).toNat x1) 187 25).toNat x2) 206 ((gb_up (gb_up σ 204 (σ 187 25).toNat x1) 205 ((gb_up σ 204 (σ 187 25).toNat x1) 187 25).toNat x2) 187 25).toNat x3) 187 25).toNat x4) 208 ((gb_up (gb_up (gb_up (gb_up σ 204 (σ 187 25).toNat x1) 205 ((gb_up σ 204 (σ 187 25).toNat x1) 187 25).toNat x2) 206 ((gb_up (gb_up σ 204 (σ 187 25).toNat x1) 205 ((gb_up σ 204 (σ 187 25).toNat x1) 187 25).toNat x2) 187 25).toNat x3) 207 ((gb_up (gb_up (gb_up σ 204 (σ 187 25).toNat x1) 205 ((gb_up σ 204 (σ 187 25).toNat x1) 187 25).toNat x2) 206 ((gb_up (gb_up σ 204 (σ 187 25).toNat x1) 205 ((gb_up σ 204 (σ 187 25).toNat x1) 187 25).toNat x2) 187 25).toNat x3) 187 25).toNat x4) 187 25).toNat x5) 187 25 (((gb_up (gb_up (gb_up (gb_up (gb_up σ 204 (σ 187 25).toNat x1) 205 ((gb_up σ 204 (σ 187 25).toNat x1) 187 25).toNat x2) 206 ((gb_up (gb_up σ 204 (σ 187 25).toNat x1) 205 ((gb_up σ 204 (σ 187 25).toNat x1) 187 25).toNat x2) 187 25).toNat x3) 207 ((gb_up (gb_up (gb_up σ 204 (σ 187 25).toNat x1) 205 ((gb_up σ 204 (σ 187 25).toNat x1) 187 25).toNat x2) 206 ((gb_up (gb_up σ 204 (σ 187 25).toNat x1) 205 ((gb_up σ 204 (σ 187 25).toNat x1) 187 25).toNat x2) 187 25).toNat x3) 187 25).toNat x4) 208 ((gb_up (gb_up (gb_up (gb_up σ 204 (σ 187 25).toNat x1) 205 ((gb_up σ 204 (σ 187 25).toNat x1) 187 25).toNat x2) 206 ((gb_up (gb_up σ 204 (σ 187 25).toNat x1) 205 ((gb_up σ 204 (σ 187 25).toNat x1) 187 25).toNat x2) 187 25).toNat x3) 207 ((gb_up (gb_up (gb_up σ 204 (σ 187 25).toNat x1) 205 ((gb_up σ 204 (σ 187 25).toNat x1) 187 25).toNat x2) 206 ((gb_up (gb_up σ 204 (σ 187 25).toNat x1) 205 ((gb_up σ 204 (σ 187 25).toNat x1) 187 25).toNat x2) 187 25).toNat x3) 187 25).toNat x4) 187 25).toNat x5) 187 25) + 1))))))))
theorem gm_180 (x1 : Int) (x2 : Int) (x3 : Int) (x4 : Int) (x5 : Int) {σ : gb_S} : gb_M (fx_180 x1 x2 x3 x4 x5 σ) 1 c0 eV 180 [vr 187, vi x1, vi x2, vi x3, vi x4, vi x5] σ := by
  rw [fx_180]
  refine gg_m (own := 8) (rt := none) (hnd := fun _ _ => none) (K := gk_180) (δ := 0) rfl rfl ?_
  refine gg_al 1 0 rfl rfl rfl ?_
  refine gg_gr 4 204 rfl rfl rfl gcl_187 rfl ?_
  refine gg_al 5 0 rfl rfl rfl ?_
  refine gg_gi 8 rfl rfl rfl gcl_187 rfl ?_
  refine gg_il 9 1 rfl rfl rfl ?_
  refine gg_q (fun q1 => ?_)
  refine gg_ias 10 rfl rfl gar_204 q1 ?_
  refine gg_al 11 0 rfl rfl rfl ?_
  refine gg_gr 14 205 rfl rfl rfl gcl_187 rfl ?_
  refine gg_al 15 0 rfl rfl rfl ?_
  refine gg_gi 18 rfl rfl rfl gcl_187 rfl ?_
  refine gg_il 19 2 rfl rfl rfl ?_
  refine gg_q (fun q2 => ?_)
  refine gg_ias 20 rfl rfl gar_205 q2 ?_
  refine gg_al 21 0 rfl rfl rfl ?_
  refine gg_gr 24 206 rfl rfl rfl gcl_187 rfl ?_
  refine gg_al 25 0 rfl rfl rfl ?_
  refine gg_gi 28 rfl rfl rfl gcl_187 rfl ?_
  refine gg_il 29 3 rfl rfl rfl ?_
  refine gg_q (fun q3 => ?_)
  refine gg_ias 30 rfl rfl gar_206 q3 ?_
  refine gg_al 31 0 rfl rfl rfl ?_
  refine gg_gr 34 207 rfl rfl rfl gcl_187 rfl ?_
  refine gg_al 35 0 rfl rfl rfl ?_
  refine gg_gi 38 rfl rfl rfl gcl_187 rfl ?_
  refine gg_il 40 4 rfl rfl rfl ?_
  refine gg_q (fun q4 => ?_)
  refine gg_ias 41 rfl rfl gar_207 q4 ?_
  refine gg_al 42 0 rfl rfl rfl ?_
  refine gg_gr 45 208 rfl rfl rfl gcl_187 rfl ?_
  refine gg_al 46 0 rfl rfl rfl ?_
  refine gg_gi 49 rfl rfl rfl gcl_187 rfl ?_
  refine gg_il 51 5 rfl rfl rfl ?_
  refine gg_q (fun q5 => ?_)
  refine gg_ias 52 rfl rfl gar_208 q5 ?_
  refine gg_al 53 0 rfl rfl rfl ?_
  refine gg_s 54 rfl rfl ?_
  refine gg_gi 57 rfl rfl rfl gcl_187 rfl ?_
  refine gg_ci 58 1 rfl rfl ?_
  refine gg_add 59 rfl rfl ?_
  refine gg_pf 62 rfl rfl rfl gcl_187 rfl ⟨rfl, rfl⟩ ?_
  exact gg_vr rfl
def fx_156_53 (k : Nat) (x1 : Int) (x3 : Int) (σ : gb_S) : Option gb_P := match k with
  | 0 => none
  | k + 1 =>
    gq (gR x3) (
    gq (gR (σ 187 3)) (
    (if x3 < (σ 187 3) then
      gq (0 ≤ x1 ∧ x1 < 14) (
      gq (0 ≤ x3 ∧ x3 < 14) (
      gq (gR (σ 189 x3.toNat)) (
      (if (σ 189 x3.toNat) = (-1) then
        fx_156_53 k x1 (x3 + 1) (gb_up σ 199 x1.toNat (gb_or (σ 199 x1.toNat) (gb_shl 1 x3)))
      else
        fx_156_53 k x1 (x3 + 1) (gb_up σ 199 x1.toNat (gb_or (σ 199 x1.toNat) 0))))))
    else
      gq (0 ≤ x1 ∧ x1 < 14) (
      gc (fx_180 2 x1 (-1) 0 60 (gb_up (gb_up σ 200 x1.toNat (σ 187 3)) 198 x1.toNat 1)) (fun _ s5 =>
      gc (fx_169 x1 s5) (fun r6 s7 =>
      some (.inl r6, s7)))))))
def fx_156_36 (x1 : Int) (y0 : Int) (y1 : Int) (σ : gb_S) : Option gb_P :=
  gc (fx_128 y1 y0 σ) (fun r1 s2 =>
  gq (gR r1) (
  (if r1 = 0 then
    some (.inl 0, s2)
  else
    gq (0 ≤ x1 ∧ x1 < 14) (
    fx_156_53 gFU x1 0 (gb_up s2 199 x1.toNat 0)))))
/-- TreeclerkModel.close -/
def fx_156 (x1 : Int) (σ : gb_S) : Option gb_P :=
  gc (fx_131 x1 σ) (fun r1 s2 =>
  gq (gR r1) (
  (if r1 = 0 then
    fx_156_36 x1 0 r1 s2
  else
    gq (0 ≤ x1 ∧ x1 < 14) (
    gq (gR (s2 189 x1.toNat)) (
    (if (s2 189 x1.toNat) = (-1) then
      fx_156_36 x1 0 r1 s2
    else
      gq (gR (s2 198 x1.toNat)) (
      (if (s2 198 x1.toNat) = 0 then
        fx_156_36 x1 1 r1 s2
      else
        fx_156_36 x1 0 r1 s2))))))))
theorem gt_156_53 (k : Nat) : ∀ (x1 : Int) (x3 : Int) {lo : gh_L} (l0 : lo.lookup 0 = some (vr 187)) (l1 : lo.lookup 1 = some (vi x1)) (l3 : lo.lookup 3 = some (vi x3)) {σ : gb_S}, gb_G (fx_156_53 k x1 x3 σ) 6 8 (some .int) (fun _ _ => none) gk_156 c0 eI 53 lo [] σ := by
  induction k with
  | zero => intros; exact gg_n
  | succ k ih =>
    intro x1 x3 lo l0 l1 l3 σ
    rw [fx_156_53]
    refine gg_il 54 3 rfl rfl l3 ?_
    refine gg_al 55 0 rfl rfl l0 ?_
    refine gg_gi 58 rfl rfl rfl gcl_187 rfl ?_
    refine gg_q (fun q1 => ?_)
    refine gg_q (fun q2 => ?_)
    refine gg_ige 93 61 rfl rfl rfl rfl q1 q2 ?_ ?_
    · refine gg_al 94 0 rfl rfl l0 ?_
      refine gg_gr 97 200 rfl rfl rfl gcl_187 rfl ?_
      refine gg_il 98 1 rfl rfl l1 ?_
      refine gg_al 99 0 rfl rfl l0 ?_
      refine gg_gi 102 rfl rfl rfl gcl_187 rfl ?_
      refine gg_q (fun q3 => ?_)
      refine gg_ias 103 rfl rfl gar_200 q3 ?_
      refine gg_al 104 0 rfl rfl l0 ?_
      refine gg_gr 107 198 rfl rfl rfl gcl_187 rfl ?_
      refine gg_il 108 1 rfl rfl l1 ?_
      refine gg_ci 109 1 rfl rfl ?_
      refine gg_bas 110 rfl rfl gar_198 q3 (Or.inr rfl) ?_
      refine gg_al 111 0 rfl rfl l0 ?_
      refine gg_ci 112 2 rfl rfl ?_
      refine gg_il 113 1 rfl rfl l1 ?_
      refine gg_ci 114 (-1) rfl rfl ?_
      refine gg_ci 115 0 rfl rfl ?_
      refine gg_ci 117 60 rfl rfl ?_
      refine gg_cV 120 rfl (gm_180 _ _ _ _ _) (Nat.le_of_ble_eq_true rfl) (gb_vs rfl rfl rfl rfl rfl gcl_187 rfl rfl rfl) rfl (fun _ => rfl) (fun _ => rfl) (fun s5 => ?_)
      refine gg_al 121 0 rfl rfl l0 ?_
      refine gg_il 122 1 rfl rfl l1 ?_
      refine gg_cI 125 rfl (gm_169 _) (Nat.le_of_ble_eq_true rfl) (gb_vs rfl rfl rfl rfl rfl gcl_187 rfl rfl rfl) rfl (fun _ => rfl) (fun _ => rfl) (fun r6 s7 => ?_)
      exact gg_ir rfl
    · refine gg_al 62 0 rfl rfl l0 ?_
      refine gg_gr 65 199 rfl rfl rfl gcl_187 rfl ?_
      refine gg_il 66 1 rfl rfl l1 ?_
      refine gg_s 67 rfl rfl ?_
      refine gg_q (fun q8 => ?_)
      refine gg_ial 68 rfl rfl gar_199 q8 ?_
      refine gg_al 69 0 rfl rfl l0 ?_
      refine gg_gr 72 189 rfl rfl rfl gcl_187 rfl ?_
      refine gg_il 73 3 rfl rfl l3 ?_
      refine gg_q (fun q9 => ?_)
      refine gg_ial 74 rfl rfl gar_189 q9 ?_
      refine gg_ci 75 (-1) rfl rfl ?_
      refine gg_q (fun q10 => ?_)
      refine gg_ine 84 78 rfl rfl rfl rfl q10 (gRl rfl) ?_ ?_
      · refine gg_ci 85 0 rfl rfl ?_
        refine gg_or 86 rfl rfl ?_
        refine gg_ias 87 rfl rfl gar_199 q8 ?_
        refine gg_inc 90 rfl rfl l3 ?_
        refine gg_go 53 rfl rfl rfl ?_
        exact ih x1 (x3 + 1) (gl1 rfl rfl l0) (gl1 rfl rfl l1) gs1
      · refine gg_ci 79 1 rfl rfl ?_
        refine gg_il 80 3 rfl rfl l3 ?_
        refine gg_shl 81 rfl rfl ?_
        refine gg_go 85 rfl rfl rfl ?_
        refine gg_or 86 rfl rfl ?_
        refine gg_ias 87 rfl rfl gar_199 q8 ?_
        refine gg_inc 90 rfl rfl l3 ?_
        refine gg_go 53 rfl rfl rfl ?_
        exact ih x1 (x3 + 1) (gl1 rfl rfl l0) (gl1 rfl rfl l1) gs1
theorem gt_156_36 (x1 : Int) (y0 : Int) (y1 : Int) {lo : gh_L} (l0 : lo.lookup 0 = some (vr 187)) (l1 : lo.lookup 1 = some (vi x1)) {σ : gb_S} : gb_G (fx_156_36 x1 y0 y1 σ) 6 8 (some .int) (fun _ _ => none) gk_156 c0 eI 36 lo [vi y0, vi y1, vr 187] σ := by
  rw [fx_156_36]
  refine gg_cI 39 rfl (gm_128 _ _) (Nat.le_of_ble_eq_true rfl) (gb_vs rfl rfl rfl rfl rfl gcl_187 rfl rfl rfl) rfl (fun _ => rfl) (fun _ => rfl) (fun r1 s2 => ?_)
  refine gg_q (fun q3 => ?_)
  refine gg_zne 44 42 rfl rfl rfl rfl q3 ?_ ?_
  · refine gg_al 45 0 rfl rfl l0 ?_
    refine gg_gr 48 199 rfl rfl rfl gcl_187 rfl ?_
    refine gg_il 49 1 rfl rfl l1 ?_
    refine gg_ci 50 0 rfl rfl ?_
    refine gg_q (fun q4 => ?_)
    refine gg_ias 51 rfl rfl gar_199 q4 ?_
    refine gg_ci 52 0 rfl rfl ?_
    refine gg_s 53 rfl rfl ?_
    exact gt_156_53 gFU x1 0 (gl1 rfl rfl l0) (gl1 rfl rfl l1) gs1
  · refine gg_ci 43 0 rfl rfl ?_
    exact gg_ir rfl
theorem gm_156 (x1 : Int) {σ : gb_S} : gb_M (fx_156 x1 σ) 7 c0 eI 156 [vr 187, vi x1] σ := by
  rw [fx_156]
  refine gg_m (own := 8) (rt := (some .int)) (hnd := fun _ _ => none) (K := gk_156) (δ := 6) rfl rfl ?_
  refine gg_al 1 0 rfl rfl rfl ?_
  refine gg_il 2 1 rfl rfl rfl ?_
  refine gg_cI 5 rfl (gm_131 _) (Nat.le_of_ble_eq_true rfl) (gb_vs rfl rfl rfl rfl rfl gcl_187 rfl rfl rfl) rfl (fun _ => rfl) (fun _ => rfl) (fun r1 s2 => ?_)
  refine gg_s 6 rfl rfl ?_
  refine gg_al 7 0 rfl rfl (gl1 rfl rfl rfl) ?_
  refine gg_il 8 2 rfl rfl gs1 ?_
  refine gg_il 9 2 rfl rfl gs1 ?_
  refine gg_q (fun q3 => ?_)
  refine gg_zeq 35 12 rfl rfl rfl rfl q3 ?_ ?_
  · refine gg_ci 36 0 rfl rfl ?_
    exact gt_156_36 x1 0 r1 (gl1 rfl rfl rfl) (gl1 rfl rfl rfl)
  · refine gg_al 13 0 rfl rfl (gl1 rfl rfl rfl) ?_
    refine gg_gr 16 189 rfl rfl rfl gcl_187 rfl ?_
    refine gg_il 17 1 rfl rfl (gl1 rfl rfl rfl) ?_
    refine gg_q (fun q4 => ?_)
    refine gg_ial 18 rfl rfl gar_189 q4 ?_
    refine gg_ci 19 (-1) rfl rfl ?_
    refine gg_q (fun q5 => ?_)
    refine gg_ieq 35 22 rfl rfl rfl rfl q5 (gRl rfl) ?_ ?_
    · refine gg_ci 36 0 rfl rfl ?_
      exact gt_156_36 x1 0 r1 (gl1 rfl rfl rfl) (gl1 rfl rfl rfl)
    · refine gg_al 23 0 rfl rfl (gl1 rfl rfl rfl) ?_
      refine gg_gr 26 198 rfl rfl rfl gcl_187 rfl ?_
      refine gg_il 27 1 rfl rfl (gl1 rfl rfl rfl) ?_
      refine gg_bal 28 rfl rfl gar_198 q4 ?_
      refine gg_q (fun q6 => ?_)
      refine gg_zne 35 31 rfl rfl rfl rfl q6 ?_ ?_
      · refine gg_ci 36 0 rfl rfl ?_
        exact gt_156_36 x1 0 r1 (gl1 rfl rfl rfl) (gl1 rfl rfl rfl)
      · refine gg_ci 32 1 rfl rfl ?_
        refine gg_go 36 rfl rfl rfl ?_
        exact gt_156_36 x1 1 r1 (gl1 rfl rfl rfl) (gl1 rfl rfl rfl)
/-- TreeclerkModel.isClosed -/
def fx_157 (x1 : Int) (σ : gb_S) : Option gb_P :=
  gc (fx_131 x1 σ) (fun r1 s2 =>
  gc (fx_127 r1 s2) (fun r3 s4 =>
  gq (gR r3) (
  (if r3 = 0 then
    some (.inl 0, s4)
  else
    gq (0 ≤ x1 ∧ x1 < 14) (
    gq (gR (s4 198 x1.toNat)) (
    (if (s4 198 x1.toNat) = 0 then
      some (.inl 0, s4)
    else
      some (.inl 1, s4))))))))
theorem gm_157 (x1 : Int) {σ : gb_S} : gb_M (fx_157 x1 σ) 3 c0 eI 157 [vr 187, vi x1] σ := by
  rw [fx_157]
  refine gg_m (own := 8) (rt := (some .boolean)) (hnd := fun _ _ => none) (K := gk_157) (δ := 2) rfl rfl ?_
  refine gg_al 1 0 rfl rfl rfl ?_
  refine gg_al 2 0 rfl rfl rfl ?_
  refine gg_il 3 1 rfl rfl rfl ?_
  refine gg_cI 6 rfl (gm_131 _) (Nat.le_of_ble_eq_true rfl) (gb_vs rfl rfl rfl rfl rfl gcl_187 rfl rfl rfl) rfl (fun _ => rfl) (fun _ => rfl) (fun r1 s2 => ?_)
  refine gg_cI 9 rfl (gm_127 _) (Nat.le_of_ble_eq_true rfl) (gb_vs rfl rfl rfl rfl rfl gcl_187 rfl rfl rfl) rfl (fun _ => rfl) (fun _ => rfl) (fun r3 s4 => ?_)
  refine gg_q (fun q5 => ?_)
  refine gg_zeq 25 12 rfl rfl rfl rfl q5 ?_ ?_
  · refine gg_ci 26 0 rfl rfl ?_
    exact gg_zr rfl (Or.inl rfl)
  · refine gg_al 13 0 rfl rfl rfl ?_
    refine gg_gr 16 198 rfl rfl rfl gcl_187 rfl ?_
    refine gg_il 17 1 rfl rfl rfl ?_
    refine gg_q (fun q6 => ?_)
    refine gg_bal 18 rfl rfl gar_198 q6 ?_
    refine gg_q (fun q7 => ?_)
    refine gg_zeq 25 21 rfl rfl rfl rfl q7 ?_ ?_
    · refine gg_ci 26 0 rfl rfl ?_
      exact gg_zr rfl (Or.inl rfl)
    · refine gg_ci 22 1 rfl rfl ?_
      refine gg_go 26 rfl rfl rfl ?_
      exact gg_zr rfl (Or.inr rfl)
def fx_173_43 (x2 : Int) (y0 : Int) (y1 : Int) (σ : gb_S) : Option gb_P :=
  gc (fx_128 y1 y0 σ) (fun r1 s2 =>
  gq (gR r1) (
  (if r1 = 0 then
    gq (r1 = 0 ∨ r1 = 1) (
    some (.inl r1, s2))
  else
    gc (fx_168 x2 s2) (fun _ s6 =>
    gq (r1 = 0 ∨ r1 = 1) (
    some (.inl r1, s6))))))
def fx_173_21 (x2 : Int) (y0 : Int) (σ : gb_S) : Option gb_P :=
  gq (gR y0) (
  (if y0 = 0 then
    fx_173_43 x2 0 y0 σ
  else
    gq (0 ≤ x2 ∧ x2 < 14) (
    gq (gR (σ 189 x2.toNat)) (
    (if (σ 189 x2.toNat) = (-1) then
      fx_173_43 x2 0 y0 σ
    else
      fx_173_43 x2 1 y0 σ)))))
/-- TreeclerkModel.isEstate -/
def fx_173 (x1 : Int) (x2 : Int) (σ : gb_S) : Option gb_P :=
  gc (fx_131 x1 σ) (fun r1 s2 =>
  gq (gR r1) (
  (if r1 = 0 then
    fx_173_21 x2 0 s2
  else
    gc (fx_131 x2 s2) (fun r4 s5 =>
    gq (gR r4) (
    (if r4 = 0 then
      fx_173_21 x2 0 s5
    else
      fx_173_21 x2 1 s5))))))
theorem gt_173_43 (x2 : Int) (y0 : Int) (y1 : Int) {lo : gh_L} (l0 : lo.lookup 0 = some (vr 187)) (l2 : lo.lookup 2 = some (vi x2)) {σ : gb_S} : gb_G (fx_173_43 x2 y0 y1 σ) 5 8 (some .boolean) (fun _ _ => none) gk_173 c0 eI 43 lo [vi y0, vi y1, vr 187] σ := by
  rw [fx_173_43]
  refine gg_cI 46 rfl (gm_128 _ _) (Nat.le_of_ble_eq_true rfl) (gb_vs rfl rfl rfl rfl rfl gcl_187 rfl rfl rfl) rfl (fun _ => rfl) (fun _ => rfl) (fun r1 s2 => ?_)
  refine gg_s 48 rfl rfl ?_
  refine gg_il 50 4 rfl rfl gs1 ?_
  refine gg_q (fun q3 => ?_)
  refine gg_zeq 58 53 rfl rfl rfl rfl q3 ?_ ?_
  · refine gg_il 60 4 rfl rfl gs1 ?_
    refine gg_q (fun q4 => ?_)
    exact gg_zr rfl q4
  · refine gg_al 54 0 rfl rfl (gl1 rfl rfl l0) ?_
    refine gg_il 55 2 rfl rfl (gl1 rfl rfl l2) ?_
    refine gg_cV 58 rfl (gm_168 _) (Nat.le_of_ble_eq_true rfl) (gb_vs rfl rfl rfl rfl rfl gcl_187 rfl rfl rfl) rfl (fun _ => rfl) (fun _ => rfl) (fun s6 => ?_)
    refine gg_il 60 4 rfl rfl gs1 ?_
    refine gg_q (fun q7 => ?_)
    exact gg_zr rfl q7
theorem gt_173_21 (x2 : Int) (y0 : Int) {lo : gh_L} (l0 : lo.lookup 0 = some (vr 187)) (l2 : lo.lookup 2 = some (vi x2)) {σ : gb_S} : gb_G (fx_173_21 x2 y0 σ) 5 8 (some .boolean) (fun _ _ => none) gk_173 c0 eI 21 lo [vi y0] σ := by
  rw [fx_173_21]
  refine gg_s 22 rfl rfl ?_
  refine gg_al 23 0 rfl rfl (gl1 rfl rfl l0) ?_
  refine gg_il 24 3 rfl rfl gs1 ?_
  refine gg_il 25 3 rfl rfl gs1 ?_
  refine gg_q (fun q1 => ?_)
  refine gg_zeq 42 28 rfl rfl rfl rfl q1 ?_ ?_
  · refine gg_ci 43 0 rfl rfl ?_
    exact gt_173_43 x2 0 y0 (gl1 rfl rfl l0) (gl1 rfl rfl l2)
  · refine gg_al 29 0 rfl rfl (gl1 rfl rfl l0) ?_
    refine gg_gr 32 189 rfl rfl rfl gcl_187 rfl ?_
    refine gg_il 33 2 rfl rfl (gl1 rfl rfl l2) ?_
    refine gg_q (fun q2 => ?_)
    refine gg_ial 34 rfl rfl gar_189 q2 ?_
    refine gg_ci 35 (-1) rfl rfl ?_
    refine gg_q (fun q3 => ?_)
    refine gg_ieq 42 38 rfl rfl rfl rfl q3 (gRl rfl) ?_ ?_
    · refine gg_ci 43 0 rfl rfl ?_
      exact gt_173_43 x2 0 y0 (gl1 rfl rfl l0) (gl1 rfl rfl l2)
    · refine gg_ci 39 1 rfl rfl ?_
      refine gg_go 43 rfl rfl rfl ?_
      exact gt_173_43 x2 1 y0 (gl1 rfl rfl l0) (gl1 rfl rfl l2)
theorem gm_173 (x1 : Int) (x2 : Int) {σ : gb_S} : gb_M (fx_173 x1 x2 σ) 6 c0 eI 173 [vr 187, vi x1, vi x2] σ := by
  rw [fx_173]
  refine gg_m (own := 8) (rt := (some .boolean)) (hnd := fun _ _ => none) (K := gk_173) (δ := 5) rfl rfl ?_
  refine gg_al 1 0 rfl rfl rfl ?_
  refine gg_il 2 1 rfl rfl rfl ?_
  refine gg_cI 5 rfl (gm_131 _) (Nat.le_of_ble_eq_true rfl) (gb_vs rfl rfl rfl rfl rfl gcl_187 rfl rfl rfl) rfl (fun _ => rfl) (fun _ => rfl) (fun r1 s2 => ?_)
  refine gg_q (fun q3 => ?_)
  refine gg_zeq 20 8 rfl rfl rfl rfl q3 ?_ ?_
  · refine gg_ci 21 0 rfl rfl ?_
    exact gt_173_21 x2 0 rfl rfl
  · refine gg_al 9 0 rfl rfl rfl ?_
    refine gg_il 10 2 rfl rfl rfl ?_
    refine gg_cI 13 rfl (gm_131 _) (Nat.le_of_ble_eq_true rfl) (gb_vs rfl rfl rfl rfl rfl gcl_187 rfl rfl rfl) rfl (fun _ => rfl) (fun _ => rfl) (fun r4 s5 => ?_)
    refine gg_q (fun q6 => ?_)
    refine gg_zeq 20 16 rfl rfl rfl rfl q6 ?_ ?_
    · refine gg_ci 21 0 rfl rfl ?_
      exact gt_173_21 x2 0 rfl rfl
    · refine gg_ci 17 1 rfl rfl ?_
      refine gg_go 21 rfl rfl rfl ?_
      exact gt_173_21 x2 1 rfl rfl
/-- TreeclerkModel.shareAbove -/
def fx_174 (x1 : Int) (x2 : Int) (σ : gb_S) : Option gb_P :=
  gc (fx_173 x1 x2 σ) (fun r1 s2 =>
  gq (gR r1) (
  (if r1 = 0 then
    some (.inl 0, s2)
  else
    gq (0 ≤ x1 ∧ x1 < 14) (
    some (.inl (s2 216 x1.toNat), s2)))))
theorem gm_174 (x1 : Int) (x2 : Int) {σ : gb_S} : gb_M (fx_174 x1 x2 σ) 7 c0 eL 174 [vr 187, vi x1, vi x2] σ := by
  rw [fx_174]
  refine gg_m (own := 8) (rt := (some .long)) (hnd := fun _ _ => none) (K := gk_174) (δ := 6) rfl rfl ?_
  refine gg_al 1 0 rfl rfl rfl ?_
  refine gg_il 2 1 rfl rfl rfl ?_
  refine gg_il 3 2 rfl rfl rfl ?_
  refine gg_cI 6 rfl (gm_173 _ _) (Nat.le_of_ble_eq_true rfl) (gb_vs rfl rfl rfl rfl rfl gcl_187 rfl rfl rfl) rfl (fun _ => rfl) (fun _ => rfl) (fun r1 s2 => ?_)
  refine gg_q (fun q3 => ?_)
  refine gg_zeq 18 9 rfl rfl rfl rfl q3 ?_ ?_
  · refine gg_cl 19 0 rfl rfl ?_
    exact gg_lr rfl
  · refine gg_al 10 0 rfl rfl rfl ?_
    refine gg_gr 13 216 rfl rfl rfl gcl_187 rfl ?_
    refine gg_il 14 1 rfl rfl rfl ?_
    refine gg_q (fun q4 => ?_)
    refine gg_lal 15 rfl rfl gar_216 q4 ?_
    refine gg_go 19 rfl rfl rfl ?_
    exact gg_lr rfl
/-- TreeclerkModel.shareBelow -/
def fx_175 (x1 : Int) (x2 : Int) (σ : gb_S) : Option gb_P :=
  gc (fx_173 x1 x2 σ) (fun r1 s2 =>
  gq (gR r1) (
  (if r1 = 0 then
    some (.inl 0, s2)
  else
    gq (0 ≤ x1 ∧ x1 < 14) (
    some (.inl (s2 217 x1.toNat), s2)))))
theorem gm_175 (x1 : Int) (x2 : Int) {σ : gb_S} : gb_M (fx_175 x1 x2 σ) 7 c0 eL 175 [vr 187, vi x1, vi x2] σ := by
  rw [fx_175]
  refine gg_m (own := 8) (rt := (some .long)) (hnd := fun _ _ => none) (K := gk_175) (δ := 6) rfl rfl ?_
  refine gg_al 1 0 rfl rfl rfl ?_
  refine gg_il 2 1 rfl rfl rfl ?_
  refine gg_il 3 2 rfl rfl rfl ?_
  refine gg_cI 6 rfl (gm_173 _ _) (Nat.le_of_ble_eq_true rfl) (gb_vs rfl rfl rfl rfl rfl gcl_187 rfl rfl rfl) rfl (fun _ => rfl) (fun _ => rfl) (fun r1 s2 => ?_)
  refine gg_q (fun q3 => ?_)
  refine gg_zeq 18 9 rfl rfl rfl rfl q3 ?_ ?_
  · refine gg_cl 19 0 rfl rfl ?_
    exact gg_lr rfl
  · refine gg_al 10 0 rfl rfl rfl ?_
    refine gg_gr 13 217 rfl rfl rfl gcl_187 rfl ?_
    refine gg_il 14 1 rfl rfl rfl ?_
    refine gg_q (fun q4 => ?_)
    refine gg_lal 15 rfl rfl gar_217 q4 ?_
    refine gg_go 19 rfl rfl rfl ?_
    exact gg_lr rfl
/-- TreeclerkModel.shareAboveByWays -/
def fx_176 (x1 : Int) (x2 : Int) (σ : gb_S) : Option gb_P :=
  gc (fx_174 x1 x2 σ) (fun r1 s2 =>
  some (.inl r1, s2))
theorem gm_176 (x1 : Int) (x2 : Int) {σ : gb_S} : gb_M (fx_176 x1 x2 σ) 8 c0 eL 176 [vr 187, vi x1, vi x2] σ := by
  rw [fx_176]
  refine gg_m (own := 8) (rt := (some .long)) (hnd := fun _ _ => none) (K := gk_176) (δ := 7) rfl rfl ?_
  refine gg_al 1 0 rfl rfl rfl ?_
  refine gg_il 2 1 rfl rfl rfl ?_
  refine gg_il 3 2 rfl rfl rfl ?_
  refine gg_cLo 6 rfl (gm_174 _ _) (Nat.le_of_ble_eq_true rfl) (gb_vs rfl rfl rfl rfl rfl gcl_187 rfl rfl rfl) rfl (fun _ => rfl) (fun _ => rfl) (fun r1 s2 => ?_)
  exact gg_lr rfl
/-- TreeclerkModel.heirs -/
def fx_177 (x1 : Int) (σ : gb_S) : Option gb_P :=
  gc (fx_173 x1 x1 σ) (fun r1 s2 =>
  gq (gR r1) (
  (if r1 = 0 then
    some (.inl 0, s2)
  else
    gc (fx_169 x1 s2) (fun r4 s5 =>
    some (.inl r4, s5)))))
theorem gm_177 (x1 : Int) {σ : gb_S} : gb_M (fx_177 x1 σ) 7 c0 eI 177 [vr 187, vi x1] σ := by
  rw [fx_177]
  refine gg_m (own := 8) (rt := (some .int)) (hnd := fun _ _ => none) (K := gk_177) (δ := 6) rfl rfl ?_
  refine gg_al 1 0 rfl rfl rfl ?_
  refine gg_il 2 1 rfl rfl rfl ?_
  refine gg_il 3 1 rfl rfl rfl ?_
  refine gg_cI 6 rfl (gm_173 _ _) (Nat.le_of_ble_eq_true rfl) (gb_vs rfl rfl rfl rfl rfl gcl_187 rfl rfl rfl) rfl (fun _ => rfl) (fun _ => rfl) (fun r1 s2 => ?_)
  refine gg_q (fun q3 => ?_)
  refine gg_zeq 17 9 rfl rfl rfl rfl q3 ?_ ?_
  · refine gg_ci 18 0 rfl rfl ?_
    exact gg_ir rfl
  · refine gg_al 10 0 rfl rfl rfl ?_
    refine gg_il 11 1 rfl rfl rfl ?_
    refine gg_cI 14 rfl (gm_169 _) (Nat.le_of_ble_eq_true rfl) (gb_vs rfl rfl rfl rfl rfl gcl_187 rfl rfl rfl) rfl (fun _ => rfl) (fun _ => rfl) (fun r4 s5 => ?_)
    refine gg_go 18 rfl rfl rfl ?_
    exact gg_ir rfl
def fx_178_113 (k65 : Int → Int → Int → gb_S → Option gb_P) (x1 : Int) (x3 : Int) (y0 : Int) (y1 : Int) (σ : gb_S) : Option gb_P :=
  gq (0 ≤ x3 ∧ x3 < 30) (
  gq (0 ≤ (σ 194 x3.toNat) ∧ (σ 194 x3.toNat) < 30) (
  k65 x1 (y1 + y0) (x3 + 1) (gb_up (gb_up σ 193 (σ 194 x3.toNat).toNat 0) 187 29 1)))
def fx_178_65 (k : Nat) (x1 : Int) (x2 : Int) (x3 : Int) (σ : gb_S) : Option gb_P := match k with
  | 0 => none
  | k + 1 =>
    gq (gR x3) (
    gq (gR (σ 187 12)) (
    (if x3 < (σ 187 12) then
      gq (0 ≤ x3 ∧ x3 < 30) (
      gq (gR (σ 196 x3.toNat)) (
      (if (σ 196 x3.toNat) = 0 then
        fx_178_65 k x1 x2 (x3 + 1) σ
      else
        gq (0 ≤ (σ 194 x3.toNat) ∧ (σ 194 x3.toNat) < 30) (
        gc (fx_171 x1 (gb_up (gb_up σ 193 (σ 194 x3.toNat).toNat 1) 187 29 1)) (fun r6 s7 =>
        gq (gR r6) (
        (if r6 = 0 then
          fx_178_113 (fx_178_65 k) x1 x3 0 x2 s7
        else
          fx_178_113 (fx_178_65 k) x1 x3 1 x2 s7)))))))
    else
      some (.inl x2, σ))))
def fx_178_13 (k : Nat) (x1 : Int) (x2 : Int) (σ : gb_S) : Option gb_P := match k with
  | 0 => none
  | k + 1 =>
    gq (gR x2) (
    gq (gR (σ 187 3)) (
    (if x2 < (σ 187 3) then
      gq (0 ≤ x2 ∧ x2 < 14) (
      gq (0 ≤ ((14 * x1) + x2) ∧ ((14 * x1) + x2) < 196) (
      fx_178_13 k x1 (x2 + 1) (gb_up (gb_up σ 220 ((14 * x1) + x2).toNat (σ 216 x2.toNat)) 221 ((14 * x1) + x2).toNat ((gb_up σ 220 ((14 * x1) + x2).toNat (σ 216 x2.toNat)) 217 x2.toNat))))
    else
      fx_178_65 gFU x1 0 0 σ)))
/-- TreeclerkModel.disputes -/
def fx_178 (x1 : Int) (σ : gb_S) : Option gb_P :=
  gc (fx_173 x1 x1 σ) (fun r1 s2 =>
  gq (gR r1) (
  (if r1 = 0 then
    some (.inl 0, s2)
  else
    fx_178_13 gFU x1 0 s2)))
theorem gt_178_113 {k65 : Int → Int → Int → gb_S → Option gb_P} (hk65 : ∀ (x1 : Int) (x2 : Int) (x3 : Int) {lo : gh_L} (l0 : lo.lookup 0 = some (vr 187)) (l1 : lo.lookup 1 = some (vi x1)) (l2 : lo.lookup 2 = some (vi x2)) (l3 : lo.lookup 3 = some (vi x3)) {σ : gb_S}, gb_G (k65 x1 x2 x3 σ) 6 8 (some .int) (fun _ _ => none) gk_178 c0 eI 65 lo [] σ) (x1 : Int) (x3 : Int) (y0 : Int) (y1 : Int) {lo : gh_L} (l0 : lo.lookup 0 = some (vr 187)) (l1 : lo.lookup 1 = some (vi x1)) (l3 : lo.lookup 3 = some (vi x3)) {σ : gb_S} : gb_G (fx_178_113 k65 x1 x3 y0 y1 σ) 6 8 (some .int) (fun _ _ => none) gk_178 c0 eI 113 lo [vi y0, vi y1] σ := by
  rw [fx_178_113]
  refine gg_add 114 rfl rfl ?_
  refine gg_s 115 rfl rfl ?_
  refine gg_al 116 0 rfl rfl (gl1 rfl rfl l0) ?_
  refine gg_gr 119 193 rfl rfl rfl gcl_187 rfl ?_
  refine gg_al 120 0 rfl rfl (gl1 rfl rfl l0) ?_
  refine gg_gr 123 194 rfl rfl rfl gcl_187 rfl ?_
  refine gg_il 124 3 rfl rfl (gl1 rfl rfl l3) ?_
  refine gg_q (fun q1 => ?_)
  refine gg_ial 125 rfl rfl gar_194 q1 ?_
  refine gg_ci 126 0 rfl rfl ?_
  refine gg_q (fun q2 => ?_)
  refine gg_bas 127 rfl rfl gar_193 q2 (Or.inl rfl) ?_
  refine gg_al 128 0 rfl rfl (gl1 rfl rfl l0) ?_
  refine gg_ci 129 1 rfl rfl ?_
  refine gg_pf 132 rfl rfl rfl gcl_187 rfl ⟨rfl, rfl⟩ ?_
  refine gg_inc 135 rfl rfl (gl1 rfl rfl l3) ?_
  refine gg_go 65 rfl rfl rfl ?_
  exact hk65 x1 (y1 + y0) (x3 + 1) (gl1 rfl rfl (gl1 rfl rfl l0)) (gl1 rfl rfl (gl1 rfl rfl l1)) (gl1 rfl rfl gs1) gs1
theorem gt_178_65 (k : Nat) : ∀ (x1 : Int) (x2 : Int) (x3 : Int) {lo : gh_L} (l0 : lo.lookup 0 = some (vr 187)) (l1 : lo.lookup 1 = some (vi x1)) (l2 : lo.lookup 2 = some (vi x2)) (l3 : lo.lookup 3 = some (vi x3)) {σ : gb_S}, gb_G (fx_178_65 k x1 x2 x3 σ) 6 8 (some .int) (fun _ _ => none) gk_178 c0 eI 65 lo [] σ := by
  induction k with
  | zero => intros; exact gg_n
  | succ k ih =>
    intro x1 x2 x3 lo l0 l1 l2 l3 σ
    rw [fx_178_65]
    refine gg_il 66 3 rfl rfl l3 ?_
    refine gg_al 67 0 rfl rfl l0 ?_
    refine gg_gi 70 rfl rfl rfl gcl_187 rfl ?_
    refine gg_q (fun q1 => ?_)
    refine gg_q (fun q2 => ?_)
    refine gg_ige 138 73 rfl rfl rfl rfl q1 q2 ?_ ?_
    · refine gg_il 139 2 rfl rfl l2 ?_
      exact gg_ir rfl
    · refine gg_al 74 0 rfl rfl l0 ?_
      refine gg_gr 77 196 rfl rfl rfl gcl_187 rfl ?_
      refine gg_il 78 3 rfl rfl l3 ?_
      refine gg_q (fun q3 => ?_)
      refine gg_bal 79 rfl rfl gar_196 q3 ?_
      refine gg_q (fun q4 => ?_)
      refine gg_zeq 132 82 rfl rfl rfl rfl q4 ?_ ?_
      · refine gg_inc 135 rfl rfl l3 ?_
        refine gg_go 65 rfl rfl rfl ?_
        exact ih x1 x2 (x3 + 1) (gl1 rfl rfl l0) (gl1 rfl rfl l1) (gl1 rfl rfl l2) gs1
      · refine gg_al 83 0 rfl rfl l0 ?_
        refine gg_gr 86 193 rfl rfl rfl gcl_187 rfl ?_
        refine gg_al 87 0 rfl rfl l0 ?_
        refine gg_gr 90 194 rfl rfl rfl gcl_187 rfl ?_
        refine gg_il 91 3 rfl rfl l3 ?_
        refine gg_ial 92 rfl rfl gar_194 q3 ?_
        refine gg_ci 93 1 rfl rfl ?_
        refine gg_q (fun q5 => ?_)
        refine gg_bas 94 rfl rfl gar_193 q5 (Or.inr rfl) ?_
        refine gg_al 95 0 rfl rfl l0 ?_
        refine gg_ci 96 1 rfl rfl ?_
        refine gg_pf 99 rfl rfl rfl gcl_187 rfl ⟨rfl, rfl⟩ ?_
        refine gg_il 100 2 rfl rfl l2 ?_
        refine gg_al 101 0 rfl rfl l0 ?_
        refine gg_il 102 1 rfl rfl l1 ?_
        refine gg_cI 105 rfl (gm_171 _) (Nat.le_of_ble_eq_true rfl) (gb_vs rfl rfl rfl rfl rfl gcl_187 rfl rfl rfl) rfl (fun _ => rfl) (fun _ => rfl) (fun r6 s7 => ?_)
        refine gg_q (fun q8 => ?_)
        refine gg_zeq 112 108 rfl rfl rfl rfl q8 ?_ ?_
        · refine gg_ci 113 0 rfl rfl ?_
          exact gt_178_113 ih x1 x3 0 x2 l0 l1 l3
        · refine gg_ci 109 1 rfl rfl ?_
          refine gg_go 113 rfl rfl rfl ?_
          exact gt_178_113 ih x1 x3 1 x2 l0 l1 l3
theorem gt_178_13 (k : Nat) : ∀ (x1 : Int) (x2 : Int) {lo : gh_L} (l0 : lo.lookup 0 = some (vr 187)) (l1 : lo.lookup 1 = some (vi x1)) (l2 : lo.lookup 2 = some (vi x2)) {σ : gb_S}, gb_G (fx_178_13 k x1 x2 σ) 6 8 (some .int) (fun _ _ => none) gk_178 c0 eI 13 lo [] σ := by
  induction k with
  | zero => intros; exact gg_n
  | succ k ih =>
    intro x1 x2 lo l0 l1 l2 σ
    rw [fx_178_13]
    refine gg_il 14 2 rfl rfl l2 ?_
    refine gg_al 15 0 rfl rfl l0 ?_
    refine gg_gi 18 rfl rfl rfl gcl_187 rfl ?_
    refine gg_q (fun q1 => ?_)
    refine gg_q (fun q2 => ?_)
    refine gg_ige 61 21 rfl rfl rfl rfl q1 q2 ?_ ?_
    · refine gg_ci 62 0 rfl rfl ?_
      refine gg_s 63 rfl rfl ?_
      refine gg_ci 64 0 rfl rfl ?_
      refine gg_s 65 rfl rfl ?_
      exact gt_178_65 gFU x1 0 0 (gl1 rfl rfl (gl1 rfl rfl l0)) (gl1 rfl rfl (gl1 rfl rfl l1)) (gl1 rfl rfl gs1) gs1
    · refine gg_al 22 0 rfl rfl l0 ?_
      refine gg_gr 25 220 rfl rfl rfl gcl_187 rfl ?_
      refine gg_ci 27 14 rfl rfl ?_
      refine gg_il 28 1 rfl rfl l1 ?_
      refine gg_mul 29 rfl rfl ?_
      refine gg_il 30 2 rfl rfl l2 ?_
      refine gg_add 31 rfl rfl ?_
      refine gg_al 32 0 rfl rfl l0 ?_
      refine gg_gr 35 216 rfl rfl rfl gcl_187 rfl ?_
      refine gg_il 36 2 rfl rfl l2 ?_
      refine gg_q (fun q3 => ?_)
      refine gg_lal 37 rfl rfl gar_216 q3 ?_
      refine gg_q (fun q4 => ?_)
      refine gg_las 38 rfl rfl gar_220 q4 ?_
      refine gg_al 39 0 rfl rfl l0 ?_
      refine gg_gr 42 221 rfl rfl rfl gcl_187 rfl ?_
      refine gg_ci 44 14 rfl rfl ?_
      refine gg_il 45 1 rfl rfl l1 ?_
      refine gg_mul 46 rfl rfl ?_
      refine gg_il 47 2 rfl rfl l2 ?_
      refine gg_add 48 rfl rfl ?_
      refine gg_al 49 0 rfl rfl l0 ?_
      refine gg_gr 52 217 rfl rfl rfl gcl_187 rfl ?_
      refine gg_il 53 2 rfl rfl l2 ?_
      refine gg_lal 54 rfl rfl gar_217 q3 ?_
      refine gg_las 55 rfl rfl gar_221 q4 ?_
      refine gg_inc 58 rfl rfl l2 ?_
      refine gg_go 13 rfl rfl rfl ?_
      exact ih x1 (x2 + 1) (gl1 rfl rfl l0) (gl1 rfl rfl l1) gs1
theorem gm_178 (x1 : Int) {σ : gb_S} : gb_M (fx_178 x1 σ) 7 c0 eI 178 [vr 187, vi x1] σ := by
  rw [fx_178]
  refine gg_m (own := 8) (rt := (some .int)) (hnd := fun _ _ => none) (K := gk_178) (δ := 6) rfl rfl ?_
  refine gg_al 1 0 rfl rfl rfl ?_
  refine gg_il 2 1 rfl rfl rfl ?_
  refine gg_il 3 1 rfl rfl rfl ?_
  refine gg_cI 6 rfl (gm_173 _ _) (Nat.le_of_ble_eq_true rfl) (gb_vs rfl rfl rfl rfl rfl gcl_187 rfl rfl rfl) rfl (fun _ => rfl) (fun _ => rfl) (fun r1 s2 => ?_)
  refine gg_q (fun q3 => ?_)
  refine gg_zne 11 9 rfl rfl rfl rfl q3 ?_ ?_
  · refine gg_ci 12 0 rfl rfl ?_
    refine gg_s 13 rfl rfl ?_
    exact gt_178_13 gFU x1 0 (gl1 rfl rfl rfl) (gl1 rfl rfl rfl) gs1
  · refine gg_ci 10 0 rfl rfl ?_
    exact gg_ir rfl
/-- TreeclerkModel.reopenings -/
def fx_179 (x1 : Int) (σ : gb_S) : Option gb_P :=
  gc (fx_131 x1 σ) (fun r1 s2 =>
  gc (fx_127 r1 s2) (fun r3 s4 =>
  gq (gR r3) (
  (if r3 = 0 then
    some (.inl 0, s4)
  else
    gq (0 ≤ x1 ∧ x1 < 14) (
    some (.inl (s4 203 x1.toNat), s4))))))
theorem gm_179 (x1 : Int) {σ : gb_S} : gb_M (fx_179 x1 σ) 3 c0 eI 179 [vr 187, vi x1] σ := by
  rw [fx_179]
  refine gg_m (own := 8) (rt := (some .int)) (hnd := fun _ _ => none) (K := gk_179) (δ := 2) rfl rfl ?_
  refine gg_al 1 0 rfl rfl rfl ?_
  refine gg_al 2 0 rfl rfl rfl ?_
  refine gg_il 3 1 rfl rfl rfl ?_
  refine gg_cI 6 rfl (gm_131 _) (Nat.le_of_ble_eq_true rfl) (gb_vs rfl rfl rfl rfl rfl gcl_187 rfl rfl rfl) rfl (fun _ => rfl) (fun _ => rfl) (fun r1 s2 => ?_)
  refine gg_cI 9 rfl (gm_127 _) (Nat.le_of_ble_eq_true rfl) (gb_vs rfl rfl rfl rfl rfl gcl_187 rfl rfl rfl) rfl (fun _ => rfl) (fun _ => rfl) (fun r3 s4 => ?_)
  refine gg_q (fun q5 => ?_)
  refine gg_zeq 21 12 rfl rfl rfl rfl q5 ?_ ?_
  · refine gg_ci 22 0 rfl rfl ?_
    exact gg_ir rfl
  · refine gg_al 13 0 rfl rfl rfl ?_
    refine gg_gr 16 203 rfl rfl rfl gcl_187 rfl ?_
    refine gg_il 17 1 rfl rfl rfl ?_
    refine gg_q (fun q6 => ?_)
    refine gg_ial 18 rfl rfl gar_203 q6 ?_
    refine gg_go 22 rfl rfl rfl ?_
    exact gg_ir rfl
/-- TreeclerkModel.isRow -/
def fx_185 (x0 : Int) (x1 : Int) (σ : gb_S) : Option gb_P :=
  gc (fx_134 x0 σ) (fun r1 s2 =>
  gq (gR r1) (
  (if r1 = 0 then
    some (.inl 0, s2)
  else
    gc (fx_126 x1 (x0 + 1) 60 s2) (fun r4 s5 =>
    gq (gR r4) (
    (if r4 = 0 then
      some (.inl 0, s5)
    else
      some (.inl 1, s5)))))))
theorem gm_185 (x0 : Int) (x1 : Int) {σ : gb_S} : gb_M (fx_185 x0 x1 σ) 3 c0 eI 185 [vi x0, vi x1] σ := by
  rw [fx_185]
  refine gg_m (own := 8) (rt := (some .boolean)) (hnd := fun _ _ => none) (K := gk_185) (δ := 2) rfl rfl ?_
  refine gg_il 1 0 rfl rfl rfl ?_
  refine gg_cI 4 rfl (gm_134 _) (Nat.le_of_ble_eq_true rfl) (gb_ss rfl rfl rfl rfl rfl rfl rfl) rfl (fun _ => rfl) (fun _ => rfl) (fun r1 s2 => ?_)
  refine gg_q (fun q3 => ?_)
  refine gg_zeq 23 7 rfl rfl rfl rfl q3 ?_ ?_
  · refine gg_ci 24 0 rfl rfl ?_
    exact gg_zr rfl (Or.inl rfl)
  · refine gg_il 8 1 rfl rfl rfl ?_
    refine gg_il 9 0 rfl rfl rfl ?_
    refine gg_ci 10 1 rfl rfl ?_
    refine gg_add 11 rfl rfl ?_
    refine gg_ci 13 60 rfl rfl ?_
    refine gg_cI 16 rfl (gm_126 _ _ _) (Nat.le_of_ble_eq_true rfl) (gb_ss rfl rfl rfl rfl rfl rfl rfl) rfl (fun _ => rfl) (fun _ => rfl) (fun r4 s5 => ?_)
    refine gg_q (fun q6 => ?_)
    refine gg_zeq 23 19 rfl rfl rfl rfl q6 ?_ ?_
    · refine gg_ci 24 0 rfl rfl ?_
      exact gg_zr rfl (Or.inl rfl)
    · refine gg_ci 20 1 rfl rfl ?_
      refine gg_go 24 rfl rfl rfl ?_
      exact gg_zr rfl (Or.inr rfl)
end GF9
