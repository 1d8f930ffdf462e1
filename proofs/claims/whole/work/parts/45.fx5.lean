section GF5
variable {c0 : gh_C}
def fx_106_7 (k : Nat) (x1 : Int) (x2 : Int) (σ : gb_S) : Option gb_P := match k with
  | 0 => none
  | k + 1 =>
    gq (gR x2) (
    (if x2 < 14 then
      gq (0 ≤ x2 ∧ x2 < 14) (
      gq (gR (σ (47 + 10 * x2.toNat) 4)) (
      (if (σ (47 + 10 * x2.toNat) 4) = 0 then
        fx_106_7 k x1 (x2 + 1) σ
      else
        gc (fx_3 15 (47 + 10 * x2.toNat) ((47 + 10 * x2.toNat) + 6) σ) (fun _ s7 =>
        fx_106_7 k x1 (x2 + 1) s7))))
    else
      gc (fx_50 x1 σ) (fun r2 s3 =>
      some (.inl r2, s3))))
/-- Treeclerk.ownerAnew -/
def fx_106 (x1 : Int) (σ : gb_S) : Option gb_P :=
  gc (fx_112 x1 σ) (fun _ s2 =>
  fx_106_7 gFU x1 0 s2)
theorem gt_106_7 (k : Nat) : ∀ (x1 : Int) (x2 : Int) {lo : gh_L} (l0 : lo.lookup 0 = some (vr 1)) (l1 : lo.lookup 1 = some (vi x1)) (l2 : lo.lookup 2 = some (vi x2)) {σ : gb_S}, gb_G (fx_106_7 k x1 x2 σ) 61 7 (some .int) (fun _ _ => none) gk_106 c0 eI 7 lo [] σ := by
  induction k with
  | zero => intros; exact gg_n
  | succ k ih =>
    intro x1 x2 lo l0 l1 l2 σ
    rw [fx_106_7]
    refine gg_il 8 2 rfl rfl l2 ?_
    refine gg_ci 10 14 rfl rfl ?_
    refine gg_q (fun q1 => ?_)
    refine gg_ige 61 13 rfl rfl rfl rfl q1 (gRl rfl) ?_ ?_
    · refine gg_al 62 0 rfl rfl l0 ?_
      refine gg_gr 65 30 rfl rfl rfl gcl_1 rfl ?_
      refine gg_il 66 1 rfl rfl l1 ?_
      refine gg_al 67 0 rfl rfl l0 ?_
      refine gg_gr 70 25 rfl rfl rfl gcl_1 rfl ?_
      refine gg_cI 73 rfl (gm_50 _) (Nat.le_of_ble_eq_true rfl) (gb_vs rfl rfl rfl rfl rfl gcl_30 rfl rfl rfl) rfl (fun _ => rfl) (fun _ => rfl) (fun r2 s3 => ?_)
      exact gg_ir rfl
    · refine gg_al 14 0 rfl rfl l0 ?_
      refine gg_gr 17 25 rfl rfl rfl gcl_1 rfl ?_
      refine gg_il 18 2 rfl rfl l2 ?_
      refine gg_q (fun q4 => ?_)
      refine gg_aal 19 rfl rfl q4 ?_
      refine gg_gi 22 rfl rfl rfl (ges0 (ges_at q4)) rfl ?_
      refine gg_q (fun q5 => ?_)
      refine gg_zeq 55 25 rfl rfl rfl rfl q5 ?_ ?_
      · refine gg_inc 58 rfl rfl l2 ?_
        refine gg_go 7 rfl rfl rfl ?_
        exact ih x1 (x2 + 1) (gl1 rfl rfl l0) (gl1 rfl rfl l1) gs1
      · refine gg_al 26 0 rfl rfl l0 ?_
        refine gg_gr 29 26 rfl rfl rfl gcl_1 rfl ?_
        refine gg_al 30 0 rfl rfl l0 ?_
        refine gg_gr 33 2 rfl rfl rfl gcl_1 rfl ?_
        refine gg_al 34 0 rfl rfl l0 ?_
        refine gg_gr 37 15 rfl rfl rfl gcl_1 rfl ?_
        refine gg_al 38 0 rfl rfl l0 ?_
        refine gg_gr 41 25 rfl rfl rfl gcl_1 rfl ?_
        refine gg_il 42 2 rfl rfl l2 ?_
        refine gg_aal 43 rfl rfl q4 ?_
        refine gg_al 44 0 rfl rfl l0 ?_
        refine gg_gr 47 25 rfl rfl rfl gcl_1 rfl ?_
        refine gg_il 48 2 rfl rfl l2 ?_
        refine gg_aal 49 rfl rfl q4 ?_
        refine gg_gr 52 ((47 + 10 * x2.toNat) + 6) rfl rfl rfl (ges0 (ges_at q4)) rfl ?_
        refine gg_cV 55 rfl (gm_3 _ _ _ (rfl : gb_kd 15 = 3) (ges_at q4) (ges6 (ges_at q4))) (Nat.le_of_ble_eq_true rfl) (gb_vs rfl rfl rfl rfl rfl gcl_26 rfl rfl rfl) rfl (fun _ => rfl) (fun _ => rfl) (fun s7 => ?_)
        refine gg_inc 58 rfl rfl l2 ?_
        refine gg_go 7 rfl rfl rfl ?_
        exact ih x1 (x2 + 1) (gl1 rfl rfl l0) (gl1 rfl rfl l1) gs1
theorem gm_106 (x1 : Int) {σ : gb_S} : gb_M (fx_106 x1 σ) 62 c0 eI 106 [vr 1, vi x1] σ := by
  rw [fx_106]
  refine gg_m (own := 7) (rt := (some .int)) (hnd := fun _ _ => none) (K := gk_106) (δ := 61) rfl rfl ?_
  refine gg_al 1 0 rfl rfl rfl ?_
  refine gg_il 2 1 rfl rfl rfl ?_
  refine gg_cV 5 rfl (gm_112 _) (Nat.le_of_ble_eq_true rfl) (gb_vs rfl rfl rfl rfl rfl gcl_1 rfl rfl rfl) rfl (fun _ => rfl) (fun _ => rfl) (fun s2 => ?_)
  refine gg_ci 6 0 rfl rfl ?_
  refine gg_s 7 rfl rfl ?_
  exact gt_106_7 gFU x1 0 (gl1 rfl rfl rfl) (gl1 rfl rfl rfl) gs1
/-- Treeclerk.area -/
def fx_107 (x1 : Int) (σ : gb_S) : Option gb_P :=
  gc (fx_110 x1 σ) (fun _ s2 =>
  gc (fx_42 x1 0 60 s2) (fun r3 s4 =>
  some (.inl r3, s4)))
theorem gm_107 (x1 : Int) {σ : gb_S} : gb_M (fx_107 x1 σ) 3 c0 eI 107 [vr 1, vi x1] σ := by
  rw [fx_107]
  refine gg_m (own := 7) (rt := (some .int)) (hnd := fun _ _ => none) (K := gk_107) (δ := 2) rfl rfl ?_
  refine gg_al 1 0 rfl rfl rfl ?_
  refine gg_il 2 1 rfl rfl rfl ?_
  refine gg_cV 5 rfl (gm_110 _) (Nat.le_of_ble_eq_true rfl) (gb_vs rfl rfl rfl rfl rfl gcl_1 rfl rfl rfl) rfl (fun _ => rfl) (fun _ => rfl) (fun s2 => ?_)
  refine gg_al 6 0 rfl rfl rfl ?_
  refine gg_gr 9 30 rfl rfl rfl gcl_1 rfl ?_
  refine gg_il 10 1 rfl rfl rfl ?_
  refine gg_ci 11 0 rfl rfl ?_
  refine gg_ci 13 60 rfl rfl ?_
  refine gg_cI 16 rfl (gm_42 _ _ _) (Nat.le_of_ble_eq_true rfl) (gb_vs rfl rfl rfl rfl rfl gcl_30 rfl rfl rfl) rfl (fun _ => rfl) (fun _ => rfl) (fun r3 s4 => ?_)
  exact gg_ir rfl
def fx_108_4 (k : Nat) (x1 : Int) (x2 : Int) (σ : gb_S) : Option gb_P := match k with
  | 0 => none
  | k + 1 =>
    gq (gR x2) (
    (if x2 < 60 then
      gc (fx_40 x2 σ) (fun r2 s3 =>
      gq (gR r2) (
      (if r2 = (-1) then
        fx_108_4 k x1 (x2 + 1) s3
      else
        gc (fx_43 x2 s3) (fun r5 s6 =>
        gq (gR r5) (
        (if r5 = x2 then
          fx_108_4 k (x1 + 1) (x2 + 1) s6
        else
          fx_108_4 k x1 (x2 + 1) s6))))))
    else
      some (.inl x1, σ)))
/-- Treeclerk.parcels -/
def fx_108 (σ : gb_S) : Option gb_P :=
  fx_108_4 gFU 0 0 σ
theorem gt_108_4 (k : Nat) : ∀ (x1 : Int) (x2 : Int) {lo : gh_L} (l0 : lo.lookup 0 = some (vr 1)) (l1 : lo.lookup 1 = some (vi x1)) (l2 : lo.lookup 2 = some (vi x2)) {σ : gb_S}, gb_G (fx_108_4 k x1 x2 σ) 2 7 (some .int) (fun _ _ => none) gk_108 c0 eI 4 lo [] σ := by
  induction k with
  | zero => intros; exact gg_n
  | succ k ih =>
    intro x1 x2 lo l0 l1 l2 σ
    rw [fx_108_4]
    refine gg_il 5 2 rfl rfl l2 ?_
    refine gg_ci 7 60 rfl rfl ?_
    refine gg_q (fun q1 => ?_)
    refine gg_ige 43 10 rfl rfl rfl rfl q1 (gRl rfl) ?_ ?_
    · refine gg_il 44 1 rfl rfl l1 ?_
      exact gg_ir rfl
    · refine gg_al 11 0 rfl rfl l0 ?_
      refine gg_gr 14 30 rfl rfl rfl gcl_1 rfl ?_
      refine gg_il 15 2 rfl rfl l2 ?_
      refine gg_cI 18 rfl (gm_40 _) (Nat.le_of_ble_eq_true rfl) (gb_vs rfl rfl rfl rfl rfl gcl_30 rfl rfl rfl) rfl (fun _ => rfl) (fun _ => rfl) (fun r2 s3 => ?_)
      refine gg_ci 19 (-1) rfl rfl ?_
      refine gg_q (fun q4 => ?_)
      refine gg_ieq 37 22 rfl rfl rfl rfl q4 (gRl rfl) ?_ ?_
      · refine gg_inc 40 rfl rfl l2 ?_
        refine gg_go 4 rfl rfl rfl ?_
        exact ih x1 (x2 + 1) (gl1 rfl rfl l0) (gl1 rfl rfl l1) gs1
      · refine gg_al 23 0 rfl rfl l0 ?_
        refine gg_gr 26 30 rfl rfl rfl gcl_1 rfl ?_
        refine gg_il 27 2 rfl rfl l2 ?_
        refine gg_cI 30 rfl (gm_43 _) (Nat.le_of_ble_eq_true rfl) (gb_vs rfl rfl rfl rfl rfl gcl_30 rfl rfl rfl) rfl (fun _ => rfl) (fun _ => rfl) (fun r5 s6 => ?_)
        refine gg_il 31 2 rfl rfl l2 ?_
        refine gg_q (fun q7 => ?_)
        refine gg_ine 37 34 rfl rfl rfl rfl q7 q1 ?_ ?_
        · refine gg_inc 40 rfl rfl l2 ?_
          refine gg_go 4 rfl rfl rfl ?_
          exact ih x1 (x2 + 1) (gl1 rfl rfl l0) (gl1 rfl rfl l1) gs1
        · refine gg_inc 37 rfl rfl l1 ?_
          refine gg_inc 40 rfl rfl (gl1 rfl rfl l2) ?_
          refine gg_go 4 rfl rfl rfl ?_
          exact ih (x1 + 1) (x2 + 1) (gl1 rfl rfl (gl1 rfl rfl l0)) (gl1 rfl rfl gs1) gs1
theorem gm_108 {σ : gb_S} : gb_M (fx_108 σ) 3 c0 eI 108 [vr 1] σ := by
  rw [fx_108]
  refine gg_m (own := 7) (rt := (some .int)) (hnd := fun _ _ => none) (K := gk_108) (δ := 2) rfl rfl ?_
  refine gg_ci 1 0 rfl rfl ?_
  refine gg_s 2 rfl rfl ?_
  refine gg_ci 3 0 rfl rfl ?_
  refine gg_s 4 rfl rfl ?_
  exact gt_108_4 gFU 0 0 (gl1 rfl rfl (gl1 rfl rfl rfl)) (gl1 rfl rfl gs1) gs1
/-- Treeclerk.parcelAt -/
def fx_109 (x1 : Int) (σ : gb_S) : Option gb_P :=
  gc (fx_112 x1 σ) (fun _ s2 =>
  gc (fx_40 x1 s2) (fun r3 s4 =>
  gq (gR r3) (
  (if r3 = (-1) then
    some (.inr 3, s4)
  else
    gc (fx_43 x1 s4) (fun r6 s7 =>
    gc (fx_44 x1 s7) (fun r8 s9 =>
    some (.inl (((100 * r6) + r8) - r6), s9)))))))
theorem gm_109 (x1 : Int) {σ : gb_S} : gb_M (fx_109 x1 σ) 3 c0 eI 109 [vr 1, vi x1] σ := by
  rw [fx_109]
  refine gg_m (own := 7) (rt := (some .int)) (hnd := fun _ _ => none) (K := gk_109) (δ := 2) rfl rfl ?_
  refine gg_al 1 0 rfl rfl rfl ?_
  refine gg_il 2 1 rfl rfl rfl ?_
  refine gg_cV 5 rfl (gm_112 _) (Nat.le_of_ble_eq_true rfl) (gb_vs rfl rfl rfl rfl rfl gcl_1 rfl rfl rfl) rfl (fun _ => rfl) (fun _ => rfl) (fun s2 => ?_)
  refine gg_al 6 0 rfl rfl rfl ?_
  refine gg_gr 9 30 rfl rfl rfl gcl_1 rfl ?_
  refine gg_il 10 1 rfl rfl rfl ?_
  refine gg_cI 13 rfl (gm_40 _) (Nat.le_of_ble_eq_true rfl) (gb_vs rfl rfl rfl rfl rfl gcl_30 rfl rfl rfl) rfl (fun _ => rfl) (fun _ => rfl) (fun r3 s4 => ?_)
  refine gg_ci 14 (-1) rfl rfl ?_
  refine gg_q (fun q5 => ?_)
  refine gg_ine 28 17 rfl rfl rfl rfl q5 (gRl rfl) ?_ ?_
  · refine gg_al 29 0 rfl rfl rfl ?_
    refine gg_gr 32 30 rfl rfl rfl gcl_1 rfl ?_
    refine gg_il 33 1 rfl rfl rfl ?_
    refine gg_cI 36 rfl (gm_43 _) (Nat.le_of_ble_eq_true rfl) (gb_vs rfl rfl rfl rfl rfl gcl_30 rfl rfl rfl) rfl (fun _ => rfl) (fun _ => rfl) (fun r6 s7 => ?_)
    refine gg_s 37 rfl rfl ?_
    refine gg_ci 39 100 rfl rfl ?_
    refine gg_il 40 2 rfl rfl gs1 ?_
    refine gg_mul 41 rfl rfl ?_
    refine gg_al 42 0 rfl rfl (gl1 rfl rfl rfl) ?_
    refine gg_gr 45 30 rfl rfl rfl gcl_1 rfl ?_
    refine gg_il 46 1 rfl rfl (gl1 rfl rfl rfl) ?_
    refine gg_cI 49 rfl (gm_44 _) (Nat.le_of_ble_eq_true rfl) (gb_vs rfl rfl rfl rfl rfl gcl_30 rfl rfl rfl) rfl (fun _ => rfl) (fun _ => rfl) (fun r8 s9 => ?_)
    refine gg_add 50 rfl rfl ?_
    refine gg_il 51 2 rfl rfl gs1 ?_
    refine gg_sub 52 rfl rfl ?_
    exact gg_ir rfl
  · exact gg_th rfl rfl rfl
/-- TreeclerkModel.thrown -/
def fx_125 (σ : gb_S) : Option gb_P :=
  some (.inl (σ 187 43), σ)
theorem gm_125 {σ : gb_S} : gb_M (fx_125 σ) 1 c0 eI 125 [vr 187] σ := by
  rw [fx_125]
  refine gg_m (own := 8) (rt := (some .int)) (hnd := fun _ _ => none) (K := gk_125) (δ := 0) rfl rfl ?_
  refine gg_al 1 0 rfl rfl rfl ?_
  refine gg_gi 4 rfl rfl rfl gcl_187 rfl ?_
  exact gg_ir rfl
/-- TreeclerkModel.in -/
def fx_126 (x0 : Int) (x1 : Int) (x2 : Int) (σ : gb_S) : Option gb_P :=
  gq (gR x0) (
  gq (gR x1) (
  (if x0 < x1 then
    some (.inl 0, σ)
  else
    gq (gR x2) (
    (if x2 < x0 then
      some (.inl 0, σ)
    else
      some (.inl 1, σ))))))
theorem gm_126 (x0 : Int) (x1 : Int) (x2 : Int) {σ : gb_S} : gb_M (fx_126 x0 x1 x2 σ) 1 c0 eI 126 [vi x0, vi x1, vi x2] σ := by
  rw [fx_126]
  refine gg_m (own := 8) (rt := (some .boolean)) (hnd := fun _ _ => none) (K := gk_126) (δ := 0) rfl rfl ?_
  refine gg_il 1 0 rfl rfl rfl ?_
  refine gg_il 2 1 rfl rfl rfl ?_
  refine gg_q (fun q1 => ?_)
  refine gg_q (fun q2 => ?_)
  refine gg_ilt 14 5 rfl rfl rfl rfl q1 q2 ?_ ?_
  · refine gg_ci 15 0 rfl rfl ?_
    exact gg_zr rfl (Or.inl rfl)
  · refine gg_il 6 0 rfl rfl rfl ?_
    refine gg_il 7 2 rfl rfl rfl ?_
    refine gg_q (fun q3 => ?_)
    refine gg_igt 14 10 rfl rfl rfl rfl q1 q3 ?_ ?_
    · refine gg_ci 15 0 rfl rfl ?_
      exact gg_zr rfl (Or.inl rfl)
    · refine gg_ci 11 1 rfl rfl ?_
      refine gg_go 15 rfl rfl rfl ?_
      exact gg_zr rfl (Or.inr rfl)
/-- TreeclerkModel.asked -/
def fx_127 (x1 : Int) (σ : gb_S) : Option gb_P :=
  gq (gR x1) (
  (if x1 = 0 then
    gq (x1 = 0 ∨ x1 = 1) (
    some (.inl x1, (gb_up σ 187 43 1)))
  else
    gq (x1 = 0 ∨ x1 = 1) (
    some (.inl x1, (gb_up σ 187 43 0)))))
theorem gm_127 (x1 : Int) {σ : gb_S} : gb_M (fx_127 x1 σ) 1 c0 eI 127 [vr 187, vi x1] σ := by
  rw [fx_127]
  refine gg_m (own := 8) (rt := (some .boolean)) (hnd := fun _ _ => none) (K := gk_127) (δ := 0) rfl rfl ?_
  refine gg_al 1 0 rfl rfl rfl ?_
  refine gg_il 2 1 rfl rfl rfl ?_
  refine gg_q (fun q1 => ?_)
  refine gg_zeq 9 5 rfl rfl rfl rfl q1 ?_ ?_
  · refine gg_ci 10 1 rfl rfl ?_
    refine gg_pf 13 rfl rfl rfl gcl_187 rfl ⟨rfl, rfl⟩ ?_
    refine gg_il 14 1 rfl rfl rfl ?_
    refine gg_q (fun q2 => ?_)
    exact gg_zr rfl q2
  · refine gg_ci 6 0 rfl rfl ?_
    refine gg_go 10 rfl rfl rfl ?_
    refine gg_pf 13 rfl rfl rfl gcl_187 rfl ⟨rfl, rfl⟩ ?_
    refine gg_il 14 1 rfl rfl rfl ?_
    refine gg_q (fun q3 => ?_)
    exact gg_zr rfl q3
def fx_128_18 (y0 : Int) (σ : gb_S) : Option gb_P :=
  gq (gR ((gb_up σ 187 43 y0) 187 43)) (
  (if ((gb_up σ 187 43 y0) 187 43) = 0 then
    some (.inl 1, (gb_up σ 187 43 y0))
  else
    some (.inl 0, (gb_up σ 187 43 y0))))
/-- TreeclerkModel.asked -/
def fx_128 (x1 : Int) (x2 : Int) (σ : gb_S) : Option gb_P :=
  gq (gR x1) (
  (if x1 = 0 then
    fx_128_18 1 σ
  else
    gq (gR x2) (
    (if x2 = 0 then
      fx_128_18 2 σ
    else
      fx_128_18 0 σ))))
theorem gt_128_18 (y0 : Int) {lo : gh_L} (l0 : lo.lookup 0 = some (vr 187)) {σ : gb_S} : gb_G (fx_128_18 y0 σ) 0 8 (some .boolean) (fun _ _ => none) gk_128 c0 eI 18 lo [vi y0, vr 187] σ := by
  rw [fx_128_18]
  refine gg_pf 21 rfl rfl rfl gcl_187 rfl ⟨rfl, rfl⟩ ?_
  refine gg_al 22 0 rfl rfl l0 ?_
  refine gg_gi 25 rfl rfl rfl gcl_187 rfl ?_
  refine gg_q (fun q1 => ?_)
  refine gg_zne 32 28 rfl rfl rfl rfl q1 ?_ ?_
  · refine gg_ci 33 0 rfl rfl ?_
    exact gg_zr rfl (Or.inl rfl)
  · refine gg_ci 29 1 rfl rfl ?_
    refine gg_go 33 rfl rfl rfl ?_
    exact gg_zr rfl (Or.inr rfl)
theorem gm_128 (x1 : Int) (x2 : Int) {σ : gb_S} : gb_M (fx_128 x1 x2 σ) 1 c0 eI 128 [vr 187, vi x1, vi x2] σ := by
  rw [fx_128]
  refine gg_m (own := 8) (rt := (some .boolean)) (hnd := fun _ _ => none) (K := gk_128) (δ := 0) rfl rfl ?_
  refine gg_al 1 0 rfl rfl rfl ?_
  refine gg_il 2 1 rfl rfl rfl ?_
  refine gg_q (fun q1 => ?_)
  refine gg_zne 9 5 rfl rfl rfl rfl q1 ?_ ?_
  · refine gg_il 10 2 rfl rfl rfl ?_
    refine gg_q (fun q2 => ?_)
    refine gg_zeq 17 13 rfl rfl rfl rfl q2 ?_ ?_
    · refine gg_ci 18 2 rfl rfl ?_
      exact gt_128_18 2 rfl
    · refine gg_ci 14 0 rfl rfl ?_
      refine gg_go 18 rfl rfl rfl ?_
      exact gt_128_18 0 rfl
  · refine gg_ci 6 1 rfl rfl ?_
    refine gg_go 18 rfl rfl rfl ?_
    exact gt_128_18 1 rfl
def fx_129_26 (y0 : Int) (σ : gb_S) : Option gb_P :=
  gq (gR ((gb_up σ 187 43 y0) 187 43)) (
  (if ((gb_up σ 187 43 y0) 187 43) = 0 then
    some (.inl 1, (gb_up σ 187 43 y0))
  else
    some (.inl 0, (gb_up σ 187 43 y0))))
/-- TreeclerkModel.asked -/
def fx_129 (x1 : Int) (x2 : Int) (x3 : Int) (σ : gb_S) : Option gb_P :=
  gq (gR x1) (
  (if x1 = 0 then
    fx_129_26 1 σ
  else
    gq (gR x2) (
    (if x2 = 0 then
      fx_129_26 2 σ
    else
      gq (gR x3) (
      (if x3 = 0 then
        fx_129_26 3 σ
      else
        fx_129_26 0 σ))))))
theorem gt_129_26 (y0 : Int) {lo : gh_L} (l0 : lo.lookup 0 = some (vr 187)) {σ : gb_S} : gb_G (fx_129_26 y0 σ) 0 8 (some .boolean) (fun _ _ => none) gk_129 c0 eI 26 lo [vi y0, vr 187] σ := by
  rw [fx_129_26]
  refine gg_pf 29 rfl rfl rfl gcl_187 rfl ⟨rfl, rfl⟩ ?_
  refine gg_al 30 0 rfl rfl l0 ?_
  refine gg_gi 33 rfl rfl rfl gcl_187 rfl ?_
  refine gg_q (fun q1 => ?_)
  refine gg_zne 40 36 rfl rfl rfl rfl q1 ?_ ?_
  · refine gg_ci 41 0 rfl rfl ?_
    exact gg_zr rfl (Or.inl rfl)
  · refine gg_ci 37 1 rfl rfl ?_
    refine gg_go 41 rfl rfl rfl ?_
    exact gg_zr rfl (Or.inr rfl)
theorem gm_129 (x1 : Int) (x2 : Int) (x3 : Int) {σ : gb_S} : gb_M (fx_129 x1 x2 x3 σ) 1 c0 eI 129 [vr 187, vi x1, vi x2, vi x3] σ := by
  rw [fx_129]
  refine gg_m (own := 8) (rt := (some .boolean)) (hnd := fun _ _ => none) (K := gk_129) (δ := 0) rfl rfl ?_
  refine gg_al 1 0 rfl rfl rfl ?_
  refine gg_il 2 1 rfl rfl rfl ?_
  refine gg_q (fun q1 => ?_)
  refine gg_zne 9 5 rfl rfl rfl rfl q1 ?_ ?_
  · refine gg_il 10 2 rfl rfl rfl ?_
    refine gg_q (fun q2 => ?_)
    refine gg_zne 17 13 rfl rfl rfl rfl q2 ?_ ?_
    · refine gg_il 18 3 rfl rfl rfl ?_
      refine gg_q (fun q3 => ?_)
      refine gg_zeq 25 21 rfl rfl rfl rfl q3 ?_ ?_
      · refine gg_ci 26 3 rfl rfl ?_
        exact gt_129_26 3 rfl
      · refine gg_ci 22 0 rfl rfl ?_
        refine gg_go 26 rfl rfl rfl ?_
        exact gt_129_26 0 rfl
    · refine gg_ci 14 2 rfl rfl ?_
      refine gg_go 26 rfl rfl rfl ?_
      exact gt_129_26 2 rfl
  · refine gg_ci 6 1 rfl rfl ?_
    refine gg_go 26 rfl rfl rfl ?_
    exact gt_129_26 1 rfl
/-- TreeclerkModel.told -/
def fx_130 (x1 : Int) (σ : gb_S) : Option gb_P :=
  some (.inl x1, (gb_up σ 187 43 0))
theorem gm_130 (x1 : Int) {σ : gb_S} : gb_M (fx_130 x1 σ) 1 c0 eI 130 [vr 187, vi x1] σ := by
  rw [fx_130]
  refine gg_m (own := 8) (rt := (some .int)) (hnd := fun _ _ => none) (K := gk_130) (δ := 0) rfl rfl ?_
  refine gg_al 1 0 rfl rfl rfl ?_
  refine gg_ci 2 0 rfl rfl ?_
  refine gg_pf 5 rfl rfl rfl gcl_187 rfl ⟨rfl, rfl⟩ ?_
  refine gg_il 6 1 rfl rfl rfl ?_
  exact gg_ir rfl
/-- TreeclerkModel.isPerson -/
def fx_131 (x1 : Int) (σ : gb_S) : Option gb_P :=
  gc (fx_126 x1 0 ((σ 187 3) - 1) σ) (fun r1 s2 =>
  gq (r1 = 0 ∨ r1 = 1) (
  some (.inl r1, s2)))
theorem gm_131 (x1 : Int) {σ : gb_S} : gb_M (fx_131 x1 σ) 2 c0 eI 131 [vr 187, vi x1] σ := by
  rw [fx_131]
  refine gg_m (own := 8) (rt := (some .boolean)) (hnd := fun _ _ => none) (K := gk_131) (δ := 1) rfl rfl ?_
  refine gg_il 1 1 rfl rfl rfl ?_
  refine gg_ci 2 0 rfl rfl ?_
  refine gg_al 3 0 rfl rfl rfl ?_
  refine gg_gi 6 rfl rfl rfl gcl_187 rfl ?_
  refine gg_ci 7 1 rfl rfl ?_
  refine gg_sub 8 rfl rfl ?_
  refine gg_cI 11 rfl (gm_126 _ _ _) (Nat.le_of_ble_eq_true rfl) (gb_ss rfl rfl rfl rfl rfl rfl rfl) rfl (fun _ => rfl) (fun _ => rfl) (fun r1 s2 => ?_)
  refine gg_q (fun q3 => ?_)
  exact gg_zr rfl q3
/-- TreeclerkModel.isProof -/
def fx_132 (x1 : Int) (σ : gb_S) : Option gb_P :=
  gc (fx_126 x1 0 ((σ 187 8) - 1) σ) (fun r1 s2 =>
  gq (r1 = 0 ∨ r1 = 1) (
  some (.inl r1, s2)))
theorem gm_132 (x1 : Int) {σ : gb_S} : gb_M (fx_132 x1 σ) 2 c0 eI 132 [vr 187, vi x1] σ := by
  rw [fx_132]
  refine gg_m (own := 8) (rt := (some .boolean)) (hnd := fun _ _ => none) (K := gk_132) (δ := 1) rfl rfl ?_
  refine gg_il 1 1 rfl rfl rfl ?_
  refine gg_ci 2 0 rfl rfl ?_
  refine gg_al 3 0 rfl rfl rfl ?_
  refine gg_gi 6 rfl rfl rfl gcl_187 rfl ?_
  refine gg_ci 7 1 rfl rfl ?_
  refine gg_sub 8 rfl rfl ?_
  refine gg_cI 11 rfl (gm_126 _ _ _) (Nat.le_of_ble_eq_true rfl) (gb_ss rfl rfl rfl rfl rfl rfl rfl) rfl (fun _ => rfl) (fun _ => rfl) (fun r1 s2 => ?_)
  refine gg_q (fun q3 => ?_)
  exact gg_zr rfl q3
/-- TreeclerkModel.isDoubt -/
def fx_133 (x1 : Int) (σ : gb_S) : Option gb_P :=
  gc (fx_126 x1 0 ((σ 187 12) - 1) σ) (fun r1 s2 =>
  gq (r1 = 0 ∨ r1 = 1) (
  some (.inl r1, s2)))
theorem gm_133 (x1 : Int) {σ : gb_S} : gb_M (fx_133 x1 σ) 2 c0 eI 133 [vr 187, vi x1] σ := by
  rw [fx_133]
  refine gg_m (own := 8) (rt := (some .boolean)) (hnd := fun _ _ => none) (K := gk_133) (δ := 1) rfl rfl ?_
  refine gg_il 1 1 rfl rfl rfl ?_
  refine gg_ci 2 0 rfl rfl ?_
  refine gg_al 3 0 rfl rfl rfl ?_
  refine gg_gi 6 rfl rfl rfl gcl_187 rfl ?_
  refine gg_ci 7 1 rfl rfl ?_
  refine gg_sub 8 rfl rfl ?_
  refine gg_cI 11 rfl (gm_126 _ _ _) (Nat.le_of_ble_eq_true rfl) (gb_ss rfl rfl rfl rfl rfl rfl rfl) rfl (fun _ => rfl) (fun _ => rfl) (fun r1 s2 => ?_)
  refine gg_q (fun q3 => ?_)
  exact gg_zr rfl q3
/-- TreeclerkModel.isUnit -/
def fx_134 (x0 : Int) (σ : gb_S) : Option gb_P :=
  gc (fx_126 x0 0 59 σ) (fun r1 s2 =>
  gq (r1 = 0 ∨ r1 = 1) (
  some (.inl r1, s2)))
theorem gm_134 (x0 : Int) {σ : gb_S} : gb_M (fx_134 x0 σ) 2 c0 eI 134 [vi x0] σ := by
  rw [fx_134]
  refine gg_m (own := 8) (rt := (some .boolean)) (hnd := fun _ _ => none) (K := gk_134) (δ := 1) rfl rfl ?_
  refine gg_il 1 0 rfl rfl rfl ?_
  refine gg_ci 2 0 rfl rfl ?_
  refine gg_ci 4 59 rfl rfl ?_
  refine gg_cI 7 rfl (gm_126 _ _ _) (Nat.le_of_ble_eq_true rfl) (gb_ss rfl rfl rfl rfl rfl rfl rfl) rfl (fun _ => rfl) (fun _ => rfl) (fun r1 s2 => ?_)
  refine gg_q (fun q3 => ?_)
  exact gg_zr rfl q3
def fx_135_31 (x1 : Int) (y0 : Int) (y1 : Int) (σ : gb_S) : Option gb_P :=
  gc (fx_128 y1 y0 σ) (fun r1 s2 =>
  gq (gR r1) (
  (if r1 = 0 then
    some (.inl 0, s2)
  else
    some (.inl ((gb_up s2 187 0 ((s2 187 0) + x1)) 187 0), (gb_up s2 187 0 ((s2 187 0) + x1))))))
/-- TreeclerkModel.pass -/
def fx_135 (x1 : Int) (σ : gb_S) : Option gb_P :=
  gc (fx_126 x1 1 100 σ) (fun r1 s2 =>
  gq (gR r1) (
  (if r1 = 0 then
    fx_135_31 x1 0 r1 s2
  else
    gq (gR ((s2 187 0) + x1)) (
    (if 2000 < ((s2 187 0) + x1) then
      fx_135_31 x1 0 r1 s2
    else
      fx_135_31 x1 1 r1 s2)))))
theorem gt_135_31 (x1 : Int) (y0 : Int) (y1 : Int) {lo : gh_L} (l0 : lo.lookup 0 = some (vr 187)) (l1 : lo.lookup 1 = some (vi x1)) {σ : gb_S} : gb_G (fx_135_31 x1 y0 y1 σ) 1 8 (some .int) (fun _ _ => none) gk_135 c0 eI 31 lo [vi y0, vi y1, vr 187] σ := by
  rw [fx_135_31]
  refine gg_cI 34 rfl (gm_128 _ _) (Nat.le_of_ble_eq_true rfl) (gb_vs rfl rfl rfl rfl rfl gcl_187 rfl rfl rfl) rfl (fun _ => rfl) (fun _ => rfl) (fun r1 s2 => ?_)
  refine gg_q (fun q3 => ?_)
  refine gg_zne 39 37 rfl rfl rfl rfl q3 ?_ ?_
  · refine gg_al 40 0 rfl rfl l0 ?_
    refine gg_s 41 rfl rfl ?_
    refine gg_gi 44 rfl rfl rfl gcl_187 rfl ?_
    refine gg_il 45 1 rfl rfl l1 ?_
    refine gg_add 46 rfl rfl ?_
    refine gg_pf 49 rfl rfl rfl gcl_187 rfl ⟨rfl, rfl⟩ ?_
    refine gg_al 50 0 rfl rfl l0 ?_
    refine gg_gi 53 rfl rfl rfl gcl_187 rfl ?_
    exact gg_ir rfl
  · refine gg_ci 38 0 rfl rfl ?_
    exact gg_ir rfl
theorem gm_135 (x1 : Int) {σ : gb_S} : gb_M (fx_135 x1 σ) 2 c0 eI 135 [vr 187, vi x1] σ := by
  rw [fx_135]
  refine gg_m (own := 8) (rt := (some .int)) (hnd := fun _ _ => none) (K := gk_135) (δ := 1) rfl rfl ?_
  refine gg_il 1 1 rfl rfl rfl ?_
  refine gg_ci 2 1 rfl rfl ?_
  refine gg_ci 4 100 rfl rfl ?_
  refine gg_cI 7 rfl (gm_126 _ _ _) (Nat.le_of_ble_eq_true rfl) (gb_ss rfl rfl rfl rfl rfl rfl rfl) rfl (fun _ => rfl) (fun _ => rfl) (fun r1 s2 => ?_)
  refine gg_s 8 rfl rfl ?_
  refine gg_al 9 0 rfl rfl (gl1 rfl rfl rfl) ?_
  refine gg_il 10 2 rfl rfl gs1 ?_
  refine gg_il 11 2 rfl rfl gs1 ?_
  refine gg_q (fun q3 => ?_)
  refine gg_zeq 30 14 rfl rfl rfl rfl q3 ?_ ?_
  · refine gg_ci 31 0 rfl rfl ?_
    exact gt_135_31 x1 0 r1 (gl1 rfl rfl rfl) (gl1 rfl rfl rfl)
  · refine gg_al 15 0 rfl rfl (gl1 rfl rfl rfl) ?_
    refine gg_gi 18 rfl rfl rfl gcl_187 rfl ?_
    refine gg_il 19 1 rfl rfl (gl1 rfl rfl rfl) ?_
    refine gg_add 20 rfl rfl ?_
    refine gg_ci 23 2000 rfl rfl ?_
    refine gg_q (fun q4 => ?_)
    refine gg_igt 30 26 rfl rfl rfl rfl q4 (gRl rfl) ?_ ?_
    · refine gg_ci 31 0 rfl rfl ?_
      exact gt_135_31 x1 0 r1 (gl1 rfl rfl rfl) (gl1 rfl rfl rfl)
    · refine gg_ci 27 1 rfl rfl ?_
      refine gg_go 31 rfl rfl rfl ?_
      exact gt_135_31 x1 1 r1 (gl1 rfl rfl rfl) (gl1 rfl rfl rfl)
/-- TreeclerkModel.today -/
def fx_136 (σ : gb_S) : Option gb_P :=
  gc (fx_130 (σ 187 0) σ) (fun r1 s2 =>
  some (.inl r1, s2))
theorem gm_136 {σ : gb_S} : gb_M (fx_136 σ) 2 c0 eI 136 [vr 187] σ := by
  rw [fx_136]
  refine gg_m (own := 8) (rt := (some .int)) (hnd := fun _ _ => none) (K := gk_136) (δ := 1) rfl rfl ?_
  refine gg_al 1 0 rfl rfl rfl ?_
  refine gg_al 2 0 rfl rfl rfl ?_
  refine gg_gi 5 rfl rfl rfl gcl_187 rfl ?_
  refine gg_cI 8 rfl (gm_130 _) (Nat.le_of_ble_eq_true rfl) (gb_vs rfl rfl rfl rfl rfl gcl_187 rfl rfl rfl) rfl (fun _ => rfl) (fun _ => rfl) (fun r1 s2 => ?_)
  exact gg_ir rfl
def fx_137_98 (x2 : Int) (σ : gb_S) : Option gb_P :=
  gq (0 ≤ x2 ∧ x2 < 14) (
  some (.inl (((gb_up (gb_up (gb_up σ 210 x2.toNat (σ 187 3)) 187 3 (((gb_up σ 210 x2.toNat (σ 187 3)) 187 3) + 1)) 187 29 1) 187 3) - 1), (gb_up (gb_up (gb_up σ 210 x2.toNat (σ 187 3)) 187 3 (((gb_up σ 210 x2.toNat (σ 187 3)) 187 3) + 1)) 187 29 1)))
def fx_137_57 (k : Nat) (x1 : Int) (x2 : Int) (σ : gb_S) : Option gb_P := match k with
  | 0 => none
  | k + 1 =>
    gq (gR x2) (
    (if 0 < x2 then
      gq (0 ≤ (x2 - 1) ∧ (x2 - 1) < 14) (
      gq (0 ≤ (σ 210 (x2 - 1).toNat) ∧ (σ 210 (x2 - 1).toNat) < 14) (
      gq (gR (σ 188 (σ 210 (x2 - 1).toNat).toNat)) (
      gq (gR x1) (
      (if x1 < (σ 188 (σ 210 (x2 - 1).toNat).toNat) then
        gq (0 ≤ x2 ∧ x2 < 14) (
        fx_137_57 k x1 (x2 + (-1)) (gb_up σ 210 x2.toNat (σ 210 (x2 - 1).toNat)))
      else
        fx_137_98 x2 σ)))))
    else
      fx_137_98 x2 σ))
def fx_137_24 (x1 : Int) (y0 : Int) (y1 : Int) (σ : gb_S) : Option gb_P :=
  gc (fx_128 y1 y0 σ) (fun r1 s2 =>
  gq (gR r1) (
  (if r1 = 0 then
    some (.inl 0, s2)
  else
    gq (0 ≤ (s2 187 3) ∧ (s2 187 3) < 14) (
    gq (0 ≤ ((gb_up s2 188 (s2 187 3).toNat x1) 187 3) ∧ ((gb_up s2 188 (s2 187 3).toNat x1) 187 3) < 14) (
    fx_137_57 gFU x1 ((gb_up (gb_up s2 188 (s2 187 3).toNat x1) 189 ((gb_up s2 188 (s2 187 3).toNat x1) 187 3).toNat (-1)) 187 3) (gb_up (gb_up s2 188 (s2 187 3).toNat x1) 189 ((gb_up s2 188 (s2 187 3).toNat x1) 187 3).toNat (-1)))))))
/-- TreeclerkModel.birth -/
def fx_137 (x1 : Int) (σ : gb_S) : Option gb_P :=
  gc (fx_126 x1 0 (σ 187 0) σ) (fun r1 s2 =>
  gq (gR (s2 187 3)) (
  (if (s2 187 3) < 14 then
    fx_137_24 x1 1 r1 s2
  else
    fx_137_24 x1 0 r1 s2)))
theorem gt_137_98 (x2 : Int) {lo : gh_L} (l0 : lo.lookup 0 = some (vr 187)) (l2 : lo.lookup 2 = some (vi x2)) {σ : gb_S} : gb_G (fx_137_98 x2 σ) 1 8 (some .int) (fun _ _ => none) gk_137 c0 eI 98 lo [] σ := by
  rw [fx_137_98]
  refine gg_al 99 0 rfl rfl l0 ?_
  refine gg_gr 102 210 rfl rfl rfl gcl_187 rfl ?_
  refine gg_il 103 2 rfl rfl l2 ?_
  refine gg_al 104 0 rfl rfl l0 ?_
  refine gg_gi 107 rfl rfl rfl gcl_187 rfl ?_
  refine gg_q (fun q1 => ?_)
  refine gg_ias 108 rfl rfl gar_210 q1 ?_
  refine gg_al 109 0 rfl rfl l0 ?_
  refine gg_s 110 rfl rfl ?_
  refine gg_gi 113 rfl rfl rfl gcl_187 rfl ?_
  refine gg_ci 114 1 rfl rfl ?_
  refine gg_add 115 rfl rfl ?_
  refine gg_pf 118 rfl rfl rfl gcl_187 rfl ⟨rfl, rfl⟩ ?_
  refine gg_al 119 0 rfl rfl l0 ?_
  refine gg_ci 120 1 rfl rfl ?_
  refine gg_pf 123 rfl rfl rfl gcl_187 rfl ⟨rfl, rfl⟩ ?_
  refine gg_al 124 0 rfl rfl l0 ?_
  refine gg_gi 127 rfl rfl rfl gcl_187 rfl ?_
  refine gg_ci 128 1 rfl rfl ?_
  refine gg_sub 129 rfl rfl ?_
  exact gg_ir rfl
theorem gt_137_57 (k : Nat) : ∀ (x1 : Int) (x2 : Int) {lo : gh_L} (l0 : lo.lookup 0 = some (vr 187)) (l1 : lo.lookup 1 = some (vi x1)) (l2 : lo.lookup 2 = some (vi x2)) {σ : gb_S}, gb_G (fx_137_57 k x1 x2 σ) 1 8 (some .int) (fun _ _ => none) gk_137 c0 eI 57 lo [] σ := by
  induction k with
  | zero => intros; exact gg_n
  | succ k ih =>
    intro x1 x2 lo l0 l1 l2 σ
    rw [fx_137_57]
    refine gg_il 58 2 rfl rfl l2 ?_
    refine gg_q (fun q1 => ?_)
    refine gg_zle 98 61 rfl rfl rfl rfl q1 ?_ ?_
    · exact gt_137_98 x2 l0 l2
    · refine gg_al 62 0 rfl rfl l0 ?_
      refine gg_gr 65 188 rfl rfl rfl gcl_187 rfl ?_
      refine gg_al 66 0 rfl rfl l0 ?_
      refine gg_gr 69 210 rfl rfl rfl gcl_187 rfl ?_
      refine gg_il 70 2 rfl rfl l2 ?_
      refine gg_ci 71 1 rfl rfl ?_
      refine gg_sub 72 rfl rfl ?_
      refine gg_q (fun q2 => ?_)
      refine gg_ial 73 rfl rfl gar_210 q2 ?_
      refine gg_q (fun q3 => ?_)
      refine gg_ial 74 rfl rfl gar_188 q3 ?_
      refine gg_il 75 1 rfl rfl l1 ?_
      refine gg_q (fun q4 => ?_)
      refine gg_q (fun q5 => ?_)
      refine gg_ile 98 78 rfl rfl rfl rfl q4 q5 ?_ ?_
      · exact gt_137_98 x2 l0 l2
      · refine gg_al 79 0 rfl rfl l0 ?_
        refine gg_gr 82 210 rfl rfl rfl gcl_187 rfl ?_
        refine gg_il 83 2 rfl rfl l2 ?_
        refine gg_al 84 0 rfl rfl l0 ?_
        refine gg_gr 87 210 rfl rfl rfl gcl_187 rfl ?_
        refine gg_il 88 2 rfl rfl l2 ?_
        refine gg_ci 89 1 rfl rfl ?_
        refine gg_sub 90 rfl rfl ?_
        refine gg_ial 91 rfl rfl gar_210 q2 ?_
        refine gg_q (fun q6 => ?_)
        refine gg_ias 92 rfl rfl gar_210 q6 ?_
        refine gg_inc 95 rfl rfl l2 ?_
        refine gg_go 57 rfl rfl rfl ?_
        exact ih x1 (x2 + (-1)) (gl1 rfl rfl l0) (gl1 rfl rfl l1) gs1
theorem gt_137_24 (x1 : Int) (y0 : Int) (y1 : Int) {lo : gh_L} (l0 : lo.lookup 0 = some (vr 187)) (l1 : lo.lookup 1 = some (vi x1)) {σ : gb_S} : gb_G (fx_137_24 x1 y0 y1 σ) 1 8 (some .int) (fun _ _ => none) gk_137 c0 eI 24 lo [vi y0, vi y1, vr 187] σ := by
  rw [fx_137_24]
  refine gg_cI 27 rfl (gm_128 _ _) (Nat.le_of_ble_eq_true rfl) (gb_vs rfl rfl rfl rfl rfl gcl_187 rfl rfl rfl) rfl (fun _ => rfl) (fun _ => rfl) (fun r1 s2 => ?_)
  refine gg_q (fun q3 => ?_)
  refine gg_zne 32 30 rfl rfl rfl rfl q3 ?_ ?_
  · refine gg_al 33 0 rfl rfl l0 ?_
    refine gg_gr 36 188 rfl rfl rfl gcl_187 rfl ?_
    refine gg_al 37 0 rfl rfl l0 ?_
    refine gg_gi 40 rfl rfl rfl gcl_187 rfl ?_
    refine gg_il 41 1 rfl rfl l1 ?_
    refine gg_q (fun q4 => ?_)
    refine gg_ias 42 rfl rfl gar_188 q4 ?_
    refine gg_al 43 0 rfl rfl l0 ?_
    refine gg_gr 46 189 rfl rfl rfl gcl_187 rfl ?_
    refine gg_al 47 0 rfl rfl l0 ?_
    refine gg_gi 50 rfl rfl rfl gcl_187 rfl ?_
    refine gg_ci 51 (-1) rfl rfl ?_
    refine gg_q (fun q5 => ?_)
    refine gg_ias 52 rfl rfl gar_189 q5 ?_
    refine gg_al 53 0 rfl rfl l0 ?_
    refine gg_gi 56 rfl rfl rfl gcl_187 rfl ?_
    refine gg_s 57 rfl rfl ?_
    exact gt_137_57 gFU x1 ((gb_up (gb_up s2 188 (s2 187 3).toNat x1) 189 ((gb_up s2 188 (s2 187 3).toNat x1) 187 3).toNat (-1)) 187 3) (gl1 rfl rfl l0) (gl1 rfl rfl l1) gs1
  · refine gg_ci 31 0 rfl rfl ?_
    exact gg_ir rfl
theorem gm_137 (x1 : Int) {σ : gb_S} : gb_M (fx_137 x1 σ) 2 c0 eI 137 [vr 187, vi x1] σ := by
  rw [fx_137]
  refine gg_m (own := 8) (rt := (some .int)) (hnd := fun _ _ => none) (K := gk_137) (δ := 1) rfl rfl ?_
  refine gg_al 1 0 rfl rfl rfl ?_
  refine gg_il 2 1 rfl rfl rfl ?_
  refine gg_ci 3 0 rfl rfl ?_
  refine gg_al 4 0 rfl rfl rfl ?_
  refine gg_gi 7 rfl rfl rfl gcl_187 rfl ?_
  refine gg_cI 10 rfl (gm_126 _ _ _) (Nat.le_of_ble_eq_true rfl) (gb_ss rfl rfl rfl rfl rfl rfl rfl) rfl (fun _ => rfl) (fun _ => rfl) (fun r1 s2 => ?_)
  refine gg_al 11 0 rfl rfl rfl ?_
  refine gg_gi 14 rfl rfl rfl gcl_187 rfl ?_
  refine gg_ci 16 14 rfl rfl ?_
  refine gg_q (fun q3 => ?_)
  refine gg_ige 23 19 rfl rfl rfl rfl q3 (gRl rfl) ?_ ?_
  · refine gg_ci 24 0 rfl rfl ?_
    exact gt_137_24 x1 0 r1 rfl rfl
  · refine gg_ci 20 1 rfl rfl ?_
    refine gg_go 24 rfl rfl rfl ?_
    exact gt_137_24 x1 1 r1 rfl rfl
def fx_138_171 (k50 : Int → Int → Int → gb_S → Option gb_P) (x1 : Int) (x4 : Int) (x5 : Int) (y0 : Int) (y1 : Int) (σ : gb_S) : Option gb_P :=
  gq (0 ≤ x4 ∧ x4 < 14) (
  gq (gR (σ 198 x4.toNat)) (
  (if (σ 198 x4.toNat) = 0 then
    k50 x1 (y1 + y0) (x4 + 1) (gb_up σ 202 x4.toNat x5)
  else
    k50 x1 (y1 + y0) (x4 + 1) (gb_up σ 202 x4.toNat (σ 202 x4.toNat)))))
def fx_138_146 (k50 : Int → Int → Int → gb_S → Option gb_P) (x1 : Int) (x3 : Int) (x4 : Int) (x5 : Int) (σ : gb_S) : Option gb_P :=
  gq (0 ≤ x4 ∧ x4 < 14) (
  gq (gR (σ 198 x4.toNat)) (
  (if (σ 198 x4.toNat) = 0 then
    fx_138_171 k50 x1 x4 x5 ((σ 202 x4.toNat) - x5) x3 σ
  else
    fx_138_171 k50 x1 x4 x5 0 x3 σ)))
def fx_138_65 (k : Nat) (k50 : Int → Int → Int → gb_S → Option gb_P) (x1 : Int) (x3 : Int) (x4 : Int) (x5 : Int) (x6 : Int) (σ : gb_S) : Option gb_P := match k with
  | 0 => none
  | k + 1 =>
    gq (0 ≤ x4 ∧ x4 < 14) (
    gq (gR x6) (
    gq (gR (σ 202 x4.toNat)) (
    (if x6 < (σ 202 x4.toNat) then
      gq (gR (σ 198 x4.toNat)) (
      (if (σ 198 x4.toNat) = 0 then
        gq (0 ≤ ((14 * x4) + x6) ∧ ((14 * x4) + x6) < 196) (
        gq (0 ≤ ((14 * x4) + x5) ∧ ((14 * x4) + x5) < 196) (
        gq (gR ((gb_up σ 201 ((14 * x4) + x5).toNat (σ 201 ((14 * x4) + x6).toNat)) 201 ((14 * x4) + x6).toNat)) (
        gq (gR x1) (
        (if ((gb_up σ 201 ((14 * x4) + x5).toNat (σ 201 ((14 * x4) + x6).toNat)) 201 ((14 * x4) + x6).toNat) = x1 then
          fx_138_65 k k50 x1 x3 x4 (x5 + 0) (x6 + 1) (gb_up σ 201 ((14 * x4) + x5).toNat (σ 201 ((14 * x4) + x6).toNat))
        else
          fx_138_65 k k50 x1 x3 x4 (x5 + 1) (x6 + 1) (gb_up σ 201 ((14 * x4) + x5).toNat (σ 201 ((14 * x4) + x6).toNat)))))))
      else
        fx_138_146 k50 x1 x3 x4 x5 σ))
    else
      fx_138_146 k50 x1 x3 x4 x5 σ))))
def fx_138_50 (k : Nat) (x1 : Int) (x3 : Int) (x4 : Int) (σ : gb_S) : Option gb_P := match k with
  | 0 => none
  | k + 1 =>
    gq (gR x4) (
    gq (gR (σ 187 3)) (
    (if x4 < (σ 187 3) then
      fx_138_65 gFU (fx_138_50 k) x1 x3 x4 0 0 σ
    else
      some (.inl x3, σ))))
def fx_138_27 (x1 : Int) (y0 : Int) (y1 : Int) (σ : gb_S) : Option gb_P :=
  gc (fx_128 y1 y0 σ) (fun r1 s2 =>
  gq (gR r1) (
  (if r1 = 0 then
    some (.inl 0, s2)
  else
    gq (0 ≤ x1 ∧ x1 < 14) (
    fx_138_50 gFU x1 0 0 (gb_up s2 189 x1.toNat (s2 187 0))))))
/-- TreeclerkModel.death -/
def fx_138 (x1 : Int) (σ : gb_S) : Option gb_P :=
  gc (fx_131 x1 σ) (fun r1 s2 =>
  gq (gR r1) (
  (if r1 = 0 then
    fx_138_27 x1 0 r1 s2
  else
    gq (0 ≤ x1 ∧ x1 < 14) (
    gq (gR (s2 189 x1.toNat)) (
    (if (s2 189 x1.toNat) = (-1) then
      fx_138_27 x1 1 r1 s2
    else
      fx_138_27 x1 0 r1 s2))))))
theorem gt_138_171 {k50 : Int → Int → Int → gb_S → Option gb_P} (hk50 : ∀ (x1 : Int) (x3 : Int) (x4 : Int) {lo : gh_L} (l0 : lo.lookup 0 = some (vr 187)) (l1 : lo.lookup 1 = some (vi x1)) (l3 : lo.lookup 3 = some (vi x3)) (l4 : lo.lookup 4 = some (vi x4)) {σ : gb_S}, gb_G (k50 x1 x3 x4 σ) 2 8 (some .int) (fun _ _ => none) gk_138 c0 eI 50 lo [] σ) (x1 : Int) (x4 : Int) (x5 : Int) (y0 : Int) (y1 : Int) {lo : gh_L} (l0 : lo.lookup 0 = some (vr 187)) (l1 : lo.lookup 1 = some (vi x1)) (l4 : lo.lookup 4 = some (vi x4)) (l5 : lo.lookup 5 = some (vi x5)) {σ : gb_S} : gb_G (fx_138_171 k50 x1 x4 x5 y0 y1 σ) 2 8 (some .int) (fun _ _ => none) gk_138 c0 eI 171 lo [vi y0, vi y1] σ := by
  rw [fx_138_171]
  refine gg_add 172 rfl rfl ?_
  refine gg_s 173 rfl rfl ?_
  refine gg_al 174 0 rfl rfl (gl1 rfl rfl l0) ?_
  refine gg_gr 177 202 rfl rfl rfl gcl_187 rfl ?_
  refine gg_il 179 4 rfl rfl (gl1 rfl rfl l4) ?_
  refine gg_al 180 0 rfl rfl (gl1 rfl rfl l0) ?_
  refine gg_gr 183 198 rfl rfl rfl gcl_187 rfl ?_
  refine gg_il 185 4 rfl rfl (gl1 rfl rfl l4) ?_
  refine gg_q (fun q1 => ?_)
  refine gg_bal 186 rfl rfl gar_198 q1 ?_
  refine gg_q (fun q2 => ?_)
  refine gg_zeq 199 189 rfl rfl rfl rfl q2 ?_ ?_
  · refine gg_il 201 5 rfl rfl (gl1 rfl rfl l5) ?_
    refine gg_ias 202 rfl rfl gar_202 q1 ?_
    refine gg_inc 205 rfl rfl (gl1 rfl rfl l4) ?_
    refine gg_go 50 rfl rfl rfl ?_
    exact hk50 x1 (y1 + y0) (x4 + 1) (gl1 rfl rfl (gl1 rfl rfl l0)) (gl1 rfl rfl (gl1 rfl rfl l1)) (gl1 rfl rfl gs1) gs1
  · refine gg_al 190 0 rfl rfl (gl1 rfl rfl l0) ?_
    refine gg_gr 193 202 rfl rfl rfl gcl_187 rfl ?_
    refine gg_il 195 4 rfl rfl (gl1 rfl rfl l4) ?_
    refine gg_ial 196 rfl rfl gar_202 q1 ?_
    refine gg_go 201 rfl rfl rfl ?_
    refine gg_ias 202 rfl rfl gar_202 q1 ?_
    refine gg_inc 205 rfl rfl (gl1 rfl rfl l4) ?_
    refine gg_go 50 rfl rfl rfl ?_
    exact hk50 x1 (y1 + y0) (x4 + 1) (gl1 rfl rfl (gl1 rfl rfl l0)) (gl1 rfl rfl (gl1 rfl rfl l1)) (gl1 rfl rfl gs1) gs1
theorem gt_138_146 {k50 : Int → Int → Int → gb_S → Option gb_P} (hk50 : ∀ (x1 : Int) (x3 : Int) (x4 : Int) {lo : gh_L} (l0 : lo.lookup 0 = some (vr 187)) (l1 : lo.lookup 1 = some (vi x1)) (l3 : lo.lookup 3 = some (vi x3)) (l4 : lo.lookup 4 = some (vi x4)) {σ : gb_S}, gb_G (k50 x1 x3 x4 σ) 2 8 (some .int) (fun _ _ => none) gk_138 c0 eI 50 lo [] σ) (x1 : Int) (x3 : Int) (x4 : Int) (x5 : Int) {lo : gh_L} (l0 : lo.lookup 0 = some (vr 187)) (l1 : lo.lookup 1 = some (vi x1)) (l3 : lo.lookup 3 = some (vi x3)) (l4 : lo.lookup 4 = some (vi x4)) (l5 : lo.lookup 5 = some (vi x5)) {σ : gb_S} : gb_G (fx_138_146 k50 x1 x3 x4 x5 σ) 2 8 (some .int) (fun _ _ => none) gk_138 c0 eI 146 lo [] σ := by
  rw [fx_138_146]
  refine gg_il 147 3 rfl rfl l3 ?_
  refine gg_al 148 0 rfl rfl l0 ?_
  refine gg_gr 151 198 rfl rfl rfl gcl_187 rfl ?_
  refine gg_il 153 4 rfl rfl l4 ?_
  refine gg_q (fun q1 => ?_)
  refine gg_bal 154 rfl rfl gar_198 q1 ?_
  refine gg_q (fun q2 => ?_)
  refine gg_zeq 161 157 rfl rfl rfl rfl q2 ?_ ?_
  · refine gg_al 162 0 rfl rfl l0 ?_
    refine gg_gr 165 202 rfl rfl rfl gcl_187 rfl ?_
    refine gg_il 167 4 rfl rfl l4 ?_
    refine gg_ial 168 rfl rfl gar_202 q1 ?_
    refine gg_il 170 5 rfl rfl l5 ?_
    refine gg_sub 171 rfl rfl ?_
    exact gt_138_171 hk50 x1 x4 x5 ((σ 202 x4.toNat) - x5) x3 l0 l1 l4 l5
  · refine gg_ci 158 0 rfl rfl ?_
    refine gg_go 171 rfl rfl rfl ?_
    exact gt_138_171 hk50 x1 x4 x5 0 x3 l0 l1 l4 l5
theorem gt_138_65 (k : Nat) {k50 : Int → Int → Int → gb_S → Option gb_P} (hk50 : ∀ (x1 : Int) (x3 : Int) (x4 : Int) {lo : gh_L} (l0 : lo.lookup 0 = some (vr 187)) (l1 : lo.lookup 1 = some (vi x1)) (l3 : lo.lookup 3 = some (vi x3)) (l4 : lo.lookup 4 = some (vi x4)) {σ : gb_S}, gb_G (k50 x1 x3 x4 σ) 2 8 (some .int) (fun _ _ => none) gk_138 c0 eI 50 lo [] σ) : ∀ (x1 : Int) (x3 : Int) (x4 : Int) (x5 : Int) (x6 : Int) {lo : gh_L} (l0 : lo.lookup 0 = some (vr 187)) (l1 : lo.lookup 1 = some (vi x1)) (l3 : lo.lookup 3 = some (vi x3)) (l4 : lo.lookup 4 = some (vi x4)) (l5 : lo.lookup 5 = some (vi x5)) (l6 : lo.lookup 6 = some (vi x6)) {σ : gb_S}, gb_G (fx_138_65 k k50 x1 x3 x4 x5 x6 σ) 2 8 (some .int) (fun _ _ => none) gk_138 c0 eI 65 lo [] σ := by
  induction k with
  | zero => intros; exact gg_n
  | succ k ih =>
    intro x1 x3 x4 x5 x6 lo l0 l1 l3 l4 l5 l6 σ
    rw [fx_138_65]
    refine gg_il 67 6 rfl rfl l6 ?_
    refine gg_al 68 0 rfl rfl l0 ?_
    refine gg_gr 71 202 rfl rfl rfl gcl_187 rfl ?_
    refine gg_il 73 4 rfl rfl l4 ?_
    refine gg_q (fun q1 => ?_)
    refine gg_ial 74 rfl rfl gar_202 q1 ?_
    refine gg_q (fun q2 => ?_)
    refine gg_q (fun q3 => ?_)
    refine gg_ige 146 77 rfl rfl rfl rfl q2 q3 ?_ ?_
    · exact gt_138_146 hk50 x1 x3 x4 x5 l0 l1 l3 l4 l5
    · refine gg_al 78 0 rfl rfl l0 ?_
      refine gg_gr 81 198 rfl rfl rfl gcl_187 rfl ?_
      refine gg_il 83 4 rfl rfl l4 ?_
      refine gg_bal 84 rfl rfl gar_198 q1 ?_
      refine gg_q (fun q4 => ?_)
      refine gg_zne 146 87 rfl rfl rfl rfl q4 ?_ ?_
      · exact gt_138_146 hk50 x1 x3 x4 x5 l0 l1 l3 l4 l5
      · refine gg_al 88 0 rfl rfl l0 ?_
        refine gg_gr 91 201 rfl rfl rfl gcl_187 rfl ?_
        refine gg_ci 93 14 rfl rfl ?_
        refine gg_il 95 4 rfl rfl l4 ?_
        refine gg_mul 96 rfl rfl ?_
        refine gg_il 98 5 rfl rfl l5 ?_
        refine gg_add 99 rfl rfl ?_
        refine gg_al 100 0 rfl rfl l0 ?_
        refine gg_gr 103 201 rfl rfl rfl gcl_187 rfl ?_
        refine gg_ci 105 14 rfl rfl ?_
        refine gg_il 107 4 rfl rfl l4 ?_
        refine gg_mul 108 rfl rfl ?_
        refine gg_il 110 6 rfl rfl l6 ?_
        refine gg_add 111 rfl rfl ?_
        refine gg_q (fun q5 => ?_)
        refine gg_ial 112 rfl rfl gar_201 q5 ?_
        refine gg_q (fun q6 => ?_)
        refine gg_ias 113 rfl rfl gar_201 q6 ?_
        refine gg_il 115 5 rfl rfl l5 ?_
        refine gg_al 116 0 rfl rfl l0 ?_
        refine gg_gr 119 201 rfl rfl rfl gcl_187 rfl ?_
        refine gg_ci 121 14 rfl rfl ?_
        refine gg_il 123 4 rfl rfl l4 ?_
        refine gg_mul 124 rfl rfl ?_
        refine gg_il 126 6 rfl rfl l6 ?_
        refine gg_add 127 rfl rfl ?_
        refine gg_ial 128 rfl rfl gar_201 q5 ?_
        refine gg_il 129 1 rfl rfl l1 ?_
        refine gg_q (fun q7 => ?_)
        refine gg_q (fun q8 => ?_)
        refine gg_ine 136 132 rfl rfl rfl rfl q7 q8 ?_ ?_
        · refine gg_ci 137 1 rfl rfl ?_
          refine gg_add 138 rfl rfl ?_
          refine gg_s 140 rfl rfl ?_
          refine gg_inc 143 rfl rfl (gl1 rfl rfl l6) ?_
          refine gg_go 65 rfl rfl rfl ?_
          exact ih x1 x3 x4 (x5 + 1) (x6 + 1) (gl1 rfl rfl (gl1 rfl rfl l0)) (gl1 rfl rfl (gl1 rfl rfl l1)) (gl1 rfl rfl (gl1 rfl rfl l3)) (gl1 rfl rfl (gl1 rfl rfl l4)) (gl1 rfl rfl gs1) gs1
        · refine gg_ci 133 0 rfl rfl ?_
          refine gg_go 137 rfl rfl rfl ?_
          refine gg_add 138 rfl rfl ?_
          refine gg_s 140 rfl rfl ?_
          refine gg_inc 143 rfl rfl (gl1 rfl rfl l6) ?_
          refine gg_go 65 rfl rfl rfl ?_
          exact ih x1 x3 x4 (x5 + 0) (x6 + 1) (gl1 rfl rfl (gl1 rfl rfl l0)) (gl1 rfl rfl (gl1 rfl rfl l1)) (gl1 rfl rfl (gl1 rfl rfl l3)) (gl1 rfl rfl (gl1 rfl rfl l4)) (gl1 rfl rfl gs1) gs1
theorem gt_138_50 (k : Nat) : ∀ (x1 : Int) (x3 : Int) (x4 : Int) {lo : gh_L} (l0 : lo.lookup 0 = some (vr 187)) (l1 : lo.lookup 1 = some (vi x1)) (l3 : lo.lookup 3 = some (vi x3)) (l4 : lo.lookup 4 = some (vi x4)) {σ : gb_S}, gb_G (fx_138_50 k x1 x3 x4 σ) 2 8 (some .int) (fun _ _ => none) gk_138 c0 eI 50 lo [] σ := by
  induction k with
  | zero => intros; exact gg_n
  | succ k ih =>
    intro x1 x3 x4 lo l0 l1 l3 l4 σ
    rw [fx_138_50]
    refine gg_il 52 4 rfl rfl l4 ?_
    refine gg_al 53 0 rfl rfl l0 ?_
    refine gg_gi 56 rfl rfl rfl gcl_187 rfl ?_
    refine gg_q (fun q1 => ?_)
    refine gg_q (fun q2 => ?_)
    refine gg_ige 208 59 rfl rfl rfl rfl q1 q2 ?_ ?_
    · refine gg_il 209 3 rfl rfl l3 ?_
      exact gg_ir rfl
    · refine gg_ci 60 0 rfl rfl ?_
      refine gg_s 62 rfl rfl ?_
      refine gg_ci 63 0 rfl rfl ?_
      refine gg_s 65 rfl rfl ?_
      exact gt_138_65 gFU ih x1 x3 x4 0 0 (gl1 rfl rfl (gl1 rfl rfl l0)) (gl1 rfl rfl (gl1 rfl rfl l1)) (gl1 rfl rfl (gl1 rfl rfl l3)) (gl1 rfl rfl (gl1 rfl rfl l4)) (gl1 rfl rfl gs1) gs1
theorem gt_138_27 (x1 : Int) (y0 : Int) (y1 : Int) {lo : gh_L} (l0 : lo.lookup 0 = some (vr 187)) (l1 : lo.lookup 1 = some (vi x1)) {σ : gb_S} : gb_G (fx_138_27 x1 y0 y1 σ) 2 8 (some .int) (fun _ _ => none) gk_138 c0 eI 27 lo [vi y0, vi y1, vr 187] σ := by
  rw [fx_138_27]
  refine gg_cI 30 rfl (gm_128 _ _) (Nat.le_of_ble_eq_true rfl) (gb_vs rfl rfl rfl rfl rfl gcl_187 rfl rfl rfl) rfl (fun _ => rfl) (fun _ => rfl) (fun r1 s2 => ?_)
  refine gg_q (fun q3 => ?_)
  refine gg_zne 35 33 rfl rfl rfl rfl q3 ?_ ?_
  · refine gg_al 36 0 rfl rfl l0 ?_
    refine gg_gr 39 189 rfl rfl rfl gcl_187 rfl ?_
    refine gg_il 40 1 rfl rfl l1 ?_
    refine gg_al 41 0 rfl rfl l0 ?_
    refine gg_gi 44 rfl rfl rfl gcl_187 rfl ?_
    refine gg_q (fun q4 => ?_)
    refine gg_ias 45 rfl rfl gar_189 q4 ?_
    refine gg_ci 46 0 rfl rfl ?_
    refine gg_s 47 rfl rfl ?_
    refine gg_ci 48 0 rfl rfl ?_
    refine gg_s 50 rfl rfl ?_
    exact gt_138_50 gFU x1 0 0 (gl1 rfl rfl (gl1 rfl rfl l0)) (gl1 rfl rfl (gl1 rfl rfl l1)) (gl1 rfl rfl gs1) gs1
  · refine gg_ci 34 0 rfl rfl ?_
    exact gg_ir rfl
theorem gm_138 (x1 : Int) {σ : gb_S} : gb_M (fx_138 x1 σ) 3 c0 eI 138 [vr 187, vi x1] σ := by
  rw [fx_138]
  refine gg_m (own := 8) (rt := (some .int)) (hnd := fun _ _ => none) (K := gk_138) (δ := 2) rfl rfl ?_
  refine gg_al 1 0 rfl rfl rfl ?_
  refine gg_il 2 1 rfl rfl rfl ?_
  refine gg_cI 5 rfl (gm_131 _) (Nat.le_of_ble_eq_true rfl) (gb_vs rfl rfl rfl rfl rfl gcl_187 rfl rfl rfl) rfl (fun _ => rfl) (fun _ => rfl) (fun r1 s2 => ?_)
  refine gg_s 6 rfl rfl ?_
  refine gg_al 7 0 rfl rfl (gl1 rfl rfl rfl) ?_
  refine gg_il 8 2 rfl rfl gs1 ?_
  refine gg_il 9 2 rfl rfl gs1 ?_
  refine gg_q (fun q3 => ?_)
  refine gg_zeq 26 12 rfl rfl rfl rfl q3 ?_ ?_
  · refine gg_ci 27 0 rfl rfl ?_
    exact gt_138_27 x1 0 r1 (gl1 rfl rfl rfl) (gl1 rfl rfl rfl)
  · refine gg_al 13 0 rfl rfl (gl1 rfl rfl rfl) ?_
    refine gg_gr 16 189 rfl rfl rfl gcl_187 rfl ?_
    refine gg_il 17 1 rfl rfl (gl1 rfl rfl rfl) ?_
    refine gg_q (fun q4 => ?_)
    refine gg_ial 18 rfl rfl gar_189 q4 ?_
    refine gg_ci 19 (-1) rfl rfl ?_
    refine gg_q (fun q5 => ?_)
    refine gg_ine 26 22 rfl rfl rfl rfl q5 (gRl rfl) ?_ ?_
    · refine gg_ci 27 0 rfl rfl ?_
      exact gt_138_27 x1 0 r1 (gl1 rfl rfl rfl) (gl1 rfl rfl rfl)
    · refine gg_ci 23 1 rfl rfl ?_
      refine gg_go 27 rfl rfl rfl ?_
      exact gt_138_27 x1 1 r1 (gl1 rfl rfl rfl) (gl1 rfl rfl rfl)
/-- TreeclerkModel.people -/
def fx_139 (σ : gb_S) : Option gb_P :=
  gc (fx_130 (σ 187 3) σ) (fun r1 s2 =>
  some (.inl r1, s2))
theorem gm_139 {σ : gb_S} : gb_M (fx_139 σ) 2 c0 eI 139 [vr 187] σ := by
  rw [fx_139]
  refine gg_m (own := 8) (rt := (some .int)) (hnd := fun _ _ => none) (K := gk_139) (δ := 1) rfl rfl ?_
  refine gg_al 1 0 rfl rfl rfl ?_
  refine gg_al 2 0 rfl rfl rfl ?_
  refine gg_gi 5 rfl rfl rfl gcl_187 rfl ?_
  refine gg_cI 8 rfl (gm_130 _) (Nat.le_of_ble_eq_true rfl) (gb_vs rfl rfl rfl rfl rfl gcl_187 rfl rfl rfl) rfl (fun _ => rfl) (fun _ => rfl) (fun r1 s2 => ?_)
  exact gg_ir rfl
/-- TreeclerkModel.isAlive -/
def fx_140 (x1 : Int) (σ : gb_S) : Option gb_P :=
  gc (fx_131 x1 σ) (fun r1 s2 =>
  gc (fx_127 r1 s2) (fun r3 s4 =>
  gq (gR r3) (
  (if r3 = 0 then
    some (.inl 0, s4)
  else
    gq (0 ≤ x1 ∧ x1 < 14) (
    gq (gR (s4 189 x1.toNat)) (
    (if (s4 189 x1.toNat) = (-1) then
      some (.inl 1, s4)
    else
      some (.inl 0, s4))))))))
theorem gm_140 (x1 : Int) {σ : gb_S} : gb_M (fx_140 x1 σ) 3 c0 eI 140 [vr 187, vi x1] σ := by
  rw [fx_140]
  refine gg_m (own := 8) (rt := (some .boolean)) (hnd := fun _ _ => none) (K := gk_140) (δ := 2) rfl rfl ?_
  refine gg_al 1 0 rfl rfl rfl ?_
  refine gg_al 2 0 rfl rfl rfl ?_
  refine gg_il 3 1 rfl rfl rfl ?_
  refine gg_cI 6 rfl (gm_131 _) (Nat.le_of_ble_eq_true rfl) (gb_vs rfl rfl rfl rfl rfl gcl_187 rfl rfl rfl) rfl (fun _ => rfl) (fun _ => rfl) (fun r1 s2 => ?_)
  refine gg_cI 9 rfl (gm_127 _) (Nat.le_of_ble_eq_true rfl) (gb_vs rfl rfl rfl rfl rfl gcl_187 rfl rfl rfl) rfl (fun _ => rfl) (fun _ => rfl) (fun r3 s4 => ?_)
  refine gg_q (fun q5 => ?_)
  refine gg_zeq 26 12 rfl rfl rfl rfl q5 ?_ ?_
  · refine gg_ci 27 0 rfl rfl ?_
    exact gg_zr rfl (Or.inl rfl)
  · refine gg_al 13 0 rfl rfl rfl ?_
    refine gg_gr 16 189 rfl rfl rfl gcl_187 rfl ?_
    refine gg_il 17 1 rfl rfl rfl ?_
    refine gg_q (fun q6 => ?_)
    refine gg_ial 18 rfl rfl gar_189 q6 ?_
    refine gg_ci 19 (-1) rfl rfl ?_
    refine gg_q (fun q7 => ?_)
    refine gg_ine 26 22 rfl rfl rfl rfl q7 (gRl rfl) ?_ ?_
    · refine gg_ci 27 0 rfl rfl ?_
      exact gg_zr rfl (Or.inl rfl)
    · refine gg_ci 23 1 rfl rfl ?_
      refine gg_go 27 rfl rfl rfl ?_
      exact gg_zr rfl (Or.inr rfl)
def fx_141_22 (k : Nat) (x1 : Int) (x2 : Int) (x3 : Int) (σ : gb_S) : Option gb_P := match k with
  | 0 => none
  | k + 1 =>
    gq (gR x3) (
    gq (gR (σ 187 12)) (
    (if x3 < (σ 187 12) then
      gq (0 ≤ x3 ∧ x3 < 30) (
      gq (gR (σ 196 x3.toNat)) (
      (if (σ 196 x3.toNat) = 0 then
        fx_141_22 k x1 (x2 - 0) (x3 + 1) σ
      else
        gq (gR (σ 194 x3.toNat)) (
        gq (gR x1) (
        (if (σ 194 x3.toNat) = x1 then
          fx_141_22 k x1 (x2 - (σ 195 x3.toNat)) (x3 + 1) σ
        else
          fx_141_22 k x1 (x2 - 0) (x3 + 1) σ))))))
    else
      gq (gR x2) (
      (if x2 < 0 then
        some (.inl 0, σ)
      else
        some (.inl x2, σ))))))
/-- TreeclerkModel.strong -/
def fx_141 (x1 : Int) (σ : gb_S) : Option gb_P :=
  gq (0 ≤ x1 ∧ x1 < 30) (
  gq (gR (σ 193 x1.toNat)) (
  (if (σ 193 x1.toNat) = 0 then
    fx_141_22 gFU x1 (σ 192 x1.toNat) 0 σ
  else
    fx_141_22 gFU x1 0 0 σ)))
theorem gt_141_22 (k : Nat) : ∀ (x1 : Int) (x2 : Int) (x3 : Int) {lo : gh_L} (l0 : lo.lookup 0 = some (vr 187)) (l1 : lo.lookup 1 = some (vi x1)) (l2 : lo.lookup 2 = some (vi x2)) (l3 : lo.lookup 3 = some (vi x3)) {σ : gb_S}, gb_G (fx_141_22 k x1 x2 x3 σ) 0 8 (some .int) (fun _ _ => none) gk_141 c0 eI 22 lo [] σ := by
  induction k with
  | zero => intros; exact gg_n
  | succ k ih =>
    intro x1 x2 x3 lo l0 l1 l2 l3 σ
    rw [fx_141_22]
    refine gg_il 23 3 rfl rfl l3 ?_
    refine gg_al 24 0 rfl rfl l0 ?_
    refine gg_gi 27 rfl rfl rfl gcl_187 rfl ?_
    refine gg_q (fun q1 => ?_)
    refine gg_q (fun q2 => ?_)
    refine gg_ige 68 30 rfl rfl rfl rfl q1 q2 ?_ ?_
    · refine gg_il 69 2 rfl rfl l2 ?_
      refine gg_q (fun q3 => ?_)
      refine gg_zge 76 72 rfl rfl rfl rfl q3 ?_ ?_
      · refine gg_il 77 2 rfl rfl l2 ?_
        exact gg_ir rfl
      · refine gg_ci 73 0 rfl rfl ?_
        refine gg_go 77 rfl rfl rfl ?_
        exact gg_ir rfl
    · refine gg_il 31 2 rfl rfl l2 ?_
      refine gg_al 32 0 rfl rfl l0 ?_
      refine gg_gr 35 196 rfl rfl rfl gcl_187 rfl ?_
      refine gg_il 36 3 rfl rfl l3 ?_
      refine gg_q (fun q4 => ?_)
      refine gg_bal 37 rfl rfl gar_196 q4 ?_
      refine gg_q (fun q5 => ?_)
      refine gg_zeq 59 40 rfl rfl rfl rfl q5 ?_ ?_
      · refine gg_ci 60 0 rfl rfl ?_
        refine gg_sub 61 rfl rfl ?_
        refine gg_s 62 rfl rfl ?_
        refine gg_inc 65 rfl rfl (gl1 rfl rfl l3) ?_
        refine gg_go 22 rfl rfl rfl ?_
        exact ih x1 (x2 - 0) (x3 + 1) (gl1 rfl rfl (gl1 rfl rfl l0)) (gl1 rfl rfl (gl1 rfl rfl l1)) (gl1 rfl rfl gs1) gs1
      · refine gg_al 41 0 rfl rfl l0 ?_
        refine gg_gr 44 194 rfl rfl rfl gcl_187 rfl ?_
        refine gg_il 45 3 rfl rfl l3 ?_
        refine gg_ial 46 rfl rfl gar_194 q4 ?_
        refine gg_il 47 1 rfl rfl l1 ?_
        refine gg_q (fun q6 => ?_)
        refine gg_q (fun q7 => ?_)
        refine gg_ine 59 50 rfl rfl rfl rfl q6 q7 ?_ ?_
        · refine gg_ci 60 0 rfl rfl ?_
          refine gg_sub 61 rfl rfl ?_
          refine gg_s 62 rfl rfl ?_
          refine gg_inc 65 rfl rfl (gl1 rfl rfl l3) ?_
          refine gg_go 22 rfl rfl rfl ?_
          exact ih x1 (x2 - 0) (x3 + 1) (gl1 rfl rfl (gl1 rfl rfl l0)) (gl1 rfl rfl (gl1 rfl rfl l1)) (gl1 rfl rfl gs1) gs1
        · refine gg_al 51 0 rfl rfl l0 ?_
          refine gg_gr 54 195 rfl rfl rfl gcl_187 rfl ?_
          refine gg_il 55 3 rfl rfl l3 ?_
          refine gg_ial 56 rfl rfl gar_195 q4 ?_
          refine gg_go 60 rfl rfl rfl ?_
          refine gg_sub 61 rfl rfl ?_
          refine gg_s 62 rfl rfl ?_
          refine gg_inc 65 rfl rfl (gl1 rfl rfl l3) ?_
          refine gg_go 22 rfl rfl rfl ?_
          exact ih x1 (x2 - (σ 195 x3.toNat)) (x3 + 1) (gl1 rfl rfl (gl1 rfl rfl l0)) (gl1 rfl rfl (gl1 rfl rfl l1)) (gl1 rfl rfl gs1) gs1
theorem gm_141 (x1 : Int) {σ : gb_S} : gb_M (fx_141 x1 σ) 1 c0 eI 141 [vr 187, vi x1] σ := by
  rw [fx_141]
  refine gg_m (own := 8) (rt := (some .int)) (hnd := fun _ _ => none) (K := gk_141) (δ := 0) rfl rfl ?_
  refine gg_al 1 0 rfl rfl rfl ?_
  refine gg_gr 4 193 rfl rfl rfl gcl_187 rfl ?_
  refine gg_il 5 1 rfl rfl rfl ?_
  refine gg_q (fun q1 => ?_)
  refine gg_bal 6 rfl rfl gar_193 q1 ?_
  refine gg_q (fun q2 => ?_)
  refine gg_zeq 13 9 rfl rfl rfl rfl q2 ?_ ?_
  · refine gg_al 14 0 rfl rfl rfl ?_
    refine gg_gr 17 192 rfl rfl rfl gcl_187 rfl ?_
    refine gg_il 18 1 rfl rfl rfl ?_
    refine gg_ial 19 rfl rfl gar_192 q1 ?_
    refine gg_s 20 rfl rfl ?_
    refine gg_ci 21 0 rfl rfl ?_
    refine gg_s 22 rfl rfl ?_
    exact gt_141_22 gFU x1 (σ 192 x1.toNat) 0 (gl1 rfl rfl (gl1 rfl rfl rfl)) (gl1 rfl rfl (gl1 rfl rfl rfl)) (gl1 rfl rfl gs1) gs1
  · refine gg_ci 10 0 rfl rfl ?_
    refine gg_go 19 rfl rfl rfl ?_
    refine gg_s 20 rfl rfl ?_
    refine gg_ci 21 0 rfl rfl ?_
    refine gg_s 22 rfl rfl ?_
    exact gt_141_22 gFU x1 0 0 (gl1 rfl rfl (gl1 rfl rfl rfl)) (gl1 rfl rfl (gl1 rfl rfl rfl)) (gl1 rfl rfl gs1) gs1
def fx_142_47 (k5 : Int → Int → Int → Int → gb_S → Option gb_P) (x1 : Int) (x2 : Int) (x3 : Int) (x4 : Int) (y0 : Int) (σ : gb_S) : Option gb_P :=
  gq (gR y0) (
  gq (gR x3) (
  (if x3 < y0 then
    k5 x1 x2 y0 (x4 + 1) σ
  else
    k5 x1 x2 x3 (x4 + 1) σ)))
def fx_142_5 (k : Nat) (x1 : Int) (x2 : Int) (x3 : Int) (x4 : Int) (σ : gb_S) : Option gb_P := match k with
  | 0 => none
  | k + 1 =>
    gq (gR x4) (
    gq (gR (σ 187 8)) (
    (if x4 < (σ 187 8) then
      gq (0 ≤ x4 ∧ x4 < 30) (
      gq (gR (σ 190 x4.toNat)) (
      gq (gR x1) (
      (if (σ 190 x4.toNat) = x1 then
        gq (gR (σ 191 x4.toNat)) (
        gq (gR x2) (
        (if (σ 191 x4.toNat) = x2 then
          fx_142_47 (fx_142_5 k) x1 x2 x3 x4 (σ 211 x4.toNat) σ
        else
          fx_142_47 (fx_142_5 k) x1 x2 x3 x4 0 σ)))
      else
        fx_142_47 (fx_142_5 k) x1 x2 x3 x4 0 σ))))
    else
      some (.inl x3, σ))))
/-- TreeclerkModel.strongOf -/
def fx_142 (x1 : Int) (x2 : Int) (σ : gb_S) : Option gb_P :=
  fx_142_5 gFU x1 x2 0 0 σ
theorem gt_142_47 {k5 : Int → Int → Int → Int → gb_S → Option gb_P} (hk5 : ∀ (x1 : Int) (x2 : Int) (x3 : Int) (x4 : Int) {lo : gh_L} (l0 : lo.lookup 0 = some (vr 187)) (l1 : lo.lookup 1 = some (vi x1)) (l2 : lo.lookup 2 = some (vi x2)) (l3 : lo.lookup 3 = some (vi x3)) (l4 : lo.lookup 4 = some (vi x4)) {σ : gb_S}, gb_G (k5 x1 x2 x3 x4 σ) 0 8 (some .int) (fun _ _ => none) gk_142 c0 eI 5 lo [] σ) (x1 : Int) (x2 : Int) (x3 : Int) (x4 : Int) (y0 : Int) {lo : gh_L} (l0 : lo.lookup 0 = some (vr 187)) (l1 : lo.lookup 1 = some (vi x1)) (l2 : lo.lookup 2 = some (vi x2)) (l3 : lo.lookup 3 = some (vi x3)) (l4 : lo.lookup 4 = some (vi x4)) {σ : gb_S} : gb_G (fx_142_47 k5 x1 x2 x3 x4 y0 σ) 0 8 (some .int) (fun _ _ => none) gk_142 c0 eI 47 lo [vi y0] σ := by
  rw [fx_142_47]
  refine gg_s 49 rfl rfl ?_
  refine gg_il 51 5 rfl rfl gs1 ?_
  refine gg_il 52 3 rfl rfl (gl1 rfl rfl l3) ?_
  refine gg_q (fun q1 => ?_)
  refine gg_q (fun q2 => ?_)
  refine gg_ile 60 55 rfl rfl rfl rfl q1 q2 ?_ ?_
  · refine gg_il 61 3 rfl rfl (gl1 rfl rfl l3) ?_
    refine gg_s 62 rfl rfl ?_
    refine gg_inc 65 rfl rfl (gl1 rfl rfl (gl1 rfl rfl l4)) ?_
    refine gg_go 5 rfl rfl rfl ?_
    exact hk5 x1 x2 x3 (x4 + 1) (gl1 rfl rfl (gl1 rfl rfl (gl1 rfl rfl l0))) (gl1 rfl rfl (gl1 rfl rfl (gl1 rfl rfl l1))) (gl1 rfl rfl (gl1 rfl rfl (gl1 rfl rfl l2))) (gl1 rfl rfl gs1) gs1
  · refine gg_il 57 5 rfl rfl gs1 ?_
    refine gg_go 61 rfl rfl rfl ?_
    refine gg_s 62 rfl rfl ?_
    refine gg_inc 65 rfl rfl (gl1 rfl rfl (gl1 rfl rfl l4)) ?_
    refine gg_go 5 rfl rfl rfl ?_
    exact hk5 x1 x2 y0 (x4 + 1) (gl1 rfl rfl (gl1 rfl rfl (gl1 rfl rfl l0))) (gl1 rfl rfl (gl1 rfl rfl (gl1 rfl rfl l1))) (gl1 rfl rfl (gl1 rfl rfl (gl1 rfl rfl l2))) (gl1 rfl rfl gs1) gs1
theorem gt_142_5 (k : Nat) : ∀ (x1 : Int) (x2 : Int) (x3 : Int) (x4 : Int) {lo : gh_L} (l0 : lo.lookup 0 = some (vr 187)) (l1 : lo.lookup 1 = some (vi x1)) (l2 : lo.lookup 2 = some (vi x2)) (l3 : lo.lookup 3 = some (vi x3)) (l4 : lo.lookup 4 = some (vi x4)) {σ : gb_S}, gb_G (fx_142_5 k x1 x2 x3 x4 σ) 0 8 (some .int) (fun _ _ => none) gk_142 c0 eI 5 lo [] σ := by
  induction k with
  | zero => intros; exact gg_n
  | succ k ih =>
    intro x1 x2 x3 x4 lo l0 l1 l2 l3 l4 σ
    rw [fx_142_5]
    refine gg_il 7 4 rfl rfl l4 ?_
    refine gg_al 8 0 rfl rfl l0 ?_
    refine gg_gi 11 rfl rfl rfl gcl_187 rfl ?_
    refine gg_q (fun q1 => ?_)
    refine gg_q (fun q2 => ?_)
    refine gg_ige 68 14 rfl rfl rfl rfl q1 q2 ?_ ?_
    · refine gg_il 69 3 rfl rfl l3 ?_
      exact gg_ir rfl
    · refine gg_al 15 0 rfl rfl l0 ?_
      refine gg_gr 18 190 rfl rfl rfl gcl_187 rfl ?_
      refine gg_il 20 4 rfl rfl l4 ?_
      refine gg_q (fun q3 => ?_)
      refine gg_ial 21 rfl rfl gar_190 q3 ?_
      refine gg_il 22 1 rfl rfl l1 ?_
      refine gg_q (fun q4 => ?_)
      refine gg_q (fun q5 => ?_)
      refine gg_ine 46 25 rfl rfl rfl rfl q4 q5 ?_ ?_
      · refine gg_ci 47 0 rfl rfl ?_
        exact gt_142_47 ih x1 x2 x3 x4 0 l0 l1 l2 l3 l4
      · refine gg_al 26 0 rfl rfl l0 ?_
        refine gg_gr 29 191 rfl rfl rfl gcl_187 rfl ?_
        refine gg_il 31 4 rfl rfl l4 ?_
        refine gg_ial 32 rfl rfl gar_191 q3 ?_
        refine gg_il 33 2 rfl rfl l2 ?_
        refine gg_q (fun q6 => ?_)
        refine gg_q (fun q7 => ?_)
        refine gg_ine 46 36 rfl rfl rfl rfl q6 q7 ?_ ?_
        · refine gg_ci 47 0 rfl rfl ?_
          exact gt_142_47 ih x1 x2 x3 x4 0 l0 l1 l2 l3 l4
        · refine gg_al 37 0 rfl rfl l0 ?_
          refine gg_gr 40 211 rfl rfl rfl gcl_187 rfl ?_
          refine gg_il 42 4 rfl rfl l4 ?_
          refine gg_ial 43 rfl rfl gar_211 q3 ?_
          refine gg_go 47 rfl rfl rfl ?_
          exact gt_142_47 ih x1 x2 x3 x4 (σ 211 x4.toNat) l0 l1 l2 l3 l4
theorem gm_142 (x1 : Int) (x2 : Int) {σ : gb_S} : gb_M (fx_142 x1 x2 σ) 1 c0 eI 142 [vr 187, vi x1, vi x2] σ := by
  rw [fx_142]
  refine gg_m (own := 8) (rt := (some .int)) (hnd := fun _ _ => none) (K := gk_142) (δ := 0) rfl rfl ?_
  refine gg_ci 1 0 rfl rfl ?_
  refine gg_s 2 rfl rfl ?_
  refine gg_ci 3 0 rfl rfl ?_
  refine gg_s 5 rfl rfl ?_
  exact gt_142_5 gFU x1 x2 0 0 (gl1 rfl rfl (gl1 rfl rfl rfl)) (gl1 rfl rfl (gl1 rfl rfl rfl)) (gl1 rfl rfl (gl1 rfl rfl rfl)) (gl1 rfl rfl gs1) gs1
end GF5
