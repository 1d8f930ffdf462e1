section GF2
variable {c0 : gh_C}
def fx_35_10 (k : Nat) (a0 : Nat) (x2 : Int) (x3 : Int) (σ : gb_S) : Option gb_P := match k with
  | 0 => none
  | k + 1 =>
    gq (gR x3) (
    (if x3 < 14 then
      gc (fx_36 a0 x3 x2 σ) (fun _ s3 =>
      gc (fx_37 a0 (-1) s3) (fun r4 s5 =>
      gq (0 ≤ x3 ∧ x3 < 14) (
      gc (fx_37 a0 ((gb_up s5 (a0 + 1) x3.toNat r4) (a0 + 1) x3.toNat) (gb_up s5 (a0 + 1) x3.toNat r4)) (fun r7 s8 =>
      gc (fx_38 a0 ((gb_up s8 (a0 + 2) x3.toNat r7) (a0 + 1) x3.toNat) x3 (gb_up s8 (a0 + 2) x3.toNat r7)) (fun _ s10 =>
      gc (fx_38 a0 (s10 (a0 + 2) x3.toNat) x3 s10) (fun _ s12 =>
      fx_35_10 k a0 x2 (x3 + 1) s12))))))
    else
      some (.inl 0, σ)))
/-- Treeclerk$Kin.tell -/
def fx_35 (a0 : Nat) (x2 : Int) (σ : gb_S) : Option gb_P :=
  fx_35_10 gFU a0 x2 0 (gb_fi σ (a0 + 3) 0)
theorem gt_35_10 (k : Nat) : ∀ (a0 : Nat) (x2 : Int) (x3 : Int) (h0 : gb_kd a0 = 3) {lo : gh_L} (l0 : lo.lookup 0 = some (vr a0)) (l1 : lo.lookup 1 = some (vr 6)) (l2 : lo.lookup 2 = some (vi x2)) (l3 : lo.lookup 3 = some (vi x3)) {σ : gb_S}, gb_G (fx_35_10 k a0 x2 x3 σ) 3 3 none (fun _ _ => none) gk_35 c0 eV 10 lo [] σ := by
  induction k with
  | zero => intros; exact gg_n
  | succ k ih =>
    intro a0 x2 x3 h0 lo l0 l1 l2 l3 σ
    rw [fx_35_10]
    refine gg_il 11 3 rfl rfl l3 ?_
    refine gg_ci 13 14 rfl rfl ?_
    refine gg_q (fun q1 => ?_)
    refine gg_ige 78 16 rfl rfl rfl rfl q1 (gRl rfl) ?_ ?_
    · exact gg_vr rfl
    · refine gg_al 17 0 rfl rfl l0 ?_
      refine gg_al 18 1 rfl rfl l1 ?_
      refine gg_il 19 3 rfl rfl l3 ?_
      refine gg_il 20 2 rfl rfl l2 ?_
      refine gg_cV 23 rfl (gm_36 _ _ _ h0) (Nat.le_of_ble_eq_true rfl) (gb_vs rfl rfl rfl rfl rfl (gkin0 h0) rfl rfl rfl) rfl (fun _ => rfl) (fun _ => rfl) (fun s3 => ?_)
      refine gg_al 24 0 rfl rfl l0 ?_
      refine gg_gr 27 (a0 + 1) rfl rfl rfl (gkin0 h0) rfl ?_
      refine gg_il 28 3 rfl rfl l3 ?_
      refine gg_al 29 0 rfl rfl l0 ?_
      refine gg_ci 30 (-1) rfl rfl ?_
      refine gg_cI 33 rfl (gm_37 _ _ h0) (Nat.le_of_ble_eq_true rfl) (gb_vs rfl rfl rfl rfl rfl (gkin0 h0) rfl rfl rfl) rfl (fun _ => rfl) (fun _ => rfl) (fun r4 s5 => ?_)
      refine gg_q (fun q6 => ?_)
      refine gg_ias 34 rfl rfl (gkin1 h0) q6 ?_
      refine gg_al 35 0 rfl rfl l0 ?_
      refine gg_gr 38 (a0 + 2) rfl rfl rfl (gkin0 h0) rfl ?_
      refine gg_il 39 3 rfl rfl l3 ?_
      refine gg_al 40 0 rfl rfl l0 ?_
      refine gg_al 41 0 rfl rfl l0 ?_
      refine gg_gr 44 (a0 + 1) rfl rfl rfl (gkin0 h0) rfl ?_
      refine gg_il 45 3 rfl rfl l3 ?_
      refine gg_ial 46 rfl rfl (gkin1 h0) q6 ?_
      refine gg_cI 49 rfl (gm_37 _ _ h0) (Nat.le_of_ble_eq_true rfl) (gb_vs rfl rfl rfl rfl rfl (gkin0 h0) rfl rfl rfl) rfl (fun _ => rfl) (fun _ => rfl) (fun r7 s8 => ?_)
      refine gg_ias 50 rfl rfl (gkin2 h0) q6 ?_
      refine gg_al 51 0 rfl rfl l0 ?_
      refine gg_al 52 0 rfl rfl l0 ?_
      refine gg_gr 55 (a0 + 1) rfl rfl rfl (gkin0 h0) rfl ?_
      refine gg_il 56 3 rfl rfl l3 ?_
      refine gg_ial 57 rfl rfl (gkin1 h0) q6 ?_
      refine gg_il 58 3 rfl rfl l3 ?_
      refine gg_cV 61 rfl (gm_38 _ _ _ h0) (Nat.le_of_ble_eq_true rfl) (gb_vs rfl rfl rfl rfl rfl (gkin0 h0) rfl rfl rfl) rfl (fun _ => rfl) (fun _ => rfl) (fun s10 => ?_)
      refine gg_al 62 0 rfl rfl l0 ?_
      refine gg_al 63 0 rfl rfl l0 ?_
      refine gg_gr 66 (a0 + 2) rfl rfl rfl (gkin0 h0) rfl ?_
      refine gg_il 67 3 rfl rfl l3 ?_
      refine gg_ial 68 rfl rfl (gkin2 h0) q6 ?_
      refine gg_il 69 3 rfl rfl l3 ?_
      refine gg_cV 72 rfl (gm_38 _ _ _ h0) (Nat.le_of_ble_eq_true rfl) (gb_vs rfl rfl rfl rfl rfl (gkin0 h0) rfl rfl rfl) rfl (fun _ => rfl) (fun _ => rfl) (fun s12 => ?_)
      refine gg_inc 75 rfl rfl l3 ?_
      refine gg_go 10 rfl rfl rfl ?_
      exact ih a0 x2 (x3 + 1) h0 (gl1 rfl rfl l0) (gl1 rfl rfl l1) (gl1 rfl rfl l2) gs1
theorem gm_35 (a0 : Nat) (x2 : Int) (h0 : gb_kd a0 = 3) {σ : gb_S} : gb_M (fx_35 a0 x2 σ) 4 c0 eV 35 [vr a0, vr 6, vi x2] σ := by
  rw [fx_35]
  refine gg_m (own := 3) (rt := none) (hnd := fun _ _ => none) (K := gk_35) (δ := 3) rfl rfl ?_
  refine gg_al 1 0 rfl rfl rfl ?_
  refine gg_gr 4 (a0 + 3) rfl rfl rfl (gkin0 h0) rfl ?_
  refine gg_ci 5 0 rfl rfl ?_
  refine gg_cF 8 rfl (gm_194 (gkin3 h0)) (Nat.le_of_ble_eq_true rfl) (gb_ss rfl rfl rfl rfl rfl rfl rfl) rfl (fun _ => rfl) (fun _ => rfl) ?_
  refine gg_ci 9 0 rfl rfl ?_
  refine gg_s 10 rfl rfl ?_
  exact gt_35_10 gFU a0 x2 0 h0 (gl1 rfl rfl rfl) (gl1 rfl rfl rfl) (gl1 rfl rfl rfl) gs1
/-- Treeclerk$Land.keptOwner -/
def fx_40 (x1 : Int) (σ : gb_S) : Option gb_P :=
  gq (gR x1) (
  (if x1 < 0 then
    some (.inl (-1), σ)
  else
    (if x1 < 60 then
      gq (0 ≤ x1 ∧ x1 < 60) (
      some (.inl (σ 37 x1.toNat), σ))
    else
      some (.inl (-1), σ))))
theorem gm_40 (x1 : Int) {σ : gb_S} : gb_M (fx_40 x1 σ) 1 c0 eI 40 [vr 30, vi x1] σ := by
  rw [fx_40]
  refine gg_m (own := 4) (rt := (some .int)) (hnd := fun _ _ => none) (K := gk_40) (δ := 0) rfl rfl ?_
  refine gg_il 1 1 rfl rfl rfl ?_
  refine gg_q (fun q1 => ?_)
  refine gg_zlt 19 4 rfl rfl rfl rfl q1 ?_ ?_
  · refine gg_ci 20 (-1) rfl rfl ?_
    exact gg_ir rfl
  · refine gg_il 5 1 rfl rfl rfl ?_
    refine gg_ci 7 60 rfl rfl ?_
    refine gg_ige 19 10 rfl rfl rfl rfl q1 (gRl rfl) ?_ ?_
    · refine gg_ci 20 (-1) rfl rfl ?_
      exact gg_ir rfl
    · refine gg_al 11 0 rfl rfl rfl ?_
      refine gg_gr 14 37 rfl rfl rfl gcl_30 rfl ?_
      refine gg_il 15 1 rfl rfl rfl ?_
      refine gg_q (fun q2 => ?_)
      refine gg_ial 16 rfl rfl gar_37 q2 ?_
      refine gg_go 20 rfl rfl rfl ?_
      exact gg_ir rfl
def fx_41_6 (k : Nat) (x2 : Int) (x3 : Int) (σ : gb_S) : Option gb_P := match k with
  | 0 => none
  | k + 1 =>
    gq (gR x3) (
    gq (gR x2) (
    (if x3 < x2 then
      (if x3 < 60 then
        gq (0 ≤ x3 ∧ x3 < 60) (
        gq (gR (σ 36 x3.toNat)) (
        (if (σ 36 x3.toNat) = 0 then
          fx_41_6 k x2 (x3 + 1) σ
        else
          some (.inl 1, σ))))
      else
        some (.inl 0, σ))
    else
      some (.inl 0, σ))))
/-- Treeclerk$Land.isGrantedWithin -/
def fx_41 (x1 : Int) (x2 : Int) (σ : gb_S) : Option gb_P :=
  gq (gR x1) (
  fx_41_6 gFU x2 (max x1 0) σ)
theorem gt_41_6 (k : Nat) : ∀ (x2 : Int) (x3 : Int) {lo : gh_L} (l0 : lo.lookup 0 = some (vr 30)) (l2 : lo.lookup 2 = some (vi x2)) (l3 : lo.lookup 3 = some (vi x3)) {σ : gb_S}, gb_G (fx_41_6 k x2 x3 σ) 0 4 (some .boolean) (fun _ _ => none) gk_41 c0 eI 6 lo [] σ := by
  induction k with
  | zero => intros; exact gg_n
  | succ k ih =>
    intro x2 x3 lo l0 l2 l3 σ
    rw [fx_41_6]
    refine gg_il 7 3 rfl rfl l3 ?_
    refine gg_il 8 2 rfl rfl l2 ?_
    refine gg_q (fun q1 => ?_)
    refine gg_q (fun q2 => ?_)
    refine gg_ige 34 11 rfl rfl rfl rfl q1 q2 ?_ ?_
    · refine gg_ci 35 0 rfl rfl ?_
      exact gg_zr rfl (Or.inl rfl)
    · refine gg_il 12 3 rfl rfl l3 ?_
      refine gg_ci 14 60 rfl rfl ?_
      refine gg_ige 34 17 rfl rfl rfl rfl q1 (gRl rfl) ?_ ?_
      · refine gg_ci 35 0 rfl rfl ?_
        exact gg_zr rfl (Or.inl rfl)
      · refine gg_al 18 0 rfl rfl l0 ?_
        refine gg_gr 21 36 rfl rfl rfl gcl_30 rfl ?_
        refine gg_il 22 3 rfl rfl l3 ?_
        refine gg_q (fun q3 => ?_)
        refine gg_bal 23 rfl rfl gar_36 q3 ?_
        refine gg_q (fun q4 => ?_)
        refine gg_zeq 28 26 rfl rfl rfl rfl q4 ?_ ?_
        · refine gg_inc 31 rfl rfl l3 ?_
          refine gg_go 6 rfl rfl rfl ?_
          exact ih x2 (x3 + 1) (gl1 rfl rfl l0) (gl1 rfl rfl l2) gs1
        · refine gg_ci 27 1 rfl rfl ?_
          exact gg_zr rfl (Or.inr rfl)
theorem gm_41 (x1 : Int) (x2 : Int) {σ : gb_S} : gb_M (fx_41 x1 x2 σ) 1 c0 eI 41 [vr 30, vi x1, vi x2] σ := by
  rw [fx_41]
  refine gg_m (own := 4) (rt := (some .boolean)) (hnd := fun _ _ => none) (K := gk_41) (δ := 0) rfl rfl ?_
  refine gg_il 1 1 rfl rfl rfl ?_
  refine gg_ci 2 0 rfl rfl ?_
  refine gg_q (fun q1 => ?_)
  refine gg_max 5 rfl rfl rfl rfl q1 (gRl rfl) ?_
  refine gg_s 6 rfl rfl ?_
  exact gt_41_6 gFU x2 (max x1 0) (gl1 rfl rfl rfl) (gl1 rfl rfl rfl) gs1
def fx_57_10 (k : Nat) (a0 : Nat) (x1 : Int) (x3 : Int) (x4 : Int) (x5 : Int) (σ : gb_S) : Option gb_P := match k with
  | 0 => none
  | k + 1 =>
    gq (gR x5) (
    gq (gR x3) (
    (if x5 < x3 then
      gq (gR ((gb_ln a0 : Nat) : Int)) (
      (if x5 < ((gb_ln a0 : Nat) : Int) then
        gq (0 ≤ x5 ∧ x5 < gb_ln a0) (
        gq (gR (σ a0 x5.toNat)) (
        gq (gR x1) (
        (if (σ a0 x5.toNat) = x1 then
          fx_57_10 k a0 x1 x3 (x4 + 1) (x5 + 1) σ
        else
          fx_57_10 k a0 x1 x3 x4 (x5 + 1) σ))))
      else
        some (.inl x4, σ)))
    else
      some (.inl x4, σ))))
/-- Treeclerk$Land.countIn -/
def fx_57 (a0 : Nat) (x1 : Int) (x2 : Int) (x3 : Int) (σ : gb_S) : Option gb_P :=
  gq (gR x2) (
  fx_57_10 gFU a0 x1 x3 0 (max x2 0) σ)
theorem gt_57_10 (k : Nat) : ∀ (a0 : Nat) (x1 : Int) (x3 : Int) (x4 : Int) (x5 : Int) (h0 : gb_kd a0 = 20) {lo : gh_L} (l0 : lo.lookup 0 = some (vr a0)) (l1 : lo.lookup 1 = some (vi x1)) (l3 : lo.lookup 3 = some (vi x3)) (l4 : lo.lookup 4 = some (vi x4)) (l5 : lo.lookup 5 = some (vi x5)) {σ : gb_S}, gb_G (fx_57_10 k a0 x1 x3 x4 x5 σ) 0 4 (some .int) (fun _ _ => none) gk_57 c0 eI 10 lo [] σ := by
  induction k with
  | zero => intros; exact gg_n
  | succ k ih =>
    intro a0 x1 x3 x4 x5 h0 lo l0 l1 l3 l4 l5 σ
    rw [fx_57_10]
    refine gg_il 12 5 rfl rfl l5 ?_
    refine gg_il 13 3 rfl rfl l3 ?_
    refine gg_q (fun q1 => ?_)
    refine gg_q (fun q2 => ?_)
    refine gg_ige 40 16 rfl rfl rfl rfl q1 q2 ?_ ?_
    · refine gg_il 42 4 rfl rfl l4 ?_
      exact gg_ir rfl
    · refine gg_il 18 5 rfl rfl l5 ?_
      refine gg_al 19 0 rfl rfl l0 ?_
      refine gg_len 20 rfl rfl (gar h0) ?_
      refine gg_q (fun q3 => ?_)
      refine gg_ige 40 23 rfl rfl rfl rfl q1 q3 ?_ ?_
      · refine gg_il 42 4 rfl rfl l4 ?_
        exact gg_ir rfl
      · refine gg_al 24 0 rfl rfl l0 ?_
        refine gg_il 26 5 rfl rfl l5 ?_
        refine gg_q (fun q4 => ?_)
        refine gg_ial 27 rfl rfl (gar h0) q4 ?_
        refine gg_il 28 1 rfl rfl l1 ?_
        refine gg_q (fun q5 => ?_)
        refine gg_q (fun q6 => ?_)
        refine gg_ine 34 31 rfl rfl rfl rfl q5 q6 ?_ ?_
        · refine gg_inc 37 rfl rfl l5 ?_
          refine gg_go 10 rfl rfl rfl ?_
          exact ih a0 x1 x3 x4 (x5 + 1) h0 (gl1 rfl rfl l0) (gl1 rfl rfl l1) (gl1 rfl rfl l3) (gl1 rfl rfl l4) gs1
        · refine gg_inc 34 rfl rfl l4 ?_
          refine gg_inc 37 rfl rfl (gl1 rfl rfl l5) ?_
          refine gg_go 10 rfl rfl rfl ?_
          exact ih a0 x1 x3 (x4 + 1) (x5 + 1) h0 (gl1 rfl rfl (gl1 rfl rfl l0)) (gl1 rfl rfl (gl1 rfl rfl l1)) (gl1 rfl rfl (gl1 rfl rfl l3)) (gl1 rfl rfl gs1) gs1
theorem gm_57 (a0 : Nat) (x1 : Int) (x2 : Int) (x3 : Int) (h0 : gb_kd a0 = 20) {σ : gb_S} : gb_M (fx_57 a0 x1 x2 x3 σ) 1 c0 eI 57 [vr a0, vi x1, vi x2, vi x3] σ := by
  rw [fx_57]
  refine gg_m (own := 4) (rt := (some .int)) (hnd := fun _ _ => none) (K := gk_57) (δ := 0) rfl rfl ?_
  refine gg_ci 1 0 rfl rfl ?_
  refine gg_s 3 rfl rfl ?_
  refine gg_il 4 2 rfl rfl (gl1 rfl rfl rfl) ?_
  refine gg_ci 5 0 rfl rfl ?_
  refine gg_q (fun q1 => ?_)
  refine gg_max 8 rfl rfl rfl rfl q1 (gRl rfl) ?_
  refine gg_s 10 rfl rfl ?_
  exact gt_57_10 gFU a0 x1 x3 0 (max x2 0) h0 (gl1 rfl rfl (gl1 rfl rfl rfl)) (gl1 rfl rfl (gl1 rfl rfl rfl)) (gl1 rfl rfl (gl1 rfl rfl rfl)) (gl1 rfl rfl gs1) gs1
/-- Treeclerk$Land.countUnits -/
def fx_42 (x1 : Int) (x2 : Int) (x3 : Int) (σ : gb_S) : Option gb_P :=
  gc (fx_57 37 x1 x2 x3 σ) (fun r1 s2 =>
  some (.inl r1, s2))
theorem gm_42 (x1 : Int) (x2 : Int) (x3 : Int) {σ : gb_S} : gb_M (fx_42 x1 x2 x3 σ) 2 c0 eI 42 [vr 30, vi x1, vi x2, vi x3] σ := by
  rw [fx_42]
  refine gg_m (own := 4) (rt := (some .int)) (hnd := fun _ _ => none) (K := gk_42) (δ := 1) rfl rfl ?_
  refine gg_al 1 0 rfl rfl rfl ?_
  refine gg_gr 4 37 rfl rfl rfl gcl_30 rfl ?_
  refine gg_il 5 1 rfl rfl rfl ?_
  refine gg_il 6 2 rfl rfl rfl ?_
  refine gg_il 7 3 rfl rfl rfl ?_
  refine gg_cI 10 rfl (gm_57 _ _ _ _ (rfl : gb_kd 37 = 20)) (Nat.le_of_ble_eq_true rfl) (gb_ss rfl rfl rfl rfl rfl rfl rfl) rfl (fun _ => rfl) (fun _ => rfl) (fun r1 s2 => ?_)
  exact gg_ir rfl
def fx_43_2 (k : Nat) (x1 : Int) (x2 : Int) (σ : gb_S) : Option gb_P := match k with
  | 0 => none
  | k + 1 =>
    gq (gR x2) (
    (if 0 < x2 then
      gc (fx_40 (x2 - 1) σ) (fun r2 s3 =>
      gc (fx_40 x1 s3) (fun r4 s5 =>
      gq (gR r2) (
      gq (gR r4) (
      (if r2 = r4 then
        fx_43_2 k x1 (x2 + (-1)) s5
      else
        some (.inl x2, s5))))))
    else
      some (.inl x2, σ)))
/-- Treeclerk$Land.parcelStart -/
def fx_43 (x1 : Int) (σ : gb_S) : Option gb_P :=
  fx_43_2 gFU x1 x1 σ
theorem gt_43_2 (k : Nat) : ∀ (x1 : Int) (x2 : Int) {lo : gh_L} (l0 : lo.lookup 0 = some (vr 30)) (l1 : lo.lookup 1 = some (vi x1)) (l2 : lo.lookup 2 = some (vi x2)) {σ : gb_S}, gb_G (fx_43_2 k x1 x2 σ) 1 4 (some .int) (fun _ _ => none) gk_43 c0 eI 2 lo [] σ := by
  induction k with
  | zero => intros; exact gg_n
  | succ k ih =>
    intro x1 x2 lo l0 l1 l2 σ
    rw [fx_43_2]
    refine gg_il 3 2 rfl rfl l2 ?_
    refine gg_q (fun q1 => ?_)
    refine gg_zle 27 6 rfl rfl rfl rfl q1 ?_ ?_
    · refine gg_il 28 2 rfl rfl l2 ?_
      exact gg_ir rfl
    · refine gg_al 7 0 rfl rfl l0 ?_
      refine gg_il 8 2 rfl rfl l2 ?_
      refine gg_ci 9 1 rfl rfl ?_
      refine gg_sub 10 rfl rfl ?_
      refine gg_cI 13 rfl (gm_40 _) (Nat.le_of_ble_eq_true rfl) (gb_vs rfl rfl rfl rfl rfl gcl_30 rfl rfl rfl) rfl (fun _ => rfl) (fun _ => rfl) (fun r2 s3 => ?_)
      refine gg_al 14 0 rfl rfl l0 ?_
      refine gg_il 15 1 rfl rfl l1 ?_
      refine gg_cI 18 rfl (gm_40 _) (Nat.le_of_ble_eq_true rfl) (gb_vs rfl rfl rfl rfl rfl gcl_30 rfl rfl rfl) rfl (fun _ => rfl) (fun _ => rfl) (fun r4 s5 => ?_)
      refine gg_q (fun q6 => ?_)
      refine gg_q (fun q7 => ?_)
      refine gg_ine 27 21 rfl rfl rfl rfl q6 q7 ?_ ?_
      · refine gg_il 28 2 rfl rfl l2 ?_
        exact gg_ir rfl
      · refine gg_inc 24 rfl rfl l2 ?_
        refine gg_go 2 rfl rfl rfl ?_
        exact ih x1 (x2 + (-1)) (gl1 rfl rfl l0) (gl1 rfl rfl l1) gs1
theorem gm_43 (x1 : Int) {σ : gb_S} : gb_M (fx_43 x1 σ) 2 c0 eI 43 [vr 30, vi x1] σ := by
  rw [fx_43]
  refine gg_m (own := 4) (rt := (some .int)) (hnd := fun _ _ => none) (K := gk_43) (δ := 1) rfl rfl ?_
  refine gg_il 1 1 rfl rfl rfl ?_
  refine gg_s 2 rfl rfl ?_
  exact gt_43_2 gFU x1 x1 (gl1 rfl rfl rfl) (gl1 rfl rfl rfl) gs1
def fx_44_4 (k : Nat) (x1 : Int) (x2 : Int) (σ : gb_S) : Option gb_P := match k with
  | 0 => none
  | k + 1 =>
    gq (gR x2) (
    (if x2 < 60 then
      gc (fx_40 x2 σ) (fun r2 s3 =>
      gc (fx_40 x1 s3) (fun r4 s5 =>
      gq (gR r2) (
      gq (gR r4) (
      (if r2 = r4 then
        fx_44_4 k x1 (x2 + 1) s5
      else
        some (.inl x2, s5))))))
    else
      some (.inl x2, σ)))
/-- Treeclerk$Land.parcelEnd -/
def fx_44 (x1 : Int) (σ : gb_S) : Option gb_P :=
  fx_44_4 gFU x1 (x1 + 1) σ
theorem gt_44_4 (k : Nat) : ∀ (x1 : Int) (x2 : Int) {lo : gh_L} (l0 : lo.lookup 0 = some (vr 30)) (l1 : lo.lookup 1 = some (vi x1)) (l2 : lo.lookup 2 = some (vi x2)) {σ : gb_S}, gb_G (fx_44_4 k x1 x2 σ) 1 4 (some .int) (fun _ _ => none) gk_44 c0 eI 4 lo [] σ := by
  induction k with
  | zero => intros; exact gg_n
  | succ k ih =>
    intro x1 x2 lo l0 l1 l2 σ
    rw [fx_44_4]
    refine gg_il 5 2 rfl rfl l2 ?_
    refine gg_ci 7 60 rfl rfl ?_
    refine gg_q (fun q1 => ?_)
    refine gg_ige 29 10 rfl rfl rfl rfl q1 (gRl rfl) ?_ ?_
    · refine gg_il 30 2 rfl rfl l2 ?_
      exact gg_ir rfl
    · refine gg_al 11 0 rfl rfl l0 ?_
      refine gg_il 12 2 rfl rfl l2 ?_
      refine gg_cI 15 rfl (gm_40 _) (Nat.le_of_ble_eq_true rfl) (gb_vs rfl rfl rfl rfl rfl gcl_30 rfl rfl rfl) rfl (fun _ => rfl) (fun _ => rfl) (fun r2 s3 => ?_)
      refine gg_al 16 0 rfl rfl l0 ?_
      refine gg_il 17 1 rfl rfl l1 ?_
      refine gg_cI 20 rfl (gm_40 _) (Nat.le_of_ble_eq_true rfl) (gb_vs rfl rfl rfl rfl rfl gcl_30 rfl rfl rfl) rfl (fun _ => rfl) (fun _ => rfl) (fun r4 s5 => ?_)
      refine gg_q (fun q6 => ?_)
      refine gg_q (fun q7 => ?_)
      refine gg_ine 29 23 rfl rfl rfl rfl q6 q7 ?_ ?_
      · refine gg_il 30 2 rfl rfl l2 ?_
        exact gg_ir rfl
      · refine gg_inc 26 rfl rfl l2 ?_
        refine gg_go 4 rfl rfl rfl ?_
        exact ih x1 (x2 + 1) (gl1 rfl rfl l0) (gl1 rfl rfl l1) gs1
theorem gm_44 (x1 : Int) {σ : gb_S} : gb_M (fx_44 x1 σ) 2 c0 eI 44 [vr 30, vi x1] σ := by
  rw [fx_44]
  refine gg_m (own := 4) (rt := (some .int)) (hnd := fun _ _ => none) (K := gk_44) (δ := 1) rfl rfl ?_
  refine gg_il 1 1 rfl rfl rfl ?_
  refine gg_ci 2 1 rfl rfl ?_
  refine gg_add 3 rfl rfl ?_
  refine gg_s 4 rfl rfl ?_
  exact gt_44_4 gFU x1 (x1 + 1) (gl1 rfl rfl rfl) (gl1 rfl rfl rfl) gs1
/-- Treeclerk$Land.enter -/
def fx_48 (x1 : Int) (x2 : Int) (x3 : Int) (x4 : Int) (σ : gb_S) : Option gb_P :=
  gq (gR (σ 30 5)) (
  (if (σ 30 5) < 134 then
    gq (0 ≤ (σ 30 5) ∧ (σ 30 5) < 134) (
    gq (0 ≤ ((gb_up σ 31 (σ 30 5).toNat x1) 30 5) ∧ ((gb_up σ 31 (σ 30 5).toNat x1) 30 5) < 134) (
    gq (0 ≤ ((gb_up (gb_up σ 31 (σ 30 5).toNat x1) 32 ((gb_up σ 31 (σ 30 5).toNat x1) 30 5).toNat x2) 30 5) ∧ ((gb_up (gb_up σ 31 (σ 30 5).toNat x1) 32 ((gb_up σ 31 (σ 30 5).toNat x1) 30 5).toNat x2) 30 5) < 134) (
    gq (0 ≤ ((gb_up (gb_up (gb_up σ 31 (σ 30 5).toNat x1) 32 ((gb_up σ 31 (σ 30 5).toNat x1) 30 5).toNat x2) 33 ((gb_up (gb_up σ 31 (σ 30 5).toNat x1) 32 ((gb_up σ 31 (σ 30 5).toNat x1) 30 5).toNat x2) 30 5).toNat x3) 30 5) ∧ ((gb_up (gb_up (gb_up σ 31 (σ 30 5).toNat x1) 32 ((gb_up σ 31 (σ 30 5).toNat x1) 30 5).toNat x2) 33 ((gb_up (gb_up σ 31 (σ 30 5).toNat x1) 32 ((gb_up σ 31 (σ 30 5).toNat x1) 30 5).toNat x2) 30 5).toNat x3) 30 5) < 134) (
    some (.inl (((gb_up (gb_up (gb_up (gb_up (gb_up σ 31 (σ 30 5).toNat x1) 32 ((gb_up σ 31 (σ 30 5).toNat x1) 30 5).toNat x2) 33 ((gb_up (gb_up σ 31 (σ 30 5).toNat x1) 32 ((gb_up σ 31 (σ 30 5).toNat x1) 30 5).toNat x2) 30 5).toNat x3) 34 ((gb_up (gb_up (gb_up σ 31 (σ 30 5).toNat x1) 32 ((gb_up σ 31 (σ 30 5).toNat x1) 30 5).toNat x2) 33 ((gb_up (gb_up σ 31 (σ 30 5).toNat x1) 32 ((gb_up σ 31 (σ 30 5).toNat x1) 30 5).toNat x2) 30 5).toNat x3) 30 5).toNat x4) 30 5 (((gb_up (gb_up (gb_up (gb_up σ 31 (σ 30 5).toNat x1) 32 ((gb_up σ 31 (σ 30 5).toNat x1) 30 5).toNat x2) 33 ((gb_up (gb_up σ 31 (σ 30 5).toNat x1) 32 ((gb_up σ 31 (σ 30 5).toNat x1) 30 5).toNat x2) 30 5).toNat x3) 34 ((gb_up (gb_up (gb_up σ 31 (σ 30 5).toNat x1) 32 ((gb_up σ 31 (σ 30 5).toNat x1) 30 5).toNat x2) 33 ((gb_up (gb_up σ 31 (σ 30 5).toNat x1) 32 ((gb_up σ 31 (σ 30 5).toNat x1) 30 5).toNat x2) 30 5).toNat x3) 30 5).toNat x4) 30 5) + 1)) 30 5) - 1), (gb_up (gb_up (gb_up (gb_up (gb_up σ 31 (σ 30 5).toNat x1) 32 ((gb_up σ 31 (σ 30 5).toNat x1) 30 5).toNat x2) 33 ((gb_up (gb_up σ 31 (σ 30 5).toNat x1) 32 ((gb_up σ 31 (σ 30 5).toNat x1) 30 5).toNat x2) 30 5).toNat x3) 34 ((gb_up (gb_up (gb_up σ 31 (σ 30 5).toNat x1) 32 ((gb_up σ 31 (σ 30 5).toNat x1) 30 5).toNat x2) 33 ((gb_up (gb_up σ 31 (σ 30 5).toNat x1) 32 ((gb_up σ 31 (σ 30 5).toNat x1) 30 5).toNat x2) 30 5).toNat x3) 30 5).toNat x4) 30 5 (((gb_up (gb_up (gb_up (gb_up σ 31 (σ 30 5).toNat x1) 32 ((gb_up σ 31 (σ 30 5).toNat x1) 30 5).toNat x2) 33 ((gb_up (gb_up σ 31 (σ 30 5).toNat x1) 32 ((gb_up σ 31 (σ 30 5).toNat x1) 30 5).toNat x2) 30 5).toNat x3) 34 ((gb_up (gb_up (gb_up σ 31 (σ 30 5).toNat x1) 32 ((gb_up σ 31 (σ 30 5).toNat x1) 30 5).toNat x2) 33 ((gb_up (gb_up σ 31 (σ 30 5).toNat x1) 32 ((gb_up σ 31 (σ 30 5).toNat x1) 30 5).toNat x2) 30 5).toNat x3) 30 5).toNat x4) 30 5) + 1)))))))
  else
    some (.inl 134, σ)))
theorem gm_48 (x1 : Int) (x2 : Int) (x3 : Int) (x4 : Int) {σ : gb_S} : gb_M (fx_48 x1 x2 x3 x4 σ) 1 c0 eI 48 [vr 30, vi x1, vi x2, vi x3, vi x4] σ := by
  rw [fx_48]
  refine gg_m (own := 4) (rt := (some .int)) (hnd := fun _ _ => none) (K := gk_48) (δ := 0) rfl rfl ?_
  refine gg_al 1 0 rfl rfl rfl ?_
  refine gg_gi 4 rfl rfl rfl gcl_30 rfl ?_
  refine gg_ci 7 134 rfl rfl ?_
  refine gg_q (fun q1 => ?_)
  refine gg_ilt 14 10 rfl rfl rfl rfl q1 (gRl rfl) ?_ ?_
  · refine gg_al 15 0 rfl rfl rfl ?_
    refine gg_gr 18 31 rfl rfl rfl gcl_30 rfl ?_
    refine gg_al 19 0 rfl rfl rfl ?_
    refine gg_gi 22 rfl rfl rfl gcl_30 rfl ?_
    refine gg_il 23 1 rfl rfl rfl ?_
    refine gg_q (fun q2 => ?_)
    refine gg_ias 24 rfl rfl gar_31 q2 ?_
    refine gg_al 25 0 rfl rfl rfl ?_
    refine gg_gr 28 32 rfl rfl rfl gcl_30 rfl ?_
    refine gg_al 29 0 rfl rfl rfl ?_
    refine gg_gi 32 rfl rfl rfl gcl_30 rfl ?_
    refine gg_il 33 2 rfl rfl rfl ?_
    refine gg_q (fun q3 => ?_)
    refine gg_ias 34 rfl rfl gar_32 q3 ?_
    refine gg_al 35 0 rfl rfl rfl ?_
    refine gg_gr 38 33 rfl rfl rfl gcl_30 rfl ?_
    refine gg_al 39 0 rfl rfl rfl ?_
    refine gg_gi 42 rfl rfl rfl gcl_30 rfl ?_
    refine gg_il 43 3 rfl rfl rfl ?_
    refine gg_q (fun q4 => ?_)
    refine gg_ias 44 rfl rfl gar_33 q4 ?_
    refine gg_al 45 0 rfl rfl rfl ?_
    refine gg_gr 48 34 rfl rfl rfl gcl_30 rfl ?_
    refine gg_al 49 0 rfl rfl rfl ?_
    refine gg_gi 52 rfl rfl rfl gcl_30 rfl ?_
    refine gg_il 54 4 rfl rfl rfl ?_
    refine gg_q (fun q5 => ?_)
    refine gg_ias 55 rfl rfl gar_34 q5 ?_
    refine gg_al 56 0 rfl rfl rfl ?_
    refine gg_s 57 rfl rfl ?_
    refine gg_gi 60 rfl rfl rfl gcl_30 rfl ?_
    refine gg_ci 61 1 rfl rfl ?_
    refine gg_add 62 rfl rfl ?_
    refine gg_pf 65 rfl rfl rfl gcl_30 rfl ⟨rfl, rfl⟩ ?_
    refine gg_al 66 0 rfl rfl rfl ?_
    refine gg_gi 69 rfl rfl rfl gcl_30 rfl ?_
    refine gg_ci 70 1 rfl rfl ?_
    refine gg_sub 71 rfl rfl ?_
    exact gg_ir rfl
  · refine gg_ci 13 134 rfl rfl ?_
    exact gg_ir rfl
def fx_51_24 (k : Nat) (a1 : Nat) (x2 : Int) (x3 : Int) (σ : gb_S) : Option gb_P := match k with
  | 0 => none
  | k + 1 =>
    gq (0 ≤ x2 ∧ x2 < 134) (
    gq (gR x3) (
    gq (gR (σ 34 x2.toNat)) (
    (if x3 < (σ 34 x2.toNat) then
      gq (gR ((gb_ln a1 : Nat) : Int)) (
      (if x3 < ((gb_ln a1 : Nat) : Int) then
        gq (0 ≤ x3 ∧ x3 < gb_ln a1) (
        gq (gR (σ a1 x3.toNat)) (
        gq (gR (σ 31 x2.toNat)) (
        (if (σ a1 x3.toNat) = (σ 31 x2.toNat) then
          fx_51_24 k a1 x2 (x3 + 1) (gb_up σ a1 x3.toNat (σ 32 x2.toNat))
        else
          fx_51_24 k a1 x2 (x3 + 1) σ))))
      else
        some (.inl 0, σ)))
    else
      some (.inl 0, σ)))))
/-- Treeclerk$Land.handOver -/
def fx_51 (a1 : Nat) (x2 : Int) (σ : gb_S) : Option gb_P :=
  gq (gR x2) (
  (if x2 < 0 then
    some (.inl 0, σ)
  else
    gq (gR (σ 30 5)) (
    (if x2 < (σ 30 5) then
      gq (0 ≤ x2 ∧ x2 < 134) (
      gq (gR (σ 33 x2.toNat)) (
      fx_51_24 gFU a1 x2 (max (σ 33 x2.toNat) 0) σ))
    else
      some (.inl 0, σ)))))
theorem gt_51_24 (k : Nat) : ∀ (a1 : Nat) (x2 : Int) (x3 : Int) (h1 : gb_kd a1 = 20) {lo : gh_L} (l0 : lo.lookup 0 = some (vr 30)) (l1 : lo.lookup 1 = some (vr a1)) (l2 : lo.lookup 2 = some (vi x2)) (l3 : lo.lookup 3 = some (vi x3)) {σ : gb_S}, gb_G (fx_51_24 k a1 x2 x3 σ) 0 4 none (fun _ _ => none) gk_51 c0 eV 24 lo [] σ := by
  induction k with
  | zero => intros; exact gg_n
  | succ k ih =>
    intro a1 x2 x3 h1 lo l0 l1 l2 l3 σ
    rw [fx_51_24]
    refine gg_il 25 3 rfl rfl l3 ?_
    refine gg_al 26 0 rfl rfl l0 ?_
    refine gg_gr 29 34 rfl rfl rfl gcl_30 rfl ?_
    refine gg_il 30 2 rfl rfl l2 ?_
    refine gg_q (fun q1 => ?_)
    refine gg_ial 31 rfl rfl gar_34 q1 ?_
    refine gg_q (fun q2 => ?_)
    refine gg_q (fun q3 => ?_)
    refine gg_ige 67 34 rfl rfl rfl rfl q2 q3 ?_ ?_
    · exact gg_vr rfl
    · refine gg_il 35 3 rfl rfl l3 ?_
      refine gg_al 36 1 rfl rfl l1 ?_
      refine gg_len 37 rfl rfl (gar h1) ?_
      refine gg_q (fun q4 => ?_)
      refine gg_ige 67 40 rfl rfl rfl rfl q2 q4 ?_ ?_
      · exact gg_vr rfl
      · refine gg_al 41 1 rfl rfl l1 ?_
        refine gg_il 42 3 rfl rfl l3 ?_
        refine gg_q (fun q5 => ?_)
        refine gg_ial 43 rfl rfl (gar h1) q5 ?_
        refine gg_al 44 0 rfl rfl l0 ?_
        refine gg_gr 47 31 rfl rfl rfl gcl_30 rfl ?_
        refine gg_il 48 2 rfl rfl l2 ?_
        refine gg_ial 49 rfl rfl gar_31 q1 ?_
        refine gg_q (fun q6 => ?_)
        refine gg_q (fun q7 => ?_)
        refine gg_ine 61 52 rfl rfl rfl rfl q6 q7 ?_ ?_
        · refine gg_inc 64 rfl rfl l3 ?_
          refine gg_go 24 rfl rfl rfl ?_
          exact ih a1 x2 (x3 + 1) h1 (gl1 rfl rfl l0) (gl1 rfl rfl l1) (gl1 rfl rfl l2) gs1
        · refine gg_al 53 1 rfl rfl l1 ?_
          refine gg_il 54 3 rfl rfl l3 ?_
          refine gg_al 55 0 rfl rfl l0 ?_
          refine gg_gr 58 32 rfl rfl rfl gcl_30 rfl ?_
          refine gg_il 59 2 rfl rfl l2 ?_
          refine gg_ial 60 rfl rfl gar_32 q1 ?_
          refine gg_ias 61 rfl rfl (gar h1) q5 ?_
          refine gg_inc 64 rfl rfl l3 ?_
          refine gg_go 24 rfl rfl rfl ?_
          exact ih a1 x2 (x3 + 1) h1 (gl1 rfl rfl l0) (gl1 rfl rfl l1) (gl1 rfl rfl l2) gs1
theorem gm_51 (a1 : Nat) (x2 : Int) (h1 : gb_kd a1 = 20) {σ : gb_S} : gb_M (fx_51 a1 x2 σ) 1 c0 eV 51 [vr 30, vr a1, vi x2] σ := by
  rw [fx_51]
  refine gg_m (own := 4) (rt := none) (hnd := fun _ _ => none) (K := gk_51) (δ := 0) rfl rfl ?_
  refine gg_il 1 2 rfl rfl rfl ?_
  refine gg_q (fun q1 => ?_)
  refine gg_zlt 12 4 rfl rfl rfl rfl q1 ?_ ?_
  · exact gg_vr rfl
  · refine gg_il 5 2 rfl rfl rfl ?_
    refine gg_al 6 0 rfl rfl rfl ?_
    refine gg_gi 9 rfl rfl rfl gcl_30 rfl ?_
    refine gg_q (fun q2 => ?_)
    refine gg_ilt 13 12 rfl rfl rfl rfl q1 q2 ?_ ?_
    · refine gg_al 14 0 rfl rfl rfl ?_
      refine gg_gr 17 33 rfl rfl rfl gcl_30 rfl ?_
      refine gg_il 18 2 rfl rfl rfl ?_
      refine gg_q (fun q3 => ?_)
      refine gg_ial 19 rfl rfl gar_33 q3 ?_
      refine gg_ci 20 0 rfl rfl ?_
      refine gg_q (fun q4 => ?_)
      refine gg_max 23 rfl rfl rfl rfl q4 (gRl rfl) ?_
      refine gg_s 24 rfl rfl ?_
      exact gt_51_24 gFU a1 x2 (max (σ 33 x2.toNat) 0) h1 (gl1 rfl rfl rfl) (gl1 rfl rfl rfl) (gl1 rfl rfl rfl) gs1
    · exact gg_vr rfl
def fx_45_34 (x1 : Int) (x2 : Int) (x3 : Int) (σ : gb_S) : Option gb_P :=
  gc (fx_48 (-1) x1 x2 x3 σ) (fun r1 s2 =>
  gc (fx_51 37 r1 s2) (fun _ s4 =>
  some (.inl 0, s4)))
def fx_45_7 (k : Nat) (x1 : Int) (x2 : Int) (x3 : Int) (x4 : Int) (σ : gb_S) : Option gb_P := match k with
  | 0 => none
  | k + 1 =>
    gq (gR x4) (
    gq (gR x3) (
    (if x4 < x3 then
      (if x4 < 60 then
        gq (0 ≤ x4 ∧ x4 < 60) (
        fx_45_7 k x1 x2 x3 (x4 + 1) (gb_up σ 36 x4.toNat 1))
      else
        fx_45_34 x1 x2 x3 σ)
    else
      fx_45_34 x1 x2 x3 σ)))
/-- Treeclerk$Land.enterGrant -/
def fx_45 (x1 : Int) (x2 : Int) (x3 : Int) (σ : gb_S) : Option gb_P :=
  gq (gR x2) (
  fx_45_7 gFU x1 x2 x3 (max x2 0) σ)
theorem gt_45_34 (x1 : Int) (x2 : Int) (x3 : Int) {lo : gh_L} (l0 : lo.lookup 0 = some (vr 30)) (l1 : lo.lookup 1 = some (vi x1)) (l2 : lo.lookup 2 = some (vi x2)) (l3 : lo.lookup 3 = some (vi x3)) {σ : gb_S} : gb_G (fx_45_34 x1 x2 x3 σ) 1 4 none (fun _ _ => none) gk_45 c0 eV 34 lo [] σ := by
  rw [fx_45_34]
  refine gg_al 35 0 rfl rfl l0 ?_
  refine gg_al 36 0 rfl rfl l0 ?_
  refine gg_gr 39 37 rfl rfl rfl gcl_30 rfl ?_
  refine gg_al 40 0 rfl rfl l0 ?_
  refine gg_ci 41 (-1) rfl rfl ?_
  refine gg_il 42 1 rfl rfl l1 ?_
  refine gg_il 43 2 rfl rfl l2 ?_
  refine gg_il 44 3 rfl rfl l3 ?_
  refine gg_cI 47 rfl (gm_48 _ _ _ _) (Nat.le_of_ble_eq_true rfl) (gb_vs rfl rfl rfl rfl rfl gcl_30 rfl rfl rfl) rfl (fun _ => rfl) (fun _ => rfl) (fun r1 s2 => ?_)
  refine gg_cV 50 rfl (gm_51 _ _ (rfl : gb_kd 37 = 20)) (Nat.le_of_ble_eq_true rfl) (gb_vs rfl rfl rfl rfl rfl gcl_30 rfl rfl rfl) rfl (fun _ => rfl) (fun _ => rfl) (fun s4 => ?_)
  exact gg_vr rfl
theorem gt_45_7 (k : Nat) : ∀ (x1 : Int) (x2 : Int) (x3 : Int) (x4 : Int) {lo : gh_L} (l0 : lo.lookup 0 = some (vr 30)) (l1 : lo.lookup 1 = some (vi x1)) (l2 : lo.lookup 2 = some (vi x2)) (l3 : lo.lookup 3 = some (vi x3)) (l4 : lo.lookup 4 = some (vi x4)) {σ : gb_S}, gb_G (fx_45_7 k x1 x2 x3 x4 σ) 1 4 none (fun _ _ => none) gk_45 c0 eV 7 lo [] σ := by
  induction k with
  | zero => intros; exact gg_n
  | succ k ih =>
    intro x1 x2 x3 x4 lo l0 l1 l2 l3 l4 σ
    rw [fx_45_7]
    refine gg_il 9 4 rfl rfl l4 ?_
    refine gg_il 10 3 rfl rfl l3 ?_
    refine gg_q (fun q1 => ?_)
    refine gg_q (fun q2 => ?_)
    refine gg_ige 34 13 rfl rfl rfl rfl q1 q2 ?_ ?_
    · exact gt_45_34 x1 x2 x3 l0 l1 l2 l3
    · refine gg_il 15 4 rfl rfl l4 ?_
      refine gg_ci 17 60 rfl rfl ?_
      refine gg_ige 34 20 rfl rfl rfl rfl q1 (gRl rfl) ?_ ?_
      · exact gt_45_34 x1 x2 x3 l0 l1 l2 l3
      · refine gg_al 21 0 rfl rfl l0 ?_
        refine gg_gr 24 36 rfl rfl rfl gcl_30 rfl ?_
        refine gg_il 26 4 rfl rfl l4 ?_
        refine gg_ci 27 1 rfl rfl ?_
        refine gg_q (fun q3 => ?_)
        refine gg_bas 28 rfl rfl gar_36 q3 (Or.inr rfl) ?_
        refine gg_inc 31 rfl rfl l4 ?_
        refine gg_go 7 rfl rfl rfl ?_
        exact ih x1 x2 x3 (x4 + 1) (gl1 rfl rfl l0) (gl1 rfl rfl l1) (gl1 rfl rfl l2) (gl1 rfl rfl l3) gs1
theorem gm_45 (x1 : Int) (x2 : Int) (x3 : Int) {σ : gb_S} : gb_M (fx_45 x1 x2 x3 σ) 2 c0 eV 45 [vr 30, vi x1, vi x2, vi x3] σ := by
  rw [fx_45]
  refine gg_m (own := 4) (rt := none) (hnd := fun _ _ => none) (K := gk_45) (δ := 1) rfl rfl ?_
  refine gg_il 1 2 rfl rfl rfl ?_
  refine gg_ci 2 0 rfl rfl ?_
  refine gg_q (fun q1 => ?_)
  refine gg_max 5 rfl rfl rfl rfl q1 (gRl rfl) ?_
  refine gg_s 7 rfl rfl ?_
  exact gt_45_7 gFU x1 x2 x3 (max x2 0) (gl1 rfl rfl rfl) (gl1 rfl rfl rfl) (gl1 rfl rfl rfl) (gl1 rfl rfl rfl) gs1
/-- Treeclerk$Land.enterHanding -/
def fx_46 (x1 : Int) (x2 : Int) (x3 : Int) (x4 : Int) (σ : gb_S) : Option gb_P :=
  gc (fx_48 x1 x2 x3 x4 (gb_up σ 30 6 ((σ 30 6) + 1))) (fun r1 s2 =>
  gc (fx_51 37 r1 s2) (fun _ s4 =>
  some (.inl 0, s4)))
theorem gm_46 (x1 : Int) (x2 : Int) (x3 : Int) (x4 : Int) {σ : gb_S} : gb_M (fx_46 x1 x2 x3 x4 σ) 2 c0 eV 46 [vr 30, vi x1, vi x2, vi x3, vi x4] σ := by
  rw [fx_46]
  refine gg_m (own := 4) (rt := none) (hnd := fun _ _ => none) (K := gk_46) (δ := 1) rfl rfl ?_
  refine gg_al 1 0 rfl rfl rfl ?_
  refine gg_s 2 rfl rfl ?_
  refine gg_gi 5 rfl rfl rfl gcl_30 rfl ?_
  refine gg_ci 6 1 rfl rfl ?_
  refine gg_add 7 rfl rfl ?_
  refine gg_pf 10 rfl rfl rfl gcl_30 rfl ⟨rfl, rfl⟩ ?_
  refine gg_al 11 0 rfl rfl rfl ?_
  refine gg_al 12 0 rfl rfl rfl ?_
  refine gg_gr 15 37 rfl rfl rfl gcl_30 rfl ?_
  refine gg_al 16 0 rfl rfl rfl ?_
  refine gg_il 17 1 rfl rfl rfl ?_
  refine gg_il 18 2 rfl rfl rfl ?_
  refine gg_il 19 3 rfl rfl rfl ?_
  refine gg_il 21 4 rfl rfl rfl ?_
  refine gg_cI 24 rfl (gm_48 _ _ _ _) (Nat.le_of_ble_eq_true rfl) (gb_vs rfl rfl rfl rfl rfl gcl_30 rfl rfl rfl) rfl (fun _ => rfl) (fun _ => rfl) (fun r1 s2 => ?_)
  refine gg_cV 27 rfl (gm_51 _ _ (rfl : gb_kd 37 = 20)) (Nat.le_of_ble_eq_true rfl) (gb_vs rfl rfl rfl rfl rfl gcl_30 rfl rfl rfl) rfl (fun _ => rfl) (fun _ => rfl) (fun s4 => ?_)
  exact gg_vr rfl
/-- Treeclerk$Land.takeFrom -/
def fx_54 (x1 : Int) (x2 : Int) (σ : gb_S) : Option gb_P :=
  gq (gR x1) (
  (if x1 < 0 then
    some (.inl (-1), σ)
  else
    gq (gR x2) (
    (if x1 < x2 then
      (if x1 < 14 then
        gq (0 ≤ x1 ∧ x1 < 14) (
        some (.inl ((gb_up σ 40 x1.toNat ((σ 40 x1.toNat) - 1)) 39 x1.toNat), (gb_up σ 40 x1.toNat ((σ 40 x1.toNat) - 1))))
      else
        some (.inl (-1), σ))
    else
      some (.inl (-1), σ)))))
theorem gm_54 (x1 : Int) (x2 : Int) {σ : gb_S} : gb_M (fx_54 x1 x2 σ) 1 c0 eI 54 [vr 30, vi x1, vi x2] σ := by
  rw [fx_54]
  refine gg_m (own := 4) (rt := (some .int)) (hnd := fun _ _ => none) (K := gk_54) (δ := 0) rfl rfl ?_
  refine gg_il 1 1 rfl rfl rfl ?_
  refine gg_q (fun q1 => ?_)
  refine gg_zlt 15 4 rfl rfl rfl rfl q1 ?_ ?_
  · refine gg_ci 16 (-1) rfl rfl ?_
    exact gg_ir rfl
  · refine gg_il 5 1 rfl rfl rfl ?_
    refine gg_il 6 2 rfl rfl rfl ?_
    refine gg_q (fun q2 => ?_)
    refine gg_ige 15 9 rfl rfl rfl rfl q1 q2 ?_ ?_
    · refine gg_ci 16 (-1) rfl rfl ?_
      exact gg_ir rfl
    · refine gg_il 10 1 rfl rfl rfl ?_
      refine gg_ci 12 14 rfl rfl ?_
      refine gg_ilt 17 15 rfl rfl rfl rfl q1 (gRl rfl) ?_ ?_
      · refine gg_al 18 0 rfl rfl rfl ?_
        refine gg_gr 21 40 rfl rfl rfl gcl_30 rfl ?_
        refine gg_il 22 1 rfl rfl rfl ?_
        refine gg_s 23 rfl rfl ?_
        refine gg_q (fun q3 => ?_)
        refine gg_ial 24 rfl rfl gar_40 q3 ?_
        refine gg_ci 25 1 rfl rfl ?_
        refine gg_sub 26 rfl rfl ?_
        refine gg_ias 27 rfl rfl gar_40 q3 ?_
        refine gg_al 28 0 rfl rfl rfl ?_
        refine gg_gr 31 39 rfl rfl rfl gcl_30 rfl ?_
        refine gg_il 32 1 rfl rfl rfl ?_
        refine gg_ial 33 rfl rfl gar_39 q3 ?_
        exact gg_ir rfl
      · refine gg_ci 16 (-1) rfl rfl ?_
        exact gg_ir rfl
/-- Treeclerk$Shares.unitsFor -/
def fx_74 (a0 : Nat) (x1 : Int) (x2 : Int) (σ : gb_S) : Option gb_P :=
  gc (fx_72 a0 x1 σ) (fun r1 s2 =>
  gq (gRL r1) (
  (if 0 < r1 then
    gq (gR x2) (
    gc (fx_71 a0 x1 s2) (fun r5 s6 =>
    gq ((0 ≤ (x2 * r5) ∧ (x2 * r5) ≤ 9223372036854775807) ∧ 0 < r1 ∧ r1 ≤ 9223372036854775807) (
    some (.inl ((x2 * r5) / r1), s6))))
  else
    some (.inl 0, s2))))
theorem gm_74 (a0 : Nat) (x1 : Int) (x2 : Int) (h0 : gb_kd a0 = 6) {σ : gb_S} : gb_M (fx_74 a0 x1 x2 σ) 2 c0 eI 74 [vr a0, vi x1, vi x2] σ := by
  rw [fx_74]
  refine gg_m (own := 6) (rt := (some .int)) (hnd := fun _ _ => none) (K := gk_74) (δ := 1) rfl rfl ?_
  refine gg_al 1 0 rfl rfl rfl ?_
  refine gg_il 2 1 rfl rfl rfl ?_
  refine gg_cLo 5 rfl (gm_72 _ _ h0) (Nat.le_of_ble_eq_true rfl) (gb_vs rfl rfl rfl rfl rfl (gsh0 h0) rfl rfl rfl) rfl (fun _ => rfl) (fun _ => rfl) (fun r1 s2 => ?_)
  refine gg_s 6 rfl rfl ?_
  refine gg_ll 7 3 rfl rfl gs2 ?_
  refine gg_cl 8 0 rfl rfl ?_
  refine gg_q (fun q3 => ?_)
  refine gg_Lle 26 12 rfl rfl rfl rfl rfl q3 ⟨by decide, by decide⟩ ?_ ?_
  · refine gg_ci 27 0 rfl rfl ?_
    exact gg_ir rfl
  · refine gg_il 13 2 rfl rfl (gl2 rfl rfl rfl rfl) ?_
    refine gg_q (fun q4 => ?_)
    refine gg_i2l 14 rfl rfl q4 ?_
    refine gg_al 15 0 rfl rfl (gl2 rfl rfl rfl rfl) ?_
    refine gg_il 16 1 rfl rfl (gl2 rfl rfl rfl rfl) ?_
    refine gg_cLo 19 rfl (gm_71 _ _ h0) (Nat.le_of_ble_eq_true rfl) (gb_vs rfl rfl rfl rfl rfl (gsh0 h0) rfl rfl rfl) rfl (fun _ => rfl) (fun _ => rfl) (fun r5 s6 => ?_)
    refine gg_lmul 20 rfl rfl ?_
    refine gg_ll 21 3 rfl rfl gs2 ?_
    refine gg_q (fun q7 => ?_)
    refine gg_ldiv 22 rfl rfl q7 ?_
    refine gg_l2i 23 rfl rfl ?_
    refine gg_go 27 rfl rfl rfl ?_
    exact gg_ir rfl
def fx_55_59 (k : Nat) (x2 : Int) (x4 : Int) (x5 : Int) (σ : gb_S) : Option gb_P := match k with
  | 0 => none
  | k + 1 =>
    gq (gR x5) (
    gq (gR x2) (
    (if x5 < x2 then
      (if x5 < 14 then
        gq (gR x4) (
        (if 0 < x4 then
          gq (0 ≤ x5 ∧ x5 < 14) (
          fx_55_59 k x2 (x4 + (-1)) (x5 + 1) (gb_up σ 40 x5.toNat ((σ 40 x5.toNat) + 1)))
        else
          some (.inl 0, σ)))
      else
        some (.inl 0, σ))
    else
      some (.inl 0, σ))))
def fx_55_6 (k : Nat) (x1 : Int) (x2 : Int) (a3 : Nat) (x4 : Int) (x5 : Int) (σ : gb_S) : Option gb_P := match k with
  | 0 => none
  | k + 1 =>
    gq (gR x5) (
    gq (gR x2) (
    (if x5 < x2 then
      (if x5 < 14 then
        gq (0 ≤ x5 ∧ x5 < 14) (
        gc (fx_74 a3 (σ 39 x5.toNat) x1 σ) (fun r4 s5 =>
        fx_55_6 k x1 x2 a3 (x4 - ((gb_up s5 40 x5.toNat r4) 40 x5.toNat)) (x5 + 1) (gb_up s5 40 x5.toNat r4)))
      else
        fx_55_59 gFU x2 x4 0 σ)
    else
      fx_55_59 gFU x2 x4 0 σ)))
/-- Treeclerk$Land.portionOut -/
def fx_55 (x1 : Int) (x2 : Int) (a3 : Nat) (σ : gb_S) : Option gb_P :=
  fx_55_6 gFU x1 x2 a3 x1 0 σ
theorem gt_55_59 (k : Nat) : ∀ (x2 : Int) (x4 : Int) (x5 : Int) {lo : gh_L} (l0 : lo.lookup 0 = some (vr 30)) (l2 : lo.lookup 2 = some (vi x2)) (l4 : lo.lookup 4 = some (vi x4)) (l5 : lo.lookup 5 = some (vi x5)) {σ : gb_S}, gb_G (fx_55_59 k x2 x4 x5 σ) 2 4 none (fun _ _ => none) gk_55 c0 eV 59 lo [] σ := by
  induction k with
  | zero => intros; exact gg_n
  | succ k ih =>
    intro x2 x4 x5 lo l0 l2 l4 l5 σ
    rw [fx_55_59]
    refine gg_il 61 5 rfl rfl l5 ?_
    refine gg_il 62 2 rfl rfl l2 ?_
    refine gg_q (fun q1 => ?_)
    refine gg_q (fun q2 => ?_)
    refine gg_ige 97 65 rfl rfl rfl rfl q1 q2 ?_ ?_
    · exact gg_vr rfl
    · refine gg_il 67 5 rfl rfl l5 ?_
      refine gg_ci 69 14 rfl rfl ?_
      refine gg_ige 97 72 rfl rfl rfl rfl q1 (gRl rfl) ?_ ?_
      · exact gg_vr rfl
      · refine gg_il 74 4 rfl rfl l4 ?_
        refine gg_q (fun q3 => ?_)
        refine gg_zle 97 77 rfl rfl rfl rfl q3 ?_ ?_
        · exact gg_vr rfl
        · refine gg_al 78 0 rfl rfl l0 ?_
          refine gg_gr 81 40 rfl rfl rfl gcl_30 rfl ?_
          refine gg_il 83 5 rfl rfl l5 ?_
          refine gg_s 84 rfl rfl ?_
          refine gg_q (fun q4 => ?_)
          refine gg_ial 85 rfl rfl gar_40 q4 ?_
          refine gg_ci 86 1 rfl rfl ?_
          refine gg_add 87 rfl rfl ?_
          refine gg_ias 88 rfl rfl gar_40 q4 ?_
          refine gg_inc 91 rfl rfl l4 ?_
          refine gg_inc 94 rfl rfl (gl1 rfl rfl l5) ?_
          refine gg_go 59 rfl rfl rfl ?_
          exact ih x2 (x4 + (-1)) (x5 + 1) (gl1 rfl rfl (gl1 rfl rfl l0)) (gl1 rfl rfl (gl1 rfl rfl l2)) (gl1 rfl rfl gs1) gs1
theorem gt_55_6 (k : Nat) : ∀ (x1 : Int) (x2 : Int) (a3 : Nat) (x4 : Int) (x5 : Int) (h3 : gb_kd a3 = 6) {lo : gh_L} (l0 : lo.lookup 0 = some (vr 30)) (l1 : lo.lookup 1 = some (vi x1)) (l2 : lo.lookup 2 = some (vi x2)) (l3 : lo.lookup 3 = some (vr a3)) (l4 : lo.lookup 4 = some (vi x4)) (l5 : lo.lookup 5 = some (vi x5)) {σ : gb_S}, gb_G (fx_55_6 k x1 x2 a3 x4 x5 σ) 2 4 none (fun _ _ => none) gk_55 c0 eV 6 lo [] σ := by
  induction k with
  | zero => intros; exact gg_n
  | succ k ih =>
    intro x1 x2 a3 x4 x5 h3 lo l0 l1 l2 l3 l4 l5 σ
    rw [fx_55_6]
    refine gg_il 8 5 rfl rfl l5 ?_
    refine gg_il 9 2 rfl rfl l2 ?_
    refine gg_q (fun q1 => ?_)
    refine gg_q (fun q2 => ?_)
    refine gg_ige 56 12 rfl rfl rfl rfl q1 q2 ?_ ?_
    · refine gg_ci 57 0 rfl rfl ?_
      refine gg_s 59 rfl rfl ?_
      exact gt_55_59 gFU x2 x4 0 (gl1 rfl rfl l0) (gl1 rfl rfl l2) (gl1 rfl rfl l4) gs1
    · refine gg_il 14 5 rfl rfl l5 ?_
      refine gg_ci 16 14 rfl rfl ?_
      refine gg_ige 56 19 rfl rfl rfl rfl q1 (gRl rfl) ?_ ?_
      · refine gg_ci 57 0 rfl rfl ?_
        refine gg_s 59 rfl rfl ?_
        exact gt_55_59 gFU x2 x4 0 (gl1 rfl rfl l0) (gl1 rfl rfl l2) (gl1 rfl rfl l4) gs1
      · refine gg_al 20 0 rfl rfl l0 ?_
        refine gg_gr 23 40 rfl rfl rfl gcl_30 rfl ?_
        refine gg_il 25 5 rfl rfl l5 ?_
        refine gg_al 26 3 rfl rfl l3 ?_
        refine gg_al 27 0 rfl rfl l0 ?_
        refine gg_gr 30 39 rfl rfl rfl gcl_30 rfl ?_
        refine gg_il 32 5 rfl rfl l5 ?_
        refine gg_q (fun q3 => ?_)
        refine gg_ial 33 rfl rfl gar_39 q3 ?_
        refine gg_il 34 1 rfl rfl l1 ?_
        refine gg_cI 37 rfl (gm_74 _ _ _ h3) (Nat.le_of_ble_eq_true rfl) (gb_vs rfl rfl rfl rfl rfl (gsh0 h3) rfl rfl rfl) rfl (fun _ => rfl) (fun _ => rfl) (fun r4 s5 => ?_)
        refine gg_ias 38 rfl rfl gar_40 q3 ?_
        refine gg_il 40 4 rfl rfl l4 ?_
        refine gg_al 41 0 rfl rfl l0 ?_
        refine gg_gr 44 40 rfl rfl rfl gcl_30 rfl ?_
        refine gg_il 46 5 rfl rfl l5 ?_
        refine gg_ial 47 rfl rfl gar_40 q3 ?_
        refine gg_sub 48 rfl rfl ?_
        refine gg_s 50 rfl rfl ?_
        refine gg_inc 53 rfl rfl (gl1 rfl rfl l5) ?_
        refine gg_go 6 rfl rfl rfl ?_
        exact ih x1 x2 a3 (x4 - ((gb_up s5 40 x5.toNat r4) 40 x5.toNat)) (x5 + 1) h3 (gl1 rfl rfl (gl1 rfl rfl l0)) (gl1 rfl rfl (gl1 rfl rfl l1)) (gl1 rfl rfl (gl1 rfl rfl l2)) (gl1 rfl rfl (gl1 rfl rfl l3)) (gl1 rfl rfl gs1) gs1
theorem gm_55 (x1 : Int) (x2 : Int) (a3 : Nat) (h3 : gb_kd a3 = 6) {σ : gb_S} : gb_M (fx_55 x1 x2 a3 σ) 3 c0 eV 55 [vr 30, vi x1, vi x2, vr a3] σ := by
  rw [fx_55]
  refine gg_m (own := 4) (rt := none) (hnd := fun _ _ => none) (K := gk_55) (δ := 2) rfl rfl ?_
  refine gg_il 1 1 rfl rfl rfl ?_
  refine gg_s 3 rfl rfl ?_
  refine gg_ci 4 0 rfl rfl ?_
  refine gg_s 6 rfl rfl ?_
  exact gt_55_6 gFU x1 x2 a3 x1 0 h3 (gl1 rfl rfl (gl1 rfl rfl rfl)) (gl1 rfl rfl (gl1 rfl rfl rfl)) (gl1 rfl rfl (gl1 rfl rfl rfl)) (gl1 rfl rfl (gl1 rfl rfl rfl)) (gl1 rfl rfl gs1) gs1
def fx_53_83 (k35 : Nat → Nat → Int → Int → Int → gb_S → Option gb_P) (a1 : Nat) (a2 : Nat) (x4 : Int) (x5 : Int) (x6 : Int) (σ : gb_S) : Option gb_P :=
  gc (fx_54 x5 x4 σ) (fun r1 s2 =>
  gq (0 ≤ x6 ∧ x6 < gb_ln a1) (
  k35 a1 a2 x4 x5 (x6 + 1) (gb_up s2 a1 x6.toNat r1)))
def fx_53_53 (k : Nat) (k35 : Nat → Nat → Int → Int → Int → gb_S → Option gb_P) (a1 : Nat) (a2 : Nat) (x4 : Int) (x5 : Int) (x6 : Int) (σ : gb_S) : Option gb_P := match k with
  | 0 => none
  | k + 1 =>
    gq (gR x5) (
    gq (gR x4) (
    (if x5 < x4 then
      (if x5 < 14 then
        gq (0 ≤ x5 ∧ x5 < 14) (
        gq (gR (σ 40 x5.toNat)) (
        (if (σ 40 x5.toNat) = 0 then
          fx_53_53 k k35 a1 a2 x4 (x5 + 1) x6 σ
        else
          fx_53_83 k35 a1 a2 x4 x5 x6 σ)))
      else
        fx_53_83 k35 a1 a2 x4 x5 x6 σ)
    else
      fx_53_83 k35 a1 a2 x4 x5 x6 σ)))
def fx_53_35 (k : Nat) (a1 : Nat) (a2 : Nat) (x4 : Int) (x5 : Int) (x6 : Int) (σ : gb_S) : Option gb_P := match k with
  | 0 => none
  | k + 1 =>
    gq (gR x6) (
    gq (gR ((gb_ln a1 : Nat) : Int)) (
    (if x6 < ((gb_ln a1 : Nat) : Int) then
      gq (0 ≤ x6 ∧ x6 < gb_ln a1) (
      gq (gR (σ a1 x6.toNat)) (
      gq (gR (σ a2 0)) (
      (if (σ a1 x6.toNat) = (σ a2 0) then
        fx_53_53 gFU (fx_53_35 k) a1 a2 x4 x5 x6 σ
      else
        fx_53_35 k a1 a2 x4 x5 (x6 + 1) σ))))
    else
      some (.inl 0, σ))))
/-- Treeclerk$Land.draw -/
def fx_53 (a1 : Nat) (a2 : Nat) (a3 : Nat) (σ : gb_S) : Option gb_P :=
  gc (fx_19 a2 a3 39 σ) (fun r1 s2 =>
  gc (fx_57 a1 (s2 a2 0) 0 60 s2) (fun r3 s4 =>
  gc (fx_55 r3 r1 a3 s4) (fun _ s6 =>
  fx_53_35 gFU a1 a2 r1 0 0 s6)))
theorem gt_53_83 {k35 : Nat → Nat → Int → Int → Int → gb_S → Option gb_P} (hk35 : ∀ (a1 : Nat) (a2 : Nat) (x4 : Int) (x5 : Int) (x6 : Int) (h1 : gb_kd a1 = 20) (h2 : gb_kd a2 = 1) {lo : gh_L} (l0 : lo.lookup 0 = some (vr 30)) (l1 : lo.lookup 1 = some (vr a1)) (l2 : lo.lookup 2 = some (vr a2)) (l4 : lo.lookup 4 = some (vi x4)) (l5 : lo.lookup 5 = some (vi x5)) (l6 : lo.lookup 6 = some (vi x6)) {σ : gb_S}, gb_G (k35 a1 a2 x4 x5 x6 σ) 3 4 none (fun _ _ => none) gk_53 c0 eV 35 lo [] σ) (a1 : Nat) (a2 : Nat) (x4 : Int) (x5 : Int) (x6 : Int) (h1 : gb_kd a1 = 20) (h2 : gb_kd a2 = 1) {lo : gh_L} (l0 : lo.lookup 0 = some (vr 30)) (l1 : lo.lookup 1 = some (vr a1)) (l2 : lo.lookup 2 = some (vr a2)) (l4 : lo.lookup 4 = some (vi x4)) (l5 : lo.lookup 5 = some (vi x5)) (l6 : lo.lookup 6 = some (vi x6)) {σ : gb_S} : gb_G (fx_53_83 k35 a1 a2 x4 x5 x6 σ) 3 4 none (fun _ _ => none) gk_53 c0 eV 83 lo [] σ := by
  rw [fx_53_83]
  refine gg_al 84 1 rfl rfl l1 ?_
  refine gg_il 86 6 rfl rfl l6 ?_
  refine gg_al 87 0 rfl rfl l0 ?_
  refine gg_il 89 5 rfl rfl l5 ?_
  refine gg_il 91 4 rfl rfl l4 ?_
  refine gg_cI 94 rfl (gm_54 _ _) (Nat.le_of_ble_eq_true rfl) (gb_vs rfl rfl rfl rfl rfl gcl_30 rfl rfl rfl) rfl (fun _ => rfl) (fun _ => rfl) (fun r1 s2 => ?_)
  refine gg_q (fun q3 => ?_)
  refine gg_ias 95 rfl rfl (gar h1) q3 ?_
  refine gg_inc 98 rfl rfl l6 ?_
  refine gg_go 35 rfl rfl rfl ?_
  exact hk35 a1 a2 x4 x5 (x6 + 1) h1 h2 (gl1 rfl rfl l0) (gl1 rfl rfl l1) (gl1 rfl rfl l2) (gl1 rfl rfl l4) (gl1 rfl rfl l5) gs1
theorem gt_53_53 (k : Nat) {k35 : Nat → Nat → Int → Int → Int → gb_S → Option gb_P} (hk35 : ∀ (a1 : Nat) (a2 : Nat) (x4 : Int) (x5 : Int) (x6 : Int) (h1 : gb_kd a1 = 20) (h2 : gb_kd a2 = 1) {lo : gh_L} (l0 : lo.lookup 0 = some (vr 30)) (l1 : lo.lookup 1 = some (vr a1)) (l2 : lo.lookup 2 = some (vr a2)) (l4 : lo.lookup 4 = some (vi x4)) (l5 : lo.lookup 5 = some (vi x5)) (l6 : lo.lookup 6 = some (vi x6)) {σ : gb_S}, gb_G (k35 a1 a2 x4 x5 x6 σ) 3 4 none (fun _ _ => none) gk_53 c0 eV 35 lo [] σ) : ∀ (a1 : Nat) (a2 : Nat) (x4 : Int) (x5 : Int) (x6 : Int) (h1 : gb_kd a1 = 20) (h2 : gb_kd a2 = 1) {lo : gh_L} (l0 : lo.lookup 0 = some (vr 30)) (l1 : lo.lookup 1 = some (vr a1)) (l2 : lo.lookup 2 = some (vr a2)) (l4 : lo.lookup 4 = some (vi x4)) (l5 : lo.lookup 5 = some (vi x5)) (l6 : lo.lookup 6 = some (vi x6)) {σ : gb_S}, gb_G (fx_53_53 k k35 a1 a2 x4 x5 x6 σ) 3 4 none (fun _ _ => none) gk_53 c0 eV 53 lo [] σ := by
  induction k with
  | zero => intros; exact gg_n
  | succ k ih =>
    intro a1 a2 x4 x5 x6 h1 h2 lo l0 l1 l2 l4 l5 l6 σ
    rw [fx_53_53]
    refine gg_il 55 5 rfl rfl l5 ?_
    refine gg_il 57 4 rfl rfl l4 ?_
    refine gg_q (fun q1 => ?_)
    refine gg_q (fun q2 => ?_)
    refine gg_ige 83 60 rfl rfl rfl rfl q1 q2 ?_ ?_
    · exact gt_53_83 hk35 a1 a2 x4 x5 x6 h1 h2 l0 l1 l2 l4 l5 l6
    · refine gg_il 62 5 rfl rfl l5 ?_
      refine gg_ci 64 14 rfl rfl ?_
      refine gg_ige 83 67 rfl rfl rfl rfl q1 (gRl rfl) ?_ ?_
      · exact gt_53_83 hk35 a1 a2 x4 x5 x6 h1 h2 l0 l1 l2 l4 l5 l6
      · refine gg_al 68 0 rfl rfl l0 ?_
        refine gg_gr 71 40 rfl rfl rfl gcl_30 rfl ?_
        refine gg_il 73 5 rfl rfl l5 ?_
        refine gg_q (fun q3 => ?_)
        refine gg_ial 74 rfl rfl gar_40 q3 ?_
        refine gg_q (fun q4 => ?_)
        refine gg_zne 83 77 rfl rfl rfl rfl q4 ?_ ?_
        · exact gt_53_83 hk35 a1 a2 x4 x5 x6 h1 h2 l0 l1 l2 l4 l5 l6
        · refine gg_inc 80 rfl rfl l5 ?_
          refine gg_go 53 rfl rfl rfl ?_
          exact ih a1 a2 x4 (x5 + 1) x6 h1 h2 (gl1 rfl rfl l0) (gl1 rfl rfl l1) (gl1 rfl rfl l2) (gl1 rfl rfl l4) gs1 (gl1 rfl rfl l6)
theorem gt_53_35 (k : Nat) : ∀ (a1 : Nat) (a2 : Nat) (x4 : Int) (x5 : Int) (x6 : Int) (h1 : gb_kd a1 = 20) (h2 : gb_kd a2 = 1) {lo : gh_L} (l0 : lo.lookup 0 = some (vr 30)) (l1 : lo.lookup 1 = some (vr a1)) (l2 : lo.lookup 2 = some (vr a2)) (l4 : lo.lookup 4 = some (vi x4)) (l5 : lo.lookup 5 = some (vi x5)) (l6 : lo.lookup 6 = some (vi x6)) {σ : gb_S}, gb_G (fx_53_35 k a1 a2 x4 x5 x6 σ) 3 4 none (fun _ _ => none) gk_53 c0 eV 35 lo [] σ := by
  induction k with
  | zero => intros; exact gg_n
  | succ k ih =>
    intro a1 a2 x4 x5 x6 h1 h2 lo l0 l1 l2 l4 l5 l6 σ
    rw [fx_53_35]
    refine gg_il 37 6 rfl rfl l6 ?_
    refine gg_al 38 1 rfl rfl l1 ?_
    refine gg_len 39 rfl rfl (gar h1) ?_
    refine gg_q (fun q1 => ?_)
    refine gg_q (fun q2 => ?_)
    refine gg_ige 101 42 rfl rfl rfl rfl q1 q2 ?_ ?_
    · exact gg_vr rfl
    · refine gg_al 43 1 rfl rfl l1 ?_
      refine gg_il 45 6 rfl rfl l6 ?_
      refine gg_q (fun q3 => ?_)
      refine gg_ial 46 rfl rfl (gar h1) q3 ?_
      refine gg_al 47 2 rfl rfl l2 ?_
      refine gg_gi 50 rfl rfl rfl (ges0 h2) rfl ?_
      refine gg_q (fun q4 => ?_)
      refine gg_q (fun q5 => ?_)
      refine gg_ine 95 53 rfl rfl rfl rfl q4 q5 ?_ ?_
      · refine gg_inc 98 rfl rfl l6 ?_
        refine gg_go 35 rfl rfl rfl ?_
        exact ih a1 a2 x4 x5 (x6 + 1) h1 h2 (gl1 rfl rfl l0) (gl1 rfl rfl l1) (gl1 rfl rfl l2) (gl1 rfl rfl l4) (gl1 rfl rfl l5) gs1
      · exact gt_53_53 gFU ih a1 a2 x4 x5 x6 h1 h2 l0 l1 l2 l4 l5 l6
theorem gm_53 (a1 : Nat) (a2 : Nat) (a3 : Nat) (h1 : gb_kd a1 = 20) (h2 : gb_kd a2 = 1) (h3 : gb_kd a3 = 6) {σ : gb_S} : gb_M (fx_53 a1 a2 a3 σ) 4 c0 eV 53 [vr 30, vr a1, vr a2, vr a3] σ := by
  rw [fx_53]
  refine gg_m (own := 4) (rt := none) (hnd := fun _ _ => none) (K := gk_53) (δ := 3) rfl rfl ?_
  refine gg_al 1 2 rfl rfl rfl ?_
  refine gg_al 2 3 rfl rfl rfl ?_
  refine gg_al 3 0 rfl rfl rfl ?_
  refine gg_gr 6 39 rfl rfl rfl gcl_30 rfl ?_
  refine gg_cI 9 rfl (gm_19 _ _ _ h2 h3 (rfl : gb_kd 39 = 20)) (Nat.le_of_ble_eq_true rfl) (gb_vs rfl rfl rfl rfl rfl (ges0 h2) rfl rfl rfl) rfl (fun _ => rfl) (fun _ => rfl) (fun r1 s2 => ?_)
  refine gg_s 11 rfl rfl ?_
  refine gg_al 12 0 rfl rfl (gl1 rfl rfl rfl) ?_
  refine gg_al 13 1 rfl rfl (gl1 rfl rfl rfl) ?_
  refine gg_al 14 2 rfl rfl (gl1 rfl rfl rfl) ?_
  refine gg_gi 17 rfl rfl rfl (ges0 h2) rfl ?_
  refine gg_ci 18 0 rfl rfl ?_
  refine gg_ci 20 60 rfl rfl ?_
  refine gg_cI 23 rfl (gm_57 _ _ _ _ h1) (Nat.le_of_ble_eq_true rfl) (gb_ss rfl rfl rfl rfl rfl rfl rfl) rfl (fun _ => rfl) (fun _ => rfl) (fun r3 s4 => ?_)
  refine gg_il 25 4 rfl rfl gs1 ?_
  refine gg_al 26 3 rfl rfl (gl1 rfl rfl rfl) ?_
  refine gg_cV 29 rfl (gm_55 _ _ _ h3) (Nat.le_of_ble_eq_true rfl) (gb_vs rfl rfl rfl rfl rfl gcl_30 rfl rfl rfl) rfl (fun _ => rfl) (fun _ => rfl) (fun s6 => ?_)
  refine gg_ci 30 0 rfl rfl ?_
  refine gg_s 32 rfl rfl ?_
  refine gg_ci 33 0 rfl rfl ?_
  refine gg_s 35 rfl rfl ?_
  exact gt_53_35 gFU a1 a2 r1 0 0 h1 h2 (gl1 rfl rfl (gl1 rfl rfl (gl1 rfl rfl rfl))) (gl1 rfl rfl (gl1 rfl rfl (gl1 rfl rfl rfl))) (gl1 rfl rfl (gl1 rfl rfl (gl1 rfl rfl rfl))) (gl1 rfl rfl (gl1 rfl rfl gs1)) (gl1 rfl rfl gs1) gs1
/-- Treeclerk$Land.drawKept -/
def fx_52 (a1 : Nat) (σ : gb_S) : Option gb_P :=
  gc (fx_53 37 a1 (a1 + 3) (gb_cp σ 37 (a1 + 9))) (fun _ s2 =>
  some (.inl 0, s2))
theorem gm_52 (a1 : Nat) (h1 : gb_kd a1 = 1) {σ : gb_S} : gb_M (fx_52 a1 σ) 5 c0 eV 52 [vr 30, vr a1] σ := by
  rw [fx_52]
  refine gg_m (own := 4) (rt := none) (hnd := fun _ _ => none) (K := gk_52) (δ := 4) rfl rfl ?_
  refine gg_al 1 0 rfl rfl rfl ?_
  refine gg_gr 4 37 rfl rfl rfl gcl_30 rfl ?_
  refine gg_ci 5 0 rfl rfl ?_
  refine gg_al 6 1 rfl rfl rfl ?_
  refine gg_gr 9 (a1 + 9) rfl rfl rfl (ges0 h1) rfl ?_
  refine gg_ci 10 0 rfl rfl ?_
  refine gg_ci 12 60 rfl rfl ?_
  refine gg_acp 15 (Or.inl ⟨rfl, rfl⟩) (Nat.le_of_ble_eq_true rfl) rfl rfl rfl rfl gar_37.1 (ges9 h1).1 ?_
  refine gg_al 16 0 rfl rfl rfl ?_
  refine gg_al 17 0 rfl rfl rfl ?_
  refine gg_gr 20 37 rfl rfl rfl gcl_30 rfl ?_
  refine gg_al 21 1 rfl rfl rfl ?_
  refine gg_al 22 1 rfl rfl rfl ?_
  refine gg_gr 25 (a1 + 3) rfl rfl rfl (ges0 h1) rfl ?_
  refine gg_cV 28 rfl (gm_53 _ _ _ (rfl : gb_kd 37 = 20) h1 (ges3 h1)) (Nat.le_of_ble_eq_true rfl) (gb_vs rfl rfl rfl rfl rfl gcl_30 rfl rfl rfl) rfl (fun _ => rfl) (fun _ => rfl) (fun s2 => ?_)
  exact gg_vr rfl
/-- Treeclerk$Land.enterClosing -/
def fx_47 (a1 : Nat) (σ : gb_S) : Option gb_P :=
  gc (fx_48 (σ a1 0) (-1) 0 60 σ) (fun r1 s2 =>
  gq (gR r1) (
  (if r1 < 134 then
    gq (0 ≤ r1 ∧ r1 < 134) (
    gc (fx_52 a1 (gb_up s2 35 r1.toNat 1)) (fun _ s8 =>
    some (.inl r1, s8)))
  else
    gc (fx_52 a1 s2) (fun _ s5 =>
    some (.inl r1, s5)))))
theorem gm_47 (a1 : Nat) (h1 : gb_kd a1 = 1) {σ : gb_S} : gb_M (fx_47 a1 σ) 6 c0 eI 47 [vr 30, vr a1] σ := by
  rw [fx_47]
  refine gg_m (own := 4) (rt := (some .int)) (hnd := fun _ _ => none) (K := gk_47) (δ := 5) rfl rfl ?_
  refine gg_al 1 0 rfl rfl rfl ?_
  refine gg_al 2 1 rfl rfl rfl ?_
  refine gg_gi 5 rfl rfl rfl (ges0 h1) rfl ?_
  refine gg_ci 6 (-1) rfl rfl ?_
  refine gg_ci 7 0 rfl rfl ?_
  refine gg_ci 9 60 rfl rfl ?_
  refine gg_cI 12 rfl (gm_48 _ _ _ _) (Nat.le_of_ble_eq_true rfl) (gb_vs rfl rfl rfl rfl rfl gcl_30 rfl rfl rfl) rfl (fun _ => rfl) (fun _ => rfl) (fun r1 s2 => ?_)
  refine gg_s 13 rfl rfl ?_
  refine gg_il 14 2 rfl rfl gs1 ?_
  refine gg_ci 17 134 rfl rfl ?_
  refine gg_q (fun q3 => ?_)
  refine gg_ige 27 20 rfl rfl rfl rfl q3 (gRl rfl) ?_ ?_
  · refine gg_al 28 0 rfl rfl (gl1 rfl rfl rfl) ?_
    refine gg_al 29 1 rfl rfl (gl1 rfl rfl rfl) ?_
    refine gg_cV 32 rfl (gm_52 _ h1) (Nat.le_of_ble_eq_true rfl) (gb_vs rfl rfl rfl rfl rfl gcl_30 rfl rfl rfl) rfl (fun _ => rfl) (fun _ => rfl) (fun s5 => ?_)
    refine gg_il 33 2 rfl rfl gs1 ?_
    exact gg_ir rfl
  · refine gg_al 21 0 rfl rfl (gl1 rfl rfl rfl) ?_
    refine gg_gr 24 35 rfl rfl rfl gcl_30 rfl ?_
    refine gg_il 25 2 rfl rfl gs1 ?_
    refine gg_ci 26 1 rfl rfl ?_
    refine gg_q (fun q6 => ?_)
    refine gg_bas 27 rfl rfl gar_35 q6 (Or.inr rfl) ?_
    refine gg_al 28 0 rfl rfl (gl1 rfl rfl rfl) ?_
    refine gg_al 29 1 rfl rfl (gl1 rfl rfl rfl) ?_
    refine gg_cV 32 rfl (gm_52 _ h1) (Nat.le_of_ble_eq_true rfl) (gb_vs rfl rfl rfl rfl rfl gcl_30 rfl rfl rfl) rfl (fun _ => rfl) (fun _ => rfl) (fun s8 => ?_)
    refine gg_il 33 2 rfl rfl gs1 ?_
    exact gg_ir rfl
/-- Treeclerk$Land.isPlace -/
def fx_56 (x0 : Int) (σ : gb_S) : Option gb_P :=
  gq (gR x0) (
  (if x0 < 0 then
    some (.inl 0, σ)
  else
    (if x0 < 14 then
      some (.inl 1, σ)
    else
      some (.inl 0, σ))))
theorem gm_56 (x0 : Int) {σ : gb_S} : gb_M (fx_56 x0 σ) 1 c0 eI 56 [vi x0, vr 25] σ := by
  rw [fx_56]
  refine gg_m (own := 4) (rt := (some .boolean)) (hnd := fun _ _ => none) (K := gk_56) (δ := 0) rfl rfl ?_
  refine gg_il 1 0 rfl rfl rfl ?_
  refine gg_q (fun q1 => ?_)
  refine gg_zlt 14 4 rfl rfl rfl rfl q1 ?_ ?_
  · refine gg_ci 15 0 rfl rfl ?_
    exact gg_zr rfl (Or.inl rfl)
  · refine gg_il 5 0 rfl rfl rfl ?_
    refine gg_al 6 1 rfl rfl rfl ?_
    refine gg_lenE 7 rfl rfl ?_
    refine gg_ige 14 10 rfl rfl rfl rfl q1 (gRl rfl) ?_ ?_
    · refine gg_ci 15 0 rfl rfl ?_
      exact gg_zr rfl (Or.inl rfl)
    · refine gg_ci 11 1 rfl rfl ?_
      refine gg_go 15 rfl rfl rfl ?_
      exact gg_zr rfl (Or.inr rfl)
end GF2
