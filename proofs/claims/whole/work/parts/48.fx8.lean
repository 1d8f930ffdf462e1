section GF8
variable {c0 : gh_C}
def fx_169_9 (k : Nat) (x2 : Int) (x3 : Int) (σ : gb_S) : Option gb_P := match k with
  | 0 => none
  | k + 1 =>
    gq (gR x3) (
    gq (gR (σ 187 3)) (
    (if x3 < (σ 187 3) then
      gq (0 ≤ x3 ∧ x3 < 14) (
      gq (gRL (σ 216 x3.toNat)) (
      (if 0 < (σ 216 x3.toNat) then
        fx_169_9 k (x2 + 1) (x3 + 1) σ
      else
        fx_169_9 k (x2 + 0) (x3 + 1) σ)))
    else
      some (.inl x2, σ))))
/-- TreeclerkModel.heirsOf -/
def fx_169 (x1 : Int) (σ : gb_S) : Option gb_P :=
  gc (fx_168 x1 σ) (fun _ s2 =>
  fx_169_9 gFU 0 0 s2)
theorem gt_169_9 (k : Nat) : ∀ (x2 : Int) (x3 : Int) {lo : gh_L} (l0 : lo.lookup 0 = some (vr 187)) (l2 : lo.lookup 2 = some (vi x2)) (l3 : lo.lookup 3 = some (vi x3)) {σ : gb_S}, gb_G (fx_169_9 k x2 x3 σ) 5 8 (some .int) (fun _ _ => none) gk_169 c0 eI 9 lo [] σ := by
  induction k with
  | zero => intros; exact gg_n
  | succ k ih =>
    intro x2 x3 lo l0 l2 l3 σ
    rw [fx_169_9]
    refine gg_il 10 3 rfl rfl l3 ?_
    refine gg_al 11 0 rfl rfl l0 ?_
    refine gg_gi 14 rfl rfl rfl gcl_187 rfl ?_
    refine gg_q (fun q1 => ?_)
    refine gg_q (fun q2 => ?_)
    refine gg_ige 42 17 rfl rfl rfl rfl q1 q2 ?_ ?_
    · refine gg_il 43 2 rfl rfl l2 ?_
      exact gg_ir rfl
    · refine gg_il 18 2 rfl rfl l2 ?_
      refine gg_al 19 0 rfl rfl l0 ?_
      refine gg_gr 22 216 rfl rfl rfl gcl_187 rfl ?_
      refine gg_il 23 3 rfl rfl l3 ?_
      refine gg_q (fun q3 => ?_)
      refine gg_lal 24 rfl rfl gar_216 q3 ?_
      refine gg_cl 25 0 rfl rfl ?_
      refine gg_q (fun q4 => ?_)
      refine gg_Lle 33 29 rfl rfl rfl rfl rfl q4 ⟨by decide, by decide⟩ ?_ ?_
      · refine gg_ci 34 0 rfl rfl ?_
        refine gg_add 35 rfl rfl ?_
        refine gg_s 36 rfl rfl ?_
        refine gg_inc 39 rfl rfl (gl1 rfl rfl l3) ?_
        refine gg_go 9 rfl rfl rfl ?_
        exact ih (x2 + 0) (x3 + 1) (gl1 rfl rfl (gl1 rfl rfl l0)) (gl1 rfl rfl gs1) gs1
      · refine gg_ci 30 1 rfl rfl ?_
        refine gg_go 34 rfl rfl rfl ?_
        refine gg_add 35 rfl rfl ?_
        refine gg_s 36 rfl rfl ?_
        refine gg_inc 39 rfl rfl (gl1 rfl rfl l3) ?_
        refine gg_go 9 rfl rfl rfl ?_
        exact ih (x2 + 1) (x3 + 1) (gl1 rfl rfl (gl1 rfl rfl l0)) (gl1 rfl rfl gs1) gs1
theorem gm_169 (x1 : Int) {σ : gb_S} : gb_M (fx_169 x1 σ) 6 c0 eI 169 [vr 187, vi x1] σ := by
  rw [fx_169]
  refine gg_m (own := 8) (rt := (some .int)) (hnd := fun _ _ => none) (K := gk_169) (δ := 5) rfl rfl ?_
  refine gg_al 1 0 rfl rfl rfl ?_
  refine gg_il 2 1 rfl rfl rfl ?_
  refine gg_cV 5 rfl (gm_168 _) (Nat.le_of_ble_eq_true rfl) (gb_vs rfl rfl rfl rfl rfl gcl_187 rfl rfl rfl) rfl (fun _ => rfl) (fun _ => rfl) (fun s2 => ?_)
  refine gg_ci 6 0 rfl rfl ?_
  refine gg_s 7 rfl rfl ?_
  refine gg_ci 8 0 rfl rfl ?_
  refine gg_s 9 rfl rfl ?_
  exact gt_169_9 gFU 0 0 (gl1 rfl rfl (gl1 rfl rfl rfl)) (gl1 rfl rfl gs1) gs1
def fx_153_5 (k : Nat) (x1 : Int) (x2 : Int) (x3 : Int) (x4 : Int) (σ : gb_S) : Option gb_P := match k with
  | 0 => none
  | k + 1 =>
    gq (0 ≤ x2 ∧ x2 < 14) (
    gq (gR x4) (
    gq (gR (σ 202 x2.toNat)) (
    (if x4 < (σ 202 x2.toNat) then
      gq (0 ≤ ((14 * x2) + x4) ∧ ((14 * x2) + x4) < 196) (
      gq (gR (σ 201 ((14 * x2) + x4).toNat)) (
      gq (gR x1) (
      (if (σ 201 ((14 * x2) + x4).toNat) = x1 then
        fx_153_5 k x1 x2 x4 (x4 + 1) σ
      else
        fx_153_5 k x1 x2 x3 (x4 + 1) σ))))
    else
      some (.inl x3, σ)))))
/-- TreeclerkModel.placeOfClaim -/
def fx_153 (x1 : Int) (x2 : Int) (σ : gb_S) : Option gb_P :=
  fx_153_5 gFU x1 x2 (-1) 0 σ
theorem gt_153_5 (k : Nat) : ∀ (x1 : Int) (x2 : Int) (x3 : Int) (x4 : Int) {lo : gh_L} (l0 : lo.lookup 0 = some (vr 187)) (l1 : lo.lookup 1 = some (vi x1)) (l2 : lo.lookup 2 = some (vi x2)) (l3 : lo.lookup 3 = some (vi x3)) (l4 : lo.lookup 4 = some (vi x4)) {σ : gb_S}, gb_G (fx_153_5 k x1 x2 x3 x4 σ) 0 8 (some .int) (fun _ _ => none) gk_153 c0 eI 5 lo [] σ := by
  induction k with
  | zero => intros; exact gg_n
  | succ k ih =>
    intro x1 x2 x3 x4 lo l0 l1 l2 l3 l4 σ
    rw [fx_153_5]
    refine gg_il 7 4 rfl rfl l4 ?_
    refine gg_al 8 0 rfl rfl l0 ?_
    refine gg_gr 11 202 rfl rfl rfl gcl_187 rfl ?_
    refine gg_il 12 2 rfl rfl l2 ?_
    refine gg_q (fun q1 => ?_)
    refine gg_ial 13 rfl rfl gar_202 q1 ?_
    refine gg_q (fun q2 => ?_)
    refine gg_q (fun q3 => ?_)
    refine gg_ige 45 16 rfl rfl rfl rfl q2 q3 ?_ ?_
    · refine gg_il 46 3 rfl rfl l3 ?_
      exact gg_ir rfl
    · refine gg_al 17 0 rfl rfl l0 ?_
      refine gg_gr 20 201 rfl rfl rfl gcl_187 rfl ?_
      refine gg_ci 22 14 rfl rfl ?_
      refine gg_il 23 2 rfl rfl l2 ?_
      refine gg_mul 24 rfl rfl ?_
      refine gg_il 26 4 rfl rfl l4 ?_
      refine gg_add 27 rfl rfl ?_
      refine gg_q (fun q4 => ?_)
      refine gg_ial 28 rfl rfl gar_201 q4 ?_
      refine gg_il 29 1 rfl rfl l1 ?_
      refine gg_q (fun q5 => ?_)
      refine gg_q (fun q6 => ?_)
      refine gg_ine 37 32 rfl rfl rfl rfl q5 q6 ?_ ?_
      · refine gg_il 38 3 rfl rfl l3 ?_
        refine gg_s 39 rfl rfl ?_
        refine gg_inc 42 rfl rfl (gl1 rfl rfl l4) ?_
        refine gg_go 5 rfl rfl rfl ?_
        exact ih x1 x2 x3 (x4 + 1) (gl1 rfl rfl (gl1 rfl rfl l0)) (gl1 rfl rfl (gl1 rfl rfl l1)) (gl1 rfl rfl (gl1 rfl rfl l2)) (gl1 rfl rfl gs1) gs1
      · refine gg_il 34 4 rfl rfl l4 ?_
        refine gg_go 38 rfl rfl rfl ?_
        refine gg_s 39 rfl rfl ?_
        refine gg_inc 42 rfl rfl (gl1 rfl rfl l4) ?_
        refine gg_go 5 rfl rfl rfl ?_
        exact ih x1 x2 x4 (x4 + 1) (gl1 rfl rfl (gl1 rfl rfl l0)) (gl1 rfl rfl (gl1 rfl rfl l1)) (gl1 rfl rfl (gl1 rfl rfl l2)) (gl1 rfl rfl gs1) gs1
theorem gm_153 (x1 : Int) (x2 : Int) {σ : gb_S} : gb_M (fx_153 x1 x2 σ) 1 c0 eI 153 [vr 187, vi x1, vi x2] σ := by
  rw [fx_153]
  refine gg_m (own := 8) (rt := (some .int)) (hnd := fun _ _ => none) (K := gk_153) (δ := 0) rfl rfl ?_
  refine gg_ci 1 (-1) rfl rfl ?_
  refine gg_s 2 rfl rfl ?_
  refine gg_ci 3 0 rfl rfl ?_
  refine gg_s 5 rfl rfl ?_
  exact gt_153_5 gFU x1 x2 (-1) 0 (gl1 rfl rfl (gl1 rfl rfl rfl)) (gl1 rfl rfl (gl1 rfl rfl rfl)) (gl1 rfl rfl (gl1 rfl rfl rfl)) (gl1 rfl rfl gs1) gs1
def fx_181_129 (k78 : Int → Int → Int → gb_S → Option gb_P) (x1 : Int) (x3 : Int) (x4 : Int) (x5 : Int) (σ : gb_S) : Option gb_P :=
  gq (gR x5) (
  (if x5 = 0 then
    k78 x1 (x3 - 0) (x4 + 1) σ
  else
    k78 x1 (x3 - 1) (x4 + 1) σ))
def fx_181_49 (k5 : Int → Int → Int → gb_S → Option gb_P) (x1 : Int) (x3 : Int) (x4 : Int) (x5 : Int) (σ : gb_S) : Option gb_P :=
  gq (0 ≤ x5 ∧ x5 < 14) (
  gq (gRL (σ 216 x5.toNat)) (
  (if 0 < (σ 216 x5.toNat) then
    k5 x1 (x3 - 1) (x4 + 1) σ
  else
    k5 x1 (x3 - 0) (x4 + 1) σ)))
def fx_181_115 (k78 : Int → Int → Int → gb_S → Option gb_P) (x1 : Int) (x3 : Int) (x4 : Int) (y0 : Int) (σ : gb_S) : Option gb_P :=
  gq (gR y0) (
  (if y0 = 0 then
    fx_181_129 k78 x1 x3 x4 y0 σ
  else
    gq (gR x3) (
    (if x3 = 0 then
      some (.inl x4, σ)
    else
      fx_181_129 k78 x1 x3 x4 y0 σ))))
def fx_181_78 (k : Nat) (x1 : Int) (x3 : Int) (x4 : Int) (σ : gb_S) : Option gb_P := match k with
  | 0 => none
  | k + 1 =>
    gq (gR x4) (
    gq (gR (σ 187 3)) (
    (if x4 < (σ 187 3) then
      gq (0 ≤ x4 ∧ x4 < 14) (
      gq (gRL (σ 216 x4.toNat)) (
      (if 0 < (σ 216 x4.toNat) then
        gc (fx_153 x4 x1 σ) (fun r5 s6 =>
        gq (gR r5) (
        (if r5 = (-1) then
          fx_181_115 (fx_181_78 k) x1 x3 x4 1 s6
        else
          fx_181_115 (fx_181_78 k) x1 x3 x4 0 s6)))
      else
        fx_181_115 (fx_181_78 k) x1 x3 x4 0 σ)))
    else
      some (.inl (-1), σ))))
def fx_181_5 (k : Nat) (x1 : Int) (x3 : Int) (x4 : Int) (σ : gb_S) : Option gb_P := match k with
  | 0 => none
  | k + 1 =>
    gq (0 ≤ x1 ∧ x1 < 14) (
    gq (gR x4) (
    gq (gR (σ 202 x1.toNat)) (
    (if x4 < (σ 202 x1.toNat) then
      gq (0 ≤ ((14 * x1) + x4) ∧ ((14 * x1) + x4) < 196) (
      gq (0 ≤ (σ 201 ((14 * x1) + x4).toNat) ∧ (σ 201 ((14 * x1) + x4).toNat) < 14) (
      gq (gRL (σ 216 (σ 201 ((14 * x1) + x4).toNat).toNat)) (
      (if 0 < (σ 216 (σ 201 ((14 * x1) + x4).toNat).toNat) then
        gq (gR x3) (
        (if x3 = 0 then
          some (.inl (σ 201 ((14 * x1) + x4).toNat), σ)
        else
          fx_181_49 (fx_181_5 k) x1 x3 x4 (σ 201 ((14 * x1) + x4).toNat) σ))
      else
        fx_181_49 (fx_181_5 k) x1 x3 x4 (σ 201 ((14 * x1) + x4).toNat) σ))))
    else
      fx_181_78 gFU x1 x3 0 σ))))
/-- TreeclerkModel.heirAt -/
def fx_181 (x1 : Int) (x2 : Int) (σ : gb_S) : Option gb_P :=
  fx_181_5 gFU x1 x2 0 σ
theorem gt_181_129 {k78 : Int → Int → Int → gb_S → Option gb_P} (hk78 : ∀ (x1 : Int) (x3 : Int) (x4 : Int) {lo : gh_L} (l0 : lo.lookup 0 = some (vr 187)) (l1 : lo.lookup 1 = some (vi x1)) (l3 : lo.lookup 3 = some (vi x3)) (l4 : lo.lookup 4 = some (vi x4)) {σ : gb_S}, gb_G (k78 x1 x3 x4 σ) 1 8 (some .int) (fun _ _ => none) gk_181 c0 eI 78 lo [] σ) (x1 : Int) (x3 : Int) (x4 : Int) (x5 : Int) {lo : gh_L} (l0 : lo.lookup 0 = some (vr 187)) (l1 : lo.lookup 1 = some (vi x1)) (l3 : lo.lookup 3 = some (vi x3)) (l4 : lo.lookup 4 = some (vi x4)) (l5 : lo.lookup 5 = some (vi x5)) {σ : gb_S} : gb_G (fx_181_129 k78 x1 x3 x4 x5 σ) 1 8 (some .int) (fun _ _ => none) gk_181 c0 eI 129 lo [] σ := by
  rw [fx_181_129]
  refine gg_il 130 3 rfl rfl l3 ?_
  refine gg_il 132 5 rfl rfl l5 ?_
  refine gg_q (fun q1 => ?_)
  refine gg_zeq 139 135 rfl rfl rfl rfl q1 ?_ ?_
  · refine gg_ci 140 0 rfl rfl ?_
    refine gg_sub 141 rfl rfl ?_
    refine gg_s 142 rfl rfl ?_
    refine gg_inc 145 rfl rfl (gl1 rfl rfl l4) ?_
    refine gg_go 78 rfl rfl rfl ?_
    exact hk78 x1 (x3 - 0) (x4 + 1) (gl1 rfl rfl (gl1 rfl rfl l0)) (gl1 rfl rfl (gl1 rfl rfl l1)) (gl1 rfl rfl gs1) gs1
  · refine gg_ci 136 1 rfl rfl ?_
    refine gg_go 140 rfl rfl rfl ?_
    refine gg_sub 141 rfl rfl ?_
    refine gg_s 142 rfl rfl ?_
    refine gg_inc 145 rfl rfl (gl1 rfl rfl l4) ?_
    refine gg_go 78 rfl rfl rfl ?_
    exact hk78 x1 (x3 - 1) (x4 + 1) (gl1 rfl rfl (gl1 rfl rfl l0)) (gl1 rfl rfl (gl1 rfl rfl l1)) (gl1 rfl rfl gs1) gs1
theorem gt_181_49 {k5 : Int → Int → Int → gb_S → Option gb_P} (hk5 : ∀ (x1 : Int) (x3 : Int) (x4 : Int) {lo : gh_L} (l0 : lo.lookup 0 = some (vr 187)) (l1 : lo.lookup 1 = some (vi x1)) (l3 : lo.lookup 3 = some (vi x3)) (l4 : lo.lookup 4 = some (vi x4)) {σ : gb_S}, gb_G (k5 x1 x3 x4 σ) 1 8 (some .int) (fun _ _ => none) gk_181 c0 eI 5 lo [] σ) (x1 : Int) (x3 : Int) (x4 : Int) (x5 : Int) {lo : gh_L} (l0 : lo.lookup 0 = some (vr 187)) (l1 : lo.lookup 1 = some (vi x1)) (l3 : lo.lookup 3 = some (vi x3)) (l4 : lo.lookup 4 = some (vi x4)) (l5 : lo.lookup 5 = some (vi x5)) {σ : gb_S} : gb_G (fx_181_49 k5 x1 x3 x4 x5 σ) 1 8 (some .int) (fun _ _ => none) gk_181 c0 eI 49 lo [] σ := by
  rw [fx_181_49]
  refine gg_il 50 3 rfl rfl l3 ?_
  refine gg_al 51 0 rfl rfl l0 ?_
  refine gg_gr 54 216 rfl rfl rfl gcl_187 rfl ?_
  refine gg_il 56 5 rfl rfl l5 ?_
  refine gg_q (fun q1 => ?_)
  refine gg_lal 57 rfl rfl gar_216 q1 ?_
  refine gg_cl 58 0 rfl rfl ?_
  refine gg_q (fun q2 => ?_)
  refine gg_Lle 66 62 rfl rfl rfl rfl rfl q2 ⟨by decide, by decide⟩ ?_ ?_
  · refine gg_ci 67 0 rfl rfl ?_
    refine gg_sub 68 rfl rfl ?_
    refine gg_s 69 rfl rfl ?_
    refine gg_inc 72 rfl rfl (gl1 rfl rfl l4) ?_
    refine gg_go 5 rfl rfl rfl ?_
    exact hk5 x1 (x3 - 0) (x4 + 1) (gl1 rfl rfl (gl1 rfl rfl l0)) (gl1 rfl rfl (gl1 rfl rfl l1)) (gl1 rfl rfl gs1) gs1
  · refine gg_ci 63 1 rfl rfl ?_
    refine gg_go 67 rfl rfl rfl ?_
    refine gg_sub 68 rfl rfl ?_
    refine gg_s 69 rfl rfl ?_
    refine gg_inc 72 rfl rfl (gl1 rfl rfl l4) ?_
    refine gg_go 5 rfl rfl rfl ?_
    exact hk5 x1 (x3 - 1) (x4 + 1) (gl1 rfl rfl (gl1 rfl rfl l0)) (gl1 rfl rfl (gl1 rfl rfl l1)) (gl1 rfl rfl gs1) gs1
theorem gt_181_115 {k78 : Int → Int → Int → gb_S → Option gb_P} (hk78 : ∀ (x1 : Int) (x3 : Int) (x4 : Int) {lo : gh_L} (l0 : lo.lookup 0 = some (vr 187)) (l1 : lo.lookup 1 = some (vi x1)) (l3 : lo.lookup 3 = some (vi x3)) (l4 : lo.lookup 4 = some (vi x4)) {σ : gb_S}, gb_G (k78 x1 x3 x4 σ) 1 8 (some .int) (fun _ _ => none) gk_181 c0 eI 78 lo [] σ) (x1 : Int) (x3 : Int) (x4 : Int) (y0 : Int) {lo : gh_L} (l0 : lo.lookup 0 = some (vr 187)) (l1 : lo.lookup 1 = some (vi x1)) (l3 : lo.lookup 3 = some (vi x3)) (l4 : lo.lookup 4 = some (vi x4)) {σ : gb_S} : gb_G (fx_181_115 k78 x1 x3 x4 y0 σ) 1 8 (some .int) (fun _ _ => none) gk_181 c0 eI 115 lo [vi y0] σ := by
  rw [fx_181_115]
  refine gg_s 117 rfl rfl ?_
  refine gg_il 119 5 rfl rfl gs1 ?_
  refine gg_q (fun q1 => ?_)
  refine gg_zeq 129 122 rfl rfl rfl rfl q1 ?_ ?_
  · exact gt_181_129 hk78 x1 x3 x4 y0 (gl1 rfl rfl l0) (gl1 rfl rfl l1) (gl1 rfl rfl l3) (gl1 rfl rfl l4) gs1
  · refine gg_il 123 3 rfl rfl (gl1 rfl rfl l3) ?_
    refine gg_q (fun q2 => ?_)
    refine gg_zne 129 126 rfl rfl rfl rfl q2 ?_ ?_
    · exact gt_181_129 hk78 x1 x3 x4 y0 (gl1 rfl rfl l0) (gl1 rfl rfl l1) (gl1 rfl rfl l3) (gl1 rfl rfl l4) gs1
    · refine gg_il 128 4 rfl rfl (gl1 rfl rfl l4) ?_
      exact gg_ir rfl
theorem gt_181_78 (k : Nat) : ∀ (x1 : Int) (x3 : Int) (x4 : Int) {lo : gh_L} (l0 : lo.lookup 0 = some (vr 187)) (l1 : lo.lookup 1 = some (vi x1)) (l3 : lo.lookup 3 = some (vi x3)) (l4 : lo.lookup 4 = some (vi x4)) {σ : gb_S}, gb_G (fx_181_78 k x1 x3 x4 σ) 1 8 (some .int) (fun _ _ => none) gk_181 c0 eI 78 lo [] σ := by
  induction k with
  | zero => intros; exact gg_n
  | succ k ih =>
    intro x1 x3 x4 lo l0 l1 l3 l4 σ
    rw [fx_181_78]
    refine gg_il 80 4 rfl rfl l4 ?_
    refine gg_al 81 0 rfl rfl l0 ?_
    refine gg_gi 84 rfl rfl rfl gcl_187 rfl ?_
    refine gg_q (fun q1 => ?_)
    refine gg_q (fun q2 => ?_)
    refine gg_ige 148 87 rfl rfl rfl rfl q1 q2 ?_ ?_
    · refine gg_ci 149 (-1) rfl rfl ?_
      exact gg_ir rfl
    · refine gg_al 88 0 rfl rfl l0 ?_
      refine gg_gr 91 216 rfl rfl rfl gcl_187 rfl ?_
      refine gg_il 93 4 rfl rfl l4 ?_
      refine gg_q (fun q3 => ?_)
      refine gg_lal 94 rfl rfl gar_216 q3 ?_
      refine gg_cl 95 0 rfl rfl ?_
      refine gg_q (fun q4 => ?_)
      refine gg_Lle 114 99 rfl rfl rfl rfl rfl q4 ⟨by decide, by decide⟩ ?_ ?_
      · refine gg_ci 115 0 rfl rfl ?_
        exact gt_181_115 ih x1 x3 x4 0 l0 l1 l3 l4
      · refine gg_al 100 0 rfl rfl l0 ?_
        refine gg_il 102 4 rfl rfl l4 ?_
        refine gg_il 103 1 rfl rfl l1 ?_
        refine gg_cI 106 rfl (gm_153 _ _) (Nat.le_of_ble_eq_true rfl) (gb_vs rfl rfl rfl rfl rfl gcl_187 rfl rfl rfl) rfl (fun _ => rfl) (fun _ => rfl) (fun r5 s6 => ?_)
        refine gg_ci 107 (-1) rfl rfl ?_
        refine gg_q (fun q7 => ?_)
        refine gg_ine 114 110 rfl rfl rfl rfl q7 (gRl rfl) ?_ ?_
        · refine gg_ci 115 0 rfl rfl ?_
          exact gt_181_115 ih x1 x3 x4 0 l0 l1 l3 l4
        · refine gg_ci 111 1 rfl rfl ?_
          refine gg_go 115 rfl rfl rfl ?_
          exact gt_181_115 ih x1 x3 x4 1 l0 l1 l3 l4
theorem gt_181_5 (k : Nat) : ∀ (x1 : Int) (x3 : Int) (x4 : Int) {lo : gh_L} (l0 : lo.lookup 0 = some (vr 187)) (l1 : lo.lookup 1 = some (vi x1)) (l3 : lo.lookup 3 = some (vi x3)) (l4 : lo.lookup 4 = some (vi x4)) {σ : gb_S}, gb_G (fx_181_5 k x1 x3 x4 σ) 1 8 (some .int) (fun _ _ => none) gk_181 c0 eI 5 lo [] σ := by
  induction k with
  | zero => intros; exact gg_n
  | succ k ih =>
    intro x1 x3 x4 lo l0 l1 l3 l4 σ
    rw [fx_181_5]
    refine gg_il 7 4 rfl rfl l4 ?_
    refine gg_al 8 0 rfl rfl l0 ?_
    refine gg_gr 11 202 rfl rfl rfl gcl_187 rfl ?_
    refine gg_il 12 1 rfl rfl l1 ?_
    refine gg_q (fun q1 => ?_)
    refine gg_ial 13 rfl rfl gar_202 q1 ?_
    refine gg_q (fun q2 => ?_)
    refine gg_q (fun q3 => ?_)
    refine gg_ige 75 16 rfl rfl rfl rfl q2 q3 ?_ ?_
    · refine gg_ci 76 0 rfl rfl ?_
      refine gg_s 78 rfl rfl ?_
      exact gt_181_78 gFU x1 x3 0 (gl1 rfl rfl l0) (gl1 rfl rfl l1) (gl1 rfl rfl l3) gs1
    · refine gg_al 17 0 rfl rfl l0 ?_
      refine gg_gr 20 201 rfl rfl rfl gcl_187 rfl ?_
      refine gg_ci 22 14 rfl rfl ?_
      refine gg_il 23 1 rfl rfl l1 ?_
      refine gg_mul 24 rfl rfl ?_
      refine gg_il 26 4 rfl rfl l4 ?_
      refine gg_add 27 rfl rfl ?_
      refine gg_q (fun q4 => ?_)
      refine gg_ial 28 rfl rfl gar_201 q4 ?_
      refine gg_s 30 rfl rfl ?_
      refine gg_al 31 0 rfl rfl (gl1 rfl rfl l0) ?_
      refine gg_gr 34 216 rfl rfl rfl gcl_187 rfl ?_
      refine gg_il 36 5 rfl rfl gs1 ?_
      refine gg_q (fun q5 => ?_)
      refine gg_lal 37 rfl rfl gar_216 q5 ?_
      refine gg_cl 38 0 rfl rfl ?_
      refine gg_q (fun q6 => ?_)
      refine gg_Lle 49 42 rfl rfl rfl rfl rfl q6 ⟨by decide, by decide⟩ ?_ ?_
      · exact gt_181_49 ih x1 x3 x4 (σ 201 ((14 * x1) + x4).toNat) (gl1 rfl rfl l0) (gl1 rfl rfl l1) (gl1 rfl rfl l3) (gl1 rfl rfl l4) gs1
      · refine gg_il 43 3 rfl rfl (gl1 rfl rfl l3) ?_
        refine gg_q (fun q7 => ?_)
        refine gg_zne 49 46 rfl rfl rfl rfl q7 ?_ ?_
        · exact gt_181_49 ih x1 x3 x4 (σ 201 ((14 * x1) + x4).toNat) (gl1 rfl rfl l0) (gl1 rfl rfl l1) (gl1 rfl rfl l3) (gl1 rfl rfl l4) gs1
        · refine gg_il 48 5 rfl rfl gs1 ?_
          exact gg_ir rfl
theorem gm_181 (x1 : Int) (x2 : Int) {σ : gb_S} : gb_M (fx_181 x1 x2 σ) 2 c0 eI 181 [vr 187, vi x1, vi x2] σ := by
  rw [fx_181]
  refine gg_m (own := 8) (rt := (some .int)) (hnd := fun _ _ => none) (K := gk_181) (δ := 1) rfl rfl ?_
  refine gg_il 1 2 rfl rfl rfl ?_
  refine gg_s 2 rfl rfl ?_
  refine gg_ci 3 0 rfl rfl ?_
  refine gg_s 5 rfl rfl ?_
  exact gt_181_5 gFU x1 x2 0 (gl1 rfl rfl (gl1 rfl rfl rfl)) (gl1 rfl rfl (gl1 rfl rfl rfl)) (gl1 rfl rfl gs1) gs1
def fx_182_4 (k : Nat) (x1 : Int) (x2 : Int) (x3 : Int) (σ : gb_S) : Option gb_P := match k with
  | 0 => none
  | k + 1 =>
    gq (gR x3) (
    (if x3 < 60 then
      gq (0 ≤ x3 ∧ x3 < 60) (
      gq (gR (σ 222 x3.toNat)) (
      gq (gR x1) (
      (if (σ 222 x3.toNat) = x1 then
        fx_182_4 k x1 (x2 + 1) (x3 + 1) σ
      else
        fx_182_4 k x1 (x2 + 0) (x3 + 1) σ))))
    else
      some (.inl x2, σ)))
/-- TreeclerkModel.unitsOf -/
def fx_182 (x1 : Int) (σ : gb_S) : Option gb_P :=
  fx_182_4 gFU x1 0 0 σ
theorem gt_182_4 (k : Nat) : ∀ (x1 : Int) (x2 : Int) (x3 : Int) {lo : gh_L} (l0 : lo.lookup 0 = some (vr 187)) (l1 : lo.lookup 1 = some (vi x1)) (l2 : lo.lookup 2 = some (vi x2)) (l3 : lo.lookup 3 = some (vi x3)) {σ : gb_S}, gb_G (fx_182_4 k x1 x2 x3 σ) 0 8 (some .int) (fun _ _ => none) gk_182 c0 eI 4 lo [] σ := by
  induction k with
  | zero => intros; exact gg_n
  | succ k ih =>
    intro x1 x2 x3 lo l0 l1 l2 l3 σ
    rw [fx_182_4]
    refine gg_il 5 3 rfl rfl l3 ?_
    refine gg_ci 7 60 rfl rfl ?_
    refine gg_q (fun q1 => ?_)
    refine gg_ige 34 10 rfl rfl rfl rfl q1 (gRl rfl) ?_ ?_
    · refine gg_il 35 2 rfl rfl l2 ?_
      exact gg_ir rfl
    · refine gg_il 11 2 rfl rfl l2 ?_
      refine gg_al 12 0 rfl rfl l0 ?_
      refine gg_gr 15 222 rfl rfl rfl gcl_187 rfl ?_
      refine gg_il 16 3 rfl rfl l3 ?_
      refine gg_q (fun q2 => ?_)
      refine gg_ial 17 rfl rfl gar_222 q2 ?_
      refine gg_il 18 1 rfl rfl l1 ?_
      refine gg_q (fun q3 => ?_)
      refine gg_q (fun q4 => ?_)
      refine gg_ine 25 21 rfl rfl rfl rfl q3 q4 ?_ ?_
      · refine gg_ci 26 0 rfl rfl ?_
        refine gg_add 27 rfl rfl ?_
        refine gg_s 28 rfl rfl ?_
        refine gg_inc 31 rfl rfl (gl1 rfl rfl l3) ?_
        refine gg_go 4 rfl rfl rfl ?_
        exact ih x1 (x2 + 0) (x3 + 1) (gl1 rfl rfl (gl1 rfl rfl l0)) (gl1 rfl rfl (gl1 rfl rfl l1)) (gl1 rfl rfl gs1) gs1
      · refine gg_ci 22 1 rfl rfl ?_
        refine gg_go 26 rfl rfl rfl ?_
        refine gg_add 27 rfl rfl ?_
        refine gg_s 28 rfl rfl ?_
        refine gg_inc 31 rfl rfl (gl1 rfl rfl l3) ?_
        refine gg_go 4 rfl rfl rfl ?_
        exact ih x1 (x2 + 1) (x3 + 1) (gl1 rfl rfl (gl1 rfl rfl l0)) (gl1 rfl rfl (gl1 rfl rfl l1)) (gl1 rfl rfl gs1) gs1
theorem gm_182 (x1 : Int) {σ : gb_S} : gb_M (fx_182 x1 σ) 1 c0 eI 182 [vr 187, vi x1] σ := by
  rw [fx_182]
  refine gg_m (own := 8) (rt := (some .int)) (hnd := fun _ _ => none) (K := gk_182) (δ := 0) rfl rfl ?_
  refine gg_ci 1 0 rfl rfl ?_
  refine gg_s 2 rfl rfl ?_
  refine gg_ci 3 0 rfl rfl ?_
  refine gg_s 4 rfl rfl ?_
  exact gt_182_4 gFU x1 0 0 (gl1 rfl rfl (gl1 rfl rfl rfl)) (gl1 rfl rfl (gl1 rfl rfl rfl)) (gl1 rfl rfl gs1) gs1
def fx_183_118 (k : Nat) (k74 : Int → Int → Int → Int → Int → Int → Int → gb_S → Option gb_P) (x1 : Int) (x2 : Int) (x3 : Int) (x4 : Int) (x5 : Int) (x6 : Int) (x7 : Int) (σ : gb_S) : Option gb_P := match k with
  | 0 => none
  | k + 1 =>
    gq (gR x6) (
    (if x6 = 0 then
      gc (fx_181 x1 x5 σ) (fun r5 s6 =>
      gq (gR x2) (
      gq (0 ≤ r5 ∧ r5 < 14) (
      gq ((0 ≤ (x2 * (s6 216 r5.toNat)) ∧ (x2 * (s6 216 r5.toNat)) ≤ 9223372036854775807) ∧ 0 < (s6 217 r5.toNat) ∧ (s6 217 r5.toNat) ≤ 9223372036854775807) (
      gq (gR x5) (
      gq (gR x4) (
      (if x5 < x4 then
        fx_183_118 k k74 x1 x2 x3 x4 (x5 + 1) (((x2 * (s6 216 r5.toNat)) / (s6 217 r5.toNat)) + 1) x7 s6
      else
        fx_183_118 k k74 x1 x2 x3 x4 (x5 + 1) (((x2 * (s6 216 r5.toNat)) / (s6 217 r5.toNat)) + 0) x7 s6)))))))
    else
      gc (fx_181 x1 (x5 - 1) σ) (fun r2 s3 =>
      gq (0 ≤ x7 ∧ x7 < 60) (
      k74 x1 x2 x3 x4 x5 (x6 + (-1)) (x7 + 1) (gb_up s3 222 x7.toNat r2)))))
def fx_183_107 (k74 : Int → Int → Int → Int → Int → Int → Int → gb_S → Option gb_P) (x1 : Int) (x2 : Int) (x3 : Int) (x4 : Int) (x5 : Int) (x6 : Int) (x7 : Int) (σ : gb_S) : Option gb_P :=
  gq (0 ≤ x7 ∧ x7 < 60) (
  gq (gR (σ 222 x7.toNat)) (
  gq (gR x1) (
  (if (σ 222 x7.toNat) = x1 then
    fx_183_118 gFU k74 x1 x2 x3 x4 x5 x6 x7 σ
  else
    k74 x1 x2 x3 x4 x5 x6 (x7 + 1) σ))))
def fx_183_74 (k : Nat) (x1 : Int) (x2 : Int) (x3 : Int) (x4 : Int) (x5 : Int) (x6 : Int) (x7 : Int) (σ : gb_S) : Option gb_P := match k with
  | 0 => none
  | k + 1 =>
    gq (gR x7) (
    (if x7 < 60 then
      gq (0 ≤ x7 ∧ x7 < 60) (
      gq (gR (σ 222 x7.toNat)) (
      gq (gR x1) (
      (if (σ 222 x7.toNat) = x1 then
        gq (gR x3) (
        (if x3 = 0 then
          fx_183_74 k x1 x2 x3 x4 x5 x6 (x7 + 1) (gb_up σ 222 x7.toNat (-1))
        else
          fx_183_107 (fx_183_74 k) x1 x2 x3 x4 x5 x6 x7 σ))
      else
        fx_183_107 (fx_183_74 k) x1 x2 x3 x4 x5 x6 x7 σ))))
    else
      some (.inl 0, σ)))
def fx_183_26 (k : Nat) (x1 : Int) (x2 : Int) (x3 : Int) (x4 : Int) (x5 : Int) (σ : gb_S) : Option gb_P := match k with
  | 0 => none
  | k + 1 =>
    gq (gR x5) (
    gq (gR (σ 187 3)) (
    (if x5 < (σ 187 3) then
      gq (gR x2) (
      gq (0 ≤ x5 ∧ x5 < 14) (
      gq ((0 ≤ (x2 * (σ 216 x5.toNat)) ∧ (x2 * (σ 216 x5.toNat)) ≤ 9223372036854775807) ∧ 0 < (σ 217 x5.toNat) ∧ (σ 217 x5.toNat) ≤ 9223372036854775807) (
      fx_183_26 k x1 x2 x3 (x4 - ((x2 * (σ 216 x5.toNat)) / (σ 217 x5.toNat))) (x5 + 1) σ)))
    else
      fx_183_74 gFU x1 x2 x3 x4 0 0 0 σ)))
/-- TreeclerkModel.inherits -/
def fx_183 (x1 : Int) (σ : gb_S) : Option gb_P :=
  gc (fx_182 x1 σ) (fun r1 s2 =>
  gc (fx_169 x1 s2) (fun r3 s4 =>
  gq (gR r3) (
  (if r3 = 0 then
    fx_183_26 gFU x1 r1 r3 0 0 s4
  else
    fx_183_26 gFU x1 r1 r3 r1 0 s4))))
theorem gt_183_118 (k : Nat) {k74 : Int → Int → Int → Int → Int → Int → Int → gb_S → Option gb_P} (hk74 : ∀ (x1 : Int) (x2 : Int) (x3 : Int) (x4 : Int) (x5 : Int) (x6 : Int) (x7 : Int) {lo : gh_L} (l0 : lo.lookup 0 = some (vr 187)) (l1 : lo.lookup 1 = some (vi x1)) (l2 : lo.lookup 2 = some (vi x2)) (l3 : lo.lookup 3 = some (vi x3)) (l4 : lo.lookup 4 = some (vi x4)) (l5 : lo.lookup 5 = some (vi x5)) (l6 : lo.lookup 6 = some (vi x6)) (l7 : lo.lookup 7 = some (vi x7)) {σ : gb_S}, gb_G (k74 x1 x2 x3 x4 x5 x6 x7 σ) 6 8 none (fun _ _ => none) gk_183 c0 eV 74 lo [] σ) : ∀ (x1 : Int) (x2 : Int) (x3 : Int) (x4 : Int) (x5 : Int) (x6 : Int) (x7 : Int) {lo : gh_L} (l0 : lo.lookup 0 = some (vr 187)) (l1 : lo.lookup 1 = some (vi x1)) (l2 : lo.lookup 2 = some (vi x2)) (l3 : lo.lookup 3 = some (vi x3)) (l4 : lo.lookup 4 = some (vi x4)) (l5 : lo.lookup 5 = some (vi x5)) (l6 : lo.lookup 6 = some (vi x6)) (l7 : lo.lookup 7 = some (vi x7)) {σ : gb_S}, gb_G (fx_183_118 k k74 x1 x2 x3 x4 x5 x6 x7 σ) 6 8 none (fun _ _ => none) gk_183 c0 eV 118 lo [] σ := by
  induction k with
  | zero => intros; exact gg_n
  | succ k ih =>
    intro x1 x2 x3 x4 x5 x6 x7 lo l0 l1 l2 l3 l4 l5 l6 l7 σ
    rw [fx_183_118]
    refine gg_il 120 6 rfl rfl l6 ?_
    refine gg_q (fun q1 => ?_)
    refine gg_zne 172 123 rfl rfl rfl rfl q1 ?_ ?_
    · refine gg_al 173 0 rfl rfl l0 ?_
      refine gg_gr 176 222 rfl rfl rfl gcl_187 rfl ?_
      refine gg_il 178 7 rfl rfl l7 ?_
      refine gg_al 179 0 rfl rfl l0 ?_
      refine gg_il 180 1 rfl rfl l1 ?_
      refine gg_il 182 5 rfl rfl l5 ?_
      refine gg_ci 183 1 rfl rfl ?_
      refine gg_sub 184 rfl rfl ?_
      refine gg_cI 187 rfl (gm_181 _ _) (Nat.le_of_ble_eq_true rfl) (gb_vs rfl rfl rfl rfl rfl gcl_187 rfl rfl rfl) rfl (fun _ => rfl) (fun _ => rfl) (fun r2 s3 => ?_)
      refine gg_q (fun q4 => ?_)
      refine gg_ias 188 rfl rfl gar_222 q4 ?_
      refine gg_inc 191 rfl rfl l6 ?_
      refine gg_inc 194 rfl rfl (gl1 rfl rfl l7) ?_
      refine gg_go 74 rfl rfl rfl ?_
      exact hk74 x1 x2 x3 x4 x5 (x6 + (-1)) (x7 + 1) (gl1 rfl rfl (gl1 rfl rfl l0)) (gl1 rfl rfl (gl1 rfl rfl l1)) (gl1 rfl rfl (gl1 rfl rfl l2)) (gl1 rfl rfl (gl1 rfl rfl l3)) (gl1 rfl rfl (gl1 rfl rfl l4)) (gl1 rfl rfl (gl1 rfl rfl l5)) (gl1 rfl rfl gs1) gs1
    · refine gg_al 124 0 rfl rfl l0 ?_
      refine gg_il 125 1 rfl rfl l1 ?_
      refine gg_il 127 5 rfl rfl l5 ?_
      refine gg_cI 130 rfl (gm_181 _ _) (Nat.le_of_ble_eq_true rfl) (gb_vs rfl rfl rfl rfl rfl gcl_187 rfl rfl rfl) rfl (fun _ => rfl) (fun _ => rfl) (fun r5 s6 => ?_)
      refine gg_s 132 rfl rfl ?_
      refine gg_il 133 2 rfl rfl (gl1 rfl rfl l2) ?_
      refine gg_q (fun q7 => ?_)
      refine gg_i2l 134 rfl rfl q7 ?_
      refine gg_al 135 0 rfl rfl (gl1 rfl rfl l0) ?_
      refine gg_gr 138 216 rfl rfl rfl gcl_187 rfl ?_
      refine gg_il 140 8 rfl rfl gs1 ?_
      refine gg_q (fun q8 => ?_)
      refine gg_lal 141 rfl rfl gar_216 q8 ?_
      refine gg_lmul 142 rfl rfl ?_
      refine gg_al 143 0 rfl rfl (gl1 rfl rfl l0) ?_
      refine gg_gr 146 217 rfl rfl rfl gcl_187 rfl ?_
      refine gg_il 148 8 rfl rfl gs1 ?_
      refine gg_lal 149 rfl rfl gar_217 q8 ?_
      refine gg_q (fun q9 => ?_)
      refine gg_ldiv 150 rfl rfl q9 ?_
      refine gg_l2i 151 rfl rfl ?_
      refine gg_il 153 5 rfl rfl (gl1 rfl rfl l5) ?_
      refine gg_il 155 4 rfl rfl (gl1 rfl rfl l4) ?_
      refine gg_q (fun q10 => ?_)
      refine gg_q (fun q11 => ?_)
      refine gg_ige 162 158 rfl rfl rfl rfl q10 q11 ?_ ?_
      · refine gg_ci 163 0 rfl rfl ?_
        refine gg_add 164 rfl rfl ?_
        refine gg_s 166 rfl rfl ?_
        refine gg_inc 169 rfl rfl (gl1 rfl rfl (gl1 rfl rfl l5)) ?_
        refine gg_go 118 rfl rfl rfl ?_
        exact ih x1 x2 x3 x4 (x5 + 1) (((x2 * (s6 216 r5.toNat)) / (s6 217 r5.toNat)) + 0) x7 (gl1 rfl rfl (gl1 rfl rfl (gl1 rfl rfl l0))) (gl1 rfl rfl (gl1 rfl rfl (gl1 rfl rfl l1))) (gl1 rfl rfl (gl1 rfl rfl (gl1 rfl rfl l2))) (gl1 rfl rfl (gl1 rfl rfl (gl1 rfl rfl l3))) (gl1 rfl rfl (gl1 rfl rfl (gl1 rfl rfl l4))) gs1 (gl1 rfl rfl gs1) (gl1 rfl rfl (gl1 rfl rfl (gl1 rfl rfl l7)))
      · refine gg_ci 159 1 rfl rfl ?_
        refine gg_go 163 rfl rfl rfl ?_
        refine gg_add 164 rfl rfl ?_
        refine gg_s 166 rfl rfl ?_
        refine gg_inc 169 rfl rfl (gl1 rfl rfl (gl1 rfl rfl l5)) ?_
        refine gg_go 118 rfl rfl rfl ?_
        exact ih x1 x2 x3 x4 (x5 + 1) (((x2 * (s6 216 r5.toNat)) / (s6 217 r5.toNat)) + 1) x7 (gl1 rfl rfl (gl1 rfl rfl (gl1 rfl rfl l0))) (gl1 rfl rfl (gl1 rfl rfl (gl1 rfl rfl l1))) (gl1 rfl rfl (gl1 rfl rfl (gl1 rfl rfl l2))) (gl1 rfl rfl (gl1 rfl rfl (gl1 rfl rfl l3))) (gl1 rfl rfl (gl1 rfl rfl (gl1 rfl rfl l4))) gs1 (gl1 rfl rfl gs1) (gl1 rfl rfl (gl1 rfl rfl (gl1 rfl rfl l7)))
theorem gt_183_107 {k74 : Int → Int → Int → Int → Int → Int → Int → gb_S → Option gb_P} (hk74 : ∀ (x1 : Int) (x2 : Int) (x3 : Int) (x4 : Int) (x5 : Int) (x6 : Int) (x7 : Int) {lo : gh_L} (l0 : lo.lookup 0 = some (vr 187)) (l1 : lo.lookup 1 = some (vi x1)) (l2 : lo.lookup 2 = some (vi x2)) (l3 : lo.lookup 3 = some (vi x3)) (l4 : lo.lookup 4 = some (vi x4)) (l5 : lo.lookup 5 = some (vi x5)) (l6 : lo.lookup 6 = some (vi x6)) (l7 : lo.lookup 7 = some (vi x7)) {σ : gb_S}, gb_G (k74 x1 x2 x3 x4 x5 x6 x7 σ) 6 8 none (fun _ _ => none) gk_183 c0 eV 74 lo [] σ) (x1 : Int) (x2 : Int) (x3 : Int) (x4 : Int) (x5 : Int) (x6 : Int) (x7 : Int) {lo : gh_L} (l0 : lo.lookup 0 = some (vr 187)) (l1 : lo.lookup 1 = some (vi x1)) (l2 : lo.lookup 2 = some (vi x2)) (l3 : lo.lookup 3 = some (vi x3)) (l4 : lo.lookup 4 = some (vi x4)) (l5 : lo.lookup 5 = some (vi x5)) (l6 : lo.lookup 6 = some (vi x6)) (l7 : lo.lookup 7 = some (vi x7)) {σ : gb_S} : gb_G (fx_183_107 k74 x1 x2 x3 x4 x5 x6 x7 σ) 6 8 none (fun _ _ => none) gk_183 c0 eV 107 lo [] σ := by
  rw [fx_183_107]
  refine gg_al 108 0 rfl rfl l0 ?_
  refine gg_gr 111 222 rfl rfl rfl gcl_187 rfl ?_
  refine gg_il 113 7 rfl rfl l7 ?_
  refine gg_q (fun q1 => ?_)
  refine gg_ial 114 rfl rfl gar_222 q1 ?_
  refine gg_il 115 1 rfl rfl l1 ?_
  refine gg_q (fun q2 => ?_)
  refine gg_q (fun q3 => ?_)
  refine gg_ine 191 118 rfl rfl rfl rfl q2 q3 ?_ ?_
  · refine gg_inc 194 rfl rfl l7 ?_
    refine gg_go 74 rfl rfl rfl ?_
    exact hk74 x1 x2 x3 x4 x5 x6 (x7 + 1) (gl1 rfl rfl l0) (gl1 rfl rfl l1) (gl1 rfl rfl l2) (gl1 rfl rfl l3) (gl1 rfl rfl l4) (gl1 rfl rfl l5) (gl1 rfl rfl l6) gs1
  · exact gt_183_118 gFU hk74 x1 x2 x3 x4 x5 x6 x7 l0 l1 l2 l3 l4 l5 l6 l7
theorem gt_183_74 (k : Nat) : ∀ (x1 : Int) (x2 : Int) (x3 : Int) (x4 : Int) (x5 : Int) (x6 : Int) (x7 : Int) {lo : gh_L} (l0 : lo.lookup 0 = some (vr 187)) (l1 : lo.lookup 1 = some (vi x1)) (l2 : lo.lookup 2 = some (vi x2)) (l3 : lo.lookup 3 = some (vi x3)) (l4 : lo.lookup 4 = some (vi x4)) (l5 : lo.lookup 5 = some (vi x5)) (l6 : lo.lookup 6 = some (vi x6)) (l7 : lo.lookup 7 = some (vi x7)) {σ : gb_S}, gb_G (fx_183_74 k x1 x2 x3 x4 x5 x6 x7 σ) 6 8 none (fun _ _ => none) gk_183 c0 eV 74 lo [] σ := by
  induction k with
  | zero => intros; exact gg_n
  | succ k ih =>
    intro x1 x2 x3 x4 x5 x6 x7 lo l0 l1 l2 l3 l4 l5 l6 l7 σ
    rw [fx_183_74]
    refine gg_il 76 7 rfl rfl l7 ?_
    refine gg_ci 78 60 rfl rfl ?_
    refine gg_q (fun q1 => ?_)
    refine gg_ige 197 81 rfl rfl rfl rfl q1 (gRl rfl) ?_ ?_
    · exact gg_vr rfl
    · refine gg_al 82 0 rfl rfl l0 ?_
      refine gg_gr 85 222 rfl rfl rfl gcl_187 rfl ?_
      refine gg_il 87 7 rfl rfl l7 ?_
      refine gg_q (fun q2 => ?_)
      refine gg_ial 88 rfl rfl gar_222 q2 ?_
      refine gg_il 89 1 rfl rfl l1 ?_
      refine gg_q (fun q3 => ?_)
      refine gg_q (fun q4 => ?_)
      refine gg_ine 107 92 rfl rfl rfl rfl q3 q4 ?_ ?_
      · exact gt_183_107 ih x1 x2 x3 x4 x5 x6 x7 l0 l1 l2 l3 l4 l5 l6 l7
      · refine gg_il 93 3 rfl rfl l3 ?_
        refine gg_q (fun q5 => ?_)
        refine gg_zne 107 96 rfl rfl rfl rfl q5 ?_ ?_
        · exact gt_183_107 ih x1 x2 x3 x4 x5 x6 x7 l0 l1 l2 l3 l4 l5 l6 l7
        · refine gg_al 97 0 rfl rfl l0 ?_
          refine gg_gr 100 222 rfl rfl rfl gcl_187 rfl ?_
          refine gg_il 102 7 rfl rfl l7 ?_
          refine gg_ci 103 (-1) rfl rfl ?_
          refine gg_ias 104 rfl rfl gar_222 q2 ?_
          refine gg_go 191 rfl rfl rfl ?_
          refine gg_inc 194 rfl rfl l7 ?_
          refine gg_go 74 rfl rfl rfl ?_
          exact ih x1 x2 x3 x4 x5 x6 (x7 + 1) (gl1 rfl rfl l0) (gl1 rfl rfl l1) (gl1 rfl rfl l2) (gl1 rfl rfl l3) (gl1 rfl rfl l4) (gl1 rfl rfl l5) (gl1 rfl rfl l6) gs1
theorem gt_183_26 (k : Nat) : ∀ (x1 : Int) (x2 : Int) (x3 : Int) (x4 : Int) (x5 : Int) {lo : gh_L} (l0 : lo.lookup 0 = some (vr 187)) (l1 : lo.lookup 1 = some (vi x1)) (l2 : lo.lookup 2 = some (vi x2)) (l3 : lo.lookup 3 = some (vi x3)) (l4 : lo.lookup 4 = some (vi x4)) (l5 : lo.lookup 5 = some (vi x5)) {σ : gb_S}, gb_G (fx_183_26 k x1 x2 x3 x4 x5 σ) 6 8 none (fun _ _ => none) gk_183 c0 eV 26 lo [] σ := by
  induction k with
  | zero => intros; exact gg_n
  | succ k ih =>
    intro x1 x2 x3 x4 x5 lo l0 l1 l2 l3 l4 l5 σ
    rw [fx_183_26]
    refine gg_il 28 5 rfl rfl l5 ?_
    refine gg_al 29 0 rfl rfl l0 ?_
    refine gg_gi 32 rfl rfl rfl gcl_187 rfl ?_
    refine gg_q (fun q1 => ?_)
    refine gg_q (fun q2 => ?_)
    refine gg_ige 65 35 rfl rfl rfl rfl q1 q2 ?_ ?_
    · refine gg_ci 66 0 rfl rfl ?_
      refine gg_s 68 rfl rfl ?_
      refine gg_ci 69 0 rfl rfl ?_
      refine gg_s 71 rfl rfl ?_
      refine gg_ci 72 0 rfl rfl ?_
      refine gg_s 74 rfl rfl ?_
      exact gt_183_74 gFU x1 x2 x3 x4 0 0 0 (gl1 rfl rfl (gl1 rfl rfl (gl1 rfl rfl l0))) (gl1 rfl rfl (gl1 rfl rfl (gl1 rfl rfl l1))) (gl1 rfl rfl (gl1 rfl rfl (gl1 rfl rfl l2))) (gl1 rfl rfl (gl1 rfl rfl (gl1 rfl rfl l3))) (gl1 rfl rfl (gl1 rfl rfl (gl1 rfl rfl l4))) (gl1 rfl rfl (gl1 rfl rfl gs1)) (gl1 rfl rfl gs1) gs1
    · refine gg_il 37 4 rfl rfl l4 ?_
      refine gg_il 38 2 rfl rfl l2 ?_
      refine gg_q (fun q3 => ?_)
      refine gg_i2l 39 rfl rfl q3 ?_
      refine gg_al 40 0 rfl rfl l0 ?_
      refine gg_gr 43 216 rfl rfl rfl gcl_187 rfl ?_
      refine gg_il 45 5 rfl rfl l5 ?_
      refine gg_q (fun q4 => ?_)
      refine gg_lal 46 rfl rfl gar_216 q4 ?_
      refine gg_lmul 47 rfl rfl ?_
      refine gg_al 48 0 rfl rfl l0 ?_
      refine gg_gr 51 217 rfl rfl rfl gcl_187 rfl ?_
      refine gg_il 53 5 rfl rfl l5 ?_
      refine gg_lal 54 rfl rfl gar_217 q4 ?_
      refine gg_q (fun q5 => ?_)
      refine gg_ldiv 55 rfl rfl q5 ?_
      refine gg_l2i 56 rfl rfl ?_
      refine gg_sub 57 rfl rfl ?_
      refine gg_s 59 rfl rfl ?_
      refine gg_inc 62 rfl rfl (gl1 rfl rfl l5) ?_
      refine gg_go 26 rfl rfl rfl ?_
      exact ih x1 x2 x3 (x4 - ((x2 * (σ 216 x5.toNat)) / (σ 217 x5.toNat))) (x5 + 1) (gl1 rfl rfl (gl1 rfl rfl l0)) (gl1 rfl rfl (gl1 rfl rfl l1)) (gl1 rfl rfl (gl1 rfl rfl l2)) (gl1 rfl rfl (gl1 rfl rfl l3)) (gl1 rfl rfl gs1) gs1
theorem gm_183 (x1 : Int) {σ : gb_S} : gb_M (fx_183 x1 σ) 7 c0 eV 183 [vr 187, vi x1] σ := by
  rw [fx_183]
  refine gg_m (own := 8) (rt := none) (hnd := fun _ _ => none) (K := gk_183) (δ := 6) rfl rfl ?_
  refine gg_al 1 0 rfl rfl rfl ?_
  refine gg_il 2 1 rfl rfl rfl ?_
  refine gg_cI 5 rfl (gm_182 _) (Nat.le_of_ble_eq_true rfl) (gb_vs rfl rfl rfl rfl rfl gcl_187 rfl rfl rfl) rfl (fun _ => rfl) (fun _ => rfl) (fun r1 s2 => ?_)
  refine gg_s 6 rfl rfl ?_
  refine gg_al 7 0 rfl rfl (gl1 rfl rfl rfl) ?_
  refine gg_il 8 1 rfl rfl (gl1 rfl rfl rfl) ?_
  refine gg_cI 11 rfl (gm_169 _) (Nat.le_of_ble_eq_true rfl) (gb_vs rfl rfl rfl rfl rfl gcl_187 rfl rfl rfl) rfl (fun _ => rfl) (fun _ => rfl) (fun r3 s4 => ?_)
  refine gg_s 12 rfl rfl ?_
  refine gg_il 13 3 rfl rfl gs1 ?_
  refine gg_q (fun q5 => ?_)
  refine gg_zne 20 16 rfl rfl rfl rfl q5 ?_ ?_
  · refine gg_il 21 2 rfl rfl (gl1 rfl rfl gs1) ?_
    refine gg_s 23 rfl rfl ?_
    refine gg_ci 24 0 rfl rfl ?_
    refine gg_s 26 rfl rfl ?_
    exact gt_183_26 gFU x1 r1 r3 r1 0 (gl1 rfl rfl (gl1 rfl rfl (gl1 rfl rfl (gl1 rfl rfl rfl)))) (gl1 rfl rfl (gl1 rfl rfl (gl1 rfl rfl (gl1 rfl rfl rfl)))) (gl1 rfl rfl (gl1 rfl rfl (gl1 rfl rfl gs1))) (gl1 rfl rfl (gl1 rfl rfl gs1)) (gl1 rfl rfl gs1) gs1
  · refine gg_ci 17 0 rfl rfl ?_
    refine gg_go 21 rfl rfl rfl ?_
    refine gg_s 23 rfl rfl ?_
    refine gg_ci 24 0 rfl rfl ?_
    refine gg_s 26 rfl rfl ?_
    exact gt_183_26 gFU x1 r1 r3 0 0 (gl1 rfl rfl (gl1 rfl rfl (gl1 rfl rfl (gl1 rfl rfl rfl)))) (gl1 rfl rfl (gl1 rfl rfl (gl1 rfl rfl (gl1 rfl rfl rfl)))) (gl1 rfl rfl (gl1 rfl rfl (gl1 rfl rfl gs1))) (gl1 rfl rfl (gl1 rfl rfl gs1)) (gl1 rfl rfl gs1) gs1
def fx_184_118 (k23 : Int → gb_S → Option gb_P) (x1 : Int) (σ : gb_S) : Option gb_P :=
  gq (0 ≤ x1 ∧ x1 < 140) (
  gq (gR (σ 204 x1.toNat)) (
  (if (σ 204 x1.toNat) = 2 then
    gc (fx_183 (σ 205 x1.toNat) σ) (fun _ s4 =>
    k23 (x1 + 1) s4)
  else
    k23 (x1 + 1) σ)))
def fx_184_38 (k : Nat) (k23 : Int → gb_S → Option gb_P) (x1 : Int) (x2 : Int) (σ : gb_S) : Option gb_P := match k with
  | 0 => none
  | k + 1 =>
    gq (0 ≤ x1 ∧ x1 < 140) (
    gq (gR x2) (
    gq (gR (σ 208 x1.toNat)) (
    (if x2 < (σ 208 x1.toNat) then
      gq (gR (σ 204 x1.toNat)) (
      (if (σ 204 x1.toNat) = 2 then
        fx_184_118 k23 x1 σ
      else
        (if (σ 204 x1.toNat) = 0 then
          gq (0 ≤ x2 ∧ x2 < 60) (
          fx_184_38 k k23 x1 (x2 + 1) (gb_up σ 222 x2.toNat (σ 205 x1.toNat)))
        else
          gq (0 ≤ x2 ∧ x2 < 60) (
          gq (gR (σ 222 x2.toNat)) (
          gq (gR (σ 205 x1.toNat)) (
          (if (σ 222 x2.toNat) = (σ 205 x1.toNat) then
            fx_184_38 k k23 x1 (x2 + 1) (gb_up σ 222 x2.toNat (σ 206 x1.toNat))
          else
            fx_184_38 k k23 x1 (x2 + 1) (gb_up σ 222 x2.toNat (σ 222 x2.toNat)))))))))
    else
      fx_184_118 k23 x1 σ))))
def fx_184_23 (k : Nat) (x1 : Int) (σ : gb_S) : Option gb_P := match k with
  | 0 => none
  | k + 1 =>
    gq (gR x1) (
    gq (gR (σ 187 25)) (
    (if x1 < (σ 187 25) then
      gq (0 ≤ x1 ∧ x1 < 140) (
      fx_184_38 gFU (fx_184_23 k) x1 (σ 207 x1.toNat) σ)
    else
      some (.inl 0, σ))))
def fx_184_2 (k : Nat) (x1 : Int) (σ : gb_S) : Option gb_P := match k with
  | 0 => none
  | k + 1 =>
    gq (gR x1) (
    (if x1 < 60 then
      gq (0 ≤ x1 ∧ x1 < 60) (
      fx_184_2 k (x1 + 1) (gb_up σ 222 x1.toNat (-1)))
    else
      fx_184_23 gFU 0 σ))
/-- TreeclerkModel.draws -/
def fx_184 (σ : gb_S) : Option gb_P :=
  fx_184_2 gFU 0 σ
theorem gt_184_118 {k23 : Int → gb_S → Option gb_P} (hk23 : ∀ (x1 : Int) {lo : gh_L} (l0 : lo.lookup 0 = some (vr 187)) (l1 : lo.lookup 1 = some (vi x1)) {σ : gb_S}, gb_G (k23 x1 σ) 7 8 none (fun _ _ => none) gk_184 c0 eV 23 lo [] σ) (x1 : Int) {lo : gh_L} (l0 : lo.lookup 0 = some (vr 187)) (l1 : lo.lookup 1 = some (vi x1)) {σ : gb_S} : gb_G (fx_184_118 k23 x1 σ) 7 8 none (fun _ _ => none) gk_184 c0 eV 118 lo [] σ := by
  rw [fx_184_118]
  refine gg_al 119 0 rfl rfl l0 ?_
  refine gg_gr 122 204 rfl rfl rfl gcl_187 rfl ?_
  refine gg_il 123 1 rfl rfl l1 ?_
  refine gg_q (fun q1 => ?_)
  refine gg_ial 124 rfl rfl gar_204 q1 ?_
  refine gg_ci 125 2 rfl rfl ?_
  refine gg_q (fun q2 => ?_)
  refine gg_ine 138 128 rfl rfl rfl rfl q2 (gRl rfl) ?_ ?_
  · refine gg_inc 141 rfl rfl l1 ?_
    refine gg_go 23 rfl rfl rfl ?_
    exact hk23 (x1 + 1) (gl1 rfl rfl l0) gs1
  · refine gg_al 129 0 rfl rfl l0 ?_
    refine gg_al 130 0 rfl rfl l0 ?_
    refine gg_gr 133 205 rfl rfl rfl gcl_187 rfl ?_
    refine gg_il 134 1 rfl rfl l1 ?_
    refine gg_ial 135 rfl rfl gar_205 q1 ?_
    refine gg_cV 138 rfl (gm_183 _) (Nat.le_of_ble_eq_true rfl) (gb_vs rfl rfl rfl rfl rfl gcl_187 rfl rfl rfl) rfl (fun _ => rfl) (fun _ => rfl) (fun s4 => ?_)
    refine gg_inc 141 rfl rfl l1 ?_
    refine gg_go 23 rfl rfl rfl ?_
    exact hk23 (x1 + 1) (gl1 rfl rfl l0) gs1
theorem gt_184_38 (k : Nat) {k23 : Int → gb_S → Option gb_P} (hk23 : ∀ (x1 : Int) {lo : gh_L} (l0 : lo.lookup 0 = some (vr 187)) (l1 : lo.lookup 1 = some (vi x1)) {σ : gb_S}, gb_G (k23 x1 σ) 7 8 none (fun _ _ => none) gk_184 c0 eV 23 lo [] σ) : ∀ (x1 : Int) (x2 : Int) {lo : gh_L} (l0 : lo.lookup 0 = some (vr 187)) (l1 : lo.lookup 1 = some (vi x1)) (l2 : lo.lookup 2 = some (vi x2)) {σ : gb_S}, gb_G (fx_184_38 k k23 x1 x2 σ) 7 8 none (fun _ _ => none) gk_184 c0 eV 38 lo [] σ := by
  induction k with
  | zero => intros; exact gg_n
  | succ k ih =>
    intro x1 x2 lo l0 l1 l2 σ
    rw [fx_184_38]
    refine gg_il 39 2 rfl rfl l2 ?_
    refine gg_al 40 0 rfl rfl l0 ?_
    refine gg_gr 43 208 rfl rfl rfl gcl_187 rfl ?_
    refine gg_il 44 1 rfl rfl l1 ?_
    refine gg_q (fun q1 => ?_)
    refine gg_ial 45 rfl rfl gar_208 q1 ?_
    refine gg_q (fun q2 => ?_)
    refine gg_q (fun q3 => ?_)
    refine gg_ige 118 48 rfl rfl rfl rfl q2 q3 ?_ ?_
    · exact gt_184_118 hk23 x1 l0 l1
    · refine gg_al 49 0 rfl rfl l0 ?_
      refine gg_gr 52 204 rfl rfl rfl gcl_187 rfl ?_
      refine gg_il 53 1 rfl rfl l1 ?_
      refine gg_ial 54 rfl rfl gar_204 q1 ?_
      refine gg_ci 55 2 rfl rfl ?_
      refine gg_q (fun q4 => ?_)
      refine gg_ieq 118 58 rfl rfl rfl rfl q4 (gRl rfl) ?_ ?_
      · exact gt_184_118 hk23 x1 l0 l1
      · refine gg_al 59 0 rfl rfl l0 ?_
        refine gg_gr 62 222 rfl rfl rfl gcl_187 rfl ?_
        refine gg_il 63 2 rfl rfl l2 ?_
        refine gg_al 64 0 rfl rfl l0 ?_
        refine gg_gr 67 204 rfl rfl rfl gcl_187 rfl ?_
        refine gg_il 68 1 rfl rfl l1 ?_
        refine gg_ial 69 rfl rfl gar_204 q1 ?_
        refine gg_zne 81 72 rfl rfl rfl rfl q4 ?_ ?_
        · refine gg_al 82 0 rfl rfl l0 ?_
          refine gg_gr 85 222 rfl rfl rfl gcl_187 rfl ?_
          refine gg_il 86 2 rfl rfl l2 ?_
          refine gg_q (fun q5 => ?_)
          refine gg_ial 87 rfl rfl gar_222 q5 ?_
          refine gg_al 88 0 rfl rfl l0 ?_
          refine gg_gr 91 205 rfl rfl rfl gcl_187 rfl ?_
          refine gg_il 92 1 rfl rfl l1 ?_
          refine gg_ial 93 rfl rfl gar_205 q1 ?_
          refine gg_q (fun q6 => ?_)
          refine gg_q (fun q7 => ?_)
          refine gg_ine 105 96 rfl rfl rfl rfl q6 q7 ?_ ?_
          · refine gg_al 106 0 rfl rfl l0 ?_
            refine gg_gr 109 222 rfl rfl rfl gcl_187 rfl ?_
            refine gg_il 110 2 rfl rfl l2 ?_
            refine gg_ial 111 rfl rfl gar_222 q5 ?_
            refine gg_ias 112 rfl rfl gar_222 q5 ?_
            refine gg_inc 115 rfl rfl l2 ?_
            refine gg_go 38 rfl rfl rfl ?_
            exact ih x1 (x2 + 1) (gl1 rfl rfl l0) (gl1 rfl rfl l1) gs1
          · refine gg_al 97 0 rfl rfl l0 ?_
            refine gg_gr 100 206 rfl rfl rfl gcl_187 rfl ?_
            refine gg_il 101 1 rfl rfl l1 ?_
            refine gg_ial 102 rfl rfl gar_206 q1 ?_
            refine gg_go 111 rfl rfl rfl ?_
            refine gg_ias 112 rfl rfl gar_222 q5 ?_
            refine gg_inc 115 rfl rfl l2 ?_
            refine gg_go 38 rfl rfl rfl ?_
            exact ih x1 (x2 + 1) (gl1 rfl rfl l0) (gl1 rfl rfl l1) gs1
        · refine gg_al 73 0 rfl rfl l0 ?_
          refine gg_gr 76 205 rfl rfl rfl gcl_187 rfl ?_
          refine gg_il 77 1 rfl rfl l1 ?_
          refine gg_ial 78 rfl rfl gar_205 q1 ?_
          refine gg_go 111 rfl rfl rfl ?_
          refine gg_q (fun q8 => ?_)
          refine gg_ias 112 rfl rfl gar_222 q8 ?_
          refine gg_inc 115 rfl rfl l2 ?_
          refine gg_go 38 rfl rfl rfl ?_
          exact ih x1 (x2 + 1) (gl1 rfl rfl l0) (gl1 rfl rfl l1) gs1
theorem gt_184_23 (k : Nat) : ∀ (x1 : Int) {lo : gh_L} (l0 : lo.lookup 0 = some (vr 187)) (l1 : lo.lookup 1 = some (vi x1)) {σ : gb_S}, gb_G (fx_184_23 k x1 σ) 7 8 none (fun _ _ => none) gk_184 c0 eV 23 lo [] σ := by
  induction k with
  | zero => intros; exact gg_n
  | succ k ih =>
    intro x1 lo l0 l1 σ
    rw [fx_184_23]
    refine gg_il 24 1 rfl rfl l1 ?_
    refine gg_al 25 0 rfl rfl l0 ?_
    refine gg_gi 28 rfl rfl rfl gcl_187 rfl ?_
    refine gg_q (fun q1 => ?_)
    refine gg_q (fun q2 => ?_)
    refine gg_ige 144 31 rfl rfl rfl rfl q1 q2 ?_ ?_
    · exact gg_vr rfl
    · refine gg_al 32 0 rfl rfl l0 ?_
      refine gg_gr 35 207 rfl rfl rfl gcl_187 rfl ?_
      refine gg_il 36 1 rfl rfl l1 ?_
      refine gg_q (fun q3 => ?_)
      refine gg_ial 37 rfl rfl gar_207 q3 ?_
      refine gg_s 38 rfl rfl ?_
      exact gt_184_38 gFU ih x1 (σ 207 x1.toNat) (gl1 rfl rfl l0) (gl1 rfl rfl l1) gs1
theorem gt_184_2 (k : Nat) : ∀ (x1 : Int) {lo : gh_L} (l0 : lo.lookup 0 = some (vr 187)) (l1 : lo.lookup 1 = some (vi x1)) {σ : gb_S}, gb_G (fx_184_2 k x1 σ) 7 8 none (fun _ _ => none) gk_184 c0 eV 2 lo [] σ := by
  induction k with
  | zero => intros; exact gg_n
  | succ k ih =>
    intro x1 lo l0 l1 σ
    rw [fx_184_2]
    refine gg_il 3 1 rfl rfl l1 ?_
    refine gg_ci 5 60 rfl rfl ?_
    refine gg_q (fun q1 => ?_)
    refine gg_ige 21 8 rfl rfl rfl rfl q1 (gRl rfl) ?_ ?_
    · refine gg_ci 22 0 rfl rfl ?_
      refine gg_s 23 rfl rfl ?_
      exact gt_184_23 gFU 0 (gl1 rfl rfl l0) gs1
    · refine gg_al 9 0 rfl rfl l0 ?_
      refine gg_gr 12 222 rfl rfl rfl gcl_187 rfl ?_
      refine gg_il 13 1 rfl rfl l1 ?_
      refine gg_ci 14 (-1) rfl rfl ?_
      refine gg_q (fun q2 => ?_)
      refine gg_ias 15 rfl rfl gar_222 q2 ?_
      refine gg_inc 18 rfl rfl l1 ?_
      refine gg_go 2 rfl rfl rfl ?_
      exact ih (x1 + 1) (gl1 rfl rfl l0) gs1
theorem gm_184 {σ : gb_S} : gb_M (fx_184 σ) 8 c0 eV 184 [vr 187] σ := by
  rw [fx_184]
  refine gg_m (own := 8) (rt := none) (hnd := fun _ _ => none) (K := gk_184) (δ := 7) rfl rfl ?_
  refine gg_ci 1 0 rfl rfl ?_
  refine gg_s 2 rfl rfl ?_
  exact gt_184_2 gFU 0 (gl1 rfl rfl rfl) gs1
def fx_147_170 (k : Nat) (x4 : Int) (x5 : Int) (σ : gb_S) : Option gb_P := match k with
  | 0 => none
  | k + 1 =>
    gq (gR x5) (
    (if x5 < 60 then
      gq (0 ≤ x5 ∧ x5 < 60) (
      gq (gR (σ 223 x5.toNat)) (
      gq (gR (σ 222 x5.toNat)) (
      (if (σ 223 x5.toNat) = (σ 222 x5.toNat) then
        fx_147_170 k (x4 + 0) (x5 + 1) σ
      else
        fx_147_170 k (x4 + 1) (x5 + 1) σ))))
    else
      some (.inl x4, σ)))
def fx_147_151 (σ : gb_S) : Option gb_P :=
  gc (fx_172 (gb_up σ 187 29 1)) (fun _ s2 =>
  gc (fx_184 s2) (fun _ s4 =>
  fx_147_170 gFU 0 0 s4))
def fx_147_82 (k : Nat) (x1 : Int) (x2 : Int) (x4 : Int) (σ : gb_S) : Option gb_P := match k with
  | 0 => none
  | k + 1 =>
    gq (gR x4) (
    gq (gR (σ 187 12)) (
    (if x4 < (σ 187 12) then
      gq (gR x2) (
      (if x2 = 0 then
        fx_147_151 σ
      else
        gq (0 ≤ x1 ∧ x1 < 30) (
        gq (0 ≤ (σ 194 x1.toNat) ∧ (σ 194 x1.toNat) < 30) (
        gq (0 ≤ x4 ∧ x4 < 30) (
        gq (gR ((gb_up σ 193 (σ 194 x1.toNat).toNat 1) 196 x4.toNat)) (
        (if ((gb_up σ 193 (σ 194 x1.toNat).toNat 1) 196 x4.toNat) = 0 then
          fx_147_82 k x1 x2 (x4 + 1) (gb_up (gb_up σ 193 (σ 194 x1.toNat).toNat 1) 196 x4.toNat 0)
        else
          gq (gR ((gb_up σ 193 (σ 194 x1.toNat).toNat 1) 194 x4.toNat)) (
          gq (gR ((gb_up σ 193 (σ 194 x1.toNat).toNat 1) 194 x1.toNat)) (
          (if ((gb_up σ 193 (σ 194 x1.toNat).toNat 1) 194 x4.toNat) = ((gb_up σ 193 (σ 194 x1.toNat).toNat 1) 194 x1.toNat) then
            fx_147_82 k x1 x2 (x4 + 1) (gb_up (gb_up σ 193 (σ 194 x1.toNat).toNat 1) 196 x4.toNat 0)
          else
            fx_147_82 k x1 x2 (x4 + 1) (gb_up (gb_up σ 193 (σ 194 x1.toNat).toNat 1) 196 x4.toNat 1)))))))))))
    else
      fx_147_151 σ)))
def fx_147_45 (k : Nat) (x1 : Int) (x2 : Int) (x4 : Int) (σ : gb_S) : Option gb_P := match k with
  | 0 => none
  | k + 1 =>
    gq (gR x4) (
    (if x4 < 60 then
      gq (0 ≤ x4 ∧ x4 < 60) (
      fx_147_45 k x1 x2 (x4 + 1) (gb_up σ 223 x4.toNat (σ 222 x4.toNat)))
    else
      gq (0 ≤ x1 ∧ x1 < 30) (
      fx_147_82 gFU x1 x2 0 (gb_up σ 196 x1.toNat 0))))
def fx_147_26 (x1 : Int) (x2 : Int) (y0 : Int) (y1 : Int) (σ : gb_S) : Option gb_P :=
  gc (fx_128 y1 y0 σ) (fun r1 s2 =>
  gq (gR r1) (
  (if r1 = 0 then
    some (.inl 0, s2)
  else
    gc (fx_170 s2) (fun _ s5 =>
    gc (fx_184 s5) (fun _ s7 =>
    fx_147_45 gFU x1 x2 0 s7)))))
/-- TreeclerkModel.judge -/
def fx_147 (x1 : Int) (x2 : Int) (σ : gb_S) : Option gb_P :=
  gc (fx_133 x1 σ) (fun r1 s2 =>
  gq (gR r1) (
  (if r1 = 0 then
    fx_147_26 x1 x2 0 r1 s2
  else
    gq (0 ≤ x1 ∧ x1 < 30) (
    gq (gR (s2 196 x1.toNat)) (
    (if (s2 196 x1.toNat) = 0 then
      fx_147_26 x1 x2 0 r1 s2
    else
      fx_147_26 x1 x2 1 r1 s2))))))
theorem gt_147_170 (k : Nat) : ∀ (x4 : Int) (x5 : Int) {lo : gh_L} (l0 : lo.lookup 0 = some (vr 187)) (l4 : lo.lookup 4 = some (vi x4)) (l5 : lo.lookup 5 = some (vi x5)) {σ : gb_S}, gb_G (fx_147_170 k x4 x5 σ) 8 8 (some .int) (fun _ _ => none) gk_147 c0 eI 170 lo [] σ := by
  induction k with
  | zero => intros; exact gg_n
  | succ k ih =>
    intro x4 x5 lo l0 l4 l5 σ
    rw [fx_147_170]
    refine gg_il 172 5 rfl rfl l5 ?_
    refine gg_ci 174 60 rfl rfl ?_
    refine gg_q (fun q1 => ?_)
    refine gg_ige 210 177 rfl rfl rfl rfl q1 (gRl rfl) ?_ ?_
    · refine gg_il 212 4 rfl rfl l4 ?_
      exact gg_ir rfl
    · refine gg_il 179 4 rfl rfl l4 ?_
      refine gg_al 180 0 rfl rfl l0 ?_
      refine gg_gr 183 223 rfl rfl rfl gcl_187 rfl ?_
      refine gg_il 185 5 rfl rfl l5 ?_
      refine gg_q (fun q2 => ?_)
      refine gg_ial 186 rfl rfl gar_223 q2 ?_
      refine gg_al 187 0 rfl rfl l0 ?_
      refine gg_gr 190 222 rfl rfl rfl gcl_187 rfl ?_
      refine gg_il 192 5 rfl rfl l5 ?_
      refine gg_ial 193 rfl rfl gar_222 q2 ?_
      refine gg_q (fun q3 => ?_)
      refine gg_q (fun q4 => ?_)
      refine gg_ine 200 196 rfl rfl rfl rfl q3 q4 ?_ ?_
      · refine gg_ci 201 1 rfl rfl ?_
        refine gg_add 202 rfl rfl ?_
        refine gg_s 204 rfl rfl ?_
        refine gg_inc 207 rfl rfl (gl1 rfl rfl l5) ?_
        refine gg_go 170 rfl rfl rfl ?_
        exact ih (x4 + 1) (x5 + 1) (gl1 rfl rfl (gl1 rfl rfl l0)) (gl1 rfl rfl gs1) gs1
      · refine gg_ci 197 0 rfl rfl ?_
        refine gg_go 201 rfl rfl rfl ?_
        refine gg_add 202 rfl rfl ?_
        refine gg_s 204 rfl rfl ?_
        refine gg_inc 207 rfl rfl (gl1 rfl rfl l5) ?_
        refine gg_go 170 rfl rfl rfl ?_
        exact ih (x4 + 0) (x5 + 1) (gl1 rfl rfl (gl1 rfl rfl l0)) (gl1 rfl rfl gs1) gs1
theorem gt_147_151 {lo : gh_L} (l0 : lo.lookup 0 = some (vr 187)) {σ : gb_S} : gb_G (fx_147_151 σ) 8 8 (some .int) (fun _ _ => none) gk_147 c0 eI 151 lo [] σ := by
  rw [fx_147_151]
  refine gg_al 152 0 rfl rfl l0 ?_
  refine gg_ci 153 1 rfl rfl ?_
  refine gg_pf 156 rfl rfl rfl gcl_187 rfl ⟨rfl, rfl⟩ ?_
  refine gg_al 157 0 rfl rfl l0 ?_
  refine gg_cV 160 rfl (gm_172) (Nat.le_of_ble_eq_true rfl) (gb_vs rfl rfl rfl rfl rfl gcl_187 rfl rfl rfl) rfl (fun _ => rfl) (fun _ => rfl) (fun s2 => ?_)
  refine gg_al 161 0 rfl rfl l0 ?_
  refine gg_cV 164 rfl (gm_184) (Nat.le_of_ble_eq_true rfl) (gb_vs rfl rfl rfl rfl rfl gcl_187 rfl rfl rfl) rfl (fun _ => rfl) (fun _ => rfl) (fun s4 => ?_)
  refine gg_ci 165 0 rfl rfl ?_
  refine gg_s 167 rfl rfl ?_
  refine gg_ci 168 0 rfl rfl ?_
  refine gg_s 170 rfl rfl ?_
  exact gt_147_170 gFU 0 0 (gl1 rfl rfl (gl1 rfl rfl l0)) (gl1 rfl rfl gs1) gs1
theorem gt_147_82 (k : Nat) : ∀ (x1 : Int) (x2 : Int) (x4 : Int) {lo : gh_L} (l0 : lo.lookup 0 = some (vr 187)) (l1 : lo.lookup 1 = some (vi x1)) (l2 : lo.lookup 2 = some (vi x2)) (l4 : lo.lookup 4 = some (vi x4)) {σ : gb_S}, gb_G (fx_147_82 k x1 x2 x4 σ) 8 8 (some .int) (fun _ _ => none) gk_147 c0 eI 82 lo [] σ := by
  induction k with
  | zero => intros; exact gg_n
  | succ k ih =>
    intro x1 x2 x4 lo l0 l1 l2 l4 σ
    rw [fx_147_82]
    refine gg_il 84 4 rfl rfl l4 ?_
    refine gg_al 85 0 rfl rfl l0 ?_
    refine gg_gi 88 rfl rfl rfl gcl_187 rfl ?_
    refine gg_q (fun q1 => ?_)
    refine gg_q (fun q2 => ?_)
    refine gg_ige 151 91 rfl rfl rfl rfl q1 q2 ?_ ?_
    · exact gt_147_151 l0
    · refine gg_il 92 2 rfl rfl l2 ?_
      refine gg_q (fun q3 => ?_)
      refine gg_zeq 151 95 rfl rfl rfl rfl q3 ?_ ?_
      · exact gt_147_151 l0
      · refine gg_al 96 0 rfl rfl l0 ?_
        refine gg_gr 99 193 rfl rfl rfl gcl_187 rfl ?_
        refine gg_al 100 0 rfl rfl l0 ?_
        refine gg_gr 103 194 rfl rfl rfl gcl_187 rfl ?_
        refine gg_il 104 1 rfl rfl l1 ?_
        refine gg_q (fun q4 => ?_)
        refine gg_ial 105 rfl rfl gar_194 q4 ?_
        refine gg_ci 106 1 rfl rfl ?_
        refine gg_q (fun q5 => ?_)
        refine gg_bas 107 rfl rfl gar_193 q5 (Or.inr rfl) ?_
        refine gg_al 108 0 rfl rfl l0 ?_
        refine gg_gr 111 196 rfl rfl rfl gcl_187 rfl ?_
        refine gg_il 113 4 rfl rfl l4 ?_
        refine gg_al 114 0 rfl rfl l0 ?_
        refine gg_gr 117 196 rfl rfl rfl gcl_187 rfl ?_
        refine gg_il 119 4 rfl rfl l4 ?_
        refine gg_q (fun q6 => ?_)
        refine gg_bal 120 rfl rfl gar_196 q6 ?_
        refine gg_q (fun q7 => ?_)
        refine gg_zeq 143 123 rfl rfl rfl rfl q7 ?_ ?_
        · refine gg_ci 144 0 rfl rfl ?_
          refine gg_bas 145 rfl rfl gar_196 q6 (Or.inl rfl) ?_
          refine gg_inc 148 rfl rfl l4 ?_
          refine gg_go 82 rfl rfl rfl ?_
          exact ih x1 x2 (x4 + 1) (gl1 rfl rfl l0) (gl1 rfl rfl l1) (gl1 rfl rfl l2) gs1
        · refine gg_al 124 0 rfl rfl l0 ?_
          refine gg_gr 127 194 rfl rfl rfl gcl_187 rfl ?_
          refine gg_il 129 4 rfl rfl l4 ?_
          refine gg_ial 130 rfl rfl gar_194 q6 ?_
          refine gg_al 131 0 rfl rfl l0 ?_
          refine gg_gr 134 194 rfl rfl rfl gcl_187 rfl ?_
          refine gg_il 135 1 rfl rfl l1 ?_
          refine gg_ial 136 rfl rfl gar_194 q4 ?_
          refine gg_q (fun q8 => ?_)
          refine gg_q (fun q9 => ?_)
          refine gg_ieq 143 139 rfl rfl rfl rfl q8 q9 ?_ ?_
          · refine gg_ci 144 0 rfl rfl ?_
            refine gg_bas 145 rfl rfl gar_196 q6 (Or.inl rfl) ?_
            refine gg_inc 148 rfl rfl l4 ?_
            refine gg_go 82 rfl rfl rfl ?_
            exact ih x1 x2 (x4 + 1) (gl1 rfl rfl l0) (gl1 rfl rfl l1) (gl1 rfl rfl l2) gs1
          · refine gg_ci 140 1 rfl rfl ?_
            refine gg_go 144 rfl rfl rfl ?_
            refine gg_bas 145 rfl rfl gar_196 q6 (Or.inr rfl) ?_
            refine gg_inc 148 rfl rfl l4 ?_
            refine gg_go 82 rfl rfl rfl ?_
            exact ih x1 x2 (x4 + 1) (gl1 rfl rfl l0) (gl1 rfl rfl l1) (gl1 rfl rfl l2) gs1
theorem gt_147_45 (k : Nat) : ∀ (x1 : Int) (x2 : Int) (x4 : Int) {lo : gh_L} (l0 : lo.lookup 0 = some (vr 187)) (l1 : lo.lookup 1 = some (vi x1)) (l2 : lo.lookup 2 = some (vi x2)) (l4 : lo.lookup 4 = some (vi x4)) {σ : gb_S}, gb_G (fx_147_45 k x1 x2 x4 σ) 8 8 (some .int) (fun _ _ => none) gk_147 c0 eI 45 lo [] σ := by
  induction k with
  | zero => intros; exact gg_n
  | succ k ih =>
    intro x1 x2 x4 lo l0 l1 l2 l4 σ
    rw [fx_147_45]
    refine gg_il 47 4 rfl rfl l4 ?_
    refine gg_ci 49 60 rfl rfl ?_
    refine gg_q (fun q1 => ?_)
    refine gg_ige 72 52 rfl rfl rfl rfl q1 (gRl rfl) ?_ ?_
    · refine gg_al 73 0 rfl rfl l0 ?_
      refine gg_gr 76 196 rfl rfl rfl gcl_187 rfl ?_
      refine gg_il 77 1 rfl rfl l1 ?_
      refine gg_ci 78 0 rfl rfl ?_
      refine gg_q (fun q2 => ?_)
      refine gg_bas 79 rfl rfl gar_196 q2 (Or.inl rfl) ?_
      refine gg_ci 80 0 rfl rfl ?_
      refine gg_s 82 rfl rfl ?_
      exact gt_147_82 gFU x1 x2 0 (gl1 rfl rfl l0) (gl1 rfl rfl l1) (gl1 rfl rfl l2) gs1
    · refine gg_al 53 0 rfl rfl l0 ?_
      refine gg_gr 56 223 rfl rfl rfl gcl_187 rfl ?_
      refine gg_il 58 4 rfl rfl l4 ?_
      refine gg_al 59 0 rfl rfl l0 ?_
      refine gg_gr 62 222 rfl rfl rfl gcl_187 rfl ?_
      refine gg_il 64 4 rfl rfl l4 ?_
      refine gg_q (fun q3 => ?_)
      refine gg_ial 65 rfl rfl gar_222 q3 ?_
      refine gg_ias 66 rfl rfl gar_223 q3 ?_
      refine gg_inc 69 rfl rfl l4 ?_
      refine gg_go 45 rfl rfl rfl ?_
      exact ih x1 x2 (x4 + 1) (gl1 rfl rfl l0) (gl1 rfl rfl l1) (gl1 rfl rfl l2) gs1
theorem gt_147_26 (x1 : Int) (x2 : Int) (y0 : Int) (y1 : Int) {lo : gh_L} (l0 : lo.lookup 0 = some (vr 187)) (l1 : lo.lookup 1 = some (vi x1)) (l2 : lo.lookup 2 = some (vi x2)) {σ : gb_S} : gb_G (fx_147_26 x1 x2 y0 y1 σ) 8 8 (some .int) (fun _ _ => none) gk_147 c0 eI 26 lo [vi y0, vi y1, vr 187] σ := by
  rw [fx_147_26]
  refine gg_cI 29 rfl (gm_128 _ _) (Nat.le_of_ble_eq_true rfl) (gb_vs rfl rfl rfl rfl rfl gcl_187 rfl rfl rfl) rfl (fun _ => rfl) (fun _ => rfl) (fun r1 s2 => ?_)
  refine gg_q (fun q3 => ?_)
  refine gg_zne 34 32 rfl rfl rfl rfl q3 ?_ ?_
  · refine gg_al 35 0 rfl rfl l0 ?_
    refine gg_cV 38 rfl (gm_170) (Nat.le_of_ble_eq_true rfl) (gb_vs rfl rfl rfl rfl rfl gcl_187 rfl rfl rfl) rfl (fun _ => rfl) (fun _ => rfl) (fun s5 => ?_)
    refine gg_al 39 0 rfl rfl l0 ?_
    refine gg_cV 42 rfl (gm_184) (Nat.le_of_ble_eq_true rfl) (gb_vs rfl rfl rfl rfl rfl gcl_187 rfl rfl rfl) rfl (fun _ => rfl) (fun _ => rfl) (fun s7 => ?_)
    refine gg_ci 43 0 rfl rfl ?_
    refine gg_s 45 rfl rfl ?_
    exact gt_147_45 gFU x1 x2 0 (gl1 rfl rfl l0) (gl1 rfl rfl l1) (gl1 rfl rfl l2) gs1
  · refine gg_ci 33 0 rfl rfl ?_
    exact gg_ir rfl
theorem gm_147 (x1 : Int) (x2 : Int) {σ : gb_S} : gb_M (fx_147 x1 x2 σ) 9 c0 eI 147 [vr 187, vi x1, vi x2] σ := by
  rw [fx_147]
  refine gg_m (own := 8) (rt := (some .int)) (hnd := fun _ _ => none) (K := gk_147) (δ := 8) rfl rfl ?_
  refine gg_al 1 0 rfl rfl rfl ?_
  refine gg_il 2 1 rfl rfl rfl ?_
  refine gg_cI 5 rfl (gm_133 _) (Nat.le_of_ble_eq_true rfl) (gb_vs rfl rfl rfl rfl rfl gcl_187 rfl rfl rfl) rfl (fun _ => rfl) (fun _ => rfl) (fun r1 s2 => ?_)
  refine gg_s 6 rfl rfl ?_
  refine gg_al 7 0 rfl rfl (gl1 rfl rfl rfl) ?_
  refine gg_il 8 3 rfl rfl gs1 ?_
  refine gg_il 9 3 rfl rfl gs1 ?_
  refine gg_q (fun q3 => ?_)
  refine gg_zeq 25 12 rfl rfl rfl rfl q3 ?_ ?_
  · refine gg_ci 26 0 rfl rfl ?_
    exact gt_147_26 x1 x2 0 r1 (gl1 rfl rfl rfl) (gl1 rfl rfl rfl) (gl1 rfl rfl rfl)
  · refine gg_al 13 0 rfl rfl (gl1 rfl rfl rfl) ?_
    refine gg_gr 16 196 rfl rfl rfl gcl_187 rfl ?_
    refine gg_il 17 1 rfl rfl (gl1 rfl rfl rfl) ?_
    refine gg_q (fun q4 => ?_)
    refine gg_bal 18 rfl rfl gar_196 q4 ?_
    refine gg_q (fun q5 => ?_)
    refine gg_zeq 25 21 rfl rfl rfl rfl q5 ?_ ?_
    · refine gg_ci 26 0 rfl rfl ?_
      exact gt_147_26 x1 x2 0 r1 (gl1 rfl rfl rfl) (gl1 rfl rfl rfl) (gl1 rfl rfl rfl)
    · refine gg_ci 22 1 rfl rfl ?_
      refine gg_go 26 rfl rfl rfl ?_
      exact gt_147_26 x1 x2 1 r1 (gl1 rfl rfl rfl) (gl1 rfl rfl rfl) (gl1 rfl rfl rfl)
/-- TreeclerkModel.strength -/
def fx_148 (x1 : Int) (σ : gb_S) : Option gb_P :=
  gc (fx_132 x1 σ) (fun r1 s2 =>
  gc (fx_127 r1 s2) (fun r3 s4 =>
  gq (gR r3) (
  (if r3 = 0 then
    some (.inl 0, s4)
  else
    gc (fx_141 x1 s4) (fun r6 s7 =>
    some (.inl r6, s7))))))
theorem gm_148 (x1 : Int) {σ : gb_S} : gb_M (fx_148 x1 σ) 3 c0 eI 148 [vr 187, vi x1] σ := by
  rw [fx_148]
  refine gg_m (own := 8) (rt := (some .int)) (hnd := fun _ _ => none) (K := gk_148) (δ := 2) rfl rfl ?_
  refine gg_al 1 0 rfl rfl rfl ?_
  refine gg_al 2 0 rfl rfl rfl ?_
  refine gg_il 3 1 rfl rfl rfl ?_
  refine gg_cI 6 rfl (gm_132 _) (Nat.le_of_ble_eq_true rfl) (gb_vs rfl rfl rfl rfl rfl gcl_187 rfl rfl rfl) rfl (fun _ => rfl) (fun _ => rfl) (fun r1 s2 => ?_)
  refine gg_cI 9 rfl (gm_127 _) (Nat.le_of_ble_eq_true rfl) (gb_vs rfl rfl rfl rfl rfl gcl_187 rfl rfl rfl) rfl (fun _ => rfl) (fun _ => rfl) (fun r3 s4 => ?_)
  refine gg_q (fun q5 => ?_)
  refine gg_zeq 20 12 rfl rfl rfl rfl q5 ?_ ?_
  · refine gg_ci 21 0 rfl rfl ?_
    exact gg_ir rfl
  · refine gg_al 13 0 rfl rfl rfl ?_
    refine gg_il 14 1 rfl rfl rfl ?_
    refine gg_cI 17 rfl (gm_141 _) (Nat.le_of_ble_eq_true rfl) (gb_vs rfl rfl rfl rfl rfl gcl_187 rfl rfl rfl) rfl (fun _ => rfl) (fun _ => rfl) (fun r6 s7 => ?_)
    refine gg_go 21 rfl rfl rfl ?_
    exact gg_ir rfl
end GF8
