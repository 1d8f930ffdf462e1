section GF10
variable {c0 : gh_C}
def fx_186_96 (k : Nat) (x1 : Int) (x2 : Int) (x3 : Int) (x7 : Int) (σ : gb_S) : Option gb_P := match k with
  | 0 => none
  | k + 1 =>
    gq (gR x7) (
    gq (gR x3) (
    (if x7 < x3 then
      gq (0 ≤ x7 ∧ x7 < 60) (
      fx_186_96 k x1 x2 x3 (x7 + 1) (gb_up σ 209 x7.toNat 1))
    else
      gc (fx_180 0 x1 (-1) x2 x3 σ) (fun _ s4 =>
      some (.inl (x3 - x2), s4)))))
def fx_186_78 (x1 : Int) (x2 : Int) (x3 : Int) (x4 : Int) (x5 : Int) (x6 : Int) (σ : gb_S) : Option gb_P :=
  gc (fx_129 x4 x5 x6 σ) (fun r1 s2 =>
  gq (gR r1) (
  (if r1 = 0 then
    some (.inl 0, s2)
  else
    fx_186_96 gFU x1 x2 x3 x2 s2)))
def fx_186_39 (k : Nat) (x1 : Int) (x2 : Int) (x3 : Int) (x4 : Int) (x5 : Int) (x6 : Int) (x7 : Int) (σ : gb_S) : Option gb_P := match k with
  | 0 => none
  | k + 1 =>
    gq (gR x5) (
    (if x5 = 0 then
      fx_186_78 x1 x2 x3 x4 x5 x6 σ
    else
      gq (gR x7) (
      gq (gR x3) (
      (if x7 < x3 then
        gq (gR x6) (
        (if x6 = 0 then
          fx_186_39 k x1 x2 x3 x4 x5 0 (x7 + 1) σ
        else
          gq (0 ≤ x7 ∧ x7 < 60) (
          gq (gR (σ 209 x7.toNat)) (
          (if (σ 209 x7.toNat) = 0 then
            fx_186_39 k x1 x2 x3 x4 x5 1 (x7 + 1) σ
          else
            fx_186_39 k x1 x2 x3 x4 x5 0 (x7 + 1) σ)))))
      else
        fx_186_78 x1 x2 x3 x4 x5 x6 σ)))))
/-- TreeclerkModel.grant -/
def fx_186 (x1 : Int) (x2 : Int) (x3 : Int) (σ : gb_S) : Option gb_P :=
  gc (fx_131 x1 σ) (fun r1 s2 =>
  gc (fx_185 x2 x3 s2) (fun r3 s4 =>
  gq (gR r1) (
  (if r1 = 0 then
    fx_186_39 gFU x1 x2 x3 r1 r3 0 x2 s4
  else
    gq (0 ≤ x1 ∧ x1 < 14) (
    gq (gR (s4 189 x1.toNat)) (
    (if (s4 189 x1.toNat) = (-1) then
      fx_186_39 gFU x1 x2 x3 r1 r3 1 x2 s4
    else
      fx_186_39 gFU x1 x2 x3 r1 r3 0 x2 s4)))))))
theorem gt_186_96 (k : Nat) : ∀ (x1 : Int) (x2 : Int) (x3 : Int) (x7 : Int) {lo : gh_L} (l0 : lo.lookup 0 = some (vr 187)) (l1 : lo.lookup 1 = some (vi x1)) (l2 : lo.lookup 2 = some (vi x2)) (l3 : lo.lookup 3 = some (vi x3)) (l7 : lo.lookup 7 = some (vi x7)) {σ : gb_S}, gb_G (fx_186_96 k x1 x2 x3 x7 σ) 3 8 (some .int) (fun _ _ => none) gk_186 c0 eI 96 lo [] σ := by
  induction k with
  | zero => intros; exact gg_n
  | succ k ih =>
    intro x1 x2 x3 x7 lo l0 l1 l2 l3 l7 σ
    rw [fx_186_96]
    refine gg_il 98 7 rfl rfl l7 ?_
    refine gg_il 99 3 rfl rfl l3 ?_
    refine gg_q (fun q1 => ?_)
    refine gg_q (fun q2 => ?_)
    refine gg_ige 116 102 rfl rfl rfl rfl q1 q2 ?_ ?_
    · refine gg_al 117 0 rfl rfl l0 ?_
      refine gg_ci 118 0 rfl rfl ?_
      refine gg_il 119 1 rfl rfl l1 ?_
      refine gg_ci 120 (-1) rfl rfl ?_
      refine gg_il 121 2 rfl rfl l2 ?_
      refine gg_il 122 3 rfl rfl l3 ?_
      refine gg_cV 125 rfl (gm_180 _ _ _ _ _) (Nat.le_of_ble_eq_true rfl) (gb_vs rfl rfl rfl rfl rfl gcl_187 rfl rfl rfl) rfl (fun _ => rfl) (fun _ => rfl) (fun s4 => ?_)
      refine gg_il 126 3 rfl rfl l3 ?_
      refine gg_il 127 2 rfl rfl l2 ?_
      refine gg_sub 128 rfl rfl ?_
      exact gg_ir rfl
    · refine gg_al 103 0 rfl rfl l0 ?_
      refine gg_gr 106 209 rfl rfl rfl gcl_187 rfl ?_
      refine gg_il 108 7 rfl rfl l7 ?_
      refine gg_ci 109 1 rfl rfl ?_
      refine gg_q (fun q5 => ?_)
      refine gg_bas 110 rfl rfl gar_209 q5 (Or.inr rfl) ?_
      refine gg_inc 113 rfl rfl l7 ?_
      refine gg_go 96 rfl rfl rfl ?_
      exact ih x1 x2 x3 (x7 + 1) (gl1 rfl rfl l0) (gl1 rfl rfl l1) (gl1 rfl rfl l2) (gl1 rfl rfl l3) gs1
theorem gt_186_78 (x1 : Int) (x2 : Int) (x3 : Int) (x4 : Int) (x5 : Int) (x6 : Int) {lo : gh_L} (l0 : lo.lookup 0 = some (vr 187)) (l1 : lo.lookup 1 = some (vi x1)) (l2 : lo.lookup 2 = some (vi x2)) (l3 : lo.lookup 3 = some (vi x3)) (l4 : lo.lookup 4 = some (vi x4)) (l5 : lo.lookup 5 = some (vi x5)) (l6 : lo.lookup 6 = some (vi x6)) {σ : gb_S} : gb_G (fx_186_78 x1 x2 x3 x4 x5 x6 σ) 3 8 (some .int) (fun _ _ => none) gk_186 c0 eI 78 lo [] σ := by
  rw [fx_186_78]
  refine gg_al 79 0 rfl rfl l0 ?_
  refine gg_il 81 4 rfl rfl l4 ?_
  refine gg_il 83 5 rfl rfl l5 ?_
  refine gg_il 85 6 rfl rfl l6 ?_
  refine gg_cI 88 rfl (gm_129 _ _ _) (Nat.le_of_ble_eq_true rfl) (gb_vs rfl rfl rfl rfl rfl gcl_187 rfl rfl rfl) rfl (fun _ => rfl) (fun _ => rfl) (fun r1 s2 => ?_)
  refine gg_q (fun q3 => ?_)
  refine gg_zne 93 91 rfl rfl rfl rfl q3 ?_ ?_
  · refine gg_il 94 2 rfl rfl l2 ?_
    refine gg_s 96 rfl rfl ?_
    exact gt_186_96 gFU x1 x2 x3 x2 (gl1 rfl rfl l0) (gl1 rfl rfl l1) (gl1 rfl rfl l2) (gl1 rfl rfl l3) gs1
  · refine gg_ci 92 0 rfl rfl ?_
    exact gg_ir rfl
theorem gt_186_39 (k : Nat) : ∀ (x1 : Int) (x2 : Int) (x3 : Int) (x4 : Int) (x5 : Int) (x6 : Int) (x7 : Int) {lo : gh_L} (l0 : lo.lookup 0 = some (vr 187)) (l1 : lo.lookup 1 = some (vi x1)) (l2 : lo.lookup 2 = some (vi x2)) (l3 : lo.lookup 3 = some (vi x3)) (l4 : lo.lookup 4 = some (vi x4)) (l5 : lo.lookup 5 = some (vi x5)) (l6 : lo.lookup 6 = some (vi x6)) (l7 : lo.lookup 7 = some (vi x7)) {σ : gb_S}, gb_G (fx_186_39 k x1 x2 x3 x4 x5 x6 x7 σ) 3 8 (some .int) (fun _ _ => none) gk_186 c0 eI 39 lo [] σ := by
  induction k with
  | zero => intros; exact gg_n
  | succ k ih =>
    intro x1 x2 x3 x4 x5 x6 x7 lo l0 l1 l2 l3 l4 l5 l6 l7 σ
    rw [fx_186_39]
    refine gg_il 41 5 rfl rfl l5 ?_
    refine gg_q (fun q1 => ?_)
    refine gg_zeq 78 44 rfl rfl rfl rfl q1 ?_ ?_
    · exact gt_186_78 x1 x2 x3 x4 x5 x6 l0 l1 l2 l3 l4 l5 l6
    · refine gg_il 46 7 rfl rfl l7 ?_
      refine gg_il 47 3 rfl rfl l3 ?_
      refine gg_q (fun q2 => ?_)
      refine gg_q (fun q3 => ?_)
      refine gg_ige 78 50 rfl rfl rfl rfl q2 q3 ?_ ?_
      · exact gt_186_78 x1 x2 x3 x4 x5 x6 l0 l1 l2 l3 l4 l5 l6
      · refine gg_il 52 6 rfl rfl l6 ?_
        refine gg_q (fun q4 => ?_)
        refine gg_zeq 69 55 rfl rfl rfl rfl q4 ?_ ?_
        · refine gg_ci 70 0 rfl rfl ?_
          refine gg_s 72 rfl rfl ?_
          refine gg_inc 75 rfl rfl (gl1 rfl rfl l7) ?_
          refine gg_go 39 rfl rfl rfl ?_
          exact ih x1 x2 x3 x4 x5 0 (x7 + 1) (gl1 rfl rfl (gl1 rfl rfl l0)) (gl1 rfl rfl (gl1 rfl rfl l1)) (gl1 rfl rfl (gl1 rfl rfl l2)) (gl1 rfl rfl (gl1 rfl rfl l3)) (gl1 rfl rfl (gl1 rfl rfl l4)) (gl1 rfl rfl (gl1 rfl rfl l5)) (gl1 rfl rfl gs1) gs1
        · refine gg_al 56 0 rfl rfl l0 ?_
          refine gg_gr 59 209 rfl rfl rfl gcl_187 rfl ?_
          refine gg_il 61 7 rfl rfl l7 ?_
          refine gg_q (fun q5 => ?_)
          refine gg_bal 62 rfl rfl gar_209 q5 ?_
          refine gg_q (fun q6 => ?_)
          refine gg_zne 69 65 rfl rfl rfl rfl q6 ?_ ?_
          · refine gg_ci 70 0 rfl rfl ?_
            refine gg_s 72 rfl rfl ?_
            refine gg_inc 75 rfl rfl (gl1 rfl rfl l7) ?_
            refine gg_go 39 rfl rfl rfl ?_
            exact ih x1 x2 x3 x4 x5 0 (x7 + 1) (gl1 rfl rfl (gl1 rfl rfl l0)) (gl1 rfl rfl (gl1 rfl rfl l1)) (gl1 rfl rfl (gl1 rfl rfl l2)) (gl1 rfl rfl (gl1 rfl rfl l3)) (gl1 rfl rfl (gl1 rfl rfl l4)) (gl1 rfl rfl (gl1 rfl rfl l5)) (gl1 rfl rfl gs1) gs1
          · refine gg_ci 66 1 rfl rfl ?_
            refine gg_go 70 rfl rfl rfl ?_
            refine gg_s 72 rfl rfl ?_
            refine gg_inc 75 rfl rfl (gl1 rfl rfl l7) ?_
            refine gg_go 39 rfl rfl rfl ?_
            exact ih x1 x2 x3 x4 x5 1 (x7 + 1) (gl1 rfl rfl (gl1 rfl rfl l0)) (gl1 rfl rfl (gl1 rfl rfl l1)) (gl1 rfl rfl (gl1 rfl rfl l2)) (gl1 rfl rfl (gl1 rfl rfl l3)) (gl1 rfl rfl (gl1 rfl rfl l4)) (gl1 rfl rfl (gl1 rfl rfl l5)) (gl1 rfl rfl gs1) gs1
theorem gm_186 (x1 : Int) (x2 : Int) (x3 : Int) {σ : gb_S} : gb_M (fx_186 x1 x2 x3 σ) 4 c0 eI 186 [vr 187, vi x1, vi x2, vi x3] σ := by
  rw [fx_186]
  refine gg_m (own := 8) (rt := (some .int)) (hnd := fun _ _ => none) (K := gk_186) (δ := 3) rfl rfl ?_
  refine gg_al 1 0 rfl rfl rfl ?_
  refine gg_il 2 1 rfl rfl rfl ?_
  refine gg_cI 5 rfl (gm_131 _) (Nat.le_of_ble_eq_true rfl) (gb_vs rfl rfl rfl rfl rfl gcl_187 rfl rfl rfl) rfl (fun _ => rfl) (fun _ => rfl) (fun r1 s2 => ?_)
  refine gg_s 7 rfl rfl ?_
  refine gg_il 8 2 rfl rfl (gl1 rfl rfl rfl) ?_
  refine gg_il 9 3 rfl rfl (gl1 rfl rfl rfl) ?_
  refine gg_cI 12 rfl (gm_185 _ _) (Nat.le_of_ble_eq_true rfl) (gb_ss rfl rfl rfl rfl rfl rfl rfl) rfl (fun _ => rfl) (fun _ => rfl) (fun r3 s4 => ?_)
  refine gg_s 14 rfl rfl ?_
  refine gg_il 16 4 rfl rfl (gl1 rfl rfl gs1) ?_
  refine gg_q (fun q5 => ?_)
  refine gg_zeq 33 19 rfl rfl rfl rfl q5 ?_ ?_
  · refine gg_ci 34 0 rfl rfl ?_
    refine gg_s 36 rfl rfl ?_
    refine gg_il 37 2 rfl rfl (gl1 rfl rfl (gl1 rfl rfl (gl1 rfl rfl rfl))) ?_
    refine gg_s 39 rfl rfl ?_
    exact gt_186_39 gFU x1 x2 x3 r1 r3 0 x2 (gl1 rfl rfl (gl1 rfl rfl (gl1 rfl rfl (gl1 rfl rfl rfl)))) (gl1 rfl rfl (gl1 rfl rfl (gl1 rfl rfl (gl1 rfl rfl rfl)))) (gl1 rfl rfl (gl1 rfl rfl (gl1 rfl rfl (gl1 rfl rfl rfl)))) (gl1 rfl rfl (gl1 rfl rfl (gl1 rfl rfl (gl1 rfl rfl rfl)))) (gl1 rfl rfl (gl1 rfl rfl (gl1 rfl rfl gs1))) (gl1 rfl rfl (gl1 rfl rfl gs1)) (gl1 rfl rfl gs1) gs1
  · refine gg_al 20 0 rfl rfl (gl1 rfl rfl (gl1 rfl rfl rfl)) ?_
    refine gg_gr 23 189 rfl rfl rfl gcl_187 rfl ?_
    refine gg_il 24 1 rfl rfl (gl1 rfl rfl (gl1 rfl rfl rfl)) ?_
    refine gg_q (fun q6 => ?_)
    refine gg_ial 25 rfl rfl gar_189 q6 ?_
    refine gg_ci 26 (-1) rfl rfl ?_
    refine gg_q (fun q7 => ?_)
    refine gg_ine 33 29 rfl rfl rfl rfl q7 (gRl rfl) ?_ ?_
    · refine gg_ci 34 0 rfl rfl ?_
      refine gg_s 36 rfl rfl ?_
      refine gg_il 37 2 rfl rfl (gl1 rfl rfl (gl1 rfl rfl (gl1 rfl rfl rfl))) ?_
      refine gg_s 39 rfl rfl ?_
      exact gt_186_39 gFU x1 x2 x3 r1 r3 0 x2 (gl1 rfl rfl (gl1 rfl rfl (gl1 rfl rfl (gl1 rfl rfl rfl)))) (gl1 rfl rfl (gl1 rfl rfl (gl1 rfl rfl (gl1 rfl rfl rfl)))) (gl1 rfl rfl (gl1 rfl rfl (gl1 rfl rfl (gl1 rfl rfl rfl)))) (gl1 rfl rfl (gl1 rfl rfl (gl1 rfl rfl (gl1 rfl rfl rfl)))) (gl1 rfl rfl (gl1 rfl rfl (gl1 rfl rfl gs1))) (gl1 rfl rfl (gl1 rfl rfl gs1)) (gl1 rfl rfl gs1) gs1
    · refine gg_ci 30 1 rfl rfl ?_
      refine gg_go 34 rfl rfl rfl ?_
      refine gg_s 36 rfl rfl ?_
      refine gg_il 37 2 rfl rfl (gl1 rfl rfl (gl1 rfl rfl (gl1 rfl rfl rfl))) ?_
      refine gg_s 39 rfl rfl ?_
      exact gt_186_39 gFU x1 x2 x3 r1 r3 1 x2 (gl1 rfl rfl (gl1 rfl rfl (gl1 rfl rfl (gl1 rfl rfl rfl)))) (gl1 rfl rfl (gl1 rfl rfl (gl1 rfl rfl (gl1 rfl rfl rfl)))) (gl1 rfl rfl (gl1 rfl rfl (gl1 rfl rfl (gl1 rfl rfl rfl)))) (gl1 rfl rfl (gl1 rfl rfl (gl1 rfl rfl (gl1 rfl rfl rfl)))) (gl1 rfl rfl (gl1 rfl rfl (gl1 rfl rfl gs1))) (gl1 rfl rfl (gl1 rfl rfl gs1)) (gl1 rfl rfl gs1) gs1
def fx_187_142 (x1 : Int) (x2 : Int) (x3 : Int) (x4 : Int) (x7 : Int) (y0 : Int) (y1 : Int) (y2 : Int) (σ : gb_S) : Option gb_P :=
  gc (fx_129 y2 y1 y0 σ) (fun r1 s2 =>
  gq (gR r1) (
  (if r1 = 0 then
    some (.inl 0, s2)
  else
    gc (fx_180 1 x1 x2 x3 x4 (gb_up s2 187 26 ((s2 187 26) + 1))) (fun _ s5 =>
    some (.inl x7, s5)))))
def fx_187_98 (x1 : Int) (x2 : Int) (x3 : Int) (x4 : Int) (x5 : Int) (x6 : Int) (x7 : Int) (σ : gb_S) : Option gb_P :=
  gq (gR x7) (
  (if 0 < x7 then
    gq (0 ≤ x1 ∧ x1 < 14) (
    gq (gR (σ 189 x1.toNat)) (
    (if (σ 189 x1.toNat) = (-1) then
      gq (0 ≤ x2 ∧ x2 < 14) (
      gq (gR (σ 189 x2.toNat)) (
      (if (σ 189 x2.toNat) = (-1) then
        gq (gR (σ 187 26)) (
        (if (σ 187 26) < 60 then
          fx_187_142 x1 x2 x3 x4 x7 1 x6 x5 σ
        else
          fx_187_142 x1 x2 x3 x4 x7 0 x6 x5 σ))
      else
        fx_187_142 x1 x2 x3 x4 x7 0 x6 x5 σ)))
    else
      fx_187_142 x1 x2 x3 x4 x7 0 x6 x5 σ)))
  else
    fx_187_142 x1 x2 x3 x4 x7 0 x6 x5 σ))
def fx_187_64 (k : Nat) (x1 : Int) (x2 : Int) (x3 : Int) (x4 : Int) (x5 : Int) (x6 : Int) (x7 : Int) (x8 : Int) (σ : gb_S) : Option gb_P := match k with
  | 0 => none
  | k + 1 =>
    gq (gR x8) (
    gq (gR x4) (
    (if x8 < x4 then
      gq (0 ≤ x8 ∧ x8 < 60) (
      gq (gR (σ 222 x8.toNat)) (
      gq (gR x1) (
      (if (σ 222 x8.toNat) = x1 then
        fx_187_64 k x1 x2 x3 x4 x5 x6 (x7 + 1) (x8 + 1) σ
      else
        fx_187_64 k x1 x2 x3 x4 x5 x6 (x7 + 0) (x8 + 1) σ))))
    else
      fx_187_98 x1 x2 x3 x4 x5 x6 x7 σ)))
def fx_187_42 (x1 : Int) (x2 : Int) (x3 : Int) (x4 : Int) (x5 : Int) (y0 : Int) (σ : gb_S) : Option gb_P :=
  gq (gR x5) (
  (if x5 = 0 then
    fx_187_98 x1 x2 x3 x4 x5 y0 0 σ
  else
    gq (gR y0) (
    (if y0 = 0 then
      fx_187_98 x1 x2 x3 x4 x5 y0 0 σ
    else
      gc (fx_184 σ) (fun _ s4 =>
      fx_187_64 gFU x1 x2 x3 x4 x5 y0 0 x3 s4)))))
def fx_187_21 (x1 : Int) (x2 : Int) (x3 : Int) (x4 : Int) (y0 : Int) (σ : gb_S) : Option gb_P :=
  gq (gR x1) (
  gq (gR x2) (
  (if x1 = x2 then
    fx_187_42 x1 x2 x3 x4 y0 0 σ
  else
    gc (fx_185 x3 x4 σ) (fun r3 s4 =>
    gq (gR r3) (
    (if r3 = 0 then
      fx_187_42 x1 x2 x3 x4 y0 0 s4
    else
      fx_187_42 x1 x2 x3 x4 y0 1 s4))))))
/-- TreeclerkModel.hand -/
def fx_187 (x1 : Int) (x2 : Int) (x3 : Int) (x4 : Int) (σ : gb_S) : Option gb_P :=
  gc (fx_131 x1 σ) (fun r1 s2 =>
  gq (gR r1) (
  (if r1 = 0 then
    fx_187_21 x1 x2 x3 x4 0 s2
  else
    gc (fx_131 x2 s2) (fun r4 s5 =>
    gq (gR r4) (
    (if r4 = 0 then
      fx_187_21 x1 x2 x3 x4 0 s5
    else
      fx_187_21 x1 x2 x3 x4 1 s5))))))
theorem gt_187_142 (x1 : Int) (x2 : Int) (x3 : Int) (x4 : Int) (x7 : Int) (y0 : Int) (y1 : Int) (y2 : Int) {lo : gh_L} (l0 : lo.lookup 0 = some (vr 187)) (l1 : lo.lookup 1 = some (vi x1)) (l2 : lo.lookup 2 = some (vi x2)) (l3 : lo.lookup 3 = some (vi x3)) (l4 : lo.lookup 4 = some (vi x4)) (l7 : lo.lookup 7 = some (vi x7)) {σ : gb_S} : gb_G (fx_187_142 x1 x2 x3 x4 x7 y0 y1 y2 σ) 8 8 (some .int) (fun _ _ => none) gk_187 c0 eI 142 lo [vi y0, vi y1, vi y2, vr 187] σ := by
  rw [fx_187_142]
  refine gg_cI 145 rfl (gm_129 _ _ _) (Nat.le_of_ble_eq_true rfl) (gb_vs rfl rfl rfl rfl rfl gcl_187 rfl rfl rfl) rfl (fun _ => rfl) (fun _ => rfl) (fun r1 s2 => ?_)
  refine gg_q (fun q3 => ?_)
  refine gg_zne 150 148 rfl rfl rfl rfl q3 ?_ ?_
  · refine gg_al 151 0 rfl rfl l0 ?_
    refine gg_s 152 rfl rfl ?_
    refine gg_gi 155 rfl rfl rfl gcl_187 rfl ?_
    refine gg_ci 156 1 rfl rfl ?_
    refine gg_add 157 rfl rfl ?_
    refine gg_pf 160 rfl rfl rfl gcl_187 rfl ⟨rfl, rfl⟩ ?_
    refine gg_al 161 0 rfl rfl l0 ?_
    refine gg_ci 162 1 rfl rfl ?_
    refine gg_il 163 1 rfl rfl l1 ?_
    refine gg_il 164 2 rfl rfl l2 ?_
    refine gg_il 165 3 rfl rfl l3 ?_
    refine gg_il 167 4 rfl rfl l4 ?_
    refine gg_cV 170 rfl (gm_180 _ _ _ _ _) (Nat.le_of_ble_eq_true rfl) (gb_vs rfl rfl rfl rfl rfl gcl_187 rfl rfl rfl) rfl (fun _ => rfl) (fun _ => rfl) (fun s5 => ?_)
    refine gg_il 172 7 rfl rfl l7 ?_
    exact gg_ir rfl
  · refine gg_ci 149 0 rfl rfl ?_
    exact gg_ir rfl
theorem gt_187_98 (x1 : Int) (x2 : Int) (x3 : Int) (x4 : Int) (x5 : Int) (x6 : Int) (x7 : Int) {lo : gh_L} (l0 : lo.lookup 0 = some (vr 187)) (l1 : lo.lookup 1 = some (vi x1)) (l2 : lo.lookup 2 = some (vi x2)) (l3 : lo.lookup 3 = some (vi x3)) (l4 : lo.lookup 4 = some (vi x4)) (l5 : lo.lookup 5 = some (vi x5)) (l6 : lo.lookup 6 = some (vi x6)) (l7 : lo.lookup 7 = some (vi x7)) {σ : gb_S} : gb_G (fx_187_98 x1 x2 x3 x4 x5 x6 x7 σ) 8 8 (some .int) (fun _ _ => none) gk_187 c0 eI 98 lo [] σ := by
  rw [fx_187_98]
  refine gg_al 99 0 rfl rfl l0 ?_
  refine gg_il 101 5 rfl rfl l5 ?_
  refine gg_il 103 6 rfl rfl l6 ?_
  refine gg_il 105 7 rfl rfl l7 ?_
  refine gg_q (fun q1 => ?_)
  refine gg_zle 141 108 rfl rfl rfl rfl q1 ?_ ?_
  · refine gg_ci 142 0 rfl rfl ?_
    exact gt_187_142 x1 x2 x3 x4 x7 0 x6 x5 l0 l1 l2 l3 l4 l7
  · refine gg_al 109 0 rfl rfl l0 ?_
    refine gg_gr 112 189 rfl rfl rfl gcl_187 rfl ?_
    refine gg_il 113 1 rfl rfl l1 ?_
    refine gg_q (fun q2 => ?_)
    refine gg_ial 114 rfl rfl gar_189 q2 ?_
    refine gg_ci 115 (-1) rfl rfl ?_
    refine gg_q (fun q3 => ?_)
    refine gg_ine 141 118 rfl rfl rfl rfl q3 (gRl rfl) ?_ ?_
    · refine gg_ci 142 0 rfl rfl ?_
      exact gt_187_142 x1 x2 x3 x4 x7 0 x6 x5 l0 l1 l2 l3 l4 l7
    · refine gg_al 119 0 rfl rfl l0 ?_
      refine gg_gr 122 189 rfl rfl rfl gcl_187 rfl ?_
      refine gg_il 123 2 rfl rfl l2 ?_
      refine gg_q (fun q4 => ?_)
      refine gg_ial 124 rfl rfl gar_189 q4 ?_
      refine gg_ci 125 (-1) rfl rfl ?_
      refine gg_q (fun q5 => ?_)
      refine gg_ine 141 128 rfl rfl rfl rfl q5 (gRl rfl) ?_ ?_
      · refine gg_ci 142 0 rfl rfl ?_
        exact gt_187_142 x1 x2 x3 x4 x7 0 x6 x5 l0 l1 l2 l3 l4 l7
      · refine gg_al 129 0 rfl rfl l0 ?_
        refine gg_gi 132 rfl rfl rfl gcl_187 rfl ?_
        refine gg_ci 134 60 rfl rfl ?_
        refine gg_q (fun q6 => ?_)
        refine gg_ige 141 137 rfl rfl rfl rfl q6 (gRl rfl) ?_ ?_
        · refine gg_ci 142 0 rfl rfl ?_
          exact gt_187_142 x1 x2 x3 x4 x7 0 x6 x5 l0 l1 l2 l3 l4 l7
        · refine gg_ci 138 1 rfl rfl ?_
          refine gg_go 142 rfl rfl rfl ?_
          exact gt_187_142 x1 x2 x3 x4 x7 1 x6 x5 l0 l1 l2 l3 l4 l7
theorem gt_187_64 (k : Nat) : ∀ (x1 : Int) (x2 : Int) (x3 : Int) (x4 : Int) (x5 : Int) (x6 : Int) (x7 : Int) (x8 : Int) {lo : gh_L} (l0 : lo.lookup 0 = some (vr 187)) (l1 : lo.lookup 1 = some (vi x1)) (l2 : lo.lookup 2 = some (vi x2)) (l3 : lo.lookup 3 = some (vi x3)) (l4 : lo.lookup 4 = some (vi x4)) (l5 : lo.lookup 5 = some (vi x5)) (l6 : lo.lookup 6 = some (vi x6)) (l7 : lo.lookup 7 = some (vi x7)) (l8 : lo.lookup 8 = some (vi x8)) {σ : gb_S}, gb_G (fx_187_64 k x1 x2 x3 x4 x5 x6 x7 x8 σ) 8 8 (some .int) (fun _ _ => none) gk_187 c0 eI 64 lo [] σ := by
  induction k with
  | zero => intros; exact gg_n
  | succ k ih =>
    intro x1 x2 x3 x4 x5 x6 x7 x8 lo l0 l1 l2 l3 l4 l5 l6 l7 l8 σ
    rw [fx_187_64]
    refine gg_il 66 8 rfl rfl l8 ?_
    refine gg_il 68 4 rfl rfl l4 ?_
    refine gg_q (fun q1 => ?_)
    refine gg_q (fun q2 => ?_)
    refine gg_ige 98 71 rfl rfl rfl rfl q1 q2 ?_ ?_
    · exact gt_187_98 x1 x2 x3 x4 x5 x6 x7 l0 l1 l2 l3 l4 l5 l6 l7
    · refine gg_il 73 7 rfl rfl l7 ?_
      refine gg_al 74 0 rfl rfl l0 ?_
      refine gg_gr 77 222 rfl rfl rfl gcl_187 rfl ?_
      refine gg_il 79 8 rfl rfl l8 ?_
      refine gg_q (fun q3 => ?_)
      refine gg_ial 80 rfl rfl gar_222 q3 ?_
      refine gg_il 81 1 rfl rfl l1 ?_
      refine gg_q (fun q4 => ?_)
      refine gg_q (fun q5 => ?_)
      refine gg_ine 88 84 rfl rfl rfl rfl q4 q5 ?_ ?_
      · refine gg_ci 89 0 rfl rfl ?_
        refine gg_add 90 rfl rfl ?_
        refine gg_s 92 rfl rfl ?_
        refine gg_inc 95 rfl rfl (gl1 rfl rfl l8) ?_
        refine gg_go 64 rfl rfl rfl ?_
        exact ih x1 x2 x3 x4 x5 x6 (x7 + 0) (x8 + 1) (gl1 rfl rfl (gl1 rfl rfl l0)) (gl1 rfl rfl (gl1 rfl rfl l1)) (gl1 rfl rfl (gl1 rfl rfl l2)) (gl1 rfl rfl (gl1 rfl rfl l3)) (gl1 rfl rfl (gl1 rfl rfl l4)) (gl1 rfl rfl (gl1 rfl rfl l5)) (gl1 rfl rfl (gl1 rfl rfl l6)) (gl1 rfl rfl gs1) gs1
      · refine gg_ci 85 1 rfl rfl ?_
        refine gg_go 89 rfl rfl rfl ?_
        refine gg_add 90 rfl rfl ?_
        refine gg_s 92 rfl rfl ?_
        refine gg_inc 95 rfl rfl (gl1 rfl rfl l8) ?_
        refine gg_go 64 rfl rfl rfl ?_
        exact ih x1 x2 x3 x4 x5 x6 (x7 + 1) (x8 + 1) (gl1 rfl rfl (gl1 rfl rfl l0)) (gl1 rfl rfl (gl1 rfl rfl l1)) (gl1 rfl rfl (gl1 rfl rfl l2)) (gl1 rfl rfl (gl1 rfl rfl l3)) (gl1 rfl rfl (gl1 rfl rfl l4)) (gl1 rfl rfl (gl1 rfl rfl l5)) (gl1 rfl rfl (gl1 rfl rfl l6)) (gl1 rfl rfl gs1) gs1
theorem gt_187_42 (x1 : Int) (x2 : Int) (x3 : Int) (x4 : Int) (x5 : Int) (y0 : Int) {lo : gh_L} (l0 : lo.lookup 0 = some (vr 187)) (l1 : lo.lookup 1 = some (vi x1)) (l2 : lo.lookup 2 = some (vi x2)) (l3 : lo.lookup 3 = some (vi x3)) (l4 : lo.lookup 4 = some (vi x4)) (l5 : lo.lookup 5 = some (vi x5)) {σ : gb_S} : gb_G (fx_187_42 x1 x2 x3 x4 x5 y0 σ) 8 8 (some .int) (fun _ _ => none) gk_187 c0 eI 42 lo [vi y0] σ := by
  rw [fx_187_42]
  refine gg_s 44 rfl rfl ?_
  refine gg_ci 45 0 rfl rfl ?_
  refine gg_s 47 rfl rfl ?_
  refine gg_il 49 5 rfl rfl (gl1 rfl rfl (gl1 rfl rfl l5)) ?_
  refine gg_q (fun q1 => ?_)
  refine gg_zeq 98 52 rfl rfl rfl rfl q1 ?_ ?_
  · exact gt_187_98 x1 x2 x3 x4 x5 y0 0 (gl1 rfl rfl (gl1 rfl rfl l0)) (gl1 rfl rfl (gl1 rfl rfl l1)) (gl1 rfl rfl (gl1 rfl rfl l2)) (gl1 rfl rfl (gl1 rfl rfl l3)) (gl1 rfl rfl (gl1 rfl rfl l4)) (gl1 rfl rfl (gl1 rfl rfl l5)) (gl1 rfl rfl gs1) gs1
  · refine gg_il 54 6 rfl rfl (gl1 rfl rfl gs1) ?_
    refine gg_q (fun q2 => ?_)
    refine gg_zeq 98 57 rfl rfl rfl rfl q2 ?_ ?_
    · exact gt_187_98 x1 x2 x3 x4 x5 y0 0 (gl1 rfl rfl (gl1 rfl rfl l0)) (gl1 rfl rfl (gl1 rfl rfl l1)) (gl1 rfl rfl (gl1 rfl rfl l2)) (gl1 rfl rfl (gl1 rfl rfl l3)) (gl1 rfl rfl (gl1 rfl rfl l4)) (gl1 rfl rfl (gl1 rfl rfl l5)) (gl1 rfl rfl gs1) gs1
    · refine gg_al 58 0 rfl rfl (gl1 rfl rfl (gl1 rfl rfl l0)) ?_
      refine gg_cV 61 rfl (gm_184) (Nat.le_of_ble_eq_true rfl) (gb_vs rfl rfl rfl rfl rfl gcl_187 rfl rfl rfl) rfl (fun _ => rfl) (fun _ => rfl) (fun s4 => ?_)
      refine gg_il 62 3 rfl rfl (gl1 rfl rfl (gl1 rfl rfl l3)) ?_
      refine gg_s 64 rfl rfl ?_
      exact gt_187_64 gFU x1 x2 x3 x4 x5 y0 0 x3 (gl1 rfl rfl (gl1 rfl rfl (gl1 rfl rfl l0))) (gl1 rfl rfl (gl1 rfl rfl (gl1 rfl rfl l1))) (gl1 rfl rfl (gl1 rfl rfl (gl1 rfl rfl l2))) (gl1 rfl rfl (gl1 rfl rfl (gl1 rfl rfl l3))) (gl1 rfl rfl (gl1 rfl rfl (gl1 rfl rfl l4))) (gl1 rfl rfl (gl1 rfl rfl (gl1 rfl rfl l5))) (gl1 rfl rfl (gl1 rfl rfl gs1)) (gl1 rfl rfl gs1) gs1
theorem gt_187_21 (x1 : Int) (x2 : Int) (x3 : Int) (x4 : Int) (y0 : Int) {lo : gh_L} (l0 : lo.lookup 0 = some (vr 187)) (l1 : lo.lookup 1 = some (vi x1)) (l2 : lo.lookup 2 = some (vi x2)) (l3 : lo.lookup 3 = some (vi x3)) (l4 : lo.lookup 4 = some (vi x4)) {σ : gb_S} : gb_G (fx_187_21 x1 x2 x3 x4 y0 σ) 8 8 (some .int) (fun _ _ => none) gk_187 c0 eI 21 lo [vi y0] σ := by
  rw [fx_187_21]
  refine gg_s 23 rfl rfl ?_
  refine gg_il 24 1 rfl rfl (gl1 rfl rfl l1) ?_
  refine gg_il 25 2 rfl rfl (gl1 rfl rfl l2) ?_
  refine gg_q (fun q1 => ?_)
  refine gg_q (fun q2 => ?_)
  refine gg_ieq 41 28 rfl rfl rfl rfl q1 q2 ?_ ?_
  · refine gg_ci 42 0 rfl rfl ?_
    exact gt_187_42 x1 x2 x3 x4 y0 0 (gl1 rfl rfl l0) (gl1 rfl rfl l1) (gl1 rfl rfl l2) (gl1 rfl rfl l3) (gl1 rfl rfl l4) gs1
  · refine gg_il 29 3 rfl rfl (gl1 rfl rfl l3) ?_
    refine gg_il 31 4 rfl rfl (gl1 rfl rfl l4) ?_
    refine gg_cI 34 rfl (gm_185 _ _) (Nat.le_of_ble_eq_true rfl) (gb_ss rfl rfl rfl rfl rfl rfl rfl) rfl (fun _ => rfl) (fun _ => rfl) (fun r3 s4 => ?_)
    refine gg_q (fun q5 => ?_)
    refine gg_zeq 41 37 rfl rfl rfl rfl q5 ?_ ?_
    · refine gg_ci 42 0 rfl rfl ?_
      exact gt_187_42 x1 x2 x3 x4 y0 0 (gl1 rfl rfl l0) (gl1 rfl rfl l1) (gl1 rfl rfl l2) (gl1 rfl rfl l3) (gl1 rfl rfl l4) gs1
    · refine gg_ci 38 1 rfl rfl ?_
      refine gg_go 42 rfl rfl rfl ?_
      exact gt_187_42 x1 x2 x3 x4 y0 1 (gl1 rfl rfl l0) (gl1 rfl rfl l1) (gl1 rfl rfl l2) (gl1 rfl rfl l3) (gl1 rfl rfl l4) gs1
theorem gm_187 (x1 : Int) (x2 : Int) (x3 : Int) (x4 : Int) {σ : gb_S} : gb_M (fx_187 x1 x2 x3 x4 σ) 9 c0 eI 187 [vr 187, vi x1, vi x2, vi x3, vi x4] σ := by
  rw [fx_187]
  refine gg_m (own := 8) (rt := (some .int)) (hnd := fun _ _ => none) (K := gk_187) (δ := 8) rfl rfl ?_
  refine gg_al 1 0 rfl rfl rfl ?_
  refine gg_il 2 1 rfl rfl rfl ?_
  refine gg_cI 5 rfl (gm_131 _) (Nat.le_of_ble_eq_true rfl) (gb_vs rfl rfl rfl rfl rfl gcl_187 rfl rfl rfl) rfl (fun _ => rfl) (fun _ => rfl) (fun r1 s2 => ?_)
  refine gg_q (fun q3 => ?_)
  refine gg_zeq 20 8 rfl rfl rfl rfl q3 ?_ ?_
  · refine gg_ci 21 0 rfl rfl ?_
    exact gt_187_21 x1 x2 x3 x4 0 rfl rfl rfl rfl rfl
  · refine gg_al 9 0 rfl rfl rfl ?_
    refine gg_il 10 2 rfl rfl rfl ?_
    refine gg_cI 13 rfl (gm_131 _) (Nat.le_of_ble_eq_true rfl) (gb_vs rfl rfl rfl rfl rfl gcl_187 rfl rfl rfl) rfl (fun _ => rfl) (fun _ => rfl) (fun r4 s5 => ?_)
    refine gg_q (fun q6 => ?_)
    refine gg_zeq 20 16 rfl rfl rfl rfl q6 ?_ ?_
    · refine gg_ci 21 0 rfl rfl ?_
      exact gt_187_21 x1 x2 x3 x4 0 rfl rfl rfl rfl rfl
    · refine gg_ci 17 1 rfl rfl ?_
      refine gg_go 21 rfl rfl rfl ?_
      exact gt_187_21 x1 x2 x3 x4 1 rfl rfl rfl rfl rfl
/-- TreeclerkModel.owner -/
def fx_188 (x1 : Int) (σ : gb_S) : Option gb_P :=
  gc (fx_134 x1 σ) (fun r1 s2 =>
  gc (fx_127 r1 s2) (fun r3 s4 =>
  gq (gR r3) (
  (if r3 = 0 then
    some (.inl 0, s4)
  else
    gc (fx_184 s4) (fun _ s7 =>
    gq (0 ≤ x1 ∧ x1 < 60) (
    some (.inl (s7 222 x1.toNat), s7)))))))
theorem gm_188 (x1 : Int) {σ : gb_S} : gb_M (fx_188 x1 σ) 9 c0 eI 188 [vr 187, vi x1] σ := by
  rw [fx_188]
  refine gg_m (own := 8) (rt := (some .int)) (hnd := fun _ _ => none) (K := gk_188) (δ := 8) rfl rfl ?_
  refine gg_al 1 0 rfl rfl rfl ?_
  refine gg_il 2 1 rfl rfl rfl ?_
  refine gg_cI 5 rfl (gm_134 _) (Nat.le_of_ble_eq_true rfl) (gb_ss rfl rfl rfl rfl rfl rfl rfl) rfl (fun _ => rfl) (fun _ => rfl) (fun r1 s2 => ?_)
  refine gg_cI 8 rfl (gm_127 _) (Nat.le_of_ble_eq_true rfl) (gb_vs rfl rfl rfl rfl rfl gcl_187 rfl rfl rfl) rfl (fun _ => rfl) (fun _ => rfl) (fun r3 s4 => ?_)
  refine gg_q (fun q5 => ?_)
  refine gg_zne 13 11 rfl rfl rfl rfl q5 ?_ ?_
  · refine gg_al 14 0 rfl rfl rfl ?_
    refine gg_cV 17 rfl (gm_184) (Nat.le_of_ble_eq_true rfl) (gb_vs rfl rfl rfl rfl rfl gcl_187 rfl rfl rfl) rfl (fun _ => rfl) (fun _ => rfl) (fun s7 => ?_)
    refine gg_al 18 0 rfl rfl rfl ?_
    refine gg_gr 21 222 rfl rfl rfl gcl_187 rfl ?_
    refine gg_il 22 1 rfl rfl rfl ?_
    refine gg_q (fun q8 => ?_)
    refine gg_ial 23 rfl rfl gar_222 q8 ?_
    exact gg_ir rfl
  · refine gg_ci 12 0 rfl rfl ?_
    exact gg_ir rfl
/-- TreeclerkModel.ownerAnew -/
def fx_189 (x1 : Int) (σ : gb_S) : Option gb_P :=
  gc (fx_188 x1 σ) (fun r1 s2 =>
  some (.inl r1, s2))
theorem gm_189 (x1 : Int) {σ : gb_S} : gb_M (fx_189 x1 σ) 10 c0 eI 189 [vr 187, vi x1] σ := by
  rw [fx_189]
  refine gg_m (own := 8) (rt := (some .int)) (hnd := fun _ _ => none) (K := gk_189) (δ := 9) rfl rfl ?_
  refine gg_al 1 0 rfl rfl rfl ?_
  refine gg_il 2 1 rfl rfl rfl ?_
  refine gg_cI 5 rfl (gm_188 _) (Nat.le_of_ble_eq_true rfl) (gb_vs rfl rfl rfl rfl rfl gcl_187 rfl rfl rfl) rfl (fun _ => rfl) (fun _ => rfl) (fun r1 s2 => ?_)
  exact gg_ir rfl
/-- TreeclerkModel.area -/
def fx_190 (x1 : Int) (σ : gb_S) : Option gb_P :=
  gc (fx_131 x1 σ) (fun r1 s2 =>
  gc (fx_127 r1 s2) (fun r3 s4 =>
  gq (gR r3) (
  (if r3 = 0 then
    some (.inl 0, s4)
  else
    gc (fx_184 s4) (fun _ s7 =>
    gc (fx_182 x1 s7) (fun r8 s9 =>
    some (.inl r8, s9)))))))
theorem gm_190 (x1 : Int) {σ : gb_S} : gb_M (fx_190 x1 σ) 9 c0 eI 190 [vr 187, vi x1] σ := by
  rw [fx_190]
  refine gg_m (own := 8) (rt := (some .int)) (hnd := fun _ _ => none) (K := gk_190) (δ := 8) rfl rfl ?_
  refine gg_al 1 0 rfl rfl rfl ?_
  refine gg_al 2 0 rfl rfl rfl ?_
  refine gg_il 3 1 rfl rfl rfl ?_
  refine gg_cI 6 rfl (gm_131 _) (Nat.le_of_ble_eq_true rfl) (gb_vs rfl rfl rfl rfl rfl gcl_187 rfl rfl rfl) rfl (fun _ => rfl) (fun _ => rfl) (fun r1 s2 => ?_)
  refine gg_cI 9 rfl (gm_127 _) (Nat.le_of_ble_eq_true rfl) (gb_vs rfl rfl rfl rfl rfl gcl_187 rfl rfl rfl) rfl (fun _ => rfl) (fun _ => rfl) (fun r3 s4 => ?_)
  refine gg_q (fun q5 => ?_)
  refine gg_zne 14 12 rfl rfl rfl rfl q5 ?_ ?_
  · refine gg_al 15 0 rfl rfl rfl ?_
    refine gg_cV 18 rfl (gm_184) (Nat.le_of_ble_eq_true rfl) (gb_vs rfl rfl rfl rfl rfl gcl_187 rfl rfl rfl) rfl (fun _ => rfl) (fun _ => rfl) (fun s7 => ?_)
    refine gg_al 19 0 rfl rfl rfl ?_
    refine gg_il 20 1 rfl rfl rfl ?_
    refine gg_cI 23 rfl (gm_182 _) (Nat.le_of_ble_eq_true rfl) (gb_vs rfl rfl rfl rfl rfl gcl_187 rfl rfl rfl) rfl (fun _ => rfl) (fun _ => rfl) (fun r8 s9 => ?_)
    exact gg_ir rfl
  · refine gg_ci 13 0 rfl rfl ?_
    exact gg_ir rfl
def fx_191_8 (k : Nat) (x1 : Int) (x2 : Int) (σ : gb_S) : Option gb_P := match k with
  | 0 => none
  | k + 1 =>
    gq (gR x2) (
    (if x2 < 60 then
      gq (0 ≤ x2 ∧ x2 < 60) (
      gq (gR (σ 222 x2.toNat)) (
      (if (σ 222 x2.toNat) = (-1) then
        fx_191_8 k (x1 + 0) (x2 + 1) σ
      else
        (if x2 = 0 then
          fx_191_8 k (x1 + 1) (x2 + 1) σ
        else
          gq (0 ≤ (x2 - 1) ∧ (x2 - 1) < 60) (
          gq (gR (σ 222 (x2 - 1).toNat)) (
          (if (σ 222 (x2 - 1).toNat) = (σ 222 x2.toNat) then
            fx_191_8 k (x1 + 0) (x2 + 1) σ
          else
            fx_191_8 k (x1 + 1) (x2 + 1) σ)))))))
    else
      gc (fx_130 x1 σ) (fun r2 s3 =>
      some (.inl r2, s3))))
/-- TreeclerkModel.parcels -/
def fx_191 (σ : gb_S) : Option gb_P :=
  gc (fx_184 σ) (fun _ s2 =>
  fx_191_8 gFU 0 0 s2)
theorem gt_191_8 (k : Nat) : ∀ (x1 : Int) (x2 : Int) {lo : gh_L} (l0 : lo.lookup 0 = some (vr 187)) (l1 : lo.lookup 1 = some (vi x1)) (l2 : lo.lookup 2 = some (vi x2)) {σ : gb_S}, gb_G (fx_191_8 k x1 x2 σ) 8 8 (some .int) (fun _ _ => none) gk_191 c0 eI 8 lo [] σ := by
  induction k with
  | zero => intros; exact gg_n
  | succ k ih =>
    intro x1 x2 lo l0 l1 l2 σ
    rw [fx_191_8]
    refine gg_il 9 2 rfl rfl l2 ?_
    refine gg_ci 11 60 rfl rfl ?_
    refine gg_q (fun q1 => ?_)
    refine gg_ige 59 14 rfl rfl rfl rfl q1 (gRl rfl) ?_ ?_
    · refine gg_al 60 0 rfl rfl l0 ?_
      refine gg_il 61 1 rfl rfl l1 ?_
      refine gg_cI 64 rfl (gm_130 _) (Nat.le_of_ble_eq_true rfl) (gb_vs rfl rfl rfl rfl rfl gcl_187 rfl rfl rfl) rfl (fun _ => rfl) (fun _ => rfl) (fun r2 s3 => ?_)
      exact gg_ir rfl
    · refine gg_il 15 1 rfl rfl l1 ?_
      refine gg_al 16 0 rfl rfl l0 ?_
      refine gg_gr 19 222 rfl rfl rfl gcl_187 rfl ?_
      refine gg_il 20 2 rfl rfl l2 ?_
      refine gg_q (fun q4 => ?_)
      refine gg_ial 21 rfl rfl gar_222 q4 ?_
      refine gg_ci 22 (-1) rfl rfl ?_
      refine gg_q (fun q5 => ?_)
      refine gg_ieq 50 25 rfl rfl rfl rfl q5 (gRl rfl) ?_ ?_
      · refine gg_ci 51 0 rfl rfl ?_
        refine gg_add 52 rfl rfl ?_
        refine gg_s 53 rfl rfl ?_
        refine gg_inc 56 rfl rfl (gl1 rfl rfl l2) ?_
        refine gg_go 8 rfl rfl rfl ?_
        exact ih (x1 + 0) (x2 + 1) (gl1 rfl rfl (gl1 rfl rfl l0)) (gl1 rfl rfl gs1) gs1
      · refine gg_il 26 2 rfl rfl l2 ?_
        refine gg_zeq 46 29 rfl rfl rfl rfl q1 ?_ ?_
        · refine gg_ci 47 1 rfl rfl ?_
          refine gg_go 51 rfl rfl rfl ?_
          refine gg_add 52 rfl rfl ?_
          refine gg_s 53 rfl rfl ?_
          refine gg_inc 56 rfl rfl (gl1 rfl rfl l2) ?_
          refine gg_go 8 rfl rfl rfl ?_
          exact ih (x1 + 1) (x2 + 1) (gl1 rfl rfl (gl1 rfl rfl l0)) (gl1 rfl rfl gs1) gs1
        · refine gg_al 30 0 rfl rfl l0 ?_
          refine gg_gr 33 222 rfl rfl rfl gcl_187 rfl ?_
          refine gg_il 34 2 rfl rfl l2 ?_
          refine gg_ci 35 1 rfl rfl ?_
          refine gg_sub 36 rfl rfl ?_
          refine gg_q (fun q6 => ?_)
          refine gg_ial 37 rfl rfl gar_222 q6 ?_
          refine gg_al 38 0 rfl rfl l0 ?_
          refine gg_gr 41 222 rfl rfl rfl gcl_187 rfl ?_
          refine gg_il 42 2 rfl rfl l2 ?_
          refine gg_ial 43 rfl rfl gar_222 q4 ?_
          refine gg_q (fun q7 => ?_)
          refine gg_ieq 50 46 rfl rfl rfl rfl q7 q5 ?_ ?_
          · refine gg_ci 51 0 rfl rfl ?_
            refine gg_add 52 rfl rfl ?_
            refine gg_s 53 rfl rfl ?_
            refine gg_inc 56 rfl rfl (gl1 rfl rfl l2) ?_
            refine gg_go 8 rfl rfl rfl ?_
            exact ih (x1 + 0) (x2 + 1) (gl1 rfl rfl (gl1 rfl rfl l0)) (gl1 rfl rfl gs1) gs1
          · refine gg_ci 47 1 rfl rfl ?_
            refine gg_go 51 rfl rfl rfl ?_
            refine gg_add 52 rfl rfl ?_
            refine gg_s 53 rfl rfl ?_
            refine gg_inc 56 rfl rfl (gl1 rfl rfl l2) ?_
            refine gg_go 8 rfl rfl rfl ?_
            exact ih (x1 + 1) (x2 + 1) (gl1 rfl rfl (gl1 rfl rfl l0)) (gl1 rfl rfl gs1) gs1
theorem gm_191 {σ : gb_S} : gb_M (fx_191 σ) 9 c0 eI 191 [vr 187] σ := by
  rw [fx_191]
  refine gg_m (own := 8) (rt := (some .int)) (hnd := fun _ _ => none) (K := gk_191) (δ := 8) rfl rfl ?_
  refine gg_al 1 0 rfl rfl rfl ?_
  refine gg_cV 4 rfl (gm_184) (Nat.le_of_ble_eq_true rfl) (gb_vs rfl rfl rfl rfl rfl gcl_187 rfl rfl rfl) rfl (fun _ => rfl) (fun _ => rfl) (fun s2 => ?_)
  refine gg_ci 5 0 rfl rfl ?_
  refine gg_s 6 rfl rfl ?_
  refine gg_ci 7 0 rfl rfl ?_
  refine gg_s 8 rfl rfl ?_
  exact gt_191_8 gFU 0 0 (gl1 rfl rfl (gl1 rfl rfl rfl)) (gl1 rfl rfl gs1) gs1
def fx_192_103 (x3 : Int) (x4 : Int) (σ : gb_S) : Option gb_P :=
  some (.inl (((100 * x3) + x4) - x3), σ)
def fx_192_74 (k : Nat) (x1 : Int) (x3 : Int) (x4 : Int) (σ : gb_S) : Option gb_P := match k with
  | 0 => none
  | k + 1 =>
    gq (gR x4) (
    (if x4 < 60 then
      gq (0 ≤ x4 ∧ x4 < 60) (
      gq (0 ≤ x1 ∧ x1 < 60) (
      gq (gR (σ 222 x4.toNat)) (
      gq (gR (σ 222 x1.toNat)) (
      (if (σ 222 x4.toNat) = (σ 222 x1.toNat) then
        fx_192_74 k x1 x3 (x4 + 1) σ
      else
        fx_192_103 x3 x4 σ)))))
    else
      fx_192_103 x3 x4 σ))
def fx_192_44 (k : Nat) (x1 : Int) (x3 : Int) (σ : gb_S) : Option gb_P := match k with
  | 0 => none
  | k + 1 =>
    gq (gR x3) (
    (if 0 < x3 then
      gq (0 ≤ (x3 - 1) ∧ (x3 - 1) < 60) (
      gq (0 ≤ x1 ∧ x1 < 60) (
      gq (gR (σ 222 (x3 - 1).toNat)) (
      gq (gR (σ 222 x1.toNat)) (
      (if (σ 222 (x3 - 1).toNat) = (σ 222 x1.toNat) then
        fx_192_44 k x1 (x3 + (-1)) σ
      else
        fx_192_74 gFU x1 x3 x1 σ)))))
    else
      fx_192_74 gFU x1 x3 x1 σ))
def fx_192_34 (x1 : Int) (y0 : Int) (y1 : Int) (σ : gb_S) : Option gb_P :=
  gc (fx_128 y1 y0 σ) (fun r1 s2 =>
  gq (gR r1) (
  (if r1 = 0 then
    some (.inl 0, s2)
  else
    fx_192_44 gFU x1 x1 s2)))
def fx_192_13 (x1 : Int) (x2 : Int) (σ : gb_S) : Option gb_P :=
  gq (gR x2) (
  (if x2 = 0 then
    fx_192_34 x1 0 x2 σ
  else
    gq (0 ≤ x1 ∧ x1 < 60) (
    gq (gR (σ 222 x1.toNat)) (
    (if (σ 222 x1.toNat) = (-1) then
      fx_192_34 x1 0 x2 σ
    else
      fx_192_34 x1 1 x2 σ)))))
/-- TreeclerkModel.parcelAt -/
def fx_192 (x1 : Int) (σ : gb_S) : Option gb_P :=
  gc (fx_134 x1 σ) (fun r1 s2 =>
  gq (gR r1) (
  (if r1 = 0 then
    fx_192_13 x1 r1 s2
  else
    gc (fx_184 s2) (fun _ s5 =>
    fx_192_13 x1 r1 s5))))
theorem gt_192_103 (x3 : Int) (x4 : Int) {lo : gh_L} (l3 : lo.lookup 3 = some (vi x3)) (l4 : lo.lookup 4 = some (vi x4)) {σ : gb_S} : gb_G (fx_192_103 x3 x4 σ) 8 8 (some .int) (fun _ _ => none) gk_192 c0 eI 103 lo [] σ := by
  rw [fx_192_103]
  refine gg_ci 105 100 rfl rfl ?_
  refine gg_il 106 3 rfl rfl l3 ?_
  refine gg_mul 107 rfl rfl ?_
  refine gg_il 109 4 rfl rfl l4 ?_
  refine gg_add 110 rfl rfl ?_
  refine gg_il 111 3 rfl rfl l3 ?_
  refine gg_sub 112 rfl rfl ?_
  exact gg_ir rfl
theorem gt_192_74 (k : Nat) : ∀ (x1 : Int) (x3 : Int) (x4 : Int) {lo : gh_L} (l0 : lo.lookup 0 = some (vr 187)) (l1 : lo.lookup 1 = some (vi x1)) (l3 : lo.lookup 3 = some (vi x3)) (l4 : lo.lookup 4 = some (vi x4)) {σ : gb_S}, gb_G (fx_192_74 k x1 x3 x4 σ) 8 8 (some .int) (fun _ _ => none) gk_192 c0 eI 74 lo [] σ := by
  induction k with
  | zero => intros; exact gg_n
  | succ k ih =>
    intro x1 x3 x4 lo l0 l1 l3 l4 σ
    rw [fx_192_74]
    refine gg_il 76 4 rfl rfl l4 ?_
    refine gg_ci 78 60 rfl rfl ?_
    refine gg_q (fun q1 => ?_)
    refine gg_ige 103 81 rfl rfl rfl rfl q1 (gRl rfl) ?_ ?_
    · exact gt_192_103 x3 x4 l3 l4
    · refine gg_al 82 0 rfl rfl l0 ?_
      refine gg_gr 85 222 rfl rfl rfl gcl_187 rfl ?_
      refine gg_il 87 4 rfl rfl l4 ?_
      refine gg_q (fun q2 => ?_)
      refine gg_ial 88 rfl rfl gar_222 q2 ?_
      refine gg_al 89 0 rfl rfl l0 ?_
      refine gg_gr 92 222 rfl rfl rfl gcl_187 rfl ?_
      refine gg_il 93 1 rfl rfl l1 ?_
      refine gg_q (fun q3 => ?_)
      refine gg_ial 94 rfl rfl gar_222 q3 ?_
      refine gg_q (fun q4 => ?_)
      refine gg_q (fun q5 => ?_)
      refine gg_ine 103 97 rfl rfl rfl rfl q4 q5 ?_ ?_
      · exact gt_192_103 x3 x4 l3 l4
      · refine gg_inc 100 rfl rfl l4 ?_
        refine gg_go 74 rfl rfl rfl ?_
        exact ih x1 x3 (x4 + 1) (gl1 rfl rfl l0) (gl1 rfl rfl l1) (gl1 rfl rfl l3) gs1
theorem gt_192_44 (k : Nat) : ∀ (x1 : Int) (x3 : Int) {lo : gh_L} (l0 : lo.lookup 0 = some (vr 187)) (l1 : lo.lookup 1 = some (vi x1)) (l3 : lo.lookup 3 = some (vi x3)) {σ : gb_S}, gb_G (fx_192_44 k x1 x3 σ) 8 8 (some .int) (fun _ _ => none) gk_192 c0 eI 44 lo [] σ := by
  induction k with
  | zero => intros; exact gg_n
  | succ k ih =>
    intro x1 x3 lo l0 l1 l3 σ
    rw [fx_192_44]
    refine gg_il 45 3 rfl rfl l3 ?_
    refine gg_q (fun q1 => ?_)
    refine gg_zle 71 48 rfl rfl rfl rfl q1 ?_ ?_
    · refine gg_il 72 1 rfl rfl l1 ?_
      refine gg_s 74 rfl rfl ?_
      exact gt_192_74 gFU x1 x3 x1 (gl1 rfl rfl l0) (gl1 rfl rfl l1) (gl1 rfl rfl l3) gs1
    · refine gg_al 49 0 rfl rfl l0 ?_
      refine gg_gr 52 222 rfl rfl rfl gcl_187 rfl ?_
      refine gg_il 53 3 rfl rfl l3 ?_
      refine gg_ci 54 1 rfl rfl ?_
      refine gg_sub 55 rfl rfl ?_
      refine gg_q (fun q2 => ?_)
      refine gg_ial 56 rfl rfl gar_222 q2 ?_
      refine gg_al 57 0 rfl rfl l0 ?_
      refine gg_gr 60 222 rfl rfl rfl gcl_187 rfl ?_
      refine gg_il 61 1 rfl rfl l1 ?_
      refine gg_q (fun q3 => ?_)
      refine gg_ial 62 rfl rfl gar_222 q3 ?_
      refine gg_q (fun q4 => ?_)
      refine gg_q (fun q5 => ?_)
      refine gg_ine 71 65 rfl rfl rfl rfl q4 q5 ?_ ?_
      · refine gg_il 72 1 rfl rfl l1 ?_
        refine gg_s 74 rfl rfl ?_
        exact gt_192_74 gFU x1 x3 x1 (gl1 rfl rfl l0) (gl1 rfl rfl l1) (gl1 rfl rfl l3) gs1
      · refine gg_inc 68 rfl rfl l3 ?_
        refine gg_go 44 rfl rfl rfl ?_
        exact ih x1 (x3 + (-1)) (gl1 rfl rfl l0) (gl1 rfl rfl l1) gs1
theorem gt_192_34 (x1 : Int) (y0 : Int) (y1 : Int) {lo : gh_L} (l0 : lo.lookup 0 = some (vr 187)) (l1 : lo.lookup 1 = some (vi x1)) {σ : gb_S} : gb_G (fx_192_34 x1 y0 y1 σ) 8 8 (some .int) (fun _ _ => none) gk_192 c0 eI 34 lo [vi y0, vi y1, vr 187] σ := by
  rw [fx_192_34]
  refine gg_cI 37 rfl (gm_128 _ _) (Nat.le_of_ble_eq_true rfl) (gb_vs rfl rfl rfl rfl rfl gcl_187 rfl rfl rfl) rfl (fun _ => rfl) (fun _ => rfl) (fun r1 s2 => ?_)
  refine gg_q (fun q3 => ?_)
  refine gg_zne 42 40 rfl rfl rfl rfl q3 ?_ ?_
  · refine gg_il 43 1 rfl rfl l1 ?_
    refine gg_s 44 rfl rfl ?_
    exact gt_192_44 gFU x1 x1 (gl1 rfl rfl l0) (gl1 rfl rfl l1) gs1
  · refine gg_ci 41 0 rfl rfl ?_
    exact gg_ir rfl
theorem gt_192_13 (x1 : Int) (x2 : Int) {lo : gh_L} (l0 : lo.lookup 0 = some (vr 187)) (l1 : lo.lookup 1 = some (vi x1)) (l2 : lo.lookup 2 = some (vi x2)) {σ : gb_S} : gb_G (fx_192_13 x1 x2 σ) 8 8 (some .int) (fun _ _ => none) gk_192 c0 eI 13 lo [] σ := by
  rw [fx_192_13]
  refine gg_al 14 0 rfl rfl l0 ?_
  refine gg_il 15 2 rfl rfl l2 ?_
  refine gg_il 16 2 rfl rfl l2 ?_
  refine gg_q (fun q1 => ?_)
  refine gg_zeq 33 19 rfl rfl rfl rfl q1 ?_ ?_
  · refine gg_ci 34 0 rfl rfl ?_
    exact gt_192_34 x1 0 x2 l0 l1
  · refine gg_al 20 0 rfl rfl l0 ?_
    refine gg_gr 23 222 rfl rfl rfl gcl_187 rfl ?_
    refine gg_il 24 1 rfl rfl l1 ?_
    refine gg_q (fun q2 => ?_)
    refine gg_ial 25 rfl rfl gar_222 q2 ?_
    refine gg_ci 26 (-1) rfl rfl ?_
    refine gg_q (fun q3 => ?_)
    refine gg_ieq 33 29 rfl rfl rfl rfl q3 (gRl rfl) ?_ ?_
    · refine gg_ci 34 0 rfl rfl ?_
      exact gt_192_34 x1 0 x2 l0 l1
    · refine gg_ci 30 1 rfl rfl ?_
      refine gg_go 34 rfl rfl rfl ?_
      exact gt_192_34 x1 1 x2 l0 l1
theorem gm_192 (x1 : Int) {σ : gb_S} : gb_M (fx_192 x1 σ) 9 c0 eI 192 [vr 187, vi x1] σ := by
  rw [fx_192]
  refine gg_m (own := 8) (rt := (some .int)) (hnd := fun _ _ => none) (K := gk_192) (δ := 8) rfl rfl ?_
  refine gg_il 1 1 rfl rfl rfl ?_
  refine gg_cI 4 rfl (gm_134 _) (Nat.le_of_ble_eq_true rfl) (gb_ss rfl rfl rfl rfl rfl rfl rfl) rfl (fun _ => rfl) (fun _ => rfl) (fun r1 s2 => ?_)
  refine gg_s 5 rfl rfl ?_
  refine gg_il 6 2 rfl rfl gs1 ?_
  refine gg_q (fun q3 => ?_)
  refine gg_zeq 13 9 rfl rfl rfl rfl q3 ?_ ?_
  · exact gt_192_13 x1 r1 (gl1 rfl rfl rfl) (gl1 rfl rfl rfl) gs1
  · refine gg_al 10 0 rfl rfl (gl1 rfl rfl rfl) ?_
    refine gg_cV 13 rfl (gm_184) (Nat.le_of_ble_eq_true rfl) (gb_vs rfl rfl rfl rfl rfl gcl_187 rfl rfl rfl) rfl (fun _ => rfl) (fun _ => rfl) (fun s5 => ?_)
    exact gt_192_13 x1 r1 (gl1 rfl rfl rfl) (gl1 rfl rfl rfl) gs1
/-- TreeclerkLaw.pass -/
def fx_196 (x1 : Int) (σ : gb_S) : Option gb_P :=
  (gch (fx_79 x1 σ) (fun r1 s2 =>
    gq (gR r1) (
    some (.inl 0, (gb_up s2 224 0 r1)))) (fun E s => if E = 1 then some (.inl 1, s) else if E = 2 then some (.inl 2, s) else some (.inr E, s)))
theorem gm_196 (x1 : Int) {σ : gb_S} : gb_M (fx_196 x1 σ) 2 c0 eI 196 [vr 1, vi x1, vr 224] σ := by
  rw [fx_196]
  refine gg_m (own := 9) (rt := (some .int)) (hnd := fun pc E => if pc = 4 then [(1, 13, 3), (2, 16, 3)].lookup E else none) (K := gk_196) (δ := 1) rfl rfl ?_
  refine gg_al 1 2 rfl rfl rfl ?_
  refine gg_ci 2 0 rfl rfl ?_
  refine gg_al 3 0 rfl rfl rfl ?_
  refine gg_il 4 1 rfl rfl rfl ?_
  refine gg_chI 7 rfl (gm_79 _) (Nat.le_of_ble_eq_true rfl) (gb_vs rfl rfl rfl rfl rfl gcl_1 rfl rfl rfl) rfl (fun _ => rfl) (fun r1 s2 => ?_) (fun E s => ?_)
  · refine gg_q (fun q3 => ?_)
    refine gg_i2l 8 rfl rfl q3 ?_
    refine gg_las 9 rfl rfl gar_224 ⟨by decide, by decide⟩ ?_
    refine gg_go 18 rfl rfl rfl ?_
    refine gg_ci 19 0 rfl rfl ?_
    exact gg_ir rfl
  · match E with
    | 0 =>
      exact rfl
    | 1 =>
      show gb_G _ _ _ _ _ _ _ _ _ _ _ _
      refine gg_ci 14 1 rfl rfl ?_
      exact gg_ir rfl
    | 2 =>
      show gb_G _ _ _ _ _ _ _ _ _ _ _ _
      refine gg_ci 17 2 rfl rfl ?_
      exact gg_ir rfl
    | E + 3 => exact rfl
/-- TreeclerkLaw.birth -/
def fx_197 (x1 : Int) (σ : gb_S) : Option gb_P :=
  (gch (fx_81 x1 σ) (fun r1 s2 =>
    gq (gR r1) (
    some (.inl 0, (gb_up s2 224 0 r1)))) (fun E s => if E = 1 then some (.inl 1, s) else if E = 2 then some (.inl 2, s) else some (.inr E, s)))
theorem gm_197 (x1 : Int) {σ : gb_S} : gb_M (fx_197 x1 σ) 4 c0 eI 197 [vr 1, vi x1, vr 224] σ := by
  rw [fx_197]
  refine gg_m (own := 9) (rt := (some .int)) (hnd := fun pc E => if pc = 4 then [(1, 13, 3), (2, 16, 3)].lookup E else none) (K := gk_197) (δ := 3) rfl rfl ?_
  refine gg_al 1 2 rfl rfl rfl ?_
  refine gg_ci 2 0 rfl rfl ?_
  refine gg_al 3 0 rfl rfl rfl ?_
  refine gg_il 4 1 rfl rfl rfl ?_
  refine gg_chI 7 rfl (gm_81 _) (Nat.le_of_ble_eq_true rfl) (gb_vs rfl rfl rfl rfl rfl gcl_1 rfl rfl rfl) rfl (fun _ => rfl) (fun r1 s2 => ?_) (fun E s => ?_)
  · refine gg_q (fun q3 => ?_)
    refine gg_i2l 8 rfl rfl q3 ?_
    refine gg_las 9 rfl rfl gar_224 ⟨by decide, by decide⟩ ?_
    refine gg_go 18 rfl rfl rfl ?_
    refine gg_ci 19 0 rfl rfl ?_
    exact gg_ir rfl
  · match E with
    | 0 =>
      exact rfl
    | 1 =>
      show gb_G _ _ _ _ _ _ _ _ _ _ _ _
      refine gg_ci 14 1 rfl rfl ?_
      exact gg_ir rfl
    | 2 =>
      show gb_G _ _ _ _ _ _ _ _ _ _ _ _
      refine gg_ci 17 2 rfl rfl ?_
      exact gg_ir rfl
    | E + 3 => exact rfl
/-- TreeclerkLaw.death -/
def fx_198 (x1 : Int) (σ : gb_S) : Option gb_P :=
  (gch (fx_82 x1 σ) (fun r1 s2 =>
    gq (gR r1) (
    some (.inl 0, (gb_up s2 224 0 r1)))) (fun E s => if E = 0 then some (.inl 1, s) else if E = 2 then some (.inl 2, s) else some (.inr E, s)))
theorem gm_198 (x1 : Int) {σ : gb_S} : gb_M (fx_198 x1 σ) 5 c0 eI 198 [vr 1, vi x1, vr 224] σ := by
  rw [fx_198]
  refine gg_m (own := 9) (rt := (some .int)) (hnd := fun pc E => if pc = 4 then [(0, 13, 3), (2, 16, 3)].lookup E else none) (K := gk_198) (δ := 4) rfl rfl ?_
  refine gg_al 1 2 rfl rfl rfl ?_
  refine gg_ci 2 0 rfl rfl ?_
  refine gg_al 3 0 rfl rfl rfl ?_
  refine gg_il 4 1 rfl rfl rfl ?_
  refine gg_chI 7 rfl (gm_82 _) (Nat.le_of_ble_eq_true rfl) (gb_vs rfl rfl rfl rfl rfl gcl_1 rfl rfl rfl) rfl (fun _ => rfl) (fun r1 s2 => ?_) (fun E s => ?_)
  · refine gg_q (fun q3 => ?_)
    refine gg_i2l 8 rfl rfl q3 ?_
    refine gg_las 9 rfl rfl gar_224 ⟨by decide, by decide⟩ ?_
    refine gg_go 18 rfl rfl rfl ?_
    refine gg_ci 19 0 rfl rfl ?_
    exact gg_ir rfl
  · match E with
    | 0 =>
      show gb_G _ _ _ _ _ _ _ _ _ _ _ _
      refine gg_ci 14 1 rfl rfl ?_
      exact gg_ir rfl
    | 1 =>
      exact rfl
    | 2 =>
      show gb_G _ _ _ _ _ _ _ _ _ _ _ _
      refine gg_ci 17 2 rfl rfl ?_
      exact gg_ir rfl
    | E + 3 => exact rfl
/-- TreeclerkLaw.isAlive -/
def fx_199 (x1 : Int) (σ : gb_S) : Option gb_P :=
  (gch (fx_84 x1 σ) (fun r1 s2 =>
    gq (gR r1) (
    (if r1 = 0 then
      some (.inl 0, (gb_up s2 224 0 0))
    else
      some (.inl 0, (gb_up s2 224 0 1))))) (fun E s => if E = 0 then some (.inl 1, s) else some (.inr E, s)))
theorem gm_199 (x1 : Int) {σ : gb_S} : gb_M (fx_199 x1 σ) 4 c0 eI 199 [vr 1, vi x1, vr 224] σ := by
  rw [fx_199]
  refine gg_m (own := 9) (rt := (some .int)) (hnd := fun pc E => if pc = 4 then [(0, 20, 3)].lookup E else none) (K := gk_199) (δ := 3) rfl rfl ?_
  refine gg_al 1 2 rfl rfl rfl ?_
  refine gg_ci 2 0 rfl rfl ?_
  refine gg_al 3 0 rfl rfl rfl ?_
  refine gg_il 4 1 rfl rfl rfl ?_
  refine gg_chI 7 rfl (gm_84 _) (Nat.le_of_ble_eq_true rfl) (gb_vs rfl rfl rfl rfl rfl gcl_1 rfl rfl rfl) rfl (fun _ => rfl) (fun r1 s2 => ?_) (fun E s => ?_)
  · refine gg_q (fun q3 => ?_)
    refine gg_zeq 14 10 rfl rfl rfl rfl q3 ?_ ?_
    · refine gg_cl 15 0 rfl rfl ?_
      refine gg_las 16 rfl rfl gar_224 ⟨by decide, by decide⟩ ?_
      refine gg_go 22 rfl rfl rfl ?_
      refine gg_ci 23 0 rfl rfl ?_
      exact gg_ir rfl
    · refine gg_cl 11 1 rfl rfl ?_
      refine gg_go 15 rfl rfl rfl ?_
      refine gg_las 16 rfl rfl gar_224 ⟨by decide, by decide⟩ ?_
      refine gg_go 22 rfl rfl rfl ?_
      refine gg_ci 23 0 rfl rfl ?_
      exact gg_ir rfl
  · match E with
    | 0 =>
      show gb_G _ _ _ _ _ _ _ _ _ _ _ _
      refine gg_ci 21 1 rfl rfl ?_
      exact gg_ir rfl
    | E + 1 => exact rfl
/-- TreeclerkLaw.proof -/
def fx_200 (x1 : Int) (x2 : Int) (x3 : Int) (σ : gb_S) : Option gb_P :=
  (gch (fx_85 x1 x2 x3 σ) (fun r1 s2 =>
    gq (gR r1) (
    some (.inl 0, (gb_up s2 224 0 r1)))) (fun E s => if E = 0 then some (.inl 1, s) else if E = 1 then some (.inl 2, s) else if E = 2 then some (.inl 3, s) else some (.inr E, s)))
theorem gm_200 (x1 : Int) (x2 : Int) (x3 : Int) {σ : gb_S} : gb_M (fx_200 x1 x2 x3 σ) 9 c0 eI 200 [vr 1, vi x1, vi x2, vi x3, vr 224] σ := by
  rw [fx_200]
  refine gg_m (own := 9) (rt := (some .int)) (hnd := fun pc E => if pc = 7 then [(0, 17, 5), (1, 21, 5), (2, 25, 5)].lookup E else none) (K := gk_200) (δ := 8) rfl rfl ?_
  refine gg_al 2 4 rfl rfl rfl ?_
  refine gg_ci 3 0 rfl rfl ?_
  refine gg_al 4 0 rfl rfl rfl ?_
  refine gg_il 5 1 rfl rfl rfl ?_
  refine gg_il 6 2 rfl rfl rfl ?_
  refine gg_il 7 3 rfl rfl rfl ?_
  refine gg_chI 10 rfl (gm_85 _ _ _) (Nat.le_of_ble_eq_true rfl) (gb_vs rfl rfl rfl rfl rfl gcl_1 rfl rfl rfl) rfl (fun _ => rfl) (fun r1 s2 => ?_) (fun E s => ?_)
  · refine gg_q (fun q3 => ?_)
    refine gg_i2l 11 rfl rfl q3 ?_
    refine gg_las 12 rfl rfl gar_224 ⟨by decide, by decide⟩ ?_
    refine gg_go 27 rfl rfl rfl ?_
    refine gg_ci 28 0 rfl rfl ?_
    exact gg_ir rfl
  · match E with
    | 0 =>
      show gb_G _ _ _ _ _ _ _ _ _ _ _ _
      refine gg_ci 18 1 rfl rfl ?_
      exact gg_ir rfl
    | 1 =>
      show gb_G _ _ _ _ _ _ _ _ _ _ _ _
      refine gg_ci 22 2 rfl rfl ?_
      exact gg_ir rfl
    | 2 =>
      show gb_G _ _ _ _ _ _ _ _ _ _ _ _
      refine gg_ci 26 3 rfl rfl ?_
      exact gg_ir rfl
    | E + 3 => exact rfl
/-- TreeclerkLaw.doubt -/
def fx_201 (x1 : Int) (x2 : Int) (σ : gb_S) : Option gb_P :=
  (gch (fx_86 x1 x2 σ) (fun r1 s2 =>
    gq (gR r1) (
    some (.inl 0, (gb_up s2 224 0 r1)))) (fun E s => if E = 0 then some (.inl 1, s) else if E = 1 then some (.inl 2, s) else if E = 2 then some (.inl 3, s) else some (.inr E, s)))
theorem gm_201 (x1 : Int) (x2 : Int) {σ : gb_S} : gb_M (fx_201 x1 x2 σ) 9 c0 eI 201 [vr 1, vi x1, vi x2, vr 224] σ := by
  rw [fx_201]
  refine gg_m (own := 9) (rt := (some .int)) (hnd := fun pc E => if pc = 5 then [(0, 15, 4), (1, 19, 4), (2, 23, 4)].lookup E else none) (K := gk_201) (δ := 8) rfl rfl ?_
  refine gg_al 1 3 rfl rfl rfl ?_
  refine gg_ci 2 0 rfl rfl ?_
  refine gg_al 3 0 rfl rfl rfl ?_
  refine gg_il 4 1 rfl rfl rfl ?_
  refine gg_il 5 2 rfl rfl rfl ?_
  refine gg_chI 8 rfl (gm_86 _ _) (Nat.le_of_ble_eq_true rfl) (gb_vs rfl rfl rfl rfl rfl gcl_1 rfl rfl rfl) rfl (fun _ => rfl) (fun r1 s2 => ?_) (fun E s => ?_)
  · refine gg_q (fun q3 => ?_)
    refine gg_i2l 9 rfl rfl q3 ?_
    refine gg_las 10 rfl rfl gar_224 ⟨by decide, by decide⟩ ?_
    refine gg_go 25 rfl rfl rfl ?_
    refine gg_ci 26 0 rfl rfl ?_
    exact gg_ir rfl
  · match E with
    | 0 =>
      show gb_G _ _ _ _ _ _ _ _ _ _ _ _
      refine gg_ci 16 1 rfl rfl ?_
      exact gg_ir rfl
    | 1 =>
      show gb_G _ _ _ _ _ _ _ _ _ _ _ _
      refine gg_ci 20 2 rfl rfl ?_
      exact gg_ir rfl
    | 2 =>
      show gb_G _ _ _ _ _ _ _ _ _ _ _ _
      refine gg_ci 24 3 rfl rfl ?_
      exact gg_ir rfl
    | E + 3 => exact rfl
/-- TreeclerkLaw.judge -/
def fx_202 (x1 : Int) (x2 : Int) (σ : gb_S) : Option gb_P :=
  (gch (fx_87 x1 x2 σ) (fun r1 s2 =>
    gq (gR r1) (
    some (.inl 0, (gb_up s2 224 0 r1)))) (fun E s => if E = 0 then some (.inl 1, s) else if E = 2 then some (.inl 2, s) else some (.inr E, s)))
theorem gm_202 (x1 : Int) (x2 : Int) {σ : gb_S} : gb_M (fx_202 x1 x2 σ) 9 c0 eI 202 [vr 1, vi x1, vi x2, vr 224] σ := by
  rw [fx_202]
  refine gg_m (own := 9) (rt := (some .int)) (hnd := fun pc E => if pc = 5 then [(0, 15, 4), (2, 19, 4)].lookup E else none) (K := gk_202) (δ := 8) rfl rfl ?_
  refine gg_al 1 3 rfl rfl rfl ?_
  refine gg_ci 2 0 rfl rfl ?_
  refine gg_al 3 0 rfl rfl rfl ?_
  refine gg_il 4 1 rfl rfl rfl ?_
  refine gg_il 5 2 rfl rfl rfl ?_
  refine gg_chI 8 rfl (gm_87 _ _) (Nat.le_of_ble_eq_true rfl) (gb_vs rfl rfl rfl rfl rfl gcl_1 rfl rfl rfl) rfl (fun _ => rfl) (fun r1 s2 => ?_) (fun E s => ?_)
  · refine gg_q (fun q3 => ?_)
    refine gg_i2l 9 rfl rfl q3 ?_
    refine gg_las 10 rfl rfl gar_224 ⟨by decide, by decide⟩ ?_
    refine gg_go 21 rfl rfl rfl ?_
    refine gg_ci 22 0 rfl rfl ?_
    exact gg_ir rfl
  · match E with
    | 0 =>
      show gb_G _ _ _ _ _ _ _ _ _ _ _ _
      refine gg_ci 16 1 rfl rfl ?_
      exact gg_ir rfl
    | 1 =>
      exact rfl
    | 2 =>
      show gb_G _ _ _ _ _ _ _ _ _ _ _ _
      refine gg_ci 20 2 rfl rfl ?_
      exact gg_ir rfl
    | E + 3 => exact rfl
/-- TreeclerkLaw.strength -/
def fx_203 (x1 : Int) (σ : gb_S) : Option gb_P :=
  (gch (fx_88 x1 σ) (fun r1 s2 =>
    gq (gR r1) (
    some (.inl 0, (gb_up s2 224 0 r1)))) (fun E s => if E = 0 then some (.inl 1, s) else some (.inr E, s)))
theorem gm_203 (x1 : Int) {σ : gb_S} : gb_M (fx_203 x1 σ) 4 c0 eI 203 [vr 1, vi x1, vr 224] σ := by
  rw [fx_203]
  refine gg_m (own := 9) (rt := (some .int)) (hnd := fun pc E => if pc = 4 then [(0, 13, 3)].lookup E else none) (K := gk_203) (δ := 3) rfl rfl ?_
  refine gg_al 1 2 rfl rfl rfl ?_
  refine gg_ci 2 0 rfl rfl ?_
  refine gg_al 3 0 rfl rfl rfl ?_
  refine gg_il 4 1 rfl rfl rfl ?_
  refine gg_chI 7 rfl (gm_88 _) (Nat.le_of_ble_eq_true rfl) (gb_vs rfl rfl rfl rfl rfl gcl_1 rfl rfl rfl) rfl (fun _ => rfl) (fun r1 s2 => ?_) (fun E s => ?_)
  · refine gg_q (fun q3 => ?_)
    refine gg_i2l 8 rfl rfl q3 ?_
    refine gg_las 9 rfl rfl gar_224 ⟨by decide, by decide⟩ ?_
    refine gg_go 15 rfl rfl rfl ?_
    refine gg_ci 16 0 rfl rfl ?_
    exact gg_ir rfl
  · match E with
    | 0 =>
      show gb_G _ _ _ _ _ _ _ _ _ _ _ _
      refine gg_ci 14 1 rfl rfl ?_
      exact gg_ir rfl
    | E + 1 => exact rfl
/-- TreeclerkLaw.parentOf -/
def fx_204 (x1 : Int) (x2 : Int) (σ : gb_S) : Option gb_P :=
  (gch (fx_90 x1 x2 σ) (fun r1 s2 =>
    gq (gR r1) (
    some (.inl 0, (gb_up s2 224 0 r1)))) (fun E s => if E = 0 then some (.inl 1, s) else if E = 1 then some (.inl 2, s) else some (.inr E, s)))
theorem gm_204 (x1 : Int) (x2 : Int) {σ : gb_S} : gb_M (fx_204 x1 x2 σ) 3 c0 eI 204 [vr 1, vi x1, vi x2, vr 224] σ := by
  rw [fx_204]
  refine gg_m (own := 9) (rt := (some .int)) (hnd := fun pc E => if pc = 5 then [(0, 15, 4), (1, 19, 4)].lookup E else none) (K := gk_204) (δ := 2) rfl rfl ?_
  refine gg_al 1 3 rfl rfl rfl ?_
  refine gg_ci 2 0 rfl rfl ?_
  refine gg_al 3 0 rfl rfl rfl ?_
  refine gg_il 4 1 rfl rfl rfl ?_
  refine gg_il 5 2 rfl rfl rfl ?_
  refine gg_chI 8 rfl (gm_90 _ _) (Nat.le_of_ble_eq_true rfl) (gb_vs rfl rfl rfl rfl rfl gcl_1 rfl rfl rfl) rfl (fun _ => rfl) (fun r1 s2 => ?_) (fun E s => ?_)
  · refine gg_q (fun q3 => ?_)
    refine gg_i2l 9 rfl rfl q3 ?_
    refine gg_las 10 rfl rfl gar_224 ⟨by decide, by decide⟩ ?_
    refine gg_go 21 rfl rfl rfl ?_
    refine gg_ci 22 0 rfl rfl ?_
    exact gg_ir rfl
  · match E with
    | 0 =>
      show gb_G _ _ _ _ _ _ _ _ _ _ _ _
      refine gg_ci 16 1 rfl rfl ?_
      exact gg_ir rfl
    | 1 =>
      show gb_G _ _ _ _ _ _ _ _ _ _ _ _
      refine gg_ci 20 2 rfl rfl ?_
      exact gg_ir rfl
    | E + 2 => exact rfl
/-- TreeclerkLaw.childrenOf -/
def fx_205 (x1 : Int) (σ : gb_S) : Option gb_P :=
  (gch (fx_91 x1 σ) (fun r1 s2 =>
    gq (gR r1) (
    some (.inl 0, (gb_up s2 224 0 r1)))) (fun E s => if E = 0 then some (.inl 1, s) else some (.inr E, s)))
theorem gm_205 (x1 : Int) {σ : gb_S} : gb_M (fx_205 x1 σ) 3 c0 eI 205 [vr 1, vi x1, vr 224] σ := by
  rw [fx_205]
  refine gg_m (own := 9) (rt := (some .int)) (hnd := fun pc E => if pc = 4 then [(0, 13, 3)].lookup E else none) (K := gk_205) (δ := 2) rfl rfl ?_
  refine gg_al 1 2 rfl rfl rfl ?_
  refine gg_ci 2 0 rfl rfl ?_
  refine gg_al 3 0 rfl rfl rfl ?_
  refine gg_il 4 1 rfl rfl rfl ?_
  refine gg_chI 7 rfl (gm_91 _) (Nat.le_of_ble_eq_true rfl) (gb_vs rfl rfl rfl rfl rfl gcl_1 rfl rfl rfl) rfl (fun _ => rfl) (fun r1 s2 => ?_) (fun E s => ?_)
  · refine gg_q (fun q3 => ?_)
    refine gg_i2l 8 rfl rfl q3 ?_
    refine gg_las 9 rfl rfl gar_224 ⟨by decide, by decide⟩ ?_
    refine gg_go 15 rfl rfl rfl ?_
    refine gg_ci 16 0 rfl rfl ?_
    exact gg_ir rfl
  · match E with
    | 0 =>
      show gb_G _ _ _ _ _ _ _ _ _ _ _ _
      refine gg_ci 14 1 rfl rfl ?_
      exact gg_ir rfl
    | E + 1 => exact rfl
/-- TreeclerkLaw.will -/
def fx_206 (x1 : Int) (x2 : Int) (x3 : Int) (σ : gb_S) : Option gb_P :=
  (gch (fx_92 x1 x2 x3 σ) (fun r1 s2 =>
    gq (gR r1) (
    some (.inl 0, (gb_up s2 224 0 r1)))) (fun E s => if E = 0 then some (.inl 1, s) else if E = 1 then some (.inl 2, s) else if E = 2 then some (.inl 3, s) else some (.inr E, s)))
theorem gm_206 (x1 : Int) (x2 : Int) (x3 : Int) {σ : gb_S} : gb_M (fx_206 x1 x2 x3 σ) 5 c0 eI 206 [vr 1, vi x1, vi x2, vi x3, vr 224] σ := by
  rw [fx_206]
  refine gg_m (own := 9) (rt := (some .int)) (hnd := fun pc E => if pc = 7 then [(0, 17, 5), (1, 21, 5), (2, 25, 5)].lookup E else none) (K := gk_206) (δ := 4) rfl rfl ?_
  refine gg_al 2 4 rfl rfl rfl ?_
  refine gg_ci 3 0 rfl rfl ?_
  refine gg_al 4 0 rfl rfl rfl ?_
  refine gg_il 5 1 rfl rfl rfl ?_
  refine gg_il 6 2 rfl rfl rfl ?_
  refine gg_il 7 3 rfl rfl rfl ?_
  refine gg_chI 10 rfl (gm_92 _ _ _) (Nat.le_of_ble_eq_true rfl) (gb_vs rfl rfl rfl rfl rfl gcl_1 rfl rfl rfl) rfl (fun _ => rfl) (fun r1 s2 => ?_) (fun E s => ?_)
  · refine gg_q (fun q3 => ?_)
    refine gg_i2l 11 rfl rfl q3 ?_
    refine gg_las 12 rfl rfl gar_224 ⟨by decide, by decide⟩ ?_
    refine gg_go 27 rfl rfl rfl ?_
    refine gg_ci 28 0 rfl rfl ?_
    exact gg_ir rfl
  · match E with
    | 0 =>
      show gb_G _ _ _ _ _ _ _ _ _ _ _ _
      refine gg_ci 18 1 rfl rfl ?_
      exact gg_ir rfl
    | 1 =>
      show gb_G _ _ _ _ _ _ _ _ _ _ _ _
      refine gg_ci 22 2 rfl rfl ?_
      exact gg_ir rfl
    | 2 =>
      show gb_G _ _ _ _ _ _ _ _ _ _ _ _
      refine gg_ci 26 3 rfl rfl ?_
      exact gg_ir rfl
    | E + 3 => exact rfl
/-- TreeclerkLaw.claim -/
def fx_207 (x1 : Int) (x2 : Int) (σ : gb_S) : Option gb_P :=
  (gch (fx_93 x1 x2 σ) (fun r1 s2 =>
    gq (gR r1) (
    some (.inl 0, (gb_up s2 224 0 r1)))) (fun E s => if E = 0 then some (.inl 1, s) else if E = 2 then some (.inl 2, s) else some (.inr E, s)))
theorem gm_207 (x1 : Int) (x2 : Int) {σ : gb_S} : gb_M (fx_207 x1 x2 σ) 5 c0 eI 207 [vr 1, vi x1, vi x2, vr 224] σ := by
  rw [fx_207]
  refine gg_m (own := 9) (rt := (some .int)) (hnd := fun pc E => if pc = 5 then [(0, 15, 4), (2, 19, 4)].lookup E else none) (K := gk_207) (δ := 4) rfl rfl ?_
  refine gg_al 1 3 rfl rfl rfl ?_
  refine gg_ci 2 0 rfl rfl ?_
  refine gg_al 3 0 rfl rfl rfl ?_
  refine gg_il 4 1 rfl rfl rfl ?_
  refine gg_il 5 2 rfl rfl rfl ?_
  refine gg_chI 8 rfl (gm_93 _ _) (Nat.le_of_ble_eq_true rfl) (gb_vs rfl rfl rfl rfl rfl gcl_1 rfl rfl rfl) rfl (fun _ => rfl) (fun r1 s2 => ?_) (fun E s => ?_)
  · refine gg_q (fun q3 => ?_)
    refine gg_i2l 9 rfl rfl q3 ?_
    refine gg_las 10 rfl rfl gar_224 ⟨by decide, by decide⟩ ?_
    refine gg_go 21 rfl rfl rfl ?_
    refine gg_ci 22 0 rfl rfl ?_
    exact gg_ir rfl
  · match E with
    | 0 =>
      show gb_G _ _ _ _ _ _ _ _ _ _ _ _
      refine gg_ci 16 1 rfl rfl ?_
      exact gg_ir rfl
    | 1 =>
      exact rfl
    | 2 =>
      show gb_G _ _ _ _ _ _ _ _ _ _ _ _
      refine gg_ci 20 2 rfl rfl ?_
      exact gg_ir rfl
    | E + 3 => exact rfl
/-- TreeclerkLaw.claims -/
def fx_208 (x1 : Int) (σ : gb_S) : Option gb_P :=
  (gch (fx_94 x1 σ) (fun r1 s2 =>
    gq (gR r1) (
    some (.inl 0, (gb_up s2 224 0 r1)))) (fun E s => if E = 0 then some (.inl 1, s) else some (.inr E, s)))
theorem gm_208 (x1 : Int) {σ : gb_S} : gb_M (fx_208 x1 σ) 3 c0 eI 208 [vr 1, vi x1, vr 224] σ := by
  rw [fx_208]
  refine gg_m (own := 9) (rt := (some .int)) (hnd := fun pc E => if pc = 4 then [(0, 13, 3)].lookup E else none) (K := gk_208) (δ := 2) rfl rfl ?_
  refine gg_al 1 2 rfl rfl rfl ?_
  refine gg_ci 2 0 rfl rfl ?_
  refine gg_al 3 0 rfl rfl rfl ?_
  refine gg_il 4 1 rfl rfl rfl ?_
  refine gg_chI 7 rfl (gm_94 _) (Nat.le_of_ble_eq_true rfl) (gb_vs rfl rfl rfl rfl rfl gcl_1 rfl rfl rfl) rfl (fun _ => rfl) (fun r1 s2 => ?_) (fun E s => ?_)
  · refine gg_q (fun q3 => ?_)
    refine gg_i2l 8 rfl rfl q3 ?_
    refine gg_las 9 rfl rfl gar_224 ⟨by decide, by decide⟩ ?_
    refine gg_go 15 rfl rfl rfl ?_
    refine gg_ci 16 0 rfl rfl ?_
    exact gg_ir rfl
  · match E with
    | 0 =>
      show gb_G _ _ _ _ _ _ _ _ _ _ _ _
      refine gg_ci 14 1 rfl rfl ?_
      exact gg_ir rfl
    | E + 1 => exact rfl
/-- TreeclerkLaw.close -/
def fx_209 (x1 : Int) (σ : gb_S) : Option gb_P :=
  (gch (fx_95 x1 σ) (fun r1 s2 =>
    gq (gR r1) (
    some (.inl 0, (gb_up s2 224 0 r1)))) (fun E s => if E = 0 then some (.inl 1, s) else if E = 2 then some (.inl 2, s) else some (.inr E, s)))
theorem gm_209 (x1 : Int) {σ : gb_S} : gb_M (fx_209 x1 σ) 8 c0 eI 209 [vr 1, vi x1, vr 224] σ := by
  rw [fx_209]
  refine gg_m (own := 9) (rt := (some .int)) (hnd := fun pc E => if pc = 4 then [(0, 13, 3), (2, 16, 3)].lookup E else none) (K := gk_209) (δ := 7) rfl rfl ?_
  refine gg_al 1 2 rfl rfl rfl ?_
  refine gg_ci 2 0 rfl rfl ?_
  refine gg_al 3 0 rfl rfl rfl ?_
  refine gg_il 4 1 rfl rfl rfl ?_
  refine gg_chI 7 rfl (gm_95 _) (Nat.le_of_ble_eq_true rfl) (gb_vs rfl rfl rfl rfl rfl gcl_1 rfl rfl rfl) rfl (fun _ => rfl) (fun r1 s2 => ?_) (fun E s => ?_)
  · refine gg_q (fun q3 => ?_)
    refine gg_i2l 8 rfl rfl q3 ?_
    refine gg_las 9 rfl rfl gar_224 ⟨by decide, by decide⟩ ?_
    refine gg_go 18 rfl rfl rfl ?_
    refine gg_ci 19 0 rfl rfl ?_
    exact gg_ir rfl
  · match E with
    | 0 =>
      show gb_G _ _ _ _ _ _ _ _ _ _ _ _
      refine gg_ci 14 1 rfl rfl ?_
      exact gg_ir rfl
    | 1 =>
      exact rfl
    | 2 =>
      show gb_G _ _ _ _ _ _ _ _ _ _ _ _
      refine gg_ci 17 2 rfl rfl ?_
      exact gg_ir rfl
    | E + 3 => exact rfl
end GF10
