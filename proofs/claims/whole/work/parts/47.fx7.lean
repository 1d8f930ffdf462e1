section GF7
variable {c0 : gh_C}
def fx_166_124 (k : Nat) (x1 : Int) (x2 : Int) (x3 : Int) (σ : gb_S) : Option gb_P := match k with
  | 0 => none
  | k + 1 =>
    gq (gR x3) (
    gq (gR (σ 187 3)) (
    (if x3 < (σ 187 3) then
      gq (0 ≤ x3 ∧ x3 < 14) (
      gq (0 ≤ (σ 210 x3.toNat) ∧ (σ 210 x3.toNat) < 14) (
      gq (gRL (σ 218 (σ 210 x3.toNat).toNat)) (
      (if 0 < (σ 218 (σ 210 x3.toNat).toNat) then
        gc (fx_158 (σ 210 x3.toNat) x1 σ) (fun r7 s8 =>
        gq (gR r7) (
        (if r7 = 0 then
          gc (fx_167 (σ 210 x3.toNat) s8) (fun _ s11 =>
          fx_166_124 k x1 x2 (x3 + 1) s11)
        else
          fx_166_124 k x1 x2 (x3 + 1) s8)))
      else
        fx_166_124 k x1 x2 (x3 + 1) σ))))
    else
      gq (gR x2) (
      (if 0 < x2 then
        some (.inl 1, σ)
      else
        some (.inl 0, σ))))))
def fx_166_30 (k7 : Int → Int → gb_S → Option gb_P) (x1 : Int) (x2 : Int) (y0 : Int) (y1 : Int) (σ : gb_S) : Option gb_P :=
  gq (0 ≤ y1 ∧ y1 < 14) (
  gq (y0 = 0 ∨ y0 = 1) (
  gq (0 ≤ x2 ∧ x2 < 14) (
  k7 x1 (x2 + 1) (gb_up (gb_up (gb_up σ 215 y1.toNat y0) 218 x2.toNat 0) 219 x2.toNat 1))))
def fx_166_82 (k : Nat) (x1 : Int) (x2 : Int) (x3 : Int) (σ : gb_S) : Option gb_P := match k with
  | 0 => none
  | k + 1 =>
    gq (gR x3) (
    gq (gR (σ 187 3)) (
    (if x3 < (σ 187 3) then
      gq (0 ≤ x3 ∧ x3 < 14) (
      gq (gR (σ 215 x3.toNat)) (
      (if (σ 215 x3.toNat) = 0 then
        fx_166_82 k x1 x2 (x3 + 1) σ
      else
        gq (gR (σ 214 x3.toNat)) (
        (if (σ 214 x3.toNat) = 0 then
          fx_166_82 k x1 x2 (x3 + 1) σ
        else
          gq (gR x2) (
          gc (fx_164 x3 1 x2 σ) (fun _ s8 =>
          fx_166_82 k x1 x2 (x3 + 1) s8)))))))
    else
      fx_166_124 gFU x1 x2 0 σ)))
def fx_166_53 (k : Nat) (x1 : Int) (x2 : Int) (σ : gb_S) : Option gb_P := match k with
  | 0 => none
  | k + 1 =>
    gq (gR x2) (
    (if x2 < 2 then
      gc (fx_161 σ) (fun r4 s5 =>
      gq (gR r4) (
      (if r4 = 0 then
        gc (fx_162 s5) (fun _ s10 =>
        fx_166_53 k x1 (x2 + 1) s10)
      else
        gc (fx_161 s5) (fun r7 s8 =>
        fx_166_82 gFU x1 r7 0 s8))))
    else
      gc (fx_161 σ) (fun r2 s3 =>
      fx_166_82 gFU x1 r2 0 s3)))
def fx_166_7 (k : Nat) (x1 : Int) (x2 : Int) (σ : gb_S) : Option gb_P := match k with
  | 0 => none
  | k + 1 =>
    gq (gR x2) (
    gq (gR (σ 187 3)) (
    (if x2 < (σ 187 3) then
      gq (gR x1) (
      (if x2 = x1 then
        fx_166_30 (fx_166_7 k) x1 x2 1 x2 σ
      else
        fx_166_30 (fx_166_7 k) x1 x2 0 x2 σ))
    else
      fx_166_53 gFU x1 0 σ)))
/-- TreeclerkModel.sharesByKin -/
def fx_166 (x1 : Int) (σ : gb_S) : Option gb_P :=
  gc (fx_160 x1 σ) (fun _ s2 =>
  fx_166_7 gFU x1 0 s2)
theorem gt_166_124 (k : Nat) : ∀ (x1 : Int) (x2 : Int) (x3 : Int) {lo : gh_L} (l0 : lo.lookup 0 = some (vr 187)) (l1 : lo.lookup 1 = some (vi x1)) (l2 : lo.lookup 2 = some (vi x2)) (l3 : lo.lookup 3 = some (vi x3)) {σ : gb_S}, gb_G (fx_166_124 k x1 x2 x3 σ) 3 8 (some .boolean) (fun _ _ => none) gk_166 c0 eI 124 lo [] σ := by
  induction k with
  | zero => intros; exact gg_n
  | succ k ih =>
    intro x1 x2 x3 lo l0 l1 l2 l3 σ
    rw [fx_166_124]
    refine gg_il 125 3 rfl rfl l3 ?_
    refine gg_al 126 0 rfl rfl l0 ?_
    refine gg_gi 129 rfl rfl rfl gcl_187 rfl ?_
    refine gg_q (fun q1 => ?_)
    refine gg_q (fun q2 => ?_)
    refine gg_ige 174 132 rfl rfl rfl rfl q1 q2 ?_ ?_
    · refine gg_il 175 2 rfl rfl l2 ?_
      refine gg_q (fun q3 => ?_)
      refine gg_zle 182 178 rfl rfl rfl rfl q3 ?_ ?_
      · refine gg_ci 183 0 rfl rfl ?_
        exact gg_zr rfl (Or.inl rfl)
      · refine gg_ci 179 1 rfl rfl ?_
        refine gg_go 183 rfl rfl rfl ?_
        exact gg_zr rfl (Or.inr rfl)
    · refine gg_al 133 0 rfl rfl l0 ?_
      refine gg_gr 136 210 rfl rfl rfl gcl_187 rfl ?_
      refine gg_il 137 3 rfl rfl l3 ?_
      refine gg_q (fun q4 => ?_)
      refine gg_ial 138 rfl rfl gar_210 q4 ?_
      refine gg_s 140 rfl rfl ?_
      refine gg_al 141 0 rfl rfl (gl1 rfl rfl l0) ?_
      refine gg_gr 144 218 rfl rfl rfl gcl_187 rfl ?_
      refine gg_il 146 4 rfl rfl gs1 ?_
      refine gg_q (fun q5 => ?_)
      refine gg_lal 147 rfl rfl gar_218 q5 ?_
      refine gg_cl 148 0 rfl rfl ?_
      refine gg_q (fun q6 => ?_)
      refine gg_Lle 168 152 rfl rfl rfl rfl rfl q6 ⟨by decide, by decide⟩ ?_ ?_
      · refine gg_inc 171 rfl rfl (gl1 rfl rfl l3) ?_
        refine gg_go 124 rfl rfl rfl ?_
        exact ih x1 x2 (x3 + 1) (gl1 rfl rfl (gl1 rfl rfl l0)) (gl1 rfl rfl (gl1 rfl rfl l1)) (gl1 rfl rfl (gl1 rfl rfl l2)) gs1
      · refine gg_al 153 0 rfl rfl (gl1 rfl rfl l0) ?_
        refine gg_il 155 4 rfl rfl gs1 ?_
        refine gg_il 156 1 rfl rfl (gl1 rfl rfl l1) ?_
        refine gg_cI 159 rfl (gm_158 _ _) (Nat.le_of_ble_eq_true rfl) (gb_vs rfl rfl rfl rfl rfl gcl_187 rfl rfl rfl) rfl (fun _ => rfl) (fun _ => rfl) (fun r7 s8 => ?_)
        refine gg_q (fun q9 => ?_)
        refine gg_zne 168 162 rfl rfl rfl rfl q9 ?_ ?_
        · refine gg_inc 171 rfl rfl (gl1 rfl rfl l3) ?_
          refine gg_go 124 rfl rfl rfl ?_
          exact ih x1 x2 (x3 + 1) (gl1 rfl rfl (gl1 rfl rfl l0)) (gl1 rfl rfl (gl1 rfl rfl l1)) (gl1 rfl rfl (gl1 rfl rfl l2)) gs1
        · refine gg_al 163 0 rfl rfl (gl1 rfl rfl l0) ?_
          refine gg_il 165 4 rfl rfl gs1 ?_
          refine gg_cV 168 rfl (gm_167 _) (Nat.le_of_ble_eq_true rfl) (gb_vs rfl rfl rfl rfl rfl gcl_187 rfl rfl rfl) rfl (fun _ => rfl) (fun _ => rfl) (fun s11 => ?_)
          refine gg_inc 171 rfl rfl (gl1 rfl rfl l3) ?_
          refine gg_go 124 rfl rfl rfl ?_
          exact ih x1 x2 (x3 + 1) (gl1 rfl rfl (gl1 rfl rfl l0)) (gl1 rfl rfl (gl1 rfl rfl l1)) (gl1 rfl rfl (gl1 rfl rfl l2)) gs1
theorem gt_166_30 {k7 : Int → Int → gb_S → Option gb_P} (hk7 : ∀ (x1 : Int) (x2 : Int) {lo : gh_L} (l0 : lo.lookup 0 = some (vr 187)) (l1 : lo.lookup 1 = some (vi x1)) (l2 : lo.lookup 2 = some (vi x2)) {σ : gb_S}, gb_G (k7 x1 x2 σ) 3 8 (some .boolean) (fun _ _ => none) gk_166 c0 eI 7 lo [] σ) (x1 : Int) (x2 : Int) (y0 : Int) (y1 : Int) {lo : gh_L} (l0 : lo.lookup 0 = some (vr 187)) (l1 : lo.lookup 1 = some (vi x1)) (l2 : lo.lookup 2 = some (vi x2)) {σ : gb_S} : gb_G (fx_166_30 k7 x1 x2 y0 y1 σ) 3 8 (some .boolean) (fun _ _ => none) gk_166 c0 eI 30 lo [vi y0, vi y1, vr 215] σ := by
  rw [fx_166_30]
  refine gg_q (fun q1 => ?_)
  refine gg_q (fun q2 => ?_)
  refine gg_bas 31 rfl rfl gar_215 q1 q2 ?_
  refine gg_al 32 0 rfl rfl l0 ?_
  refine gg_gr 35 218 rfl rfl rfl gcl_187 rfl ?_
  refine gg_il 36 2 rfl rfl l2 ?_
  refine gg_cl 37 0 rfl rfl ?_
  refine gg_q (fun q3 => ?_)
  refine gg_las 38 rfl rfl gar_218 q3 ?_
  refine gg_al 39 0 rfl rfl l0 ?_
  refine gg_gr 42 219 rfl rfl rfl gcl_187 rfl ?_
  refine gg_il 43 2 rfl rfl l2 ?_
  refine gg_cl 44 1 rfl rfl ?_
  refine gg_las 45 rfl rfl gar_219 q3 ?_
  refine gg_inc 48 rfl rfl l2 ?_
  refine gg_go 7 rfl rfl rfl ?_
  exact hk7 x1 (x2 + 1) (gl1 rfl rfl l0) (gl1 rfl rfl l1) gs1
theorem gt_166_82 (k : Nat) : ∀ (x1 : Int) (x2 : Int) (x3 : Int) {lo : gh_L} (l0 : lo.lookup 0 = some (vr 187)) (l1 : lo.lookup 1 = some (vi x1)) (l2 : lo.lookup 2 = some (vi x2)) (l3 : lo.lookup 3 = some (vi x3)) {σ : gb_S}, gb_G (fx_166_82 k x1 x2 x3 σ) 3 8 (some .boolean) (fun _ _ => none) gk_166 c0 eI 82 lo [] σ := by
  induction k with
  | zero => intros; exact gg_n
  | succ k ih =>
    intro x1 x2 x3 lo l0 l1 l2 l3 σ
    rw [fx_166_82]
    refine gg_il 83 3 rfl rfl l3 ?_
    refine gg_al 84 0 rfl rfl l0 ?_
    refine gg_gi 87 rfl rfl rfl gcl_187 rfl ?_
    refine gg_q (fun q1 => ?_)
    refine gg_q (fun q2 => ?_)
    refine gg_ige 122 90 rfl rfl rfl rfl q1 q2 ?_ ?_
    · refine gg_ci 123 0 rfl rfl ?_
      refine gg_s 124 rfl rfl ?_
      exact gt_166_124 gFU x1 x2 0 (gl1 rfl rfl l0) (gl1 rfl rfl l1) (gl1 rfl rfl l2) gs1
    · refine gg_al 91 0 rfl rfl l0 ?_
      refine gg_gr 94 215 rfl rfl rfl gcl_187 rfl ?_
      refine gg_il 95 3 rfl rfl l3 ?_
      refine gg_q (fun q3 => ?_)
      refine gg_bal 96 rfl rfl gar_215 q3 ?_
      refine gg_q (fun q4 => ?_)
      refine gg_zeq 116 99 rfl rfl rfl rfl q4 ?_ ?_
      · refine gg_inc 119 rfl rfl l3 ?_
        refine gg_go 82 rfl rfl rfl ?_
        exact ih x1 x2 (x3 + 1) (gl1 rfl rfl l0) (gl1 rfl rfl l1) (gl1 rfl rfl l2) gs1
      · refine gg_al 100 0 rfl rfl l0 ?_
        refine gg_gr 103 214 rfl rfl rfl gcl_187 rfl ?_
        refine gg_il 104 3 rfl rfl l3 ?_
        refine gg_bal 105 rfl rfl gar_214 q3 ?_
        refine gg_q (fun q5 => ?_)
        refine gg_zeq 116 108 rfl rfl rfl rfl q5 ?_ ?_
        · refine gg_inc 119 rfl rfl l3 ?_
          refine gg_go 82 rfl rfl rfl ?_
          exact ih x1 x2 (x3 + 1) (gl1 rfl rfl l0) (gl1 rfl rfl l1) (gl1 rfl rfl l2) gs1
        · refine gg_al 109 0 rfl rfl l0 ?_
          refine gg_il 110 3 rfl rfl l3 ?_
          refine gg_cl 111 1 rfl rfl ?_
          refine gg_il 112 2 rfl rfl l2 ?_
          refine gg_q (fun q6 => ?_)
          refine gg_i2l 113 rfl rfl q6 ?_
          refine gg_cV 116 rfl (gm_164 _ _ _) (Nat.le_of_ble_eq_true rfl) (gb_vs rfl rfl rfl rfl rfl gcl_187 rfl rfl rfl) rfl (fun _ => rfl) (fun _ => rfl) (fun s8 => ?_)
          refine gg_inc 119 rfl rfl l3 ?_
          refine gg_go 82 rfl rfl rfl ?_
          exact ih x1 x2 (x3 + 1) (gl1 rfl rfl l0) (gl1 rfl rfl l1) (gl1 rfl rfl l2) gs1
theorem gt_166_53 (k : Nat) : ∀ (x1 : Int) (x2 : Int) {lo : gh_L} (l0 : lo.lookup 0 = some (vr 187)) (l1 : lo.lookup 1 = some (vi x1)) (l2 : lo.lookup 2 = some (vi x2)) {σ : gb_S}, gb_G (fx_166_53 k x1 x2 σ) 3 8 (some .boolean) (fun _ _ => none) gk_166 c0 eI 53 lo [] σ := by
  induction k with
  | zero => intros; exact gg_n
  | succ k ih =>
    intro x1 x2 lo l0 l1 l2 σ
    rw [fx_166_53]
    refine gg_il 54 2 rfl rfl l2 ?_
    refine gg_ci 55 2 rfl rfl ?_
    refine gg_q (fun q1 => ?_)
    refine gg_ige 75 58 rfl rfl rfl rfl q1 (gRl rfl) ?_ ?_
    · refine gg_al 76 0 rfl rfl l0 ?_
      refine gg_cI 79 rfl (gm_161) (Nat.le_of_ble_eq_true rfl) (gb_vs rfl rfl rfl rfl rfl gcl_187 rfl rfl rfl) rfl (fun _ => rfl) (fun _ => rfl) (fun r2 s3 => ?_)
      refine gg_s 80 rfl rfl ?_
      refine gg_ci 81 0 rfl rfl ?_
      refine gg_s 82 rfl rfl ?_
      exact gt_166_82 gFU x1 r2 0 (gl1 rfl rfl (gl1 rfl rfl l0)) (gl1 rfl rfl (gl1 rfl rfl l1)) (gl1 rfl rfl gs1) gs1
    · refine gg_al 59 0 rfl rfl l0 ?_
      refine gg_cI 62 rfl (gm_161) (Nat.le_of_ble_eq_true rfl) (gb_vs rfl rfl rfl rfl rfl gcl_187 rfl rfl rfl) rfl (fun _ => rfl) (fun _ => rfl) (fun r4 s5 => ?_)
      refine gg_q (fun q6 => ?_)
      refine gg_zne 75 65 rfl rfl rfl rfl q6 ?_ ?_
      · refine gg_al 76 0 rfl rfl l0 ?_
        refine gg_cI 79 rfl (gm_161) (Nat.le_of_ble_eq_true rfl) (gb_vs rfl rfl rfl rfl rfl gcl_187 rfl rfl rfl) rfl (fun _ => rfl) (fun _ => rfl) (fun r7 s8 => ?_)
        refine gg_s 80 rfl rfl ?_
        refine gg_ci 81 0 rfl rfl ?_
        refine gg_s 82 rfl rfl ?_
        exact gt_166_82 gFU x1 r7 0 (gl1 rfl rfl (gl1 rfl rfl l0)) (gl1 rfl rfl (gl1 rfl rfl l1)) (gl1 rfl rfl gs1) gs1
      · refine gg_al 66 0 rfl rfl l0 ?_
        refine gg_cV 69 rfl (gm_162) (Nat.le_of_ble_eq_true rfl) (gb_vs rfl rfl rfl rfl rfl gcl_187 rfl rfl rfl) rfl (fun _ => rfl) (fun _ => rfl) (fun s10 => ?_)
        refine gg_inc 72 rfl rfl l2 ?_
        refine gg_go 53 rfl rfl rfl ?_
        exact ih x1 (x2 + 1) (gl1 rfl rfl l0) (gl1 rfl rfl l1) gs1
theorem gt_166_7 (k : Nat) : ∀ (x1 : Int) (x2 : Int) {lo : gh_L} (l0 : lo.lookup 0 = some (vr 187)) (l1 : lo.lookup 1 = some (vi x1)) (l2 : lo.lookup 2 = some (vi x2)) {σ : gb_S}, gb_G (fx_166_7 k x1 x2 σ) 3 8 (some .boolean) (fun _ _ => none) gk_166 c0 eI 7 lo [] σ := by
  induction k with
  | zero => intros; exact gg_n
  | succ k ih =>
    intro x1 x2 lo l0 l1 l2 σ
    rw [fx_166_7]
    refine gg_il 8 2 rfl rfl l2 ?_
    refine gg_al 9 0 rfl rfl l0 ?_
    refine gg_gi 12 rfl rfl rfl gcl_187 rfl ?_
    refine gg_q (fun q1 => ?_)
    refine gg_q (fun q2 => ?_)
    refine gg_ige 51 15 rfl rfl rfl rfl q1 q2 ?_ ?_
    · refine gg_ci 52 0 rfl rfl ?_
      refine gg_s 53 rfl rfl ?_
      exact gt_166_53 gFU x1 0 (gl1 rfl rfl l0) (gl1 rfl rfl l1) gs1
    · refine gg_al 16 0 rfl rfl l0 ?_
      refine gg_gr 19 215 rfl rfl rfl gcl_187 rfl ?_
      refine gg_il 20 2 rfl rfl l2 ?_
      refine gg_il 21 2 rfl rfl l2 ?_
      refine gg_il 22 1 rfl rfl l1 ?_
      refine gg_q (fun q3 => ?_)
      refine gg_ine 29 25 rfl rfl rfl rfl q1 q3 ?_ ?_
      · refine gg_ci 30 0 rfl rfl ?_
        exact gt_166_30 ih x1 x2 0 x2 l0 l1 l2
      · refine gg_ci 26 1 rfl rfl ?_
        refine gg_go 30 rfl rfl rfl ?_
        exact gt_166_30 ih x1 x2 1 x2 l0 l1 l2
theorem gm_166 (x1 : Int) {σ : gb_S} : gb_M (fx_166 x1 σ) 4 c0 eI 166 [vr 187, vi x1] σ := by
  rw [fx_166]
  refine gg_m (own := 8) (rt := (some .boolean)) (hnd := fun _ _ => none) (K := gk_166) (δ := 3) rfl rfl ?_
  refine gg_al 1 0 rfl rfl rfl ?_
  refine gg_il 2 1 rfl rfl rfl ?_
  refine gg_cV 5 rfl (gm_160 _) (Nat.le_of_ble_eq_true rfl) (gb_vs rfl rfl rfl rfl rfl gcl_187 rfl rfl rfl) rfl (fun _ => rfl) (fun _ => rfl) (fun s2 => ?_)
  refine gg_ci 6 0 rfl rfl ?_
  refine gg_s 7 rfl rfl ?_
  exact gt_166_7 gFU x1 0 (gl1 rfl rfl rfl) (gl1 rfl rfl rfl) gs1
def fx_168_199 (k78 : Int → Int → Int → Int → Int → gb_S → Option gb_P) (x1 : Int) (x2 : Int) (x3 : Int) (x4 : Int) (x5 : Int) (y0 : Int) (y1 : Int) (y2 : Int) (σ : gb_S) : Option gb_P :=
  gc (fx_164 y2 y1 y0 σ) (fun _ s2 =>
  gq (0 ≤ x5 ∧ x5 < 14) (
  k78 x1 x2 x3 x4 (x5 + 1) (gb_up (gb_up s2 216 x5.toNat (s2 218 x5.toNat)) 217 x5.toNat ((gb_up s2 216 x5.toNat (s2 218 x5.toNat)) 219 x5.toNat))))
def fx_168_167 (k78 : Int → Int → Int → Int → Int → gb_S → Option gb_P) (x1 : Int) (x2 : Int) (x3 : Int) (x4 : Int) (x5 : Int) (y0 : Int) (σ : gb_S) : Option gb_P :=
  gq (gR y0) (
  gq (gR x3) (
  (if x3 = 0 then
    fx_168_199 k78 x1 x2 x3 x4 x5 1 y0 x5 σ
  else
    gq (gR x4) (
    (if x4 = 0 then
      fx_168_199 k78 x1 x2 x3 x4 x5 x3 y0 x5 σ
    else
      fx_168_199 k78 x1 x2 x3 x4 x5 (2 * x3) y0 x5 σ)))))
def fx_168_137 (k78 : Int → Int → Int → Int → Int → gb_S → Option gb_P) (x1 : Int) (x2 : Int) (x3 : Int) (x4 : Int) (x5 : Int) (σ : gb_S) : Option gb_P :=
  gq (gR x3) (
  (if 0 < x3 then
    gc (fx_158 x5 x1 σ) (fun r2 s3 =>
    gq (gR r2) (
    (if r2 = 0 then
      fx_168_167 k78 x1 x2 x3 x4 x5 0 s3
    else
      gq (0 ≤ ((14 * x1) + x5) ∧ ((14 * x1) + x5) < 196) (
      fx_168_167 k78 x1 x2 x3 x4 x5 (s3 197 ((14 * x1) + x5).toNat) s3))))
  else
    fx_168_167 k78 x1 x2 x3 x4 x5 0 σ))
def fx_168_100 (k78 : Int → Int → Int → Int → Int → gb_S → Option gb_P) (x1 : Int) (x2 : Int) (x3 : Int) (x4 : Int) (x5 : Int) (σ : gb_S) : Option gb_P :=
  gq (0 ≤ x5 ∧ x5 < 14) (
  fx_168_137 k78 x1 x2 x3 x4 x5 (gb_up (gb_up σ 218 x5.toNat 0) 219 x5.toNat 1))
def fx_168_96 (k78 : Int → Int → Int → Int → Int → gb_S → Option gb_P) (x1 : Int) (x2 : Int) (x3 : Int) (x4 : Int) (x5 : Int) (σ : gb_S) : Option gb_P :=
  gq (gR x2) (
  (if x2 = 0 then
    fx_168_100 k78 x1 x2 x3 x4 x5 σ
  else
    gq (gR x4) (
    (if x4 = 0 then
      fx_168_137 k78 x1 x2 x3 x4 x5 σ
    else
      gq (0 ≤ x5 ∧ x5 < 14) (
      fx_168_137 k78 x1 x2 x3 x4 x5 (gb_up σ 219 x5.toNat ((σ 219 x5.toNat) * 2)))))))
def fx_168_78 (k : Nat) (x1 : Int) (x2 : Int) (x3 : Int) (x4 : Int) (x5 : Int) (σ : gb_S) : Option gb_P := match k with
  | 0 => none
  | k + 1 =>
    gq (gR x5) (
    gq (gR (σ 187 3)) (
    (if x5 < (σ 187 3) then
      gq (gR x3) (
      (if 0 < x3 then
        gq (gR x4) (
        (if x4 = 0 then
          fx_168_100 (fx_168_78 k) x1 x2 x3 x4 x5 σ
        else
          fx_168_96 (fx_168_78 k) x1 x2 x3 x4 x5 σ))
      else
        fx_168_96 (fx_168_78 k) x1 x2 x3 x4 x5 σ))
    else
      some (.inl 0, σ))))
def fx_168_11 (k : Nat) (x1 : Int) (x2 : Int) (x3 : Int) (x4 : Int) (σ : gb_S) : Option gb_P := match k with
  | 0 => none
  | k + 1 =>
    gq (gR x4) (
    gq (gR (σ 187 3)) (
    (if x4 < (σ 187 3) then
      gc (fx_158 x4 x1 σ) (fun r6 s7 =>
      gq (gR r6) (
      (if r6 = 0 then
        fx_168_11 k x1 x2 (x3 + 0) (x4 + 1) s7
      else
        gq (0 ≤ ((14 * x1) + x4) ∧ ((14 * x1) + x4) < 196) (
        fx_168_11 k x1 x2 (x3 + (s7 197 ((14 * x1) + x4).toNat)) (x4 + 1) s7))))
    else
      gq (gR x3) (
      (if 0 < x3 then
        gq (0 ≤ x1 ∧ x1 < 14) (
        gq (gR (σ 214 x1.toNat)) (
        (if (σ 214 x1.toNat) = 0 then
          fx_168_78 gFU x1 x2 x3 0 0 σ
        else
          fx_168_78 gFU x1 x2 x3 1 0 σ)))
      else
        fx_168_78 gFU x1 x2 x3 0 0 σ)))))
/-- TreeclerkModel.shares -/
def fx_168 (x1 : Int) (σ : gb_S) : Option gb_P :=
  gc (fx_166 x1 σ) (fun r1 s2 =>
  fx_168_11 gFU x1 r1 0 0 s2)
theorem gt_168_199 {k78 : Int → Int → Int → Int → Int → gb_S → Option gb_P} (hk78 : ∀ (x1 : Int) (x2 : Int) (x3 : Int) (x4 : Int) (x5 : Int) {lo : gh_L} (l0 : lo.lookup 0 = some (vr 187)) (l1 : lo.lookup 1 = some (vi x1)) (l2 : lo.lookup 2 = some (vi x2)) (l3 : lo.lookup 3 = some (vi x3)) (l4 : lo.lookup 4 = some (vi x4)) (l5 : lo.lookup 5 = some (vi x5)) {σ : gb_S}, gb_G (k78 x1 x2 x3 x4 x5 σ) 4 8 none (fun _ _ => none) gk_168 c0 eV 78 lo [] σ) (x1 : Int) (x2 : Int) (x3 : Int) (x4 : Int) (x5 : Int) (y0 : Int) (y1 : Int) (y2 : Int) {lo : gh_L} (l0 : lo.lookup 0 = some (vr 187)) (l1 : lo.lookup 1 = some (vi x1)) (l2 : lo.lookup 2 = some (vi x2)) (l3 : lo.lookup 3 = some (vi x3)) (l4 : lo.lookup 4 = some (vi x4)) (l5 : lo.lookup 5 = some (vi x5)) {σ : gb_S} : gb_G (fx_168_199 k78 x1 x2 x3 x4 x5 y0 y1 y2 σ) 4 8 none (fun _ _ => none) gk_168 c0 eV 199 lo [vl y0, vl y1, vi y2, vr 187] σ := by
  rw [fx_168_199]
  refine gg_cV 202 rfl (gm_164 _ _ _) (Nat.le_of_ble_eq_true rfl) (gb_vs rfl rfl rfl rfl rfl gcl_187 rfl rfl rfl) rfl (fun _ => rfl) (fun _ => rfl) (fun s2 => ?_)
  refine gg_al 203 0 rfl rfl l0 ?_
  refine gg_gr 206 216 rfl rfl rfl gcl_187 rfl ?_
  refine gg_il 208 5 rfl rfl l5 ?_
  refine gg_al 209 0 rfl rfl l0 ?_
  refine gg_gr 212 218 rfl rfl rfl gcl_187 rfl ?_
  refine gg_il 214 5 rfl rfl l5 ?_
  refine gg_q (fun q3 => ?_)
  refine gg_lal 215 rfl rfl gar_218 q3 ?_
  refine gg_las 216 rfl rfl gar_216 q3 ?_
  refine gg_al 217 0 rfl rfl l0 ?_
  refine gg_gr 220 217 rfl rfl rfl gcl_187 rfl ?_
  refine gg_il 222 5 rfl rfl l5 ?_
  refine gg_al 223 0 rfl rfl l0 ?_
  refine gg_gr 226 219 rfl rfl rfl gcl_187 rfl ?_
  refine gg_il 228 5 rfl rfl l5 ?_
  refine gg_lal 229 rfl rfl gar_219 q3 ?_
  refine gg_las 230 rfl rfl gar_217 q3 ?_
  refine gg_inc 233 rfl rfl l5 ?_
  refine gg_go 78 rfl rfl rfl ?_
  exact hk78 x1 x2 x3 x4 (x5 + 1) (gl1 rfl rfl l0) (gl1 rfl rfl l1) (gl1 rfl rfl l2) (gl1 rfl rfl l3) (gl1 rfl rfl l4) gs1
theorem gt_168_167 {k78 : Int → Int → Int → Int → Int → gb_S → Option gb_P} (hk78 : ∀ (x1 : Int) (x2 : Int) (x3 : Int) (x4 : Int) (x5 : Int) {lo : gh_L} (l0 : lo.lookup 0 = some (vr 187)) (l1 : lo.lookup 1 = some (vi x1)) (l2 : lo.lookup 2 = some (vi x2)) (l3 : lo.lookup 3 = some (vi x3)) (l4 : lo.lookup 4 = some (vi x4)) (l5 : lo.lookup 5 = some (vi x5)) {σ : gb_S}, gb_G (k78 x1 x2 x3 x4 x5 σ) 4 8 none (fun _ _ => none) gk_168 c0 eV 78 lo [] σ) (x1 : Int) (x2 : Int) (x3 : Int) (x4 : Int) (x5 : Int) (y0 : Int) {lo : gh_L} (l0 : lo.lookup 0 = some (vr 187)) (l1 : lo.lookup 1 = some (vi x1)) (l2 : lo.lookup 2 = some (vi x2)) (l3 : lo.lookup 3 = some (vi x3)) (l4 : lo.lookup 4 = some (vi x4)) (l5 : lo.lookup 5 = some (vi x5)) {σ : gb_S} : gb_G (fx_168_167 k78 x1 x2 x3 x4 x5 y0 σ) 4 8 none (fun _ _ => none) gk_168 c0 eV 167 lo [vi y0] σ := by
  rw [fx_168_167]
  refine gg_s 169 rfl rfl ?_
  refine gg_al 170 0 rfl rfl (gl1 rfl rfl l0) ?_
  refine gg_il 172 5 rfl rfl (gl1 rfl rfl l5) ?_
  refine gg_il 174 6 rfl rfl gs1 ?_
  refine gg_q (fun q1 => ?_)
  refine gg_i2l 175 rfl rfl q1 ?_
  refine gg_il 176 3 rfl rfl (gl1 rfl rfl l3) ?_
  refine gg_q (fun q2 => ?_)
  refine gg_zne 183 179 rfl rfl rfl rfl q2 ?_ ?_
  · refine gg_il 185 4 rfl rfl (gl1 rfl rfl l4) ?_
    refine gg_q (fun q3 => ?_)
    refine gg_zeq 197 188 rfl rfl rfl rfl q3 ?_ ?_
    · refine gg_il 198 3 rfl rfl (gl1 rfl rfl l3) ?_
      refine gg_i2l 199 rfl rfl q2 ?_
      exact gt_168_199 hk78 x1 x2 x3 x4 x5 x3 y0 x5 (gl1 rfl rfl l0) (gl1 rfl rfl l1) (gl1 rfl rfl l2) (gl1 rfl rfl l3) (gl1 rfl rfl l4) (gl1 rfl rfl l5)
    · refine gg_cl 191 2 rfl rfl ?_
      refine gg_il 192 3 rfl rfl (gl1 rfl rfl l3) ?_
      refine gg_i2l 193 rfl rfl q2 ?_
      refine gg_lmul 194 rfl rfl ?_
      refine gg_go 199 rfl rfl rfl ?_
      exact gt_168_199 hk78 x1 x2 x3 x4 x5 (2 * x3) y0 x5 (gl1 rfl rfl l0) (gl1 rfl rfl l1) (gl1 rfl rfl l2) (gl1 rfl rfl l3) (gl1 rfl rfl l4) (gl1 rfl rfl l5)
  · refine gg_cl 180 1 rfl rfl ?_
    refine gg_go 199 rfl rfl rfl ?_
    exact gt_168_199 hk78 x1 x2 x3 x4 x5 1 y0 x5 (gl1 rfl rfl l0) (gl1 rfl rfl l1) (gl1 rfl rfl l2) (gl1 rfl rfl l3) (gl1 rfl rfl l4) (gl1 rfl rfl l5)
theorem gt_168_137 {k78 : Int → Int → Int → Int → Int → gb_S → Option gb_P} (hk78 : ∀ (x1 : Int) (x2 : Int) (x3 : Int) (x4 : Int) (x5 : Int) {lo : gh_L} (l0 : lo.lookup 0 = some (vr 187)) (l1 : lo.lookup 1 = some (vi x1)) (l2 : lo.lookup 2 = some (vi x2)) (l3 : lo.lookup 3 = some (vi x3)) (l4 : lo.lookup 4 = some (vi x4)) (l5 : lo.lookup 5 = some (vi x5)) {σ : gb_S}, gb_G (k78 x1 x2 x3 x4 x5 σ) 4 8 none (fun _ _ => none) gk_168 c0 eV 78 lo [] σ) (x1 : Int) (x2 : Int) (x3 : Int) (x4 : Int) (x5 : Int) {lo : gh_L} (l0 : lo.lookup 0 = some (vr 187)) (l1 : lo.lookup 1 = some (vi x1)) (l2 : lo.lookup 2 = some (vi x2)) (l3 : lo.lookup 3 = some (vi x3)) (l4 : lo.lookup 4 = some (vi x4)) (l5 : lo.lookup 5 = some (vi x5)) {σ : gb_S} : gb_G (fx_168_137 k78 x1 x2 x3 x4 x5 σ) 4 8 none (fun _ _ => none) gk_168 c0 eV 137 lo [] σ := by
  rw [fx_168_137]
  refine gg_il 138 3 rfl rfl l3 ?_
  refine gg_q (fun q1 => ?_)
  refine gg_zle 166 141 rfl rfl rfl rfl q1 ?_ ?_
  · refine gg_ci 167 0 rfl rfl ?_
    exact gt_168_167 hk78 x1 x2 x3 x4 x5 0 l0 l1 l2 l3 l4 l5
  · refine gg_al 142 0 rfl rfl l0 ?_
    refine gg_il 144 5 rfl rfl l5 ?_
    refine gg_il 145 1 rfl rfl l1 ?_
    refine gg_cI 148 rfl (gm_158 _ _) (Nat.le_of_ble_eq_true rfl) (gb_vs rfl rfl rfl rfl rfl gcl_187 rfl rfl rfl) rfl (fun _ => rfl) (fun _ => rfl) (fun r2 s3 => ?_)
    refine gg_q (fun q4 => ?_)
    refine gg_zeq 166 151 rfl rfl rfl rfl q4 ?_ ?_
    · refine gg_ci 167 0 rfl rfl ?_
      exact gt_168_167 hk78 x1 x2 x3 x4 x5 0 l0 l1 l2 l3 l4 l5
    · refine gg_al 152 0 rfl rfl l0 ?_
      refine gg_gr 155 197 rfl rfl rfl gcl_187 rfl ?_
      refine gg_ci 157 14 rfl rfl ?_
      refine gg_il 158 1 rfl rfl l1 ?_
      refine gg_mul 159 rfl rfl ?_
      refine gg_il 161 5 rfl rfl l5 ?_
      refine gg_add 162 rfl rfl ?_
      refine gg_q (fun q5 => ?_)
      refine gg_ial 163 rfl rfl gar_197 q5 ?_
      refine gg_go 167 rfl rfl rfl ?_
      exact gt_168_167 hk78 x1 x2 x3 x4 x5 (s3 197 ((14 * x1) + x5).toNat) l0 l1 l2 l3 l4 l5
theorem gt_168_100 {k78 : Int → Int → Int → Int → Int → gb_S → Option gb_P} (hk78 : ∀ (x1 : Int) (x2 : Int) (x3 : Int) (x4 : Int) (x5 : Int) {lo : gh_L} (l0 : lo.lookup 0 = some (vr 187)) (l1 : lo.lookup 1 = some (vi x1)) (l2 : lo.lookup 2 = some (vi x2)) (l3 : lo.lookup 3 = some (vi x3)) (l4 : lo.lookup 4 = some (vi x4)) (l5 : lo.lookup 5 = some (vi x5)) {σ : gb_S}, gb_G (k78 x1 x2 x3 x4 x5 σ) 4 8 none (fun _ _ => none) gk_168 c0 eV 78 lo [] σ) (x1 : Int) (x2 : Int) (x3 : Int) (x4 : Int) (x5 : Int) {lo : gh_L} (l0 : lo.lookup 0 = some (vr 187)) (l1 : lo.lookup 1 = some (vi x1)) (l2 : lo.lookup 2 = some (vi x2)) (l3 : lo.lookup 3 = some (vi x3)) (l4 : lo.lookup 4 = some (vi x4)) (l5 : lo.lookup 5 = some (vi x5)) {σ : gb_S} : gb_G (fx_168_100 k78 x1 x2 x3 x4 x5 σ) 4 8 none (fun _ _ => none) gk_168 c0 eV 100 lo [] σ := by
  rw [fx_168_100]
  refine gg_al 101 0 rfl rfl l0 ?_
  refine gg_gr 104 218 rfl rfl rfl gcl_187 rfl ?_
  refine gg_il 106 5 rfl rfl l5 ?_
  refine gg_cl 107 0 rfl rfl ?_
  refine gg_q (fun q1 => ?_)
  refine gg_las 108 rfl rfl gar_218 q1 ?_
  refine gg_al 109 0 rfl rfl l0 ?_
  refine gg_gr 112 219 rfl rfl rfl gcl_187 rfl ?_
  refine gg_il 114 5 rfl rfl l5 ?_
  refine gg_cl 115 1 rfl rfl ?_
  refine gg_las 116 rfl rfl gar_219 q1 ?_
  refine gg_go 137 rfl rfl rfl ?_
  exact gt_168_137 hk78 x1 x2 x3 x4 x5 l0 l1 l2 l3 l4 l5
theorem gt_168_96 {k78 : Int → Int → Int → Int → Int → gb_S → Option gb_P} (hk78 : ∀ (x1 : Int) (x2 : Int) (x3 : Int) (x4 : Int) (x5 : Int) {lo : gh_L} (l0 : lo.lookup 0 = some (vr 187)) (l1 : lo.lookup 1 = some (vi x1)) (l2 : lo.lookup 2 = some (vi x2)) (l3 : lo.lookup 3 = some (vi x3)) (l4 : lo.lookup 4 = some (vi x4)) (l5 : lo.lookup 5 = some (vi x5)) {σ : gb_S}, gb_G (k78 x1 x2 x3 x4 x5 σ) 4 8 none (fun _ _ => none) gk_168 c0 eV 78 lo [] σ) (x1 : Int) (x2 : Int) (x3 : Int) (x4 : Int) (x5 : Int) {lo : gh_L} (l0 : lo.lookup 0 = some (vr 187)) (l1 : lo.lookup 1 = some (vi x1)) (l2 : lo.lookup 2 = some (vi x2)) (l3 : lo.lookup 3 = some (vi x3)) (l4 : lo.lookup 4 = some (vi x4)) (l5 : lo.lookup 5 = some (vi x5)) {σ : gb_S} : gb_G (fx_168_96 k78 x1 x2 x3 x4 x5 σ) 4 8 none (fun _ _ => none) gk_168 c0 eV 96 lo [] σ := by
  rw [fx_168_96]
  refine gg_il 97 2 rfl rfl l2 ?_
  refine gg_q (fun q1 => ?_)
  refine gg_zne 119 100 rfl rfl rfl rfl q1 ?_ ?_
  · refine gg_il 121 4 rfl rfl l4 ?_
    refine gg_q (fun q2 => ?_)
    refine gg_zeq 137 124 rfl rfl rfl rfl q2 ?_ ?_
    · exact gt_168_137 hk78 x1 x2 x3 x4 x5 l0 l1 l2 l3 l4 l5
    · refine gg_al 125 0 rfl rfl l0 ?_
      refine gg_gr 128 219 rfl rfl rfl gcl_187 rfl ?_
      refine gg_il 130 5 rfl rfl l5 ?_
      refine gg_s 131 rfl rfl ?_
      refine gg_q (fun q3 => ?_)
      refine gg_lal 132 rfl rfl gar_219 q3 ?_
      refine gg_cl 135 2 rfl rfl ?_
      refine gg_lmul 136 rfl rfl ?_
      refine gg_las 137 rfl rfl gar_219 q3 ?_
      exact gt_168_137 hk78 x1 x2 x3 x4 x5 l0 l1 l2 l3 l4 l5
  · exact gt_168_100 hk78 x1 x2 x3 x4 x5 l0 l1 l2 l3 l4 l5
theorem gt_168_78 (k : Nat) : ∀ (x1 : Int) (x2 : Int) (x3 : Int) (x4 : Int) (x5 : Int) {lo : gh_L} (l0 : lo.lookup 0 = some (vr 187)) (l1 : lo.lookup 1 = some (vi x1)) (l2 : lo.lookup 2 = some (vi x2)) (l3 : lo.lookup 3 = some (vi x3)) (l4 : lo.lookup 4 = some (vi x4)) (l5 : lo.lookup 5 = some (vi x5)) {σ : gb_S}, gb_G (fx_168_78 k x1 x2 x3 x4 x5 σ) 4 8 none (fun _ _ => none) gk_168 c0 eV 78 lo [] σ := by
  induction k with
  | zero => intros; exact gg_n
  | succ k ih =>
    intro x1 x2 x3 x4 x5 lo l0 l1 l2 l3 l4 l5 σ
    rw [fx_168_78]
    refine gg_il 80 5 rfl rfl l5 ?_
    refine gg_al 81 0 rfl rfl l0 ?_
    refine gg_gi 84 rfl rfl rfl gcl_187 rfl ?_
    refine gg_q (fun q1 => ?_)
    refine gg_q (fun q2 => ?_)
    refine gg_ige 236 87 rfl rfl rfl rfl q1 q2 ?_ ?_
    · exact gg_vr rfl
    · refine gg_il 88 3 rfl rfl l3 ?_
      refine gg_q (fun q3 => ?_)
      refine gg_zle 96 91 rfl rfl rfl rfl q3 ?_ ?_
      · exact gt_168_96 ih x1 x2 x3 x4 x5 l0 l1 l2 l3 l4 l5
      · refine gg_il 93 4 rfl rfl l4 ?_
        refine gg_q (fun q4 => ?_)
        refine gg_zeq 100 96 rfl rfl rfl rfl q4 ?_ ?_
        · exact gt_168_100 ih x1 x2 x3 x4 x5 l0 l1 l2 l3 l4 l5
        · exact gt_168_96 ih x1 x2 x3 x4 x5 l0 l1 l2 l3 l4 l5
theorem gt_168_11 (k : Nat) : ∀ (x1 : Int) (x2 : Int) (x3 : Int) (x4 : Int) {lo : gh_L} (l0 : lo.lookup 0 = some (vr 187)) (l1 : lo.lookup 1 = some (vi x1)) (l2 : lo.lookup 2 = some (vi x2)) (l3 : lo.lookup 3 = some (vi x3)) (l4 : lo.lookup 4 = some (vi x4)) {σ : gb_S}, gb_G (fx_168_11 k x1 x2 x3 x4 σ) 4 8 none (fun _ _ => none) gk_168 c0 eV 11 lo [] σ := by
  induction k with
  | zero => intros; exact gg_n
  | succ k ih =>
    intro x1 x2 x3 x4 lo l0 l1 l2 l3 l4 σ
    rw [fx_168_11]
    refine gg_il 13 4 rfl rfl l4 ?_
    refine gg_al 14 0 rfl rfl l0 ?_
    refine gg_gi 17 rfl rfl rfl gcl_187 rfl ?_
    refine gg_q (fun q1 => ?_)
    refine gg_q (fun q2 => ?_)
    refine gg_ige 55 20 rfl rfl rfl rfl q1 q2 ?_ ?_
    · refine gg_il 56 3 rfl rfl l3 ?_
      refine gg_q (fun q3 => ?_)
      refine gg_zle 72 59 rfl rfl rfl rfl q3 ?_ ?_
      · refine gg_ci 73 0 rfl rfl ?_
        refine gg_s 75 rfl rfl ?_
        refine gg_ci 76 0 rfl rfl ?_
        refine gg_s 78 rfl rfl ?_
        exact gt_168_78 gFU x1 x2 x3 0 0 (gl1 rfl rfl (gl1 rfl rfl l0)) (gl1 rfl rfl (gl1 rfl rfl l1)) (gl1 rfl rfl (gl1 rfl rfl l2)) (gl1 rfl rfl (gl1 rfl rfl l3)) (gl1 rfl rfl gs1) gs1
      · refine gg_al 60 0 rfl rfl l0 ?_
        refine gg_gr 63 214 rfl rfl rfl gcl_187 rfl ?_
        refine gg_il 64 1 rfl rfl l1 ?_
        refine gg_q (fun q4 => ?_)
        refine gg_bal 65 rfl rfl gar_214 q4 ?_
        refine gg_q (fun q5 => ?_)
        refine gg_zeq 72 68 rfl rfl rfl rfl q5 ?_ ?_
        · refine gg_ci 73 0 rfl rfl ?_
          refine gg_s 75 rfl rfl ?_
          refine gg_ci 76 0 rfl rfl ?_
          refine gg_s 78 rfl rfl ?_
          exact gt_168_78 gFU x1 x2 x3 0 0 (gl1 rfl rfl (gl1 rfl rfl l0)) (gl1 rfl rfl (gl1 rfl rfl l1)) (gl1 rfl rfl (gl1 rfl rfl l2)) (gl1 rfl rfl (gl1 rfl rfl l3)) (gl1 rfl rfl gs1) gs1
        · refine gg_ci 69 1 rfl rfl ?_
          refine gg_go 73 rfl rfl rfl ?_
          refine gg_s 75 rfl rfl ?_
          refine gg_ci 76 0 rfl rfl ?_
          refine gg_s 78 rfl rfl ?_
          exact gt_168_78 gFU x1 x2 x3 1 0 (gl1 rfl rfl (gl1 rfl rfl l0)) (gl1 rfl rfl (gl1 rfl rfl l1)) (gl1 rfl rfl (gl1 rfl rfl l2)) (gl1 rfl rfl (gl1 rfl rfl l3)) (gl1 rfl rfl gs1) gs1
    · refine gg_il 21 3 rfl rfl l3 ?_
      refine gg_al 22 0 rfl rfl l0 ?_
      refine gg_il 24 4 rfl rfl l4 ?_
      refine gg_il 25 1 rfl rfl l1 ?_
      refine gg_cI 28 rfl (gm_158 _ _) (Nat.le_of_ble_eq_true rfl) (gb_vs rfl rfl rfl rfl rfl gcl_187 rfl rfl rfl) rfl (fun _ => rfl) (fun _ => rfl) (fun r6 s7 => ?_)
      refine gg_q (fun q8 => ?_)
      refine gg_zeq 46 31 rfl rfl rfl rfl q8 ?_ ?_
      · refine gg_ci 47 0 rfl rfl ?_
        refine gg_add 48 rfl rfl ?_
        refine gg_s 49 rfl rfl ?_
        refine gg_inc 52 rfl rfl (gl1 rfl rfl l4) ?_
        refine gg_go 11 rfl rfl rfl ?_
        exact ih x1 x2 (x3 + 0) (x4 + 1) (gl1 rfl rfl (gl1 rfl rfl l0)) (gl1 rfl rfl (gl1 rfl rfl l1)) (gl1 rfl rfl (gl1 rfl rfl l2)) (gl1 rfl rfl gs1) gs1
      · refine gg_al 32 0 rfl rfl l0 ?_
        refine gg_gr 35 197 rfl rfl rfl gcl_187 rfl ?_
        refine gg_ci 37 14 rfl rfl ?_
        refine gg_il 38 1 rfl rfl l1 ?_
        refine gg_mul 39 rfl rfl ?_
        refine gg_il 41 4 rfl rfl l4 ?_
        refine gg_add 42 rfl rfl ?_
        refine gg_q (fun q9 => ?_)
        refine gg_ial 43 rfl rfl gar_197 q9 ?_
        refine gg_go 47 rfl rfl rfl ?_
        refine gg_add 48 rfl rfl ?_
        refine gg_s 49 rfl rfl ?_
        refine gg_inc 52 rfl rfl (gl1 rfl rfl l4) ?_
        refine gg_go 11 rfl rfl rfl ?_
        exact ih x1 x2 (x3 + (s7 197 ((14 * x1) + x4).toNat)) (x4 + 1) (gl1 rfl rfl (gl1 rfl rfl l0)) (gl1 rfl rfl (gl1 rfl rfl l1)) (gl1 rfl rfl (gl1 rfl rfl l2)) (gl1 rfl rfl gs1) gs1
theorem gm_168 (x1 : Int) {σ : gb_S} : gb_M (fx_168 x1 σ) 5 c0 eV 168 [vr 187, vi x1] σ := by
  rw [fx_168]
  refine gg_m (own := 8) (rt := none) (hnd := fun _ _ => none) (K := gk_168) (δ := 4) rfl rfl ?_
  refine gg_al 1 0 rfl rfl rfl ?_
  refine gg_il 2 1 rfl rfl rfl ?_
  refine gg_cI 5 rfl (gm_166 _) (Nat.le_of_ble_eq_true rfl) (gb_vs rfl rfl rfl rfl rfl gcl_187 rfl rfl rfl) rfl (fun _ => rfl) (fun _ => rfl) (fun r1 s2 => ?_)
  refine gg_s 6 rfl rfl ?_
  refine gg_ci 7 0 rfl rfl ?_
  refine gg_s 8 rfl rfl ?_
  refine gg_ci 9 0 rfl rfl ?_
  refine gg_s 11 rfl rfl ?_
  exact gt_168_11 gFU x1 r1 0 0 (gl1 rfl rfl (gl1 rfl rfl (gl1 rfl rfl rfl))) (gl1 rfl rfl (gl1 rfl rfl (gl1 rfl rfl rfl))) (gl1 rfl rfl (gl1 rfl rfl gs1)) (gl1 rfl rfl gs1) gs1
def fx_170_26 (k : Nat) (k2 : Int → gb_S → Option gb_P) (x1 : Int) (x2 : Int) (σ : gb_S) : Option gb_P := match k with
  | 0 => none
  | k + 1 =>
    gq (gR x2) (
    gq (gR (σ 187 3)) (
    (if x2 < (σ 187 3) then
      gq (0 ≤ x2 ∧ x2 < 14) (
      gq (0 ≤ ((14 * x1) + x2) ∧ ((14 * x1) + x2) < 196) (
      fx_170_26 k k2 x1 (x2 + 1) (gb_up (gb_up σ 220 ((14 * x1) + x2).toNat (σ 216 x2.toNat)) 221 ((14 * x1) + x2).toNat ((gb_up σ 220 ((14 * x1) + x2).toNat (σ 216 x2.toNat)) 217 x2.toNat))))
    else
      k2 (x1 + 1) σ)))
def fx_170_2 (k : Nat) (x1 : Int) (σ : gb_S) : Option gb_P := match k with
  | 0 => none
  | k + 1 =>
    gq (gR x1) (
    gq (gR (σ 187 3)) (
    (if x1 < (σ 187 3) then
      gq (0 ≤ x1 ∧ x1 < 14) (
      gq (gR (σ 198 x1.toNat)) (
      (if (σ 198 x1.toNat) = 0 then
        fx_170_2 k (x1 + 1) σ
      else
        gc (fx_168 x1 σ) (fun _ s6 =>
        fx_170_26 gFU (fx_170_2 k) x1 0 s6))))
    else
      some (.inl 0, σ))))
/-- TreeclerkModel.keeps -/
def fx_170 (σ : gb_S) : Option gb_P :=
  fx_170_2 gFU 0 σ
theorem gt_170_26 (k : Nat) {k2 : Int → gb_S → Option gb_P} (hk2 : ∀ (x1 : Int) {lo : gh_L} (l0 : lo.lookup 0 = some (vr 187)) (l1 : lo.lookup 1 = some (vi x1)) {σ : gb_S}, gb_G (k2 x1 σ) 5 8 none (fun _ _ => none) gk_170 c0 eV 2 lo [] σ) : ∀ (x1 : Int) (x2 : Int) {lo : gh_L} (l0 : lo.lookup 0 = some (vr 187)) (l1 : lo.lookup 1 = some (vi x1)) (l2 : lo.lookup 2 = some (vi x2)) {σ : gb_S}, gb_G (fx_170_26 k k2 x1 x2 σ) 5 8 none (fun _ _ => none) gk_170 c0 eV 26 lo [] σ := by
  induction k with
  | zero => intros; exact gg_n
  | succ k ih =>
    intro x1 x2 lo l0 l1 l2 σ
    rw [fx_170_26]
    refine gg_il 27 2 rfl rfl l2 ?_
    refine gg_al 28 0 rfl rfl l0 ?_
    refine gg_gi 31 rfl rfl rfl gcl_187 rfl ?_
    refine gg_q (fun q1 => ?_)
    refine gg_q (fun q2 => ?_)
    refine gg_ige 74 34 rfl rfl rfl rfl q1 q2 ?_ ?_
    · refine gg_inc 77 rfl rfl l1 ?_
      refine gg_go 2 rfl rfl rfl ?_
      exact hk2 (x1 + 1) (gl1 rfl rfl l0) gs1
    · refine gg_al 35 0 rfl rfl l0 ?_
      refine gg_gr 38 220 rfl rfl rfl gcl_187 rfl ?_
      refine gg_ci 40 14 rfl rfl ?_
      refine gg_il 41 1 rfl rfl l1 ?_
      refine gg_mul 42 rfl rfl ?_
      refine gg_il 43 2 rfl rfl l2 ?_
      refine gg_add 44 rfl rfl ?_
      refine gg_al 45 0 rfl rfl l0 ?_
      refine gg_gr 48 216 rfl rfl rfl gcl_187 rfl ?_
      refine gg_il 49 2 rfl rfl l2 ?_
      refine gg_q (fun q3 => ?_)
      refine gg_lal 50 rfl rfl gar_216 q3 ?_
      refine gg_q (fun q4 => ?_)
      refine gg_las 51 rfl rfl gar_220 q4 ?_
      refine gg_al 52 0 rfl rfl l0 ?_
      refine gg_gr 55 221 rfl rfl rfl gcl_187 rfl ?_
      refine gg_ci 57 14 rfl rfl ?_
      refine gg_il 58 1 rfl rfl l1 ?_
      refine gg_mul 59 rfl rfl ?_
      refine gg_il 60 2 rfl rfl l2 ?_
      refine gg_add 61 rfl rfl ?_
      refine gg_al 62 0 rfl rfl l0 ?_
      refine gg_gr 65 217 rfl rfl rfl gcl_187 rfl ?_
      refine gg_il 66 2 rfl rfl l2 ?_
      refine gg_lal 67 rfl rfl gar_217 q3 ?_
      refine gg_las 68 rfl rfl gar_221 q4 ?_
      refine gg_inc 71 rfl rfl l2 ?_
      refine gg_go 26 rfl rfl rfl ?_
      exact ih x1 (x2 + 1) (gl1 rfl rfl l0) (gl1 rfl rfl l1) gs1
theorem gt_170_2 (k : Nat) : ∀ (x1 : Int) {lo : gh_L} (l0 : lo.lookup 0 = some (vr 187)) (l1 : lo.lookup 1 = some (vi x1)) {σ : gb_S}, gb_G (fx_170_2 k x1 σ) 5 8 none (fun _ _ => none) gk_170 c0 eV 2 lo [] σ := by
  induction k with
  | zero => intros; exact gg_n
  | succ k ih =>
    intro x1 lo l0 l1 σ
    rw [fx_170_2]
    refine gg_il 3 1 rfl rfl l1 ?_
    refine gg_al 4 0 rfl rfl l0 ?_
    refine gg_gi 7 rfl rfl rfl gcl_187 rfl ?_
    refine gg_q (fun q1 => ?_)
    refine gg_q (fun q2 => ?_)
    refine gg_ige 80 10 rfl rfl rfl rfl q1 q2 ?_ ?_
    · exact gg_vr rfl
    · refine gg_al 11 0 rfl rfl l0 ?_
      refine gg_gr 14 198 rfl rfl rfl gcl_187 rfl ?_
      refine gg_il 15 1 rfl rfl l1 ?_
      refine gg_q (fun q3 => ?_)
      refine gg_bal 16 rfl rfl gar_198 q3 ?_
      refine gg_q (fun q4 => ?_)
      refine gg_zeq 74 19 rfl rfl rfl rfl q4 ?_ ?_
      · refine gg_inc 77 rfl rfl l1 ?_
        refine gg_go 2 rfl rfl rfl ?_
        exact ih (x1 + 1) (gl1 rfl rfl l0) gs1
      · refine gg_al 20 0 rfl rfl l0 ?_
        refine gg_il 21 1 rfl rfl l1 ?_
        refine gg_cV 24 rfl (gm_168 _) (Nat.le_of_ble_eq_true rfl) (gb_vs rfl rfl rfl rfl rfl gcl_187 rfl rfl rfl) rfl (fun _ => rfl) (fun _ => rfl) (fun s6 => ?_)
        refine gg_ci 25 0 rfl rfl ?_
        refine gg_s 26 rfl rfl ?_
        exact gt_170_26 gFU ih x1 0 (gl1 rfl rfl l0) (gl1 rfl rfl l1) gs1
theorem gm_170 {σ : gb_S} : gb_M (fx_170 σ) 6 c0 eV 170 [vr 187] σ := by
  rw [fx_170]
  refine gg_m (own := 8) (rt := none) (hnd := fun _ _ => none) (K := gk_170) (δ := 5) rfl rfl ?_
  refine gg_ci 1 0 rfl rfl ?_
  refine gg_s 2 rfl rfl ?_
  exact gt_170_2 gFU 0 (gl1 rfl rfl rfl) gs1
def fx_171_9 (k : Nat) (x1 : Int) (x2 : Int) (x3 : Int) (σ : gb_S) : Option gb_P := match k with
  | 0 => none
  | k + 1 =>
    gq (gR x3) (
    gq (gR (σ 187 3)) (
    (if x3 < (σ 187 3) then
      gq (gR x2) (
      (if x2 = 0 then
        gq (0 ≤ x3 ∧ x3 < 14) (
        gq (0 ≤ ((14 * x1) + x3) ∧ ((14 * x1) + x3) < 196) (
        gq (gRL (σ 216 x3.toNat)) (
        gq (gRL (σ 220 ((14 * x1) + x3).toNat)) (
        (if (σ 216 x3.toNat) = (σ 220 ((14 * x1) + x3).toNat) then
          gq (gRL (σ 217 x3.toNat)) (
          gq (gRL (σ 221 ((14 * x1) + x3).toNat)) (
          (if (σ 217 x3.toNat) = (σ 221 ((14 * x1) + x3).toNat) then
            fx_171_9 k x1 0 (x3 + 1) σ
          else
            fx_171_9 k x1 1 (x3 + 1) σ)))
        else
          fx_171_9 k x1 1 (x3 + 1) σ)))))
      else
        fx_171_9 k x1 1 (x3 + 1) σ))
    else
      gq (x2 = 0 ∨ x2 = 1) (
      some (.inl x2, σ)))))
/-- TreeclerkModel.areOthers -/
def fx_171 (x1 : Int) (σ : gb_S) : Option gb_P :=
  gc (fx_168 x1 σ) (fun _ s2 =>
  fx_171_9 gFU x1 0 0 s2)
theorem gt_171_9 (k : Nat) : ∀ (x1 : Int) (x2 : Int) (x3 : Int) {lo : gh_L} (l0 : lo.lookup 0 = some (vr 187)) (l1 : lo.lookup 1 = some (vi x1)) (l2 : lo.lookup 2 = some (vi x2)) (l3 : lo.lookup 3 = some (vi x3)) {σ : gb_S}, gb_G (fx_171_9 k x1 x2 x3 σ) 5 8 (some .boolean) (fun _ _ => none) gk_171 c0 eI 9 lo [] σ := by
  induction k with
  | zero => intros; exact gg_n
  | succ k ih =>
    intro x1 x2 x3 lo l0 l1 l2 l3 σ
    rw [fx_171_9]
    refine gg_il 10 3 rfl rfl l3 ?_
    refine gg_al 11 0 rfl rfl l0 ?_
    refine gg_gi 14 rfl rfl rfl gcl_187 rfl ?_
    refine gg_q (fun q1 => ?_)
    refine gg_q (fun q2 => ?_)
    refine gg_ige 75 17 rfl rfl rfl rfl q1 q2 ?_ ?_
    · refine gg_il 76 2 rfl rfl l2 ?_
      refine gg_q (fun q3 => ?_)
      exact gg_zr rfl q3
    · refine gg_il 18 2 rfl rfl l2 ?_
      refine gg_q (fun q4 => ?_)
      refine gg_zne 63 21 rfl rfl rfl rfl q4 ?_ ?_
      · refine gg_ci 64 1 rfl rfl ?_
        refine gg_go 68 rfl rfl rfl ?_
        refine gg_s 69 rfl rfl ?_
        refine gg_inc 72 rfl rfl (gl1 rfl rfl l3) ?_
        refine gg_go 9 rfl rfl rfl ?_
        exact ih x1 1 (x3 + 1) (gl1 rfl rfl (gl1 rfl rfl l0)) (gl1 rfl rfl (gl1 rfl rfl l1)) (gl1 rfl rfl gs1) gs1
      · refine gg_al 22 0 rfl rfl l0 ?_
        refine gg_gr 25 216 rfl rfl rfl gcl_187 rfl ?_
        refine gg_il 26 3 rfl rfl l3 ?_
        refine gg_q (fun q5 => ?_)
        refine gg_lal 27 rfl rfl gar_216 q5 ?_
        refine gg_al 28 0 rfl rfl l0 ?_
        refine gg_gr 31 220 rfl rfl rfl gcl_187 rfl ?_
        refine gg_ci 33 14 rfl rfl ?_
        refine gg_il 34 1 rfl rfl l1 ?_
        refine gg_mul 35 rfl rfl ?_
        refine gg_il 36 3 rfl rfl l3 ?_
        refine gg_add 37 rfl rfl ?_
        refine gg_q (fun q6 => ?_)
        refine gg_lal 38 rfl rfl gar_220 q6 ?_
        refine gg_q (fun q7 => ?_)
        refine gg_q (fun q8 => ?_)
        refine gg_Lne 63 42 rfl rfl rfl rfl rfl q7 q8 ?_ ?_
        · refine gg_ci 64 1 rfl rfl ?_
          refine gg_go 68 rfl rfl rfl ?_
          refine gg_s 69 rfl rfl ?_
          refine gg_inc 72 rfl rfl (gl1 rfl rfl l3) ?_
          refine gg_go 9 rfl rfl rfl ?_
          exact ih x1 1 (x3 + 1) (gl1 rfl rfl (gl1 rfl rfl l0)) (gl1 rfl rfl (gl1 rfl rfl l1)) (gl1 rfl rfl gs1) gs1
        · refine gg_al 43 0 rfl rfl l0 ?_
          refine gg_gr 46 217 rfl rfl rfl gcl_187 rfl ?_
          refine gg_il 47 3 rfl rfl l3 ?_
          refine gg_lal 48 rfl rfl gar_217 q5 ?_
          refine gg_al 49 0 rfl rfl l0 ?_
          refine gg_gr 52 221 rfl rfl rfl gcl_187 rfl ?_
          refine gg_ci 54 14 rfl rfl ?_
          refine gg_il 55 1 rfl rfl l1 ?_
          refine gg_mul 56 rfl rfl ?_
          refine gg_il 57 3 rfl rfl l3 ?_
          refine gg_add 58 rfl rfl ?_
          refine gg_lal 59 rfl rfl gar_221 q6 ?_
          refine gg_q (fun q9 => ?_)
          refine gg_q (fun q10 => ?_)
          refine gg_Leq 67 63 rfl rfl rfl rfl rfl q9 q10 ?_ ?_
          · refine gg_ci 68 0 rfl rfl ?_
            refine gg_s 69 rfl rfl ?_
            refine gg_inc 72 rfl rfl (gl1 rfl rfl l3) ?_
            refine gg_go 9 rfl rfl rfl ?_
            exact ih x1 0 (x3 + 1) (gl1 rfl rfl (gl1 rfl rfl l0)) (gl1 rfl rfl (gl1 rfl rfl l1)) (gl1 rfl rfl gs1) gs1
          · refine gg_ci 64 1 rfl rfl ?_
            refine gg_go 68 rfl rfl rfl ?_
            refine gg_s 69 rfl rfl ?_
            refine gg_inc 72 rfl rfl (gl1 rfl rfl l3) ?_
            refine gg_go 9 rfl rfl rfl ?_
            exact ih x1 1 (x3 + 1) (gl1 rfl rfl (gl1 rfl rfl l0)) (gl1 rfl rfl (gl1 rfl rfl l1)) (gl1 rfl rfl gs1) gs1
theorem gm_171 (x1 : Int) {σ : gb_S} : gb_M (fx_171 x1 σ) 6 c0 eI 171 [vr 187, vi x1] σ := by
  rw [fx_171]
  refine gg_m (own := 8) (rt := (some .boolean)) (hnd := fun _ _ => none) (K := gk_171) (δ := 5) rfl rfl ?_
  refine gg_al 1 0 rfl rfl rfl ?_
  refine gg_il 2 1 rfl rfl rfl ?_
  refine gg_cV 5 rfl (gm_168 _) (Nat.le_of_ble_eq_true rfl) (gb_vs rfl rfl rfl rfl rfl gcl_187 rfl rfl rfl) rfl (fun _ => rfl) (fun _ => rfl) (fun s2 => ?_)
  refine gg_ci 6 0 rfl rfl ?_
  refine gg_s 7 rfl rfl ?_
  refine gg_ci 8 0 rfl rfl ?_
  refine gg_s 9 rfl rfl ?_
  exact gt_171_9 gFU x1 0 0 (gl1 rfl rfl (gl1 rfl rfl rfl)) (gl1 rfl rfl (gl1 rfl rfl rfl)) (gl1 rfl rfl gs1) gs1
def fx_172_2 (k : Nat) (x1 : Int) (σ : gb_S) : Option gb_P := match k with
  | 0 => none
  | k + 1 =>
    gq (gR x1) (
    gq (gR (σ 187 3)) (
    (if x1 < (σ 187 3) then
      gq (0 ≤ x1 ∧ x1 < 14) (
      gq (gR (σ 198 x1.toNat)) (
      (if (σ 198 x1.toNat) = 0 then
        fx_172_2 k (x1 + 1) (gb_up σ 203 x1.toNat ((σ 203 x1.toNat) + 0))
      else
        gc (fx_171 x1 σ) (fun r5 s6 =>
        gq (gR r5) (
        (if r5 = 0 then
          fx_172_2 k (x1 + 1) (gb_up s6 203 x1.toNat ((σ 203 x1.toNat) + 0))
        else
          fx_172_2 k (x1 + 1) (gb_up s6 203 x1.toNat ((σ 203 x1.toNat) + 1))))))))
    else
      some (.inl 0, σ))))
/-- TreeclerkModel.reopens -/
def fx_172 (σ : gb_S) : Option gb_P :=
  fx_172_2 gFU 0 σ
theorem gt_172_2 (k : Nat) : ∀ (x1 : Int) {lo : gh_L} (l0 : lo.lookup 0 = some (vr 187)) (l1 : lo.lookup 1 = some (vi x1)) {σ : gb_S}, gb_G (fx_172_2 k x1 σ) 6 8 none (fun _ _ => none) gk_172 c0 eV 2 lo [] σ := by
  induction k with
  | zero => intros; exact gg_n
  | succ k ih =>
    intro x1 lo l0 l1 σ
    rw [fx_172_2]
    refine gg_il 3 1 rfl rfl l1 ?_
    refine gg_al 4 0 rfl rfl l0 ?_
    refine gg_gi 7 rfl rfl rfl gcl_187 rfl ?_
    refine gg_q (fun q1 => ?_)
    refine gg_q (fun q2 => ?_)
    refine gg_ige 47 10 rfl rfl rfl rfl q1 q2 ?_ ?_
    · exact gg_vr rfl
    · refine gg_al 11 0 rfl rfl l0 ?_
      refine gg_gr 14 203 rfl rfl rfl gcl_187 rfl ?_
      refine gg_il 15 1 rfl rfl l1 ?_
      refine gg_s 16 rfl rfl ?_
      refine gg_q (fun q3 => ?_)
      refine gg_ial 17 rfl rfl gar_203 q3 ?_
      refine gg_al 18 0 rfl rfl l0 ?_
      refine gg_gr 21 198 rfl rfl rfl gcl_187 rfl ?_
      refine gg_il 22 1 rfl rfl l1 ?_
      refine gg_bal 23 rfl rfl gar_198 q3 ?_
      refine gg_q (fun q4 => ?_)
      refine gg_zeq 38 26 rfl rfl rfl rfl q4 ?_ ?_
      · refine gg_ci 39 0 rfl rfl ?_
        refine gg_add 40 rfl rfl ?_
        refine gg_ias 41 rfl rfl gar_203 q3 ?_
        refine gg_inc 44 rfl rfl l1 ?_
        refine gg_go 2 rfl rfl rfl ?_
        exact ih (x1 + 1) (gl1 rfl rfl l0) gs1
      · refine gg_al 27 0 rfl rfl l0 ?_
        refine gg_il 28 1 rfl rfl l1 ?_
        refine gg_cI 31 rfl (gm_171 _) (Nat.le_of_ble_eq_true rfl) (gb_vs rfl rfl rfl rfl rfl gcl_187 rfl rfl rfl) rfl (fun _ => rfl) (fun _ => rfl) (fun r5 s6 => ?_)
        refine gg_q (fun q7 => ?_)
        refine gg_zeq 38 34 rfl rfl rfl rfl q7 ?_ ?_
        · refine gg_ci 39 0 rfl rfl ?_
          refine gg_add 40 rfl rfl ?_
          refine gg_ias 41 rfl rfl gar_203 q3 ?_
          refine gg_inc 44 rfl rfl l1 ?_
          refine gg_go 2 rfl rfl rfl ?_
          exact ih (x1 + 1) (gl1 rfl rfl l0) gs1
        · refine gg_ci 35 1 rfl rfl ?_
          refine gg_go 39 rfl rfl rfl ?_
          refine gg_add 40 rfl rfl ?_
          refine gg_ias 41 rfl rfl gar_203 q3 ?_
          refine gg_inc 44 rfl rfl l1 ?_
          refine gg_go 2 rfl rfl rfl ?_
          exact ih (x1 + 1) (gl1 rfl rfl l0) gs1
theorem gm_172 {σ : gb_S} : gb_M (fx_172 σ) 7 c0 eV 172 [vr 187] σ := by
  rw [fx_172]
  refine gg_m (own := 8) (rt := none) (hnd := fun _ _ => none) (K := gk_172) (δ := 6) rfl rfl ?_
  refine gg_ci 1 0 rfl rfl ?_
  refine gg_s 2 rfl rfl ?_
  exact gt_172_2 gFU 0 (gl1 rfl rfl rfl) gs1
def fx_145_75 (x1 : Int) (x2 : Int) (x3 : Int) (y0 : Int) (y1 : Int) (y2 : Int) (σ : gb_S) : Option gb_P :=
  gc (fx_129 y2 y1 y0 σ) (fun r1 s2 =>
  gq (gR r1) (
  (if r1 = 0 then
    some (.inl 0, s2)
  else
    gc (fx_170 s2) (fun _ s5 =>
    gq (0 ≤ (s5 187 8) ∧ (s5 187 8) < 30) (
    gq (0 ≤ ((gb_up s5 190 (s5 187 8).toNat x1) 187 8) ∧ ((gb_up s5 190 (s5 187 8).toNat x1) 187 8) < 30) (
    gq (0 ≤ ((gb_up (gb_up s5 190 (s5 187 8).toNat x1) 191 ((gb_up s5 190 (s5 187 8).toNat x1) 187 8).toNat x2) 187 8) ∧ ((gb_up (gb_up s5 190 (s5 187 8).toNat x1) 191 ((gb_up s5 190 (s5 187 8).toNat x1) 187 8).toNat x2) 187 8) < 30) (
    gc (fx_172 (gb_up (gb_up (gb_up (gb_up (gb_up s5 190 (s5 187 8).toNat x1) 191 ((gb_up s5 190 (s5 187 8).toNat x1) 187 8).toNat x2) 192 ((gb_up (gb_up s5 190 (s5 187 8).toNat x1) 191 ((gb_up s5 190 (s5 187 8).toNat x1) 187 8).toNat x2) 187 8).toNat x3) 187 8 (((gb_up (gb_up (gb_up s5 190 (s5 187 8).toNat x1) 191 ((gb_up s5 190 (s5 187 8).toNat x1) 187 8).toNat x2) 192 ((gb_up (gb_up s5 190 (s5 187 8).toNat x1) 191 ((gb_up s5 190 (s5 187 8).toNat x1) 187 8).toNat x2) 187 8).toNat x3) 187 8) + 1)) 187 29 1)) (fun _ s10 =>
    some (.inl ((s10 187 8) - 1), s10)))))))))
def fx_145_61 (x1 : Int) (x2 : Int) (x3 : Int) (y0 : Int) (y1 : Int) (σ : gb_S) : Option gb_P :=
  gq (gR (σ 187 8)) (
  (if (σ 187 8) < 30 then
    fx_145_75 x1 x2 x3 1 y0 y1 σ
  else
    fx_145_75 x1 x2 x3 0 y0 y1 σ))
def fx_145_21 (x1 : Int) (x2 : Int) (x3 : Int) (y0 : Int) (σ : gb_S) : Option gb_P :=
  gq (gR y0) (
  (if y0 = 0 then
    fx_145_61 x1 x2 x3 0 y0 σ
  else
    gc (fx_126 x3 1 9 σ) (fun r2 s3 =>
    gq (gR r2) (
    (if r2 = 0 then
      fx_145_61 x1 x2 x3 0 y0 s3
    else
      gq (0 ≤ x2 ∧ x2 < 14) (
      gq (0 ≤ x1 ∧ x1 < 14) (
      gq (gR (s3 188 x2.toNat)) (
      gq (gR (s3 188 x1.toNat)) (
      (if (s3 188 x1.toNat) < (s3 188 x2.toNat) then
        fx_145_61 x1 x2 x3 1 y0 s3
      else
        fx_145_61 x1 x2 x3 0 y0 s3))))))))))
/-- TreeclerkModel.proof -/
def fx_145 (x1 : Int) (x2 : Int) (x3 : Int) (σ : gb_S) : Option gb_P :=
  gc (fx_131 x1 σ) (fun r1 s2 =>
  gq (gR r1) (
  (if r1 = 0 then
    fx_145_21 x1 x2 x3 0 s2
  else
    gc (fx_131 x2 s2) (fun r4 s5 =>
    gq (gR r4) (
    (if r4 = 0 then
      fx_145_21 x1 x2 x3 0 s5
    else
      fx_145_21 x1 x2 x3 1 s5))))))
theorem gt_145_75 (x1 : Int) (x2 : Int) (x3 : Int) (y0 : Int) (y1 : Int) (y2 : Int) {lo : gh_L} (l0 : lo.lookup 0 = some (vr 187)) (l1 : lo.lookup 1 = some (vi x1)) (l2 : lo.lookup 2 = some (vi x2)) (l3 : lo.lookup 3 = some (vi x3)) {σ : gb_S} : gb_G (fx_145_75 x1 x2 x3 y0 y1 y2 σ) 7 8 (some .int) (fun _ _ => none) gk_145 c0 eI 75 lo [vi y0, vi y1, vi y2, vr 187] σ := by
  rw [fx_145_75]
  refine gg_cI 78 rfl (gm_129 _ _ _) (Nat.le_of_ble_eq_true rfl) (gb_vs rfl rfl rfl rfl rfl gcl_187 rfl rfl rfl) rfl (fun _ => rfl) (fun _ => rfl) (fun r1 s2 => ?_)
  refine gg_q (fun q3 => ?_)
  refine gg_zne 83 81 rfl rfl rfl rfl q3 ?_ ?_
  · refine gg_al 84 0 rfl rfl l0 ?_
    refine gg_cV 87 rfl (gm_170) (Nat.le_of_ble_eq_true rfl) (gb_vs rfl rfl rfl rfl rfl gcl_187 rfl rfl rfl) rfl (fun _ => rfl) (fun _ => rfl) (fun s5 => ?_)
    refine gg_al 88 0 rfl rfl l0 ?_
    refine gg_gr 91 190 rfl rfl rfl gcl_187 rfl ?_
    refine gg_al 92 0 rfl rfl l0 ?_
    refine gg_gi 95 rfl rfl rfl gcl_187 rfl ?_
    refine gg_il 96 1 rfl rfl l1 ?_
    refine gg_q (fun q6 => ?_)
    refine gg_ias 97 rfl rfl gar_190 q6 ?_
    refine gg_al 98 0 rfl rfl l0 ?_
    refine gg_gr 101 191 rfl rfl rfl gcl_187 rfl ?_
    refine gg_al 102 0 rfl rfl l0 ?_
    refine gg_gi 105 rfl rfl rfl gcl_187 rfl ?_
    refine gg_il 106 2 rfl rfl l2 ?_
    refine gg_q (fun q7 => ?_)
    refine gg_ias 107 rfl rfl gar_191 q7 ?_
    refine gg_al 108 0 rfl rfl l0 ?_
    refine gg_gr 111 192 rfl rfl rfl gcl_187 rfl ?_
    refine gg_al 112 0 rfl rfl l0 ?_
    refine gg_gi 115 rfl rfl rfl gcl_187 rfl ?_
    refine gg_il 116 3 rfl rfl l3 ?_
    refine gg_q (fun q8 => ?_)
    refine gg_ias 117 rfl rfl gar_192 q8 ?_
    refine gg_al 118 0 rfl rfl l0 ?_
    refine gg_s 119 rfl rfl ?_
    refine gg_gi 122 rfl rfl rfl gcl_187 rfl ?_
    refine gg_ci 123 1 rfl rfl ?_
    refine gg_add 124 rfl rfl ?_
    refine gg_pf 127 rfl rfl rfl gcl_187 rfl ⟨rfl, rfl⟩ ?_
    refine gg_al 128 0 rfl rfl l0 ?_
    refine gg_ci 129 1 rfl rfl ?_
    refine gg_pf 132 rfl rfl rfl gcl_187 rfl ⟨rfl, rfl⟩ ?_
    refine gg_al 133 0 rfl rfl l0 ?_
    refine gg_cV 136 rfl (gm_172) (Nat.le_of_ble_eq_true rfl) (gb_vs rfl rfl rfl rfl rfl gcl_187 rfl rfl rfl) rfl (fun _ => rfl) (fun _ => rfl) (fun s10 => ?_)
    refine gg_al 137 0 rfl rfl l0 ?_
    refine gg_gi 140 rfl rfl rfl gcl_187 rfl ?_
    refine gg_ci 141 1 rfl rfl ?_
    refine gg_sub 142 rfl rfl ?_
    exact gg_ir rfl
  · refine gg_ci 82 0 rfl rfl ?_
    exact gg_ir rfl
theorem gt_145_61 (x1 : Int) (x2 : Int) (x3 : Int) (y0 : Int) (y1 : Int) {lo : gh_L} (l0 : lo.lookup 0 = some (vr 187)) (l1 : lo.lookup 1 = some (vi x1)) (l2 : lo.lookup 2 = some (vi x2)) (l3 : lo.lookup 3 = some (vi x3)) {σ : gb_S} : gb_G (fx_145_61 x1 x2 x3 y0 y1 σ) 7 8 (some .int) (fun _ _ => none) gk_145 c0 eI 61 lo [vi y0, vi y1, vr 187] σ := by
  rw [fx_145_61]
  refine gg_al 62 0 rfl rfl l0 ?_
  refine gg_gi 65 rfl rfl rfl gcl_187 rfl ?_
  refine gg_ci 67 30 rfl rfl ?_
  refine gg_q (fun q1 => ?_)
  refine gg_ige 74 70 rfl rfl rfl rfl q1 (gRl rfl) ?_ ?_
  · refine gg_ci 75 0 rfl rfl ?_
    exact gt_145_75 x1 x2 x3 0 y0 y1 l0 l1 l2 l3
  · refine gg_ci 71 1 rfl rfl ?_
    refine gg_go 75 rfl rfl rfl ?_
    exact gt_145_75 x1 x2 x3 1 y0 y1 l0 l1 l2 l3
theorem gt_145_21 (x1 : Int) (x2 : Int) (x3 : Int) (y0 : Int) {lo : gh_L} (l0 : lo.lookup 0 = some (vr 187)) (l1 : lo.lookup 1 = some (vi x1)) (l2 : lo.lookup 2 = some (vi x2)) (l3 : lo.lookup 3 = some (vi x3)) {σ : gb_S} : gb_G (fx_145_21 x1 x2 x3 y0 σ) 7 8 (some .int) (fun _ _ => none) gk_145 c0 eI 21 lo [vi y0] σ := by
  rw [fx_145_21]
  refine gg_s 23 rfl rfl ?_
  refine gg_al 24 0 rfl rfl (gl1 rfl rfl l0) ?_
  refine gg_il 26 4 rfl rfl gs1 ?_
  refine gg_il 28 4 rfl rfl gs1 ?_
  refine gg_q (fun q1 => ?_)
  refine gg_zeq 60 31 rfl rfl rfl rfl q1 ?_ ?_
  · refine gg_ci 61 0 rfl rfl ?_
    exact gt_145_61 x1 x2 x3 0 y0 (gl1 rfl rfl l0) (gl1 rfl rfl l1) (gl1 rfl rfl l2) (gl1 rfl rfl l3)
  · refine gg_il 32 3 rfl rfl (gl1 rfl rfl l3) ?_
    refine gg_ci 33 1 rfl rfl ?_
    refine gg_ci 35 9 rfl rfl ?_
    refine gg_cI 38 rfl (gm_126 _ _ _) (Nat.le_of_ble_eq_true rfl) (gb_ss rfl rfl rfl rfl rfl rfl rfl) rfl (fun _ => rfl) (fun _ => rfl) (fun r2 s3 => ?_)
    refine gg_q (fun q4 => ?_)
    refine gg_zeq 60 41 rfl rfl rfl rfl q4 ?_ ?_
    · refine gg_ci 61 0 rfl rfl ?_
      exact gt_145_61 x1 x2 x3 0 y0 (gl1 rfl rfl l0) (gl1 rfl rfl l1) (gl1 rfl rfl l2) (gl1 rfl rfl l3)
    · refine gg_al 42 0 rfl rfl (gl1 rfl rfl l0) ?_
      refine gg_gr 45 188 rfl rfl rfl gcl_187 rfl ?_
      refine gg_il 46 2 rfl rfl (gl1 rfl rfl l2) ?_
      refine gg_q (fun q5 => ?_)
      refine gg_ial 47 rfl rfl gar_188 q5 ?_
      refine gg_al 48 0 rfl rfl (gl1 rfl rfl l0) ?_
      refine gg_gr 51 188 rfl rfl rfl gcl_187 rfl ?_
      refine gg_il 52 1 rfl rfl (gl1 rfl rfl l1) ?_
      refine gg_q (fun q6 => ?_)
      refine gg_ial 53 rfl rfl gar_188 q6 ?_
      refine gg_q (fun q7 => ?_)
      refine gg_q (fun q8 => ?_)
      refine gg_ile 60 56 rfl rfl rfl rfl q7 q8 ?_ ?_
      · refine gg_ci 61 0 rfl rfl ?_
        exact gt_145_61 x1 x2 x3 0 y0 (gl1 rfl rfl l0) (gl1 rfl rfl l1) (gl1 rfl rfl l2) (gl1 rfl rfl l3)
      · refine gg_ci 57 1 rfl rfl ?_
        refine gg_go 61 rfl rfl rfl ?_
        exact gt_145_61 x1 x2 x3 1 y0 (gl1 rfl rfl l0) (gl1 rfl rfl l1) (gl1 rfl rfl l2) (gl1 rfl rfl l3)
theorem gm_145 (x1 : Int) (x2 : Int) (x3 : Int) {σ : gb_S} : gb_M (fx_145 x1 x2 x3 σ) 8 c0 eI 145 [vr 187, vi x1, vi x2, vi x3] σ := by
  rw [fx_145]
  refine gg_m (own := 8) (rt := (some .int)) (hnd := fun _ _ => none) (K := gk_145) (δ := 7) rfl rfl ?_
  refine gg_al 1 0 rfl rfl rfl ?_
  refine gg_il 2 1 rfl rfl rfl ?_
  refine gg_cI 5 rfl (gm_131 _) (Nat.le_of_ble_eq_true rfl) (gb_vs rfl rfl rfl rfl rfl gcl_187 rfl rfl rfl) rfl (fun _ => rfl) (fun _ => rfl) (fun r1 s2 => ?_)
  refine gg_q (fun q3 => ?_)
  refine gg_zeq 20 8 rfl rfl rfl rfl q3 ?_ ?_
  · refine gg_ci 21 0 rfl rfl ?_
    exact gt_145_21 x1 x2 x3 0 rfl rfl rfl rfl
  · refine gg_al 9 0 rfl rfl rfl ?_
    refine gg_il 10 2 rfl rfl rfl ?_
    refine gg_cI 13 rfl (gm_131 _) (Nat.le_of_ble_eq_true rfl) (gb_vs rfl rfl rfl rfl rfl gcl_187 rfl rfl rfl) rfl (fun _ => rfl) (fun _ => rfl) (fun r4 s5 => ?_)
    refine gg_q (fun q6 => ?_)
    refine gg_zeq 20 16 rfl rfl rfl rfl q6 ?_ ?_
    · refine gg_ci 21 0 rfl rfl ?_
      exact gt_145_21 x1 x2 x3 0 rfl rfl rfl rfl
    · refine gg_ci 17 1 rfl rfl ?_
      refine gg_go 21 rfl rfl rfl ?_
      exact gt_145_21 x1 x2 x3 1 rfl rfl rfl rfl
def fx_146_42 (x1 : Int) (x2 : Int) (y0 : Int) (y1 : Int) (y2 : Int) (σ : gb_S) : Option gb_P :=
  gc (fx_129 y2 y1 y0 σ) (fun r1 s2 =>
  gq (gR r1) (
  (if r1 = 0 then
    some (.inl 0, s2)
  else
    gc (fx_170 s2) (fun _ s5 =>
    gq (0 ≤ (s5 187 12) ∧ (s5 187 12) < 30) (
    gq (0 ≤ ((gb_up s5 194 (s5 187 12).toNat x1) 187 12) ∧ ((gb_up s5 194 (s5 187 12).toNat x1) 187 12) < 30) (
    gq (0 ≤ ((gb_up (gb_up s5 194 (s5 187 12).toNat x1) 195 ((gb_up s5 194 (s5 187 12).toNat x1) 187 12).toNat x2) 187 12) ∧ ((gb_up (gb_up s5 194 (s5 187 12).toNat x1) 195 ((gb_up s5 194 (s5 187 12).toNat x1) 187 12).toNat x2) 187 12) < 30) (
    gc (fx_172 (gb_up (gb_up (gb_up (gb_up (gb_up s5 194 (s5 187 12).toNat x1) 195 ((gb_up s5 194 (s5 187 12).toNat x1) 187 12).toNat x2) 196 ((gb_up (gb_up s5 194 (s5 187 12).toNat x1) 195 ((gb_up s5 194 (s5 187 12).toNat x1) 187 12).toNat x2) 187 12).toNat 1) 187 12 (((gb_up (gb_up (gb_up s5 194 (s5 187 12).toNat x1) 195 ((gb_up s5 194 (s5 187 12).toNat x1) 187 12).toNat x2) 196 ((gb_up (gb_up s5 194 (s5 187 12).toNat x1) 195 ((gb_up s5 194 (s5 187 12).toNat x1) 187 12).toNat x2) 187 12).toNat 1) 187 12) + 1)) 187 29 1)) (fun _ s10 =>
    some (.inl ((s10 187 12) - 1), s10)))))))))
/-- TreeclerkModel.doubt -/
def fx_146 (x1 : Int) (x2 : Int) (σ : gb_S) : Option gb_P :=
  gc (fx_132 x1 σ) (fun r1 s2 =>
  gc (fx_126 x2 1 9 s2) (fun r3 s4 =>
  gq (gR r1) (
  (if r1 = 0 then
    fx_146_42 x1 x2 0 r3 r1 s4
  else
    gq (0 ≤ x1 ∧ x1 < 30) (
    gq (gR (s4 193 x1.toNat)) (
    (if (s4 193 x1.toNat) = 0 then
      gq (gR (s4 187 12)) (
      (if (s4 187 12) < 30 then
        fx_146_42 x1 x2 1 r3 r1 s4
      else
        fx_146_42 x1 x2 0 r3 r1 s4))
    else
      fx_146_42 x1 x2 0 r3 r1 s4)))))))
theorem gt_146_42 (x1 : Int) (x2 : Int) (y0 : Int) (y1 : Int) (y2 : Int) {lo : gh_L} (l0 : lo.lookup 0 = some (vr 187)) (l1 : lo.lookup 1 = some (vi x1)) (l2 : lo.lookup 2 = some (vi x2)) {σ : gb_S} : gb_G (fx_146_42 x1 x2 y0 y1 y2 σ) 7 8 (some .int) (fun _ _ => none) gk_146 c0 eI 42 lo [vi y0, vi y1, vi y2, vr 187] σ := by
  rw [fx_146_42]
  refine gg_cI 45 rfl (gm_129 _ _ _) (Nat.le_of_ble_eq_true rfl) (gb_vs rfl rfl rfl rfl rfl gcl_187 rfl rfl rfl) rfl (fun _ => rfl) (fun _ => rfl) (fun r1 s2 => ?_)
  refine gg_q (fun q3 => ?_)
  refine gg_zne 50 48 rfl rfl rfl rfl q3 ?_ ?_
  · refine gg_al 51 0 rfl rfl l0 ?_
    refine gg_cV 54 rfl (gm_170) (Nat.le_of_ble_eq_true rfl) (gb_vs rfl rfl rfl rfl rfl gcl_187 rfl rfl rfl) rfl (fun _ => rfl) (fun _ => rfl) (fun s5 => ?_)
    refine gg_al 55 0 rfl rfl l0 ?_
    refine gg_gr 58 194 rfl rfl rfl gcl_187 rfl ?_
    refine gg_al 59 0 rfl rfl l0 ?_
    refine gg_gi 62 rfl rfl rfl gcl_187 rfl ?_
    refine gg_il 63 1 rfl rfl l1 ?_
    refine gg_q (fun q6 => ?_)
    refine gg_ias 64 rfl rfl gar_194 q6 ?_
    refine gg_al 65 0 rfl rfl l0 ?_
    refine gg_gr 68 195 rfl rfl rfl gcl_187 rfl ?_
    refine gg_al 69 0 rfl rfl l0 ?_
    refine gg_gi 72 rfl rfl rfl gcl_187 rfl ?_
    refine gg_il 73 2 rfl rfl l2 ?_
    refine gg_q (fun q7 => ?_)
    refine gg_ias 74 rfl rfl gar_195 q7 ?_
    refine gg_al 75 0 rfl rfl l0 ?_
    refine gg_gr 78 196 rfl rfl rfl gcl_187 rfl ?_
    refine gg_al 79 0 rfl rfl l0 ?_
    refine gg_gi 82 rfl rfl rfl gcl_187 rfl ?_
    refine gg_ci 83 1 rfl rfl ?_
    refine gg_q (fun q8 => ?_)
    refine gg_bas 84 rfl rfl gar_196 q8 (Or.inr rfl) ?_
    refine gg_al 85 0 rfl rfl l0 ?_
    refine gg_s 86 rfl rfl ?_
    refine gg_gi 89 rfl rfl rfl gcl_187 rfl ?_
    refine gg_ci 90 1 rfl rfl ?_
    refine gg_add 91 rfl rfl ?_
    refine gg_pf 94 rfl rfl rfl gcl_187 rfl ⟨rfl, rfl⟩ ?_
    refine gg_al 95 0 rfl rfl l0 ?_
    refine gg_ci 96 1 rfl rfl ?_
    refine gg_pf 99 rfl rfl rfl gcl_187 rfl ⟨rfl, rfl⟩ ?_
    refine gg_al 100 0 rfl rfl l0 ?_
    refine gg_cV 103 rfl (gm_172) (Nat.le_of_ble_eq_true rfl) (gb_vs rfl rfl rfl rfl rfl gcl_187 rfl rfl rfl) rfl (fun _ => rfl) (fun _ => rfl) (fun s10 => ?_)
    refine gg_al 104 0 rfl rfl l0 ?_
    refine gg_gi 107 rfl rfl rfl gcl_187 rfl ?_
    refine gg_ci 108 1 rfl rfl ?_
    refine gg_sub 109 rfl rfl ?_
    exact gg_ir rfl
  · refine gg_ci 49 0 rfl rfl ?_
    exact gg_ir rfl
theorem gm_146 (x1 : Int) (x2 : Int) {σ : gb_S} : gb_M (fx_146 x1 x2 σ) 8 c0 eI 146 [vr 187, vi x1, vi x2] σ := by
  rw [fx_146]
  refine gg_m (own := 8) (rt := (some .int)) (hnd := fun _ _ => none) (K := gk_146) (δ := 7) rfl rfl ?_
  refine gg_al 1 0 rfl rfl rfl ?_
  refine gg_il 2 1 rfl rfl rfl ?_
  refine gg_cI 5 rfl (gm_132 _) (Nat.le_of_ble_eq_true rfl) (gb_vs rfl rfl rfl rfl rfl gcl_187 rfl rfl rfl) rfl (fun _ => rfl) (fun _ => rfl) (fun r1 s2 => ?_)
  refine gg_s 6 rfl rfl ?_
  refine gg_al 7 0 rfl rfl (gl1 rfl rfl rfl) ?_
  refine gg_il 8 3 rfl rfl gs1 ?_
  refine gg_il 9 2 rfl rfl (gl1 rfl rfl rfl) ?_
  refine gg_ci 10 1 rfl rfl ?_
  refine gg_ci 12 9 rfl rfl ?_
  refine gg_cI 15 rfl (gm_126 _ _ _) (Nat.le_of_ble_eq_true rfl) (gb_ss rfl rfl rfl rfl rfl rfl rfl) rfl (fun _ => rfl) (fun _ => rfl) (fun r3 s4 => ?_)
  refine gg_il 16 3 rfl rfl gs1 ?_
  refine gg_q (fun q5 => ?_)
  refine gg_zeq 41 19 rfl rfl rfl rfl q5 ?_ ?_
  · refine gg_ci 42 0 rfl rfl ?_
    exact gt_146_42 x1 x2 0 r3 r1 (gl1 rfl rfl rfl) (gl1 rfl rfl rfl) (gl1 rfl rfl rfl)
  · refine gg_al 20 0 rfl rfl (gl1 rfl rfl rfl) ?_
    refine gg_gr 23 193 rfl rfl rfl gcl_187 rfl ?_
    refine gg_il 24 1 rfl rfl (gl1 rfl rfl rfl) ?_
    refine gg_q (fun q6 => ?_)
    refine gg_bal 25 rfl rfl gar_193 q6 ?_
    refine gg_q (fun q7 => ?_)
    refine gg_zne 41 28 rfl rfl rfl rfl q7 ?_ ?_
    · refine gg_ci 42 0 rfl rfl ?_
      exact gt_146_42 x1 x2 0 r3 r1 (gl1 rfl rfl rfl) (gl1 rfl rfl rfl) (gl1 rfl rfl rfl)
    · refine gg_al 29 0 rfl rfl (gl1 rfl rfl rfl) ?_
      refine gg_gi 32 rfl rfl rfl gcl_187 rfl ?_
      refine gg_ci 34 30 rfl rfl ?_
      refine gg_q (fun q8 => ?_)
      refine gg_ige 41 37 rfl rfl rfl rfl q8 (gRl rfl) ?_ ?_
      · refine gg_ci 42 0 rfl rfl ?_
        exact gt_146_42 x1 x2 0 r3 r1 (gl1 rfl rfl rfl) (gl1 rfl rfl rfl) (gl1 rfl rfl rfl)
      · refine gg_ci 38 1 rfl rfl ?_
        refine gg_go 42 rfl rfl rfl ?_
        exact gt_146_42 x1 x2 1 r3 r1 (gl1 rfl rfl rfl) (gl1 rfl rfl rfl) (gl1 rfl rfl rfl)
end GF7
