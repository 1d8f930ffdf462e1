section GF6
variable {c0 : gh_C}
def fx_143_132 (k42 : Int → gb_S → Option gb_P) (k66 : Int → Int → gb_S → Option gb_P) (x1 : Int) (x2 : Int) (x3 : Int) (σ : gb_S) : Option gb_P :=
  gq (gR x3) (
  (if 0 < x3 then
    gq (0 ≤ x1 ∧ x1 < 14) (
    gq (gR (σ 213 x1.toNat)) (
    (if (σ 213 x1.toNat) = (-1) then
      k66 x1 (x2 + 1) (gb_up σ 213 x1.toNat x2)
    else
      gc (fx_142 (σ 213 x1.toNat) x1 σ) (fun r4 s5 =>
      gq (gR r4) (
      (if r4 < x3 then
        k66 x1 (x2 + 1) (gb_up s5 213 x1.toNat x2)
      else
        k66 x1 (x2 + 1) s5))))))
  else
    k66 x1 (x2 + 1) σ))
def fx_143_110 (k42 : Int → gb_S → Option gb_P) (k66 : Int → Int → gb_S → Option gb_P) (x1 : Int) (x2 : Int) (σ : gb_S) : Option gb_P :=
  gq (0 ≤ x1 ∧ x1 < 14) (
  k66 x1 (x2 + 1) (gb_up (gb_up σ 213 x1.toNat (σ 212 x1.toNat)) 212 x1.toNat x2))
def fx_143_66 (k : Nat) (k42 : Int → gb_S → Option gb_P) (x1 : Int) (x2 : Int) (σ : gb_S) : Option gb_P := match k with
  | 0 => none
  | k + 1 =>
    gq (gR x2) (
    gq (gR (σ 187 3)) (
    (if x2 < (σ 187 3) then
      gc (fx_142 x2 x1 σ) (fun r3 s4 =>
      gq (gR r3) (
      (if 0 < r3 then
        gq (0 ≤ x1 ∧ x1 < 14) (
        gq (gR (s4 212 x1.toNat)) (
        (if (s4 212 x1.toNat) = (-1) then
          fx_143_110 k42 (fx_143_66 k k42) x1 x2 s4
        else
          gc (fx_142 (s4 212 x1.toNat) x1 s4) (fun r8 s9 =>
          gq (gR r8) (
          (if r8 < r3 then
            fx_143_110 k42 (fx_143_66 k k42) x1 x2 s9
          else
            fx_143_132 k42 (fx_143_66 k k42) x1 x2 r3 s9))))))
      else
        fx_143_132 k42 (fx_143_66 k k42) x1 x2 r3 s4)))
    else
      k42 (x1 + 1) σ)))
def fx_143_42 (k : Nat) (x1 : Int) (σ : gb_S) : Option gb_P := match k with
  | 0 => none
  | k + 1 =>
    gq (gR x1) (
    gq (gR (σ 187 3)) (
    (if x1 < (σ 187 3) then
      gq (0 ≤ x1 ∧ x1 < 14) (
      fx_143_66 gFU (fx_143_42 k) x1 0 (gb_up (gb_up σ 212 x1.toNat (-1)) 213 x1.toNat (-1)))
    else
      some (.inl 0, σ))))
def fx_143_15 (k : Nat) (x1 : Int) (σ : gb_S) : Option gb_P := match k with
  | 0 => none
  | k + 1 =>
    gq (gR x1) (
    gq (gR (σ 187 8)) (
    (if x1 < (σ 187 8) then
      gc (fx_141 x1 σ) (fun r3 s4 =>
      gq (0 ≤ x1 ∧ x1 < 30) (
      fx_143_15 k (x1 + 1) (gb_up s4 211 x1.toNat r3)))
    else
      fx_143_42 gFU 0 σ)))
/-- TreeclerkModel.findsKin -/
def fx_143 (σ : gb_S) : Option gb_P :=
  gq (gR (σ 187 29)) (
  (if (σ 187 29) = 0 then
    some (.inl 0, σ)
  else
    fx_143_15 gFU 0 (gb_up σ 187 29 0)))
theorem gt_143_132 {k42 : Int → gb_S → Option gb_P} (hk42 : ∀ (x1 : Int) {lo : gh_L} (l0 : lo.lookup 0 = some (vr 187)) (l1 : lo.lookup 1 = some (vi x1)) {σ : gb_S}, gb_G (k42 x1 σ) 1 8 none (fun _ _ => none) gk_143 c0 eV 42 lo [] σ) {k66 : Int → Int → gb_S → Option gb_P} (hk66 : ∀ (x1 : Int) (x2 : Int) {lo : gh_L} (l0 : lo.lookup 0 = some (vr 187)) (l1 : lo.lookup 1 = some (vi x1)) (l2 : lo.lookup 2 = some (vi x2)) {σ : gb_S}, gb_G (k66 x1 x2 σ) 1 8 none (fun _ _ => none) gk_143 c0 eV 66 lo [] σ) (x1 : Int) (x2 : Int) (x3 : Int) {lo : gh_L} (l0 : lo.lookup 0 = some (vr 187)) (l1 : lo.lookup 1 = some (vi x1)) (l2 : lo.lookup 2 = some (vi x2)) (l3 : lo.lookup 3 = some (vi x3)) {σ : gb_S} : gb_G (fx_143_132 k42 k66 x1 x2 x3 σ) 1 8 none (fun _ _ => none) gk_143 c0 eV 132 lo [] σ := by
  rw [fx_143_132]
  refine gg_il 133 3 rfl rfl l3 ?_
  refine gg_q (fun q1 => ?_)
  refine gg_zle 168 136 rfl rfl rfl rfl q1 ?_ ?_
  · refine gg_inc 171 rfl rfl l2 ?_
    refine gg_go 66 rfl rfl rfl ?_
    exact hk66 x1 (x2 + 1) (gl1 rfl rfl l0) (gl1 rfl rfl l1) gs1
  · refine gg_al 137 0 rfl rfl l0 ?_
    refine gg_gr 140 213 rfl rfl rfl gcl_187 rfl ?_
    refine gg_il 141 1 rfl rfl l1 ?_
    refine gg_q (fun q2 => ?_)
    refine gg_ial 142 rfl rfl gar_213 q2 ?_
    refine gg_ci 143 (-1) rfl rfl ?_
    refine gg_q (fun q3 => ?_)
    refine gg_ieq 161 146 rfl rfl rfl rfl q3 (gRl rfl) ?_ ?_
    · refine gg_al 162 0 rfl rfl l0 ?_
      refine gg_gr 165 213 rfl rfl rfl gcl_187 rfl ?_
      refine gg_il 166 1 rfl rfl l1 ?_
      refine gg_il 167 2 rfl rfl l2 ?_
      refine gg_ias 168 rfl rfl gar_213 q2 ?_
      refine gg_inc 171 rfl rfl l2 ?_
      refine gg_go 66 rfl rfl rfl ?_
      exact hk66 x1 (x2 + 1) (gl1 rfl rfl l0) (gl1 rfl rfl l1) gs1
    · refine gg_il 147 3 rfl rfl l3 ?_
      refine gg_al 148 0 rfl rfl l0 ?_
      refine gg_al 149 0 rfl rfl l0 ?_
      refine gg_gr 152 213 rfl rfl rfl gcl_187 rfl ?_
      refine gg_il 153 1 rfl rfl l1 ?_
      refine gg_ial 154 rfl rfl gar_213 q2 ?_
      refine gg_il 155 1 rfl rfl l1 ?_
      refine gg_cI 158 rfl (gm_142 _ _) (Nat.le_of_ble_eq_true rfl) (gb_vs rfl rfl rfl rfl rfl gcl_187 rfl rfl rfl) rfl (fun _ => rfl) (fun _ => rfl) (fun r4 s5 => ?_)
      refine gg_q (fun q6 => ?_)
      refine gg_ile 168 161 rfl rfl rfl rfl q1 q6 ?_ ?_
      · refine gg_inc 171 rfl rfl l2 ?_
        refine gg_go 66 rfl rfl rfl ?_
        exact hk66 x1 (x2 + 1) (gl1 rfl rfl l0) (gl1 rfl rfl l1) gs1
      · refine gg_al 162 0 rfl rfl l0 ?_
        refine gg_gr 165 213 rfl rfl rfl gcl_187 rfl ?_
        refine gg_il 166 1 rfl rfl l1 ?_
        refine gg_il 167 2 rfl rfl l2 ?_
        refine gg_ias 168 rfl rfl gar_213 q2 ?_
        refine gg_inc 171 rfl rfl l2 ?_
        refine gg_go 66 rfl rfl rfl ?_
        exact hk66 x1 (x2 + 1) (gl1 rfl rfl l0) (gl1 rfl rfl l1) gs1
theorem gt_143_110 {k42 : Int → gb_S → Option gb_P} (hk42 : ∀ (x1 : Int) {lo : gh_L} (l0 : lo.lookup 0 = some (vr 187)) (l1 : lo.lookup 1 = some (vi x1)) {σ : gb_S}, gb_G (k42 x1 σ) 1 8 none (fun _ _ => none) gk_143 c0 eV 42 lo [] σ) {k66 : Int → Int → gb_S → Option gb_P} (hk66 : ∀ (x1 : Int) (x2 : Int) {lo : gh_L} (l0 : lo.lookup 0 = some (vr 187)) (l1 : lo.lookup 1 = some (vi x1)) (l2 : lo.lookup 2 = some (vi x2)) {σ : gb_S}, gb_G (k66 x1 x2 σ) 1 8 none (fun _ _ => none) gk_143 c0 eV 66 lo [] σ) (x1 : Int) (x2 : Int) {lo : gh_L} (l0 : lo.lookup 0 = some (vr 187)) (l1 : lo.lookup 1 = some (vi x1)) (l2 : lo.lookup 2 = some (vi x2)) {σ : gb_S} : gb_G (fx_143_110 k42 k66 x1 x2 σ) 1 8 none (fun _ _ => none) gk_143 c0 eV 110 lo [] σ := by
  rw [fx_143_110]
  refine gg_al 111 0 rfl rfl l0 ?_
  refine gg_gr 114 213 rfl rfl rfl gcl_187 rfl ?_
  refine gg_il 115 1 rfl rfl l1 ?_
  refine gg_al 116 0 rfl rfl l0 ?_
  refine gg_gr 119 212 rfl rfl rfl gcl_187 rfl ?_
  refine gg_il 120 1 rfl rfl l1 ?_
  refine gg_q (fun q1 => ?_)
  refine gg_ial 121 rfl rfl gar_212 q1 ?_
  refine gg_ias 122 rfl rfl gar_213 q1 ?_
  refine gg_al 123 0 rfl rfl l0 ?_
  refine gg_gr 126 212 rfl rfl rfl gcl_187 rfl ?_
  refine gg_il 127 1 rfl rfl l1 ?_
  refine gg_il 128 2 rfl rfl l2 ?_
  refine gg_ias 129 rfl rfl gar_212 q1 ?_
  refine gg_go 168 rfl rfl rfl ?_
  refine gg_inc 171 rfl rfl l2 ?_
  refine gg_go 66 rfl rfl rfl ?_
  exact hk66 x1 (x2 + 1) (gl1 rfl rfl l0) (gl1 rfl rfl l1) gs1
theorem gt_143_66 (k : Nat) {k42 : Int → gb_S → Option gb_P} (hk42 : ∀ (x1 : Int) {lo : gh_L} (l0 : lo.lookup 0 = some (vr 187)) (l1 : lo.lookup 1 = some (vi x1)) {σ : gb_S}, gb_G (k42 x1 σ) 1 8 none (fun _ _ => none) gk_143 c0 eV 42 lo [] σ) : ∀ (x1 : Int) (x2 : Int) {lo : gh_L} (l0 : lo.lookup 0 = some (vr 187)) (l1 : lo.lookup 1 = some (vi x1)) (l2 : lo.lookup 2 = some (vi x2)) {σ : gb_S}, gb_G (fx_143_66 k k42 x1 x2 σ) 1 8 none (fun _ _ => none) gk_143 c0 eV 66 lo [] σ := by
  induction k with
  | zero => intros; exact gg_n
  | succ k ih =>
    intro x1 x2 lo l0 l1 l2 σ
    rw [fx_143_66]
    refine gg_il 67 2 rfl rfl l2 ?_
    refine gg_al 68 0 rfl rfl l0 ?_
    refine gg_gi 71 rfl rfl rfl gcl_187 rfl ?_
    refine gg_q (fun q1 => ?_)
    refine gg_q (fun q2 => ?_)
    refine gg_ige 174 74 rfl rfl rfl rfl q1 q2 ?_ ?_
    · refine gg_inc 177 rfl rfl l1 ?_
      refine gg_go 42 rfl rfl rfl ?_
      exact hk42 (x1 + 1) (gl1 rfl rfl l0) gs1
    · refine gg_al 75 0 rfl rfl l0 ?_
      refine gg_il 76 2 rfl rfl l2 ?_
      refine gg_il 77 1 rfl rfl l1 ?_
      refine gg_cI 80 rfl (gm_142 _ _) (Nat.le_of_ble_eq_true rfl) (gb_vs rfl rfl rfl rfl rfl gcl_187 rfl rfl rfl) rfl (fun _ => rfl) (fun _ => rfl) (fun r3 s4 => ?_)
      refine gg_s 81 rfl rfl ?_
      refine gg_il 82 3 rfl rfl gs1 ?_
      refine gg_q (fun q5 => ?_)
      refine gg_zle 132 85 rfl rfl rfl rfl q5 ?_ ?_
      · exact gt_143_132 hk42 ih x1 x2 r3 (gl1 rfl rfl l0) (gl1 rfl rfl l1) (gl1 rfl rfl l2) gs1
      · refine gg_al 86 0 rfl rfl (gl1 rfl rfl l0) ?_
        refine gg_gr 89 212 rfl rfl rfl gcl_187 rfl ?_
        refine gg_il 90 1 rfl rfl (gl1 rfl rfl l1) ?_
        refine gg_q (fun q6 => ?_)
        refine gg_ial 91 rfl rfl gar_212 q6 ?_
        refine gg_ci 92 (-1) rfl rfl ?_
        refine gg_q (fun q7 => ?_)
        refine gg_ieq 110 95 rfl rfl rfl rfl q7 (gRl rfl) ?_ ?_
        · exact gt_143_110 hk42 ih x1 x2 (gl1 rfl rfl l0) (gl1 rfl rfl l1) (gl1 rfl rfl l2)
        · refine gg_il 96 3 rfl rfl gs1 ?_
          refine gg_al 97 0 rfl rfl (gl1 rfl rfl l0) ?_
          refine gg_al 98 0 rfl rfl (gl1 rfl rfl l0) ?_
          refine gg_gr 101 212 rfl rfl rfl gcl_187 rfl ?_
          refine gg_il 102 1 rfl rfl (gl1 rfl rfl l1) ?_
          refine gg_ial 103 rfl rfl gar_212 q6 ?_
          refine gg_il 104 1 rfl rfl (gl1 rfl rfl l1) ?_
          refine gg_cI 107 rfl (gm_142 _ _) (Nat.le_of_ble_eq_true rfl) (gb_vs rfl rfl rfl rfl rfl gcl_187 rfl rfl rfl) rfl (fun _ => rfl) (fun _ => rfl) (fun r8 s9 => ?_)
          refine gg_q (fun q10 => ?_)
          refine gg_ile 132 110 rfl rfl rfl rfl q5 q10 ?_ ?_
          · exact gt_143_132 hk42 ih x1 x2 r3 (gl1 rfl rfl l0) (gl1 rfl rfl l1) (gl1 rfl rfl l2) gs1
          · exact gt_143_110 hk42 ih x1 x2 (gl1 rfl rfl l0) (gl1 rfl rfl l1) (gl1 rfl rfl l2)
theorem gt_143_42 (k : Nat) : ∀ (x1 : Int) {lo : gh_L} (l0 : lo.lookup 0 = some (vr 187)) (l1 : lo.lookup 1 = some (vi x1)) {σ : gb_S}, gb_G (fx_143_42 k x1 σ) 1 8 none (fun _ _ => none) gk_143 c0 eV 42 lo [] σ := by
  induction k with
  | zero => intros; exact gg_n
  | succ k ih =>
    intro x1 lo l0 l1 σ
    rw [fx_143_42]
    refine gg_il 43 1 rfl rfl l1 ?_
    refine gg_al 44 0 rfl rfl l0 ?_
    refine gg_gi 47 rfl rfl rfl gcl_187 rfl ?_
    refine gg_q (fun q1 => ?_)
    refine gg_q (fun q2 => ?_)
    refine gg_ige 180 50 rfl rfl rfl rfl q1 q2 ?_ ?_
    · exact gg_vr rfl
    · refine gg_al 51 0 rfl rfl l0 ?_
      refine gg_gr 54 212 rfl rfl rfl gcl_187 rfl ?_
      refine gg_il 55 1 rfl rfl l1 ?_
      refine gg_ci 56 (-1) rfl rfl ?_
      refine gg_q (fun q3 => ?_)
      refine gg_ias 57 rfl rfl gar_212 q3 ?_
      refine gg_al 58 0 rfl rfl l0 ?_
      refine gg_gr 61 213 rfl rfl rfl gcl_187 rfl ?_
      refine gg_il 62 1 rfl rfl l1 ?_
      refine gg_ci 63 (-1) rfl rfl ?_
      refine gg_ias 64 rfl rfl gar_213 q3 ?_
      refine gg_ci 65 0 rfl rfl ?_
      refine gg_s 66 rfl rfl ?_
      exact gt_143_66 gFU ih x1 0 (gl1 rfl rfl l0) (gl1 rfl rfl l1) gs1
theorem gt_143_15 (k : Nat) : ∀ (x1 : Int) {lo : gh_L} (l0 : lo.lookup 0 = some (vr 187)) (l1 : lo.lookup 1 = some (vi x1)) {σ : gb_S}, gb_G (fx_143_15 k x1 σ) 1 8 none (fun _ _ => none) gk_143 c0 eV 15 lo [] σ := by
  induction k with
  | zero => intros; exact gg_n
  | succ k ih =>
    intro x1 lo l0 l1 σ
    rw [fx_143_15]
    refine gg_il 16 1 rfl rfl l1 ?_
    refine gg_al 17 0 rfl rfl l0 ?_
    refine gg_gi 20 rfl rfl rfl gcl_187 rfl ?_
    refine gg_q (fun q1 => ?_)
    refine gg_q (fun q2 => ?_)
    refine gg_ige 40 23 rfl rfl rfl rfl q1 q2 ?_ ?_
    · refine gg_ci 41 0 rfl rfl ?_
      refine gg_s 42 rfl rfl ?_
      exact gt_143_42 gFU 0 (gl1 rfl rfl l0) gs1
    · refine gg_al 24 0 rfl rfl l0 ?_
      refine gg_gr 27 211 rfl rfl rfl gcl_187 rfl ?_
      refine gg_il 28 1 rfl rfl l1 ?_
      refine gg_al 29 0 rfl rfl l0 ?_
      refine gg_il 30 1 rfl rfl l1 ?_
      refine gg_cI 33 rfl (gm_141 _) (Nat.le_of_ble_eq_true rfl) (gb_vs rfl rfl rfl rfl rfl gcl_187 rfl rfl rfl) rfl (fun _ => rfl) (fun _ => rfl) (fun r3 s4 => ?_)
      refine gg_q (fun q5 => ?_)
      refine gg_ias 34 rfl rfl gar_211 q5 ?_
      refine gg_inc 37 rfl rfl l1 ?_
      refine gg_go 15 rfl rfl rfl ?_
      exact ih (x1 + 1) (gl1 rfl rfl l0) gs1
theorem gm_143 {σ : gb_S} : gb_M (fx_143 σ) 2 c0 eV 143 [vr 187] σ := by
  rw [fx_143]
  refine gg_m (own := 8) (rt := none) (hnd := fun _ _ => none) (K := gk_143) (δ := 1) rfl rfl ?_
  refine gg_al 1 0 rfl rfl rfl ?_
  refine gg_gi 4 rfl rfl rfl gcl_187 rfl ?_
  refine gg_q (fun q1 => ?_)
  refine gg_zne 8 7 rfl rfl rfl rfl q1 ?_ ?_
  · refine gg_al 9 0 rfl rfl rfl ?_
    refine gg_ci 10 0 rfl rfl ?_
    refine gg_pf 13 rfl rfl rfl gcl_187 rfl ⟨rfl, rfl⟩ ?_
    refine gg_ci 14 0 rfl rfl ?_
    refine gg_s 15 rfl rfl ?_
    exact gt_143_15 gFU 0 (gl1 rfl rfl rfl) gs1
  · exact gg_vr rfl
/-- TreeclerkModel.isParent -/
def fx_144 (x1 : Int) (x2 : Int) (σ : gb_S) : Option gb_P :=
  gq (0 ≤ x2 ∧ x2 < 14) (
  gq (gR (σ 212 x2.toNat)) (
  gq (gR x1) (
  (if (σ 212 x2.toNat) = x1 then
    some (.inl 1, σ)
  else
    gq (gR (σ 213 x2.toNat)) (
    (if (σ 213 x2.toNat) = x1 then
      some (.inl 1, σ)
    else
      some (.inl 0, σ)))))))
theorem gm_144 (x1 : Int) (x2 : Int) {σ : gb_S} : gb_M (fx_144 x1 x2 σ) 1 c0 eI 144 [vr 187, vi x1, vi x2] σ := by
  rw [fx_144]
  refine gg_m (own := 8) (rt := (some .boolean)) (hnd := fun _ _ => none) (K := gk_144) (δ := 0) rfl rfl ?_
  refine gg_al 1 0 rfl rfl rfl ?_
  refine gg_gr 4 212 rfl rfl rfl gcl_187 rfl ?_
  refine gg_il 5 2 rfl rfl rfl ?_
  refine gg_q (fun q1 => ?_)
  refine gg_ial 6 rfl rfl gar_212 q1 ?_
  refine gg_il 7 1 rfl rfl rfl ?_
  refine gg_q (fun q2 => ?_)
  refine gg_q (fun q3 => ?_)
  refine gg_ieq 20 10 rfl rfl rfl rfl q2 q3 ?_ ?_
  · refine gg_ci 21 1 rfl rfl ?_
    refine gg_go 25 rfl rfl rfl ?_
    exact gg_zr rfl (Or.inr rfl)
  · refine gg_al 11 0 rfl rfl rfl ?_
    refine gg_gr 14 213 rfl rfl rfl gcl_187 rfl ?_
    refine gg_il 15 2 rfl rfl rfl ?_
    refine gg_ial 16 rfl rfl gar_213 q1 ?_
    refine gg_il 17 1 rfl rfl rfl ?_
    refine gg_q (fun q4 => ?_)
    refine gg_ine 24 20 rfl rfl rfl rfl q4 q3 ?_ ?_
    · refine gg_ci 25 0 rfl rfl ?_
      exact gg_zr rfl (Or.inl rfl)
    · refine gg_ci 21 1 rfl rfl ?_
      refine gg_go 25 rfl rfl rfl ?_
      exact gg_zr rfl (Or.inr rfl)
/-- TreeclerkModel.wasAlive -/
def fx_158 (x1 : Int) (x2 : Int) (σ : gb_S) : Option gb_P :=
  gq (0 ≤ x2 ∧ x2 < 14) (
  gq (gR (σ 198 x2.toNat)) (
  (if (σ 198 x2.toNat) = 0 then
    gq (0 ≤ x1 ∧ x1 < 14) (
    gq (gR (σ 189 x1.toNat)) (
    (if (σ 189 x1.toNat) = (-1) then
      some (.inl 1, σ)
    else
      some (.inl 0, σ))))
  else
    gq (gR x1) (
    gq (gR (σ 200 x2.toNat)) (
    (if x1 < (σ 200 x2.toNat) then
      gq (gR (gb_and (gb_shr (σ 199 x2.toNat) x1) 1)) (
      (if (gb_and (gb_shr (σ 199 x2.toNat) x1) 1) = 1 then
        some (.inl 1, σ)
      else
        some (.inl 0, σ)))
    else
      some (.inl 1, σ)))))))
theorem gm_158 (x1 : Int) (x2 : Int) {σ : gb_S} : gb_M (fx_158 x1 x2 σ) 1 c0 eI 158 [vr 187, vi x1, vi x2] σ := by
  rw [fx_158]
  refine gg_m (own := 8) (rt := (some .boolean)) (hnd := fun _ _ => none) (K := gk_158) (δ := 0) rfl rfl ?_
  refine gg_al 1 0 rfl rfl rfl ?_
  refine gg_gr 4 198 rfl rfl rfl gcl_187 rfl ?_
  refine gg_il 5 2 rfl rfl rfl ?_
  refine gg_q (fun q1 => ?_)
  refine gg_bal 6 rfl rfl gar_198 q1 ?_
  refine gg_q (fun q2 => ?_)
  refine gg_zeq 41 9 rfl rfl rfl rfl q2 ?_ ?_
  · refine gg_al 42 0 rfl rfl rfl ?_
    refine gg_gr 45 189 rfl rfl rfl gcl_187 rfl ?_
    refine gg_il 46 1 rfl rfl rfl ?_
    refine gg_q (fun q3 => ?_)
    refine gg_ial 47 rfl rfl gar_189 q3 ?_
    refine gg_ci 48 (-1) rfl rfl ?_
    refine gg_q (fun q4 => ?_)
    refine gg_ine 55 51 rfl rfl rfl rfl q4 (gRl rfl) ?_ ?_
    · refine gg_ci 56 0 rfl rfl ?_
      exact gg_zr rfl (Or.inl rfl)
    · refine gg_ci 52 1 rfl rfl ?_
      refine gg_go 56 rfl rfl rfl ?_
      exact gg_zr rfl (Or.inr rfl)
  · refine gg_il 10 1 rfl rfl rfl ?_
    refine gg_al 11 0 rfl rfl rfl ?_
    refine gg_gr 14 200 rfl rfl rfl gcl_187 rfl ?_
    refine gg_il 15 2 rfl rfl rfl ?_
    refine gg_ial 16 rfl rfl gar_200 q1 ?_
    refine gg_q (fun q5 => ?_)
    refine gg_q (fun q6 => ?_)
    refine gg_ige 33 19 rfl rfl rfl rfl q5 q6 ?_ ?_
    · refine gg_ci 34 1 rfl rfl ?_
      refine gg_go 56 rfl rfl rfl ?_
      exact gg_zr rfl (Or.inr rfl)
    · refine gg_al 20 0 rfl rfl rfl ?_
      refine gg_gr 23 199 rfl rfl rfl gcl_187 rfl ?_
      refine gg_il 24 2 rfl rfl rfl ?_
      refine gg_ial 25 rfl rfl gar_199 q1 ?_
      refine gg_il 26 1 rfl rfl rfl ?_
      refine gg_shr 27 rfl rfl ?_
      refine gg_ci 28 1 rfl rfl ?_
      refine gg_and 29 rfl rfl ?_
      refine gg_ci 30 1 rfl rfl ?_
      refine gg_q (fun q7 => ?_)
      refine gg_ine 37 33 rfl rfl rfl rfl q7 (gRl rfl) ?_ ?_
      · refine gg_ci 38 0 rfl rfl ?_
        refine gg_go 56 rfl rfl rfl ?_
        exact gg_zr rfl (Or.inl rfl)
      · refine gg_ci 34 1 rfl rfl ?_
        refine gg_go 56 rfl rfl rfl ?_
        exact gg_zr rfl (Or.inr rfl)
def fx_163_6 (k : Nat) (x4 : Int) (x6 : Int) (σ : gb_S) : Option gb_P := match k with
  | 0 => none
  | k + 1 =>
    gq (gRL x6) (
    (if 0 < x6 then
      gq ((0 ≤ x4 ∧ x4 ≤ 9223372036854775807) ∧ 0 < x6 ∧ x6 ≤ 9223372036854775807) (
      fx_163_6 k x6 (x4 % x6) σ)
    else
      some (.inl x4, σ)))
/-- TreeclerkModel.common -/
def fx_163 (x0 : Int) (x2 : Int) (σ : gb_S) : Option gb_P :=
  fx_163_6 gFU x0 x2 σ
theorem gt_163_6 (k : Nat) : ∀ (x4 : Int) (x6 : Int) {lo : gh_L} (l4 : lo.lookup 4 = some (vl x4)) (l6 : lo.lookup 6 = some (vl x6)) {σ : gb_S}, gb_G (fx_163_6 k x4 x6 σ) 0 8 (some .long) (fun _ _ => none) gk_163 c0 eL 6 lo [] σ := by
  induction k with
  | zero => intros; exact gg_n
  | succ k ih =>
    intro x4 x6 lo l4 l6 σ
    rw [fx_163_6]
    refine gg_ll 8 6 rfl rfl l6 ?_
    refine gg_cl 9 0 rfl rfl ?_
    refine gg_q (fun q1 => ?_)
    refine gg_Lle 31 13 rfl rfl rfl rfl rfl q1 ⟨by decide, by decide⟩ ?_ ?_
    · refine gg_ll 33 4 rfl rfl l4 ?_
      exact gg_lr rfl
    · refine gg_ll 15 4 rfl rfl l4 ?_
      refine gg_ll 17 6 rfl rfl l6 ?_
      refine gg_q (fun q2 => ?_)
      refine gg_lrem 18 rfl rfl q2 ?_
      refine gg_s 20 rfl rfl ?_
      refine gg_ll 22 6 rfl rfl (gl2 rfl rfl rfl l6) ?_
      refine gg_s 24 rfl rfl ?_
      refine gg_ll 26 8 rfl rfl (gl2 rfl rfl rfl gs2) ?_
      refine gg_s 28 rfl rfl ?_
      refine gg_go 6 rfl rfl rfl ?_
      exact ih x6 (x4 % x6) (gl2 rfl rfl rfl gs2) gs2
theorem gm_163 (x0 : Int) (x2 : Int) {σ : gb_S} : gb_M (fx_163 x0 x2 σ) 1 c0 eL 163 [vl x0, vl x2] σ := by
  rw [fx_163]
  refine gg_m (own := 8) (rt := (some .long)) (hnd := fun _ _ => none) (K := gk_163) (δ := 0) rfl rfl ?_
  refine gg_ll 1 0 rfl rfl rfl ?_
  refine gg_s 3 rfl rfl ?_
  refine gg_ll 4 2 rfl rfl (gl2 rfl rfl rfl rfl) ?_
  refine gg_s 6 rfl rfl ?_
  exact gt_163_6 gFU x0 x2 (gl2 rfl rfl rfl gs2) gs2
/-- TreeclerkModel.adds -/
def fx_164 (x1 : Int) (x2 : Int) (x4 : Int) (σ : gb_S) : Option gb_P :=
  gq (0 ≤ x1 ∧ x1 < 14) (
  gc (fx_163 (((σ 218 x1.toNat) * x4) + (x2 * (σ 219 x1.toNat))) ((σ 219 x1.toNat) * x4) σ) (fun r2 s3 =>
  gq ((0 ≤ (((σ 218 x1.toNat) * x4) + (x2 * (σ 219 x1.toNat))) ∧ (((σ 218 x1.toNat) * x4) + (x2 * (σ 219 x1.toNat))) ≤ 9223372036854775807) ∧ 0 < r2 ∧ r2 ≤ 9223372036854775807) (
  gq ((0 ≤ ((σ 219 x1.toNat) * x4) ∧ ((σ 219 x1.toNat) * x4) ≤ 9223372036854775807) ∧ 0 < r2 ∧ r2 ≤ 9223372036854775807) (
  some (.inl 0, (gb_up (gb_up s3 218 x1.toNat ((((σ 218 x1.toNat) * x4) + (x2 * (σ 219 x1.toNat))) / r2)) 219 x1.toNat (((σ 219 x1.toNat) * x4) / r2)))))))
theorem gm_164 (x1 : Int) (x2 : Int) (x4 : Int) {σ : gb_S} : gb_M (fx_164 x1 x2 x4 σ) 2 c0 eV 164 [vr 187, vi x1, vl x2, vl x4] σ := by
  rw [fx_164]
  refine gg_m (own := 8) (rt := none) (hnd := fun _ _ => none) (K := gk_164) (δ := 1) rfl rfl ?_
  refine gg_al 1 0 rfl rfl rfl ?_
  refine gg_gr 4 218 rfl rfl rfl gcl_187 rfl ?_
  refine gg_il 5 1 rfl rfl rfl ?_
  refine gg_q (fun q1 => ?_)
  refine gg_lal 6 rfl rfl gar_218 q1 ?_
  refine gg_ll 8 4 rfl rfl rfl ?_
  refine gg_lmul 9 rfl rfl ?_
  refine gg_ll 10 2 rfl rfl rfl ?_
  refine gg_al 11 0 rfl rfl rfl ?_
  refine gg_gr 14 219 rfl rfl rfl gcl_187 rfl ?_
  refine gg_il 15 1 rfl rfl rfl ?_
  refine gg_lal 16 rfl rfl gar_219 q1 ?_
  refine gg_lmul 17 rfl rfl ?_
  refine gg_ladd 18 rfl rfl ?_
  refine gg_s 20 rfl rfl ?_
  refine gg_al 21 0 rfl rfl (gl2 rfl rfl rfl rfl) ?_
  refine gg_gr 24 219 rfl rfl rfl gcl_187 rfl ?_
  refine gg_il 25 1 rfl rfl (gl2 rfl rfl rfl rfl) ?_
  refine gg_lal 26 rfl rfl gar_219 q1 ?_
  refine gg_ll 28 4 rfl rfl (gl2 rfl rfl rfl rfl) ?_
  refine gg_lmul 29 rfl rfl ?_
  refine gg_s 31 rfl rfl ?_
  refine gg_ll 33 6 rfl rfl (gl2 rfl rfl rfl gs2) ?_
  refine gg_ll 35 8 rfl rfl gs2 ?_
  refine gg_cLo 38 rfl (gm_163 _ _) (Nat.le_of_ble_eq_true rfl) (gb_ss rfl rfl rfl rfl rfl rfl rfl) rfl (fun _ => rfl) (fun _ => rfl) (fun r2 s3 => ?_)
  refine gg_s 40 rfl rfl ?_
  refine gg_al 41 0 rfl rfl (gl2 rfl rfl rfl (gl2 rfl rfl rfl (gl2 rfl rfl rfl rfl))) ?_
  refine gg_gr 44 218 rfl rfl rfl gcl_187 rfl ?_
  refine gg_il 45 1 rfl rfl (gl2 rfl rfl rfl (gl2 rfl rfl rfl (gl2 rfl rfl rfl rfl))) ?_
  refine gg_ll 47 6 rfl rfl (gl2 rfl rfl rfl (gl2 rfl rfl rfl gs2)) ?_
  refine gg_ll 49 10 rfl rfl gs2 ?_
  refine gg_q (fun q4 => ?_)
  refine gg_ldiv 50 rfl rfl q4 ?_
  refine gg_las 51 rfl rfl gar_218 q1 ?_
  refine gg_al 52 0 rfl rfl (gl2 rfl rfl rfl (gl2 rfl rfl rfl (gl2 rfl rfl rfl rfl))) ?_
  refine gg_gr 55 219 rfl rfl rfl gcl_187 rfl ?_
  refine gg_il 56 1 rfl rfl (gl2 rfl rfl rfl (gl2 rfl rfl rfl (gl2 rfl rfl rfl rfl))) ?_
  refine gg_ll 58 8 rfl rfl (gl2 rfl rfl rfl gs2) ?_
  refine gg_ll 60 10 rfl rfl gs2 ?_
  refine gg_q (fun q5 => ?_)
  refine gg_ldiv 61 rfl rfl q5 ?_
  refine gg_las 62 rfl rfl gar_219 q1 ?_
  exact gg_vr rfl
/-- TreeclerkModel.counts -/
def fx_159 (x1 : Int) (x2 : Int) (σ : gb_S) : Option gb_P :=
  gq (0 ≤ x1 ∧ x1 < 14) (
  gq (0 ≤ x2 ∧ x2 < 14) (
  gq (gR (σ 188 x1.toNat)) (
  gq (gR (σ 189 x2.toNat)) (
  (if (σ 189 x2.toNat) < (σ 188 x1.toNat) then
    some (.inl 0, σ)
  else
    some (.inl 1, σ))))))
theorem gm_159 (x1 : Int) (x2 : Int) {σ : gb_S} : gb_M (fx_159 x1 x2 σ) 1 c0 eI 159 [vr 187, vi x1, vi x2] σ := by
  rw [fx_159]
  refine gg_m (own := 8) (rt := (some .boolean)) (hnd := fun _ _ => none) (K := gk_159) (δ := 0) rfl rfl ?_
  refine gg_al 1 0 rfl rfl rfl ?_
  refine gg_gr 4 188 rfl rfl rfl gcl_187 rfl ?_
  refine gg_il 5 1 rfl rfl rfl ?_
  refine gg_q (fun q1 => ?_)
  refine gg_ial 6 rfl rfl gar_188 q1 ?_
  refine gg_al 7 0 rfl rfl rfl ?_
  refine gg_gr 10 189 rfl rfl rfl gcl_187 rfl ?_
  refine gg_il 11 2 rfl rfl rfl ?_
  refine gg_q (fun q2 => ?_)
  refine gg_ial 12 rfl rfl gar_189 q2 ?_
  refine gg_q (fun q3 => ?_)
  refine gg_q (fun q4 => ?_)
  refine gg_igt 19 15 rfl rfl rfl rfl q3 q4 ?_ ?_
  · refine gg_ci 20 0 rfl rfl ?_
    exact gg_zr rfl (Or.inl rfl)
  · refine gg_ci 16 1 rfl rfl ?_
    refine gg_go 20 rfl rfl rfl ?_
    exact gg_zr rfl (Or.inr rfl)
def fx_160_70 (k : Nat) (k56 : Int → gb_S → Option gb_P) (x2 : Int) (x3 : Int) (x4 : Int) (σ : gb_S) : Option gb_P := match k with
  | 0 => none
  | k + 1 =>
    gq (gR x4) (
    gq (gR (σ 187 3)) (
    (if x4 < (σ 187 3) then
      gq (0 ≤ x3 ∧ x3 < 14) (
      gq (gR (σ 214 x3.toNat)) (
      (if (σ 214 x3.toNat) = 0 then
        gc (fx_144 x3 x4 σ) (fun r5 s6 =>
        gq (gR r5) (
        (if r5 = 0 then
          fx_160_70 k k56 x2 x3 (x4 + 1) (gb_up s6 214 x3.toNat 0)
        else
          gq (0 ≤ x4 ∧ x4 < 14) (
          gq (gR (s6 214 x4.toNat)) (
          (if (s6 214 x4.toNat) = 0 then
            fx_160_70 k k56 x2 x3 (x4 + 1) (gb_up s6 214 x3.toNat 0)
          else
            fx_160_70 k k56 x2 x3 (x4 + 1) (gb_up s6 214 x3.toNat 1)))))))
      else
        fx_160_70 k k56 x2 x3 (x4 + 1) (gb_up σ 214 x3.toNat 1))))
    else
      k56 (x2 + (-1)) σ)))
def fx_160_56 (k : Nat) (x2 : Int) (σ : gb_S) : Option gb_P := match k with
  | 0 => none
  | k + 1 =>
    gq (gR x2) (
    (if x2 < 0 then
      some (.inl 0, σ)
    else
      gq (0 ≤ x2 ∧ x2 < 14) (
      fx_160_70 gFU (fx_160_56 k) x2 (σ 210 x2.toNat) 0 σ)))
def fx_160_6 (k : Nat) (x1 : Int) (x2 : Int) (σ : gb_S) : Option gb_P := match k with
  | 0 => none
  | k + 1 =>
    gq (gR x2) (
    gq (gR (σ 187 3)) (
    (if x2 < (σ 187 3) then
      gc (fx_159 x2 x1 σ) (fun r3 s4 =>
      gq (gR r3) (
      (if r3 = 0 then
        gq (0 ≤ x2 ∧ x2 < 14) (
        fx_160_6 k x1 (x2 + 1) (gb_up s4 214 x2.toNat 0))
      else
        gc (fx_158 x2 x1 s4) (fun r7 s8 =>
        gq (gR r7) (
        (if r7 = 0 then
          gq (0 ≤ x2 ∧ x2 < 14) (
          fx_160_6 k x1 (x2 + 1) (gb_up s8 214 x2.toNat 0))
        else
          gq (0 ≤ x2 ∧ x2 < 14) (
          fx_160_6 k x1 (x2 + 1) (gb_up s8 214 x2.toNat 1))))))))
    else
      fx_160_56 gFU ((σ 187 3) - 1) σ)))
/-- TreeclerkModel.findsLines -/
def fx_160 (x1 : Int) (σ : gb_S) : Option gb_P :=
  gc (fx_143 σ) (fun _ s2 =>
  fx_160_6 gFU x1 0 s2)
theorem gt_160_70 (k : Nat) {k56 : Int → gb_S → Option gb_P} (hk56 : ∀ (x2 : Int) {lo : gh_L} (l0 : lo.lookup 0 = some (vr 187)) (l2 : lo.lookup 2 = some (vi x2)) {σ : gb_S}, gb_G (k56 x2 σ) 2 8 none (fun _ _ => none) gk_160 c0 eV 56 lo [] σ) : ∀ (x2 : Int) (x3 : Int) (x4 : Int) {lo : gh_L} (l0 : lo.lookup 0 = some (vr 187)) (l2 : lo.lookup 2 = some (vi x2)) (l3 : lo.lookup 3 = some (vi x3)) (l4 : lo.lookup 4 = some (vi x4)) {σ : gb_S}, gb_G (fx_160_70 k k56 x2 x3 x4 σ) 2 8 none (fun _ _ => none) gk_160 c0 eV 70 lo [] σ := by
  induction k with
  | zero => intros; exact gg_n
  | succ k ih =>
    intro x2 x3 x4 lo l0 l2 l3 l4 σ
    rw [fx_160_70]
    refine gg_il 72 4 rfl rfl l4 ?_
    refine gg_al 73 0 rfl rfl l0 ?_
    refine gg_gi 76 rfl rfl rfl gcl_187 rfl ?_
    refine gg_q (fun q1 => ?_)
    refine gg_q (fun q2 => ?_)
    refine gg_ige 125 79 rfl rfl rfl rfl q1 q2 ?_ ?_
    · refine gg_inc 128 rfl rfl l2 ?_
      refine gg_go 56 rfl rfl rfl ?_
      exact hk56 (x2 + (-1)) (gl1 rfl rfl l0) gs1
    · refine gg_al 80 0 rfl rfl l0 ?_
      refine gg_gr 83 214 rfl rfl rfl gcl_187 rfl ?_
      refine gg_il 84 3 rfl rfl l3 ?_
      refine gg_al 85 0 rfl rfl l0 ?_
      refine gg_gr 88 214 rfl rfl rfl gcl_187 rfl ?_
      refine gg_il 89 3 rfl rfl l3 ?_
      refine gg_q (fun q3 => ?_)
      refine gg_bal 90 rfl rfl gar_214 q3 ?_
      refine gg_q (fun q4 => ?_)
      refine gg_zne 113 93 rfl rfl rfl rfl q4 ?_ ?_
      · refine gg_ci 114 1 rfl rfl ?_
        refine gg_go 118 rfl rfl rfl ?_
        refine gg_bas 119 rfl rfl gar_214 q3 (Or.inr rfl) ?_
        refine gg_inc 122 rfl rfl l4 ?_
        refine gg_go 70 rfl rfl rfl ?_
        exact ih x2 x3 (x4 + 1) (gl1 rfl rfl l0) (gl1 rfl rfl l2) (gl1 rfl rfl l3) gs1
      · refine gg_al 94 0 rfl rfl l0 ?_
        refine gg_il 95 3 rfl rfl l3 ?_
        refine gg_il 97 4 rfl rfl l4 ?_
        refine gg_cI 100 rfl (gm_144 _ _) (Nat.le_of_ble_eq_true rfl) (gb_vs rfl rfl rfl rfl rfl gcl_187 rfl rfl rfl) rfl (fun _ => rfl) (fun _ => rfl) (fun r5 s6 => ?_)
        refine gg_q (fun q7 => ?_)
        refine gg_zeq 117 103 rfl rfl rfl rfl q7 ?_ ?_
        · refine gg_ci 118 0 rfl rfl ?_
          refine gg_bas 119 rfl rfl gar_214 q3 (Or.inl rfl) ?_
          refine gg_inc 122 rfl rfl l4 ?_
          refine gg_go 70 rfl rfl rfl ?_
          exact ih x2 x3 (x4 + 1) (gl1 rfl rfl l0) (gl1 rfl rfl l2) (gl1 rfl rfl l3) gs1
        · refine gg_al 104 0 rfl rfl l0 ?_
          refine gg_gr 107 214 rfl rfl rfl gcl_187 rfl ?_
          refine gg_il 109 4 rfl rfl l4 ?_
          refine gg_q (fun q8 => ?_)
          refine gg_bal 110 rfl rfl gar_214 q8 ?_
          refine gg_q (fun q9 => ?_)
          refine gg_zeq 117 113 rfl rfl rfl rfl q9 ?_ ?_
          · refine gg_ci 118 0 rfl rfl ?_
            refine gg_bas 119 rfl rfl gar_214 q3 (Or.inl rfl) ?_
            refine gg_inc 122 rfl rfl l4 ?_
            refine gg_go 70 rfl rfl rfl ?_
            exact ih x2 x3 (x4 + 1) (gl1 rfl rfl l0) (gl1 rfl rfl l2) (gl1 rfl rfl l3) gs1
          · refine gg_ci 114 1 rfl rfl ?_
            refine gg_go 118 rfl rfl rfl ?_
            refine gg_bas 119 rfl rfl gar_214 q3 (Or.inr rfl) ?_
            refine gg_inc 122 rfl rfl l4 ?_
            refine gg_go 70 rfl rfl rfl ?_
            exact ih x2 x3 (x4 + 1) (gl1 rfl rfl l0) (gl1 rfl rfl l2) (gl1 rfl rfl l3) gs1
theorem gt_160_56 (k : Nat) : ∀ (x2 : Int) {lo : gh_L} (l0 : lo.lookup 0 = some (vr 187)) (l2 : lo.lookup 2 = some (vi x2)) {σ : gb_S}, gb_G (fx_160_56 k x2 σ) 2 8 none (fun _ _ => none) gk_160 c0 eV 56 lo [] σ := by
  induction k with
  | zero => intros; exact gg_n
  | succ k ih =>
    intro x2 lo l0 l2 σ
    rw [fx_160_56]
    refine gg_il 57 2 rfl rfl l2 ?_
    refine gg_q (fun q1 => ?_)
    refine gg_zlt 131 60 rfl rfl rfl rfl q1 ?_ ?_
    · exact gg_vr rfl
    · refine gg_al 61 0 rfl rfl l0 ?_
      refine gg_gr 64 210 rfl rfl rfl gcl_187 rfl ?_
      refine gg_il 65 2 rfl rfl l2 ?_
      refine gg_q (fun q2 => ?_)
      refine gg_ial 66 rfl rfl gar_210 q2 ?_
      refine gg_s 67 rfl rfl ?_
      refine gg_ci 68 0 rfl rfl ?_
      refine gg_s 70 rfl rfl ?_
      exact gt_160_70 gFU ih x2 (σ 210 x2.toNat) 0 (gl1 rfl rfl (gl1 rfl rfl l0)) (gl1 rfl rfl (gl1 rfl rfl l2)) (gl1 rfl rfl gs1) gs1
theorem gt_160_6 (k : Nat) : ∀ (x1 : Int) (x2 : Int) {lo : gh_L} (l0 : lo.lookup 0 = some (vr 187)) (l1 : lo.lookup 1 = some (vi x1)) (l2 : lo.lookup 2 = some (vi x2)) {σ : gb_S}, gb_G (fx_160_6 k x1 x2 σ) 2 8 none (fun _ _ => none) gk_160 c0 eV 6 lo [] σ := by
  induction k with
  | zero => intros; exact gg_n
  | succ k ih =>
    intro x1 x2 lo l0 l1 l2 σ
    rw [fx_160_6]
    refine gg_il 7 2 rfl rfl l2 ?_
    refine gg_al 8 0 rfl rfl l0 ?_
    refine gg_gi 11 rfl rfl rfl gcl_187 rfl ?_
    refine gg_q (fun q1 => ?_)
    refine gg_q (fun q2 => ?_)
    refine gg_ige 49 14 rfl rfl rfl rfl q1 q2 ?_ ?_
    · refine gg_al 50 0 rfl rfl l0 ?_
      refine gg_gi 53 rfl rfl rfl gcl_187 rfl ?_
      refine gg_ci 54 1 rfl rfl ?_
      refine gg_sub 55 rfl rfl ?_
      refine gg_s 56 rfl rfl ?_
      exact gt_160_56 gFU ((σ 187 3) - 1) (gl1 rfl rfl l0) gs1
    · refine gg_al 15 0 rfl rfl l0 ?_
      refine gg_gr 18 214 rfl rfl rfl gcl_187 rfl ?_
      refine gg_il 19 2 rfl rfl l2 ?_
      refine gg_al 20 0 rfl rfl l0 ?_
      refine gg_il 21 2 rfl rfl l2 ?_
      refine gg_il 22 1 rfl rfl l1 ?_
      refine gg_cI 25 rfl (gm_159 _ _) (Nat.le_of_ble_eq_true rfl) (gb_vs rfl rfl rfl rfl rfl gcl_187 rfl rfl rfl) rfl (fun _ => rfl) (fun _ => rfl) (fun r3 s4 => ?_)
      refine gg_q (fun q5 => ?_)
      refine gg_zeq 41 28 rfl rfl rfl rfl q5 ?_ ?_
      · refine gg_ci 42 0 rfl rfl ?_
        refine gg_q (fun q6 => ?_)
        refine gg_bas 43 rfl rfl gar_214 q6 (Or.inl rfl) ?_
        refine gg_inc 46 rfl rfl l2 ?_
        refine gg_go 6 rfl rfl rfl ?_
        exact ih x1 (x2 + 1) (gl1 rfl rfl l0) (gl1 rfl rfl l1) gs1
      · refine gg_al 29 0 rfl rfl l0 ?_
        refine gg_il 30 2 rfl rfl l2 ?_
        refine gg_il 31 1 rfl rfl l1 ?_
        refine gg_cI 34 rfl (gm_158 _ _) (Nat.le_of_ble_eq_true rfl) (gb_vs rfl rfl rfl rfl rfl gcl_187 rfl rfl rfl) rfl (fun _ => rfl) (fun _ => rfl) (fun r7 s8 => ?_)
        refine gg_q (fun q9 => ?_)
        refine gg_zeq 41 37 rfl rfl rfl rfl q9 ?_ ?_
        · refine gg_ci 42 0 rfl rfl ?_
          refine gg_q (fun q10 => ?_)
          refine gg_bas 43 rfl rfl gar_214 q10 (Or.inl rfl) ?_
          refine gg_inc 46 rfl rfl l2 ?_
          refine gg_go 6 rfl rfl rfl ?_
          exact ih x1 (x2 + 1) (gl1 rfl rfl l0) (gl1 rfl rfl l1) gs1
        · refine gg_ci 38 1 rfl rfl ?_
          refine gg_go 42 rfl rfl rfl ?_
          refine gg_q (fun q11 => ?_)
          refine gg_bas 43 rfl rfl gar_214 q11 (Or.inr rfl) ?_
          refine gg_inc 46 rfl rfl l2 ?_
          refine gg_go 6 rfl rfl rfl ?_
          exact ih x1 (x2 + 1) (gl1 rfl rfl l0) (gl1 rfl rfl l1) gs1
theorem gm_160 (x1 : Int) {σ : gb_S} : gb_M (fx_160 x1 σ) 3 c0 eV 160 [vr 187, vi x1] σ := by
  rw [fx_160]
  refine gg_m (own := 8) (rt := none) (hnd := fun _ _ => none) (K := gk_160) (δ := 2) rfl rfl ?_
  refine gg_al 1 0 rfl rfl rfl ?_
  refine gg_cV 4 rfl (gm_143) (Nat.le_of_ble_eq_true rfl) (gb_vs rfl rfl rfl rfl rfl gcl_187 rfl rfl rfl) rfl (fun _ => rfl) (fun _ => rfl) (fun s2 => ?_)
  refine gg_ci 5 0 rfl rfl ?_
  refine gg_s 6 rfl rfl ?_
  exact gt_160_6 gFU x1 0 (gl1 rfl rfl rfl) (gl1 rfl rfl rfl) gs1
def fx_161_4 (k : Nat) (x1 : Int) (x2 : Int) (σ : gb_S) : Option gb_P := match k with
  | 0 => none
  | k + 1 =>
    gq (gR x2) (
    gq (gR (σ 187 3)) (
    (if x2 < (σ 187 3) then
      gq (0 ≤ x2 ∧ x2 < 14) (
      gq (gR (σ 215 x2.toNat)) (
      (if (σ 215 x2.toNat) = 0 then
        fx_161_4 k (x1 + 0) (x2 + 1) σ
      else
        gq (gR (σ 214 x2.toNat)) (
        (if (σ 214 x2.toNat) = 0 then
          fx_161_4 k (x1 + 0) (x2 + 1) σ
        else
          fx_161_4 k (x1 + 1) (x2 + 1) σ)))))
    else
      some (.inl x1, σ))))
/-- TreeclerkModel.heads -/
def fx_161 (σ : gb_S) : Option gb_P :=
  fx_161_4 gFU 0 0 σ
theorem gt_161_4 (k : Nat) : ∀ (x1 : Int) (x2 : Int) {lo : gh_L} (l0 : lo.lookup 0 = some (vr 187)) (l1 : lo.lookup 1 = some (vi x1)) (l2 : lo.lookup 2 = some (vi x2)) {σ : gb_S}, gb_G (fx_161_4 k x1 x2 σ) 0 8 (some .int) (fun _ _ => none) gk_161 c0 eI 4 lo [] σ := by
  induction k with
  | zero => intros; exact gg_n
  | succ k ih =>
    intro x1 x2 lo l0 l1 l2 σ
    rw [fx_161_4]
    refine gg_il 5 2 rfl rfl l2 ?_
    refine gg_al 6 0 rfl rfl l0 ?_
    refine gg_gi 9 rfl rfl rfl gcl_187 rfl ?_
    refine gg_q (fun q1 => ?_)
    refine gg_q (fun q2 => ?_)
    refine gg_ige 44 12 rfl rfl rfl rfl q1 q2 ?_ ?_
    · refine gg_il 45 1 rfl rfl l1 ?_
      exact gg_ir rfl
    · refine gg_il 13 1 rfl rfl l1 ?_
      refine gg_al 14 0 rfl rfl l0 ?_
      refine gg_gr 17 215 rfl rfl rfl gcl_187 rfl ?_
      refine gg_il 18 2 rfl rfl l2 ?_
      refine gg_q (fun q3 => ?_)
      refine gg_bal 19 rfl rfl gar_215 q3 ?_
      refine gg_q (fun q4 => ?_)
      refine gg_zeq 35 22 rfl rfl rfl rfl q4 ?_ ?_
      · refine gg_ci 36 0 rfl rfl ?_
        refine gg_add 37 rfl rfl ?_
        refine gg_s 38 rfl rfl ?_
        refine gg_inc 41 rfl rfl (gl1 rfl rfl l2) ?_
        refine gg_go 4 rfl rfl rfl ?_
        exact ih (x1 + 0) (x2 + 1) (gl1 rfl rfl (gl1 rfl rfl l0)) (gl1 rfl rfl gs1) gs1
      · refine gg_al 23 0 rfl rfl l0 ?_
        refine gg_gr 26 214 rfl rfl rfl gcl_187 rfl ?_
        refine gg_il 27 2 rfl rfl l2 ?_
        refine gg_bal 28 rfl rfl gar_214 q3 ?_
        refine gg_q (fun q5 => ?_)
        refine gg_zeq 35 31 rfl rfl rfl rfl q5 ?_ ?_
        · refine gg_ci 36 0 rfl rfl ?_
          refine gg_add 37 rfl rfl ?_
          refine gg_s 38 rfl rfl ?_
          refine gg_inc 41 rfl rfl (gl1 rfl rfl l2) ?_
          refine gg_go 4 rfl rfl rfl ?_
          exact ih (x1 + 0) (x2 + 1) (gl1 rfl rfl (gl1 rfl rfl l0)) (gl1 rfl rfl gs1) gs1
        · refine gg_ci 32 1 rfl rfl ?_
          refine gg_go 36 rfl rfl rfl ?_
          refine gg_add 37 rfl rfl ?_
          refine gg_s 38 rfl rfl ?_
          refine gg_inc 41 rfl rfl (gl1 rfl rfl l2) ?_
          refine gg_go 4 rfl rfl rfl ?_
          exact ih (x1 + 1) (x2 + 1) (gl1 rfl rfl (gl1 rfl rfl l0)) (gl1 rfl rfl gs1) gs1
theorem gm_161 {σ : gb_S} : gb_M (fx_161 σ) 1 c0 eI 161 [vr 187] σ := by
  rw [fx_161]
  refine gg_m (own := 8) (rt := (some .int)) (hnd := fun _ _ => none) (K := gk_161) (δ := 0) rfl rfl ?_
  refine gg_ci 1 0 rfl rfl ?_
  refine gg_s 2 rfl rfl ?_
  refine gg_ci 3 0 rfl rfl ?_
  refine gg_s 4 rfl rfl ?_
  exact gt_161_4 gFU 0 0 (gl1 rfl rfl (gl1 rfl rfl rfl)) (gl1 rfl rfl gs1) gs1
def fx_162_111 (k62 : Int → Int → gb_S → Option gb_P) (x1 : Int) (x2 : Int) (x3 : Int) (σ : gb_S) : Option gb_P :=
  gq (gR x3) (
  (if x3 = 0 then
    k62 x1 (x2 + 1) σ
  else
    gq (0 ≤ x2 ∧ x2 < 14) (
    gq (gR (σ 213 x2.toNat)) (
    (if (σ 213 x2.toNat) = (-1) then
      k62 x1 (x2 + 1) σ
    else
      gq (0 ≤ (σ 213 x2.toNat) ∧ (σ 213 x2.toNat) < 14) (
      k62 x1 (x2 + 1) (gb_up σ 215 (σ 213 x2.toNat).toNat 1)))))))
def fx_162_84 (k62 : Int → Int → gb_S → Option gb_P) (x1 : Int) (x2 : Int) (y0 : Int) (σ : gb_S) : Option gb_P :=
  gq (gR y0) (
  (if y0 = 0 then
    fx_162_111 k62 x1 x2 y0 σ
  else
    gq (0 ≤ x2 ∧ x2 < 14) (
    gq (gR (σ 212 x2.toNat)) (
    (if (σ 212 x2.toNat) = (-1) then
      fx_162_111 k62 x1 x2 y0 σ
    else
      gq (0 ≤ (σ 212 x2.toNat) ∧ (σ 212 x2.toNat) < 14) (
      fx_162_111 k62 x1 x2 y0 (gb_up σ 215 (σ 212 x2.toNat).toNat 1)))))))
def fx_162_62 (k : Nat) (x1 : Int) (x2 : Int) (σ : gb_S) : Option gb_P := match k with
  | 0 => none
  | k + 1 =>
    gq (gR x2) (
    gq (gR (σ 187 3)) (
    (if x2 < (σ 187 3) then
      gq (gR (gb_and (gb_shr x1 x2) 1)) (
      (if (gb_and (gb_shr x1 x2) 1) = 1 then
        fx_162_84 (fx_162_62 k) x1 x2 1 σ
      else
        fx_162_84 (fx_162_62 k) x1 x2 0 σ))
    else
      some (.inl 0, σ))))
def fx_162_39 (k : Nat) (x1 : Int) (x2 : Int) (σ : gb_S) : Option gb_P := match k with
  | 0 => none
  | k + 1 =>
    gq (gR x2) (
    gq (gR (σ 187 3)) (
    (if x2 < (σ 187 3) then
      gq (0 ≤ x2 ∧ x2 < 14) (
      fx_162_39 k x1 (x2 + 1) (gb_up σ 215 x2.toNat 0))
    else
      fx_162_62 gFU x1 0 σ)))
def fx_162_4 (k : Nat) (x1 : Int) (x2 : Int) (σ : gb_S) : Option gb_P := match k with
  | 0 => none
  | k + 1 =>
    gq (gR x2) (
    gq (gR (σ 187 3)) (
    (if x2 < (σ 187 3) then
      gq (0 ≤ x2 ∧ x2 < 14) (
      gq (gR (σ 215 x2.toNat)) (
      (if (σ 215 x2.toNat) = 0 then
        fx_162_4 k (gb_or x1 0) (x2 + 1) σ
      else
        fx_162_4 k (gb_or x1 (gb_shl 1 x2)) (x2 + 1) σ)))
    else
      fx_162_39 gFU x1 0 σ)))
/-- TreeclerkModel.goesUp -/
def fx_162 (σ : gb_S) : Option gb_P :=
  fx_162_4 gFU 0 0 σ
theorem gt_162_111 {k62 : Int → Int → gb_S → Option gb_P} (hk62 : ∀ (x1 : Int) (x2 : Int) {lo : gh_L} (l0 : lo.lookup 0 = some (vr 187)) (l1 : lo.lookup 1 = some (vi x1)) (l2 : lo.lookup 2 = some (vi x2)) {σ : gb_S}, gb_G (k62 x1 x2 σ) 0 8 none (fun _ _ => none) gk_162 c0 eV 62 lo [] σ) (x1 : Int) (x2 : Int) (x3 : Int) {lo : gh_L} (l0 : lo.lookup 0 = some (vr 187)) (l1 : lo.lookup 1 = some (vi x1)) (l2 : lo.lookup 2 = some (vi x2)) (l3 : lo.lookup 3 = some (vi x3)) {σ : gb_S} : gb_G (fx_162_111 k62 x1 x2 x3 σ) 0 8 none (fun _ _ => none) gk_162 c0 eV 111 lo [] σ := by
  rw [fx_162_111]
  refine gg_il 112 3 rfl rfl l3 ?_
  refine gg_q (fun q1 => ?_)
  refine gg_zeq 137 115 rfl rfl rfl rfl q1 ?_ ?_
  · refine gg_inc 140 rfl rfl l2 ?_
    refine gg_go 62 rfl rfl rfl ?_
    exact hk62 x1 (x2 + 1) (gl1 rfl rfl l0) (gl1 rfl rfl l1) gs1
  · refine gg_al 116 0 rfl rfl l0 ?_
    refine gg_gr 119 213 rfl rfl rfl gcl_187 rfl ?_
    refine gg_il 120 2 rfl rfl l2 ?_
    refine gg_q (fun q2 => ?_)
    refine gg_ial 121 rfl rfl gar_213 q2 ?_
    refine gg_ci 122 (-1) rfl rfl ?_
    refine gg_q (fun q3 => ?_)
    refine gg_ieq 137 125 rfl rfl rfl rfl q3 (gRl rfl) ?_ ?_
    · refine gg_inc 140 rfl rfl l2 ?_
      refine gg_go 62 rfl rfl rfl ?_
      exact hk62 x1 (x2 + 1) (gl1 rfl rfl l0) (gl1 rfl rfl l1) gs1
    · refine gg_al 126 0 rfl rfl l0 ?_
      refine gg_gr 129 215 rfl rfl rfl gcl_187 rfl ?_
      refine gg_al 130 0 rfl rfl l0 ?_
      refine gg_gr 133 213 rfl rfl rfl gcl_187 rfl ?_
      refine gg_il 134 2 rfl rfl l2 ?_
      refine gg_ial 135 rfl rfl gar_213 q2 ?_
      refine gg_ci 136 1 rfl rfl ?_
      refine gg_q (fun q4 => ?_)
      refine gg_bas 137 rfl rfl gar_215 q4 (Or.inr rfl) ?_
      refine gg_inc 140 rfl rfl l2 ?_
      refine gg_go 62 rfl rfl rfl ?_
      exact hk62 x1 (x2 + 1) (gl1 rfl rfl l0) (gl1 rfl rfl l1) gs1
theorem gt_162_84 {k62 : Int → Int → gb_S → Option gb_P} (hk62 : ∀ (x1 : Int) (x2 : Int) {lo : gh_L} (l0 : lo.lookup 0 = some (vr 187)) (l1 : lo.lookup 1 = some (vi x1)) (l2 : lo.lookup 2 = some (vi x2)) {σ : gb_S}, gb_G (k62 x1 x2 σ) 0 8 none (fun _ _ => none) gk_162 c0 eV 62 lo [] σ) (x1 : Int) (x2 : Int) (y0 : Int) {lo : gh_L} (l0 : lo.lookup 0 = some (vr 187)) (l1 : lo.lookup 1 = some (vi x1)) (l2 : lo.lookup 2 = some (vi x2)) {σ : gb_S} : gb_G (fx_162_84 k62 x1 x2 y0 σ) 0 8 none (fun _ _ => none) gk_162 c0 eV 84 lo [vi y0] σ := by
  rw [fx_162_84]
  refine gg_s 85 rfl rfl ?_
  refine gg_il 86 3 rfl rfl gs1 ?_
  refine gg_q (fun q1 => ?_)
  refine gg_zeq 111 89 rfl rfl rfl rfl q1 ?_ ?_
  · exact gt_162_111 hk62 x1 x2 y0 (gl1 rfl rfl l0) (gl1 rfl rfl l1) (gl1 rfl rfl l2) gs1
  · refine gg_al 90 0 rfl rfl (gl1 rfl rfl l0) ?_
    refine gg_gr 93 212 rfl rfl rfl gcl_187 rfl ?_
    refine gg_il 94 2 rfl rfl (gl1 rfl rfl l2) ?_
    refine gg_q (fun q2 => ?_)
    refine gg_ial 95 rfl rfl gar_212 q2 ?_
    refine gg_ci 96 (-1) rfl rfl ?_
    refine gg_q (fun q3 => ?_)
    refine gg_ieq 111 99 rfl rfl rfl rfl q3 (gRl rfl) ?_ ?_
    · exact gt_162_111 hk62 x1 x2 y0 (gl1 rfl rfl l0) (gl1 rfl rfl l1) (gl1 rfl rfl l2) gs1
    · refine gg_al 100 0 rfl rfl (gl1 rfl rfl l0) ?_
      refine gg_gr 103 215 rfl rfl rfl gcl_187 rfl ?_
      refine gg_al 104 0 rfl rfl (gl1 rfl rfl l0) ?_
      refine gg_gr 107 212 rfl rfl rfl gcl_187 rfl ?_
      refine gg_il 108 2 rfl rfl (gl1 rfl rfl l2) ?_
      refine gg_ial 109 rfl rfl gar_212 q2 ?_
      refine gg_ci 110 1 rfl rfl ?_
      refine gg_q (fun q4 => ?_)
      refine gg_bas 111 rfl rfl gar_215 q4 (Or.inr rfl) ?_
      exact gt_162_111 hk62 x1 x2 y0 (gl1 rfl rfl l0) (gl1 rfl rfl l1) (gl1 rfl rfl l2) gs1
theorem gt_162_62 (k : Nat) : ∀ (x1 : Int) (x2 : Int) {lo : gh_L} (l0 : lo.lookup 0 = some (vr 187)) (l1 : lo.lookup 1 = some (vi x1)) (l2 : lo.lookup 2 = some (vi x2)) {σ : gb_S}, gb_G (fx_162_62 k x1 x2 σ) 0 8 none (fun _ _ => none) gk_162 c0 eV 62 lo [] σ := by
  induction k with
  | zero => intros; exact gg_n
  | succ k ih =>
    intro x1 x2 lo l0 l1 l2 σ
    rw [fx_162_62]
    refine gg_il 63 2 rfl rfl l2 ?_
    refine gg_al 64 0 rfl rfl l0 ?_
    refine gg_gi 67 rfl rfl rfl gcl_187 rfl ?_
    refine gg_q (fun q1 => ?_)
    refine gg_q (fun q2 => ?_)
    refine gg_ige 143 70 rfl rfl rfl rfl q1 q2 ?_ ?_
    · exact gg_vr rfl
    · refine gg_il 71 1 rfl rfl l1 ?_
      refine gg_il 72 2 rfl rfl l2 ?_
      refine gg_shr 73 rfl rfl ?_
      refine gg_ci 74 1 rfl rfl ?_
      refine gg_and 75 rfl rfl ?_
      refine gg_ci 76 1 rfl rfl ?_
      refine gg_q (fun q3 => ?_)
      refine gg_ine 83 79 rfl rfl rfl rfl q3 (gRl rfl) ?_ ?_
      · refine gg_ci 84 0 rfl rfl ?_
        exact gt_162_84 ih x1 x2 0 l0 l1 l2
      · refine gg_ci 80 1 rfl rfl ?_
        refine gg_go 84 rfl rfl rfl ?_
        exact gt_162_84 ih x1 x2 1 l0 l1 l2
theorem gt_162_39 (k : Nat) : ∀ (x1 : Int) (x2 : Int) {lo : gh_L} (l0 : lo.lookup 0 = some (vr 187)) (l1 : lo.lookup 1 = some (vi x1)) (l2 : lo.lookup 2 = some (vi x2)) {σ : gb_S}, gb_G (fx_162_39 k x1 x2 σ) 0 8 none (fun _ _ => none) gk_162 c0 eV 39 lo [] σ := by
  induction k with
  | zero => intros; exact gg_n
  | succ k ih =>
    intro x1 x2 lo l0 l1 l2 σ
    rw [fx_162_39]
    refine gg_il 40 2 rfl rfl l2 ?_
    refine gg_al 41 0 rfl rfl l0 ?_
    refine gg_gi 44 rfl rfl rfl gcl_187 rfl ?_
    refine gg_q (fun q1 => ?_)
    refine gg_q (fun q2 => ?_)
    refine gg_ige 60 47 rfl rfl rfl rfl q1 q2 ?_ ?_
    · refine gg_ci 61 0 rfl rfl ?_
      refine gg_s 62 rfl rfl ?_
      exact gt_162_62 gFU x1 0 (gl1 rfl rfl l0) (gl1 rfl rfl l1) gs1
    · refine gg_al 48 0 rfl rfl l0 ?_
      refine gg_gr 51 215 rfl rfl rfl gcl_187 rfl ?_
      refine gg_il 52 2 rfl rfl l2 ?_
      refine gg_ci 53 0 rfl rfl ?_
      refine gg_q (fun q3 => ?_)
      refine gg_bas 54 rfl rfl gar_215 q3 (Or.inl rfl) ?_
      refine gg_inc 57 rfl rfl l2 ?_
      refine gg_go 39 rfl rfl rfl ?_
      exact ih x1 (x2 + 1) (gl1 rfl rfl l0) (gl1 rfl rfl l1) gs1
theorem gt_162_4 (k : Nat) : ∀ (x1 : Int) (x2 : Int) {lo : gh_L} (l0 : lo.lookup 0 = some (vr 187)) (l1 : lo.lookup 1 = some (vi x1)) (l2 : lo.lookup 2 = some (vi x2)) {σ : gb_S}, gb_G (fx_162_4 k x1 x2 σ) 0 8 none (fun _ _ => none) gk_162 c0 eV 4 lo [] σ := by
  induction k with
  | zero => intros; exact gg_n
  | succ k ih =>
    intro x1 x2 lo l0 l1 l2 σ
    rw [fx_162_4]
    refine gg_il 5 2 rfl rfl l2 ?_
    refine gg_al 6 0 rfl rfl l0 ?_
    refine gg_gi 9 rfl rfl rfl gcl_187 rfl ?_
    refine gg_q (fun q1 => ?_)
    refine gg_q (fun q2 => ?_)
    refine gg_ige 37 12 rfl rfl rfl rfl q1 q2 ?_ ?_
    · refine gg_ci 38 0 rfl rfl ?_
      refine gg_s 39 rfl rfl ?_
      exact gt_162_39 gFU x1 0 (gl1 rfl rfl l0) (gl1 rfl rfl l1) gs1
    · refine gg_il 13 1 rfl rfl l1 ?_
      refine gg_al 14 0 rfl rfl l0 ?_
      refine gg_gr 17 215 rfl rfl rfl gcl_187 rfl ?_
      refine gg_il 18 2 rfl rfl l2 ?_
      refine gg_q (fun q3 => ?_)
      refine gg_bal 19 rfl rfl gar_215 q3 ?_
      refine gg_q (fun q4 => ?_)
      refine gg_zeq 28 22 rfl rfl rfl rfl q4 ?_ ?_
      · refine gg_ci 29 0 rfl rfl ?_
        refine gg_or 30 rfl rfl ?_
        refine gg_s 31 rfl rfl ?_
        refine gg_inc 34 rfl rfl (gl1 rfl rfl l2) ?_
        refine gg_go 4 rfl rfl rfl ?_
        exact ih (gb_or x1 0) (x2 + 1) (gl1 rfl rfl (gl1 rfl rfl l0)) (gl1 rfl rfl gs1) gs1
      · refine gg_ci 23 1 rfl rfl ?_
        refine gg_il 24 2 rfl rfl l2 ?_
        refine gg_shl 25 rfl rfl ?_
        refine gg_go 29 rfl rfl rfl ?_
        refine gg_or 30 rfl rfl ?_
        refine gg_s 31 rfl rfl ?_
        refine gg_inc 34 rfl rfl (gl1 rfl rfl l2) ?_
        refine gg_go 4 rfl rfl rfl ?_
        exact ih (gb_or x1 (gb_shl 1 x2)) (x2 + 1) (gl1 rfl rfl (gl1 rfl rfl l0)) (gl1 rfl rfl gs1) gs1
theorem gm_162 {σ : gb_S} : gb_M (fx_162 σ) 1 c0 eV 162 [vr 187] σ := by
  rw [fx_162]
  refine gg_m (own := 8) (rt := none) (hnd := fun _ _ => none) (K := gk_162) (δ := 0) rfl rfl ?_
  refine gg_ci 1 0 rfl rfl ?_
  refine gg_s 2 rfl rfl ?_
  refine gg_ci 3 0 rfl rfl ?_
  refine gg_s 4 rfl rfl ?_
  exact gt_162_4 gFU 0 0 (gl1 rfl rfl (gl1 rfl rfl rfl)) (gl1 rfl rfl gs1) gs1
def fx_165_4 (k : Nat) (x1 : Int) (x2 : Int) (x3 : Int) (σ : gb_S) : Option gb_P := match k with
  | 0 => none
  | k + 1 =>
    gq (gR x3) (
    gq (gR (σ 187 3)) (
    (if x3 < (σ 187 3) then
      gc (fx_144 x1 x3 σ) (fun r3 s4 =>
      gq (gR r3) (
      (if r3 = 0 then
        fx_165_4 k x1 (x2 + 0) (x3 + 1) s4
      else
        gq (0 ≤ x3 ∧ x3 < 14) (
        gq (gR (s4 214 x3.toNat)) (
        (if (s4 214 x3.toNat) = 0 then
          fx_165_4 k x1 (x2 + 0) (x3 + 1) s4
        else
          fx_165_4 k x1 (x2 + 1) (x3 + 1) s4))))))
    else
      some (.inl x2, σ))))
/-- TreeclerkModel.livingChildren -/
def fx_165 (x1 : Int) (σ : gb_S) : Option gb_P :=
  fx_165_4 gFU x1 0 0 σ
theorem gt_165_4 (k : Nat) : ∀ (x1 : Int) (x2 : Int) (x3 : Int) {lo : gh_L} (l0 : lo.lookup 0 = some (vr 187)) (l1 : lo.lookup 1 = some (vi x1)) (l2 : lo.lookup 2 = some (vi x2)) (l3 : lo.lookup 3 = some (vi x3)) {σ : gb_S}, gb_G (fx_165_4 k x1 x2 x3 σ) 1 8 (some .int) (fun _ _ => none) gk_165 c0 eI 4 lo [] σ := by
  induction k with
  | zero => intros; exact gg_n
  | succ k ih =>
    intro x1 x2 x3 lo l0 l1 l2 l3 σ
    rw [fx_165_4]
    refine gg_il 5 3 rfl rfl l3 ?_
    refine gg_al 6 0 rfl rfl l0 ?_
    refine gg_gi 9 rfl rfl rfl gcl_187 rfl ?_
    refine gg_q (fun q1 => ?_)
    refine gg_q (fun q2 => ?_)
    refine gg_ige 44 12 rfl rfl rfl rfl q1 q2 ?_ ?_
    · refine gg_il 45 2 rfl rfl l2 ?_
      exact gg_ir rfl
    · refine gg_il 13 2 rfl rfl l2 ?_
      refine gg_al 14 0 rfl rfl l0 ?_
      refine gg_il 15 1 rfl rfl l1 ?_
      refine gg_il 16 3 rfl rfl l3 ?_
      refine gg_cI 19 rfl (gm_144 _ _) (Nat.le_of_ble_eq_true rfl) (gb_vs rfl rfl rfl rfl rfl gcl_187 rfl rfl rfl) rfl (fun _ => rfl) (fun _ => rfl) (fun r3 s4 => ?_)
      refine gg_q (fun q5 => ?_)
      refine gg_zeq 35 22 rfl rfl rfl rfl q5 ?_ ?_
      · refine gg_ci 36 0 rfl rfl ?_
        refine gg_add 37 rfl rfl ?_
        refine gg_s 38 rfl rfl ?_
        refine gg_inc 41 rfl rfl (gl1 rfl rfl l3) ?_
        refine gg_go 4 rfl rfl rfl ?_
        exact ih x1 (x2 + 0) (x3 + 1) (gl1 rfl rfl (gl1 rfl rfl l0)) (gl1 rfl rfl (gl1 rfl rfl l1)) (gl1 rfl rfl gs1) gs1
      · refine gg_al 23 0 rfl rfl l0 ?_
        refine gg_gr 26 214 rfl rfl rfl gcl_187 rfl ?_
        refine gg_il 27 3 rfl rfl l3 ?_
        refine gg_q (fun q6 => ?_)
        refine gg_bal 28 rfl rfl gar_214 q6 ?_
        refine gg_q (fun q7 => ?_)
        refine gg_zeq 35 31 rfl rfl rfl rfl q7 ?_ ?_
        · refine gg_ci 36 0 rfl rfl ?_
          refine gg_add 37 rfl rfl ?_
          refine gg_s 38 rfl rfl ?_
          refine gg_inc 41 rfl rfl (gl1 rfl rfl l3) ?_
          refine gg_go 4 rfl rfl rfl ?_
          exact ih x1 (x2 + 0) (x3 + 1) (gl1 rfl rfl (gl1 rfl rfl l0)) (gl1 rfl rfl (gl1 rfl rfl l1)) (gl1 rfl rfl gs1) gs1
        · refine gg_ci 32 1 rfl rfl ?_
          refine gg_go 36 rfl rfl rfl ?_
          refine gg_add 37 rfl rfl ?_
          refine gg_s 38 rfl rfl ?_
          refine gg_inc 41 rfl rfl (gl1 rfl rfl l3) ?_
          refine gg_go 4 rfl rfl rfl ?_
          exact ih x1 (x2 + 1) (x3 + 1) (gl1 rfl rfl (gl1 rfl rfl l0)) (gl1 rfl rfl (gl1 rfl rfl l1)) (gl1 rfl rfl gs1) gs1
theorem gm_165 (x1 : Int) {σ : gb_S} : gb_M (fx_165 x1 σ) 2 c0 eI 165 [vr 187, vi x1] σ := by
  rw [fx_165]
  refine gg_m (own := 8) (rt := (some .int)) (hnd := fun _ _ => none) (K := gk_165) (δ := 1) rfl rfl ?_
  refine gg_ci 1 0 rfl rfl ?_
  refine gg_s 2 rfl rfl ?_
  refine gg_ci 3 0 rfl rfl ?_
  refine gg_s 4 rfl rfl ?_
  exact gt_165_4 gFU x1 0 0 (gl1 rfl rfl (gl1 rfl rfl rfl)) (gl1 rfl rfl (gl1 rfl rfl rfl)) (gl1 rfl rfl gs1) gs1
def fx_167_39 (k : Nat) (x1 : Int) (x2 : Int) (x4 : Int) (x6 : Int) (σ : gb_S) : Option gb_P := match k with
  | 0 => none
  | k + 1 =>
    gq (gR x6) (
    gq (gR (σ 187 3)) (
    (if x6 < (σ 187 3) then
      gc (fx_144 x1 x6 σ) (fun r3 s4 =>
      gq (gR r3) (
      (if r3 = 0 then
        fx_167_39 k x1 x2 x4 (x6 + 1) s4
      else
        gq (0 ≤ x6 ∧ x6 < 14) (
        gq (gR (s4 214 x6.toNat)) (
        (if (s4 214 x6.toNat) = 0 then
          fx_167_39 k x1 x2 x4 (x6 + 1) s4
        else
          gc (fx_164 x6 x2 x4 s4) (fun _ s9 =>
          fx_167_39 k x1 x2 x4 (x6 + 1) s9)))))))
    else
      some (.inl 0, σ))))
/-- TreeclerkModel.sharesOut -/
def fx_167 (x1 : Int) (σ : gb_S) : Option gb_P :=
  gq (0 ≤ x1 ∧ x1 < 14) (
  gc (fx_165 x1 σ) (fun r2 s3 =>
  gq (gR r2) (
  fx_167_39 gFU x1 (σ 218 x1.toNat) ((σ 219 x1.toNat) * r2) 0 (gb_up (gb_up s3 218 x1.toNat 0) 219 x1.toNat 1))))
theorem gt_167_39 (k : Nat) : ∀ (x1 : Int) (x2 : Int) (x4 : Int) (x6 : Int) {lo : gh_L} (l0 : lo.lookup 0 = some (vr 187)) (l1 : lo.lookup 1 = some (vi x1)) (l2 : lo.lookup 2 = some (vl x2)) (l4 : lo.lookup 4 = some (vl x4)) (l6 : lo.lookup 6 = some (vi x6)) {σ : gb_S}, gb_G (fx_167_39 k x1 x2 x4 x6 σ) 2 8 none (fun _ _ => none) gk_167 c0 eV 39 lo [] σ := by
  induction k with
  | zero => intros; exact gg_n
  | succ k ih =>
    intro x1 x2 x4 x6 lo l0 l1 l2 l4 l6 σ
    rw [fx_167_39]
    refine gg_il 41 6 rfl rfl l6 ?_
    refine gg_al 42 0 rfl rfl l0 ?_
    refine gg_gi 45 rfl rfl rfl gcl_187 rfl ?_
    refine gg_q (fun q1 => ?_)
    refine gg_q (fun q2 => ?_)
    refine gg_ige 83 48 rfl rfl rfl rfl q1 q2 ?_ ?_
    · exact gg_vr rfl
    · refine gg_al 49 0 rfl rfl l0 ?_
      refine gg_il 50 1 rfl rfl l1 ?_
      refine gg_il 52 6 rfl rfl l6 ?_
      refine gg_cI 55 rfl (gm_144 _ _) (Nat.le_of_ble_eq_true rfl) (gb_vs rfl rfl rfl rfl rfl gcl_187 rfl rfl rfl) rfl (fun _ => rfl) (fun _ => rfl) (fun r3 s4 => ?_)
      refine gg_q (fun q5 => ?_)
      refine gg_zeq 77 58 rfl rfl rfl rfl q5 ?_ ?_
      · refine gg_inc 80 rfl rfl l6 ?_
        refine gg_go 39 rfl rfl rfl ?_
        exact ih x1 x2 x4 (x6 + 1) (gl1 rfl rfl l0) (gl1 rfl rfl l1) (gl1 rfl rfl l2) (gl1 rfl rfl l4) gs1
      · refine gg_al 59 0 rfl rfl l0 ?_
        refine gg_gr 62 214 rfl rfl rfl gcl_187 rfl ?_
        refine gg_il 64 6 rfl rfl l6 ?_
        refine gg_q (fun q6 => ?_)
        refine gg_bal 65 rfl rfl gar_214 q6 ?_
        refine gg_q (fun q7 => ?_)
        refine gg_zeq 77 68 rfl rfl rfl rfl q7 ?_ ?_
        · refine gg_inc 80 rfl rfl l6 ?_
          refine gg_go 39 rfl rfl rfl ?_
          exact ih x1 x2 x4 (x6 + 1) (gl1 rfl rfl l0) (gl1 rfl rfl l1) (gl1 rfl rfl l2) (gl1 rfl rfl l4) gs1
        · refine gg_al 69 0 rfl rfl l0 ?_
          refine gg_il 71 6 rfl rfl l6 ?_
          refine gg_ll 72 2 rfl rfl l2 ?_
          refine gg_ll 74 4 rfl rfl l4 ?_
          refine gg_cV 77 rfl (gm_164 _ _ _) (Nat.le_of_ble_eq_true rfl) (gb_vs rfl rfl rfl rfl rfl gcl_187 rfl rfl rfl) rfl (fun _ => rfl) (fun _ => rfl) (fun s9 => ?_)
          refine gg_inc 80 rfl rfl l6 ?_
          refine gg_go 39 rfl rfl rfl ?_
          exact ih x1 x2 x4 (x6 + 1) (gl1 rfl rfl l0) (gl1 rfl rfl l1) (gl1 rfl rfl l2) (gl1 rfl rfl l4) gs1
theorem gm_167 (x1 : Int) {σ : gb_S} : gb_M (fx_167 x1 σ) 3 c0 eV 167 [vr 187, vi x1] σ := by
  rw [fx_167]
  refine gg_m (own := 8) (rt := none) (hnd := fun _ _ => none) (K := gk_167) (δ := 2) rfl rfl ?_
  refine gg_al 1 0 rfl rfl rfl ?_
  refine gg_gr 4 218 rfl rfl rfl gcl_187 rfl ?_
  refine gg_il 5 1 rfl rfl rfl ?_
  refine gg_q (fun q1 => ?_)
  refine gg_lal 6 rfl rfl gar_218 q1 ?_
  refine gg_s 7 rfl rfl ?_
  refine gg_al 8 0 rfl rfl (gl2 rfl rfl rfl rfl) ?_
  refine gg_gr 11 219 rfl rfl rfl gcl_187 rfl ?_
  refine gg_il 12 1 rfl rfl (gl2 rfl rfl rfl rfl) ?_
  refine gg_lal 13 rfl rfl gar_219 q1 ?_
  refine gg_al 14 0 rfl rfl (gl2 rfl rfl rfl rfl) ?_
  refine gg_il 15 1 rfl rfl (gl2 rfl rfl rfl rfl) ?_
  refine gg_cI 18 rfl (gm_165 _) (Nat.le_of_ble_eq_true rfl) (gb_vs rfl rfl rfl rfl rfl gcl_187 rfl rfl rfl) rfl (fun _ => rfl) (fun _ => rfl) (fun r2 s3 => ?_)
  refine gg_q (fun q4 => ?_)
  refine gg_i2l 19 rfl rfl q4 ?_
  refine gg_lmul 20 rfl rfl ?_
  refine gg_s 22 rfl rfl ?_
  refine gg_al 23 0 rfl rfl (gl2 rfl rfl rfl (gl2 rfl rfl rfl rfl)) ?_
  refine gg_gr 26 218 rfl rfl rfl gcl_187 rfl ?_
  refine gg_il 27 1 rfl rfl (gl2 rfl rfl rfl (gl2 rfl rfl rfl rfl)) ?_
  refine gg_cl 28 0 rfl rfl ?_
  refine gg_las 29 rfl rfl gar_218 q1 ?_
  refine gg_al 30 0 rfl rfl (gl2 rfl rfl rfl (gl2 rfl rfl rfl rfl)) ?_
  refine gg_gr 33 219 rfl rfl rfl gcl_187 rfl ?_
  refine gg_il 34 1 rfl rfl (gl2 rfl rfl rfl (gl2 rfl rfl rfl rfl)) ?_
  refine gg_cl 35 1 rfl rfl ?_
  refine gg_las 36 rfl rfl gar_219 q1 ?_
  refine gg_ci 37 0 rfl rfl ?_
  refine gg_s 39 rfl rfl ?_
  exact gt_167_39 gFU x1 (σ 218 x1.toNat) ((σ 219 x1.toNat) * r2) 0 (gl1 rfl rfl (gl2 rfl rfl rfl (gl2 rfl rfl rfl rfl))) (gl1 rfl rfl (gl2 rfl rfl rfl (gl2 rfl rfl rfl rfl))) (gl1 rfl rfl (gl2 rfl rfl rfl gs2)) (gl1 rfl rfl gs2) gs1
end GF6
