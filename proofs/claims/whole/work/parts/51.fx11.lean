section GF11
variable {c0 : gh_C}
/-- TreeclerkLaw.isClosed -/
def fx_210 (x1 : Int) (σ : gb_S) : Option gb_P :=
  (gch (fx_96 x1 σ) (fun r1 s2 =>
    gq (gR r1) (
    (if r1 = 0 then
      some (.inl 0, (gb_up s2 224 0 0))
    else
      some (.inl 0, (gb_up s2 224 0 1))))) (fun E s => if E = 0 then some (.inl 1, s) else some (.inr E, s)))
theorem gm_210 (x1 : Int) {σ : gb_S} : gb_M (fx_210 x1 σ) 3 c0 eI 210 [vr 1, vi x1, vr 224] σ := by
  rw [fx_210]
  refine gg_m (own := 9) (rt := (some .int)) (hnd := fun pc E => if pc = 4 then [(0, 20, 3)].lookup E else none) (K := gk_210) (δ := 2) rfl rfl ?_
  refine gg_al 1 2 rfl rfl rfl ?_
  refine gg_ci 2 0 rfl rfl ?_
  refine gg_al 3 0 rfl rfl rfl ?_
  refine gg_il 4 1 rfl rfl rfl ?_
  refine gg_chI 7 rfl (gm_96 _) (Nat.le_of_ble_eq_true rfl) (gb_vs rfl rfl rfl rfl rfl gcl_1 rfl rfl rfl) rfl (fun _ => rfl) (fun r1 s2 => ?_) (fun E s => ?_)
  · refine gg_q (fun q3 => ?_)
    refine gg_zeq 14 10 rfl rfl rfl rfl q3 ?_ ?_
    · refine gg_cl 15 0 rfl rfl ?_
      refine gg_las 16 rfl rfl gar_224 ⟨by decide, by decide⟩ ?_
      refine gg_go 22 rfl rfl rfl ?_
      refine gg_ci 23 0 rfl rfl ?_
      exact gg_ir rfl
    · refine gg_cl 11 1 rfl rfl ?_
      refine gg_go 15 rfl rfl rfl ?_
      refine gg_las 16 rfl rfl gar_224 ⟨by decide, by decide⟩ ?_
      refine gg_go 22 rfl rfl rfl ?_
      refine gg_ci 23 0 rfl rfl ?_
      exact gg_ir rfl
  · match E with
    | 0 =>
      show gb_G _ _ _ _ _ _ _ _ _ _ _ _
      refine gg_ci 21 1 rfl rfl ?_
      exact gg_ir rfl
    | E + 1 => exact rfl
/-- TreeclerkLaw.shareAbove -/
def fx_211 (x1 : Int) (x2 : Int) (σ : gb_S) : Option gb_P :=
  (gch (fx_97 x1 x2 σ) (fun r1 s2 =>
    some (.inl 0, (gb_up s2 224 0 r1))) (fun E s => if E = 0 then some (.inl 1, s) else if E = 2 then some (.inl 2, s) else some (.inr E, s)))
theorem gm_211 (x1 : Int) (x2 : Int) {σ : gb_S} : gb_M (fx_211 x1 x2 σ) 8 c0 eI 211 [vr 1, vi x1, vi x2, vr 224] σ := by
  rw [fx_211]
  refine gg_m (own := 9) (rt := (some .int)) (hnd := fun pc E => if pc = 5 then [(0, 14, 4), (2, 18, 4)].lookup E else none) (K := gk_211) (δ := 7) rfl rfl ?_
  refine gg_al 1 3 rfl rfl rfl ?_
  refine gg_ci 2 0 rfl rfl ?_
  refine gg_al 3 0 rfl rfl rfl ?_
  refine gg_il 4 1 rfl rfl rfl ?_
  refine gg_il 5 2 rfl rfl rfl ?_
  refine gg_chL 8 rfl (gm_97 _ _) (Nat.le_of_ble_eq_true rfl) (gb_vs rfl rfl rfl rfl rfl gcl_1 rfl rfl rfl) rfl (fun _ => rfl) (fun r1 s2 => ?_) (fun E s => ?_)
  · refine gg_las 9 rfl rfl gar_224 ⟨by decide, by decide⟩ ?_
    refine gg_go 20 rfl rfl rfl ?_
    refine gg_ci 21 0 rfl rfl ?_
    exact gg_ir rfl
  · match E with
    | 0 =>
      show gb_G _ _ _ _ _ _ _ _ _ _ _ _
      refine gg_ci 15 1 rfl rfl ?_
      exact gg_ir rfl
    | 1 =>
      exact rfl
    | 2 =>
      show gb_G _ _ _ _ _ _ _ _ _ _ _ _
      refine gg_ci 19 2 rfl rfl ?_
      exact gg_ir rfl
    | E + 3 => exact rfl
/-- TreeclerkLaw.shareBelow -/
def fx_212 (x1 : Int) (x2 : Int) (σ : gb_S) : Option gb_P :=
  (gch (fx_98 x1 x2 σ) (fun r1 s2 =>
    some (.inl 0, (gb_up s2 224 0 r1))) (fun E s => if E = 0 then some (.inl 1, s) else if E = 2 then some (.inl 2, s) else some (.inr E, s)))
theorem gm_212 (x1 : Int) (x2 : Int) {σ : gb_S} : gb_M (fx_212 x1 x2 σ) 8 c0 eI 212 [vr 1, vi x1, vi x2, vr 224] σ := by
  rw [fx_212]
  refine gg_m (own := 9) (rt := (some .int)) (hnd := fun pc E => if pc = 5 then [(0, 14, 4), (2, 18, 4)].lookup E else none) (K := gk_212) (δ := 7) rfl rfl ?_
  refine gg_al 1 3 rfl rfl rfl ?_
  refine gg_ci 2 0 rfl rfl ?_
  refine gg_al 3 0 rfl rfl rfl ?_
  refine gg_il 4 1 rfl rfl rfl ?_
  refine gg_il 5 2 rfl rfl rfl ?_
  refine gg_chL 8 rfl (gm_98 _ _) (Nat.le_of_ble_eq_true rfl) (gb_vs rfl rfl rfl rfl rfl gcl_1 rfl rfl rfl) rfl (fun _ => rfl) (fun r1 s2 => ?_) (fun E s => ?_)
  · refine gg_las 9 rfl rfl gar_224 ⟨by decide, by decide⟩ ?_
    refine gg_go 20 rfl rfl rfl ?_
    refine gg_ci 21 0 rfl rfl ?_
    exact gg_ir rfl
  · match E with
    | 0 =>
      show gb_G _ _ _ _ _ _ _ _ _ _ _ _
      refine gg_ci 15 1 rfl rfl ?_
      exact gg_ir rfl
    | 1 =>
      exact rfl
    | 2 =>
      show gb_G _ _ _ _ _ _ _ _ _ _ _ _
      refine gg_ci 19 2 rfl rfl ?_
      exact gg_ir rfl
    | E + 3 => exact rfl
/-- TreeclerkLaw.shareAboveByWays -/
def fx_213 (x1 : Int) (x2 : Int) (σ : gb_S) : Option gb_P :=
  (gch (fx_99 x1 x2 σ) (fun r1 s2 =>
    some (.inl 0, (gb_up s2 224 0 r1))) (fun E s => if E = 0 then some (.inl 1, s) else if E = 2 then some (.inl 2, s) else some (.inr E, s)))
theorem gm_213 (x1 : Int) (x2 : Int) {σ : gb_S} : gb_M (fx_213 x1 x2 σ) 63 c0 eI 213 [vr 1, vi x1, vi x2, vr 224] σ := by
  rw [fx_213]
  refine gg_m (own := 9) (rt := (some .int)) (hnd := fun pc E => if pc = 5 then [(0, 14, 4), (2, 18, 4)].lookup E else none) (K := gk_213) (δ := 62) rfl rfl ?_
  refine gg_al 1 3 rfl rfl rfl ?_
  refine gg_ci 2 0 rfl rfl ?_
  refine gg_al 3 0 rfl rfl rfl ?_
  refine gg_il 4 1 rfl rfl rfl ?_
  refine gg_il 5 2 rfl rfl rfl ?_
  refine gg_chL 8 rfl (gm_99 _ _) (Nat.le_of_ble_eq_true rfl) (gb_vs rfl rfl rfl rfl rfl gcl_1 rfl rfl rfl) rfl (fun _ => rfl) (fun r1 s2 => ?_) (fun E s => ?_)
  · refine gg_las 9 rfl rfl gar_224 ⟨by decide, by decide⟩ ?_
    refine gg_go 20 rfl rfl rfl ?_
    refine gg_ci 21 0 rfl rfl ?_
    exact gg_ir rfl
  · match E with
    | 0 =>
      show gb_G _ _ _ _ _ _ _ _ _ _ _ _
      refine gg_ci 15 1 rfl rfl ?_
      exact gg_ir rfl
    | 1 =>
      exact rfl
    | 2 =>
      show gb_G _ _ _ _ _ _ _ _ _ _ _ _
      refine gg_ci 19 2 rfl rfl ?_
      exact gg_ir rfl
    | E + 3 => exact rfl
/-- TreeclerkLaw.heirs -/
def fx_214 (x1 : Int) (σ : gb_S) : Option gb_P :=
  (gch (fx_100 x1 σ) (fun r1 s2 =>
    gq (gR r1) (
    some (.inl 0, (gb_up s2 224 0 r1)))) (fun E s => if E = 0 then some (.inl 1, s) else if E = 2 then some (.inl 2, s) else some (.inr E, s)))
theorem gm_214 (x1 : Int) {σ : gb_S} : gb_M (fx_214 x1 σ) 8 c0 eI 214 [vr 1, vi x1, vr 224] σ := by
  rw [fx_214]
  refine gg_m (own := 9) (rt := (some .int)) (hnd := fun pc E => if pc = 4 then [(0, 13, 3), (2, 16, 3)].lookup E else none) (K := gk_214) (δ := 7) rfl rfl ?_
  refine gg_al 1 2 rfl rfl rfl ?_
  refine gg_ci 2 0 rfl rfl ?_
  refine gg_al 3 0 rfl rfl rfl ?_
  refine gg_il 4 1 rfl rfl rfl ?_
  refine gg_chI 7 rfl (gm_100 _) (Nat.le_of_ble_eq_true rfl) (gb_vs rfl rfl rfl rfl rfl gcl_1 rfl rfl rfl) rfl (fun _ => rfl) (fun r1 s2 => ?_) (fun E s => ?_)
  · refine gg_q (fun q3 => ?_)
    refine gg_i2l 8 rfl rfl q3 ?_
    refine gg_las 9 rfl rfl gar_224 ⟨by decide, by decide⟩ ?_
    refine gg_go 18 rfl rfl rfl ?_
    refine gg_ci 19 0 rfl rfl ?_
    exact gg_ir rfl
  · match E with
    | 0 =>
      show gb_G _ _ _ _ _ _ _ _ _ _ _ _
      refine gg_ci 14 1 rfl rfl ?_
      exact gg_ir rfl
    | 1 =>
      exact rfl
    | 2 =>
      show gb_G _ _ _ _ _ _ _ _ _ _ _ _
      refine gg_ci 17 2 rfl rfl ?_
      exact gg_ir rfl
    | E + 3 => exact rfl
/-- TreeclerkLaw.disputes -/
def fx_215 (x1 : Int) (σ : gb_S) : Option gb_P :=
  (gch (fx_101 x1 σ) (fun r1 s2 =>
    gq (gR r1) (
    some (.inl 0, (gb_up s2 224 0 r1)))) (fun E s => if E = 0 then some (.inl 1, s) else if E = 2 then some (.inl 2, s) else some (.inr E, s)))
theorem gm_215 (x1 : Int) {σ : gb_S} : gb_M (fx_215 x1 σ) 8 c0 eI 215 [vr 1, vi x1, vr 224] σ := by
  rw [fx_215]
  refine gg_m (own := 9) (rt := (some .int)) (hnd := fun pc E => if pc = 4 then [(0, 13, 3), (2, 16, 3)].lookup E else none) (K := gk_215) (δ := 7) rfl rfl ?_
  refine gg_al 1 2 rfl rfl rfl ?_
  refine gg_ci 2 0 rfl rfl ?_
  refine gg_al 3 0 rfl rfl rfl ?_
  refine gg_il 4 1 rfl rfl rfl ?_
  refine gg_chI 7 rfl (gm_101 _) (Nat.le_of_ble_eq_true rfl) (gb_vs rfl rfl rfl rfl rfl gcl_1 rfl rfl rfl) rfl (fun _ => rfl) (fun r1 s2 => ?_) (fun E s => ?_)
  · refine gg_q (fun q3 => ?_)
    refine gg_i2l 8 rfl rfl q3 ?_
    refine gg_las 9 rfl rfl gar_224 ⟨by decide, by decide⟩ ?_
    refine gg_go 18 rfl rfl rfl ?_
    refine gg_ci 19 0 rfl rfl ?_
    exact gg_ir rfl
  · match E with
    | 0 =>
      show gb_G _ _ _ _ _ _ _ _ _ _ _ _
      refine gg_ci 14 1 rfl rfl ?_
      exact gg_ir rfl
    | 1 =>
      exact rfl
    | 2 =>
      show gb_G _ _ _ _ _ _ _ _ _ _ _ _
      refine gg_ci 17 2 rfl rfl ?_
      exact gg_ir rfl
    | E + 3 => exact rfl
/-- TreeclerkLaw.reopenings -/
def fx_216 (x1 : Int) (σ : gb_S) : Option gb_P :=
  (gch (fx_102 x1 σ) (fun r1 s2 =>
    gq (gR r1) (
    some (.inl 0, (gb_up s2 224 0 r1)))) (fun E s => if E = 0 then some (.inl 1, s) else some (.inr E, s)))
theorem gm_216 (x1 : Int) {σ : gb_S} : gb_M (fx_216 x1 σ) 3 c0 eI 216 [vr 1, vi x1, vr 224] σ := by
  rw [fx_216]
  refine gg_m (own := 9) (rt := (some .int)) (hnd := fun pc E => if pc = 4 then [(0, 13, 3)].lookup E else none) (K := gk_216) (δ := 2) rfl rfl ?_
  refine gg_al 1 2 rfl rfl rfl ?_
  refine gg_ci 2 0 rfl rfl ?_
  refine gg_al 3 0 rfl rfl rfl ?_
  refine gg_il 4 1 rfl rfl rfl ?_
  refine gg_chI 7 rfl (gm_102 _) (Nat.le_of_ble_eq_true rfl) (gb_vs rfl rfl rfl rfl rfl gcl_1 rfl rfl rfl) rfl (fun _ => rfl) (fun r1 s2 => ?_) (fun E s => ?_)
  · refine gg_q (fun q3 => ?_)
    refine gg_i2l 8 rfl rfl q3 ?_
    refine gg_las 9 rfl rfl gar_224 ⟨by decide, by decide⟩ ?_
    refine gg_go 15 rfl rfl rfl ?_
    refine gg_ci 16 0 rfl rfl ?_
    exact gg_ir rfl
  · match E with
    | 0 =>
      show gb_G _ _ _ _ _ _ _ _ _ _ _ _
      refine gg_ci 14 1 rfl rfl ?_
      exact gg_ir rfl
    | E + 1 => exact rfl
/-- TreeclerkLaw.grant -/
def fx_217 (x1 : Int) (x2 : Int) (x3 : Int) (σ : gb_S) : Option gb_P :=
  (gch (fx_103 x1 x2 x3 σ) (fun r1 s2 =>
    gq (gR r1) (
    some (.inl 0, (gb_up s2 224 0 r1)))) (fun E s => if E = 0 then some (.inl 1, s) else if E = 1 then some (.inl 2, s) else if E = 2 then some (.inl 3, s) else some (.inr E, s)))
theorem gm_217 (x1 : Int) (x2 : Int) (x3 : Int) {σ : gb_S} : gb_M (fx_217 x1 x2 x3 σ) 5 c0 eI 217 [vr 1, vi x1, vi x2, vi x3, vr 224] σ := by
  rw [fx_217]
  refine gg_m (own := 9) (rt := (some .int)) (hnd := fun pc E => if pc = 7 then [(0, 17, 5), (1, 21, 5), (2, 25, 5)].lookup E else none) (K := gk_217) (δ := 4) rfl rfl ?_
  refine gg_al 2 4 rfl rfl rfl ?_
  refine gg_ci 3 0 rfl rfl ?_
  refine gg_al 4 0 rfl rfl rfl ?_
  refine gg_il 5 1 rfl rfl rfl ?_
  refine gg_il 6 2 rfl rfl rfl ?_
  refine gg_il 7 3 rfl rfl rfl ?_
  refine gg_chI 10 rfl (gm_103 _ _ _) (Nat.le_of_ble_eq_true rfl) (gb_vs rfl rfl rfl rfl rfl gcl_1 rfl rfl rfl) rfl (fun _ => rfl) (fun r1 s2 => ?_) (fun E s => ?_)
  · refine gg_q (fun q3 => ?_)
    refine gg_i2l 11 rfl rfl q3 ?_
    refine gg_las 12 rfl rfl gar_224 ⟨by decide, by decide⟩ ?_
    refine gg_go 27 rfl rfl rfl ?_
    refine gg_ci 28 0 rfl rfl ?_
    exact gg_ir rfl
  · match E with
    | 0 =>
      show gb_G _ _ _ _ _ _ _ _ _ _ _ _
      refine gg_ci 18 1 rfl rfl ?_
      exact gg_ir rfl
    | 1 =>
      show gb_G _ _ _ _ _ _ _ _ _ _ _ _
      refine gg_ci 22 2 rfl rfl ?_
      exact gg_ir rfl
    | 2 =>
      show gb_G _ _ _ _ _ _ _ _ _ _ _ _
      refine gg_ci 26 3 rfl rfl ?_
      exact gg_ir rfl
    | E + 3 => exact rfl
/-- TreeclerkLaw.hand -/
def fx_218 (x1 : Int) (x2 : Int) (x3 : Int) (x4 : Int) (σ : gb_S) : Option gb_P :=
  (gch (fx_104 x1 x2 x3 x4 σ) (fun r1 s2 =>
    gq (gR r1) (
    some (.inl 0, (gb_up s2 224 0 r1)))) (fun E s => if E = 0 then some (.inl 1, s) else if E = 1 then some (.inl 2, s) else if E = 2 then some (.inl 3, s) else some (.inr E, s)))
theorem gm_218 (x1 : Int) (x2 : Int) (x3 : Int) (x4 : Int) {σ : gb_S} : gb_M (fx_218 x1 x2 x3 x4 σ) 5 c0 eI 218 [vr 1, vi x1, vi x2, vi x3, vi x4, vr 224] σ := by
  rw [fx_218]
  refine gg_m (own := 9) (rt := (some .int)) (hnd := fun pc E => if pc = 9 then [(0, 19, 6), (1, 23, 6), (2, 27, 6)].lookup E else none) (K := gk_218) (δ := 4) rfl rfl ?_
  refine gg_al 2 5 rfl rfl rfl ?_
  refine gg_ci 3 0 rfl rfl ?_
  refine gg_al 4 0 rfl rfl rfl ?_
  refine gg_il 5 1 rfl rfl rfl ?_
  refine gg_il 6 2 rfl rfl rfl ?_
  refine gg_il 7 3 rfl rfl rfl ?_
  refine gg_il 9 4 rfl rfl rfl ?_
  refine gg_chI 12 rfl (gm_104 _ _ _ _) (Nat.le_of_ble_eq_true rfl) (gb_vs rfl rfl rfl rfl rfl gcl_1 rfl rfl rfl) rfl (fun _ => rfl) (fun r1 s2 => ?_) (fun E s => ?_)
  · refine gg_q (fun q3 => ?_)
    refine gg_i2l 13 rfl rfl q3 ?_
    refine gg_las 14 rfl rfl gar_224 ⟨by decide, by decide⟩ ?_
    refine gg_go 29 rfl rfl rfl ?_
    refine gg_ci 30 0 rfl rfl ?_
    exact gg_ir rfl
  · match E with
    | 0 =>
      show gb_G _ _ _ _ _ _ _ _ _ _ _ _
      refine gg_ci 20 1 rfl rfl ?_
      exact gg_ir rfl
    | 1 =>
      show gb_G _ _ _ _ _ _ _ _ _ _ _ _
      refine gg_ci 24 2 rfl rfl ?_
      exact gg_ir rfl
    | 2 =>
      show gb_G _ _ _ _ _ _ _ _ _ _ _ _
      refine gg_ci 28 3 rfl rfl ?_
      exact gg_ir rfl
    | E + 3 => exact rfl
/-- TreeclerkLaw.owner -/
def fx_219 (x1 : Int) (σ : gb_S) : Option gb_P :=
  (gch (fx_105 x1 σ) (fun r1 s2 =>
    gq (gR r1) (
    some (.inl 0, (gb_up s2 224 0 r1)))) (fun E s => if E = 0 then some (.inl 1, s) else some (.inr E, s)))
theorem gm_219 (x1 : Int) {σ : gb_S} : gb_M (fx_219 x1 σ) 3 c0 eI 219 [vr 1, vi x1, vr 224] σ := by
  rw [fx_219]
  refine gg_m (own := 9) (rt := (some .int)) (hnd := fun pc E => if pc = 4 then [(0, 13, 3)].lookup E else none) (K := gk_219) (δ := 2) rfl rfl ?_
  refine gg_al 1 2 rfl rfl rfl ?_
  refine gg_ci 2 0 rfl rfl ?_
  refine gg_al 3 0 rfl rfl rfl ?_
  refine gg_il 4 1 rfl rfl rfl ?_
  refine gg_chI 7 rfl (gm_105 _) (Nat.le_of_ble_eq_true rfl) (gb_vs rfl rfl rfl rfl rfl gcl_1 rfl rfl rfl) rfl (fun _ => rfl) (fun r1 s2 => ?_) (fun E s => ?_)
  · refine gg_q (fun q3 => ?_)
    refine gg_i2l 8 rfl rfl q3 ?_
    refine gg_las 9 rfl rfl gar_224 ⟨by decide, by decide⟩ ?_
    refine gg_go 15 rfl rfl rfl ?_
    refine gg_ci 16 0 rfl rfl ?_
    exact gg_ir rfl
  · match E with
    | 0 =>
      show gb_G _ _ _ _ _ _ _ _ _ _ _ _
      refine gg_ci 14 1 rfl rfl ?_
      exact gg_ir rfl
    | E + 1 => exact rfl
/-- TreeclerkLaw.ownerAnew -/
def fx_220 (x1 : Int) (σ : gb_S) : Option gb_P :=
  (gch (fx_106 x1 σ) (fun r1 s2 =>
    gq (gR r1) (
    some (.inl 0, (gb_up s2 224 0 r1)))) (fun E s => if E = 0 then some (.inl 1, s) else some (.inr E, s)))
theorem gm_220 (x1 : Int) {σ : gb_S} : gb_M (fx_220 x1 σ) 63 c0 eI 220 [vr 1, vi x1, vr 224] σ := by
  rw [fx_220]
  refine gg_m (own := 9) (rt := (some .int)) (hnd := fun pc E => if pc = 4 then [(0, 13, 3)].lookup E else none) (K := gk_220) (δ := 62) rfl rfl ?_
  refine gg_al 1 2 rfl rfl rfl ?_
  refine gg_ci 2 0 rfl rfl ?_
  refine gg_al 3 0 rfl rfl rfl ?_
  refine gg_il 4 1 rfl rfl rfl ?_
  refine gg_chI 7 rfl (gm_106 _) (Nat.le_of_ble_eq_true rfl) (gb_vs rfl rfl rfl rfl rfl gcl_1 rfl rfl rfl) rfl (fun _ => rfl) (fun r1 s2 => ?_) (fun E s => ?_)
  · refine gg_q (fun q3 => ?_)
    refine gg_i2l 8 rfl rfl q3 ?_
    refine gg_las 9 rfl rfl gar_224 ⟨by decide, by decide⟩ ?_
    refine gg_go 15 rfl rfl rfl ?_
    refine gg_ci 16 0 rfl rfl ?_
    exact gg_ir rfl
  · match E with
    | 0 =>
      show gb_G _ _ _ _ _ _ _ _ _ _ _ _
      refine gg_ci 14 1 rfl rfl ?_
      exact gg_ir rfl
    | E + 1 => exact rfl
/-- TreeclerkLaw.area -/
def fx_221 (x1 : Int) (σ : gb_S) : Option gb_P :=
  (gch (fx_107 x1 σ) (fun r1 s2 =>
    gq (gR r1) (
    some (.inl 0, (gb_up s2 224 0 r1)))) (fun E s => if E = 0 then some (.inl 1, s) else some (.inr E, s)))
theorem gm_221 (x1 : Int) {σ : gb_S} : gb_M (fx_221 x1 σ) 4 c0 eI 221 [vr 1, vi x1, vr 224] σ := by
  rw [fx_221]
  refine gg_m (own := 9) (rt := (some .int)) (hnd := fun pc E => if pc = 4 then [(0, 13, 3)].lookup E else none) (K := gk_221) (δ := 3) rfl rfl ?_
  refine gg_al 1 2 rfl rfl rfl ?_
  refine gg_ci 2 0 rfl rfl ?_
  refine gg_al 3 0 rfl rfl rfl ?_
  refine gg_il 4 1 rfl rfl rfl ?_
  refine gg_chI 7 rfl (gm_107 _) (Nat.le_of_ble_eq_true rfl) (gb_vs rfl rfl rfl rfl rfl gcl_1 rfl rfl rfl) rfl (fun _ => rfl) (fun r1 s2 => ?_) (fun E s => ?_)
  · refine gg_q (fun q3 => ?_)
    refine gg_i2l 8 rfl rfl q3 ?_
    refine gg_las 9 rfl rfl gar_224 ⟨by decide, by decide⟩ ?_
    refine gg_go 15 rfl rfl rfl ?_
    refine gg_ci 16 0 rfl rfl ?_
    exact gg_ir rfl
  · match E with
    | 0 =>
      show gb_G _ _ _ _ _ _ _ _ _ _ _ _
      refine gg_ci 14 1 rfl rfl ?_
      exact gg_ir rfl
    | E + 1 => exact rfl
/-- TreeclerkLaw.parcelAt -/
def fx_222 (x1 : Int) (σ : gb_S) : Option gb_P :=
  (gch (fx_109 x1 σ) (fun r1 s2 =>
    gq (gR r1) (
    some (.inl 0, (gb_up s2 224 0 r1)))) (fun E s => if E = 0 then some (.inl 1, s) else if E = 3 then some (.inl 2, s) else some (.inr E, s)))
theorem gm_222 (x1 : Int) {σ : gb_S} : gb_M (fx_222 x1 σ) 4 c0 eI 222 [vr 1, vi x1, vr 224] σ := by
  rw [fx_222]
  refine gg_m (own := 9) (rt := (some .int)) (hnd := fun pc E => if pc = 4 then [(0, 13, 3), (3, 16, 3)].lookup E else none) (K := gk_222) (δ := 3) rfl rfl ?_
  refine gg_al 1 2 rfl rfl rfl ?_
  refine gg_ci 2 0 rfl rfl ?_
  refine gg_al 3 0 rfl rfl rfl ?_
  refine gg_il 4 1 rfl rfl rfl ?_
  refine gg_chI 7 rfl (gm_109 _) (Nat.le_of_ble_eq_true rfl) (gb_vs rfl rfl rfl rfl rfl gcl_1 rfl rfl rfl) rfl (fun _ => rfl) (fun r1 s2 => ?_) (fun E s => ?_)
  · refine gg_q (fun q3 => ?_)
    refine gg_i2l 8 rfl rfl q3 ?_
    refine gg_las 9 rfl rfl gar_224 ⟨by decide, by decide⟩ ?_
    refine gg_go 18 rfl rfl rfl ?_
    refine gg_ci 19 0 rfl rfl ?_
    exact gg_ir rfl
  · match E with
    | 0 =>
      show gb_G _ _ _ _ _ _ _ _ _ _ _ _
      refine gg_ci 14 1 rfl rfl ?_
      exact gg_ir rfl
    | 1 =>
      exact rfl
    | 2 =>
      exact rfl
    | 3 =>
      show gb_G _ _ _ _ _ _ _ _ _ _ _ _
      refine gg_ci 17 2 rfl rfl ?_
      exact gg_ir rfl
    | E + 4 => exact rfl
end GF11
