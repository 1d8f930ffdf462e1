section GF4
variable {c0 : gx_C}
/-- TreeclerkLaw.does -/
def fy_129 (x1 : Int) (x2 : Int) (x3 : Int) (σ : gb_S) : Option gb_P :=
  gq (gR x1) (
  (if x1 = 0 then
    (gch (fx_86 x2 x3 σ) (fun r9 s10 =>
      some (.inl r9, s10)) (fun E s => if E = 0 then some (.inl (-8), s) else if E = 1 then some (.inl (-8), s) else if E = 2 then some (.inl (-8), s) else some (.inr E, s)))
  else
    (if x1 = 1 then
      gq (gR x3) (
      (if x3 = 1 then
        (gch (fx_87 x2 1 σ) (fun r7 s8 =>
          some (.inl r7, s8)) (fun E s => if E = 0 then some (.inl (-8), s) else if E = 1 then some (.inl (-8), s) else if E = 2 then some (.inl (-8), s) else some (.inr E, s)))
      else
        (gch (fx_87 x2 0 σ) (fun r5 s6 =>
          some (.inl r5, s6)) (fun E s => if E = 0 then some (.inl (-8), s) else if E = 1 then some (.inl (-8), s) else if E = 2 then some (.inl (-8), s) else some (.inr E, s)))))
    else
      (gch (fx_93 x2 x3 σ) (fun r2 s3 =>
        some (.inl r2, s3)) (fun E s => if E = 0 then some (.inl (-8), s) else if E = 1 then some (.inl (-8), s) else if E = 2 then some (.inl (-8), s) else some (.inr E, s))))))
theorem gm_129 (x1 : Int) (x2 : Int) (x3 : Int) {σ : gb_S} : gb_M (fy_129 x1 x2 x3 σ) 9 c0 eI 129 [vr c0 1, vi x1, vi x2, vi x3] σ := by
  rw [fy_129]
  refine gg_m (own := 9) (rt := (some .int)) (hnd := fun pc E => if ([7, 30, 39] : List Nat).contains pc = true then [(0, 45, 4), (1, 50, 4), (2, 55, 4)].lookup E else none) (K := gk_129) (δ := 8) rfl rfl ?_
  refine gg_il 1 1 rfl rfl rfl ?_
  refine gg_q (fun q1 => ?_)
  refine gg_zne 13 4 rfl rfl rfl rfl q1 ?_ ?_
  · refine gg_il 14 1 rfl rfl rfl ?_
    refine gg_ci 15 1 rfl rfl ?_
    refine gg_ine 36 18 rfl rfl rfl rfl q1 (gRl rfl) ?_ ?_
    · refine gg_al 37 0 rfl rfl rfl ?_
      refine gg_il 38 2 rfl rfl rfl ?_
      refine gg_il 39 3 rfl rfl rfl ?_
      refine gg_chI 42 rfl (gm_93 _ _) (Nat.le_of_ble_eq_true rfl) (gb_vs rfl rfl rfl rfl rfl gcl_1 rfl rfl rfl) rfl (fun _ => rfl) (fun r2 s3 => ?_) (fun E s => ?_)
      · exact gg_ir rfl
      · match E with
        | 0 =>
          show gb_G _ _ _ _ _ _ _ _ _ _ _ _
          refine gg_ci 47 (-8) rfl rfl ?_
          exact gg_ir rfl
        | 1 =>
          show gb_G _ _ _ _ _ _ _ _ _ _ _ _
          refine gg_ci 52 (-8) rfl rfl ?_
          exact gg_ir rfl
        | 2 =>
          show gb_G _ _ _ _ _ _ _ _ _ _ _ _
          refine gg_ci 57 (-8) rfl rfl ?_
          exact gg_ir rfl
        | E + 3 => exact rfl
    · refine gg_al 19 0 rfl rfl rfl ?_
      refine gg_il 20 2 rfl rfl rfl ?_
      refine gg_il 21 3 rfl rfl rfl ?_
      refine gg_ci 22 1 rfl rfl ?_
      refine gg_q (fun q4 => ?_)
      refine gg_ine 29 25 rfl rfl rfl rfl q4 (gRl rfl) ?_ ?_
      · refine gg_ci 30 0 rfl rfl ?_
        refine gg_chI 33 rfl (gm_87 _ _) (Nat.le_of_ble_eq_true rfl) (gb_vs rfl rfl rfl rfl rfl gcl_1 rfl rfl rfl) rfl (fun _ => rfl) (fun r5 s6 => ?_) (fun E s => ?_)
        · refine gg_go 42 rfl rfl rfl ?_
          exact gg_ir rfl
        · match E with
          | 0 =>
            show gb_G _ _ _ _ _ _ _ _ _ _ _ _
            refine gg_ci 47 (-8) rfl rfl ?_
            exact gg_ir rfl
          | 1 =>
            show gb_G _ _ _ _ _ _ _ _ _ _ _ _
            refine gg_ci 52 (-8) rfl rfl ?_
            exact gg_ir rfl
          | 2 =>
            show gb_G _ _ _ _ _ _ _ _ _ _ _ _
            refine gg_ci 57 (-8) rfl rfl ?_
            exact gg_ir rfl
          | E + 3 => exact rfl
      · refine gg_ci 26 1 rfl rfl ?_
        refine gg_go 30 rfl rfl rfl ?_
        refine gg_chI 33 rfl (gm_87 _ _) (Nat.le_of_ble_eq_true rfl) (gb_vs rfl rfl rfl rfl rfl gcl_1 rfl rfl rfl) rfl (fun _ => rfl) (fun r7 s8 => ?_) (fun E s => ?_)
        · refine gg_go 42 rfl rfl rfl ?_
          exact gg_ir rfl
        · match E with
          | 0 =>
            show gb_G _ _ _ _ _ _ _ _ _ _ _ _
            refine gg_ci 47 (-8) rfl rfl ?_
            exact gg_ir rfl
          | 1 =>
            show gb_G _ _ _ _ _ _ _ _ _ _ _ _
            refine gg_ci 52 (-8) rfl rfl ?_
            exact gg_ir rfl
          | 2 =>
            show gb_G _ _ _ _ _ _ _ _ _ _ _ _
            refine gg_ci 57 (-8) rfl rfl ?_
            exact gg_ir rfl
          | E + 3 => exact rfl
  · refine gg_al 5 0 rfl rfl rfl ?_
    refine gg_il 6 2 rfl rfl rfl ?_
    refine gg_il 7 3 rfl rfl rfl ?_
    refine gg_chI 10 rfl (gm_86 _ _) (Nat.le_of_ble_eq_true rfl) (gb_vs rfl rfl rfl rfl rfl gcl_1 rfl rfl rfl) rfl (fun _ => rfl) (fun r9 s10 => ?_) (fun E s => ?_)
    · refine gg_go 42 rfl rfl rfl ?_
      exact gg_ir rfl
    · match E with
      | 0 =>
        show gb_G _ _ _ _ _ _ _ _ _ _ _ _
        refine gg_ci 47 (-8) rfl rfl ?_
        exact gg_ir rfl
      | 1 =>
        show gb_G _ _ _ _ _ _ _ _ _ _ _ _
        refine gg_ci 52 (-8) rfl rfl ?_
        exact gg_ir rfl
      | 2 =>
        show gb_G _ _ _ _ _ _ _ _ _ _ _ _
        refine gg_ci 57 (-8) rfl rfl ?_
        exact gg_ir rfl
      | E + 3 => exact rfl
/-- TreeclerkLaw.tell -/
def fy_130 (x1 : Int) (x2 : Int) (x3 : Int) (x4 : Int) (σ : gb_S) : Option gb_P :=
  gq (gR x1) (
  (if x1 = 0 then
    (gch (fx_85 x2 x3 x4 σ) (fun r6 s7 =>
      some (.inl r6, s7)) (fun E s => if E = 0 then some (.inl (-8), s) else if E = 1 then some (.inl (-8), s) else if E = 2 then some (.inl (-8), s) else some (.inr E, s)))
  else
    (if x1 = 1 then
      (gch (fx_92 x2 x3 x4 σ) (fun r4 s5 =>
        some (.inl r4, s5)) (fun E s => if E = 0 then some (.inl (-8), s) else if E = 1 then some (.inl (-8), s) else if E = 2 then some (.inl (-8), s) else some (.inr E, s)))
    else
      (gch (fx_103 x2 x3 x4 σ) (fun r2 s3 =>
        some (.inl r2, s3)) (fun E s => if E = 0 then some (.inl (-8), s) else if E = 1 then some (.inl (-8), s) else if E = 2 then some (.inl (-8), s) else some (.inr E, s))))))
theorem gm_130 (x1 : Int) (x2 : Int) (x3 : Int) (x4 : Int) {σ : gb_S} : gb_M (fy_130 x1 x2 x3 x4 σ) 9 c0 eI 130 [vr c0 1, vi x1, vi x2, vi x3, vi x4] σ := by
  rw [fy_130]
  refine gg_m (own := 9) (rt := (some .int)) (hnd := fun pc E => if ([9, 25, 36] : List Nat).contains pc = true then [(0, 42, 5), (1, 47, 5), (2, 52, 5)].lookup E else none) (K := gk_130) (δ := 8) rfl rfl ?_
  refine gg_il 1 1 rfl rfl rfl ?_
  refine gg_q (fun q1 => ?_)
  refine gg_zne 15 4 rfl rfl rfl rfl q1 ?_ ?_
  · refine gg_il 16 1 rfl rfl rfl ?_
    refine gg_ci 17 1 rfl rfl ?_
    refine gg_ine 31 20 rfl rfl rfl rfl q1 (gRl rfl) ?_ ?_
    · refine gg_al 32 0 rfl rfl rfl ?_
      refine gg_il 33 2 rfl rfl rfl ?_
      refine gg_il 34 3 rfl rfl rfl ?_
      refine gg_il 36 4 rfl rfl rfl ?_
      refine gg_chI 39 rfl (gm_103 _ _ _) (Nat.le_of_ble_eq_true rfl) (gb_vs rfl rfl rfl rfl rfl gcl_1 rfl rfl rfl) rfl (fun _ => rfl) (fun r2 s3 => ?_) (fun E s => ?_)
      · exact gg_ir rfl
      · match E with
        | 0 =>
          show gb_G _ _ _ _ _ _ _ _ _ _ _ _
          refine gg_ci 44 (-8) rfl rfl ?_
          exact gg_ir rfl
        | 1 =>
          show gb_G _ _ _ _ _ _ _ _ _ _ _ _
          refine gg_ci 49 (-8) rfl rfl ?_
          exact gg_ir rfl
        | 2 =>
          show gb_G _ _ _ _ _ _ _ _ _ _ _ _
          refine gg_ci 54 (-8) rfl rfl ?_
          exact gg_ir rfl
        | E + 3 => exact rfl
    · refine gg_al 21 0 rfl rfl rfl ?_
      refine gg_il 22 2 rfl rfl rfl ?_
      refine gg_il 23 3 rfl rfl rfl ?_
      refine gg_il 25 4 rfl rfl rfl ?_
      refine gg_chI 28 rfl (gm_92 _ _ _) (Nat.le_of_ble_eq_true rfl) (gb_vs rfl rfl rfl rfl rfl gcl_1 rfl rfl rfl) rfl (fun _ => rfl) (fun r4 s5 => ?_) (fun E s => ?_)
      · refine gg_go 39 rfl rfl rfl ?_
        exact gg_ir rfl
      · match E with
        | 0 =>
          show gb_G _ _ _ _ _ _ _ _ _ _ _ _
          refine gg_ci 44 (-8) rfl rfl ?_
          exact gg_ir rfl
        | 1 =>
          show gb_G _ _ _ _ _ _ _ _ _ _ _ _
          refine gg_ci 49 (-8) rfl rfl ?_
          exact gg_ir rfl
        | 2 =>
          show gb_G _ _ _ _ _ _ _ _ _ _ _ _
          refine gg_ci 54 (-8) rfl rfl ?_
          exact gg_ir rfl
        | E + 3 => exact rfl
  · refine gg_al 5 0 rfl rfl rfl ?_
    refine gg_il 6 2 rfl rfl rfl ?_
    refine gg_il 7 3 rfl rfl rfl ?_
    refine gg_il 9 4 rfl rfl rfl ?_
    refine gg_chI 12 rfl (gm_85 _ _ _) (Nat.le_of_ble_eq_true rfl) (gb_vs rfl rfl rfl rfl rfl gcl_1 rfl rfl rfl) rfl (fun _ => rfl) (fun r6 s7 => ?_) (fun E s => ?_)
    · refine gg_go 39 rfl rfl rfl ?_
      exact gg_ir rfl
    · match E with
      | 0 =>
        show gb_G _ _ _ _ _ _ _ _ _ _ _ _
        refine gg_ci 44 (-8) rfl rfl ?_
        exact gg_ir rfl
      | 1 =>
        show gb_G _ _ _ _ _ _ _ _ _ _ _ _
        refine gg_ci 49 (-8) rfl rfl ?_
        exact gg_ir rfl
      | 2 =>
        show gb_G _ _ _ _ _ _ _ _ _ _ _ _
        refine gg_ci 54 (-8) rfl rfl ?_
        exact gg_ir rfl
      | E + 3 => exact rfl
/-- TreeclerkLaw.hand -/
def fy_131 (x1 : Int) (x2 : Int) (x3 : Int) (x4 : Int) (σ : gb_S) : Option gb_P :=
  (gch (fx_104 x1 x2 x3 x4 σ) (fun r1 s2 =>
    some (.inl r1, s2)) (fun E s => if E = 0 then some (.inl (-8), s) else if E = 1 then some (.inl (-8), s) else if E = 2 then some (.inl (-8), s) else some (.inr E, s)))
theorem gm_131 (x1 : Int) (x2 : Int) (x3 : Int) (x4 : Int) {σ : gb_S} : gb_M (fy_131 x1 x2 x3 x4 σ) 5 c0 eI 131 [vr c0 1, vi x1, vi x2, vi x3, vi x4] σ := by
  rw [fy_131]
  refine gg_m (own := 9) (rt := (some .int)) (hnd := fun pc E => if ([6] : List Nat).contains pc = true then [(0, 12, 5), (1, 17, 5), (2, 22, 5)].lookup E else none) (K := gk_131) (δ := 4) rfl rfl ?_
  refine gg_al 1 0 rfl rfl rfl ?_
  refine gg_il 2 1 rfl rfl rfl ?_
  refine gg_il 3 2 rfl rfl rfl ?_
  refine gg_il 4 3 rfl rfl rfl ?_
  refine gg_il 6 4 rfl rfl rfl ?_
  refine gg_chI 9 rfl (gm_104 _ _ _ _) (Nat.le_of_ble_eq_true rfl) (gb_vs rfl rfl rfl rfl rfl gcl_1 rfl rfl rfl) rfl (fun _ => rfl) (fun r1 s2 => ?_) (fun E s => ?_)
  · exact gg_ir rfl
  · match E with
    | 0 =>
      show gb_G _ _ _ _ _ _ _ _ _ _ _ _
      refine gg_ci 14 (-8) rfl rfl ?_
      exact gg_ir rfl
    | 1 =>
      show gb_G _ _ _ _ _ _ _ _ _ _ _ _
      refine gg_ci 19 (-8) rfl rfl ?_
      exact gg_ir rfl
    | 2 =>
      show gb_G _ _ _ _ _ _ _ _ _ _ _ _
      refine gg_ci 24 (-8) rfl rfl ?_
      exact gg_ir rfl
    | E + 3 => exact rfl
/-- TreeclerkLaw.share -/
def fy_132 (x1 : Int) (x2 : Int) (x3 : Int) (σ : gb_S) : Option gb_P :=
  gq (gR x1) (
  (if x1 = 0 then
    (gch (fx_97 x2 x3 σ) (fun r6 s7 =>
      some (.inl r6, s7)) (fun E s => if E = 0 then some (.inl (-8), s) else if E = 2 then some (.inl (-8), s) else some (.inr E, s)))
  else
    (if x1 = 1 then
      (gch (fx_98 x2 x3 σ) (fun r4 s5 =>
        some (.inl r4, s5)) (fun E s => if E = 0 then some (.inl (-8), s) else if E = 2 then some (.inl (-8), s) else some (.inr E, s)))
    else
      (gch (fx_99 x2 x3 σ) (fun r2 s3 =>
        some (.inl r2, s3)) (fun E s => if E = 0 then some (.inl (-8), s) else if E = 2 then some (.inl (-8), s) else some (.inr E, s))))))
theorem gm_132 (x1 : Int) (x2 : Int) (x3 : Int) {σ : gb_S} : gb_M (fy_132 x1 x2 x3 σ) 63 c0 eL 132 [vr c0 1, vi x1, vi x2, vi x3] σ := by
  rw [fy_132]
  refine gg_m (own := 9) (rt := (some .long)) (hnd := fun pc E => if ([7, 21, 30] : List Nat).contains pc = true then [(0, 36, 4), (2, 42, 4)].lookup E else none) (K := gk_132) (δ := 62) rfl rfl ?_
  refine gg_il 1 1 rfl rfl rfl ?_
  refine gg_q (fun q1 => ?_)
  refine gg_zne 13 4 rfl rfl rfl rfl q1 ?_ ?_
  · refine gg_il 14 1 rfl rfl rfl ?_
    refine gg_ci 15 1 rfl rfl ?_
    refine gg_ine 27 18 rfl rfl rfl rfl q1 (gRl rfl) ?_ ?_
    · refine gg_al 28 0 rfl rfl rfl ?_
      refine gg_il 29 2 rfl rfl rfl ?_
      refine gg_il 30 3 rfl rfl rfl ?_
      refine gg_chL 33 rfl (gm_99 _ _) (Nat.le_of_ble_eq_true rfl) (gb_vs rfl rfl rfl rfl rfl gcl_1 rfl rfl rfl) rfl (fun _ => rfl) (fun r2 s3 => ?_) (fun E s => ?_)
      · exact gg_lr rfl
      · match E with
        | 0 =>
          show gb_G _ _ _ _ _ _ _ _ _ _ _ _
          refine gg_cl 39 (-8) rfl rfl ?_
          exact gg_lr rfl
        | 1 =>
          exact rfl
        | 2 =>
          show gb_G _ _ _ _ _ _ _ _ _ _ _ _
          refine gg_cl 45 (-8) rfl rfl ?_
          exact gg_lr rfl
        | E + 3 => exact rfl
    · refine gg_al 19 0 rfl rfl rfl ?_
      refine gg_il 20 2 rfl rfl rfl ?_
      refine gg_il 21 3 rfl rfl rfl ?_
      refine gg_chL 24 rfl (gm_98 _ _) (Nat.le_of_ble_eq_true rfl) (gb_vs rfl rfl rfl rfl rfl gcl_1 rfl rfl rfl) rfl (fun _ => rfl) (fun r4 s5 => ?_) (fun E s => ?_)
      · refine gg_go 33 rfl rfl rfl ?_
        exact gg_lr rfl
      · match E with
        | 0 =>
          show gb_G _ _ _ _ _ _ _ _ _ _ _ _
          refine gg_cl 39 (-8) rfl rfl ?_
          exact gg_lr rfl
        | 1 =>
          exact rfl
        | 2 =>
          show gb_G _ _ _ _ _ _ _ _ _ _ _ _
          refine gg_cl 45 (-8) rfl rfl ?_
          exact gg_lr rfl
        | E + 3 => exact rfl
  · refine gg_al 5 0 rfl rfl rfl ?_
    refine gg_il 6 2 rfl rfl rfl ?_
    refine gg_il 7 3 rfl rfl rfl ?_
    refine gg_chL 10 rfl (gm_97 _ _) (Nat.le_of_ble_eq_true rfl) (gb_vs rfl rfl rfl rfl rfl gcl_1 rfl rfl rfl) rfl (fun _ => rfl) (fun r6 s7 => ?_) (fun E s => ?_)
    · refine gg_go 33 rfl rfl rfl ?_
      exact gg_lr rfl
    · match E with
      | 0 =>
        show gb_G _ _ _ _ _ _ _ _ _ _ _ _
        refine gg_cl 39 (-8) rfl rfl ?_
        exact gg_lr rfl
      | 1 =>
        exact rfl
      | 2 =>
        show gb_G _ _ _ _ _ _ _ _ _ _ _ _
        refine gg_cl 45 (-8) rfl rfl ?_
        exact gg_lr rfl
      | E + 3 => exact rfl
/-- TreeclerkLaw.of -/
def fy_133 (x1 : Int) (x2 : Int) (σ : gb_S) : Option gb_P :=
  gq (gR x1) (
  (if x1 = 0 then
    (gch (fx_84 x2 σ) (fun r23 s24 =>
      gq (gR r23) (
      (if r23 = 0 then
        some (.inl 0, s24)
      else
        some (.inl 1, s24)))) (fun E s => if E = 0 then some (.inl (-8), s) else if E = 2 then some (.inl (-8), s) else some (.inr E, s)))
  else
    (if x1 = 1 then
      (gch (fx_91 x2 σ) (fun r21 s22 =>
        some (.inl r21, s22)) (fun E s => if E = 0 then some (.inl (-8), s) else if E = 2 then some (.inl (-8), s) else some (.inr E, s)))
    else
      (if x1 = 2 then
        (gch (fx_94 x2 σ) (fun r19 s20 =>
          some (.inl r19, s20)) (fun E s => if E = 0 then some (.inl (-8), s) else if E = 2 then some (.inl (-8), s) else some (.inr E, s)))
      else
        (if x1 = 3 then
          (gch (fx_96 x2 σ) (fun r16 s17 =>
            gq (gR r16) (
            (if r16 = 0 then
              some (.inl 0, s17)
            else
              some (.inl 1, s17)))) (fun E s => if E = 0 then some (.inl (-8), s) else if E = 2 then some (.inl (-8), s) else some (.inr E, s)))
        else
          (if x1 = 4 then
            (gch (fx_100 x2 σ) (fun r14 s15 =>
              some (.inl r14, s15)) (fun E s => if E = 0 then some (.inl (-8), s) else if E = 2 then some (.inl (-8), s) else some (.inr E, s)))
          else
            (if x1 = 5 then
              (gch (fx_101 x2 σ) (fun r12 s13 =>
                some (.inl r12, s13)) (fun E s => if E = 0 then some (.inl (-8), s) else if E = 2 then some (.inl (-8), s) else some (.inr E, s)))
            else
              (if x1 = 6 then
                (gch (fx_102 x2 σ) (fun r10 s11 =>
                  some (.inl r10, s11)) (fun E s => if E = 0 then some (.inl (-8), s) else if E = 2 then some (.inl (-8), s) else some (.inr E, s)))
              else
                (if x1 = 7 then
                  (gch (fx_107 x2 σ) (fun r8 s9 =>
                    some (.inl r8, s9)) (fun E s => if E = 0 then some (.inl (-8), s) else if E = 2 then some (.inl (-8), s) else some (.inr E, s)))
                else
                  (if x1 = 8 then
                    (gch (fx_88 x2 σ) (fun r6 s7 =>
                      some (.inl r6, s7)) (fun E s => if E = 0 then some (.inl (-8), s) else if E = 2 then some (.inl (-8), s) else some (.inr E, s)))
                  else
                    (if x1 = 9 then
                      (gch (fx_105 x2 σ) (fun r4 s5 =>
                        some (.inl r4, s5)) (fun E s => if E = 0 then some (.inl (-8), s) else if E = 2 then some (.inl (-8), s) else some (.inr E, s)))
                    else
                      (gch (fx_106 x2 σ) (fun r2 s3 =>
                        some (.inl r2, s3)) (fun E s => if E = 0 then some (.inl (-8), s) else if E = 2 then some (.inl (-8), s) else some (.inr E, s))))))))))))))
theorem gm_133 (x1 : Int) (x2 : Int) {σ : gb_S} : gb_M (fy_133 x1 x2 σ) 63 c0 eI 133 [vr c0 1, vi x1, vi x2] σ := by
  rw [fy_133]
  refine gg_m (own := 9) (rt := (some .int)) (hnd := fun pc E => if ([6, 27, 40, 53, 74, 87, 101, 115, 129, 143, 151] : List Nat).contains pc = true then [(0, 156, 3), (2, 160, 3)].lookup E else none) (K := gk_133) (δ := 62) rfl rfl ?_
  refine gg_il 1 1 rfl rfl rfl ?_
  refine gg_q (fun q1 => ?_)
  refine gg_zne 20 4 rfl rfl rfl rfl q1 ?_ ?_
  · refine gg_il 21 1 rfl rfl rfl ?_
    refine gg_ci 22 1 rfl rfl ?_
    refine gg_ine 33 25 rfl rfl rfl rfl q1 (gRl rfl) ?_ ?_
    · refine gg_il 34 1 rfl rfl rfl ?_
      refine gg_ci 35 2 rfl rfl ?_
      refine gg_ine 46 38 rfl rfl rfl rfl q1 (gRl rfl) ?_ ?_
      · refine gg_il 47 1 rfl rfl rfl ?_
        refine gg_ci 48 3 rfl rfl ?_
        refine gg_ine 67 51 rfl rfl rfl rfl q1 (gRl rfl) ?_ ?_
        · refine gg_il 68 1 rfl rfl rfl ?_
          refine gg_ci 69 4 rfl rfl ?_
          refine gg_ine 80 72 rfl rfl rfl rfl q1 (gRl rfl) ?_ ?_
          · refine gg_il 81 1 rfl rfl rfl ?_
            refine gg_ci 82 5 rfl rfl ?_
            refine gg_ine 93 85 rfl rfl rfl rfl q1 (gRl rfl) ?_ ?_
            · refine gg_il 94 1 rfl rfl rfl ?_
              refine gg_ci 96 6 rfl rfl ?_
              refine gg_ine 107 99 rfl rfl rfl rfl q1 (gRl rfl) ?_ ?_
              · refine gg_il 108 1 rfl rfl rfl ?_
                refine gg_ci 110 7 rfl rfl ?_
                refine gg_ine 121 113 rfl rfl rfl rfl q1 (gRl rfl) ?_ ?_
                · refine gg_il 122 1 rfl rfl rfl ?_
                  refine gg_ci 124 8 rfl rfl ?_
                  refine gg_ine 135 127 rfl rfl rfl rfl q1 (gRl rfl) ?_ ?_
                  · refine gg_il 136 1 rfl rfl rfl ?_
                    refine gg_ci 138 9 rfl rfl ?_
                    refine gg_ine 149 141 rfl rfl rfl rfl q1 (gRl rfl) ?_ ?_
                    · refine gg_al 150 0 rfl rfl rfl ?_
                      refine gg_il 151 2 rfl rfl rfl ?_
                      refine gg_chI 154 rfl (gm_106 _) (Nat.le_of_ble_eq_true rfl) (gb_vs rfl rfl rfl rfl rfl gcl_1 rfl rfl rfl) rfl (fun _ => rfl) (fun r2 s3 => ?_) (fun E s => ?_)
                      · exact gg_ir rfl
                      · match E with
                        | 0 =>
                          show gb_G _ _ _ _ _ _ _ _ _ _ _ _
                          refine gg_ci 158 (-8) rfl rfl ?_
                          exact gg_ir rfl
                        | 1 =>
                          exact rfl
                        | 2 =>
                          show gb_G _ _ _ _ _ _ _ _ _ _ _ _
                          refine gg_ci 162 (-8) rfl rfl ?_
                          exact gg_ir rfl
                        | E + 3 => exact rfl
                    · refine gg_al 142 0 rfl rfl rfl ?_
                      refine gg_il 143 2 rfl rfl rfl ?_
                      refine gg_chI 146 rfl (gm_105 _) (Nat.le_of_ble_eq_true rfl) (gb_vs rfl rfl rfl rfl rfl gcl_1 rfl rfl rfl) rfl (fun _ => rfl) (fun r4 s5 => ?_) (fun E s => ?_)
                      · refine gg_go 154 rfl rfl rfl ?_
                        exact gg_ir rfl
                      · match E with
                        | 0 =>
                          show gb_G _ _ _ _ _ _ _ _ _ _ _ _
                          refine gg_ci 158 (-8) rfl rfl ?_
                          exact gg_ir rfl
                        | 1 =>
                          exact rfl
                        | 2 =>
                          show gb_G _ _ _ _ _ _ _ _ _ _ _ _
                          refine gg_ci 162 (-8) rfl rfl ?_
                          exact gg_ir rfl
                        | E + 3 => exact rfl
                  · refine gg_al 128 0 rfl rfl rfl ?_
                    refine gg_il 129 2 rfl rfl rfl ?_
                    refine gg_chI 132 rfl (gm_88 _) (Nat.le_of_ble_eq_true rfl) (gb_vs rfl rfl rfl rfl rfl gcl_1 rfl rfl rfl) rfl (fun _ => rfl) (fun r6 s7 => ?_) (fun E s => ?_)
                    · refine gg_go 154 rfl rfl rfl ?_
                      exact gg_ir rfl
                    · match E with
                      | 0 =>
                        show gb_G _ _ _ _ _ _ _ _ _ _ _ _
                        refine gg_ci 158 (-8) rfl rfl ?_
                        exact gg_ir rfl
                      | 1 =>
                        exact rfl
                      | 2 =>
                        show gb_G _ _ _ _ _ _ _ _ _ _ _ _
                        refine gg_ci 162 (-8) rfl rfl ?_
                        exact gg_ir rfl
                      | E + 3 => exact rfl
                · refine gg_al 114 0 rfl rfl rfl ?_
                  refine gg_il 115 2 rfl rfl rfl ?_
                  refine gg_chI 118 rfl (gm_107 _) (Nat.le_of_ble_eq_true rfl) (gb_vs rfl rfl rfl rfl rfl gcl_1 rfl rfl rfl) rfl (fun _ => rfl) (fun r8 s9 => ?_) (fun E s => ?_)
                  · refine gg_go 154 rfl rfl rfl ?_
                    exact gg_ir rfl
                  · match E with
                    | 0 =>
                      show gb_G _ _ _ _ _ _ _ _ _ _ _ _
                      refine gg_ci 158 (-8) rfl rfl ?_
                      exact gg_ir rfl
                    | 1 =>
                      exact rfl
                    | 2 =>
                      show gb_G _ _ _ _ _ _ _ _ _ _ _ _
                      refine gg_ci 162 (-8) rfl rfl ?_
                      exact gg_ir rfl
                    | E + 3 => exact rfl
              · refine gg_al 100 0 rfl rfl rfl ?_
                refine gg_il 101 2 rfl rfl rfl ?_
                refine gg_chI 104 rfl (gm_102 _) (Nat.le_of_ble_eq_true rfl) (gb_vs rfl rfl rfl rfl rfl gcl_1 rfl rfl rfl) rfl (fun _ => rfl) (fun r10 s11 => ?_) (fun E s => ?_)
                · refine gg_go 154 rfl rfl rfl ?_
                  exact gg_ir rfl
                · match E with
                  | 0 =>
                    show gb_G _ _ _ _ _ _ _ _ _ _ _ _
                    refine gg_ci 158 (-8) rfl rfl ?_
                    exact gg_ir rfl
                  | 1 =>
                    exact rfl
                  | 2 =>
                    show gb_G _ _ _ _ _ _ _ _ _ _ _ _
                    refine gg_ci 162 (-8) rfl rfl ?_
                    exact gg_ir rfl
                  | E + 3 => exact rfl
            · refine gg_al 86 0 rfl rfl rfl ?_
              refine gg_il 87 2 rfl rfl rfl ?_
              refine gg_chI 90 rfl (gm_101 _) (Nat.le_of_ble_eq_true rfl) (gb_vs rfl rfl rfl rfl rfl gcl_1 rfl rfl rfl) rfl (fun _ => rfl) (fun r12 s13 => ?_) (fun E s => ?_)
              · refine gg_go 154 rfl rfl rfl ?_
                exact gg_ir rfl
              · match E with
                | 0 =>
                  show gb_G _ _ _ _ _ _ _ _ _ _ _ _
                  refine gg_ci 158 (-8) rfl rfl ?_
                  exact gg_ir rfl
                | 1 =>
                  exact rfl
                | 2 =>
                  show gb_G _ _ _ _ _ _ _ _ _ _ _ _
                  refine gg_ci 162 (-8) rfl rfl ?_
                  exact gg_ir rfl
                | E + 3 => exact rfl
          · refine gg_al 73 0 rfl rfl rfl ?_
            refine gg_il 74 2 rfl rfl rfl ?_
            refine gg_chI 77 rfl (gm_100 _) (Nat.le_of_ble_eq_true rfl) (gb_vs rfl rfl rfl rfl rfl gcl_1 rfl rfl rfl) rfl (fun _ => rfl) (fun r14 s15 => ?_) (fun E s => ?_)
            · refine gg_go 154 rfl rfl rfl ?_
              exact gg_ir rfl
            · match E with
              | 0 =>
                show gb_G _ _ _ _ _ _ _ _ _ _ _ _
                refine gg_ci 158 (-8) rfl rfl ?_
                exact gg_ir rfl
              | 1 =>
                exact rfl
              | 2 =>
                show gb_G _ _ _ _ _ _ _ _ _ _ _ _
                refine gg_ci 162 (-8) rfl rfl ?_
                exact gg_ir rfl
              | E + 3 => exact rfl
        · refine gg_al 52 0 rfl rfl rfl ?_
          refine gg_il 53 2 rfl rfl rfl ?_
          refine gg_chI 56 rfl (gm_96 _) (Nat.le_of_ble_eq_true rfl) (gb_vs rfl rfl rfl rfl rfl gcl_1 rfl rfl rfl) rfl (fun _ => rfl) (fun r16 s17 => ?_) (fun E s => ?_)
          · refine gg_q (fun q18 => ?_)
            refine gg_zeq 63 59 rfl rfl rfl rfl q18 ?_ ?_
            · refine gg_ci 64 0 rfl rfl ?_
              refine gg_go 154 rfl rfl rfl ?_
              exact gg_ir rfl
            · refine gg_ci 60 1 rfl rfl ?_
              refine gg_go 154 rfl rfl rfl ?_
              exact gg_ir rfl
          · match E with
            | 0 =>
              show gb_G _ _ _ _ _ _ _ _ _ _ _ _
              refine gg_ci 158 (-8) rfl rfl ?_
              exact gg_ir rfl
            | 1 =>
              exact rfl
            | 2 =>
              show gb_G _ _ _ _ _ _ _ _ _ _ _ _
              refine gg_ci 162 (-8) rfl rfl ?_
              exact gg_ir rfl
            | E + 3 => exact rfl
      · refine gg_al 39 0 rfl rfl rfl ?_
        refine gg_il 40 2 rfl rfl rfl ?_
        refine gg_chI 43 rfl (gm_94 _) (Nat.le_of_ble_eq_true rfl) (gb_vs rfl rfl rfl rfl rfl gcl_1 rfl rfl rfl) rfl (fun _ => rfl) (fun r19 s20 => ?_) (fun E s => ?_)
        · refine gg_go 154 rfl rfl rfl ?_
          exact gg_ir rfl
        · match E with
          | 0 =>
            show gb_G _ _ _ _ _ _ _ _ _ _ _ _
            refine gg_ci 158 (-8) rfl rfl ?_
            exact gg_ir rfl
          | 1 =>
            exact rfl
          | 2 =>
            show gb_G _ _ _ _ _ _ _ _ _ _ _ _
            refine gg_ci 162 (-8) rfl rfl ?_
            exact gg_ir rfl
          | E + 3 => exact rfl
    · refine gg_al 26 0 rfl rfl rfl ?_
      refine gg_il 27 2 rfl rfl rfl ?_
      refine gg_chI 30 rfl (gm_91 _) (Nat.le_of_ble_eq_true rfl) (gb_vs rfl rfl rfl rfl rfl gcl_1 rfl rfl rfl) rfl (fun _ => rfl) (fun r21 s22 => ?_) (fun E s => ?_)
      · refine gg_go 154 rfl rfl rfl ?_
        exact gg_ir rfl
      · match E with
        | 0 =>
          show gb_G _ _ _ _ _ _ _ _ _ _ _ _
          refine gg_ci 158 (-8) rfl rfl ?_
          exact gg_ir rfl
        | 1 =>
          exact rfl
        | 2 =>
          show gb_G _ _ _ _ _ _ _ _ _ _ _ _
          refine gg_ci 162 (-8) rfl rfl ?_
          exact gg_ir rfl
        | E + 3 => exact rfl
  · refine gg_al 5 0 rfl rfl rfl ?_
    refine gg_il 6 2 rfl rfl rfl ?_
    refine gg_chI 9 rfl (gm_84 _) (Nat.le_of_ble_eq_true rfl) (gb_vs rfl rfl rfl rfl rfl gcl_1 rfl rfl rfl) rfl (fun _ => rfl) (fun r23 s24 => ?_) (fun E s => ?_)
    · refine gg_q (fun q25 => ?_)
      refine gg_zeq 16 12 rfl rfl rfl rfl q25 ?_ ?_
      · refine gg_ci 17 0 rfl rfl ?_
        refine gg_go 154 rfl rfl rfl ?_
        exact gg_ir rfl
      · refine gg_ci 13 1 rfl rfl ?_
        refine gg_go 154 rfl rfl rfl ?_
        exact gg_ir rfl
    · match E with
      | 0 =>
        show gb_G _ _ _ _ _ _ _ _ _ _ _ _
        refine gg_ci 158 (-8) rfl rfl ?_
        exact gg_ir rfl
      | 1 =>
        exact rfl
      | 2 =>
        show gb_G _ _ _ _ _ _ _ _ _ _ _ _
        refine gg_ci 162 (-8) rfl rfl ?_
        exact gg_ir rfl
      | E + 3 => exact rfl
/-- TreeclerkLaw.parent -/
def fy_134 (x1 : Int) (x2 : Int) (σ : gb_S) : Option gb_P :=
  (gch (fx_90 x1 x2 σ) (fun r1 s2 =>
    some (.inl r1, s2)) (fun E s => if E = 0 then some (.inl (-8), s) else if E = 1 then some (.inl (-8), s) else some (.inr E, s)))
theorem gm_134 (x1 : Int) (x2 : Int) {σ : gb_S} : gb_M (fy_134 x1 x2 σ) 3 c0 eI 134 [vr c0 1, vi x1, vi x2] σ := by
  rw [fy_134]
  refine gg_m (own := 9) (rt := (some .int)) (hnd := fun pc E => if ([3] : List Nat).contains pc = true then [(0, 8, 3), (1, 12, 3)].lookup E else none) (K := gk_134) (δ := 2) rfl rfl ?_
  refine gg_al 1 0 rfl rfl rfl ?_
  refine gg_il 2 1 rfl rfl rfl ?_
  refine gg_il 3 2 rfl rfl rfl ?_
  refine gg_chI 6 rfl (gm_90 _ _) (Nat.le_of_ble_eq_true rfl) (gb_vs rfl rfl rfl rfl rfl gcl_1 rfl rfl rfl) rfl (fun _ => rfl) (fun r1 s2 => ?_) (fun E s => ?_)
  · exact gg_ir rfl
  · match E with
    | 0 =>
      show gb_G _ _ _ _ _ _ _ _ _ _ _ _
      refine gg_ci 10 (-8) rfl rfl ?_
      exact gg_ir rfl
    | 1 =>
      show gb_G _ _ _ _ _ _ _ _ _ _ _ _
      refine gg_ci 14 (-8) rfl rfl ?_
      exact gg_ir rfl
    | E + 2 => exact rfl
/-- TreeclerkLaw.parcel -/
def fy_135 (x1 : Int) (σ : gb_S) : Option gb_P :=
  (gch (fx_109 x1 σ) (fun r1 s2 =>
    some (.inl r1, s2)) (fun E s => if E = 0 then some (.inl (-8), s) else if E = 3 then some (.inl (-8), s) else some (.inr E, s)))
theorem gm_135 (x1 : Int) {σ : gb_S} : gb_M (fy_135 x1 σ) 4 c0 eI 135 [vr c0 1, vi x1] σ := by
  rw [fy_135]
  refine gg_m (own := 9) (rt := (some .int)) (hnd := fun pc E => if ([2] : List Nat).contains pc = true then [(0, 7, 2), (3, 11, 2)].lookup E else none) (K := gk_135) (δ := 3) rfl rfl ?_
  refine gg_al 1 0 rfl rfl rfl ?_
  refine gg_il 2 1 rfl rfl rfl ?_
  refine gg_chI 5 rfl (gm_109 _) (Nat.le_of_ble_eq_true rfl) (gb_vs rfl rfl rfl rfl rfl gcl_1 rfl rfl rfl) rfl (fun _ => rfl) (fun r1 s2 => ?_) (fun E s => ?_)
  · exact gg_ir rfl
  · match E with
    | 0 =>
      show gb_G _ _ _ _ _ _ _ _ _ _ _ _
      refine gg_ci 9 (-8) rfl rfl ?_
      exact gg_ir rfl
    | 1 =>
      exact rfl
    | 2 =>
      exact rfl
    | 3 =>
      show gb_G _ _ _ _ _ _ _ _ _ _ _ _
      refine gg_ci 13 (-8) rfl rfl ?_
      exact gg_ir rfl
    | E + 4 => exact rfl
end GF4
