section GF0
variable {c0 : gh_C}
/-- Treeclerk$Kin.childSet -/
def fx_32 (a0 : Nat) (x1 : Int) (σ : gb_S) : Option gb_P :=
  gq (gR x1) (
  (if x1 < 0 then
    some (.inl 0, σ)
  else
    (if x1 < 14 then
      gq (0 ≤ x1 ∧ x1 < 14) (
      some (.inl (σ (a0 + 3) x1.toNat), σ))
    else
      some (.inl 0, σ))))
theorem gm_32 (a0 : Nat) (x1 : Int) (h0 : gb_kd a0 = 3) {σ : gb_S} : gb_M (fx_32 a0 x1 σ) 1 c0 eI 32 [vr a0, vi x1] σ := by
  rw [fx_32]
  refine gg_m (own := 3) (rt := (some .int)) (hnd := fun _ _ => none) (K := gk_32) (δ := 0) rfl rfl ?_
  refine gg_il 1 1 rfl rfl rfl ?_
  refine gg_q (fun q1 => ?_)
  refine gg_zlt 19 4 rfl rfl rfl rfl q1 ?_ ?_
  · refine gg_ci 20 0 rfl rfl ?_
    exact gg_ir rfl
  · refine gg_il 5 1 rfl rfl rfl ?_
    refine gg_ci 7 14 rfl rfl ?_
    refine gg_ige 19 10 rfl rfl rfl rfl q1 (gRl rfl) ?_ ?_
    · refine gg_ci 20 0 rfl rfl ?_
      exact gg_ir rfl
    · refine gg_al 11 0 rfl rfl rfl ?_
      refine gg_gr 14 (a0 + 3) rfl rfl rfl (gkin0 h0) rfl ?_
      refine gg_il 15 1 rfl rfl rfl ?_
      refine gg_q (fun q2 => ?_)
      refine gg_ial 16 rfl rfl (gkin3 h0) q2 ?_
      refine gg_go 20 rfl rfl rfl ?_
      exact gg_ir rfl
/-- Treeclerk$Shares.aboveOf -/
def fx_71 (a0 : Nat) (x1 : Int) (σ : gb_S) : Option gb_P :=
  gq (gR x1) (
  (if x1 < 0 then
    some (.inl 0, σ)
  else
    (if x1 < 14 then
      gq (0 ≤ x1 ∧ x1 < 14) (
      some (.inl (σ (a0 + 1) x1.toNat), σ))
    else
      some (.inl 0, σ))))
theorem gm_71 (a0 : Nat) (x1 : Int) (h0 : gb_kd a0 = 6) {σ : gb_S} : gb_M (fx_71 a0 x1 σ) 1 c0 eL 71 [vr a0, vi x1] σ := by
  rw [fx_71]
  refine gg_m (own := 6) (rt := (some .long)) (hnd := fun _ _ => none) (K := gk_71) (δ := 0) rfl rfl ?_
  refine gg_il 1 1 rfl rfl rfl ?_
  refine gg_q (fun q1 => ?_)
  refine gg_zlt 19 4 rfl rfl rfl rfl q1 ?_ ?_
  · refine gg_cl 20 0 rfl rfl ?_
    exact gg_lr rfl
  · refine gg_il 5 1 rfl rfl rfl ?_
    refine gg_ci 7 14 rfl rfl ?_
    refine gg_ige 19 10 rfl rfl rfl rfl q1 (gRl rfl) ?_ ?_
    · refine gg_cl 20 0 rfl rfl ?_
      exact gg_lr rfl
    · refine gg_al 11 0 rfl rfl rfl ?_
      refine gg_gr 14 (a0 + 1) rfl rfl rfl (gsh0 h0) rfl ?_
      refine gg_il 15 1 rfl rfl rfl ?_
      refine gg_q (fun q2 => ?_)
      refine gg_lal 16 rfl rfl (gsh1 h0) q2 ?_
      refine gg_go 20 rfl rfl rfl ?_
      exact gg_lr rfl
/-- Treeclerk$Shares.belowOf -/
def fx_72 (a0 : Nat) (x1 : Int) (σ : gb_S) : Option gb_P :=
  gq (gR x1) (
  (if x1 < 0 then
    some (.inl 1, σ)
  else
    (if x1 < 14 then
      gq (0 ≤ x1 ∧ x1 < 14) (
      some (.inl (σ (a0 + 2) x1.toNat), σ))
    else
      some (.inl 1, σ))))
theorem gm_72 (a0 : Nat) (x1 : Int) (h0 : gb_kd a0 = 6) {σ : gb_S} : gb_M (fx_72 a0 x1 σ) 1 c0 eL 72 [vr a0, vi x1] σ := by
  rw [fx_72]
  refine gg_m (own := 6) (rt := (some .long)) (hnd := fun _ _ => none) (K := gk_72) (δ := 0) rfl rfl ?_
  refine gg_il 1 1 rfl rfl rfl ?_
  refine gg_q (fun q1 => ?_)
  refine gg_zlt 19 4 rfl rfl rfl rfl q1 ?_ ?_
  · refine gg_cl 20 1 rfl rfl ?_
    exact gg_lr rfl
  · refine gg_il 5 1 rfl rfl rfl ?_
    refine gg_ci 7 14 rfl rfl ?_
    refine gg_ige 19 10 rfl rfl rfl rfl q1 (gRl rfl) ?_ ?_
    · refine gg_cl 20 1 rfl rfl ?_
      exact gg_lr rfl
    · refine gg_al 11 0 rfl rfl rfl ?_
      refine gg_gr 14 (a0 + 2) rfl rfl rfl (gsh0 h0) rfl ?_
      refine gg_il 15 1 rfl rfl rfl ?_
      refine gg_q (fun q2 => ?_)
      refine gg_lal 16 rfl rfl (gsh2 h0) q2 ?_
      refine gg_go 20 rfl rfl rfl ?_
      exact gg_lr rfl
def fx_77_3 (k : Nat) (x0 : Int) (x2 : Int) (x4 : Int) (σ : gb_S) : Option gb_P := match k with
  | 0 => none
  | k + 1 =>
    gq (gR x4) (
    (if x4 < 100 then
      gq (gRL x2) (
      (if x2 = 0 then
        some (.inl x0, σ)
      else
        gq ((0 ≤ x0 ∧ x0 ≤ 9223372036854775807) ∧ 0 < x2 ∧ x2 ≤ 9223372036854775807) (
        fx_77_3 k x2 (x0 % x2) (x4 + 1) σ)))
    else
      some (.inl x0, σ)))
/-- Treeclerk$Shares.commonDivisor -/
def fx_77 (x0 : Int) (x2 : Int) (σ : gb_S) : Option gb_P :=
  fx_77_3 gFU x0 x2 0 σ
theorem gt_77_3 (k : Nat) : ∀ (x0 : Int) (x2 : Int) (x4 : Int) {lo : gh_L} (l0 : lo.lookup 0 = some (vl x0)) (l2 : lo.lookup 2 = some (vl x2)) (l4 : lo.lookup 4 = some (vi x4)) {σ : gb_S}, gb_G (fx_77_3 k x0 x2 x4 σ) 0 6 (some .long) (fun _ _ => none) gk_77 c0 eL 3 lo [] σ := by
  induction k with
  | zero => intros; exact gg_n
  | succ k ih =>
    intro x0 x2 x4 lo l0 l2 l4 σ
    rw [fx_77_3]
    refine gg_il 5 4 rfl rfl l4 ?_
    refine gg_ci 7 100 rfl rfl ?_
    refine gg_q (fun q1 => ?_)
    refine gg_ige 32 10 rfl rfl rfl rfl q1 (gRl rfl) ?_ ?_
    · refine gg_ll 33 0 rfl rfl l0 ?_
      exact gg_lr rfl
    · refine gg_ll 11 2 rfl rfl l2 ?_
      refine gg_cl 12 0 rfl rfl ?_
      refine gg_q (fun q2 => ?_)
      refine gg_Leq 32 16 rfl rfl rfl rfl rfl q2 ⟨by decide, by decide⟩ ?_ ?_
      · refine gg_ll 33 0 rfl rfl l0 ?_
        exact gg_lr rfl
      · refine gg_ll 17 0 rfl rfl l0 ?_
        refine gg_ll 18 2 rfl rfl l2 ?_
        refine gg_q (fun q3 => ?_)
        refine gg_lrem 19 rfl rfl q3 ?_
        refine gg_s 21 rfl rfl ?_
        refine gg_ll 22 2 rfl rfl (gl2 rfl rfl rfl l2) ?_
        refine gg_s 23 rfl rfl ?_
        refine gg_ll 25 5 rfl rfl (gl2 rfl rfl rfl gs2) ?_
        refine gg_s 26 rfl rfl ?_
        refine gg_inc 29 rfl rfl (gl2 rfl rfl rfl (gl2 rfl rfl rfl (gl2 rfl rfl rfl l4))) ?_
        refine gg_go 3 rfl rfl rfl ?_
        exact ih x2 (x0 % x2) (x4 + 1) (gl1 rfl rfl (gl2 rfl rfl rfl gs2)) (gl1 rfl rfl gs2) gs1
theorem gm_77 (x0 : Int) (x2 : Int) {σ : gb_S} : gb_M (fx_77 x0 x2 σ) 1 c0 eL 77 [vl x0, vl x2] σ := by
  rw [fx_77]
  refine gg_m (own := 6) (rt := (some .long)) (hnd := fun _ _ => none) (K := gk_77) (δ := 0) rfl rfl ?_
  refine gg_ci 1 0 rfl rfl ?_
  refine gg_s 3 rfl rfl ?_
  exact gt_77_3 gFU x0 x2 0 (gl1 rfl rfl rfl) (gl1 rfl rfl rfl) gs1
/-- Treeclerk$Shares.add -/
def fx_73 (a0 : Nat) (x1 : Int) (x2 : Int) (x4 : Int) (σ : gb_S) : Option gb_P :=
  gq (gR x1) (
  (if x1 < 0 then
    some (.inl 0, σ)
  else
    (if x1 < 14 then
      gq (gRL x4) (
      (if 0 < x4 then
        gq (0 ≤ x1 ∧ x1 < 14) (
        gc (fx_77 (((σ (a0 + 1) x1.toNat) * x4) + (x2 * (σ (a0 + 2) x1.toNat))) ((σ (a0 + 2) x1.toNat) * x4) σ) (fun r4 s5 =>
        gq (gRL r4) (
        (if 0 < r4 then
          gq ((0 ≤ (((σ (a0 + 1) x1.toNat) * x4) + (x2 * (σ (a0 + 2) x1.toNat))) ∧ (((σ (a0 + 1) x1.toNat) * x4) + (x2 * (σ (a0 + 2) x1.toNat))) ≤ 9223372036854775807) ∧ 0 < r4 ∧ r4 ≤ 9223372036854775807) (
          gq ((0 ≤ ((σ (a0 + 2) x1.toNat) * x4) ∧ ((σ (a0 + 2) x1.toNat) * x4) ≤ 9223372036854775807) ∧ 0 < r4 ∧ r4 ≤ 9223372036854775807) (
          some (.inl 0, (gb_up (gb_up s5 (a0 + 1) x1.toNat ((((σ (a0 + 1) x1.toNat) * x4) + (x2 * (σ (a0 + 2) x1.toNat))) / r4)) (a0 + 2) x1.toNat (((σ (a0 + 2) x1.toNat) * x4) / r4)))))
        else
          some (.inl 0, s5)))))
      else
        some (.inl 0, σ)))
    else
      some (.inl 0, σ))))
theorem gm_73 (a0 : Nat) (x1 : Int) (x2 : Int) (x4 : Int) (h0 : gb_kd a0 = 6) {σ : gb_S} : gb_M (fx_73 a0 x1 x2 x4 σ) 2 c0 eV 73 [vr a0, vi x1, vl x2, vl x4] σ := by
  rw [fx_73]
  refine gg_m (own := 6) (rt := none) (hnd := fun _ _ => none) (K := gk_73) (δ := 1) rfl rfl ?_
  refine gg_il 1 1 rfl rfl rfl ?_
  refine gg_q (fun q1 => ?_)
  refine gg_zlt 17 4 rfl rfl rfl rfl q1 ?_ ?_
  · exact gg_vr rfl
  · refine gg_il 5 1 rfl rfl rfl ?_
    refine gg_ci 7 14 rfl rfl ?_
    refine gg_ige 17 10 rfl rfl rfl rfl q1 (gRl rfl) ?_ ?_
    · exact gg_vr rfl
    · refine gg_ll 12 4 rfl rfl rfl ?_
      refine gg_cl 13 0 rfl rfl ?_
      refine gg_q (fun q2 => ?_)
      refine gg_Lgt 18 17 rfl rfl rfl rfl rfl q2 ⟨by decide, by decide⟩ ?_ ?_
      · refine gg_al 19 0 rfl rfl rfl ?_
        refine gg_gr 22 (a0 + 1) rfl rfl rfl (gsh0 h0) rfl ?_
        refine gg_il 23 1 rfl rfl rfl ?_
        refine gg_q (fun q3 => ?_)
        refine gg_lal 24 rfl rfl (gsh1 h0) q3 ?_
        refine gg_ll 26 4 rfl rfl rfl ?_
        refine gg_lmul 27 rfl rfl ?_
        refine gg_ll 28 2 rfl rfl rfl ?_
        refine gg_al 29 0 rfl rfl rfl ?_
        refine gg_gr 32 (a0 + 2) rfl rfl rfl (gsh0 h0) rfl ?_
        refine gg_il 33 1 rfl rfl rfl ?_
        refine gg_lal 34 rfl rfl (gsh2 h0) q3 ?_
        refine gg_lmul 35 rfl rfl ?_
        refine gg_ladd 36 rfl rfl ?_
        refine gg_s 38 rfl rfl ?_
        refine gg_al 39 0 rfl rfl (gl2 rfl rfl rfl rfl) ?_
        refine gg_gr 42 (a0 + 2) rfl rfl rfl (gsh0 h0) rfl ?_
        refine gg_il 43 1 rfl rfl (gl2 rfl rfl rfl rfl) ?_
        refine gg_lal 44 rfl rfl (gsh2 h0) q3 ?_
        refine gg_ll 46 4 rfl rfl (gl2 rfl rfl rfl rfl) ?_
        refine gg_lmul 47 rfl rfl ?_
        refine gg_s 49 rfl rfl ?_
        refine gg_ll 51 6 rfl rfl (gl2 rfl rfl rfl gs2) ?_
        refine gg_ll 53 8 rfl rfl gs2 ?_
        refine gg_cLo 56 rfl (gm_77 _ _) (Nat.le_of_ble_eq_true rfl) (gb_ss rfl rfl rfl rfl rfl rfl rfl) rfl (fun _ => rfl) (fun _ => rfl) (fun r4 s5 => ?_)
        refine gg_s 58 rfl rfl ?_
        refine gg_ll 60 10 rfl rfl gs2 ?_
        refine gg_cl 61 0 rfl rfl ?_
        refine gg_q (fun q6 => ?_)
        refine gg_Lle 87 65 rfl rfl rfl rfl rfl q6 ⟨by decide, by decide⟩ ?_ ?_
        · exact gg_vr rfl
        · refine gg_al 66 0 rfl rfl (gl2 rfl rfl rfl (gl2 rfl rfl rfl (gl2 rfl rfl rfl rfl))) ?_
          refine gg_gr 69 (a0 + 1) rfl rfl rfl (gsh0 h0) rfl ?_
          refine gg_il 70 1 rfl rfl (gl2 rfl rfl rfl (gl2 rfl rfl rfl (gl2 rfl rfl rfl rfl))) ?_
          refine gg_ll 72 6 rfl rfl (gl2 rfl rfl rfl (gl2 rfl rfl rfl gs2)) ?_
          refine gg_ll 74 10 rfl rfl gs2 ?_
          refine gg_q (fun q7 => ?_)
          refine gg_ldiv 75 rfl rfl q7 ?_
          refine gg_las 76 rfl rfl (gsh1 h0) q3 ?_
          refine gg_al 77 0 rfl rfl (gl2 rfl rfl rfl (gl2 rfl rfl rfl (gl2 rfl rfl rfl rfl))) ?_
          refine gg_gr 80 (a0 + 2) rfl rfl rfl (gsh0 h0) rfl ?_
          refine gg_il 81 1 rfl rfl (gl2 rfl rfl rfl (gl2 rfl rfl rfl (gl2 rfl rfl rfl rfl))) ?_
          refine gg_ll 83 8 rfl rfl (gl2 rfl rfl rfl gs2) ?_
          refine gg_ll 85 10 rfl rfl gs2 ?_
          refine gg_q (fun q8 => ?_)
          refine gg_ldiv 86 rfl rfl q8 ?_
          refine gg_las 87 rfl rfl (gsh2 h0) q3 ?_
          exact gg_vr rfl
      · exact gg_vr rfl
/-- Treeclerk.isIn -/
def fx_123 (x0 : Int) (x1 : Int) (σ : gb_S) : Option gb_P :=
  gq (gR x1) (
  (if x1 < 0 then
    some (.inl 0, σ)
  else
    (if x1 < 14 then
      gq (gR (gb_and (gb_shr x0 x1) 1)) (
      (if (gb_and (gb_shr x0 x1) 1) = 0 then
        some (.inl 0, σ)
      else
        some (.inl 1, σ)))
    else
      some (.inl 0, σ))))
theorem gm_123 (x0 : Int) (x1 : Int) {σ : gb_S} : gb_M (fx_123 x0 x1 σ) 1 c0 eI 123 [vi x0, vi x1] σ := by
  rw [fx_123]
  refine gg_m (own := 7) (rt := (some .boolean)) (hnd := fun _ _ => none) (K := gk_123) (δ := 0) rfl rfl ?_
  refine gg_il 1 1 rfl rfl rfl ?_
  refine gg_q (fun q1 => ?_)
  refine gg_zlt 22 4 rfl rfl rfl rfl q1 ?_ ?_
  · refine gg_ci 23 0 rfl rfl ?_
    exact gg_zr rfl (Or.inl rfl)
  · refine gg_il 5 1 rfl rfl rfl ?_
    refine gg_ci 7 14 rfl rfl ?_
    refine gg_ige 22 10 rfl rfl rfl rfl q1 (gRl rfl) ?_ ?_
    · refine gg_ci 23 0 rfl rfl ?_
      exact gg_zr rfl (Or.inl rfl)
    · refine gg_il 11 0 rfl rfl rfl ?_
      refine gg_il 12 1 rfl rfl rfl ?_
      refine gg_shr 13 rfl rfl ?_
      refine gg_ci 14 1 rfl rfl ?_
      refine gg_and 15 rfl rfl ?_
      refine gg_q (fun q2 => ?_)
      refine gg_zeq 22 18 rfl rfl rfl rfl q2 ?_ ?_
      · refine gg_ci 23 0 rfl rfl ?_
        exact gg_zr rfl (Or.inl rfl)
      · refine gg_ci 19 1 rfl rfl ?_
        refine gg_go 23 rfl rfl rfl ?_
        exact gg_zr rfl (Or.inr rfl)
/-- java/lang/Integer.bitCount -/
def fx_193 (x0 : Int) (σ : gb_S) : Option gb_P :=
  some (.inl (gb_and (((gb_and (((gb_and (x0 - (gb_and (gb_ushr x0 1) 1431655765)) 858993459) + (gb_and (gb_ushr (x0 - (gb_and (gb_ushr x0 1) 1431655765)) 2) 858993459)) + (gb_ushr ((gb_and (x0 - (gb_and (gb_ushr x0 1) 1431655765)) 858993459) + (gb_and (gb_ushr (x0 - (gb_and (gb_ushr x0 1) 1431655765)) 2) 858993459)) 4)) 252645135) + (gb_ushr (gb_and (((gb_and (x0 - (gb_and (gb_ushr x0 1) 1431655765)) 858993459) + (gb_and (gb_ushr (x0 - (gb_and (gb_ushr x0 1) 1431655765)) 2) 858993459)) + (gb_ushr ((gb_and (x0 - (gb_and (gb_ushr x0 1) 1431655765)) 858993459) + (gb_and (gb_ushr (x0 - (gb_and (gb_ushr x0 1) 1431655765)) 2) 858993459)) 4)) 252645135) 8)) + (gb_ushr ((gb_and (((gb_and (x0 - (gb_and (gb_ushr x0 1) 1431655765)) 858993459) + (gb_and (gb_ushr (x0 - (gb_and (gb_ushr x0 1) 1431655765)) 2) 858993459)) + (gb_ushr ((gb_and (x0 - (gb_and (gb_ushr x0 1) 1431655765)) 858993459) + (gb_and (gb_ushr (x0 - (gb_and (gb_ushr x0 1) 1431655765)) 2) 858993459)) 4)) 252645135) + (gb_ushr (gb_and (((gb_and (x0 - (gb_and (gb_ushr x0 1) 1431655765)) 858993459) + (gb_and (gb_ushr (x0 - (gb_and (gb_ushr x0 1) 1431655765)) 2) 858993459)) + (gb_ushr ((gb_and (x0 - (gb_and (gb_ushr x0 1) 1431655765)) 858993459) + (gb_and (gb_ushr (x0 - (gb_and (gb_ushr x0 1) 1431655765)) 2) 858993459)) 4)) 252645135) 8)) 16)) 63), σ)
theorem gm_193 (x0 : Int) {σ : gb_S} : gb_M (fx_193 x0 σ) 1 c0 eI 193 [vi x0] σ := by
  rw [fx_193]
  refine gg_m (own := 10) (rt := (some .int)) (hnd := fun _ _ => none) (K := gk_193) (δ := 0) rfl rfl ?_
  refine gg_il 1 0 rfl rfl rfl ?_
  refine gg_il 2 0 rfl rfl rfl ?_
  refine gg_ci 3 1 rfl rfl ?_
  refine gg_ushr 4 rfl rfl ?_
  refine gg_ci 7 1431655765 rfl rfl ?_
  refine gg_and 8 rfl rfl ?_
  refine gg_sub 9 rfl rfl ?_
  refine gg_s 10 rfl rfl ?_
  refine gg_il 11 0 rfl rfl gs1 ?_
  refine gg_ci 14 858993459 rfl rfl ?_
  refine gg_and 15 rfl rfl ?_
  refine gg_il 16 0 rfl rfl gs1 ?_
  refine gg_ci 17 2 rfl rfl ?_
  refine gg_ushr 18 rfl rfl ?_
  refine gg_ci 21 858993459 rfl rfl ?_
  refine gg_and 22 rfl rfl ?_
  refine gg_add 23 rfl rfl ?_
  refine gg_s 24 rfl rfl ?_
  refine gg_il 25 0 rfl rfl gs1 ?_
  refine gg_il 26 0 rfl rfl gs1 ?_
  refine gg_ci 27 4 rfl rfl ?_
  refine gg_ushr 28 rfl rfl ?_
  refine gg_add 29 rfl rfl ?_
  refine gg_ci 32 252645135 rfl rfl ?_
  refine gg_and 33 rfl rfl ?_
  refine gg_s 34 rfl rfl ?_
  refine gg_il 35 0 rfl rfl gs1 ?_
  refine gg_il 36 0 rfl rfl gs1 ?_
  refine gg_ci 38 8 rfl rfl ?_
  refine gg_ushr 39 rfl rfl ?_
  refine gg_add 40 rfl rfl ?_
  refine gg_s 41 rfl rfl ?_
  refine gg_il 42 0 rfl rfl gs1 ?_
  refine gg_il 43 0 rfl rfl gs1 ?_
  refine gg_ci 45 16 rfl rfl ?_
  refine gg_ushr 46 rfl rfl ?_
  refine gg_add 47 rfl rfl ?_
  refine gg_s 48 rfl rfl ?_
  refine gg_il 49 0 rfl rfl gs1 ?_
  refine gg_ci 51 63 rfl rfl ?_
  refine gg_and 52 rfl rfl ?_
  exact gg_ir rfl
def fx_2_30 (k : Nat) (x1 : Int) (x3 : Int) (x4 : Int) (x6 : Int) (σ : gb_S) : Option gb_P := match k with
  | 0 => none
  | k + 1 =>
    gq (gR x6) (
    (if x6 < 14 then
      gc (fx_123 x3 x6 σ) (fun r2 s3 =>
      gq (gR r2) (
      (if r2 = 0 then
        fx_2_30 k x1 x3 x4 (x6 + 1) s3
      else
        gc (fx_71 27 x1 s3) (fun r5 s6 =>
        gc (fx_73 27 x6 r5 x4 s6) (fun _ s8 =>
        fx_2_30 k x1 x3 x4 (x6 + 1) s8)))))
    else
      some (.inl 0, σ)))
/-- Treeclerk$Court.passOn -/
def fx_2 (x1 : Int) (a2 : Nat) (σ : gb_S) : Option gb_P :=
  gc (fx_32 a2 x1 σ) (fun r1 s2 =>
  gc (fx_72 27 x1 s2) (fun r3 s4 =>
  gc (fx_193 (gb_and r1 (s2 26 2)) s4) (fun r5 s6 =>
  gq (gR r5) (
  fx_2_30 gFU x1 (gb_and r1 (s2 26 2)) (r3 * r5) 0 s6))))
theorem gt_2_30 (k : Nat) : ∀ (x1 : Int) (x3 : Int) (x4 : Int) (x6 : Int) {lo : gh_L} (l0 : lo.lookup 0 = some (vr 26)) (l1 : lo.lookup 1 = some (vi x1)) (l3 : lo.lookup 3 = some (vi x3)) (l4 : lo.lookup 4 = some (vl x4)) (l6 : lo.lookup 6 = some (vi x6)) {σ : gb_S}, gb_G (fx_2_30 k x1 x3 x4 x6 σ) 2 0 none (fun _ _ => none) gk_2 c0 eV 30 lo [] σ := by
  induction k with
  | zero => intros; exact gg_n
  | succ k ih =>
    intro x1 x3 x4 x6 lo l0 l1 l3 l4 l6 σ
    rw [fx_2_30]
    refine gg_il 32 6 rfl rfl l6 ?_
    refine gg_ci 34 14 rfl rfl ?_
    refine gg_q (fun q1 => ?_)
    refine gg_ige 71 37 rfl rfl rfl rfl q1 (gRl rfl) ?_ ?_
    · exact gg_vr rfl
    · refine gg_il 38 3 rfl rfl l3 ?_
      refine gg_il 40 6 rfl rfl l6 ?_
      refine gg_cI 43 rfl (gm_123 _ _) (Nat.le_of_ble_eq_true rfl) (gb_ss rfl rfl rfl rfl rfl rfl rfl) rfl (fun _ => rfl) (fun _ => rfl) (fun r2 s3 => ?_)
      refine gg_q (fun q4 => ?_)
      refine gg_zeq 65 46 rfl rfl rfl rfl q4 ?_ ?_
      · refine gg_inc 68 rfl rfl l6 ?_
        refine gg_go 30 rfl rfl rfl ?_
        exact ih x1 x3 x4 (x6 + 1) (gl1 rfl rfl l0) (gl1 rfl rfl l1) (gl1 rfl rfl l3) (gl1 rfl rfl l4) gs1
      · refine gg_al 47 0 rfl rfl l0 ?_
        refine gg_gr 50 27 rfl rfl rfl gcl_26 rfl ?_
        refine gg_il 52 6 rfl rfl l6 ?_
        refine gg_al 53 0 rfl rfl l0 ?_
        refine gg_gr 56 27 rfl rfl rfl gcl_26 rfl ?_
        refine gg_il 57 1 rfl rfl l1 ?_
        refine gg_cLo 60 rfl (gm_71 _ _ (rfl : gb_kd 27 = 6)) (Nat.le_of_ble_eq_true rfl) (gb_vs rfl rfl rfl rfl rfl gcl_27 rfl rfl rfl) rfl (fun _ => rfl) (fun _ => rfl) (fun r5 s6 => ?_)
        refine gg_ll 62 4 rfl rfl l4 ?_
        refine gg_cV 65 rfl (gm_73 _ _ _ _ (rfl : gb_kd 27 = 6)) (Nat.le_of_ble_eq_true rfl) (gb_vs rfl rfl rfl rfl rfl gcl_27 rfl rfl rfl) rfl (fun _ => rfl) (fun _ => rfl) (fun s8 => ?_)
        refine gg_inc 68 rfl rfl l6 ?_
        refine gg_go 30 rfl rfl rfl ?_
        exact ih x1 x3 x4 (x6 + 1) (gl1 rfl rfl l0) (gl1 rfl rfl l1) (gl1 rfl rfl l3) (gl1 rfl rfl l4) gs1
theorem gm_2 (x1 : Int) (a2 : Nat) (h2 : gb_kd a2 = 3) {σ : gb_S} : gb_M (fx_2 x1 a2 σ) 3 c0 eV 2 [vr 26, vi x1, vr a2] σ := by
  rw [fx_2]
  refine gg_m (own := 0) (rt := none) (hnd := fun _ _ => none) (K := gk_2) (δ := 2) rfl rfl ?_
  refine gg_al 1 2 rfl rfl rfl ?_
  refine gg_il 2 1 rfl rfl rfl ?_
  refine gg_cI 5 rfl (gm_32 _ _ h2) (Nat.le_of_ble_eq_true rfl) (gb_vs rfl rfl rfl rfl rfl (gkin0 h2) rfl rfl rfl) rfl (fun _ => rfl) (fun _ => rfl) (fun r1 s2 => ?_)
  refine gg_al 6 0 rfl rfl rfl ?_
  refine gg_gi 9 rfl rfl rfl gcl_26 rfl ?_
  refine gg_and 10 rfl rfl ?_
  refine gg_s 11 rfl rfl ?_
  refine gg_al 12 0 rfl rfl (gl1 rfl rfl rfl) ?_
  refine gg_gr 15 27 rfl rfl rfl gcl_26 rfl ?_
  refine gg_il 16 1 rfl rfl (gl1 rfl rfl rfl) ?_
  refine gg_cLo 19 rfl (gm_72 _ _ (rfl : gb_kd 27 = 6)) (Nat.le_of_ble_eq_true rfl) (gb_vs rfl rfl rfl rfl rfl gcl_27 rfl rfl rfl) rfl (fun _ => rfl) (fun _ => rfl) (fun r3 s4 => ?_)
  refine gg_il 20 3 rfl rfl gs1 ?_
  refine gg_cI 23 rfl (gm_193 _) (Nat.le_of_ble_eq_true rfl) (gb_ss rfl rfl rfl rfl rfl rfl rfl) rfl (fun _ => rfl) (fun _ => rfl) (fun r5 s6 => ?_)
  refine gg_q (fun q7 => ?_)
  refine gg_i2l 24 rfl rfl q7 ?_
  refine gg_lmul 25 rfl rfl ?_
  refine gg_s 27 rfl rfl ?_
  refine gg_ci 28 0 rfl rfl ?_
  refine gg_s 30 rfl rfl ?_
  exact gt_2_30 gFU x1 (gb_and r1 (s2 26 2)) (r3 * r5) 0 (gl1 rfl rfl (gl2 rfl rfl rfl (gl1 rfl rfl rfl))) (gl1 rfl rfl (gl2 rfl rfl rfl (gl1 rfl rfl rfl))) (gl1 rfl rfl (gl2 rfl rfl rfl gs1)) (gl1 rfl rfl gs2) gs1
/-- Treeclerk$Court.addAsHead -/
def fx_6 (x1 : Int) (σ : gb_S) : Option gb_P :=
  gc (fx_123 (σ 26 3) x1 σ) (fun r1 s2 =>
  gq (gR r1) (
  (if r1 = 0 then
    some (.inl 0, s2)
  else
    gc (fx_193 (s2 26 3) s2) (fun r4 s5 =>
    gq (gR r4) (
    gc (fx_73 27 x1 1 r4 s5) (fun _ s8 =>
    some (.inl 0, s8)))))))
theorem gm_6 (x1 : Int) {σ : gb_S} : gb_M (fx_6 x1 σ) 3 c0 eV 6 [vr 26, vi x1] σ := by
  rw [fx_6]
  refine gg_m (own := 0) (rt := none) (hnd := fun _ _ => none) (K := gk_6) (δ := 2) rfl rfl ?_
  refine gg_al 1 0 rfl rfl rfl ?_
  refine gg_gi 4 rfl rfl rfl gcl_26 rfl ?_
  refine gg_il 5 1 rfl rfl rfl ?_
  refine gg_cI 8 rfl (gm_123 _ _) (Nat.le_of_ble_eq_true rfl) (gb_ss rfl rfl rfl rfl rfl rfl rfl) rfl (fun _ => rfl) (fun _ => rfl) (fun r1 s2 => ?_)
  refine gg_q (fun q3 => ?_)
  refine gg_zeq 28 11 rfl rfl rfl rfl q3 ?_ ?_
  · exact gg_vr rfl
  · refine gg_al 12 0 rfl rfl rfl ?_
    refine gg_gr 15 27 rfl rfl rfl gcl_26 rfl ?_
    refine gg_il 16 1 rfl rfl rfl ?_
    refine gg_cl 17 1 rfl rfl ?_
    refine gg_al 18 0 rfl rfl rfl ?_
    refine gg_gi 21 rfl rfl rfl gcl_26 rfl ?_
    refine gg_cI 24 rfl (gm_193 _) (Nat.le_of_ble_eq_true rfl) (gb_ss rfl rfl rfl rfl rfl rfl rfl) rfl (fun _ => rfl) (fun _ => rfl) (fun r4 s5 => ?_)
    refine gg_q (fun q6 => ?_)
    refine gg_i2l 25 rfl rfl q6 ?_
    refine gg_cV 28 rfl (gm_73 _ _ _ _ (rfl : gb_kd 27 = 6)) (Nat.le_of_ble_eq_true rfl) (gb_vs rfl rfl rfl rfl rfl gcl_27 rfl rfl rfl) rfl (fun _ => rfl) (fun _ => rfl) (fun s8 => ?_)
    exact gg_vr rfl
/-- Treeclerk$Folk.bornOn -/
def fx_25 (x1 : Int) (σ : gb_S) : Option gb_P :=
  gq (gR x1) (
  (if x1 < 0 then
    some (.inl 0, σ)
  else
    (if x1 < 14 then
      gq (0 ≤ x1 ∧ x1 < 14) (
      some (.inl (σ 3 x1.toNat), σ))
    else
      some (.inl 0, σ))))
theorem gm_25 (x1 : Int) {σ : gb_S} : gb_M (fx_25 x1 σ) 1 c0 eI 25 [vr 2, vi x1] σ := by
  rw [fx_25]
  refine gg_m (own := 2) (rt := (some .int)) (hnd := fun _ _ => none) (K := gk_25) (δ := 0) rfl rfl ?_
  refine gg_il 1 1 rfl rfl rfl ?_
  refine gg_q (fun q1 => ?_)
  refine gg_zlt 19 4 rfl rfl rfl rfl q1 ?_ ?_
  · refine gg_ci 20 0 rfl rfl ?_
    exact gg_ir rfl
  · refine gg_il 5 1 rfl rfl rfl ?_
    refine gg_ci 7 14 rfl rfl ?_
    refine gg_ige 19 10 rfl rfl rfl rfl q1 (gRl rfl) ?_ ?_
    · refine gg_ci 20 0 rfl rfl ?_
      exact gg_ir rfl
    · refine gg_al 11 0 rfl rfl rfl ?_
      refine gg_gr 14 3 rfl rfl rfl gcl_2 rfl ?_
      refine gg_il 15 1 rfl rfl rfl ?_
      refine gg_q (fun q2 => ?_)
      refine gg_ial 16 rfl rfl gar_3 q2 ?_
      refine gg_go 20 rfl rfl rfl ?_
      exact gg_ir rfl
/-- Treeclerk$Folk.diedOn -/
def fx_26 (x1 : Int) (σ : gb_S) : Option gb_P :=
  gq (gR x1) (
  (if x1 < 0 then
    some (.inl 0, σ)
  else
    (if x1 < 14 then
      gq (0 ≤ x1 ∧ x1 < 14) (
      some (.inl (σ 4 x1.toNat), σ))
    else
      some (.inl 0, σ))))
theorem gm_26 (x1 : Int) {σ : gb_S} : gb_M (fx_26 x1 σ) 1 c0 eI 26 [vr 2, vi x1] σ := by
  rw [fx_26]
  refine gg_m (own := 2) (rt := (some .int)) (hnd := fun _ _ => none) (K := gk_26) (δ := 0) rfl rfl ?_
  refine gg_il 1 1 rfl rfl rfl ?_
  refine gg_q (fun q1 => ?_)
  refine gg_zlt 19 4 rfl rfl rfl rfl q1 ?_ ?_
  · refine gg_ci 20 0 rfl rfl ?_
    exact gg_ir rfl
  · refine gg_il 5 1 rfl rfl rfl ?_
    refine gg_ci 7 14 rfl rfl ?_
    refine gg_ige 19 10 rfl rfl rfl rfl q1 (gRl rfl) ?_ ?_
    · refine gg_ci 20 0 rfl rfl ?_
      exact gg_ir rfl
    · refine gg_al 11 0 rfl rfl rfl ?_
      refine gg_gr 14 4 rfl rfl rfl gcl_2 rfl ?_
      refine gg_il 15 1 rfl rfl rfl ?_
      refine gg_q (fun q2 => ?_)
      refine gg_ial 16 rfl rfl gar_4 q2 ?_
      refine gg_go 20 rfl rfl rfl ?_
      exact gg_ir rfl
/-- Treeclerk$Folk.byAge -/
def fx_28 (x1 : Int) (σ : gb_S) : Option gb_P :=
  gq (gR x1) (
  (if x1 < 0 then
    some (.inl (-1), σ)
  else
    (if x1 < 14 then
      gq (0 ≤ x1 ∧ x1 < 14) (
      some (.inl (σ 5 x1.toNat), σ))
    else
      some (.inl (-1), σ))))
theorem gm_28 (x1 : Int) {σ : gb_S} : gb_M (fx_28 x1 σ) 1 c0 eI 28 [vr 2, vi x1] σ := by
  rw [fx_28]
  refine gg_m (own := 2) (rt := (some .int)) (hnd := fun _ _ => none) (K := gk_28) (δ := 0) rfl rfl ?_
  refine gg_il 1 1 rfl rfl rfl ?_
  refine gg_q (fun q1 => ?_)
  refine gg_zlt 19 4 rfl rfl rfl rfl q1 ?_ ?_
  · refine gg_ci 20 (-1) rfl rfl ?_
    exact gg_ir rfl
  · refine gg_il 5 1 rfl rfl rfl ?_
    refine gg_ci 7 14 rfl rfl ?_
    refine gg_ige 19 10 rfl rfl rfl rfl q1 (gRl rfl) ?_ ?_
    · refine gg_ci 20 (-1) rfl rfl ?_
      exact gg_ir rfl
    · refine gg_al 11 0 rfl rfl rfl ?_
      refine gg_gr 14 5 rfl rfl rfl gcl_2 rfl ?_
      refine gg_il 15 1 rfl rfl rfl ?_
      refine gg_q (fun q2 => ?_)
      refine gg_ial 16 rfl rfl gar_5 q2 ?_
      refine gg_go 20 rfl rfl rfl ?_
      exact gg_ir rfl
def fx_8_81 (k21 : Nat → Int → Int → Int → gb_S → Option gb_P) (a2 : Nat) (x4 : Int) (x5 : Int) (x6 : Int) (x7 : Int) (σ : gb_S) : Option gb_P :=
  k21 a2 (gb_or x4 (gb_shl 1 x7)) x5 (x6 + (-1)) σ
def fx_8_62 (k21 : Nat → Int → Int → Int → gb_S → Option gb_P) (a2 : Nat) (x4 : Int) (x5 : Int) (x6 : Int) (x7 : Int) (y0 : Int) (σ : gb_S) : Option gb_P :=
  gq (gR y0) (
  (if y0 = 0 then
    gc (fx_32 a2 x7 σ) (fun r2 s3 =>
    gq (gR (gb_and r2 x4)) (
    (if (gb_and r2 x4) = 0 then
      k21 a2 x4 x5 (x6 + (-1)) s3
    else
      fx_8_81 k21 a2 x4 x5 x6 x7 s3)))
  else
    fx_8_81 k21 a2 x4 x5 x6 x7 σ))
def fx_8_21 (k : Nat) (a2 : Nat) (x4 : Int) (x5 : Int) (x6 : Int) (σ : gb_S) : Option gb_P := match k with
  | 0 => none
  | k + 1 =>
    gq (gR x6) (
    (if x6 < 0 then
      some (.inl x4, σ)
    else
      gc (fx_28 x6 σ) (fun r2 s3 =>
      gc (fx_123 (s3 26 1) r2 s3) (fun r4 s5 =>
      gq (gR r4) (
      (if r4 = 0 then
        fx_8_62 (fx_8_21 k) a2 x4 x5 x6 r2 0 s5
      else
        gc (fx_25 r2 s5) (fun r7 s8 =>
        gq (gR r7) (
        gq (gR x5) (
        (if x5 < r7 then
          fx_8_62 (fx_8_21 k) a2 x4 x5 x6 r2 0 s8
        else
          fx_8_62 (fx_8_21 k) a2 x4 x5 x6 r2 1 s8))))))))))
/-- Treeclerk$Court.findLivingLines -/
def fx_8 (a2 : Nat) (a3 : Nat) (σ : gb_S) : Option gb_P :=
  gc (fx_26 (σ a3 0) σ) (fun r1 s2 =>
  fx_8_21 gFU a2 0 r1 ((s2 2 3) - 1) s2)
theorem gt_8_81 {k21 : Nat → Int → Int → Int → gb_S → Option gb_P} (hk21 : ∀ (a2 : Nat) (x4 : Int) (x5 : Int) (x6 : Int) (h2 : gb_kd a2 = 3) {lo : gh_L} (l0 : lo.lookup 0 = some (vr 26)) (l1 : lo.lookup 1 = some (vr 2)) (l2 : lo.lookup 2 = some (vr a2)) (l4 : lo.lookup 4 = some (vi x4)) (l5 : lo.lookup 5 = some (vi x5)) (l6 : lo.lookup 6 = some (vi x6)) {σ : gb_S}, gb_G (k21 a2 x4 x5 x6 σ) 1 0 (some .int) (fun _ _ => none) gk_8 c0 eI 21 lo [] σ) (a2 : Nat) (x4 : Int) (x5 : Int) (x6 : Int) (x7 : Int) (h2 : gb_kd a2 = 3) {lo : gh_L} (l0 : lo.lookup 0 = some (vr 26)) (l1 : lo.lookup 1 = some (vr 2)) (l2 : lo.lookup 2 = some (vr a2)) (l4 : lo.lookup 4 = some (vi x4)) (l5 : lo.lookup 5 = some (vi x5)) (l6 : lo.lookup 6 = some (vi x6)) (l7 : lo.lookup 7 = some (vi x7)) {σ : gb_S} : gb_G (fx_8_81 k21 a2 x4 x5 x6 x7 σ) 1 0 (some .int) (fun _ _ => none) gk_8 c0 eI 81 lo [] σ := by
  rw [fx_8_81]
  refine gg_il 83 4 rfl rfl l4 ?_
  refine gg_ci 84 1 rfl rfl ?_
  refine gg_il 86 7 rfl rfl l7 ?_
  refine gg_shl 87 rfl rfl ?_
  refine gg_or 88 rfl rfl ?_
  refine gg_s 90 rfl rfl ?_
  refine gg_inc 93 rfl rfl (gl1 rfl rfl l6) ?_
  refine gg_go 21 rfl rfl rfl ?_
  exact hk21 a2 (gb_or x4 (gb_shl 1 x7)) x5 (x6 + (-1)) h2 (gl1 rfl rfl (gl1 rfl rfl l0)) (gl1 rfl rfl (gl1 rfl rfl l1)) (gl1 rfl rfl (gl1 rfl rfl l2)) (gl1 rfl rfl gs1) (gl1 rfl rfl (gl1 rfl rfl l5)) gs1
theorem gt_8_62 {k21 : Nat → Int → Int → Int → gb_S → Option gb_P} (hk21 : ∀ (a2 : Nat) (x4 : Int) (x5 : Int) (x6 : Int) (h2 : gb_kd a2 = 3) {lo : gh_L} (l0 : lo.lookup 0 = some (vr 26)) (l1 : lo.lookup 1 = some (vr 2)) (l2 : lo.lookup 2 = some (vr a2)) (l4 : lo.lookup 4 = some (vi x4)) (l5 : lo.lookup 5 = some (vi x5)) (l6 : lo.lookup 6 = some (vi x6)) {σ : gb_S}, gb_G (k21 a2 x4 x5 x6 σ) 1 0 (some .int) (fun _ _ => none) gk_8 c0 eI 21 lo [] σ) (a2 : Nat) (x4 : Int) (x5 : Int) (x6 : Int) (x7 : Int) (y0 : Int) (h2 : gb_kd a2 = 3) {lo : gh_L} (l0 : lo.lookup 0 = some (vr 26)) (l1 : lo.lookup 1 = some (vr 2)) (l2 : lo.lookup 2 = some (vr a2)) (l4 : lo.lookup 4 = some (vi x4)) (l5 : lo.lookup 5 = some (vi x5)) (l6 : lo.lookup 6 = some (vi x6)) (l7 : lo.lookup 7 = some (vi x7)) {σ : gb_S} : gb_G (fx_8_62 k21 a2 x4 x5 x6 x7 y0 σ) 1 0 (some .int) (fun _ _ => none) gk_8 c0 eI 62 lo [vi y0] σ := by
  rw [fx_8_62]
  refine gg_s 64 rfl rfl ?_
  refine gg_il 66 8 rfl rfl gs1 ?_
  refine gg_q (fun q1 => ?_)
  refine gg_zne 81 69 rfl rfl rfl rfl q1 ?_ ?_
  · exact gt_8_81 hk21 a2 x4 x5 x6 x7 h2 (gl1 rfl rfl l0) (gl1 rfl rfl l1) (gl1 rfl rfl l2) (gl1 rfl rfl l4) (gl1 rfl rfl l5) (gl1 rfl rfl l6) (gl1 rfl rfl l7)
  · refine gg_al 70 2 rfl rfl (gl1 rfl rfl l2) ?_
    refine gg_il 72 7 rfl rfl (gl1 rfl rfl l7) ?_
    refine gg_cI 75 rfl (gm_32 _ _ h2) (Nat.le_of_ble_eq_true rfl) (gb_vs rfl rfl rfl rfl rfl (gkin0 h2) rfl rfl rfl) rfl (fun _ => rfl) (fun _ => rfl) (fun r2 s3 => ?_)
    refine gg_il 77 4 rfl rfl (gl1 rfl rfl l4) ?_
    refine gg_and 78 rfl rfl ?_
    refine gg_q (fun q4 => ?_)
    refine gg_zeq 90 81 rfl rfl rfl rfl q4 ?_ ?_
    · refine gg_inc 93 rfl rfl (gl1 rfl rfl l6) ?_
      refine gg_go 21 rfl rfl rfl ?_
      exact hk21 a2 x4 x5 (x6 + (-1)) h2 (gl1 rfl rfl (gl1 rfl rfl l0)) (gl1 rfl rfl (gl1 rfl rfl l1)) (gl1 rfl rfl (gl1 rfl rfl l2)) (gl1 rfl rfl (gl1 rfl rfl l4)) (gl1 rfl rfl (gl1 rfl rfl l5)) gs1
    · exact gt_8_81 hk21 a2 x4 x5 x6 x7 h2 (gl1 rfl rfl l0) (gl1 rfl rfl l1) (gl1 rfl rfl l2) (gl1 rfl rfl l4) (gl1 rfl rfl l5) (gl1 rfl rfl l6) (gl1 rfl rfl l7)
theorem gt_8_21 (k : Nat) : ∀ (a2 : Nat) (x4 : Int) (x5 : Int) (x6 : Int) (h2 : gb_kd a2 = 3) {lo : gh_L} (l0 : lo.lookup 0 = some (vr 26)) (l1 : lo.lookup 1 = some (vr 2)) (l2 : lo.lookup 2 = some (vr a2)) (l4 : lo.lookup 4 = some (vi x4)) (l5 : lo.lookup 5 = some (vi x5)) (l6 : lo.lookup 6 = some (vi x6)) {σ : gb_S}, gb_G (fx_8_21 k a2 x4 x5 x6 σ) 1 0 (some .int) (fun _ _ => none) gk_8 c0 eI 21 lo [] σ := by
  induction k with
  | zero => intros; exact gg_n
  | succ k ih =>
    intro a2 x4 x5 x6 h2 lo l0 l1 l2 l4 l5 l6 σ
    rw [fx_8_21]
    refine gg_il 23 6 rfl rfl l6 ?_
    refine gg_q (fun q1 => ?_)
    refine gg_zlt 96 26 rfl rfl rfl rfl q1 ?_ ?_
    · refine gg_il 98 4 rfl rfl l4 ?_
      exact gg_ir rfl
    · refine gg_al 27 1 rfl rfl l1 ?_
      refine gg_il 29 6 rfl rfl l6 ?_
      refine gg_cI 32 rfl (gm_28 _) (Nat.le_of_ble_eq_true rfl) (gb_vs rfl rfl rfl rfl rfl gcl_2 rfl rfl rfl) rfl (fun _ => rfl) (fun _ => rfl) (fun r2 s3 => ?_)
      refine gg_s 34 rfl rfl ?_
      refine gg_al 35 0 rfl rfl (gl1 rfl rfl l0) ?_
      refine gg_gi 38 rfl rfl rfl gcl_26 rfl ?_
      refine gg_il 40 7 rfl rfl gs1 ?_
      refine gg_cI 43 rfl (gm_123 _ _) (Nat.le_of_ble_eq_true rfl) (gb_ss rfl rfl rfl rfl rfl rfl rfl) rfl (fun _ => rfl) (fun _ => rfl) (fun r4 s5 => ?_)
      refine gg_q (fun q6 => ?_)
      refine gg_zeq 61 46 rfl rfl rfl rfl q6 ?_ ?_
      · refine gg_ci 62 0 rfl rfl ?_
        exact gt_8_62 ih a2 x4 x5 x6 r2 0 h2 (gl1 rfl rfl l0) (gl1 rfl rfl l1) (gl1 rfl rfl l2) (gl1 rfl rfl l4) (gl1 rfl rfl l5) (gl1 rfl rfl l6) gs1
      · refine gg_al 47 1 rfl rfl (gl1 rfl rfl l1) ?_
        refine gg_il 49 7 rfl rfl gs1 ?_
        refine gg_cI 52 rfl (gm_25 _) (Nat.le_of_ble_eq_true rfl) (gb_vs rfl rfl rfl rfl rfl gcl_2 rfl rfl rfl) rfl (fun _ => rfl) (fun _ => rfl) (fun r7 s8 => ?_)
        refine gg_il 54 5 rfl rfl (gl1 rfl rfl l5) ?_
        refine gg_q (fun q9 => ?_)
        refine gg_q (fun q10 => ?_)
        refine gg_igt 61 57 rfl rfl rfl rfl q9 q10 ?_ ?_
        · refine gg_ci 62 0 rfl rfl ?_
          exact gt_8_62 ih a2 x4 x5 x6 r2 0 h2 (gl1 rfl rfl l0) (gl1 rfl rfl l1) (gl1 rfl rfl l2) (gl1 rfl rfl l4) (gl1 rfl rfl l5) (gl1 rfl rfl l6) gs1
        · refine gg_ci 58 1 rfl rfl ?_
          refine gg_go 62 rfl rfl rfl ?_
          exact gt_8_62 ih a2 x4 x5 x6 r2 1 h2 (gl1 rfl rfl l0) (gl1 rfl rfl l1) (gl1 rfl rfl l2) (gl1 rfl rfl l4) (gl1 rfl rfl l5) (gl1 rfl rfl l6) gs1
theorem gm_8 (a2 : Nat) (a3 : Nat) (h2 : gb_kd a2 = 3) (h3 : gb_kd a3 = 1) {σ : gb_S} : gb_M (fx_8 a2 a3 σ) 2 c0 eI 8 [vr 26, vr 2, vr a2, vr a3] σ := by
  rw [fx_8]
  refine gg_m (own := 0) (rt := (some .int)) (hnd := fun _ _ => none) (K := gk_8) (δ := 1) rfl rfl ?_
  refine gg_ci 1 0 rfl rfl ?_
  refine gg_s 3 rfl rfl ?_
  refine gg_al 4 1 rfl rfl (gl1 rfl rfl rfl) ?_
  refine gg_al 5 3 rfl rfl (gl1 rfl rfl rfl) ?_
  refine gg_gi 8 rfl rfl rfl (ges0 h3) rfl ?_
  refine gg_cI 11 rfl (gm_26 _) (Nat.le_of_ble_eq_true rfl) (gb_vs rfl rfl rfl rfl rfl gcl_2 rfl rfl rfl) rfl (fun _ => rfl) (fun _ => rfl) (fun r1 s2 => ?_)
  refine gg_s 13 rfl rfl ?_
  refine gg_al 14 1 rfl rfl (gl1 rfl rfl (gl1 rfl rfl rfl)) ?_
  refine gg_gi 17 rfl rfl rfl gcl_2 rfl ?_
  refine gg_ci 18 1 rfl rfl ?_
  refine gg_sub 19 rfl rfl ?_
  refine gg_s 21 rfl rfl ?_
  exact gt_8_21 gFU a2 0 r1 ((s2 2 3) - 1) h2 (gl1 rfl rfl (gl1 rfl rfl (gl1 rfl rfl rfl))) (gl1 rfl rfl (gl1 rfl rfl (gl1 rfl rfl rfl))) (gl1 rfl rfl (gl1 rfl rfl (gl1 rfl rfl rfl))) (gl1 rfl rfl (gl1 rfl rfl gs1)) (gl1 rfl rfl gs1) gs1
/-- Treeclerk$Kin.firstParent -/
def fx_30 (a0 : Nat) (x1 : Int) (σ : gb_S) : Option gb_P :=
  gq (gR x1) (
  (if x1 < 0 then
    some (.inl (-1), σ)
  else
    (if x1 < 14 then
      gq (0 ≤ x1 ∧ x1 < 14) (
      some (.inl (σ (a0 + 1) x1.toNat), σ))
    else
      some (.inl (-1), σ))))
theorem gm_30 (a0 : Nat) (x1 : Int) (h0 : gb_kd a0 = 3) {σ : gb_S} : gb_M (fx_30 a0 x1 σ) 1 c0 eI 30 [vr a0, vi x1] σ := by
  rw [fx_30]
  refine gg_m (own := 3) (rt := (some .int)) (hnd := fun _ _ => none) (K := gk_30) (δ := 0) rfl rfl ?_
  refine gg_il 1 1 rfl rfl rfl ?_
  refine gg_q (fun q1 => ?_)
  refine gg_zlt 19 4 rfl rfl rfl rfl q1 ?_ ?_
  · refine gg_ci 20 (-1) rfl rfl ?_
    exact gg_ir rfl
  · refine gg_il 5 1 rfl rfl rfl ?_
    refine gg_ci 7 14 rfl rfl ?_
    refine gg_ige 19 10 rfl rfl rfl rfl q1 (gRl rfl) ?_ ?_
    · refine gg_ci 20 (-1) rfl rfl ?_
      exact gg_ir rfl
    · refine gg_al 11 0 rfl rfl rfl ?_
      refine gg_gr 14 (a0 + 1) rfl rfl rfl (gkin0 h0) rfl ?_
      refine gg_il 15 1 rfl rfl rfl ?_
      refine gg_q (fun q2 => ?_)
      refine gg_ial 16 rfl rfl (gkin1 h0) q2 ?_
      refine gg_go 20 rfl rfl rfl ?_
      exact gg_ir rfl
/-- Treeclerk$Kin.secondParent -/
def fx_31 (a0 : Nat) (x1 : Int) (σ : gb_S) : Option gb_P :=
  gq (gR x1) (
  (if x1 < 0 then
    some (.inl (-1), σ)
  else
    (if x1 < 14 then
      gq (0 ≤ x1 ∧ x1 < 14) (
      some (.inl (σ (a0 + 2) x1.toNat), σ))
    else
      some (.inl (-1), σ))))
theorem gm_31 (a0 : Nat) (x1 : Int) (h0 : gb_kd a0 = 3) {σ : gb_S} : gb_M (fx_31 a0 x1 σ) 1 c0 eI 31 [vr a0, vi x1] σ := by
  rw [fx_31]
  refine gg_m (own := 3) (rt := (some .int)) (hnd := fun _ _ => none) (K := gk_31) (δ := 0) rfl rfl ?_
  refine gg_il 1 1 rfl rfl rfl ?_
  refine gg_q (fun q1 => ?_)
  refine gg_zlt 19 4 rfl rfl rfl rfl q1 ?_ ?_
  · refine gg_ci 20 (-1) rfl rfl ?_
    exact gg_ir rfl
  · refine gg_il 5 1 rfl rfl rfl ?_
    refine gg_ci 7 14 rfl rfl ?_
    refine gg_ige 19 10 rfl rfl rfl rfl q1 (gRl rfl) ?_ ?_
    · refine gg_ci 20 (-1) rfl rfl ?_
      exact gg_ir rfl
    · refine gg_al 11 0 rfl rfl rfl ?_
      refine gg_gr 14 (a0 + 2) rfl rfl rfl (gkin0 h0) rfl ?_
      refine gg_il 15 1 rfl rfl rfl ?_
      refine gg_q (fun q2 => ?_)
      refine gg_ial 16 rfl rfl (gkin2 h0) q2 ?_
      refine gg_go 20 rfl rfl rfl ?_
      exact gg_ir rfl
/-- Treeclerk$Kin.setOf -/
def fx_34 (x0 : Int) (σ : gb_S) : Option gb_P :=
  gq (gR x0) (
  (if x0 = (-1) then
    some (.inl 0, σ)
  else
    some (.inl (gb_shl 1 x0), σ)))
theorem gm_34 (x0 : Int) {σ : gb_S} : gb_M (fx_34 x0 σ) 1 c0 eI 34 [vi x0] σ := by
  rw [fx_34]
  refine gg_m (own := 3) (rt := (some .int)) (hnd := fun _ _ => none) (K := gk_34) (δ := 0) rfl rfl ?_
  refine gg_il 1 0 rfl rfl rfl ?_
  refine gg_ci 2 (-1) rfl rfl ?_
  refine gg_q (fun q1 => ?_)
  refine gg_ine 9 5 rfl rfl rfl rfl q1 (gRl rfl) ?_ ?_
  · refine gg_ci 10 1 rfl rfl ?_
    refine gg_il 11 0 rfl rfl rfl ?_
    refine gg_shl 12 rfl rfl ?_
    exact gg_ir rfl
  · refine gg_ci 6 0 rfl rfl ?_
    refine gg_go 12 rfl rfl rfl ?_
    exact gg_ir rfl
/-- Treeclerk$Kin.parentSet -/
def fx_33 (a0 : Nat) (x1 : Int) (σ : gb_S) : Option gb_P :=
  gc (fx_30 a0 x1 σ) (fun r1 s2 =>
  gc (fx_34 r1 s2) (fun r3 s4 =>
  gc (fx_31 a0 x1 s4) (fun r5 s6 =>
  gc (fx_34 r5 s6) (fun r7 s8 =>
  some (.inl (gb_or r3 r7), s8)))))
theorem gm_33 (a0 : Nat) (x1 : Int) (h0 : gb_kd a0 = 3) {σ : gb_S} : gb_M (fx_33 a0 x1 σ) 2 c0 eI 33 [vr a0, vi x1] σ := by
  rw [fx_33]
  refine gg_m (own := 3) (rt := (some .int)) (hnd := fun _ _ => none) (K := gk_33) (δ := 1) rfl rfl ?_
  refine gg_al 1 0 rfl rfl rfl ?_
  refine gg_il 2 1 rfl rfl rfl ?_
  refine gg_cI 5 rfl (gm_30 _ _ h0) (Nat.le_of_ble_eq_true rfl) (gb_vs rfl rfl rfl rfl rfl (gkin0 h0) rfl rfl rfl) rfl (fun _ => rfl) (fun _ => rfl) (fun r1 s2 => ?_)
  refine gg_cI 8 rfl (gm_34 _) (Nat.le_of_ble_eq_true rfl) (gb_ss rfl rfl rfl rfl rfl rfl rfl) rfl (fun _ => rfl) (fun _ => rfl) (fun r3 s4 => ?_)
  refine gg_al 9 0 rfl rfl rfl ?_
  refine gg_il 10 1 rfl rfl rfl ?_
  refine gg_cI 13 rfl (gm_31 _ _ h0) (Nat.le_of_ble_eq_true rfl) (gb_vs rfl rfl rfl rfl rfl (gkin0 h0) rfl rfl rfl) rfl (fun _ => rfl) (fun _ => rfl) (fun r5 s6 => ?_)
  refine gg_cI 16 rfl (gm_34 _) (Nat.le_of_ble_eq_true rfl) (gb_ss rfl rfl rfl rfl rfl rfl rfl) rfl (fun _ => rfl) (fun _ => rfl) (fun r7 s8 => ?_)
  refine gg_or 17 rfl rfl ?_
  exact gg_ir rfl
/-- Treeclerk$Court.findHeads -/
def fx_9 (a1 : Nat) (x2 : Int) (σ : gb_S) : Option gb_P :=
  gc (fx_123 (σ 26 2) x2 σ) (fun r1 s2 =>
  gq (gR r1) (
  (if r1 = 0 then
    gc (fx_33 a1 x2 s2) (fun r4 s5 =>
    gq (gR (gb_and r4 (s5 26 2))) (
    (if (gb_and r4 (s5 26 2)) = 0 then
      gc (fx_30 a1 x2 s5) (fun r7 s8 =>
      gc (fx_33 a1 r7 s8) (fun r9 s10 =>
      gc (fx_31 a1 x2 s10) (fun r11 s12 =>
      gc (fx_33 a1 r11 s12) (fun r13 s14 =>
      some (.inl (gb_and (gb_or r9 r13) (s14 26 2)), s14)))))
    else
      some (.inl (gb_and r4 (s5 26 2)), s5))))
  else
    some (.inl (gb_shl 1 x2), s2))))
theorem gm_9 (a1 : Nat) (x2 : Int) (h1 : gb_kd a1 = 3) {σ : gb_S} : gb_M (fx_9 a1 x2 σ) 3 c0 eI 9 [vr 26, vr a1, vi x2] σ := by
  rw [fx_9]
  refine gg_m (own := 0) (rt := (some .int)) (hnd := fun _ _ => none) (K := gk_9) (δ := 2) rfl rfl ?_
  refine gg_al 1 0 rfl rfl rfl ?_
  refine gg_gi 4 rfl rfl rfl gcl_26 rfl ?_
  refine gg_il 5 2 rfl rfl rfl ?_
  refine gg_cI 8 rfl (gm_123 _ _) (Nat.le_of_ble_eq_true rfl) (gb_ss rfl rfl rfl rfl rfl rfl rfl) rfl (fun _ => rfl) (fun _ => rfl) (fun r1 s2 => ?_)
  refine gg_q (fun q3 => ?_)
  refine gg_zeq 15 11 rfl rfl rfl rfl q3 ?_ ?_
  · refine gg_al 16 1 rfl rfl rfl ?_
    refine gg_il 17 2 rfl rfl rfl ?_
    refine gg_cI 20 rfl (gm_33 _ _ h1) (Nat.le_of_ble_eq_true rfl) (gb_vs rfl rfl rfl rfl rfl (gkin0 h1) rfl rfl rfl) rfl (fun _ => rfl) (fun _ => rfl) (fun r4 s5 => ?_)
    refine gg_s 21 rfl rfl ?_
    refine gg_il 22 3 rfl rfl gs1 ?_
    refine gg_al 23 0 rfl rfl (gl1 rfl rfl rfl) ?_
    refine gg_gi 26 rfl rfl rfl gcl_26 rfl ?_
    refine gg_and 27 rfl rfl ?_
    refine gg_q (fun q6 => ?_)
    refine gg_zeq 37 30 rfl rfl rfl rfl q6 ?_ ?_
    · refine gg_al 38 1 rfl rfl (gl1 rfl rfl rfl) ?_
      refine gg_al 39 1 rfl rfl (gl1 rfl rfl rfl) ?_
      refine gg_il 40 2 rfl rfl (gl1 rfl rfl rfl) ?_
      refine gg_cI 43 rfl (gm_30 _ _ h1) (Nat.le_of_ble_eq_true rfl) (gb_vs rfl rfl rfl rfl rfl (gkin0 h1) rfl rfl rfl) rfl (fun _ => rfl) (fun _ => rfl) (fun r7 s8 => ?_)
      refine gg_cI 46 rfl (gm_33 _ _ h1) (Nat.le_of_ble_eq_true rfl) (gb_vs rfl rfl rfl rfl rfl (gkin0 h1) rfl rfl rfl) rfl (fun _ => rfl) (fun _ => rfl) (fun r9 s10 => ?_)
      refine gg_al 47 1 rfl rfl (gl1 rfl rfl rfl) ?_
      refine gg_al 48 1 rfl rfl (gl1 rfl rfl rfl) ?_
      refine gg_il 49 2 rfl rfl (gl1 rfl rfl rfl) ?_
      refine gg_cI 52 rfl (gm_31 _ _ h1) (Nat.le_of_ble_eq_true rfl) (gb_vs rfl rfl rfl rfl rfl (gkin0 h1) rfl rfl rfl) rfl (fun _ => rfl) (fun _ => rfl) (fun r11 s12 => ?_)
      refine gg_cI 55 rfl (gm_33 _ _ h1) (Nat.le_of_ble_eq_true rfl) (gb_vs rfl rfl rfl rfl rfl (gkin0 h1) rfl rfl rfl) rfl (fun _ => rfl) (fun _ => rfl) (fun r13 s14 => ?_)
      refine gg_or 56 rfl rfl ?_
      refine gg_s 58 rfl rfl ?_
      refine gg_il 60 4 rfl rfl gs1 ?_
      refine gg_al 61 0 rfl rfl (gl1 rfl rfl (gl1 rfl rfl rfl)) ?_
      refine gg_gi 64 rfl rfl rfl gcl_26 rfl ?_
      refine gg_and 65 rfl rfl ?_
      exact gg_ir rfl
    · refine gg_il 31 3 rfl rfl gs1 ?_
      refine gg_al 32 0 rfl rfl (gl1 rfl rfl rfl) ?_
      refine gg_gi 35 rfl rfl rfl gcl_26 rfl ?_
      refine gg_and 36 rfl rfl ?_
      exact gg_ir rfl
  · refine gg_ci 12 1 rfl rfl ?_
    refine gg_il 13 2 rfl rfl rfl ?_
    refine gg_shl 14 rfl rfl ?_
    exact gg_ir rfl
def fx_7_19 (a2 : Nat) (a3 : Nat) (y0 : Int) (σ : gb_S) : Option gb_P :=
  gc (fx_8 a2 a3 (gb_up σ 26 1 (gb_xor y0 (-1)))) (fun r1 s2 =>
  gc (fx_9 a2 ((gb_up s2 26 2 r1) a3 0) (gb_up s2 26 2 r1)) (fun r3 s4 =>
  some (.inl 0, (gb_up s4 26 3 r3))))
/-- Treeclerk$Court.lookAt -/
def fx_7 (a2 : Nat) (a3 : Nat) (σ : gb_S) : Option gb_P :=
  gq (gR (σ a3 4)) (
  (if (σ a3 4) = 0 then
    fx_7_19 a2 a3 (σ 2 4) σ
  else
    fx_7_19 a2 a3 (σ a3 5) σ))
theorem gt_7_19 (a2 : Nat) (a3 : Nat) (y0 : Int) (h2 : gb_kd a2 = 3) (h3 : gb_kd a3 = 1) {lo : gh_L} (l0 : lo.lookup 0 = some (vr 26)) (l1 : lo.lookup 1 = some (vr 2)) (l2 : lo.lookup 2 = some (vr a2)) (l3 : lo.lookup 3 = some (vr a3)) {σ : gb_S} : gb_G (fx_7_19 a2 a3 y0 σ) 3 0 none (fun _ _ => none) gk_7 c0 eV 19 lo [vi y0, vr 26] σ := by
  rw [fx_7_19]
  refine gg_ci 20 (-1) rfl rfl ?_
  refine gg_xor 21 rfl rfl ?_
  refine gg_pf 24 rfl rfl rfl gcl_26 rfl ⟨rfl, rfl⟩ ?_
  refine gg_al 25 0 rfl rfl l0 ?_
  refine gg_al 26 0 rfl rfl l0 ?_
  refine gg_al 27 1 rfl rfl l1 ?_
  refine gg_al 28 2 rfl rfl l2 ?_
  refine gg_al 29 3 rfl rfl l3 ?_
  refine gg_cI 32 rfl (gm_8 _ _ h2 h3) (Nat.le_of_ble_eq_true rfl) (gb_vs rfl rfl rfl rfl rfl gcl_26 rfl rfl rfl) rfl (fun _ => rfl) (fun _ => rfl) (fun r1 s2 => ?_)
  refine gg_pf 35 rfl rfl rfl gcl_26 rfl ⟨rfl, rfl⟩ ?_
  refine gg_al 36 0 rfl rfl l0 ?_
  refine gg_al 37 0 rfl rfl l0 ?_
  refine gg_al 38 2 rfl rfl l2 ?_
  refine gg_al 39 3 rfl rfl l3 ?_
  refine gg_gi 42 rfl rfl rfl (ges0 h3) rfl ?_
  refine gg_cI 45 rfl (gm_9 _ _ h2) (Nat.le_of_ble_eq_true rfl) (gb_vs rfl rfl rfl rfl rfl gcl_26 rfl rfl rfl) rfl (fun _ => rfl) (fun _ => rfl) (fun r3 s4 => ?_)
  refine gg_pf 48 rfl rfl rfl gcl_26 rfl ⟨rfl, rfl⟩ ?_
  exact gg_vr rfl
theorem gm_7 (a2 : Nat) (a3 : Nat) (h2 : gb_kd a2 = 3) (h3 : gb_kd a3 = 1) {σ : gb_S} : gb_M (fx_7 a2 a3 σ) 4 c0 eV 7 [vr 26, vr 2, vr a2, vr a3] σ := by
  rw [fx_7]
  refine gg_m (own := 0) (rt := none) (hnd := fun _ _ => none) (K := gk_7) (δ := 3) rfl rfl ?_
  refine gg_al 1 0 rfl rfl rfl ?_
  refine gg_al 2 3 rfl rfl rfl ?_
  refine gg_gi 5 rfl rfl rfl (ges0 h3) rfl ?_
  refine gg_q (fun q1 => ?_)
  refine gg_zeq 15 8 rfl rfl rfl rfl q1 ?_ ?_
  · refine gg_al 16 1 rfl rfl rfl ?_
    refine gg_gi 19 rfl rfl rfl gcl_2 rfl ?_
    exact gt_7_19 a2 a3 (σ 2 4) h2 h3 rfl rfl rfl rfl
  · refine gg_al 9 3 rfl rfl rfl ?_
    refine gg_gi 12 rfl rfl rfl (ges0 h3) rfl ?_
    refine gg_go 19 rfl rfl rfl ?_
    exact gt_7_19 a2 a3 (σ a3 5) h2 h3 rfl rfl rfl rfl
/-- Treeclerk$Estate.weightOf -/
def fx_13 (a0 : Nat) (x1 : Int) (σ : gb_S) : Option gb_P :=
  gq (gR x1) (
  (if x1 < 0 then
    some (.inl 0, σ)
  else
    (if x1 < 14 then
      gq (0 ≤ x1 ∧ x1 < 14) (
      some (.inl (σ (a0 + 1) x1.toNat), σ))
    else
      some (.inl 0, σ))))
theorem gm_13 (a0 : Nat) (x1 : Int) (h0 : gb_kd a0 = 1) {σ : gb_S} : gb_M (fx_13 a0 x1 σ) 1 c0 eI 13 [vr a0, vi x1] σ := by
  rw [fx_13]
  refine gg_m (own := 1) (rt := (some .int)) (hnd := fun _ _ => none) (K := gk_13) (δ := 0) rfl rfl ?_
  refine gg_il 1 1 rfl rfl rfl ?_
  refine gg_q (fun q1 => ?_)
  refine gg_zlt 19 4 rfl rfl rfl rfl q1 ?_ ?_
  · refine gg_ci 20 0 rfl rfl ?_
    exact gg_ir rfl
  · refine gg_il 5 1 rfl rfl rfl ?_
    refine gg_ci 7 14 rfl rfl ?_
    refine gg_ige 19 10 rfl rfl rfl rfl q1 (gRl rfl) ?_ ?_
    · refine gg_ci 20 0 rfl rfl ?_
      exact gg_ir rfl
    · refine gg_al 11 0 rfl rfl rfl ?_
      refine gg_gr 14 (a0 + 1) rfl rfl rfl (ges0 h0) rfl ?_
      refine gg_il 15 1 rfl rfl rfl ?_
      refine gg_q (fun q2 => ?_)
      refine gg_ial 16 rfl rfl (ges1 h0) q2 ?_
      refine gg_go 20 rfl rfl rfl ?_
      exact gg_ir rfl
/-- Treeclerk$Court.weightFor -/
def fx_11 (a1 : Nat) (x2 : Int) (σ : gb_S) : Option gb_P :=
  gc (fx_123 (σ 26 1) x2 σ) (fun r1 s2 =>
  gq (gR r1) (
  (if r1 = 0 then
    some (.inl 0, s2)
  else
    gc (fx_13 a1 x2 s2) (fun r4 s5 =>
    some (.inl r4, s5)))))
theorem gm_11 (a1 : Nat) (x2 : Int) (h1 : gb_kd a1 = 1) {σ : gb_S} : gb_M (fx_11 a1 x2 σ) 2 c0 eI 11 [vr 26, vr a1, vi x2] σ := by
  rw [fx_11]
  refine gg_m (own := 0) (rt := (some .int)) (hnd := fun _ _ => none) (K := gk_11) (δ := 1) rfl rfl ?_
  refine gg_al 1 0 rfl rfl rfl ?_
  refine gg_gi 4 rfl rfl rfl gcl_26 rfl ?_
  refine gg_il 5 2 rfl rfl rfl ?_
  refine gg_cI 8 rfl (gm_123 _ _) (Nat.le_of_ble_eq_true rfl) (gb_ss rfl rfl rfl rfl rfl rfl rfl) rfl (fun _ => rfl) (fun _ => rfl) (fun r1 s2 => ?_)
  refine gg_q (fun q3 => ?_)
  refine gg_zeq 19 11 rfl rfl rfl rfl q3 ?_ ?_
  · refine gg_ci 20 0 rfl rfl ?_
    exact gg_ir rfl
  · refine gg_al 12 1 rfl rfl rfl ?_
    refine gg_il 13 2 rfl rfl rfl ?_
    refine gg_cI 16 rfl (gm_13 _ _ h1) (Nat.le_of_ble_eq_true rfl) (gb_vs rfl rfl rfl rfl rfl (ges0 h1) rfl rfl rfl) rfl (fun _ => rfl) (fun _ => rfl) (fun r4 s5 => ?_)
    refine gg_go 20 rfl rfl rfl ?_
    exact gg_ir rfl
/-- Treeclerk$Shares.clear -/
def fx_69 (a0 : Nat) (σ : gb_S) : Option gb_P :=
  some (.inl 0, (gb_fi (gb_fi σ (a0 + 1) 0) (a0 + 2) 1))
theorem gm_69 (a0 : Nat) (h0 : gb_kd a0 = 6) {σ : gb_S} : gb_M (fx_69 a0 σ) 2 c0 eV 69 [vr a0] σ := by
  rw [fx_69]
  refine gg_m (own := 6) (rt := none) (hnd := fun _ _ => none) (K := gk_69) (δ := 1) rfl rfl ?_
  refine gg_al 1 0 rfl rfl rfl ?_
  refine gg_gr 4 (a0 + 1) rfl rfl rfl (gsh0 h0) rfl ?_
  refine gg_cl 5 0 rfl rfl ?_
  refine gg_cF 8 rfl (gm_195 (gsh1 h0)) (Nat.le_of_ble_eq_true rfl) (gb_ss rfl rfl rfl rfl rfl rfl rfl) rfl (fun _ => rfl) (fun _ => rfl) ?_
  refine gg_al 9 0 rfl rfl rfl ?_
  refine gg_gr 12 (a0 + 2) rfl rfl rfl (gsh0 h0) rfl ?_
  refine gg_cl 13 1 rfl rfl ?_
  refine gg_cF 16 rfl (gm_195 (gsh2 h0)) (Nat.le_of_ble_eq_true rfl) (gb_ss rfl rfl rfl rfl rfl rfl rfl) rfl (fun _ => rfl) (fun _ => rfl) ?_
  exact gg_vr rfl
def fx_10_121 (k89 : Nat → Nat → Int → Int → Int → Int → Int → gb_S → Option gb_P) (a1 : Nat) (a2 : Nat) (x3 : Int) (x4 : Int) (x5 : Int) (x6 : Int) (x7 : Int) (σ : gb_S) : Option gb_P :=
  gq (gR x5) (
  (if x5 = 0 then
    k89 a1 a2 x3 x4 x5 x6 (x7 + 1) σ
  else
    gc (fx_123 (σ 26 1) x7 σ) (fun r2 s3 =>
    gq (gR r2) (
    (if r2 = 0 then
      k89 a1 a2 x3 x4 x5 x6 (x7 + 1) s3
    else
      gc (fx_71 27 x7 s3) (fun r5 s6 =>
      gc (fx_72 27 x7 s6) (fun r7 s8 =>
      gq (gR x6) (
      gc (fx_73 a2 x7 r5 (r7 * x6) s8) (fun _ s11 =>
      k89 a1 a2 x3 x4 x5 x6 (x7 + 1) s11)))))))))
def fx_10_89 (k : Nat) (a1 : Nat) (a2 : Nat) (x3 : Int) (x4 : Int) (x5 : Int) (x6 : Int) (x7 : Int) (σ : gb_S) : Option gb_P := match k with
  | 0 => none
  | k + 1 =>
    gq (gR x7) (
    (if x7 < 14 then
      gq (gR x4) (
      (if x4 = 0 then
        fx_10_121 (fx_10_89 k) a1 a2 x3 x4 x5 x6 x7 σ
      else
        gc (fx_11 a1 x7 σ) (fun r3 s4 =>
        gq (gR r3) (
        gq (gR x3) (
        gq (gR x6) (
        gc (fx_73 a2 x7 r3 (x3 * x6) s4) (fun _ s9 =>
        fx_10_121 (fx_10_89 k) a1 a2 x3 x4 x5 x6 x7 s9)))))))
    else
      some (.inl 0, σ)))
def fx_10_63 (a1 : Nat) (a2 : Nat) (x3 : Int) (x4 : Int) (y0 : Int) (σ : gb_S) : Option gb_P :=
  gq (gR x4) (
  (if x4 = 0 then
    gc (fx_69 a2 σ) (fun _ s3 =>
    fx_10_89 gFU a1 a2 x3 x4 y0 1 0 s3)
  else
    gq (gR y0) (
    (if y0 = 0 then
      gc (fx_69 a2 σ) (fun _ s6 =>
      fx_10_89 gFU a1 a2 x3 x4 y0 1 0 s6)
    else
      gc (fx_69 a2 σ) (fun _ s8 =>
      fx_10_89 gFU a1 a2 x3 x4 y0 2 0 s8)))))
def fx_10_37 (a1 : Nat) (a2 : Nat) (x3 : Int) (y0 : Int) (σ : gb_S) : Option gb_P :=
  gq (gR y0) (
  (if y0 = 0 then
    fx_10_63 a1 a2 x3 y0 1 σ
  else
    gc (fx_123 (σ 26 2) (σ a1 0) σ) (fun r2 s3 =>
    gq (gR r2) (
    (if r2 = 0 then
      fx_10_63 a1 a2 x3 y0 0 s3
    else
      fx_10_63 a1 a2 x3 y0 1 s3)))))
def fx_10_5 (k : Nat) (a1 : Nat) (a2 : Nat) (x3 : Int) (x4 : Int) (σ : gb_S) : Option gb_P := match k with
  | 0 => none
  | k + 1 =>
    gq (gR x4) (
    (if x4 < 14 then
      gc (fx_11 a1 x4 σ) (fun r3 s4 =>
      fx_10_5 k a1 a2 (x3 + r3) (x4 + 1) s4)
    else
      gq (gR x3) (
      (if 0 < x3 then
        fx_10_37 a1 a2 x3 1 σ
      else
        fx_10_37 a1 a2 x3 0 σ))))
/-- Treeclerk$Court.joinWithWill -/
def fx_10 (a1 : Nat) (a2 : Nat) (σ : gb_S) : Option gb_P :=
  fx_10_5 gFU a1 a2 0 0 σ
theorem gt_10_121 {k89 : Nat → Nat → Int → Int → Int → Int → Int → gb_S → Option gb_P} (hk89 : ∀ (a1 : Nat) (a2 : Nat) (x3 : Int) (x4 : Int) (x5 : Int) (x6 : Int) (x7 : Int) (h1 : gb_kd a1 = 1) (h2 : gb_kd a2 = 6) {lo : gh_L} (l0 : lo.lookup 0 = some (vr 26)) (l1 : lo.lookup 1 = some (vr a1)) (l2 : lo.lookup 2 = some (vr a2)) (l3 : lo.lookup 3 = some (vi x3)) (l4 : lo.lookup 4 = some (vi x4)) (l5 : lo.lookup 5 = some (vi x5)) (l6 : lo.lookup 6 = some (vi x6)) (l7 : lo.lookup 7 = some (vi x7)) {σ : gb_S}, gb_G (k89 a1 a2 x3 x4 x5 x6 x7 σ) 2 0 none (fun _ _ => none) gk_10 c0 eV 89 lo [] σ) (a1 : Nat) (a2 : Nat) (x3 : Int) (x4 : Int) (x5 : Int) (x6 : Int) (x7 : Int) (h1 : gb_kd a1 = 1) (h2 : gb_kd a2 = 6) {lo : gh_L} (l0 : lo.lookup 0 = some (vr 26)) (l1 : lo.lookup 1 = some (vr a1)) (l2 : lo.lookup 2 = some (vr a2)) (l3 : lo.lookup 3 = some (vi x3)) (l4 : lo.lookup 4 = some (vi x4)) (l5 : lo.lookup 5 = some (vi x5)) (l6 : lo.lookup 6 = some (vi x6)) (l7 : lo.lookup 7 = some (vi x7)) {σ : gb_S} : gb_G (fx_10_121 k89 a1 a2 x3 x4 x5 x6 x7 σ) 2 0 none (fun _ _ => none) gk_10 c0 eV 121 lo [] σ := by
  rw [fx_10_121]
  refine gg_il 123 5 rfl rfl l5 ?_
  refine gg_q (fun q1 => ?_)
  refine gg_zeq 166 126 rfl rfl rfl rfl q1 ?_ ?_
  · refine gg_inc 169 rfl rfl l7 ?_
    refine gg_go 89 rfl rfl rfl ?_
    exact hk89 a1 a2 x3 x4 x5 x6 (x7 + 1) h1 h2 (gl1 rfl rfl l0) (gl1 rfl rfl l1) (gl1 rfl rfl l2) (gl1 rfl rfl l3) (gl1 rfl rfl l4) (gl1 rfl rfl l5) (gl1 rfl rfl l6) gs1
  · refine gg_al 127 0 rfl rfl l0 ?_
    refine gg_gi 130 rfl rfl rfl gcl_26 rfl ?_
    refine gg_il 132 7 rfl rfl l7 ?_
    refine gg_cI 135 rfl (gm_123 _ _) (Nat.le_of_ble_eq_true rfl) (gb_ss rfl rfl rfl rfl rfl rfl rfl) rfl (fun _ => rfl) (fun _ => rfl) (fun r2 s3 => ?_)
    refine gg_q (fun q4 => ?_)
    refine gg_zeq 166 138 rfl rfl rfl rfl q4 ?_ ?_
    · refine gg_inc 169 rfl rfl l7 ?_
      refine gg_go 89 rfl rfl rfl ?_
      exact hk89 a1 a2 x3 x4 x5 x6 (x7 + 1) h1 h2 (gl1 rfl rfl l0) (gl1 rfl rfl l1) (gl1 rfl rfl l2) (gl1 rfl rfl l3) (gl1 rfl rfl l4) (gl1 rfl rfl l5) (gl1 rfl rfl l6) gs1
    · refine gg_al 139 2 rfl rfl l2 ?_
      refine gg_il 141 7 rfl rfl l7 ?_
      refine gg_al 142 0 rfl rfl l0 ?_
      refine gg_gr 145 27 rfl rfl rfl gcl_26 rfl ?_
      refine gg_il 147 7 rfl rfl l7 ?_
      refine gg_cLo 150 rfl (gm_71 _ _ (rfl : gb_kd 27 = 6)) (Nat.le_of_ble_eq_true rfl) (gb_vs rfl rfl rfl rfl rfl gcl_27 rfl rfl rfl) rfl (fun _ => rfl) (fun _ => rfl) (fun r5 s6 => ?_)
      refine gg_al 151 0 rfl rfl l0 ?_
      refine gg_gr 154 27 rfl rfl rfl gcl_26 rfl ?_
      refine gg_il 156 7 rfl rfl l7 ?_
      refine gg_cLo 159 rfl (gm_72 _ _ (rfl : gb_kd 27 = 6)) (Nat.le_of_ble_eq_true rfl) (gb_vs rfl rfl rfl rfl rfl gcl_27 rfl rfl rfl) rfl (fun _ => rfl) (fun _ => rfl) (fun r7 s8 => ?_)
      refine gg_il 161 6 rfl rfl l6 ?_
      refine gg_q (fun q9 => ?_)
      refine gg_i2l 162 rfl rfl q9 ?_
      refine gg_lmul 163 rfl rfl ?_
      refine gg_cV 166 rfl (gm_73 _ _ _ _ h2) (Nat.le_of_ble_eq_true rfl) (gb_vs rfl rfl rfl rfl rfl (gsh0 h2) rfl rfl rfl) rfl (fun _ => rfl) (fun _ => rfl) (fun s11 => ?_)
      refine gg_inc 169 rfl rfl l7 ?_
      refine gg_go 89 rfl rfl rfl ?_
      exact hk89 a1 a2 x3 x4 x5 x6 (x7 + 1) h1 h2 (gl1 rfl rfl l0) (gl1 rfl rfl l1) (gl1 rfl rfl l2) (gl1 rfl rfl l3) (gl1 rfl rfl l4) (gl1 rfl rfl l5) (gl1 rfl rfl l6) gs1
theorem gt_10_89 (k : Nat) : ∀ (a1 : Nat) (a2 : Nat) (x3 : Int) (x4 : Int) (x5 : Int) (x6 : Int) (x7 : Int) (h1 : gb_kd a1 = 1) (h2 : gb_kd a2 = 6) {lo : gh_L} (l0 : lo.lookup 0 = some (vr 26)) (l1 : lo.lookup 1 = some (vr a1)) (l2 : lo.lookup 2 = some (vr a2)) (l3 : lo.lookup 3 = some (vi x3)) (l4 : lo.lookup 4 = some (vi x4)) (l5 : lo.lookup 5 = some (vi x5)) (l6 : lo.lookup 6 = some (vi x6)) (l7 : lo.lookup 7 = some (vi x7)) {σ : gb_S}, gb_G (fx_10_89 k a1 a2 x3 x4 x5 x6 x7 σ) 2 0 none (fun _ _ => none) gk_10 c0 eV 89 lo [] σ := by
  induction k with
  | zero => intros; exact gg_n
  | succ k ih =>
    intro a1 a2 x3 x4 x5 x6 x7 h1 h2 lo l0 l1 l2 l3 l4 l5 l6 l7 σ
    rw [fx_10_89]
    refine gg_il 91 7 rfl rfl l7 ?_
    refine gg_ci 93 14 rfl rfl ?_
    refine gg_q (fun q1 => ?_)
    refine gg_ige 172 96 rfl rfl rfl rfl q1 (gRl rfl) ?_ ?_
    · exact gg_vr rfl
    · refine gg_il 98 4 rfl rfl l4 ?_
      refine gg_q (fun q2 => ?_)
      refine gg_zeq 121 101 rfl rfl rfl rfl q2 ?_ ?_
      · exact gt_10_121 ih a1 a2 x3 x4 x5 x6 x7 h1 h2 l0 l1 l2 l3 l4 l5 l6 l7
      · refine gg_al 102 2 rfl rfl l2 ?_
        refine gg_il 104 7 rfl rfl l7 ?_
        refine gg_al 105 0 rfl rfl l0 ?_
        refine gg_al 106 1 rfl rfl l1 ?_
        refine gg_il 108 7 rfl rfl l7 ?_
        refine gg_cI 111 rfl (gm_11 _ _ h1) (Nat.le_of_ble_eq_true rfl) (gb_vs rfl rfl rfl rfl rfl gcl_26 rfl rfl rfl) rfl (fun _ => rfl) (fun _ => rfl) (fun r3 s4 => ?_)
        refine gg_q (fun q5 => ?_)
        refine gg_i2l 112 rfl rfl q5 ?_
        refine gg_il 113 3 rfl rfl l3 ?_
        refine gg_q (fun q6 => ?_)
        refine gg_i2l 114 rfl rfl q6 ?_
        refine gg_il 116 6 rfl rfl l6 ?_
        refine gg_q (fun q7 => ?_)
        refine gg_i2l 117 rfl rfl q7 ?_
        refine gg_lmul 118 rfl rfl ?_
        refine gg_cV 121 rfl (gm_73 _ _ _ _ h2) (Nat.le_of_ble_eq_true rfl) (gb_vs rfl rfl rfl rfl rfl (gsh0 h2) rfl rfl rfl) rfl (fun _ => rfl) (fun _ => rfl) (fun s9 => ?_)
        exact gt_10_121 ih a1 a2 x3 x4 x5 x6 x7 h1 h2 l0 l1 l2 l3 l4 l5 l6 l7
theorem gt_10_63 (a1 : Nat) (a2 : Nat) (x3 : Int) (x4 : Int) (y0 : Int) (h1 : gb_kd a1 = 1) (h2 : gb_kd a2 = 6) {lo : gh_L} (l0 : lo.lookup 0 = some (vr 26)) (l1 : lo.lookup 1 = some (vr a1)) (l2 : lo.lookup 2 = some (vr a2)) (l3 : lo.lookup 3 = some (vi x3)) (l4 : lo.lookup 4 = some (vi x4)) {σ : gb_S} : gb_G (fx_10_63 a1 a2 x3 x4 y0 σ) 2 0 none (fun _ _ => none) gk_10 c0 eV 63 lo [vi y0] σ := by
  rw [fx_10_63]
  refine gg_s 65 rfl rfl ?_
  refine gg_il 67 4 rfl rfl (gl1 rfl rfl l4) ?_
  refine gg_q (fun q1 => ?_)
  refine gg_zeq 79 70 rfl rfl rfl rfl q1 ?_ ?_
  · refine gg_ci 80 1 rfl rfl ?_
    refine gg_s 82 rfl rfl ?_
    refine gg_al 83 2 rfl rfl (gl1 rfl rfl (gl1 rfl rfl l2)) ?_
    refine gg_cV 86 rfl (gm_69 _ h2) (Nat.le_of_ble_eq_true rfl) (gb_vs rfl rfl rfl rfl rfl (gsh0 h2) rfl rfl rfl) rfl (fun _ => rfl) (fun _ => rfl) (fun s3 => ?_)
    refine gg_ci 87 0 rfl rfl ?_
    refine gg_s 89 rfl rfl ?_
    exact gt_10_89 gFU a1 a2 x3 x4 y0 1 0 h1 h2 (gl1 rfl rfl (gl1 rfl rfl (gl1 rfl rfl l0))) (gl1 rfl rfl (gl1 rfl rfl (gl1 rfl rfl l1))) (gl1 rfl rfl (gl1 rfl rfl (gl1 rfl rfl l2))) (gl1 rfl rfl (gl1 rfl rfl (gl1 rfl rfl l3))) (gl1 rfl rfl (gl1 rfl rfl (gl1 rfl rfl l4))) (gl1 rfl rfl (gl1 rfl rfl gs1)) (gl1 rfl rfl gs1) gs1
  · refine gg_il 72 5 rfl rfl gs1 ?_
    refine gg_q (fun q4 => ?_)
    refine gg_zeq 79 75 rfl rfl rfl rfl q4 ?_ ?_
    · refine gg_ci 80 1 rfl rfl ?_
      refine gg_s 82 rfl rfl ?_
      refine gg_al 83 2 rfl rfl (gl1 rfl rfl (gl1 rfl rfl l2)) ?_
      refine gg_cV 86 rfl (gm_69 _ h2) (Nat.le_of_ble_eq_true rfl) (gb_vs rfl rfl rfl rfl rfl (gsh0 h2) rfl rfl rfl) rfl (fun _ => rfl) (fun _ => rfl) (fun s6 => ?_)
      refine gg_ci 87 0 rfl rfl ?_
      refine gg_s 89 rfl rfl ?_
      exact gt_10_89 gFU a1 a2 x3 x4 y0 1 0 h1 h2 (gl1 rfl rfl (gl1 rfl rfl (gl1 rfl rfl l0))) (gl1 rfl rfl (gl1 rfl rfl (gl1 rfl rfl l1))) (gl1 rfl rfl (gl1 rfl rfl (gl1 rfl rfl l2))) (gl1 rfl rfl (gl1 rfl rfl (gl1 rfl rfl l3))) (gl1 rfl rfl (gl1 rfl rfl (gl1 rfl rfl l4))) (gl1 rfl rfl (gl1 rfl rfl gs1)) (gl1 rfl rfl gs1) gs1
    · refine gg_ci 76 2 rfl rfl ?_
      refine gg_go 80 rfl rfl rfl ?_
      refine gg_s 82 rfl rfl ?_
      refine gg_al 83 2 rfl rfl (gl1 rfl rfl (gl1 rfl rfl l2)) ?_
      refine gg_cV 86 rfl (gm_69 _ h2) (Nat.le_of_ble_eq_true rfl) (gb_vs rfl rfl rfl rfl rfl (gsh0 h2) rfl rfl rfl) rfl (fun _ => rfl) (fun _ => rfl) (fun s8 => ?_)
      refine gg_ci 87 0 rfl rfl ?_
      refine gg_s 89 rfl rfl ?_
      exact gt_10_89 gFU a1 a2 x3 x4 y0 2 0 h1 h2 (gl1 rfl rfl (gl1 rfl rfl (gl1 rfl rfl l0))) (gl1 rfl rfl (gl1 rfl rfl (gl1 rfl rfl l1))) (gl1 rfl rfl (gl1 rfl rfl (gl1 rfl rfl l2))) (gl1 rfl rfl (gl1 rfl rfl (gl1 rfl rfl l3))) (gl1 rfl rfl (gl1 rfl rfl (gl1 rfl rfl l4))) (gl1 rfl rfl (gl1 rfl rfl gs1)) (gl1 rfl rfl gs1) gs1
theorem gt_10_37 (a1 : Nat) (a2 : Nat) (x3 : Int) (y0 : Int) (h1 : gb_kd a1 = 1) (h2 : gb_kd a2 = 6) {lo : gh_L} (l0 : lo.lookup 0 = some (vr 26)) (l1 : lo.lookup 1 = some (vr a1)) (l2 : lo.lookup 2 = some (vr a2)) (l3 : lo.lookup 3 = some (vi x3)) {σ : gb_S} : gb_G (fx_10_37 a1 a2 x3 y0 σ) 2 0 none (fun _ _ => none) gk_10 c0 eV 37 lo [vi y0] σ := by
  rw [fx_10_37]
  refine gg_s 39 rfl rfl ?_
  refine gg_il 41 4 rfl rfl gs1 ?_
  refine gg_q (fun q1 => ?_)
  refine gg_zeq 58 44 rfl rfl rfl rfl q1 ?_ ?_
  · refine gg_ci 59 1 rfl rfl ?_
    refine gg_go 63 rfl rfl rfl ?_
    exact gt_10_63 a1 a2 x3 y0 1 h1 h2 (gl1 rfl rfl l0) (gl1 rfl rfl l1) (gl1 rfl rfl l2) (gl1 rfl rfl l3) gs1
  · refine gg_al 45 0 rfl rfl (gl1 rfl rfl l0) ?_
    refine gg_gi 48 rfl rfl rfl gcl_26 rfl ?_
    refine gg_al 49 1 rfl rfl (gl1 rfl rfl l1) ?_
    refine gg_gi 52 rfl rfl rfl (ges0 h1) rfl ?_
    refine gg_cI 55 rfl (gm_123 _ _) (Nat.le_of_ble_eq_true rfl) (gb_ss rfl rfl rfl rfl rfl rfl rfl) rfl (fun _ => rfl) (fun _ => rfl) (fun r2 s3 => ?_)
    refine gg_q (fun q4 => ?_)
    refine gg_zeq 62 58 rfl rfl rfl rfl q4 ?_ ?_
    · refine gg_ci 63 0 rfl rfl ?_
      exact gt_10_63 a1 a2 x3 y0 0 h1 h2 (gl1 rfl rfl l0) (gl1 rfl rfl l1) (gl1 rfl rfl l2) (gl1 rfl rfl l3) gs1
    · refine gg_ci 59 1 rfl rfl ?_
      refine gg_go 63 rfl rfl rfl ?_
      exact gt_10_63 a1 a2 x3 y0 1 h1 h2 (gl1 rfl rfl l0) (gl1 rfl rfl l1) (gl1 rfl rfl l2) (gl1 rfl rfl l3) gs1
theorem gt_10_5 (k : Nat) : ∀ (a1 : Nat) (a2 : Nat) (x3 : Int) (x4 : Int) (h1 : gb_kd a1 = 1) (h2 : gb_kd a2 = 6) {lo : gh_L} (l0 : lo.lookup 0 = some (vr 26)) (l1 : lo.lookup 1 = some (vr a1)) (l2 : lo.lookup 2 = some (vr a2)) (l3 : lo.lookup 3 = some (vi x3)) (l4 : lo.lookup 4 = some (vi x4)) {σ : gb_S}, gb_G (fx_10_5 k a1 a2 x3 x4 σ) 2 0 none (fun _ _ => none) gk_10 c0 eV 5 lo [] σ := by
  induction k with
  | zero => intros; exact gg_n
  | succ k ih =>
    intro a1 a2 x3 x4 h1 h2 lo l0 l1 l2 l3 l4 σ
    rw [fx_10_5]
    refine gg_il 7 4 rfl rfl l4 ?_
    refine gg_ci 9 14 rfl rfl ?_
    refine gg_q (fun q1 => ?_)
    refine gg_ige 28 12 rfl rfl rfl rfl q1 (gRl rfl) ?_ ?_
    · refine gg_il 29 3 rfl rfl l3 ?_
      refine gg_q (fun q2 => ?_)
      refine gg_zle 36 32 rfl rfl rfl rfl q2 ?_ ?_
      · refine gg_ci 37 0 rfl rfl ?_
        exact gt_10_37 a1 a2 x3 0 h1 h2 l0 l1 l2 l3
      · refine gg_ci 33 1 rfl rfl ?_
        refine gg_go 37 rfl rfl rfl ?_
        exact gt_10_37 a1 a2 x3 1 h1 h2 l0 l1 l2 l3
    · refine gg_il 13 3 rfl rfl l3 ?_
      refine gg_al 14 0 rfl rfl l0 ?_
      refine gg_al 15 1 rfl rfl l1 ?_
      refine gg_il 17 4 rfl rfl l4 ?_
      refine gg_cI 20 rfl (gm_11 _ _ h1) (Nat.le_of_ble_eq_true rfl) (gb_vs rfl rfl rfl rfl rfl gcl_26 rfl rfl rfl) rfl (fun _ => rfl) (fun _ => rfl) (fun r3 s4 => ?_)
      refine gg_add 21 rfl rfl ?_
      refine gg_s 22 rfl rfl ?_
      refine gg_inc 25 rfl rfl (gl1 rfl rfl l4) ?_
      refine gg_go 5 rfl rfl rfl ?_
      exact ih a1 a2 (x3 + r3) (x4 + 1) h1 h2 (gl1 rfl rfl (gl1 rfl rfl l0)) (gl1 rfl rfl (gl1 rfl rfl l1)) (gl1 rfl rfl (gl1 rfl rfl l2)) (gl1 rfl rfl gs1) gs1
theorem gm_10 (a1 : Nat) (a2 : Nat) (h1 : gb_kd a1 = 1) (h2 : gb_kd a2 = 6) {σ : gb_S} : gb_M (fx_10 a1 a2 σ) 3 c0 eV 10 [vr 26, vr a1, vr a2] σ := by
  rw [fx_10]
  refine gg_m (own := 0) (rt := none) (hnd := fun _ _ => none) (K := gk_10) (δ := 2) rfl rfl ?_
  refine gg_ci 1 0 rfl rfl ?_
  refine gg_s 2 rfl rfl ?_
  refine gg_ci 3 0 rfl rfl ?_
  refine gg_s 5 rfl rfl ?_
  exact gt_10_5 gFU a1 a2 0 0 h1 h2 (gl1 rfl rfl (gl1 rfl rfl rfl)) (gl1 rfl rfl (gl1 rfl rfl rfl)) (gl1 rfl rfl (gl1 rfl rfl rfl)) (gl1 rfl rfl gs1) gs1
end GF0
