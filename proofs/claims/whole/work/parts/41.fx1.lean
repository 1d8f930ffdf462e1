section GF1
variable {c0 : gh_C}
def fx_1_39 (k : Nat) (a2 : Nat) (a3 : Nat) (a4 : Nat) (x5 : Int) (σ : gb_S) : Option gb_P := match k with
  | 0 => none
  | k + 1 =>
    gq (gR x5) (
    gq (gR (σ 2 3)) (
    (if x5 < (σ 2 3) then
      gc (fx_28 x5 σ) (fun r5 s6 =>
      gc (fx_123 (s6 26 1) r5 s6) (fun r7 s8 =>
      gq (gR r7) (
      (if r7 = 0 then
        gc (fx_71 27 r5 s8) (fun r10 s11 =>
        gq (gRL r10) (
        (if 0 < r10 then
          gc (fx_2 r5 a2 s11) (fun _ s14 =>
          fx_1_39 k a2 a3 a4 (x5 + 1) s14)
        else
          fx_1_39 k a2 a3 a4 (x5 + 1) s11)))
      else
        fx_1_39 k a2 a3 a4 (x5 + 1) s8))))
    else
      gc (fx_10 a3 a4 σ) (fun _ s4 =>
      some (.inl 0, s4)))))
def fx_1_17 (k : Nat) (a2 : Nat) (a3 : Nat) (a4 : Nat) (x5 : Int) (σ : gb_S) : Option gb_P := match k with
  | 0 => none
  | k + 1 =>
    gq (gR x5) (
    (if x5 < 14 then
      gc (fx_6 x5 σ) (fun _ s3 =>
      fx_1_17 k a2 a3 a4 (x5 + 1) s3)
    else
      fx_1_39 gFU a2 a3 a4 0 σ))
/-- Treeclerk$Court.shareFromHeads -/
def fx_1 (a2 : Nat) (a3 : Nat) (a4 : Nat) (σ : gb_S) : Option gb_P :=
  gc (fx_7 a2 a3 σ) (fun _ s2 =>
  gc (fx_69 27 s2) (fun _ s4 =>
  fx_1_17 gFU a2 a3 a4 0 s4))
theorem gt_1_39 (k : Nat) : ∀ (a2 : Nat) (a3 : Nat) (a4 : Nat) (x5 : Int) (h2 : gb_kd a2 = 3) (h3 : gb_kd a3 = 1) (h4 : gb_kd a4 = 6) {lo : gh_L} (l0 : lo.lookup 0 = some (vr 26)) (l1 : lo.lookup 1 = some (vr 2)) (l2 : lo.lookup 2 = some (vr a2)) (l3 : lo.lookup 3 = some (vr a3)) (l4 : lo.lookup 4 = some (vr a4)) (l5 : lo.lookup 5 = some (vi x5)) {σ : gb_S}, gb_G (fx_1_39 k a2 a3 a4 x5 σ) 4 0 none (fun _ _ => none) gk_1 c0 eV 39 lo [] σ := by
  induction k with
  | zero => intros; exact gg_n
  | succ k ih =>
    intro a2 a3 a4 x5 h2 h3 h4 lo l0 l1 l2 l3 l4 l5 σ
    rw [fx_1_39]
    refine gg_il 41 5 rfl rfl l5 ?_
    refine gg_al 42 1 rfl rfl l1 ?_
    refine gg_gi 45 rfl rfl rfl gcl_2 rfl ?_
    refine gg_q (fun q1 => ?_)
    refine gg_q (fun q2 => ?_)
    refine gg_ige 95 48 rfl rfl rfl rfl q1 q2 ?_ ?_
    · refine gg_al 96 0 rfl rfl l0 ?_
      refine gg_al 97 3 rfl rfl l3 ?_
      refine gg_al 99 4 rfl rfl l4 ?_
      refine gg_cV 102 rfl (gm_10 _ _ h3 h4) (Nat.le_of_ble_eq_true rfl) (gb_vs rfl rfl rfl rfl rfl gcl_26 rfl rfl rfl) rfl (fun _ => rfl) (fun _ => rfl) (fun s4 => ?_)
      exact gg_vr rfl
    · refine gg_al 49 1 rfl rfl l1 ?_
      refine gg_il 51 5 rfl rfl l5 ?_
      refine gg_cI 54 rfl (gm_28 _) (Nat.le_of_ble_eq_true rfl) (gb_vs rfl rfl rfl rfl rfl gcl_2 rfl rfl rfl) rfl (fun _ => rfl) (fun _ => rfl) (fun r5 s6 => ?_)
      refine gg_s 56 rfl rfl ?_
      refine gg_al 57 0 rfl rfl (gl1 rfl rfl l0) ?_
      refine gg_gi 60 rfl rfl rfl gcl_26 rfl ?_
      refine gg_il 62 6 rfl rfl gs1 ?_
      refine gg_cI 65 rfl (gm_123 _ _) (Nat.le_of_ble_eq_true rfl) (gb_ss rfl rfl rfl rfl rfl rfl rfl) rfl (fun _ => rfl) (fun _ => rfl) (fun r7 s8 => ?_)
      refine gg_q (fun q9 => ?_)
      refine gg_zne 89 68 rfl rfl rfl rfl q9 ?_ ?_
      · refine gg_inc 92 rfl rfl (gl1 rfl rfl l5) ?_
        refine gg_go 39 rfl rfl rfl ?_
        exact ih a2 a3 a4 (x5 + 1) h2 h3 h4 (gl1 rfl rfl (gl1 rfl rfl l0)) (gl1 rfl rfl (gl1 rfl rfl l1)) (gl1 rfl rfl (gl1 rfl rfl l2)) (gl1 rfl rfl (gl1 rfl rfl l3)) (gl1 rfl rfl (gl1 rfl rfl l4)) gs1
      · refine gg_al 69 0 rfl rfl (gl1 rfl rfl l0) ?_
        refine gg_gr 72 27 rfl rfl rfl gcl_26 rfl ?_
        refine gg_il 74 6 rfl rfl gs1 ?_
        refine gg_cLo 77 rfl (gm_71 _ _ (rfl : gb_kd 27 = 6)) (Nat.le_of_ble_eq_true rfl) (gb_vs rfl rfl rfl rfl rfl gcl_27 rfl rfl rfl) rfl (fun _ => rfl) (fun _ => rfl) (fun r10 s11 => ?_)
        refine gg_cl 78 0 rfl rfl ?_
        refine gg_q (fun q12 => ?_)
        refine gg_Lle 89 82 rfl rfl rfl rfl rfl q12 ⟨by decide, by decide⟩ ?_ ?_
        · refine gg_inc 92 rfl rfl (gl1 rfl rfl l5) ?_
          refine gg_go 39 rfl rfl rfl ?_
          exact ih a2 a3 a4 (x5 + 1) h2 h3 h4 (gl1 rfl rfl (gl1 rfl rfl l0)) (gl1 rfl rfl (gl1 rfl rfl l1)) (gl1 rfl rfl (gl1 rfl rfl l2)) (gl1 rfl rfl (gl1 rfl rfl l3)) (gl1 rfl rfl (gl1 rfl rfl l4)) gs1
        · refine gg_al 83 0 rfl rfl (gl1 rfl rfl l0) ?_
          refine gg_il 85 6 rfl rfl gs1 ?_
          refine gg_al 86 2 rfl rfl (gl1 rfl rfl l2) ?_
          refine gg_cV 89 rfl (gm_2 _ _ h2) (Nat.le_of_ble_eq_true rfl) (gb_vs rfl rfl rfl rfl rfl gcl_26 rfl rfl rfl) rfl (fun _ => rfl) (fun _ => rfl) (fun s14 => ?_)
          refine gg_inc 92 rfl rfl (gl1 rfl rfl l5) ?_
          refine gg_go 39 rfl rfl rfl ?_
          exact ih a2 a3 a4 (x5 + 1) h2 h3 h4 (gl1 rfl rfl (gl1 rfl rfl l0)) (gl1 rfl rfl (gl1 rfl rfl l1)) (gl1 rfl rfl (gl1 rfl rfl l2)) (gl1 rfl rfl (gl1 rfl rfl l3)) (gl1 rfl rfl (gl1 rfl rfl l4)) gs1
theorem gt_1_17 (k : Nat) : ∀ (a2 : Nat) (a3 : Nat) (a4 : Nat) (x5 : Int) (h2 : gb_kd a2 = 3) (h3 : gb_kd a3 = 1) (h4 : gb_kd a4 = 6) {lo : gh_L} (l0 : lo.lookup 0 = some (vr 26)) (l1 : lo.lookup 1 = some (vr 2)) (l2 : lo.lookup 2 = some (vr a2)) (l3 : lo.lookup 3 = some (vr a3)) (l4 : lo.lookup 4 = some (vr a4)) (l5 : lo.lookup 5 = some (vi x5)) {σ : gb_S}, gb_G (fx_1_17 k a2 a3 a4 x5 σ) 4 0 none (fun _ _ => none) gk_1 c0 eV 17 lo [] σ := by
  induction k with
  | zero => intros; exact gg_n
  | succ k ih =>
    intro a2 a3 a4 x5 h2 h3 h4 lo l0 l1 l2 l3 l4 l5 σ
    rw [fx_1_17]
    refine gg_il 19 5 rfl rfl l5 ?_
    refine gg_ci 21 14 rfl rfl ?_
    refine gg_q (fun q1 => ?_)
    refine gg_ige 36 24 rfl rfl rfl rfl q1 (gRl rfl) ?_ ?_
    · refine gg_ci 37 0 rfl rfl ?_
      refine gg_s 39 rfl rfl ?_
      exact gt_1_39 gFU a2 a3 a4 0 h2 h3 h4 (gl1 rfl rfl l0) (gl1 rfl rfl l1) (gl1 rfl rfl l2) (gl1 rfl rfl l3) (gl1 rfl rfl l4) gs1
    · refine gg_al 25 0 rfl rfl l0 ?_
      refine gg_il 27 5 rfl rfl l5 ?_
      refine gg_cV 30 rfl (gm_6 _) (Nat.le_of_ble_eq_true rfl) (gb_vs rfl rfl rfl rfl rfl gcl_26 rfl rfl rfl) rfl (fun _ => rfl) (fun _ => rfl) (fun s3 => ?_)
      refine gg_inc 33 rfl rfl l5 ?_
      refine gg_go 17 rfl rfl rfl ?_
      exact ih a2 a3 a4 (x5 + 1) h2 h3 h4 (gl1 rfl rfl l0) (gl1 rfl rfl l1) (gl1 rfl rfl l2) (gl1 rfl rfl l3) (gl1 rfl rfl l4) gs1
theorem gm_1 (a2 : Nat) (a3 : Nat) (a4 : Nat) (h2 : gb_kd a2 = 3) (h3 : gb_kd a3 = 1) (h4 : gb_kd a4 = 6) {σ : gb_S} : gb_M (fx_1 a2 a3 a4 σ) 5 c0 eV 1 [vr 26, vr 2, vr a2, vr a3, vr a4] σ := by
  rw [fx_1]
  refine gg_m (own := 0) (rt := none) (hnd := fun _ _ => none) (K := gk_1) (δ := 4) rfl rfl ?_
  refine gg_al 1 0 rfl rfl rfl ?_
  refine gg_al 2 1 rfl rfl rfl ?_
  refine gg_al 3 2 rfl rfl rfl ?_
  refine gg_al 4 3 rfl rfl rfl ?_
  refine gg_cV 7 rfl (gm_7 _ _ h2 h3) (Nat.le_of_ble_eq_true rfl) (gb_vs rfl rfl rfl rfl rfl gcl_26 rfl rfl rfl) rfl (fun _ => rfl) (fun _ => rfl) (fun s2 => ?_)
  refine gg_al 8 0 rfl rfl rfl ?_
  refine gg_gr 11 27 rfl rfl rfl gcl_26 rfl ?_
  refine gg_cV 14 rfl (gm_69 _ (rfl : gb_kd 27 = 6)) (Nat.le_of_ble_eq_true rfl) (gb_vs rfl rfl rfl rfl rfl gcl_27 rfl rfl rfl) rfl (fun _ => rfl) (fun _ => rfl) (fun s4 => ?_)
  refine gg_ci 15 0 rfl rfl ?_
  refine gg_s 17 rfl rfl ?_
  exact gt_1_17 gFU a2 a3 a4 0 h2 h3 h4 (gl1 rfl rfl rfl) (gl1 rfl rfl rfl) (gl1 rfl rfl rfl) (gl1 rfl rfl rfl) (gl1 rfl rfl rfl) gs1
/-- Treeclerk$Court.addPartOf -/
def fx_5 (rec : Int → Nat → Int → gb_S → Option gb_P) (x1 : Int) (x2 : Int) (a3 : Nat) (x4 : Int) (σ : gb_S) : Option gb_P :=
  gq (gR x1) (
  (if x1 = (-1) then
    some (.inl 0, σ)
  else
    gc (fx_123 (σ 26 1) x1 σ) (fun r2 s3 =>
    gq (gR r2) (
    (if r2 = 0 then
      gc (rec x1 a3 (x4 + 1) s3) (fun _ s6 =>
      gc (fx_32 a3 x1 s6) (fun r7 s8 =>
      gc (fx_193 (gb_and r7 (s8 26 2)) s8) (fun r9 s10 =>
      gc (fx_71 27 x1 s10) (fun r11 s12 =>
      gc (fx_72 27 x1 s12) (fun r13 s14 =>
      gq (gR r9) (
      gc (fx_73 27 x2 r11 (r13 * r9) s14) (fun _ s17 =>
      some (.inl 0, s17))))))))
    else
      some (.inl 0, s3))))))
theorem gm_5 {d : Nat} {rec : Int → Nat → Int → gb_S → Option gb_P} (hd20 : 20 ≤ d) (hrec : ∀ (x1 : Int) (a2 : Nat) (x3 : Int) (h2 : gb_kd a2 = 3) {σ : gb_S}, gb_M (rec x1 a2 x3 σ) d c0 eV 4 [vr 26, vi x1, vr a2, vi x3] σ) (x1 : Int) (x2 : Int) (a3 : Nat) (x4 : Int) (h3 : gb_kd a3 = 3) {σ : gb_S} : gb_M (fx_5 rec x1 x2 a3 x4 σ) (d + 1) c0 eV 5 [vr 26, vi x1, vi x2, vr a3, vi x4] σ := by
  rw [fx_5]
  refine gg_m (own := 0) (rt := none) (hnd := fun _ _ => none) (K := gk_5) (δ := d) rfl rfl ?_
  refine gg_il 1 1 rfl rfl rfl ?_
  refine gg_ci 2 (-1) rfl rfl ?_
  refine gg_q (fun q1 => ?_)
  refine gg_ieq 16 5 rfl rfl rfl rfl q1 (gRl rfl) ?_ ?_
  · exact gg_vr rfl
  · refine gg_al 6 0 rfl rfl rfl ?_
    refine gg_gi 9 rfl rfl rfl gcl_26 rfl ?_
    refine gg_il 10 1 rfl rfl rfl ?_
    refine gg_cI 13 rfl (gm_123 _ _) (by omega) (gb_ss rfl rfl rfl rfl rfl rfl rfl) rfl (fun _ => rfl) (fun _ => rfl) (fun r2 s3 => ?_)
    refine gg_q (fun q4 => ?_)
    refine gg_zeq 17 16 rfl rfl rfl rfl q4 ?_ ?_
    · refine gg_al 18 0 rfl rfl rfl ?_
      refine gg_il 19 1 rfl rfl rfl ?_
      refine gg_al 20 3 rfl rfl rfl ?_
      refine gg_il 22 4 rfl rfl rfl ?_
      refine gg_ci 23 1 rfl rfl ?_
      refine gg_add 24 rfl rfl ?_
      refine gg_cV 27 rfl (hrec _ _ _ h3) (by omega) (gb_vs rfl rfl rfl rfl rfl gcl_26 rfl rfl rfl) rfl (fun _ => rfl) (fun _ => rfl) (fun s6 => ?_)
      refine gg_al 28 3 rfl rfl rfl ?_
      refine gg_il 29 1 rfl rfl rfl ?_
      refine gg_cI 32 rfl (gm_32 _ _ h3) (by omega) (gb_vs rfl rfl rfl rfl rfl (gkin0 h3) rfl rfl rfl) rfl (fun _ => rfl) (fun _ => rfl) (fun r7 s8 => ?_)
      refine gg_al 33 0 rfl rfl rfl ?_
      refine gg_gi 36 rfl rfl rfl gcl_26 rfl ?_
      refine gg_and 37 rfl rfl ?_
      refine gg_cI 40 rfl (gm_193 _) (by omega) (gb_ss rfl rfl rfl rfl rfl rfl rfl) rfl (fun _ => rfl) (fun _ => rfl) (fun r9 s10 => ?_)
      refine gg_s 42 rfl rfl ?_
      refine gg_al 43 0 rfl rfl (gl1 rfl rfl rfl) ?_
      refine gg_gr 46 27 rfl rfl rfl gcl_26 rfl ?_
      refine gg_il 47 2 rfl rfl (gl1 rfl rfl rfl) ?_
      refine gg_al 48 0 rfl rfl (gl1 rfl rfl rfl) ?_
      refine gg_gr 51 27 rfl rfl rfl gcl_26 rfl ?_
      refine gg_il 52 1 rfl rfl (gl1 rfl rfl rfl) ?_
      refine gg_cLo 55 rfl (gm_71 _ _ (rfl : gb_kd 27 = 6)) (by omega) (gb_vs rfl rfl rfl rfl rfl gcl_27 rfl rfl rfl) rfl (fun _ => rfl) (fun _ => rfl) (fun r11 s12 => ?_)
      refine gg_al 56 0 rfl rfl (gl1 rfl rfl rfl) ?_
      refine gg_gr 59 27 rfl rfl rfl gcl_26 rfl ?_
      refine gg_il 60 1 rfl rfl (gl1 rfl rfl rfl) ?_
      refine gg_cLo 63 rfl (gm_72 _ _ (rfl : gb_kd 27 = 6)) (by omega) (gb_vs rfl rfl rfl rfl rfl gcl_27 rfl rfl rfl) rfl (fun _ => rfl) (fun _ => rfl) (fun r13 s14 => ?_)
      refine gg_il 65 5 rfl rfl gs1 ?_
      refine gg_q (fun q15 => ?_)
      refine gg_i2l 66 rfl rfl q15 ?_
      refine gg_lmul 67 rfl rfl ?_
      refine gg_cV 70 rfl (gm_73 _ _ _ _ (rfl : gb_kd 27 = 6)) (by omega) (gb_vs rfl rfl rfl rfl rfl gcl_27 rfl rfl rfl) rfl (fun _ => rfl) (fun _ => rfl) (fun s17 => ?_)
      exact gg_vr rfl
    · exact gg_vr rfl
/-- Treeclerk$Court.findComing -/
def fx_4 (k : Nat) (x1 : Int) (a2 : Nat) (x3 : Int) (σ : gb_S) : Option gb_P := match k with
  | 0 => none
  | k + 1 =>
    gq (gR x3) (
    (if x3 < 14 then
      gc (fx_123 (σ 26 4) x1 σ) (fun r2 s3 =>
      gq (gR r2) (
      (if r2 = 0 then
        gc (fx_123 (s3 26 2) x1 s3) (fun r5 s6 =>
        gq (gR r5) (
        (if r5 = 0 then
          some (.inl 0, s6)
        else
          gc (fx_6 x1 (gb_up s6 26 4 (gb_or (s6 26 4) (gb_shl 1 x1)))) (fun _ s9 =>
          gc (fx_30 a2 x1 s9) (fun r10 s11 =>
          gc (fx_5 (fx_4 k) r10 x1 a2 x3 s11) (fun _ s13 =>
          gc (fx_31 a2 x1 s13) (fun r14 s15 =>
          gc (fx_5 (fx_4 k) r14 x1 a2 x3 s15) (fun _ s17 =>
          some (.inl 0, s17)))))))))
      else
        some (.inl 0, s3))))
    else
      some (.inl 0, σ)))
theorem gm_4 (k : Nat) : ∀ (x1 : Int) (a2 : Nat) (x3 : Int) (h2 : gb_kd a2 = 3) {σ : gb_S}, gb_M (fx_4 k x1 a2 x3 σ) (2 * k + 20) c0 eV 4 [vr 26, vi x1, vr a2, vi x3] σ := by
  induction k with
  | zero => intros; intro o σ1 h; cases h
  | succ k gm_4 =>
    intro x1 a2 x3 h2 σ
    rw [fx_4]
    refine gg_m (own := 0) (rt := none) (hnd := fun _ _ => none) (K := gk_4) (δ := (2 * k + 21)) rfl rfl ?_
    refine gg_il 1 3 rfl rfl rfl ?_
    refine gg_ci 3 14 rfl rfl ?_
    refine gg_q (fun q1 => ?_)
    refine gg_ige 28 6 rfl rfl rfl rfl q1 (gRl rfl) ?_ ?_
    · exact gg_vr rfl
    · refine gg_al 7 0 rfl rfl rfl ?_
      refine gg_gi 10 rfl rfl rfl gcl_26 rfl ?_
      refine gg_il 11 1 rfl rfl rfl ?_
      refine gg_cI 14 rfl (gm_123 _ _) (by omega) (gb_ss rfl rfl rfl rfl rfl rfl rfl) rfl (fun _ => rfl) (fun _ => rfl) (fun r2 s3 => ?_)
      refine gg_q (fun q4 => ?_)
      refine gg_zne 28 17 rfl rfl rfl rfl q4 ?_ ?_
      · exact gg_vr rfl
      · refine gg_al 18 0 rfl rfl rfl ?_
        refine gg_gi 21 rfl rfl rfl gcl_26 rfl ?_
        refine gg_il 22 1 rfl rfl rfl ?_
        refine gg_cI 25 rfl (gm_123 _ _) (by omega) (gb_ss rfl rfl rfl rfl rfl rfl rfl) rfl (fun _ => rfl) (fun _ => rfl) (fun r5 s6 => ?_)
        refine gg_q (fun q7 => ?_)
        refine gg_zne 29 28 rfl rfl rfl rfl q7 ?_ ?_
        · refine gg_al 30 0 rfl rfl rfl ?_
          refine gg_s 31 rfl rfl ?_
          refine gg_gi 34 rfl rfl rfl gcl_26 rfl ?_
          refine gg_ci 35 1 rfl rfl ?_
          refine gg_il 36 1 rfl rfl rfl ?_
          refine gg_shl 37 rfl rfl ?_
          refine gg_or 38 rfl rfl ?_
          refine gg_pf 41 rfl rfl rfl gcl_26 rfl ⟨rfl, rfl⟩ ?_
          refine gg_al 42 0 rfl rfl rfl ?_
          refine gg_il 43 1 rfl rfl rfl ?_
          refine gg_cV 46 rfl (gm_6 _) (by omega) (gb_vs rfl rfl rfl rfl rfl gcl_26 rfl rfl rfl) rfl (fun _ => rfl) (fun _ => rfl) (fun s9 => ?_)
          refine gg_al 47 0 rfl rfl rfl ?_
          refine gg_al 48 2 rfl rfl rfl ?_
          refine gg_il 49 1 rfl rfl rfl ?_
          refine gg_cI 52 rfl (gm_30 _ _ h2) (by omega) (gb_vs rfl rfl rfl rfl rfl (gkin0 h2) rfl rfl rfl) rfl (fun _ => rfl) (fun _ => rfl) (fun r10 s11 => ?_)
          refine gg_il 53 1 rfl rfl rfl ?_
          refine gg_al 54 2 rfl rfl rfl ?_
          refine gg_il 55 3 rfl rfl rfl ?_
          refine gg_cV 58 rfl (gm_5 (by omega) gm_4 _ _ _ _ h2) (by omega) (gb_vs rfl rfl rfl rfl rfl gcl_26 rfl rfl rfl) rfl (fun _ => rfl) (fun _ => rfl) (fun s13 => ?_)
          refine gg_al 59 0 rfl rfl rfl ?_
          refine gg_al 60 2 rfl rfl rfl ?_
          refine gg_il 61 1 rfl rfl rfl ?_
          refine gg_cI 64 rfl (gm_31 _ _ h2) (by omega) (gb_vs rfl rfl rfl rfl rfl (gkin0 h2) rfl rfl rfl) rfl (fun _ => rfl) (fun _ => rfl) (fun r14 s15 => ?_)
          refine gg_il 65 1 rfl rfl rfl ?_
          refine gg_al 66 2 rfl rfl rfl ?_
          refine gg_il 67 3 rfl rfl rfl ?_
          refine gg_cV 70 rfl (gm_5 (by omega) gm_4 _ _ _ _ h2) (by omega) (gb_vs rfl rfl rfl rfl rfl gcl_26 rfl rfl rfl) rfl (fun _ => rfl) (fun _ => rfl) (fun s17 => ?_)
          exact gg_vr rfl
        · exact gg_vr rfl
def fx_3_22 (k : Nat) (a2 : Nat) (a3 : Nat) (a4 : Nat) (x5 : Int) (σ : gb_S) : Option gb_P := match k with
  | 0 => none
  | k + 1 =>
    gq (gR x5) (
    gq (gR (σ 2 3)) (
    (if x5 < (σ 2 3) then
      gc (fx_123 (σ 26 1) x5 σ) (fun r5 s6 =>
      gq (gR r5) (
      (if r5 = 0 then
        fx_3_22 k a2 a3 a4 (x5 + 1) s6
      else
        gc (fx_4 20 x5 a2 0 s6) (fun _ s9 =>
        fx_3_22 k a2 a3 a4 (x5 + 1) s9))))
    else
      gc (fx_10 a3 a4 σ) (fun _ s4 =>
      some (.inl 0, s4)))))
/-- Treeclerk$Court.shareFromPersons -/
def fx_3 (a2 : Nat) (a3 : Nat) (a4 : Nat) (σ : gb_S) : Option gb_P :=
  gc (fx_7 a2 a3 σ) (fun _ s2 =>
  gc (fx_69 27 s2) (fun _ s4 =>
  fx_3_22 gFU a2 a3 a4 0 (gb_up s4 26 4 0)))
theorem gt_3_22 (k : Nat) : ∀ (a2 : Nat) (a3 : Nat) (a4 : Nat) (x5 : Int) (h2 : gb_kd a2 = 3) (h3 : gb_kd a3 = 1) (h4 : gb_kd a4 = 6) {lo : gh_L} (l0 : lo.lookup 0 = some (vr 26)) (l1 : lo.lookup 1 = some (vr 2)) (l2 : lo.lookup 2 = some (vr a2)) (l3 : lo.lookup 3 = some (vr a3)) (l4 : lo.lookup 4 = some (vr a4)) (l5 : lo.lookup 5 = some (vi x5)) {σ : gb_S}, gb_G (fx_3_22 k a2 a3 a4 x5 σ) 60 0 none (fun _ _ => none) gk_3 c0 eV 22 lo [] σ := by
  induction k with
  | zero => intros; exact gg_n
  | succ k ih =>
    intro a2 a3 a4 x5 h2 h3 h4 lo l0 l1 l2 l3 l4 l5 σ
    rw [fx_3_22]
    refine gg_il 24 5 rfl rfl l5 ?_
    refine gg_al 25 1 rfl rfl l1 ?_
    refine gg_gi 28 rfl rfl rfl gcl_2 rfl ?_
    refine gg_q (fun q1 => ?_)
    refine gg_q (fun q2 => ?_)
    refine gg_ige 57 31 rfl rfl rfl rfl q1 q2 ?_ ?_
    · refine gg_al 58 0 rfl rfl l0 ?_
      refine gg_al 59 3 rfl rfl l3 ?_
      refine gg_al 61 4 rfl rfl l4 ?_
      refine gg_cV 64 rfl (gm_10 _ _ h3 h4) (Nat.le_of_ble_eq_true rfl) (gb_vs rfl rfl rfl rfl rfl gcl_26 rfl rfl rfl) rfl (fun _ => rfl) (fun _ => rfl) (fun s4 => ?_)
      exact gg_vr rfl
    · refine gg_al 32 0 rfl rfl l0 ?_
      refine gg_gi 35 rfl rfl rfl gcl_26 rfl ?_
      refine gg_il 37 5 rfl rfl l5 ?_
      refine gg_cI 40 rfl (gm_123 _ _) (Nat.le_of_ble_eq_true rfl) (gb_ss rfl rfl rfl rfl rfl rfl rfl) rfl (fun _ => rfl) (fun _ => rfl) (fun r5 s6 => ?_)
      refine gg_q (fun q7 => ?_)
      refine gg_zeq 51 43 rfl rfl rfl rfl q7 ?_ ?_
      · refine gg_inc 54 rfl rfl l5 ?_
        refine gg_go 22 rfl rfl rfl ?_
        exact ih a2 a3 a4 (x5 + 1) h2 h3 h4 (gl1 rfl rfl l0) (gl1 rfl rfl l1) (gl1 rfl rfl l2) (gl1 rfl rfl l3) (gl1 rfl rfl l4) gs1
      · refine gg_al 44 0 rfl rfl l0 ?_
        refine gg_il 46 5 rfl rfl l5 ?_
        refine gg_al 47 2 rfl rfl l2 ?_
        refine gg_ci 48 0 rfl rfl ?_
        refine gg_cV 51 rfl (gm_4 20 _ _ _ h2) (Nat.le_of_ble_eq_true rfl) (gb_vs rfl rfl rfl rfl rfl gcl_26 rfl rfl rfl) rfl (fun _ => rfl) (fun _ => rfl) (fun s9 => ?_)
        refine gg_inc 54 rfl rfl l5 ?_
        refine gg_go 22 rfl rfl rfl ?_
        exact ih a2 a3 a4 (x5 + 1) h2 h3 h4 (gl1 rfl rfl l0) (gl1 rfl rfl l1) (gl1 rfl rfl l2) (gl1 rfl rfl l3) (gl1 rfl rfl l4) gs1
theorem gm_3 (a2 : Nat) (a3 : Nat) (a4 : Nat) (h2 : gb_kd a2 = 3) (h3 : gb_kd a3 = 1) (h4 : gb_kd a4 = 6) {σ : gb_S} : gb_M (fx_3 a2 a3 a4 σ) 61 c0 eV 3 [vr 26, vr 2, vr a2, vr a3, vr a4] σ := by
  rw [fx_3]
  refine gg_m (own := 0) (rt := none) (hnd := fun _ _ => none) (K := gk_3) (δ := 60) rfl rfl ?_
  refine gg_al 1 0 rfl rfl rfl ?_
  refine gg_al 2 1 rfl rfl rfl ?_
  refine gg_al 3 2 rfl rfl rfl ?_
  refine gg_al 4 3 rfl rfl rfl ?_
  refine gg_cV 7 rfl (gm_7 _ _ h2 h3) (Nat.le_of_ble_eq_true rfl) (gb_vs rfl rfl rfl rfl rfl gcl_26 rfl rfl rfl) rfl (fun _ => rfl) (fun _ => rfl) (fun s2 => ?_)
  refine gg_al 8 0 rfl rfl rfl ?_
  refine gg_gr 11 27 rfl rfl rfl gcl_26 rfl ?_
  refine gg_cV 14 rfl (gm_69 _ (rfl : gb_kd 27 = 6)) (Nat.le_of_ble_eq_true rfl) (gb_vs rfl rfl rfl rfl rfl gcl_27 rfl rfl rfl) rfl (fun _ => rfl) (fun _ => rfl) (fun s4 => ?_)
  refine gg_al 15 0 rfl rfl rfl ?_
  refine gg_ci 16 0 rfl rfl ?_
  refine gg_pf 19 rfl rfl rfl gcl_26 rfl ⟨rfl, rfl⟩ ?_
  refine gg_ci 20 0 rfl rfl ?_
  refine gg_s 22 rfl rfl ?_
  exact gt_3_22 gFU a2 a3 a4 0 h2 h3 h4 (gl1 rfl rfl rfl) (gl1 rfl rfl rfl) (gl1 rfl rfl rfl) (gl1 rfl rfl rfl) (gl1 rfl rfl rfl) gs1
/-- Treeclerk$Estate.setWeight -/
def fx_14 (a0 : Nat) (x1 : Int) (x2 : Int) (σ : gb_S) : Option gb_P :=
  gc (fx_13 a0 x1 σ) (fun r1 s2 =>
  gq (gR x1) (
  (if x1 < 0 then
    some (.inl r1, s2)
  else
    (if x1 < 14 then
      gq (0 ≤ x1 ∧ x1 < 14) (
      some (.inl r1, (gb_up s2 (a0 + 1) x1.toNat x2)))
    else
      some (.inl r1, s2)))))
theorem gm_14 (a0 : Nat) (x1 : Int) (x2 : Int) (h0 : gb_kd a0 = 1) {σ : gb_S} : gb_M (fx_14 a0 x1 x2 σ) 2 c0 eI 14 [vr a0, vi x1, vi x2] σ := by
  rw [fx_14]
  refine gg_m (own := 1) (rt := (some .int)) (hnd := fun _ _ => none) (K := gk_14) (δ := 1) rfl rfl ?_
  refine gg_al 1 0 rfl rfl rfl ?_
  refine gg_il 2 1 rfl rfl rfl ?_
  refine gg_cI 5 rfl (gm_13 _ _ h0) (Nat.le_of_ble_eq_true rfl) (gb_vs rfl rfl rfl rfl rfl (ges0 h0) rfl rfl rfl) rfl (fun _ => rfl) (fun _ => rfl) (fun r1 s2 => ?_)
  refine gg_s 6 rfl rfl ?_
  refine gg_il 7 1 rfl rfl (gl1 rfl rfl rfl) ?_
  refine gg_q (fun q3 => ?_)
  refine gg_zlt 23 10 rfl rfl rfl rfl q3 ?_ ?_
  · refine gg_il 24 3 rfl rfl gs1 ?_
    exact gg_ir rfl
  · refine gg_il 11 1 rfl rfl (gl1 rfl rfl rfl) ?_
    refine gg_ci 13 14 rfl rfl ?_
    refine gg_ige 23 16 rfl rfl rfl rfl q3 (gRl rfl) ?_ ?_
    · refine gg_il 24 3 rfl rfl gs1 ?_
      exact gg_ir rfl
    · refine gg_al 17 0 rfl rfl (gl1 rfl rfl rfl) ?_
      refine gg_gr 20 (a0 + 1) rfl rfl rfl (ges0 h0) rfl ?_
      refine gg_il 21 1 rfl rfl (gl1 rfl rfl rfl) ?_
      refine gg_il 22 2 rfl rfl (gl1 rfl rfl rfl) ?_
      refine gg_q (fun q4 => ?_)
      refine gg_ias 23 rfl rfl (ges1 h0) q4 ?_
      refine gg_il 24 3 rfl rfl gs1 ?_
      exact gg_ir rfl
def fx_18_2 (k : Nat) (a0 : Nat) (x1 : Int) (x2 : Int) (σ : gb_S) : Option gb_P := match k with
  | 0 => none
  | k + 1 =>
    gq (gR x2) (
    gq (gR (σ a0 3)) (
    (if x2 < (σ a0 3) then
      gq (0 ≤ x2 ∧ x2 < 14) (
      gq (gR (σ (a0 + 2) x2.toNat)) (
      gq (gR x1) (
      (if (σ (a0 + 2) x2.toNat) = x1 then
        some (.inl x2, σ)
      else
        fx_18_2 k a0 x1 (x2 + 1) σ))))
    else
      some (.inl (-1), σ))))
/-- Treeclerk$Estate.placeOf -/
def fx_18 (a0 : Nat) (x1 : Int) (σ : gb_S) : Option gb_P :=
  fx_18_2 gFU a0 x1 0 σ
theorem gt_18_2 (k : Nat) : ∀ (a0 : Nat) (x1 : Int) (x2 : Int) (h0 : gb_kd a0 = 1) {lo : gh_L} (l0 : lo.lookup 0 = some (vr a0)) (l1 : lo.lookup 1 = some (vi x1)) (l2 : lo.lookup 2 = some (vi x2)) {σ : gb_S}, gb_G (fx_18_2 k a0 x1 x2 σ) 0 1 (some .int) (fun _ _ => none) gk_18 c0 eI 2 lo [] σ := by
  induction k with
  | zero => intros; exact gg_n
  | succ k ih =>
    intro a0 x1 x2 h0 lo l0 l1 l2 σ
    rw [fx_18_2]
    refine gg_il 3 2 rfl rfl l2 ?_
    refine gg_al 4 0 rfl rfl l0 ?_
    refine gg_gi 7 rfl rfl rfl (ges0 h0) rfl ?_
    refine gg_q (fun q1 => ?_)
    refine gg_q (fun q2 => ?_)
    refine gg_ige 28 10 rfl rfl rfl rfl q1 q2 ?_ ?_
    · refine gg_ci 29 (-1) rfl rfl ?_
      exact gg_ir rfl
    · refine gg_al 11 0 rfl rfl l0 ?_
      refine gg_gr 14 (a0 + 2) rfl rfl rfl (ges0 h0) rfl ?_
      refine gg_il 15 2 rfl rfl l2 ?_
      refine gg_q (fun q3 => ?_)
      refine gg_ial 16 rfl rfl (ges2 h0) q3 ?_
      refine gg_il 17 1 rfl rfl l1 ?_
      refine gg_q (fun q4 => ?_)
      refine gg_q (fun q5 => ?_)
      refine gg_ine 22 20 rfl rfl rfl rfl q4 q5 ?_ ?_
      · refine gg_inc 25 rfl rfl l2 ?_
        refine gg_go 2 rfl rfl rfl ?_
        exact ih a0 x1 (x2 + 1) h0 (gl1 rfl rfl l0) (gl1 rfl rfl l1) gs1
      · refine gg_il 21 2 rfl rfl l2 ?_
        exact gg_ir rfl
theorem gm_18 (a0 : Nat) (x1 : Int) (h0 : gb_kd a0 = 1) {σ : gb_S} : gb_M (fx_18 a0 x1 σ) 1 c0 eI 18 [vr a0, vi x1] σ := by
  rw [fx_18]
  refine gg_m (own := 1) (rt := (some .int)) (hnd := fun _ _ => none) (K := gk_18) (δ := 0) rfl rfl ?_
  refine gg_ci 1 0 rfl rfl ?_
  refine gg_s 2 rfl rfl ?_
  exact gt_18_2 gFU a0 x1 0 h0 (gl1 rfl rfl rfl) (gl1 rfl rfl rfl) gs1
/-- Treeclerk$Estate.hasClaimOf -/
def fx_15 (a0 : Nat) (x1 : Int) (σ : gb_S) : Option gb_P :=
  gc (fx_18 a0 x1 σ) (fun r1 s2 =>
  gq (gR r1) (
  (if r1 = (-1) then
    some (.inl 0, s2)
  else
    some (.inl 1, s2))))
theorem gm_15 (a0 : Nat) (x1 : Int) (h0 : gb_kd a0 = 1) {σ : gb_S} : gb_M (fx_15 a0 x1 σ) 2 c0 eI 15 [vr a0, vi x1] σ := by
  rw [fx_15]
  refine gg_m (own := 1) (rt := (some .boolean)) (hnd := fun _ _ => none) (K := gk_15) (δ := 1) rfl rfl ?_
  refine gg_al 1 0 rfl rfl rfl ?_
  refine gg_il 2 1 rfl rfl rfl ?_
  refine gg_cI 5 rfl (gm_18 _ _ h0) (Nat.le_of_ble_eq_true rfl) (gb_vs rfl rfl rfl rfl rfl (ges0 h0) rfl rfl rfl) rfl (fun _ => rfl) (fun _ => rfl) (fun r1 s2 => ?_)
  refine gg_ci 6 (-1) rfl rfl ?_
  refine gg_q (fun q3 => ?_)
  refine gg_ieq 13 9 rfl rfl rfl rfl q3 (gRl rfl) ?_ ?_
  · refine gg_ci 14 0 rfl rfl ?_
    exact gg_zr rfl (Or.inl rfl)
  · refine gg_ci 10 1 rfl rfl ?_
    refine gg_go 14 rfl rfl rfl ?_
    exact gg_zr rfl (Or.inr rfl)
/-- Treeclerk$Estate.addClaim -/
def fx_16 (a0 : Nat) (x1 : Int) (σ : gb_S) : Option gb_P :=
  gq (gR (σ a0 3)) (
  (if (σ a0 3) < 14 then
    gq (0 ≤ (σ a0 3) ∧ (σ a0 3) < 14) (
    some (.inl 0, (gb_up (gb_up σ (a0 + 2) (σ a0 3).toNat x1) a0 3 (((gb_up σ (a0 + 2) (σ a0 3).toNat x1) a0 3) + 1))))
  else
    some (.inl 0, σ)))
theorem gm_16 (a0 : Nat) (x1 : Int) (h0 : gb_kd a0 = 1) {σ : gb_S} : gb_M (fx_16 a0 x1 σ) 1 c0 eV 16 [vr a0, vi x1] σ := by
  rw [fx_16]
  refine gg_m (own := 1) (rt := none) (hnd := fun _ _ => none) (K := gk_16) (δ := 0) rfl rfl ?_
  refine gg_al 1 0 rfl rfl rfl ?_
  refine gg_gi 4 rfl rfl rfl (ges0 h0) rfl ?_
  refine gg_ci 6 14 rfl rfl ?_
  refine gg_q (fun q1 => ?_)
  refine gg_ige 29 9 rfl rfl rfl rfl q1 (gRl rfl) ?_ ?_
  · exact gg_vr rfl
  · refine gg_al 10 0 rfl rfl rfl ?_
    refine gg_gr 13 (a0 + 2) rfl rfl rfl (ges0 h0) rfl ?_
    refine gg_al 14 0 rfl rfl rfl ?_
    refine gg_gi 17 rfl rfl rfl (ges0 h0) rfl ?_
    refine gg_il 18 1 rfl rfl rfl ?_
    refine gg_q (fun q2 => ?_)
    refine gg_ias 19 rfl rfl (ges2 h0) q2 ?_
    refine gg_al 20 0 rfl rfl rfl ?_
    refine gg_s 21 rfl rfl ?_
    refine gg_gi 24 rfl rfl rfl (ges0 h0) rfl ?_
    refine gg_ci 25 1 rfl rfl ?_
    refine gg_add 26 rfl rfl ?_
    refine gg_pf 29 rfl rfl rfl (ges0 h0) rfl ⟨rfl, rfl⟩ ?_
    exact gg_vr rfl
def fx_17_17 (k : Nat) (a0 : Nat) (x3 : Int) (σ : gb_S) : Option gb_P := match k with
  | 0 => none
  | k + 1 =>
    gq (gR x3) (
    gq (gR (σ a0 3)) (
    (if x3 < (σ a0 3) then
      gq (0 ≤ x3 ∧ x3 < 14) (
      gq (0 ≤ (x3 - 1) ∧ (x3 - 1) < 14) (
      fx_17_17 k a0 (x3 + 1) (gb_up σ (a0 + 2) (x3 - 1).toNat (σ (a0 + 2) x3.toNat))))
    else
      some (.inl 1, (gb_up σ a0 3 ((σ a0 3) - 1))))))
/-- Treeclerk$Estate.dropClaim -/
def fx_17 (a0 : Nat) (x1 : Int) (σ : gb_S) : Option gb_P :=
  gc (fx_18 a0 x1 σ) (fun r1 s2 =>
  gq (gR r1) (
  (if r1 = (-1) then
    some (.inl 0, s2)
  else
    fx_17_17 gFU a0 (r1 + 1) s2)))
theorem gt_17_17 (k : Nat) : ∀ (a0 : Nat) (x3 : Int) (h0 : gb_kd a0 = 1) {lo : gh_L} (l0 : lo.lookup 0 = some (vr a0)) (l3 : lo.lookup 3 = some (vi x3)) {σ : gb_S}, gb_G (fx_17_17 k a0 x3 σ) 1 1 (some .boolean) (fun _ _ => none) gk_17 c0 eI 17 lo [] σ := by
  induction k with
  | zero => intros; exact gg_n
  | succ k ih =>
    intro a0 x3 h0 lo l0 l3 σ
    rw [fx_17_17]
    refine gg_il 18 3 rfl rfl l3 ?_
    refine gg_al 19 0 rfl rfl l0 ?_
    refine gg_gi 22 rfl rfl rfl (ges0 h0) rfl ?_
    refine gg_q (fun q1 => ?_)
    refine gg_q (fun q2 => ?_)
    refine gg_ige 45 25 rfl rfl rfl rfl q1 q2 ?_ ?_
    · refine gg_al 46 0 rfl rfl l0 ?_
      refine gg_s 47 rfl rfl ?_
      refine gg_gi 50 rfl rfl rfl (ges0 h0) rfl ?_
      refine gg_ci 51 1 rfl rfl ?_
      refine gg_sub 52 rfl rfl ?_
      refine gg_pf 55 rfl rfl rfl (ges0 h0) rfl ⟨rfl, rfl⟩ ?_
      refine gg_ci 56 1 rfl rfl ?_
      exact gg_zr rfl (Or.inr rfl)
    · refine gg_al 26 0 rfl rfl l0 ?_
      refine gg_gr 29 (a0 + 2) rfl rfl rfl (ges0 h0) rfl ?_
      refine gg_il 30 3 rfl rfl l3 ?_
      refine gg_ci 31 1 rfl rfl ?_
      refine gg_sub 32 rfl rfl ?_
      refine gg_al 33 0 rfl rfl l0 ?_
      refine gg_gr 36 (a0 + 2) rfl rfl rfl (ges0 h0) rfl ?_
      refine gg_il 37 3 rfl rfl l3 ?_
      refine gg_q (fun q3 => ?_)
      refine gg_ial 38 rfl rfl (ges2 h0) q3 ?_
      refine gg_q (fun q4 => ?_)
      refine gg_ias 39 rfl rfl (ges2 h0) q4 ?_
      refine gg_inc 42 rfl rfl l3 ?_
      refine gg_go 17 rfl rfl rfl ?_
      exact ih a0 (x3 + 1) h0 (gl1 rfl rfl l0) gs1
theorem gm_17 (a0 : Nat) (x1 : Int) (h0 : gb_kd a0 = 1) {σ : gb_S} : gb_M (fx_17 a0 x1 σ) 2 c0 eI 17 [vr a0, vi x1] σ := by
  rw [fx_17]
  refine gg_m (own := 1) (rt := (some .boolean)) (hnd := fun _ _ => none) (K := gk_17) (δ := 1) rfl rfl ?_
  refine gg_al 1 0 rfl rfl rfl ?_
  refine gg_il 2 1 rfl rfl rfl ?_
  refine gg_cI 5 rfl (gm_18 _ _ h0) (Nat.le_of_ble_eq_true rfl) (gb_vs rfl rfl rfl rfl rfl (ges0 h0) rfl rfl rfl) rfl (fun _ => rfl) (fun _ => rfl) (fun r1 s2 => ?_)
  refine gg_s 6 rfl rfl ?_
  refine gg_il 7 2 rfl rfl gs1 ?_
  refine gg_ci 8 (-1) rfl rfl ?_
  refine gg_q (fun q3 => ?_)
  refine gg_ine 13 11 rfl rfl rfl rfl q3 (gRl rfl) ?_ ?_
  · refine gg_il 14 2 rfl rfl gs1 ?_
    refine gg_ci 15 1 rfl rfl ?_
    refine gg_add 16 rfl rfl ?_
    refine gg_s 17 rfl rfl ?_
    exact gt_17_17 gFU a0 (r1 + 1) h0 (gl1 rfl rfl (gl1 rfl rfl rfl)) gs1
  · refine gg_ci 12 0 rfl rfl ?_
    exact gg_zr rfl (Or.inl rfl)
/-- Treeclerk$Estate.rankNext -/
def fx_20 (x0 : Int) (a1 : Nat) (a2 : Nat) (x3 : Int) (σ : gb_S) : Option gb_P :=
  gc (fx_71 a1 x0 σ) (fun r1 s2 =>
  gq (gRL r1) (
  (if r1 = 0 then
    some (.inl x3, s2)
  else
    gq (gR x3) (
    gq (gR ((gb_ln a2 : Nat) : Int)) (
    (if x3 < ((gb_ln a2 : Nat) : Int) then
      gq (0 ≤ x3 ∧ x3 < gb_ln a2) (
      some (.inl (x3 + 1), (gb_up s2 a2 x3.toNat x0)))
    else
      some (.inl x3, s2)))))))
theorem gm_20 (x0 : Int) (a1 : Nat) (a2 : Nat) (x3 : Int) (h1 : gb_kd a1 = 6) (h2 : gb_kd a2 = 20) {σ : gb_S} : gb_M (fx_20 x0 a1 a2 x3 σ) 2 c0 eI 20 [vi x0, vr a1, vr a2, vi x3] σ := by
  rw [fx_20]
  refine gg_m (own := 1) (rt := (some .int)) (hnd := fun _ _ => none) (K := gk_20) (δ := 1) rfl rfl ?_
  refine gg_al 1 1 rfl rfl rfl ?_
  refine gg_il 2 0 rfl rfl rfl ?_
  refine gg_cLo 5 rfl (gm_71 _ _ h1) (Nat.le_of_ble_eq_true rfl) (gb_vs rfl rfl rfl rfl rfl (gsh0 h1) rfl rfl rfl) rfl (fun _ => rfl) (fun _ => rfl) (fun r1 s2 => ?_)
  refine gg_cl 6 0 rfl rfl ?_
  refine gg_q (fun q3 => ?_)
  refine gg_Leq 16 10 rfl rfl rfl rfl rfl q3 ⟨by decide, by decide⟩ ?_ ?_
  · refine gg_il 17 3 rfl rfl rfl ?_
    exact gg_ir rfl
  · refine gg_il 11 3 rfl rfl rfl ?_
    refine gg_al 12 2 rfl rfl rfl ?_
    refine gg_len 13 rfl rfl (gar h2) ?_
    refine gg_q (fun q4 => ?_)
    refine gg_q (fun q5 => ?_)
    refine gg_ilt 18 16 rfl rfl rfl rfl q4 q5 ?_ ?_
    · refine gg_al 19 2 rfl rfl rfl ?_
      refine gg_il 20 3 rfl rfl rfl ?_
      refine gg_il 21 0 rfl rfl rfl ?_
      refine gg_q (fun q6 => ?_)
      refine gg_ias 22 rfl rfl (gar h2) q6 ?_
      refine gg_il 23 3 rfl rfl rfl ?_
      refine gg_ci 24 1 rfl rfl ?_
      refine gg_add 25 rfl rfl ?_
      exact gg_ir rfl
    · refine gg_il 17 3 rfl rfl rfl ?_
      exact gg_ir rfl
def fx_19_37 (k : Nat) (a0 : Nat) (a1 : Nat) (a2 : Nat) (x3 : Int) (x4 : Int) (σ : gb_S) : Option gb_P := match k with
  | 0 => none
  | k + 1 =>
    gq (gR x4) (
    (if x4 < 14 then
      gc (fx_15 a0 x4 σ) (fun r2 s3 =>
      gq (gR r2) (
      (if r2 = 0 then
        gc (fx_20 x4 a1 a2 x3 s3) (fun r5 s6 =>
        fx_19_37 k a0 a1 a2 r5 (x4 + 1) s6)
      else
        fx_19_37 k a0 a1 a2 x3 (x4 + 1) s3)))
    else
      some (.inl x3, σ)))
def fx_19_5 (k : Nat) (a0 : Nat) (a1 : Nat) (a2 : Nat) (x3 : Int) (x4 : Int) (σ : gb_S) : Option gb_P := match k with
  | 0 => none
  | k + 1 =>
    gq (gR x4) (
    gq (gR (σ a0 3)) (
    (if x4 < (σ a0 3) then
      gq (0 ≤ x4 ∧ x4 < 14) (
      gc (fx_20 (σ (a0 + 2) x4.toNat) a1 a2 x3 σ) (fun r4 s5 =>
      fx_19_5 k a0 a1 a2 r4 (x4 + 1) s5))
    else
      fx_19_37 gFU a0 a1 a2 x3 0 σ)))
/-- Treeclerk$Estate.rankHeirs -/
def fx_19 (a0 : Nat) (a1 : Nat) (a2 : Nat) (σ : gb_S) : Option gb_P :=
  fx_19_5 gFU a0 a1 a2 0 0 σ
theorem gt_19_37 (k : Nat) : ∀ (a0 : Nat) (a1 : Nat) (a2 : Nat) (x3 : Int) (x4 : Int) (h0 : gb_kd a0 = 1) (h1 : gb_kd a1 = 6) (h2 : gb_kd a2 = 20) {lo : gh_L} (l0 : lo.lookup 0 = some (vr a0)) (l1 : lo.lookup 1 = some (vr a1)) (l2 : lo.lookup 2 = some (vr a2)) (l3 : lo.lookup 3 = some (vi x3)) (l4 : lo.lookup 4 = some (vi x4)) {σ : gb_S}, gb_G (fx_19_37 k a0 a1 a2 x3 x4 σ) 2 1 (some .int) (fun _ _ => none) gk_19 c0 eI 37 lo [] σ := by
  induction k with
  | zero => intros; exact gg_n
  | succ k ih =>
    intro a0 a1 a2 x3 x4 h0 h1 h2 lo l0 l1 l2 l3 l4 σ
    rw [fx_19_37]
    refine gg_il 39 4 rfl rfl l4 ?_
    refine gg_ci 41 14 rfl rfl ?_
    refine gg_q (fun q1 => ?_)
    refine gg_ige 68 44 rfl rfl rfl rfl q1 (gRl rfl) ?_ ?_
    · refine gg_il 69 3 rfl rfl l3 ?_
      exact gg_ir rfl
    · refine gg_al 45 0 rfl rfl l0 ?_
      refine gg_il 47 4 rfl rfl l4 ?_
      refine gg_cI 50 rfl (gm_15 _ _ h0) (Nat.le_of_ble_eq_true rfl) (gb_vs rfl rfl rfl rfl rfl (ges0 h0) rfl rfl rfl) rfl (fun _ => rfl) (fun _ => rfl) (fun r2 s3 => ?_)
      refine gg_q (fun q4 => ?_)
      refine gg_zne 62 53 rfl rfl rfl rfl q4 ?_ ?_
      · refine gg_inc 65 rfl rfl l4 ?_
        refine gg_go 37 rfl rfl rfl ?_
        exact ih a0 a1 a2 x3 (x4 + 1) h0 h1 h2 (gl1 rfl rfl l0) (gl1 rfl rfl l1) (gl1 rfl rfl l2) (gl1 rfl rfl l3) gs1
      · refine gg_il 55 4 rfl rfl l4 ?_
        refine gg_al 56 1 rfl rfl l1 ?_
        refine gg_al 57 2 rfl rfl l2 ?_
        refine gg_il 58 3 rfl rfl l3 ?_
        refine gg_cI 61 rfl (gm_20 _ _ _ _ h1 h2) (Nat.le_of_ble_eq_true rfl) (gb_ss rfl rfl rfl rfl rfl rfl rfl) rfl (fun _ => rfl) (fun _ => rfl) (fun r5 s6 => ?_)
        refine gg_s 62 rfl rfl ?_
        refine gg_inc 65 rfl rfl (gl1 rfl rfl l4) ?_
        refine gg_go 37 rfl rfl rfl ?_
        exact ih a0 a1 a2 r5 (x4 + 1) h0 h1 h2 (gl1 rfl rfl (gl1 rfl rfl l0)) (gl1 rfl rfl (gl1 rfl rfl l1)) (gl1 rfl rfl (gl1 rfl rfl l2)) (gl1 rfl rfl gs1) gs1
theorem gt_19_5 (k : Nat) : ∀ (a0 : Nat) (a1 : Nat) (a2 : Nat) (x3 : Int) (x4 : Int) (h0 : gb_kd a0 = 1) (h1 : gb_kd a1 = 6) (h2 : gb_kd a2 = 20) {lo : gh_L} (l0 : lo.lookup 0 = some (vr a0)) (l1 : lo.lookup 1 = some (vr a1)) (l2 : lo.lookup 2 = some (vr a2)) (l3 : lo.lookup 3 = some (vi x3)) (l4 : lo.lookup 4 = some (vi x4)) {σ : gb_S}, gb_G (fx_19_5 k a0 a1 a2 x3 x4 σ) 2 1 (some .int) (fun _ _ => none) gk_19 c0 eI 5 lo [] σ := by
  induction k with
  | zero => intros; exact gg_n
  | succ k ih =>
    intro a0 a1 a2 x3 x4 h0 h1 h2 lo l0 l1 l2 l3 l4 σ
    rw [fx_19_5]
    refine gg_il 7 4 rfl rfl l4 ?_
    refine gg_al 8 0 rfl rfl l0 ?_
    refine gg_gi 11 rfl rfl rfl (ges0 h0) rfl ?_
    refine gg_q (fun q1 => ?_)
    refine gg_q (fun q2 => ?_)
    refine gg_ige 34 14 rfl rfl rfl rfl q1 q2 ?_ ?_
    · refine gg_ci 35 0 rfl rfl ?_
      refine gg_s 37 rfl rfl ?_
      exact gt_19_37 gFU a0 a1 a2 x3 0 h0 h1 h2 (gl1 rfl rfl l0) (gl1 rfl rfl l1) (gl1 rfl rfl l2) (gl1 rfl rfl l3) gs1
    · refine gg_al 15 0 rfl rfl l0 ?_
      refine gg_gr 18 (a0 + 2) rfl rfl rfl (ges0 h0) rfl ?_
      refine gg_il 20 4 rfl rfl l4 ?_
      refine gg_q (fun q3 => ?_)
      refine gg_ial 21 rfl rfl (ges2 h0) q3 ?_
      refine gg_al 22 1 rfl rfl l1 ?_
      refine gg_al 23 2 rfl rfl l2 ?_
      refine gg_il 24 3 rfl rfl l3 ?_
      refine gg_cI 27 rfl (gm_20 _ _ _ _ h1 h2) (Nat.le_of_ble_eq_true rfl) (gb_ss rfl rfl rfl rfl rfl rfl rfl) rfl (fun _ => rfl) (fun _ => rfl) (fun r4 s5 => ?_)
      refine gg_s 28 rfl rfl ?_
      refine gg_inc 31 rfl rfl (gl1 rfl rfl l4) ?_
      refine gg_go 5 rfl rfl rfl ?_
      exact ih a0 a1 a2 r4 (x4 + 1) h0 h1 h2 (gl1 rfl rfl (gl1 rfl rfl l0)) (gl1 rfl rfl (gl1 rfl rfl l1)) (gl1 rfl rfl (gl1 rfl rfl l2)) (gl1 rfl rfl gs1) gs1
theorem gm_19 (a0 : Nat) (a1 : Nat) (a2 : Nat) (h0 : gb_kd a0 = 1) (h1 : gb_kd a1 = 6) (h2 : gb_kd a2 = 20) {σ : gb_S} : gb_M (fx_19 a0 a1 a2 σ) 3 c0 eI 19 [vr a0, vr a1, vr a2] σ := by
  rw [fx_19]
  refine gg_m (own := 1) (rt := (some .int)) (hnd := fun _ _ => none) (K := gk_19) (δ := 2) rfl rfl ?_
  refine gg_ci 1 0 rfl rfl ?_
  refine gg_s 2 rfl rfl ?_
  refine gg_ci 3 0 rfl rfl ?_
  refine gg_s 5 rfl rfl ?_
  exact gt_19_5 gFU a0 a1 a2 0 0 h0 h1 h2 (gl1 rfl rfl (gl1 rfl rfl rfl)) (gl1 rfl rfl (gl1 rfl rfl rfl)) (gl1 rfl rfl (gl1 rfl rfl rfl)) (gl1 rfl rfl gs1) gs1
def fx_22_68 (x2 : Int) (x3 : Int) (σ : gb_S) : Option gb_P :=
  gq (0 ≤ x3 ∧ x3 < 14) (
  some (.inl x2, (gb_up (gb_up σ 5 x3.toNat x2) 2 3 (((gb_up σ 5 x3.toNat x2) 2 3) + 1))))
def fx_22_28 (k : Nat) (x1 : Int) (x2 : Int) (x3 : Int) (σ : gb_S) : Option gb_P := match k with
  | 0 => none
  | k + 1 =>
    gq (gR x3) (
    (if 0 < x3 then
      gq (0 ≤ (x3 - 1) ∧ (x3 - 1) < 14) (
      gc (fx_25 (σ 5 (x3 - 1).toNat) σ) (fun r3 s4 =>
      gq (gR r3) (
      gq (gR x1) (
      (if x1 < r3 then
        gq (0 ≤ x3 ∧ x3 < 14) (
        fx_22_28 k x1 x2 (x3 + (-1)) (gb_up s4 5 x3.toNat (s4 5 (x3 - 1).toNat)))
      else
        fx_22_68 x2 x3 s4)))))
    else
      fx_22_68 x2 x3 σ))
/-- Treeclerk$Folk.enter -/
def fx_22 (x1 : Int) (σ : gb_S) : Option gb_P :=
  gq (gR (σ 2 3)) (
  (if (σ 2 3) < 14 then
    gq (0 ≤ (σ 2 3) ∧ (σ 2 3) < 14) (
    fx_22_28 gFU x1 (σ 2 3) (σ 2 3) (gb_up σ 3 (σ 2 3).toNat x1))
  else
    some (.inl (-1), σ)))
theorem gt_22_68 (x2 : Int) (x3 : Int) {lo : gh_L} (l0 : lo.lookup 0 = some (vr 2)) (l2 : lo.lookup 2 = some (vi x2)) (l3 : lo.lookup 3 = some (vi x3)) {σ : gb_S} : gb_G (fx_22_68 x2 x3 σ) 1 2 (some .int) (fun _ _ => none) gk_22 c0 eI 68 lo [] σ := by
  rw [fx_22_68]
  refine gg_al 69 0 rfl rfl l0 ?_
  refine gg_gr 72 5 rfl rfl rfl gcl_2 rfl ?_
  refine gg_il 73 3 rfl rfl l3 ?_
  refine gg_il 74 2 rfl rfl l2 ?_
  refine gg_q (fun q1 => ?_)
  refine gg_ias 75 rfl rfl gar_5 q1 ?_
  refine gg_al 76 0 rfl rfl l0 ?_
  refine gg_s 77 rfl rfl ?_
  refine gg_gi 80 rfl rfl rfl gcl_2 rfl ?_
  refine gg_ci 81 1 rfl rfl ?_
  refine gg_add 82 rfl rfl ?_
  refine gg_pf 85 rfl rfl rfl gcl_2 rfl ⟨rfl, rfl⟩ ?_
  refine gg_il 86 2 rfl rfl l2 ?_
  exact gg_ir rfl
theorem gt_22_28 (k : Nat) : ∀ (x1 : Int) (x2 : Int) (x3 : Int) {lo : gh_L} (l0 : lo.lookup 0 = some (vr 2)) (l1 : lo.lookup 1 = some (vi x1)) (l2 : lo.lookup 2 = some (vi x2)) (l3 : lo.lookup 3 = some (vi x3)) {σ : gb_S}, gb_G (fx_22_28 k x1 x2 x3 σ) 1 2 (some .int) (fun _ _ => none) gk_22 c0 eI 28 lo [] σ := by
  induction k with
  | zero => intros; exact gg_n
  | succ k ih =>
    intro x1 x2 x3 lo l0 l1 l2 l3 σ
    rw [fx_22_28]
    refine gg_il 29 3 rfl rfl l3 ?_
    refine gg_q (fun q1 => ?_)
    refine gg_zle 68 32 rfl rfl rfl rfl q1 ?_ ?_
    · exact gt_22_68 x2 x3 l0 l2 l3
    · refine gg_al 33 0 rfl rfl l0 ?_
      refine gg_al 34 0 rfl rfl l0 ?_
      refine gg_gr 37 5 rfl rfl rfl gcl_2 rfl ?_
      refine gg_il 38 3 rfl rfl l3 ?_
      refine gg_ci 39 1 rfl rfl ?_
      refine gg_sub 40 rfl rfl ?_
      refine gg_q (fun q2 => ?_)
      refine gg_ial 41 rfl rfl gar_5 q2 ?_
      refine gg_cI 44 rfl (gm_25 _) (Nat.le_of_ble_eq_true rfl) (gb_vs rfl rfl rfl rfl rfl gcl_2 rfl rfl rfl) rfl (fun _ => rfl) (fun _ => rfl) (fun r3 s4 => ?_)
      refine gg_il 45 1 rfl rfl l1 ?_
      refine gg_q (fun q5 => ?_)
      refine gg_q (fun q6 => ?_)
      refine gg_ile 68 48 rfl rfl rfl rfl q5 q6 ?_ ?_
      · exact gt_22_68 x2 x3 l0 l2 l3
      · refine gg_al 49 0 rfl rfl l0 ?_
        refine gg_gr 52 5 rfl rfl rfl gcl_2 rfl ?_
        refine gg_il 53 3 rfl rfl l3 ?_
        refine gg_al 54 0 rfl rfl l0 ?_
        refine gg_gr 57 5 rfl rfl rfl gcl_2 rfl ?_
        refine gg_il 58 3 rfl rfl l3 ?_
        refine gg_ci 59 1 rfl rfl ?_
        refine gg_sub 60 rfl rfl ?_
        refine gg_ial 61 rfl rfl gar_5 q2 ?_
        refine gg_q (fun q7 => ?_)
        refine gg_ias 62 rfl rfl gar_5 q7 ?_
        refine gg_inc 65 rfl rfl l3 ?_
        refine gg_go 28 rfl rfl rfl ?_
        exact ih x1 x2 (x3 + (-1)) (gl1 rfl rfl l0) (gl1 rfl rfl l1) (gl1 rfl rfl l2) gs1
theorem gm_22 (x1 : Int) {σ : gb_S} : gb_M (fx_22 x1 σ) 2 c0 eI 22 [vr 2, vi x1] σ := by
  rw [fx_22]
  refine gg_m (own := 2) (rt := (some .int)) (hnd := fun _ _ => none) (K := gk_22) (δ := 1) rfl rfl ?_
  refine gg_al 1 0 rfl rfl rfl ?_
  refine gg_gi 4 rfl rfl rfl gcl_2 rfl ?_
  refine gg_ci 6 14 rfl rfl ?_
  refine gg_q (fun q1 => ?_)
  refine gg_ilt 11 9 rfl rfl rfl rfl q1 (gRl rfl) ?_ ?_
  · refine gg_al 12 0 rfl rfl rfl ?_
    refine gg_gi 15 rfl rfl rfl gcl_2 rfl ?_
    refine gg_s 16 rfl rfl ?_
    refine gg_al 17 0 rfl rfl (gl1 rfl rfl rfl) ?_
    refine gg_gi 20 rfl rfl rfl gcl_2 rfl ?_
    refine gg_s 21 rfl rfl ?_
    refine gg_al 22 0 rfl rfl (gl1 rfl rfl (gl1 rfl rfl rfl)) ?_
    refine gg_gr 25 3 rfl rfl rfl gcl_2 rfl ?_
    refine gg_il 26 2 rfl rfl (gl1 rfl rfl gs1) ?_
    refine gg_il 27 1 rfl rfl (gl1 rfl rfl (gl1 rfl rfl rfl)) ?_
    refine gg_q (fun q2 => ?_)
    refine gg_ias 28 rfl rfl gar_3 q2 ?_
    exact gt_22_28 gFU x1 (σ 2 3) (σ 2 3) (gl1 rfl rfl (gl1 rfl rfl rfl)) (gl1 rfl rfl (gl1 rfl rfl rfl)) (gl1 rfl rfl gs1) gs1
  · refine gg_ci 10 (-1) rfl rfl ?_
    exact gg_ir rfl
/-- Treeclerk$Folk.bury -/
def fx_23 (x1 : Int) (x2 : Int) (σ : gb_S) : Option gb_P :=
  gq (gR x1) (
  (if x1 < 0 then
    some (.inl 0, σ)
  else
    (if x1 < 14 then
      gq (0 ≤ x1 ∧ x1 < 14) (
      some (.inl 0, (gb_up (gb_up σ 4 x1.toNat x2) 2 4 (gb_or ((gb_up σ 4 x1.toNat x2) 2 4) (gb_shl 1 x1)))))
    else
      some (.inl 0, σ))))
theorem gm_23 (x1 : Int) (x2 : Int) {σ : gb_S} : gb_M (fx_23 x1 x2 σ) 1 c0 eV 23 [vr 2, vi x1, vi x2] σ := by
  rw [fx_23]
  refine gg_m (own := 2) (rt := none) (hnd := fun _ _ => none) (K := gk_23) (δ := 0) rfl rfl ?_
  refine gg_il 1 1 rfl rfl rfl ?_
  refine gg_q (fun q1 => ?_)
  refine gg_zlt 29 4 rfl rfl rfl rfl q1 ?_ ?_
  · exact gg_vr rfl
  · refine gg_il 5 1 rfl rfl rfl ?_
    refine gg_ci 7 14 rfl rfl ?_
    refine gg_ige 29 10 rfl rfl rfl rfl q1 (gRl rfl) ?_ ?_
    · exact gg_vr rfl
    · refine gg_al 11 0 rfl rfl rfl ?_
      refine gg_gr 14 4 rfl rfl rfl gcl_2 rfl ?_
      refine gg_il 15 1 rfl rfl rfl ?_
      refine gg_il 16 2 rfl rfl rfl ?_
      refine gg_q (fun q2 => ?_)
      refine gg_ias 17 rfl rfl gar_4 q2 ?_
      refine gg_al 18 0 rfl rfl rfl ?_
      refine gg_s 19 rfl rfl ?_
      refine gg_gi 22 rfl rfl rfl gcl_2 rfl ?_
      refine gg_ci 23 1 rfl rfl ?_
      refine gg_il 24 1 rfl rfl rfl ?_
      refine gg_shl 25 rfl rfl ?_
      refine gg_or 26 rfl rfl ?_
      refine gg_pf 29 rfl rfl rfl gcl_2 rfl ⟨rfl, rfl⟩ ?_
      exact gg_vr rfl
/-- Treeclerk$Folk.isDead -/
def fx_24 (x1 : Int) (σ : gb_S) : Option gb_P :=
  gc (fx_123 (σ 2 4) x1 σ) (fun r1 s2 =>
  gq (r1 = 0 ∨ r1 = 1) (
  some (.inl r1, s2)))
theorem gm_24 (x1 : Int) {σ : gb_S} : gb_M (fx_24 x1 σ) 2 c0 eI 24 [vr 2, vi x1] σ := by
  rw [fx_24]
  refine gg_m (own := 2) (rt := (some .boolean)) (hnd := fun _ _ => none) (K := gk_24) (δ := 1) rfl rfl ?_
  refine gg_al 1 0 rfl rfl rfl ?_
  refine gg_gi 4 rfl rfl rfl gcl_2 rfl ?_
  refine gg_il 5 1 rfl rfl rfl ?_
  refine gg_cI 8 rfl (gm_123 _ _) (Nat.le_of_ble_eq_true rfl) (gb_ss rfl rfl rfl rfl rfl rfl rfl) rfl (fun _ => rfl) (fun _ => rfl) (fun r1 s2 => ?_)
  refine gg_q (fun q3 => ?_)
  exact gg_zr rfl q3
/-- Treeclerk$Folk.isOlder -/
def fx_27 (x1 : Int) (x2 : Int) (σ : gb_S) : Option gb_P :=
  gc (fx_25 x1 σ) (fun r1 s2 =>
  gc (fx_25 x2 s2) (fun r3 s4 =>
  gq (gR r1) (
  gq (gR r3) (
  (if r1 < r3 then
    some (.inl 1, s4)
  else
    some (.inl 0, s4))))))
theorem gm_27 (x1 : Int) (x2 : Int) {σ : gb_S} : gb_M (fx_27 x1 x2 σ) 2 c0 eI 27 [vr 2, vi x1, vi x2] σ := by
  rw [fx_27]
  refine gg_m (own := 2) (rt := (some .boolean)) (hnd := fun _ _ => none) (K := gk_27) (δ := 1) rfl rfl ?_
  refine gg_al 1 0 rfl rfl rfl ?_
  refine gg_il 2 1 rfl rfl rfl ?_
  refine gg_cI 5 rfl (gm_25 _) (Nat.le_of_ble_eq_true rfl) (gb_vs rfl rfl rfl rfl rfl gcl_2 rfl rfl rfl) rfl (fun _ => rfl) (fun _ => rfl) (fun r1 s2 => ?_)
  refine gg_al 6 0 rfl rfl rfl ?_
  refine gg_il 7 2 rfl rfl rfl ?_
  refine gg_cI 10 rfl (gm_25 _) (Nat.le_of_ble_eq_true rfl) (gb_vs rfl rfl rfl rfl rfl gcl_2 rfl rfl rfl) rfl (fun _ => rfl) (fun _ => rfl) (fun r3 s4 => ?_)
  refine gg_q (fun q5 => ?_)
  refine gg_q (fun q6 => ?_)
  refine gg_ige 17 13 rfl rfl rfl rfl q5 q6 ?_ ?_
  · refine gg_ci 18 0 rfl rfl ?_
    exact gg_zr rfl (Or.inl rfl)
  · refine gg_ci 14 1 rfl rfl ?_
    refine gg_go 18 rfl rfl rfl ?_
    exact gg_zr rfl (Or.inr rfl)
/-- Treeclerk$Proofs.isProof -/
def fx_63 (x1 : Int) (σ : gb_S) : Option gb_P :=
  gq (gR x1) (
  (if x1 < 0 then
    some (.inl 0, σ)
  else
    gq (gR (σ 6 5)) (
    (if x1 < (σ 6 5) then
      some (.inl 1, σ)
    else
      some (.inl 0, σ)))))
theorem gm_63 (x1 : Int) {σ : gb_S} : gb_M (fx_63 x1 σ) 1 c0 eI 63 [vr 6, vi x1] σ := by
  rw [fx_63]
  refine gg_m (own := 5) (rt := (some .boolean)) (hnd := fun _ _ => none) (K := gk_63) (δ := 0) rfl rfl ?_
  refine gg_il 1 1 rfl rfl rfl ?_
  refine gg_q (fun q1 => ?_)
  refine gg_zlt 16 4 rfl rfl rfl rfl q1 ?_ ?_
  · refine gg_ci 17 0 rfl rfl ?_
    exact gg_zr rfl (Or.inl rfl)
  · refine gg_il 5 1 rfl rfl rfl ?_
    refine gg_al 6 0 rfl rfl rfl ?_
    refine gg_gi 9 rfl rfl rfl gcl_6 rfl ?_
    refine gg_q (fun q2 => ?_)
    refine gg_ige 16 12 rfl rfl rfl rfl q1 q2 ?_ ?_
    · refine gg_ci 17 0 rfl rfl ?_
      exact gg_zr rfl (Or.inl rfl)
    · refine gg_ci 13 1 rfl rfl ?_
      refine gg_go 17 rfl rfl rfl ?_
      exact gg_zr rfl (Or.inr rfl)
/-- Treeclerk$Proofs.strengthOf -/
def fx_67 (x1 : Int) (σ : gb_S) : Option gb_P :=
  gc (fx_63 x1 σ) (fun r1 s2 =>
  gq (gR r1) (
  (if r1 = 0 then
    some (.inl 0, s2)
  else
    gq (0 ≤ x1 ∧ x1 < 30) (
    gq (gR (s2 11 x1.toNat)) (
    (if (s2 11 x1.toNat) = 0 then
      gq (gR ((s2 9 x1.toNat) - (s2 10 x1.toNat))) (
      some (.inl (max 0 ((s2 9 x1.toNat) - (s2 10 x1.toNat))), s2))
    else
      some (.inl 0, s2)))))))
theorem gm_67 (x1 : Int) {σ : gb_S} : gb_M (fx_67 x1 σ) 2 c0 eI 67 [vr 6, vi x1] σ := by
  rw [fx_67]
  refine gg_m (own := 5) (rt := (some .int)) (hnd := fun _ _ => none) (K := gk_67) (δ := 1) rfl rfl ?_
  refine gg_al 1 0 rfl rfl rfl ?_
  refine gg_il 2 1 rfl rfl rfl ?_
  refine gg_cI 5 rfl (gm_63 _) (Nat.le_of_ble_eq_true rfl) (gb_vs rfl rfl rfl rfl rfl gcl_6 rfl rfl rfl) rfl (fun _ => rfl) (fun _ => rfl) (fun r1 s2 => ?_)
  refine gg_q (fun q3 => ?_)
  refine gg_zeq 17 8 rfl rfl rfl rfl q3 ?_ ?_
  · refine gg_ci 18 0 rfl rfl ?_
    exact gg_ir rfl
  · refine gg_al 9 0 rfl rfl rfl ?_
    refine gg_gr 12 11 rfl rfl rfl gcl_6 rfl ?_
    refine gg_il 13 1 rfl rfl rfl ?_
    refine gg_q (fun q4 => ?_)
    refine gg_bal 14 rfl rfl gar_11 q4 ?_
    refine gg_q (fun q5 => ?_)
    refine gg_zeq 19 17 rfl rfl rfl rfl q5 ?_ ?_
    · refine gg_ci 20 0 rfl rfl ?_
      refine gg_al 21 0 rfl rfl rfl ?_
      refine gg_gr 24 9 rfl rfl rfl gcl_6 rfl ?_
      refine gg_il 25 1 rfl rfl rfl ?_
      refine gg_ial 26 rfl rfl gar_9 q4 ?_
      refine gg_al 27 0 rfl rfl rfl ?_
      refine gg_gr 30 10 rfl rfl rfl gcl_6 rfl ?_
      refine gg_il 31 1 rfl rfl rfl ?_
      refine gg_ial 32 rfl rfl gar_10 q4 ?_
      refine gg_sub 33 rfl rfl ?_
      refine gg_q (fun q6 => ?_)
      refine gg_max 36 rfl rfl rfl rfl (gRl rfl) q6 ?_
      exact gg_ir rfl
    · refine gg_ci 18 0 rfl rfl ?_
      exact gg_ir rfl
def fx_36_11 (k : Nat) (a0 : Nat) (x2 : Int) (x3 : Int) (x4 : Int) (σ : gb_S) : Option gb_P := match k with
  | 0 => none
  | k + 1 =>
    gq (gR x4) (
    gq (gR (σ 6 5)) (
    (if x4 < (σ 6 5) then
      gq (0 ≤ x4 ∧ x4 < 30) (
      gq (gR (σ 8 x4.toNat)) (
      gq (gR x2) (
      (if (σ 8 x4.toNat) = x2 then
        gq (gR x3) (
        (if x4 = x3 then
          fx_36_11 k a0 x2 x3 (x4 + 1) σ
        else
          gq (gR (σ 7 x4.toNat)) (
          (if (σ 7 x4.toNat) < 0 then
            fx_36_11 k a0 x2 x3 (x4 + 1) σ
          else
            (if (σ 7 x4.toNat) < 14 then
              gq (0 ≤ (σ 7 x4.toNat) ∧ (σ 7 x4.toNat) < 14) (
              gc (fx_67 x4 σ) (fun r9 s10 =>
              gq (gR (σ (a0 + 4) (σ 7 x4.toNat).toNat)) (
              gq (gR r9) (
              fx_36_11 k a0 x2 x3 (x4 + 1) (gb_up s10 (a0 + 4) (σ 7 x4.toNat).toNat (max (σ (a0 + 4) (σ 7 x4.toNat).toNat) r9))))))
            else
              fx_36_11 k a0 x2 x3 (x4 + 1) σ)))))
      else
        fx_36_11 k a0 x2 x3 (x4 + 1) σ))))
    else
      some (.inl 0, σ))))
/-- Treeclerk$Kin.weigh -/
def fx_36 (a0 : Nat) (x2 : Int) (x3 : Int) (σ : gb_S) : Option gb_P :=
  fx_36_11 gFU a0 x2 x3 0 (gb_fi σ (a0 + 4) 0)
theorem gt_36_11 (k : Nat) : ∀ (a0 : Nat) (x2 : Int) (x3 : Int) (x4 : Int) (h0 : gb_kd a0 = 3) {lo : gh_L} (l0 : lo.lookup 0 = some (vr a0)) (l1 : lo.lookup 1 = some (vr 6)) (l2 : lo.lookup 2 = some (vi x2)) (l3 : lo.lookup 3 = some (vi x3)) (l4 : lo.lookup 4 = some (vi x4)) {σ : gb_S}, gb_G (fx_36_11 k a0 x2 x3 x4 σ) 2 3 none (fun _ _ => none) gk_36 c0 eV 11 lo [] σ := by
  induction k with
  | zero => intros; exact gg_n
  | succ k ih =>
    intro a0 x2 x3 x4 h0 lo l0 l1 l2 l3 l4 σ
    rw [fx_36_11]
    refine gg_il 13 4 rfl rfl l4 ?_
    refine gg_al 14 1 rfl rfl l1 ?_
    refine gg_gi 17 rfl rfl rfl gcl_6 rfl ?_
    refine gg_q (fun q1 => ?_)
    refine gg_q (fun q2 => ?_)
    refine gg_ige 87 20 rfl rfl rfl rfl q1 q2 ?_ ?_
    · exact gg_vr rfl
    · refine gg_al 21 1 rfl rfl l1 ?_
      refine gg_gr 24 7 rfl rfl rfl gcl_6 rfl ?_
      refine gg_il 26 4 rfl rfl l4 ?_
      refine gg_q (fun q3 => ?_)
      refine gg_ial 27 rfl rfl gar_7 q3 ?_
      refine gg_s 29 rfl rfl ?_
      refine gg_al 30 1 rfl rfl (gl1 rfl rfl l1) ?_
      refine gg_gr 33 8 rfl rfl rfl gcl_6 rfl ?_
      refine gg_il 35 4 rfl rfl (gl1 rfl rfl l4) ?_
      refine gg_ial 36 rfl rfl gar_8 q3 ?_
      refine gg_il 37 2 rfl rfl (gl1 rfl rfl l2) ?_
      refine gg_q (fun q4 => ?_)
      refine gg_q (fun q5 => ?_)
      refine gg_ine 81 40 rfl rfl rfl rfl q4 q5 ?_ ?_
      · refine gg_inc 84 rfl rfl (gl1 rfl rfl l4) ?_
        refine gg_go 11 rfl rfl rfl ?_
        exact ih a0 x2 x3 (x4 + 1) h0 (gl1 rfl rfl (gl1 rfl rfl l0)) (gl1 rfl rfl (gl1 rfl rfl l1)) (gl1 rfl rfl (gl1 rfl rfl l2)) (gl1 rfl rfl (gl1 rfl rfl l3)) gs1
      · refine gg_il 42 4 rfl rfl (gl1 rfl rfl l4) ?_
        refine gg_il 43 3 rfl rfl (gl1 rfl rfl l3) ?_
        refine gg_q (fun q6 => ?_)
        refine gg_ieq 81 46 rfl rfl rfl rfl q1 q6 ?_ ?_
        · refine gg_inc 84 rfl rfl (gl1 rfl rfl l4) ?_
          refine gg_go 11 rfl rfl rfl ?_
          exact ih a0 x2 x3 (x4 + 1) h0 (gl1 rfl rfl (gl1 rfl rfl l0)) (gl1 rfl rfl (gl1 rfl rfl l1)) (gl1 rfl rfl (gl1 rfl rfl l2)) (gl1 rfl rfl (gl1 rfl rfl l3)) gs1
        · refine gg_il 48 5 rfl rfl gs1 ?_
          refine gg_q (fun q7 => ?_)
          refine gg_zlt 81 51 rfl rfl rfl rfl q7 ?_ ?_
          · refine gg_inc 84 rfl rfl (gl1 rfl rfl l4) ?_
            refine gg_go 11 rfl rfl rfl ?_
            exact ih a0 x2 x3 (x4 + 1) h0 (gl1 rfl rfl (gl1 rfl rfl l0)) (gl1 rfl rfl (gl1 rfl rfl l1)) (gl1 rfl rfl (gl1 rfl rfl l2)) (gl1 rfl rfl (gl1 rfl rfl l3)) gs1
          · refine gg_il 53 5 rfl rfl gs1 ?_
            refine gg_ci 55 14 rfl rfl ?_
            refine gg_ige 81 58 rfl rfl rfl rfl q7 (gRl rfl) ?_ ?_
            · refine gg_inc 84 rfl rfl (gl1 rfl rfl l4) ?_
              refine gg_go 11 rfl rfl rfl ?_
              exact ih a0 x2 x3 (x4 + 1) h0 (gl1 rfl rfl (gl1 rfl rfl l0)) (gl1 rfl rfl (gl1 rfl rfl l1)) (gl1 rfl rfl (gl1 rfl rfl l2)) (gl1 rfl rfl (gl1 rfl rfl l3)) gs1
            · refine gg_al 59 0 rfl rfl (gl1 rfl rfl l0) ?_
              refine gg_gr 62 (a0 + 4) rfl rfl rfl (gkin0 h0) rfl ?_
              refine gg_il 64 5 rfl rfl gs1 ?_
              refine gg_al 65 0 rfl rfl (gl1 rfl rfl l0) ?_
              refine gg_gr 68 (a0 + 4) rfl rfl rfl (gkin0 h0) rfl ?_
              refine gg_il 70 5 rfl rfl gs1 ?_
              refine gg_q (fun q8 => ?_)
              refine gg_ial 71 rfl rfl (gkin4 h0) q8 ?_
              refine gg_al 72 1 rfl rfl (gl1 rfl rfl l1) ?_
              refine gg_il 74 4 rfl rfl (gl1 rfl rfl l4) ?_
              refine gg_cI 77 rfl (gm_67 _) (Nat.le_of_ble_eq_true rfl) (gb_vs rfl rfl rfl rfl rfl gcl_6 rfl rfl rfl) rfl (fun _ => rfl) (fun _ => rfl) (fun r9 s10 => ?_)
              refine gg_q (fun q11 => ?_)
              refine gg_q (fun q12 => ?_)
              refine gg_max 80 rfl rfl rfl rfl q11 q12 ?_
              refine gg_ias 81 rfl rfl (gkin4 h0) q8 ?_
              refine gg_inc 84 rfl rfl (gl1 rfl rfl l4) ?_
              refine gg_go 11 rfl rfl rfl ?_
              exact ih a0 x2 x3 (x4 + 1) h0 (gl1 rfl rfl (gl1 rfl rfl l0)) (gl1 rfl rfl (gl1 rfl rfl l1)) (gl1 rfl rfl (gl1 rfl rfl l2)) (gl1 rfl rfl (gl1 rfl rfl l3)) gs1
theorem gm_36 (a0 : Nat) (x2 : Int) (x3 : Int) (h0 : gb_kd a0 = 3) {σ : gb_S} : gb_M (fx_36 a0 x2 x3 σ) 3 c0 eV 36 [vr a0, vr 6, vi x2, vi x3] σ := by
  rw [fx_36]
  refine gg_m (own := 3) (rt := none) (hnd := fun _ _ => none) (K := gk_36) (δ := 2) rfl rfl ?_
  refine gg_al 1 0 rfl rfl rfl ?_
  refine gg_gr 4 (a0 + 4) rfl rfl rfl (gkin0 h0) rfl ?_
  refine gg_ci 5 0 rfl rfl ?_
  refine gg_cF 8 rfl (gm_194 (gkin4 h0)) (Nat.le_of_ble_eq_true rfl) (gb_ss rfl rfl rfl rfl rfl rfl rfl) rfl (fun _ => rfl) (fun _ => rfl) ?_
  refine gg_ci 9 0 rfl rfl ?_
  refine gg_s 11 rfl rfl ?_
  exact gt_36_11 gFU a0 x2 x3 0 h0 (gl1 rfl rfl rfl) (gl1 rfl rfl rfl) (gl1 rfl rfl rfl) (gl1 rfl rfl rfl) gs1
def fx_37_7 (k : Nat) (a0 : Nat) (x1 : Int) (x2 : Int) (x3 : Int) (x4 : Int) (σ : gb_S) : Option gb_P := match k with
  | 0 => none
  | k + 1 =>
    gq (gR x4) (
    (if x4 < 14 then
      gq (gR x1) (
      (if x4 = x1 then
        fx_37_7 k a0 x1 x2 x3 (x4 + 1) σ
      else
        gq (0 ≤ x4 ∧ x4 < 14) (
        gq (gR (σ (a0 + 4) x4.toNat)) (
        gq (gR x3) (
        (if x3 < (σ (a0 + 4) x4.toNat) then
          fx_37_7 k a0 x1 x4 (σ (a0 + 4) x4.toNat) (x4 + 1) σ
        else
          fx_37_7 k a0 x1 x2 x3 (x4 + 1) σ))))))
    else
      some (.inl x2, σ)))
/-- Treeclerk$Kin.strongestBut -/
def fx_37 (a0 : Nat) (x1 : Int) (σ : gb_S) : Option gb_P :=
  fx_37_7 gFU a0 x1 (-1) 0 0 σ
theorem gt_37_7 (k : Nat) : ∀ (a0 : Nat) (x1 : Int) (x2 : Int) (x3 : Int) (x4 : Int) (h0 : gb_kd a0 = 3) {lo : gh_L} (l0 : lo.lookup 0 = some (vr a0)) (l1 : lo.lookup 1 = some (vi x1)) (l2 : lo.lookup 2 = some (vi x2)) (l3 : lo.lookup 3 = some (vi x3)) (l4 : lo.lookup 4 = some (vi x4)) {σ : gb_S}, gb_G (fx_37_7 k a0 x1 x2 x3 x4 σ) 0 3 (some .int) (fun _ _ => none) gk_37 c0 eI 7 lo [] σ := by
  induction k with
  | zero => intros; exact gg_n
  | succ k ih =>
    intro a0 x1 x2 x3 x4 h0 lo l0 l1 l2 l3 l4 σ
    rw [fx_37_7]
    refine gg_il 9 4 rfl rfl l4 ?_
    refine gg_ci 11 14 rfl rfl ?_
    refine gg_q (fun q1 => ?_)
    refine gg_ige 48 14 rfl rfl rfl rfl q1 (gRl rfl) ?_ ?_
    · refine gg_il 49 2 rfl rfl l2 ?_
      exact gg_ir rfl
    · refine gg_il 16 4 rfl rfl l4 ?_
      refine gg_il 17 1 rfl rfl l1 ?_
      refine gg_q (fun q2 => ?_)
      refine gg_ieq 42 20 rfl rfl rfl rfl q1 q2 ?_ ?_
      · refine gg_inc 45 rfl rfl l4 ?_
        refine gg_go 7 rfl rfl rfl ?_
        exact ih a0 x1 x2 x3 (x4 + 1) h0 (gl1 rfl rfl l0) (gl1 rfl rfl l1) (gl1 rfl rfl l2) (gl1 rfl rfl l3) gs1
      · refine gg_al 21 0 rfl rfl l0 ?_
        refine gg_gr 24 (a0 + 4) rfl rfl rfl (gkin0 h0) rfl ?_
        refine gg_il 26 4 rfl rfl l4 ?_
        refine gg_q (fun q3 => ?_)
        refine gg_ial 27 rfl rfl (gkin4 h0) q3 ?_
        refine gg_il 28 3 rfl rfl l3 ?_
        refine gg_q (fun q4 => ?_)
        refine gg_q (fun q5 => ?_)
        refine gg_ile 42 31 rfl rfl rfl rfl q4 q5 ?_ ?_
        · refine gg_inc 45 rfl rfl l4 ?_
          refine gg_go 7 rfl rfl rfl ?_
          exact ih a0 x1 x2 x3 (x4 + 1) h0 (gl1 rfl rfl l0) (gl1 rfl rfl l1) (gl1 rfl rfl l2) (gl1 rfl rfl l3) gs1
        · refine gg_il 33 4 rfl rfl l4 ?_
          refine gg_s 34 rfl rfl ?_
          refine gg_al 35 0 rfl rfl (gl1 rfl rfl l0) ?_
          refine gg_gr 38 (a0 + 4) rfl rfl rfl (gkin0 h0) rfl ?_
          refine gg_il 40 4 rfl rfl (gl1 rfl rfl l4) ?_
          refine gg_ial 41 rfl rfl (gkin4 h0) q3 ?_
          refine gg_s 42 rfl rfl ?_
          refine gg_inc 45 rfl rfl (gl1 rfl rfl (gl1 rfl rfl l4)) ?_
          refine gg_go 7 rfl rfl rfl ?_
          exact ih a0 x1 x4 (σ (a0 + 4) x4.toNat) (x4 + 1) h0 (gl1 rfl rfl (gl1 rfl rfl (gl1 rfl rfl l0))) (gl1 rfl rfl (gl1 rfl rfl (gl1 rfl rfl l1))) (gl1 rfl rfl (gl1 rfl rfl gs1)) (gl1 rfl rfl gs1) gs1
theorem gm_37 (a0 : Nat) (x1 : Int) (h0 : gb_kd a0 = 3) {σ : gb_S} : gb_M (fx_37 a0 x1 σ) 1 c0 eI 37 [vr a0, vi x1] σ := by
  rw [fx_37]
  refine gg_m (own := 3) (rt := (some .int)) (hnd := fun _ _ => none) (K := gk_37) (δ := 0) rfl rfl ?_
  refine gg_ci 1 (-1) rfl rfl ?_
  refine gg_s 2 rfl rfl ?_
  refine gg_ci 3 0 rfl rfl ?_
  refine gg_s 4 rfl rfl ?_
  refine gg_ci 5 0 rfl rfl ?_
  refine gg_s 7 rfl rfl ?_
  exact gt_37_7 gFU a0 x1 (-1) 0 0 h0 (gl1 rfl rfl (gl1 rfl rfl (gl1 rfl rfl rfl))) (gl1 rfl rfl (gl1 rfl rfl (gl1 rfl rfl rfl))) (gl1 rfl rfl (gl1 rfl rfl gs1)) (gl1 rfl rfl gs1) gs1
/-- Treeclerk$Kin.addChild -/
def fx_38 (a0 : Nat) (x1 : Int) (x2 : Int) (σ : gb_S) : Option gb_P :=
  gq (gR x1) (
  (if x1 < 0 then
    some (.inl 0, σ)
  else
    (if x1 < 14 then
      gq (0 ≤ x1 ∧ x1 < 14) (
      some (.inl 0, (gb_up σ (a0 + 3) x1.toNat (gb_or (σ (a0 + 3) x1.toNat) (gb_shl 1 x2)))))
    else
      some (.inl 0, σ))))
theorem gm_38 (a0 : Nat) (x1 : Int) (x2 : Int) (h0 : gb_kd a0 = 3) {σ : gb_S} : gb_M (fx_38 a0 x1 x2 σ) 1 c0 eV 38 [vr a0, vi x1, vi x2] σ := by
  rw [fx_38]
  refine gg_m (own := 3) (rt := none) (hnd := fun _ _ => none) (K := gk_38) (δ := 0) rfl rfl ?_
  refine gg_il 1 1 rfl rfl rfl ?_
  refine gg_q (fun q1 => ?_)
  refine gg_zlt 22 4 rfl rfl rfl rfl q1 ?_ ?_
  · exact gg_vr rfl
  · refine gg_il 5 1 rfl rfl rfl ?_
    refine gg_ci 7 14 rfl rfl ?_
    refine gg_ige 22 10 rfl rfl rfl rfl q1 (gRl rfl) ?_ ?_
    · exact gg_vr rfl
    · refine gg_al 11 0 rfl rfl rfl ?_
      refine gg_gr 14 (a0 + 3) rfl rfl rfl (gkin0 h0) rfl ?_
      refine gg_il 15 1 rfl rfl rfl ?_
      refine gg_s 16 rfl rfl ?_
      refine gg_q (fun q2 => ?_)
      refine gg_ial 17 rfl rfl (gkin3 h0) q2 ?_
      refine gg_ci 18 1 rfl rfl ?_
      refine gg_il 19 2 rfl rfl rfl ?_
      refine gg_shl 20 rfl rfl ?_
      refine gg_or 21 rfl rfl ?_
      refine gg_ias 22 rfl rfl (gkin3 h0) q2 ?_
      exact gg_vr rfl
end GF1
