/- the pure functions of the methods: of the class, of the reference (nothing runs it here: it serves the invariant alone), of whole's helpers; by program -/
section GD0
/-- Treeclerk$Kin.childSet -/
def fx_32 (a0 : Nat) (x1 : Int) (σ : gb_S) : Option gb_P :=
  gq (gR x1) (
  (if x1 < 0 then
    some (.inl 0, σ)
  else
    (if x1 < 14 then
      gq (0 ≤ x1 ∧ x1 < 14) (
      some (.inl (σ (a0 + 3) x1.toNat), σ))
    else
      some (.inl 0, σ))))
/-- Treeclerk$Shares.aboveOf -/
def fx_71 (a0 : Nat) (x1 : Int) (σ : gb_S) : Option gb_P :=
  gq (gR x1) (
  (if x1 < 0 then
    some (.inl 0, σ)
  else
    (if x1 < 14 then
      gq (0 ≤ x1 ∧ x1 < 14) (
      some (.inl (σ (a0 + 1) x1.toNat), σ))
    else
      some (.inl 0, σ))))
/-- Treeclerk$Shares.belowOf -/
def fx_72 (a0 : Nat) (x1 : Int) (σ : gb_S) : Option gb_P :=
  gq (gR x1) (
  (if x1 < 0 then
    some (.inl 1, σ)
  else
    (if x1 < 14 then
      gq (0 ≤ x1 ∧ x1 < 14) (
      some (.inl (σ (a0 + 2) x1.toNat), σ))
    else
      some (.inl 1, σ))))
def fx_77_3 (k : Nat) (x0 : Int) (x2 : Int) (x4 : Int) (σ : gb_S) : Option gb_P := match k with
  | 0 => none
  | k + 1 =>
    gq (gR x4) (
    (if x4 < 100 then
      gq (gRL x2) (
      (if x2 = 0 then
        some (.inl x0, σ)
      else
        gq ((0 ≤ x0 ∧ x0 ≤ 9223372036854775807) ∧ 0 < x2 ∧ x2 ≤ 9223372036854775807) (
        fx_77_3 k x2 (x0 % x2) (x4 + 1) σ)))
    else
      some (.inl x0, σ)))
/-- Treeclerk$Shares.commonDivisor -/
def fx_77 (x0 : Int) (x2 : Int) (σ : gb_S) : Option gb_P :=
  fx_77_3 gFU x0 x2 0 σ
/-- Treeclerk$Shares.add -/
def fx_73 (a0 : Nat) (x1 : Int) (x2 : Int) (x4 : Int) (σ : gb_S) : Option gb_P :=
  gq (gR x1) (
  (if x1 < 0 then
    some (.inl 0, σ)
  else
    (if x1 < 14 then
      gq (gRL x4) (
      (if 0 < x4 then
        gq (0 ≤ x1 ∧ x1 < 14) (
        gc (fx_77 (((σ (a0 + 1) x1.toNat) * x4) + (x2 * (σ (a0 + 2) x1.toNat))) ((σ (a0 + 2) x1.toNat) * x4) σ) (fun r4 s5 =>
        gq (gRL r4) (
        (if 0 < r4 then
          gq ((0 ≤ (((σ (a0 + 1) x1.toNat) * x4) + (x2 * (σ (a0 + 2) x1.toNat))) ∧ (((σ (a0 + 1) x1.toNat) * x4) + (x2 * (σ (a0 + 2) x1.toNat))) ≤ 9223372036854775807) ∧ 0 < r4 ∧ r4 ≤ 9223372036854775807) (
          gq ((0 ≤ ((σ (a0 + 2) x1.toNat) * x4) ∧ ((σ (a0 + 2) x1.toNat) * x4) ≤ 9223372036854775807) ∧ 0 < r4 ∧ r4 ≤ 9223372036854775807) (
          some (.inl 0, (gb_up (gb_up s5 (a0 + 1) x1.toNat ((((σ (a0 + 1) x1.toNat) * x4) + (x2 * (σ (a0 + 2) x1.toNat))) / r4)) (a0 + 2) x1.toNat (((σ (a0 + 2) x1.toNat) * x4) / r4)))))
        else
          some (.inl 0, s5)))))
      else
        some (.inl 0, σ)))
    else
      some (.inl 0, σ))))
/-- Treeclerk.isIn -/
def fx_123 (x0 : Int) (x1 : Int) (σ : gb_S) : Option gb_P :=
  gq (gR x1) (
  (if x1 < 0 then
    some (.inl 0, σ)
  else
    (if x1 < 14 then
      gq (gR (gb_and (gb_shr x0 x1) 1)) (
      (if (gb_and (gb_shr x0 x1) 1) = 0 then
        some (.inl 0, σ)
      else
        some (.inl 1, σ)))
    else
      some (.inl 0, σ))))
/-- java/lang/Integer.bitCount -/
def fx_193 (x0 : Int) (σ : gb_S) : Option gb_P :=
  some (.inl (gb_and (((gb_and (((gb_and (x0 - (gb_and (gb_ushr x0 1) 1431655765)) 858993459) + (gb_and (gb_ushr (x0 - (gb_and (gb_ushr x0 1) 1431655765)) 2) 858993459)) + (gb_ushr ((gb_and (x0 - (gb_and (gb_ushr x0 1) 1431655765)) 858993459) + (gb_and (gb_ushr (x0 - (gb_and (gb_ushr x0 1) 1431655765)) 2) 858993459)) 4)) 252645135) + (gb_ushr (gb_and (((gb_and (x0 - (gb_and (gb_ushr x0 1) 1431655765)) 858993459) + (gb_and (gb_ushr (x0 - (gb_and (gb_ushr x0 1) 1431655765)) 2) 858993459)) + (gb_ushr ((gb_and (x0 - (gb_and (gb_ushr x0 1) 1431655765)) 858993459) + (gb_and (gb_ushr (x0 - (gb_and (gb_ushr x0 1) 1431655765)) 2) 858993459)) 4)) 252645135) 8)) + (gb_ushr ((gb_and (((gb_and (x0 - (gb_and (gb_ushr x0 1) 1431655765)) 858993459) + (gb_and (gb_ushr (x0 - (gb_and (gb_ushr x0 1) 1431655765)) 2) 858993459)) + (gb_ushr ((gb_and (x0 - (gb_and (gb_ushr x0 1) 1431655765)) 858993459) + (gb_and (gb_ushr (x0 - (gb_and (gb_ushr x0 1) 1431655765)) 2) 858993459)) 4)) 252645135) + (gb_ushr (gb_and (((gb_and (x0 - (gb_and (gb_ushr x0 1) 1431655765)) 858993459) + (gb_and (gb_ushr (x0 - (gb_and (gb_ushr x0 1) 1431655765)) 2) 858993459)) + (gb_ushr ((gb_and (x0 - (gb_and (gb_ushr x0 1) 1431655765)) 858993459) + (gb_and (gb_ushr (x0 - (gb_and (gb_ushr x0 1) 1431655765)) 2) 858993459)) 4)) 252645135) 8)) 16)) 63), σ)
def fx_2_30 (k : Nat) (x1 : Int) (x3 : Int) (x4 : Int) (x6 : Int) (σ : gb_S) : Option gb_P := match k with
  | 0 => none
  | k + 1 =>
    gq (gR x6) (
    (if x6 < 14 then
      gc (fx_123 x3 x6 σ) (fun r2 s3 =>
      gq (gR r2) (
      (if r2 = 0 then
        fx_2_30 k x1 x3 x4 (x6 + 1) s3
      else
        gc (fx_71 27 x1 s3) (fun r5 s6 =>
        gc (fx_73 27 x6 r5 x4 s6) (fun _ s8 =>
        fx_2_30 k x1 x3 x4 (x6 + 1) s8)))))
    else
      some (.inl 0, σ)))
/-- Treeclerk$Court.passOn -/
def fx_2 (x1 : Int) (a2 : Nat) (σ : gb_S) : Option gb_P :=
  gc (fx_32 a2 x1 σ) (fun r1 s2 =>
  gc (fx_72 27 x1 s2) (fun r3 s4 =>
  gc (fx_193 (gb_and r1 (s2 26 2)) s4) (fun r5 s6 =>
  gq (gR r5) (
  fx_2_30 gFU x1 (gb_and r1 (s2 26 2)) (r3 * r5) 0 s6))))
/-- Treeclerk$Court.addAsHead -/
def fx_6 (x1 : Int) (σ : gb_S) : Option gb_P :=
  gc (fx_123 (σ 26 3) x1 σ) (fun r1 s2 =>
  gq (gR r1) (
  (if r1 = 0 then
    some (.inl 0, s2)
  else
    gc (fx_193 (s2 26 3) s2) (fun r4 s5 =>
    gq (gR r4) (
    gc (fx_73 27 x1 1 r4 s5) (fun _ s8 =>
    some (.inl 0, s8)))))))
/-- Treeclerk$Folk.bornOn -/
def fx_25 (x1 : Int) (σ : gb_S) : Option gb_P :=
  gq (gR x1) (
  (if x1 < 0 then
    some (.inl 0, σ)
  else
    (if x1 < 14 then
      gq (0 ≤ x1 ∧ x1 < 14) (
      some (.inl (σ 3 x1.toNat), σ))
    else
      some (.inl 0, σ))))
/-- Treeclerk$Folk.diedOn -/
def fx_26 (x1 : Int) (σ : gb_S) : Option gb_P :=
  gq (gR x1) (
  (if x1 < 0 then
    some (.inl 0, σ)
  else
    (if x1 < 14 then
      gq (0 ≤ x1 ∧ x1 < 14) (
      some (.inl (σ 4 x1.toNat), σ))
    else
      some (.inl 0, σ))))
/-- Treeclerk$Folk.byAge -/
def fx_28 (x1 : Int) (σ : gb_S) : Option gb_P :=
  gq (gR x1) (
  (if x1 < 0 then
    some (.inl (-1), σ)
  else
    (if x1 < 14 then
      gq (0 ≤ x1 ∧ x1 < 14) (
      some (.inl (σ 5 x1.toNat), σ))
    else
      some (.inl (-1), σ))))
def fx_8_81 (k21 : Nat → Int → Int → Int → gb_S → Option gb_P) (a2 : Nat) (x4 : Int) (x5 : Int) (x6 : Int) (x7 : Int) (σ : gb_S) : Option gb_P :=
  k21 a2 (gb_or x4 (gb_shl 1 x7)) x5 (x6 + (-1)) σ
def fx_8_62 (k21 : Nat → Int → Int → Int → gb_S → Option gb_P) (a2 : Nat) (x4 : Int) (x5 : Int) (x6 : Int) (x7 : Int) (y0 : Int) (σ : gb_S) : Option gb_P :=
  gq (gR y0) (
  (if y0 = 0 then
    gc (fx_32 a2 x7 σ) (fun r2 s3 =>
    gq (gR (gb_and r2 x4)) (
    (if (gb_and r2 x4) = 0 then
      k21 a2 x4 x5 (x6 + (-1)) s3
    else
      fx_8_81 k21 a2 x4 x5 x6 x7 s3)))
  else
    fx_8_81 k21 a2 x4 x5 x6 x7 σ))
def fx_8_21 (k : Nat) (a2 : Nat) (x4 : Int) (x5 : Int) (x6 : Int) (σ : gb_S) : Option gb_P := match k with
  | 0 => none
  | k + 1 =>
    gq (gR x6) (
    (if x6 < 0 then
      some (.inl x4, σ)
    else
      gc (fx_28 x6 σ) (fun r2 s3 =>
      gc (fx_123 (s3 26 1) r2 s3) (fun r4 s5 =>
      gq (gR r4) (
      (if r4 = 0 then
        fx_8_62 (fx_8_21 k) a2 x4 x5 x6 r2 0 s5
      else
        gc (fx_25 r2 s5) (fun r7 s8 =>
        gq (gR r7) (
        gq (gR x5) (
        (if x5 < r7 then
          fx_8_62 (fx_8_21 k) a2 x4 x5 x6 r2 0 s8
        else
          fx_8_62 (fx_8_21 k) a2 x4 x5 x6 r2 1 s8))))))))))
/-- Treeclerk$Court.findLivingLines -/
def fx_8 (a2 : Nat) (a3 : Nat) (σ : gb_S) : Option gb_P :=
  gc (fx_26 (σ a3 0) σ) (fun r1 s2 =>
  fx_8_21 gFU a2 0 r1 ((s2 2 3) - 1) s2)
/-- Treeclerk$Kin.firstParent -/
def fx_30 (a0 : Nat) (x1 : Int) (σ : gb_S) : Option gb_P :=
  gq (gR x1) (
  (if x1 < 0 then
    some (.inl (-1), σ)
  else
    (if x1 < 14 then
      gq (0 ≤ x1 ∧ x1 < 14) (
      some (.inl (σ (a0 + 1) x1.toNat), σ))
    else
      some (.inl (-1), σ))))
/-- Treeclerk$Kin.secondParent -/
def fx_31 (a0 : Nat) (x1 : Int) (σ : gb_S) : Option gb_P :=
  gq (gR x1) (
  (if x1 < 0 then
    some (.inl (-1), σ)
  else
    (if x1 < 14 then
      gq (0 ≤ x1 ∧ x1 < 14) (
      some (.inl (σ (a0 + 2) x1.toNat), σ))
    else
      some (.inl (-1), σ))))
/-- Treeclerk$Kin.setOf -/
def fx_34 (x0 : Int) (σ : gb_S) : Option gb_P :=
  gq (gR x0) (
  (if x0 = (-1) then
    some (.inl 0, σ)
  else
    some (.inl (gb_shl 1 x0), σ)))
/-- Treeclerk$Kin.parentSet -/
def fx_33 (a0 : Nat) (x1 : Int) (σ : gb_S) : Option gb_P :=
  gc (fx_30 a0 x1 σ) (fun r1 s2 =>
  gc (fx_34 r1 s2) (fun r3 s4 =>
  gc (fx_31 a0 x1 s4) (fun r5 s6 =>
  gc (fx_34 r5 s6) (fun r7 s8 =>
  some (.inl (gb_or r3 r7), s8)))))
/-- Treeclerk$Court.findHeads -/
def fx_9 (a1 : Nat) (x2 : Int) (σ : gb_S) : Option gb_P :=
  gc (fx_123 (σ 26 2) x2 σ) (fun r1 s2 =>
  gq (gR r1) (
  (if r1 = 0 then
    gc (fx_33 a1 x2 s2) (fun r4 s5 =>
    gq (gR (gb_and r4 (s5 26 2))) (
    (if (gb_and r4 (s5 26 2)) = 0 then
      gc (fx_30 a1 x2 s5) (fun r7 s8 =>
      gc (fx_33 a1 r7 s8) (fun r9 s10 =>
      gc (fx_31 a1 x2 s10) (fun r11 s12 =>
      gc (fx_33 a1 r11 s12) (fun r13 s14 =>
      some (.inl (gb_and (gb_or r9 r13) (s14 26 2)), s14)))))
    else
      some (.inl (gb_and r4 (s5 26 2)), s5))))
  else
    some (.inl (gb_shl 1 x2), s2))))
def fx_7_19 (a2 : Nat) (a3 : Nat) (y0 : Int) (σ : gb_S) : Option gb_P :=
  gc (fx_8 a2 a3 (gb_up σ 26 1 (gb_xor y0 (-1)))) (fun r1 s2 =>
  gc (fx_9 a2 ((gb_up s2 26 2 r1) a3 0) (gb_up s2 26 2 r1)) (fun r3 s4 =>
  some (.inl 0, (gb_up s4 26 3 r3))))
/-- Treeclerk$Court.lookAt -/
def fx_7 (a2 : Nat) (a3 : Nat) (σ : gb_S) : Option gb_P :=
  gq (gR (σ a3 4)) (
  (if (σ a3 4) = 0 then
    fx_7_19 a2 a3 (σ 2 4) σ
  else
    fx_7_19 a2 a3 (σ a3 5) σ))
/-- Treeclerk$Estate.weightOf -/
def fx_13 (a0 : Nat) (x1 : Int) (σ : gb_S) : Option gb_P :=
  gq (gR x1) (
  (if x1 < 0 then
    some (.inl 0, σ)
  else
    (if x1 < 14 then
      gq (0 ≤ x1 ∧ x1 < 14) (
      some (.inl (σ (a0 + 1) x1.toNat), σ))
    else
      some (.inl 0, σ))))
/-- Treeclerk$Court.weightFor -/
def fx_11 (a1 : Nat) (x2 : Int) (σ : gb_S) : Option gb_P :=
  gc (fx_123 (σ 26 1) x2 σ) (fun r1 s2 =>
  gq (gR r1) (
  (if r1 = 0 then
    some (.inl 0, s2)
  else
    gc (fx_13 a1 x2 s2) (fun r4 s5 =>
    some (.inl r4, s5)))))
/-- Treeclerk$Shares.clear -/
def fx_69 (a0 : Nat) (σ : gb_S) : Option gb_P :=
  some (.inl 0, (gb_fi (gb_fi σ (a0 + 1) 0) (a0 + 2) 1))
def fx_10_121 (k89 : Nat → Nat → Int → Int → Int → Int → Int → gb_S → Option gb_P) (a1 : Nat) (a2 : Nat) (x3 : Int) (x4 : Int) (x5 : Int) (x6 : Int) (x7 : Int) (σ : gb_S) : Option gb_P :=
  gq (gR x5) (
  (if x5 = 0 then
    k89 a1 a2 x3 x4 x5 x6 (x7 + 1) σ
  else
    gc (fx_123 (σ 26 1) x7 σ) (fun r2 s3 =>
    gq (gR r2) (
    (if r2 = 0 then
      k89 a1 a2 x3 x4 x5 x6 (x7 + 1) s3
    else
      gc (fx_71 27 x7 s3) (fun r5 s6 =>
      gc (fx_72 27 x7 s6) (fun r7 s8 =>
      gq (gR x6) (
      gc (fx_73 a2 x7 r5 (r7 * x6) s8) (fun _ s11 =>
      k89 a1 a2 x3 x4 x5 x6 (x7 + 1) s11)))))))))
def fx_10_89 (k : Nat) (a1 : Nat) (a2 : Nat) (x3 : Int) (x4 : Int) (x5 : Int) (x6 : Int) (x7 : Int) (σ : gb_S) : Option gb_P := match k with
  | 0 => none
  | k + 1 =>
    gq (gR x7) (
    (if x7 < 14 then
      gq (gR x4) (
      (if x4 = 0 then
        fx_10_121 (fx_10_89 k) a1 a2 x3 x4 x5 x6 x7 σ
      else
        gc (fx_11 a1 x7 σ) (fun r3 s4 =>
        gq (gR r3) (
        gq (gR x3) (
        gq (gR x6) (
        gc (fx_73 a2 x7 r3 (x3 * x6) s4) (fun _ s9 =>
        fx_10_121 (fx_10_89 k) a1 a2 x3 x4 x5 x6 x7 s9)))))))
    else
      some (.inl 0, σ)))
def fx_10_63 (a1 : Nat) (a2 : Nat) (x3 : Int) (x4 : Int) (y0 : Int) (σ : gb_S) : Option gb_P :=
  gq (gR x4) (
  (if x4 = 0 then
    gc (fx_69 a2 σ) (fun _ s3 =>
    fx_10_89 gFU a1 a2 x3 x4 y0 1 0 s3)
  else
    gq (gR y0) (
    (if y0 = 0 then
      gc (fx_69 a2 σ) (fun _ s6 =>
      fx_10_89 gFU a1 a2 x3 x4 y0 1 0 s6)
    else
      gc (fx_69 a2 σ) (fun _ s8 =>
      fx_10_89 gFU a1 a2 x3 x4 y0 2 0 s8)))))
def fx_10_37 (a1 : Nat) (a2 : Nat) (x3 : Int) (y0 : Int) (σ : gb_S) : Option gb_P :=
  gq (gR y0) (
  (if y0 = 0 then
    fx_10_63 a1 a2 x3 y0 1 σ
  else
    gc (fx_123 (σ 26 2) (σ a1 0) σ) (fun r2 s3 =>
    gq (gR r2) (
    (if r2 = 0 then
      fx_10_63 a1 a2 x3 y0 0 s3
    else
      fx_10_63 a1 a2 x3 y0 1 s3)))))
def fx_10_5 (k : Nat) (a1 : Nat) (a2 : Nat) (x3 : Int) (x4 : Int) (σ : gb_S) : Option gb_P := match k with
  | 0 => none
  | k + 1 =>
    gq (gR x4) (
    (if x4 < 14 then
      gc (fx_11 a1 x4 σ) (fun r3 s4 =>
      fx_10_5 k a1 a2 (x3 + r3) (x4 + 1) s4)
    else
      gq (gR x3) (
      (if 0 < x3 then
        fx_10_37 a1 a2 x3 1 σ
      else
        fx_10_37 a1 a2 x3 0 σ))))
/-- Treeclerk$Court.joinWithWill -/
def fx_10 (a1 : Nat) (a2 : Nat) (σ : gb_S) : Option gb_P :=
  fx_10_5 gFU a1 a2 0 0 σ
def fx_1_39 (k : Nat) (a2 : Nat) (a3 : Nat) (a4 : Nat) (x5 : Int) (σ : gb_S) : Option gb_P := match k with
  | 0 => none
  | k + 1 =>
    gq (gR x5) (
    gq (gR (σ 2 3)) (
    (if x5 < (σ 2 3) then
      gc (fx_28 x5 σ) (fun r5 s6 =>
      gc (fx_123 (s6 26 1) r5 s6) (fun r7 s8 =>
      gq (gR r7) (
      (if r7 = 0 then
        gc (fx_71 27 r5 s8) (fun r10 s11 =>
        gq (gRL r10) (
        (if 0 < r10 then
          gc (fx_2 r5 a2 s11) (fun _ s14 =>
          fx_1_39 k a2 a3 a4 (x5 + 1) s14)
        else
          fx_1_39 k a2 a3 a4 (x5 + 1) s11)))
      else
        fx_1_39 k a2 a3 a4 (x5 + 1) s8))))
    else
      gc (fx_10 a3 a4 σ) (fun _ s4 =>
      some (.inl 0, s4)))))
def fx_1_17 (k : Nat) (a2 : Nat) (a3 : Nat) (a4 : Nat) (x5 : Int) (σ : gb_S) : Option gb_P := match k with
  | 0 => none
  | k + 1 =>
    gq (gR x5) (
    (if x5 < 14 then
      gc (fx_6 x5 σ) (fun _ s3 =>
      fx_1_17 k a2 a3 a4 (x5 + 1) s3)
    else
      fx_1_39 gFU a2 a3 a4 0 σ))
/-- Treeclerk$Court.shareFromHeads -/
def fx_1 (a2 : Nat) (a3 : Nat) (a4 : Nat) (σ : gb_S) : Option gb_P :=
  gc (fx_7 a2 a3 σ) (fun _ s2 =>
  gc (fx_69 27 s2) (fun _ s4 =>
  fx_1_17 gFU a2 a3 a4 0 s4))
/-- Treeclerk$Court.addPartOf -/
def fx_5 (rec : Int → Nat → Int → gb_S → Option gb_P) (x1 : Int) (x2 : Int) (a3 : Nat) (x4 : Int) (σ : gb_S) : Option gb_P :=
  gq (gR x1) (
  (if x1 = (-1) then
    some (.inl 0, σ)
  else
    gc (fx_123 (σ 26 1) x1 σ) (fun r2 s3 =>
    gq (gR r2) (
    (if r2 = 0 then
      gc (rec x1 a3 (x4 + 1) s3) (fun _ s6 =>
      gc (fx_32 a3 x1 s6) (fun r7 s8 =>
      gc (fx_193 (gb_and r7 (s8 26 2)) s8) (fun r9 s10 =>
      gc (fx_71 27 x1 s10) (fun r11 s12 =>
      gc (fx_72 27 x1 s12) (fun r13 s14 =>
      gq (gR r9) (
      gc (fx_73 27 x2 r11 (r13 * r9) s14) (fun _ s17 =>
      some (.inl 0, s17))))))))
    else
      some (.inl 0, s3))))))
/-- Treeclerk$Court.findComing -/
def fx_4 (k : Nat) (x1 : Int) (a2 : Nat) (x3 : Int) (σ : gb_S) : Option gb_P := match k with
  | 0 => none
  | k + 1 =>
    gq (gR x3) (
    (if x3 < 14 then
      gc (fx_123 (σ 26 4) x1 σ) (fun r2 s3 =>
      gq (gR r2) (
      (if r2 = 0 then
        gc (fx_123 (s3 26 2) x1 s3) (fun r5 s6 =>
        gq (gR r5) (
        (if r5 = 0 then
          some (.inl 0, s6)
        else
          gc (fx_6 x1 (gb_up s6 26 4 (gb_or (s6 26 4) (gb_shl 1 x1)))) (fun _ s9 =>
          gc (fx_30 a2 x1 s9) (fun r10 s11 =>
          gc (fx_5 (fx_4 k) r10 x1 a2 x3 s11) (fun _ s13 =>
          gc (fx_31 a2 x1 s13) (fun r14 s15 =>
          gc (fx_5 (fx_4 k) r14 x1 a2 x3 s15) (fun _ s17 =>
          some (.inl 0, s17)))))))))
      else
        some (.inl 0, s3))))
    else
      some (.inl 0, σ)))
def fx_3_22 (k : Nat) (a2 : Nat) (a3 : Nat) (a4 : Nat) (x5 : Int) (σ : gb_S) : Option gb_P := match k with
  | 0 => none
  | k + 1 =>
    gq (gR x5) (
    gq (gR (σ 2 3)) (
    (if x5 < (σ 2 3) then
      gc (fx_123 (σ 26 1) x5 σ) (fun r5 s6 =>
      gq (gR r5) (
      (if r5 = 0 then
        fx_3_22 k a2 a3 a4 (x5 + 1) s6
      else
        gc (fx_4 20 x5 a2 0 s6) (fun _ s9 =>
        fx_3_22 k a2 a3 a4 (x5 + 1) s9))))
    else
      gc (fx_10 a3 a4 σ) (fun _ s4 =>
      some (.inl 0, s4)))))
/-- Treeclerk$Court.shareFromPersons -/
def fx_3 (a2 : Nat) (a3 : Nat) (a4 : Nat) (σ : gb_S) : Option gb_P :=
  gc (fx_7 a2 a3 σ) (fun _ s2 =>
  gc (fx_69 27 s2) (fun _ s4 =>
  fx_3_22 gFU a2 a3 a4 0 (gb_up s4 26 4 0)))
/-- Treeclerk$Estate.setWeight -/
def fx_14 (a0 : Nat) (x1 : Int) (x2 : Int) (σ : gb_S) : Option gb_P :=
  gc (fx_13 a0 x1 σ) (fun r1 s2 =>
  gq (gR x1) (
  (if x1 < 0 then
    some (.inl r1, s2)
  else
    (if x1 < 14 then
      gq (0 ≤ x1 ∧ x1 < 14) (
      some (.inl r1, (gb_up s2 (a0 + 1) x1.toNat x2)))
    else
      some (.inl r1, s2)))))
def fx_18_2 (k : Nat) (a0 : Nat) (x1 : Int) (x2 : Int) (σ : gb_S) : Option gb_P := match k with
  | 0 => none
  | k + 1 =>
    gq (gR x2) (
    gq (gR (σ a0 3)) (
    (if x2 < (σ a0 3) then
      gq (0 ≤ x2 ∧ x2 < 14) (
      gq (gR (σ (a0 + 2) x2.toNat)) (
      gq (gR x1) (
      (if (σ (a0 + 2) x2.toNat) = x1 then
        some (.inl x2, σ)
      else
        fx_18_2 k a0 x1 (x2 + 1) σ))))
    else
      some (.inl (-1), σ))))
/-- Treeclerk$Estate.placeOf -/
def fx_18 (a0 : Nat) (x1 : Int) (σ : gb_S) : Option gb_P :=
  fx_18_2 gFU a0 x1 0 σ
/-- Treeclerk$Estate.hasClaimOf -/
def fx_15 (a0 : Nat) (x1 : Int) (σ : gb_S) : Option gb_P :=
  gc (fx_18 a0 x1 σ) (fun r1 s2 =>
  gq (gR r1) (
  (if r1 = (-1) then
    some (.inl 0, s2)
  else
    some (.inl 1, s2))))
/-- Treeclerk$Estate.addClaim -/
def fx_16 (a0 : Nat) (x1 : Int) (σ : gb_S) : Option gb_P :=
  gq (gR (σ a0 3)) (
  (if (σ a0 3) < 14 then
    gq (0 ≤ (σ a0 3) ∧ (σ a0 3) < 14) (
    some (.inl 0, (gb_up (gb_up σ (a0 + 2) (σ a0 3).toNat x1) a0 3 (((gb_up σ (a0 + 2) (σ a0 3).toNat x1) a0 3) + 1))))
  else
    some (.inl 0, σ)))
def fx_17_17 (k : Nat) (a0 : Nat) (x3 : Int) (σ : gb_S) : Option gb_P := match k with
  | 0 => none
  | k + 1 =>
    gq (gR x3) (
    gq (gR (σ a0 3)) (
    (if x3 < (σ a0 3) then
      gq (0 ≤ x3 ∧ x3 < 14) (
      gq (0 ≤ (x3 - 1) ∧ (x3 - 1) < 14) (
      fx_17_17 k a0 (x3 + 1) (gb_up σ (a0 + 2) (x3 - 1).toNat (σ (a0 + 2) x3.toNat))))
    else
      some (.inl 1, (gb_up σ a0 3 ((σ a0 3) - 1))))))
/-- Treeclerk$Estate.dropClaim -/
def fx_17 (a0 : Nat) (x1 : Int) (σ : gb_S) : Option gb_P :=
  gc (fx_18 a0 x1 σ) (fun r1 s2 =>
  gq (gR r1) (
  (if r1 = (-1) then
    some (.inl 0, s2)
  else
    fx_17_17 gFU a0 (r1 + 1) s2)))
/-- Treeclerk$Estate.rankNext -/
def fx_20 (x0 : Int) (a1 : Nat) (a2 : Nat) (x3 : Int) (σ : gb_S) : Option gb_P :=
  gc (fx_71 a1 x0 σ) (fun r1 s2 =>
  gq (gRL r1) (
  (if r1 = 0 then
    some (.inl x3, s2)
  else
    gq (gR x3) (
    gq (gR ((gb_ln a2 : Nat) : Int)) (
    (if x3 < ((gb_ln a2 : Nat) : Int) then
      gq (0 ≤ x3 ∧ x3 < gb_ln a2) (
      some (.inl (x3 + 1), (gb_up s2 a2 x3.toNat x0)))
    else
      some (.inl x3, s2)))))))
def fx_19_37 (k : Nat) (a0 : Nat) (a1 : Nat) (a2 : Nat) (x3 : Int) (x4 : Int) (σ : gb_S) : Option gb_P := match k with
  | 0 => none
  | k + 1 =>
    gq (gR x4) (
    (if x4 < 14 then
      gc (fx_15 a0 x4 σ) (fun r2 s3 =>
      gq (gR r2) (
      (if r2 = 0 then
        gc (fx_20 x4 a1 a2 x3 s3) (fun r5 s6 =>
        fx_19_37 k a0 a1 a2 r5 (x4 + 1) s6)
      else
        fx_19_37 k a0 a1 a2 x3 (x4 + 1) s3)))
    else
      some (.inl x3, σ)))
def fx_19_5 (k : Nat) (a0 : Nat) (a1 : Nat) (a2 : Nat) (x3 : Int) (x4 : Int) (σ : gb_S) : Option gb_P := match k with
  | 0 => none
  | k + 1 =>
    gq (gR x4) (
    gq (gR (σ a0 3)) (
    (if x4 < (σ a0 3) then
      gq (0 ≤ x4 ∧ x4 < 14) (
      gc (fx_20 (σ (a0 + 2) x4.toNat) a1 a2 x3 σ) (fun r4 s5 =>
      fx_19_5 k a0 a1 a2 r4 (x4 + 1) s5))
    else
      fx_19_37 gFU a0 a1 a2 x3 0 σ)))
/-- Treeclerk$Estate.rankHeirs -/
def fx_19 (a0 : Nat) (a1 : Nat) (a2 : Nat) (σ : gb_S) : Option gb_P :=
  fx_19_5 gFU a0 a1 a2 0 0 σ
def fx_22_68 (x2 : Int) (x3 : Int) (σ : gb_S) : Option gb_P :=
  gq (0 ≤ x3 ∧ x3 < 14) (
  some (.inl x2, (gb_up (gb_up σ 5 x3.toNat x2) 2 3 (((gb_up σ 5 x3.toNat x2) 2 3) + 1))))
def fx_22_28 (k : Nat) (x1 : Int) (x2 : Int) (x3 : Int) (σ : gb_S) : Option gb_P := match k with
  | 0 => none
  | k + 1 =>
    gq (gR x3) (
    (if 0 < x3 then
      gq (0 ≤ (x3 - 1) ∧ (x3 - 1) < 14) (
      gc (fx_25 (σ 5 (x3 - 1).toNat) σ) (fun r3 s4 =>
      gq (gR r3) (
      gq (gR x1) (
      (if x1 < r3 then
        gq (0 ≤ x3 ∧ x3 < 14) (
        fx_22_28 k x1 x2 (x3 + (-1)) (gb_up s4 5 x3.toNat (s4 5 (x3 - 1).toNat)))
      else
        fx_22_68 x2 x3 s4)))))
    else
      fx_22_68 x2 x3 σ))
/-- Treeclerk$Folk.enter -/
def fx_22 (x1 : Int) (σ : gb_S) : Option gb_P :=
  gq (gR (σ 2 3)) (
  (if (σ 2 3) < 14 then
    gq (0 ≤ (σ 2 3) ∧ (σ 2 3) < 14) (
    fx_22_28 gFU x1 (σ 2 3) (σ 2 3) (gb_up σ 3 (σ 2 3).toNat x1))
  else
    some (.inl (-1), σ)))
/-- Treeclerk$Folk.bury -/
def fx_23 (x1 : Int) (x2 : Int) (σ : gb_S) : Option gb_P :=
  gq (gR x1) (
  (if x1 < 0 then
    some (.inl 0, σ)
  else
    (if x1 < 14 then
      gq (0 ≤ x1 ∧ x1 < 14) (
      some (.inl 0, (gb_up (gb_up σ 4 x1.toNat x2) 2 4 (gb_or ((gb_up σ 4 x1.toNat x2) 2 4) (gb_shl 1 x1)))))
    else
      some (.inl 0, σ))))
/-- Treeclerk$Folk.isDead -/
def fx_24 (x1 : Int) (σ : gb_S) : Option gb_P :=
  gc (fx_123 (σ 2 4) x1 σ) (fun r1 s2 =>
  gq (r1 = 0 ∨ r1 = 1) (
  some (.inl r1, s2)))
/-- Treeclerk$Folk.isOlder -/
def fx_27 (x1 : Int) (x2 : Int) (σ : gb_S) : Option gb_P :=
  gc (fx_25 x1 σ) (fun r1 s2 =>
  gc (fx_25 x2 s2) (fun r3 s4 =>
  gq (gR r1) (
  gq (gR r3) (
  (if r1 < r3 then
    some (.inl 1, s4)
  else
    some (.inl 0, s4))))))
/-- Treeclerk$Proofs.isProof -/
def fx_63 (x1 : Int) (σ : gb_S) : Option gb_P :=
  gq (gR x1) (
  (if x1 < 0 then
    some (.inl 0, σ)
  else
    gq (gR (σ 6 5)) (
    (if x1 < (σ 6 5) then
      some (.inl 1, σ)
    else
      some (.inl 0, σ)))))
/-- Treeclerk$Proofs.strengthOf -/
def fx_67 (x1 : Int) (σ : gb_S) : Option gb_P :=
  gc (fx_63 x1 σ) (fun r1 s2 =>
  gq (gR r1) (
  (if r1 = 0 then
    some (.inl 0, s2)
  else
    gq (0 ≤ x1 ∧ x1 < 30) (
    gq (gR (s2 11 x1.toNat)) (
    (if (s2 11 x1.toNat) = 0 then
      gq (gR ((s2 9 x1.toNat) - (s2 10 x1.toNat))) (
      some (.inl (max 0 ((s2 9 x1.toNat) - (s2 10 x1.toNat))), s2))
    else
      some (.inl 0, s2)))))))
def fx_36_11 (k : Nat) (a0 : Nat) (x2 : Int) (x3 : Int) (x4 : Int) (σ : gb_S) : Option gb_P := match k with
  | 0 => none
  | k + 1 =>
    gq (gR x4) (
    gq (gR (σ 6 5)) (
    (if x4 < (σ 6 5) then
      gq (0 ≤ x4 ∧ x4 < 30) (
      gq (gR (σ 8 x4.toNat)) (
      gq (gR x2) (
      (if (σ 8 x4.toNat) = x2 then
        gq (gR x3) (
        (if x4 = x3 then
          fx_36_11 k a0 x2 x3 (x4 + 1) σ
        else
          gq (gR (σ 7 x4.toNat)) (
          (if (σ 7 x4.toNat) < 0 then
            fx_36_11 k a0 x2 x3 (x4 + 1) σ
          else
            (if (σ 7 x4.toNat) < 14 then
              gq (0 ≤ (σ 7 x4.toNat) ∧ (σ 7 x4.toNat) < 14) (
              gc (fx_67 x4 σ) (fun r9 s10 =>
              gq (gR (σ (a0 + 4) (σ 7 x4.toNat).toNat)) (
              gq (gR r9) (
              fx_36_11 k a0 x2 x3 (x4 + 1) (gb_up s10 (a0 + 4) (σ 7 x4.toNat).toNat (max (σ (a0 + 4) (σ 7 x4.toNat).toNat) r9))))))
            else
              fx_36_11 k a0 x2 x3 (x4 + 1) σ)))))
      else
        fx_36_11 k a0 x2 x3 (x4 + 1) σ))))
    else
      some (.inl 0, σ))))
/-- Treeclerk$Kin.weigh -/
def fx_36 (a0 : Nat) (x2 : Int) (x3 : Int) (σ : gb_S) : Option gb_P :=
  fx_36_11 gFU a0 x2 x3 0 (gb_fi σ (a0 + 4) 0)
def fx_37_7 (k : Nat) (a0 : Nat) (x1 : Int) (x2 : Int) (x3 : Int) (x4 : Int) (σ : gb_S) : Option gb_P := match k with
  | 0 => none
  | k + 1 =>
    gq (gR x4) (
    (if x4 < 14 then
      gq (gR x1) (
      (if x4 = x1 then
        fx_37_7 k a0 x1 x2 x3 (x4 + 1) σ
      else
        gq (0 ≤ x4 ∧ x4 < 14) (
        gq (gR (σ (a0 + 4) x4.toNat)) (
        gq (gR x3) (
        (if x3 < (σ (a0 + 4) x4.toNat) then
          fx_37_7 k a0 x1 x4 (σ (a0 + 4) x4.toNat) (x4 + 1) σ
        else
          fx_37_7 k a0 x1 x2 x3 (x4 + 1) σ))))))
    else
      some (.inl x2, σ)))
/-- Treeclerk$Kin.strongestBut -/
def fx_37 (a0 : Nat) (x1 : Int) (σ : gb_S) : Option gb_P :=
  fx_37_7 gFU a0 x1 (-1) 0 0 σ
/-- Treeclerk$Kin.addChild -/
def fx_38 (a0 : Nat) (x1 : Int) (x2 : Int) (σ : gb_S) : Option gb_P :=
  gq (gR x1) (
  (if x1 < 0 then
    some (.inl 0, σ)
  else
    (if x1 < 14 then
      gq (0 ≤ x1 ∧ x1 < 14) (
      some (.inl 0, (gb_up σ (a0 + 3) x1.toNat (gb_or (σ (a0 + 3) x1.toNat) (gb_shl 1 x2)))))
    else
      some (.inl 0, σ))))
def fx_35_10 (k : Nat) (a0 : Nat) (x2 : Int) (x3 : Int) (σ : gb_S) : Option gb_P := match k with
  | 0 => none
  | k + 1 =>
    gq (gR x3) (
    (if x3 < 14 then
      gc (fx_36 a0 x3 x2 σ) (fun _ s3 =>
      gc (fx_37 a0 (-1) s3) (fun r4 s5 =>
      gq (0 ≤ x3 ∧ x3 < 14) (
      gc (fx_37 a0 ((gb_up s5 (a0 + 1) x3.toNat r4) (a0 + 1) x3.toNat) (gb_up s5 (a0 + 1) x3.toNat r4)) (fun r7 s8 =>
      gc (fx_38 a0 ((gb_up s8 (a0 + 2) x3.toNat r7) (a0 + 1) x3.toNat) x3 (gb_up s8 (a0 + 2) x3.toNat r7)) (fun _ s10 =>
      gc (fx_38 a0 (s10 (a0 + 2) x3.toNat) x3 s10) (fun _ s12 =>
      fx_35_10 k a0 x2 (x3 + 1) s12))))))
    else
      some (.inl 0, σ)))
/-- Treeclerk$Kin.tell -/
def fx_35 (a0 : Nat) (x2 : Int) (σ : gb_S) : Option gb_P :=
  fx_35_10 gFU a0 x2 0 (gb_fi σ (a0 + 3) 0)
/-- Treeclerk$Land.keptOwner -/
def fx_40 (x1 : Int) (σ : gb_S) : Option gb_P :=
  gq (gR x1) (
  (if x1 < 0 then
    some (.inl (-1), σ)
  else
    (if x1 < 60 then
      gq (0 ≤ x1 ∧ x1 < 60) (
      some (.inl (σ 37 x1.toNat), σ))
    else
      some (.inl (-1), σ))))
def fx_41_6 (k : Nat) (x2 : Int) (x3 : Int) (σ : gb_S) : Option gb_P := match k with
  | 0 => none
  | k + 1 =>
    gq (gR x3) (
    gq (gR x2) (
    (if x3 < x2 then
      (if x3 < 60 then
        gq (0 ≤ x3 ∧ x3 < 60) (
        gq (gR (σ 36 x3.toNat)) (
        (if (σ 36 x3.toNat) = 0 then
          fx_41_6 k x2 (x3 + 1) σ
        else
          some (.inl 1, σ))))
      else
        some (.inl 0, σ))
    else
      some (.inl 0, σ))))
/-- Treeclerk$Land.isGrantedWithin -/
def fx_41 (x1 : Int) (x2 : Int) (σ : gb_S) : Option gb_P :=
  gq (gR x1) (
  fx_41_6 gFU x2 (max x1 0) σ)
def fx_57_10 (k : Nat) (a0 : Nat) (x1 : Int) (x3 : Int) (x4 : Int) (x5 : Int) (σ : gb_S) : Option gb_P := match k with
  | 0 => none
  | k + 1 =>
    gq (gR x5) (
    gq (gR x3) (
    (if x5 < x3 then
      gq (gR ((gb_ln a0 : Nat) : Int)) (
      (if x5 < ((gb_ln a0 : Nat) : Int) then
        gq (0 ≤ x5 ∧ x5 < gb_ln a0) (
        gq (gR (σ a0 x5.toNat)) (
        gq (gR x1) (
        (if (σ a0 x5.toNat) = x1 then
          fx_57_10 k a0 x1 x3 (x4 + 1) (x5 + 1) σ
        else
          fx_57_10 k a0 x1 x3 x4 (x5 + 1) σ))))
      else
        some (.inl x4, σ)))
    else
      some (.inl x4, σ))))
/-- Treeclerk$Land.countIn -/
def fx_57 (a0 : Nat) (x1 : Int) (x2 : Int) (x3 : Int) (σ : gb_S) : Option gb_P :=
  gq (gR x2) (
  fx_57_10 gFU a0 x1 x3 0 (max x2 0) σ)
/-- Treeclerk$Land.countUnits -/
def fx_42 (x1 : Int) (x2 : Int) (x3 : Int) (σ : gb_S) : Option gb_P :=
  gc (fx_57 37 x1 x2 x3 σ) (fun r1 s2 =>
  some (.inl r1, s2))
def fx_43_2 (k : Nat) (x1 : Int) (x2 : Int) (σ : gb_S) : Option gb_P := match k with
  | 0 => none
  | k + 1 =>
    gq (gR x2) (
    (if 0 < x2 then
      gc (fx_40 (x2 - 1) σ) (fun r2 s3 =>
      gc (fx_40 x1 s3) (fun r4 s5 =>
      gq (gR r2) (
      gq (gR r4) (
      (if r2 = r4 then
        fx_43_2 k x1 (x2 + (-1)) s5
      else
        some (.inl x2, s5))))))
    else
      some (.inl x2, σ)))
/-- Treeclerk$Land.parcelStart -/
def fx_43 (x1 : Int) (σ : gb_S) : Option gb_P :=
  fx_43_2 gFU x1 x1 σ
def fx_44_4 (k : Nat) (x1 : Int) (x2 : Int) (σ : gb_S) : Option gb_P := match k with
  | 0 => none
  | k + 1 =>
    gq (gR x2) (
    (if x2 < 60 then
      gc (fx_40 x2 σ) (fun r2 s3 =>
      gc (fx_40 x1 s3) (fun r4 s5 =>
      gq (gR r2) (
      gq (gR r4) (
      (if r2 = r4 then
        fx_44_4 k x1 (x2 + 1) s5
      else
        some (.inl x2, s5))))))
    else
      some (.inl x2, σ)))
/-- Treeclerk$Land.parcelEnd -/
def fx_44 (x1 : Int) (σ : gb_S) : Option gb_P :=
  fx_44_4 gFU x1 (x1 + 1) σ
/-- Treeclerk$Land.enter -/
def fx_48 (x1 : Int) (x2 : Int) (x3 : Int) (x4 : Int) (σ : gb_S) : Option gb_P :=
  gq (gR (σ 30 5)) (
  (if (σ 30 5) < 134 then
    gq (0 ≤ (σ 30 5) ∧ (σ 30 5) < 134) (
    gq (0 ≤ ((gb_up σ 31 (σ 30 5).toNat x1) 30 5) ∧ ((gb_up σ 31 (σ 30 5).toNat x1) 30 5) < 134) (
    gq (0 ≤ ((gb_up (gb_up σ 31 (σ 30 5).toNat x1) 32 ((gb_up σ 31 (σ 30 5).toNat x1) 30 5).toNat x2) 30 5) ∧ ((gb_up (gb_up σ 31 (σ 30 5).toNat x1) 32 ((gb_up σ 31 (σ 30 5).toNat x1) 30 5).toNat x2) 30 5) < 134) (
    gq (0 ≤ ((gb_up (gb_up (gb_up σ 31 (σ 30 5).toNat x1) 32 ((gb_up σ 31 (σ 30 5).toNat x1) 30 5).toNat x2) 33 ((gb_up (gb_up σ 31 (σ 30 5).toNat x1) 32 ((gb_up σ 31 (σ 30 5).toNat x1) 30 5).toNat x2) 30 5).toNat x3) 30 5) ∧ ((gb_up (gb_up (gb_up σ 31 (σ 30 5).toNat x1) 32 ((gb_up σ 31 (σ 30 5).toNat x1) 30 5).toNat x2) 33 ((gb_up (gb_up σ 31 (σ 30 5).toNat x1) 32 ((gb_up σ 31 (σ 30 5).toNat x1) 30 5).toNat x2) 30 5).toNat x3) 30 5) < 134) (
    some (.inl (((gb_up (gb_up (gb_up (gb_up (gb_up σ 31 (σ 30 5).toNat x1) 32 ((gb_up σ 31 (σ 30 5).toNat x1) 30 5).toNat x2) 33 ((gb_up (gb_up σ 31 (σ 30 5).toNat x1) 32 ((gb_up σ 31 (σ 30 5).toNat x1) 30 5).toNat x2) 30 5).toNat x3) 34 ((gb_up (gb_up (gb_up σ 31 (σ 30 5).toNat x1) 32 ((gb_up σ 31 (σ 30 5).toNat x1) 30 5).toNat x2) 33 ((gb_up (gb_up σ 31 (σ 30 5).toNat x1) 32 ((gb_up σ 31 (σ 30 5).toNat x1) 30 5).toNat x2) 30 5).toNat x3) 30 5).toNat x4) 30 5 (((gb_up (gb_up (gb_up (gb_up σ 31 (σ 30 5).toNat x1) 32 ((gb_up σ 31 (σ 30 5).toNat x1) 30 5).toNat x2) 33 ((gb_up (gb_up σ 31 (σ 30 5).toNat x1) 32 ((gb_up σ 31 (σ 30 5).toNat x1) 30 5).toNat x2) 30 5).toNat x3) 34 ((gb_up (gb_up (gb_up σ 31 (σ 30 5).toNat x1) 32 ((gb_up σ 31 (σ 30 5).toNat x1) 30 5).toNat x2) 33 ((gb_up (gb_up σ 31 (σ 30 5).toNat x1) 32 ((gb_up σ 31 (σ 30 5).toNat x1) 30 5).toNat x2) 30 5).toNat x3) 30 5).toNat x4) 30 5) + 1)) 30 5) - 1), (gb_up (gb_up (gb_up (gb_up (gb_up σ 31 (σ 30 5).toNat x1) 32 ((gb_up σ 31 (σ 30 5).toNat x1) 30 5).toNat x2) 33 ((gb_up (gb_up σ 31 (σ 30 5).toNat x1) 32 ((gb_up σ 31 (σ 30 5).toNat x1) 30 5).toNat x2) 30 5).toNat x3) 34 ((gb_up (gb_up (gb_up σ 31 (σ 30 5).toNat x1) 32 ((gb_up σ 31 (σ 30 5).toNat x1) 30 5).toNat x2) 33 ((gb_up (gb_up σ 31 (σ 30 5).toNat x1) 32 ((gb_up σ 31 (σ 30 5).toNat x1) 30 5).toNat x2) 30 5).toNat x3) 30 5).toNat x4) 30 5 (((gb_up (gb_up (gb_up (gb_up σ 31 (σ 30 5).toNat x1) 32 ((gb_up σ 31 (σ 30 5).toNat x1) 30 5).toNat x2) 33 ((gb_up (gb_up σ 31 (σ 30 5).toNat x1) 32 ((gb_up σ 31 (σ 30 5).toNat x1) 30 5).toNat x2) 30 5).toNat x3) 34 ((gb_up (gb_up (gb_up σ 31 (σ 30 5).toNat x1) 32 ((gb_up σ 31 (σ 30 5).toNat x1) 30 5).toNat x2) 33 ((gb_up (gb_up σ 31 (σ 30 5).toNat x1) 32 ((gb_up σ 31 (σ 30 5).toNat x1) 30 5).toNat x2) 30 5).toNat x3) 30 5).toNat x4) 30 5) + 1)))))))
  else
    some (.inl 134, σ)))
def fx_51_24 (k : Nat) (a1 : Nat) (x2 : Int) (x3 : Int) (σ : gb_S) : Option gb_P := match k with
  | 0 => none
  | k + 1 =>
    gq (0 ≤ x2 ∧ x2 < 134) (
    gq (gR x3) (
    gq (gR (σ 34 x2.toNat)) (
    (if x3 < (σ 34 x2.toNat) then
      gq (gR ((gb_ln a1 : Nat) : Int)) (
      (if x3 < ((gb_ln a1 : Nat) : Int) then
        gq (0 ≤ x3 ∧ x3 < gb_ln a1) (
        gq (gR (σ a1 x3.toNat)) (
        gq (gR (σ 31 x2.toNat)) (
        (if (σ a1 x3.toNat) = (σ 31 x2.toNat) then
          fx_51_24 k a1 x2 (x3 + 1) (gb_up σ a1 x3.toNat (σ 32 x2.toNat))
        else
          fx_51_24 k a1 x2 (x3 + 1) σ))))
      else
        some (.inl 0, σ)))
    else
      some (.inl 0, σ)))))
/-- Treeclerk$Land.handOver -/
def fx_51 (a1 : Nat) (x2 : Int) (σ : gb_S) : Option gb_P :=
  gq (gR x2) (
  (if x2 < 0 then
    some (.inl 0, σ)
  else
    gq (gR (σ 30 5)) (
    (if x2 < (σ 30 5) then
      gq (0 ≤ x2 ∧ x2 < 134) (
      gq (gR (σ 33 x2.toNat)) (
      fx_51_24 gFU a1 x2 (max (σ 33 x2.toNat) 0) σ))
    else
      some (.inl 0, σ)))))
def fx_45_34 (x1 : Int) (x2 : Int) (x3 : Int) (σ : gb_S) : Option gb_P :=
  gc (fx_48 (-1) x1 x2 x3 σ) (fun r1 s2 =>
  gc (fx_51 37 r1 s2) (fun _ s4 =>
  some (.inl 0, s4)))
def fx_45_7 (k : Nat) (x1 : Int) (x2 : Int) (x3 : Int) (x4 : Int) (σ : gb_S) : Option gb_P := match k with
  | 0 => none
  | k + 1 =>
    gq (gR x4) (
    gq (gR x3) (
    (if x4 < x3 then
      (if x4 < 60 then
        gq (0 ≤ x4 ∧ x4 < 60) (
        fx_45_7 k x1 x2 x3 (x4 + 1) (gb_up σ 36 x4.toNat 1))
      else
        fx_45_34 x1 x2 x3 σ)
    else
      fx_45_34 x1 x2 x3 σ)))
/-- Treeclerk$Land.enterGrant -/
def fx_45 (x1 : Int) (x2 : Int) (x3 : Int) (σ : gb_S) : Option gb_P :=
  gq (gR x2) (
  fx_45_7 gFU x1 x2 x3 (max x2 0) σ)
/-- Treeclerk$Land.enterHanding -/
def fx_46 (x1 : Int) (x2 : Int) (x3 : Int) (x4 : Int) (σ : gb_S) : Option gb_P :=
  gc (fx_48 x1 x2 x3 x4 (gb_up σ 30 6 ((σ 30 6) + 1))) (fun r1 s2 =>
  gc (fx_51 37 r1 s2) (fun _ s4 =>
  some (.inl 0, s4)))
/-- Treeclerk$Land.takeFrom -/
def fx_54 (x1 : Int) (x2 : Int) (σ : gb_S) : Option gb_P :=
  gq (gR x1) (
  (if x1 < 0 then
    some (.inl (-1), σ)
  else
    gq (gR x2) (
    (if x1 < x2 then
      (if x1 < 14 then
        gq (0 ≤ x1 ∧ x1 < 14) (
        some (.inl ((gb_up σ 40 x1.toNat ((σ 40 x1.toNat) - 1)) 39 x1.toNat), (gb_up σ 40 x1.toNat ((σ 40 x1.toNat) - 1))))
      else
        some (.inl (-1), σ))
    else
      some (.inl (-1), σ)))))
/-- Treeclerk$Shares.unitsFor -/
def fx_74 (a0 : Nat) (x1 : Int) (x2 : Int) (σ : gb_S) : Option gb_P :=
  gc (fx_72 a0 x1 σ) (fun r1 s2 =>
  gq (gRL r1) (
  (if 0 < r1 then
    gq (gR x2) (
    gc (fx_71 a0 x1 s2) (fun r5 s6 =>
    gq ((0 ≤ (x2 * r5) ∧ (x2 * r5) ≤ 9223372036854775807) ∧ 0 < r1 ∧ r1 ≤ 9223372036854775807) (
    some (.inl ((x2 * r5) / r1), s6))))
  else
    some (.inl 0, s2))))
def fx_55_59 (k : Nat) (x2 : Int) (x4 : Int) (x5 : Int) (σ : gb_S) : Option gb_P := match k with
  | 0 => none
  | k + 1 =>
    gq (gR x5) (
    gq (gR x2) (
    (if x5 < x2 then
      (if x5 < 14 then
        gq (gR x4) (
        (if 0 < x4 then
          gq (0 ≤ x5 ∧ x5 < 14) (
          fx_55_59 k x2 (x4 + (-1)) (x5 + 1) (gb_up σ 40 x5.toNat ((σ 40 x5.toNat) + 1)))
        else
          some (.inl 0, σ)))
      else
        some (.inl 0, σ))
    else
      some (.inl 0, σ))))
def fx_55_6 (k : Nat) (x1 : Int) (x2 : Int) (a3 : Nat) (x4 : Int) (x5 : Int) (σ : gb_S) : Option gb_P := match k with
  | 0 => none
  | k + 1 =>
    gq (gR x5) (
    gq (gR x2) (
    (if x5 < x2 then
      (if x5 < 14 then
        gq (0 ≤ x5 ∧ x5 < 14) (
        gc (fx_74 a3 (σ 39 x5.toNat) x1 σ) (fun r4 s5 =>
        fx_55_6 k x1 x2 a3 (x4 - ((gb_up s5 40 x5.toNat r4) 40 x5.toNat)) (x5 + 1) (gb_up s5 40 x5.toNat r4)))
      else
        fx_55_59 gFU x2 x4 0 σ)
    else
      fx_55_59 gFU x2 x4 0 σ)))
/-- Treeclerk$Land.portionOut -/
def fx_55 (x1 : Int) (x2 : Int) (a3 : Nat) (σ : gb_S) : Option gb_P :=
  fx_55_6 gFU x1 x2 a3 x1 0 σ
def fx_53_83 (k35 : Nat → Nat → Int → Int → Int → gb_S → Option gb_P) (a1 : Nat) (a2 : Nat) (x4 : Int) (x5 : Int) (x6 : Int) (σ : gb_S) : Option gb_P :=
  gc (fx_54 x5 x4 σ) (fun r1 s2 =>
  gq (0 ≤ x6 ∧ x6 < gb_ln a1) (
  k35 a1 a2 x4 x5 (x6 + 1) (gb_up s2 a1 x6.toNat r1)))
def fx_53_53 (k : Nat) (k35 : Nat → Nat → Int → Int → Int → gb_S → Option gb_P) (a1 : Nat) (a2 : Nat) (x4 : Int) (x5 : Int) (x6 : Int) (σ : gb_S) : Option gb_P := match k with
  | 0 => none
  | k + 1 =>
    gq (gR x5) (
    gq (gR x4) (
    (if x5 < x4 then
      (if x5 < 14 then
        gq (0 ≤ x5 ∧ x5 < 14) (
        gq (gR (σ 40 x5.toNat)) (
        (if (σ 40 x5.toNat) = 0 then
          fx_53_53 k k35 a1 a2 x4 (x5 + 1) x6 σ
        else
          fx_53_83 k35 a1 a2 x4 x5 x6 σ)))
      else
        fx_53_83 k35 a1 a2 x4 x5 x6 σ)
    else
      fx_53_83 k35 a1 a2 x4 x5 x6 σ)))
def fx_53_35 (k : Nat) (a1 : Nat) (a2 : Nat) (x4 : Int) (x5 : Int) (x6 : Int) (σ : gb_S) : Option gb_P := match k with
  | 0 => none
  | k + 1 =>
    gq (gR x6) (
    gq (gR ((gb_ln a1 : Nat) : Int)) (
    (if x6 < ((gb_ln a1 : Nat) : Int) then
      gq (0 ≤ x6 ∧ x6 < gb_ln a1) (
      gq (gR (σ a1 x6.toNat)) (
      gq (gR (σ a2 0)) (
      (if (σ a1 x6.toNat) = (σ a2 0) then
        fx_53_53 gFU (fx_53_35 k) a1 a2 x4 x5 x6 σ
      else
        fx_53_35 k a1 a2 x4 x5 (x6 + 1) σ))))
    else
      some (.inl 0, σ))))
/-- Treeclerk$Land.draw -/
def fx_53 (a1 : Nat) (a2 : Nat) (a3 : Nat) (σ : gb_S) : Option gb_P :=
  gc (fx_19 a2 a3 39 σ) (fun r1 s2 =>
  gc (fx_57 a1 (s2 a2 0) 0 60 s2) (fun r3 s4 =>
  gc (fx_55 r3 r1 a3 s4) (fun _ s6 =>
  fx_53_35 gFU a1 a2 r1 0 0 s6)))
/-- Treeclerk$Land.drawKept -/
def fx_52 (a1 : Nat) (σ : gb_S) : Option gb_P :=
  gc (fx_53 37 a1 (a1 + 3) (gb_cp σ 37 (a1 + 9))) (fun _ s2 =>
  some (.inl 0, s2))
/-- Treeclerk$Land.enterClosing -/
def fx_47 (a1 : Nat) (σ : gb_S) : Option gb_P :=
  gc (fx_48 (σ a1 0) (-1) 0 60 σ) (fun r1 s2 =>
  gq (gR r1) (
  (if r1 < 134 then
    gq (0 ≤ r1 ∧ r1 < 134) (
    gc (fx_52 a1 (gb_up s2 35 r1.toNat 1)) (fun _ s8 =>
    some (.inl r1, s8)))
  else
    gc (fx_52 a1 s2) (fun _ s5 =>
    some (.inl r1, s5)))))
/-- Treeclerk$Land.isPlace -/
def fx_56 (x0 : Int) (σ : gb_S) : Option gb_P :=
  gq (gR x0) (
  (if x0 < 0 then
    some (.inl 0, σ)
  else
    (if x0 < 14 then
      some (.inl 1, σ)
    else
      some (.inl 0, σ))))
def fx_49_131 (k : Nat) (x3 : Int) (x4 : Int) (σ : gb_S) : Option gb_P := match k with
  | 0 => none
  | k + 1 =>
    gq (gR x4) (
    (if x4 < 60 then
      gq (0 ≤ x4 ∧ x4 < 60) (
      gq (gR (σ 37 x4.toNat)) (
      gq (gR (σ 38 x4.toNat)) (
      (if (σ 37 x4.toNat) = (σ 38 x4.toNat) then
        fx_49_131 k x3 (x4 + 1) σ
      else
        fx_49_131 k (x3 + 1) (x4 + 1) σ))))
    else
      some (.inl x3, σ)))
def fx_49_66 (k : Nat) (x3 : Int) (σ : gb_S) : Option gb_P := match k with
  | 0 => none
  | k + 1 =>
    gq (gR x3) (
    gq (gR (σ 30 5)) (
    (if x3 < (σ 30 5) then
      gq (0 ≤ x3 ∧ x3 < 134) (
      gq (gR (σ 35 x3.toNat)) (
      (if (σ 35 x3.toNat) = 0 then
        gc (fx_51 37 x3 σ) (fun _ s12 =>
        fx_49_66 k (x3 + 1) s12)
      else
        gc (fx_56 (σ 31 x3.toNat) σ) (fun r5 s6 =>
        gq (gR r5) (
        (if r5 = 0 then
          fx_49_66 k (x3 + 1) s6
        else
          gq (0 ≤ (s6 31 x3.toNat) ∧ (s6 31 x3.toNat) < 14) (
          gc (fx_52 (47 + 10 * (s6 31 x3.toNat).toNat) s6) (fun _ s10 =>
          fx_49_66 k (x3 + 1) s10))))))))
    else
      fx_49_131 gFU 0 0 σ)))
/-- Treeclerk$Land.redrawFrom -/
def fx_49 (x1 : Int) (σ : gb_S) : Option gb_P :=
  gq (gR x1) (
  (if x1 < 0 then
    some (.inl 0, σ)
  else
    gq (gR (σ 30 5)) (
    (if x1 < (σ 30 5) then
      gq (0 ≤ x1 ∧ x1 < 134) (
      gc (fx_56 (σ 31 x1.toNat) σ) (fun r4 s5 =>
      gq (gR r4) (
      (if r4 = 0 then
        some (.inl 0, s5)
      else
        gq (0 ≤ ((gb_cp s5 37 38) 31 x1.toNat) ∧ ((gb_cp s5 37 38) 31 x1.toNat) < 14) (
        fx_49_66 gFU x1 (gb_cp (gb_cp s5 37 38) ((47 + 10 * ((gb_cp s5 37 38) 31 x1.toNat).toNat) + 9) 37))))))
    else
      some (.inl 0, σ)))))
def fx_50_10 (k : Nat) (x1 : Int) (x3 : Int) (σ : gb_S) : Option gb_P := match k with
  | 0 => none
  | k + 1 =>
    gq (gR x3) (
    gq (gR (σ 30 5)) (
    (if x3 < (σ 30 5) then
      gq (0 ≤ x3 ∧ x3 < 134) (
      gq (gR (σ 35 x3.toNat)) (
      (if (σ 35 x3.toNat) = 0 then
        gc (fx_51 38 x3 σ) (fun _ s14 =>
        fx_50_10 k x1 (x3 + 1) s14)
      else
        gc (fx_56 (σ 31 x3.toNat) σ) (fun r7 s8 =>
        gq (gR r7) (
        (if r7 = 0 then
          fx_50_10 k x1 (x3 + 1) s8
        else
          gq (0 ≤ (s8 31 x3.toNat) ∧ (s8 31 x3.toNat) < 14) (
          gc (fx_53 38 (47 + 10 * (s8 31 x3.toNat).toNat) ((47 + 10 * (s8 31 x3.toNat).toNat) + 6) s8) (fun _ s12 =>
          fx_50_10 k x1 (x3 + 1) s12))))))))
    else
      gq (gR x1) (
      (if x1 < 0 then
        some (.inl (-1), σ)
      else
        (if x1 < 60 then
          gq (0 ≤ x1 ∧ x1 < 60) (
          some (.inl (σ 38 x1.toNat), σ))
        else
          some (.inl (-1), σ)))))))
/-- Treeclerk$Land.foundOwner -/
def fx_50 (x1 : Int) (σ : gb_S) : Option gb_P :=
  fx_50_10 gFU x1 0 (gb_fi σ 38 (-1))
/-- Treeclerk$Proofs.file -/
def fx_59 (x1 : Int) (x2 : Int) (x3 : Int) (σ : gb_S) : Option gb_P :=
  gq (gR (σ 6 5)) (
  (if (σ 6 5) < 30 then
    gq (0 ≤ (σ 6 5) ∧ (σ 6 5) < 30) (
    gq (0 ≤ ((gb_up σ 7 (σ 6 5).toNat x1) 6 5) ∧ ((gb_up σ 7 (σ 6 5).toNat x1) 6 5) < 30) (
    gq (0 ≤ ((gb_up (gb_up σ 7 (σ 6 5).toNat x1) 8 ((gb_up σ 7 (σ 6 5).toNat x1) 6 5).toNat x2) 6 5) ∧ ((gb_up (gb_up σ 7 (σ 6 5).toNat x1) 8 ((gb_up σ 7 (σ 6 5).toNat x1) 6 5).toNat x2) 6 5) < 30) (
    some (.inl (((gb_up (gb_up (gb_up (gb_up σ 7 (σ 6 5).toNat x1) 8 ((gb_up σ 7 (σ 6 5).toNat x1) 6 5).toNat x2) 9 ((gb_up (gb_up σ 7 (σ 6 5).toNat x1) 8 ((gb_up σ 7 (σ 6 5).toNat x1) 6 5).toNat x2) 6 5).toNat x3) 6 5 (((gb_up (gb_up (gb_up σ 7 (σ 6 5).toNat x1) 8 ((gb_up σ 7 (σ 6 5).toNat x1) 6 5).toNat x2) 9 ((gb_up (gb_up σ 7 (σ 6 5).toNat x1) 8 ((gb_up σ 7 (σ 6 5).toNat x1) 6 5).toNat x2) 6 5).toNat x3) 6 5) + 1)) 6 5) - 1), (gb_up (gb_up (gb_up (gb_up σ 7 (σ 6 5).toNat x1) 8 ((gb_up σ 7 (σ 6 5).toNat x1) 6 5).toNat x2) 9 ((gb_up (gb_up σ 7 (σ 6 5).toNat x1) 8 ((gb_up σ 7 (σ 6 5).toNat x1) 6 5).toNat x2) 6 5).toNat x3) 6 5 (((gb_up (gb_up (gb_up σ 7 (σ 6 5).toNat x1) 8 ((gb_up σ 7 (σ 6 5).toNat x1) 6 5).toNat x2) 9 ((gb_up (gb_up σ 7 (σ 6 5).toNat x1) 8 ((gb_up σ 7 (σ 6 5).toNat x1) 6 5).toNat x2) 6 5).toNat x3) 6 5) + 1))))))
  else
    some (.inl (-1), σ)))
/-- Treeclerk$Proofs.fileDoubt -/
def fx_60 (x1 : Int) (x2 : Int) (σ : gb_S) : Option gb_P :=
  gq (gR (σ 6 9)) (
  (if (σ 6 9) < 30 then
    gc (fx_63 x1 σ) (fun r2 s3 =>
    gq (gR r2) (
    (if r2 = 0 then
      some (.inl (-1), s3)
    else
      gq (0 ≤ (s3 6 9) ∧ (s3 6 9) < 30) (
      gq (0 ≤ ((gb_up s3 12 (s3 6 9).toNat x1) 6 9) ∧ ((gb_up s3 12 (s3 6 9).toNat x1) 6 9) < 30) (
      gq (0 ≤ ((gb_up (gb_up s3 12 (s3 6 9).toNat x1) 13 ((gb_up s3 12 (s3 6 9).toNat x1) 6 9).toNat x2) 6 9) ∧ ((gb_up (gb_up s3 12 (s3 6 9).toNat x1) 13 ((gb_up s3 12 (s3 6 9).toNat x1) 6 9).toNat x2) 6 9) < 30) (
      gq (0 ≤ x1 ∧ x1 < 30) (
      some (.inl (((gb_up (gb_up (gb_up (gb_up (gb_up s3 12 (s3 6 9).toNat x1) 13 ((gb_up s3 12 (s3 6 9).toNat x1) 6 9).toNat x2) 14 ((gb_up (gb_up s3 12 (s3 6 9).toNat x1) 13 ((gb_up s3 12 (s3 6 9).toNat x1) 6 9).toNat x2) 6 9).toNat 1) 10 x1.toNat (((gb_up (gb_up (gb_up s3 12 (s3 6 9).toNat x1) 13 ((gb_up s3 12 (s3 6 9).toNat x1) 6 9).toNat x2) 14 ((gb_up (gb_up s3 12 (s3 6 9).toNat x1) 13 ((gb_up s3 12 (s3 6 9).toNat x1) 6 9).toNat x2) 6 9).toNat 1) 10 x1.toNat) + x2)) 6 9 (((gb_up (gb_up (gb_up (gb_up s3 12 (s3 6 9).toNat x1) 13 ((gb_up s3 12 (s3 6 9).toNat x1) 6 9).toNat x2) 14 ((gb_up (gb_up s3 12 (s3 6 9).toNat x1) 13 ((gb_up s3 12 (s3 6 9).toNat x1) 6 9).toNat x2) 6 9).toNat 1) 10 x1.toNat (((gb_up (gb_up (gb_up s3 12 (s3 6 9).toNat x1) 13 ((gb_up s3 12 (s3 6 9).toNat x1) 6 9).toNat x2) 14 ((gb_up (gb_up s3 12 (s3 6 9).toNat x1) 13 ((gb_up s3 12 (s3 6 9).toNat x1) 6 9).toNat x2) 6 9).toNat 1) 10 x1.toNat) + x2)) 6 9) + 1)) 6 9) - 1), (gb_up (gb_up (gb_up (gb_up (gb_up s3 12 (s3 6 9).toNat x1) 13 ((gb_up s3 12 (s3 6 9).toNat x1) 6 9).toNat x2) 14 ((gb_up (gb_up s3 12 (s3 6 9).toNat x1) 13 ((gb_up s3 12 (s3 6 9).toNat x1) 6 9).toNat x2) 6 9).toNat 1) 10 x1.toNat (((gb_up (gb_up (gb_up s3 12 (s3 6 9).toNat x1) 13 ((gb_up s3 12 (s3 6 9).toNat x1) 6 9).toNat x2) 14 ((gb_up (gb_up s3 12 (s3 6 9).toNat x1) 13 ((gb_up s3 12 (s3 6 9).toNat x1) 6 9).toNat x2) 6 9).toNat 1) 10 x1.toNat) + x2)) 6 9 (((gb_up (gb_up (gb_up (gb_up s3 12 (s3 6 9).toNat x1) 13 ((gb_up s3 12 (s3 6 9).toNat x1) 6 9).toNat x2) 14 ((gb_up (gb_up s3 12 (s3 6 9).toNat x1) 13 ((gb_up s3 12 (s3 6 9).toNat x1) 6 9).toNat x2) 6 9).toNat 1) 10 x1.toNat (((gb_up (gb_up (gb_up s3 12 (s3 6 9).toNat x1) 13 ((gb_up s3 12 (s3 6 9).toNat x1) 6 9).toNat x2) 14 ((gb_up (gb_up s3 12 (s3 6 9).toNat x1) 13 ((gb_up s3 12 (s3 6 9).toNat x1) 6 9).toNat x2) 6 9).toNat 1) 10 x1.toNat) + x2)) 6 9) + 1))))))))))
  else
    some (.inl (-1), σ)))
/-- Treeclerk$Proofs.isOpen -/
def fx_64 (x1 : Int) (σ : gb_S) : Option gb_P :=
  gq (gR x1) (
  (if x1 < 0 then
    some (.inl 0, σ)
  else
    gq (gR (σ 6 9)) (
    (if x1 < (σ 6 9) then
      gq (0 ≤ x1 ∧ x1 < 30) (
      gq (gR (σ 14 x1.toNat)) (
      (if (σ 14 x1.toNat) = 0 then
        some (.inl 0, σ)
      else
        some (.inl 1, σ))))
    else
      some (.inl 0, σ)))))
/-- Treeclerk$Proofs.lift -/
def fx_62 (x1 : Int) (σ : gb_S) : Option gb_P :=
  gc (fx_64 x1 σ) (fun r1 s2 =>
  gq (gR r1) (
  (if r1 = 0 then
    some (.inl 0, s2)
  else
    gq (0 ≤ x1 ∧ x1 < 30) (
    gc (fx_63 ((gb_up s2 14 x1.toNat 0) 12 x1.toNat) (gb_up s2 14 x1.toNat 0)) (fun r5 s6 =>
    gq (gR r5) (
    (if r5 = 0 then
      some (.inl 0, s6)
    else
      gq (0 ≤ ((gb_up s2 14 x1.toNat 0) 12 x1.toNat) ∧ ((gb_up s2 14 x1.toNat 0) 12 x1.toNat) < 30) (
      some (.inl 0, (gb_up s6 10 ((gb_up s2 14 x1.toNat 0) 12 x1.toNat).toNat ((s6 10 ((gb_up s2 14 x1.toNat 0) 12 x1.toNat).toNat) - (s6 13 x1.toNat))))))))))))
def fx_61_43 (k : Nat) (x3 : Int) (x4 : Int) (σ : gb_S) : Option gb_P := match k with
  | 0 => none
  | k + 1 =>
    gq (gR x4) (
    gq (gR (σ 6 9)) (
    (if x4 < (σ 6 9) then
      gq (0 ≤ x4 ∧ x4 < 30) (
      gq (gR (σ 12 x4.toNat)) (
      gq (gR x3) (
      (if (σ 12 x4.toNat) = x3 then
        gc (fx_62 x4 σ) (fun _ s7 =>
        fx_61_43 k x3 (x4 + 1) s7)
      else
        fx_61_43 k x3 (x4 + 1) σ))))
    else
      some (.inl 0, σ))))
/-- Treeclerk$Proofs.settle -/
def fx_61 (x1 : Int) (x2 : Int) (σ : gb_S) : Option gb_P :=
  gc (fx_64 x1 σ) (fun r1 s2 =>
  gq (gR r1) (
  (if r1 = 0 then
    some (.inl 0, s2)
  else
    gq (0 ≤ x1 ∧ x1 < 30) (
    gc (fx_62 x1 s2) (fun _ s6 =>
    gq (gR x2) (
    (if x2 = 0 then
      some (.inl 0, s6)
    else
      gc (fx_63 (s2 12 x1.toNat) s6) (fun r8 s9 =>
      gq (gR r8) (
      (if r8 = 0 then
        some (.inl 0, s9)
      else
        gq (0 ≤ (s2 12 x1.toNat) ∧ (s2 12 x1.toNat) < 30) (
        fx_61_43 gFU (s2 12 x1.toNat) 0 (gb_up s9 11 (s2 12 x1.toNat).toNat 1))))))))))))
/-- Treeclerk$Proofs.hasFallen -/
def fx_65 (x1 : Int) (σ : gb_S) : Option gb_P :=
  gc (fx_63 x1 σ) (fun r1 s2 =>
  gq (gR r1) (
  (if r1 = 0 then
    some (.inl 0, s2)
  else
    gq (0 ≤ x1 ∧ x1 < 30) (
    gq (gR (s2 11 x1.toNat)) (
    (if (s2 11 x1.toNat) = 0 then
      some (.inl 0, s2)
    else
      some (.inl 1, s2)))))))
def fx_66_4 (k : Nat) (x1 : Int) (x2 : Int) (x3 : Int) (σ : gb_S) : Option gb_P := match k with
  | 0 => none
  | k + 1 =>
    gq (gR x3) (
    gq (gR (σ 6 9)) (
    (if x3 < (σ 6 9) then
      gq (0 ≤ x3 ∧ x3 < 30) (
      gq (gR (σ 12 x3.toNat)) (
      gq (gR x1) (
      (if (σ 12 x3.toNat) = x1 then
        gq (gR (σ 14 x3.toNat)) (
        (if (σ 14 x3.toNat) = 0 then
          fx_66_4 k x1 x2 (x3 + 1) σ
        else
          fx_66_4 k x1 (x2 + 1) (x3 + 1) σ))
      else
        fx_66_4 k x1 x2 (x3 + 1) σ))))
    else
      some (.inl x2, σ))))
/-- Treeclerk$Proofs.countOpen -/
def fx_66 (x1 : Int) (σ : gb_S) : Option gb_P :=
  fx_66_4 gFU x1 0 0 σ
/-- Treeclerk$Shares.copy -/
def fx_70 (a0 : Nat) (a1 : Nat) (σ : gb_S) : Option gb_P :=
  some (.inl 0, (gb_cp (gb_cp σ (a1 + 1) (a0 + 1)) (a1 + 2) (a0 + 2)))
def fx_75_4 (k : Nat) (a0 : Nat) (x1 : Int) (x2 : Int) (σ : gb_S) : Option gb_P := match k with
  | 0 => none
  | k + 1 =>
    gq (gR x2) (
    (if x2 < 14 then
      gq (0 ≤ x2 ∧ x2 < 14) (
      gq (gRL (σ (a0 + 1) x2.toNat)) (
      (if 0 < (σ (a0 + 1) x2.toNat) then
        fx_75_4 k a0 (x1 + 1) (x2 + 1) σ
      else
        fx_75_4 k a0 x1 (x2 + 1) σ)))
    else
      some (.inl x1, σ)))
/-- Treeclerk$Shares.countHeirs -/
def fx_75 (a0 : Nat) (σ : gb_S) : Option gb_P :=
  fx_75_4 gFU a0 0 0 σ
def fx_76_2 (k : Nat) (a0 : Nat) (a1 : Nat) (x2 : Int) (σ : gb_S) : Option gb_P := match k with
  | 0 => none
  | k + 1 =>
    gq (gR x2) (
    (if x2 < 14 then
      gq (0 ≤ x2 ∧ x2 < 14) (
      gq (gRL (σ (a0 + 1) x2.toNat)) (
      gq (gRL (σ (a1 + 1) x2.toNat)) (
      (if (σ (a0 + 1) x2.toNat) = (σ (a1 + 1) x2.toNat) then
        gq (gRL (σ (a0 + 2) x2.toNat)) (
        gq (gRL (σ (a1 + 2) x2.toNat)) (
        (if (σ (a0 + 2) x2.toNat) = (σ (a1 + 2) x2.toNat) then
          fx_76_2 k a0 a1 (x2 + 1) σ
        else
          some (.inl 0, σ))))
      else
        some (.inl 0, σ)))))
    else
      some (.inl 1, σ)))
/-- Treeclerk$Shares.isSame -/
def fx_76 (a0 : Nat) (a1 : Nat) (σ : gb_S) : Option gb_P :=
  fx_76_2 gFU a0 a1 0 σ
/-- Treeclerk.pass -/
def fx_79 (x1 : Int) (σ : gb_S) : Option gb_P :=
  gq (gR x1) (
  (if x1 < 1 then
    some (.inr 1, σ)
  else
    (if 100 < x1 then
      some (.inr 1, σ)
    else
      gq (gR ((σ 1 9) + x1)) (
      (if 2000 < ((σ 1 9) + x1) then
        some (.inr 2, σ)
      else
        some (.inl ((gb_up σ 1 9 ((σ 1 9) + x1)) 1 9), (gb_up σ 1 9 ((σ 1 9) + x1))))))))
/-- Treeclerk.today -/
def fx_80 (σ : gb_S) : Option gb_P :=
  some (.inl (σ 1 9), σ)
/-- Treeclerk.birth -/
def fx_81 (x1 : Int) (σ : gb_S) : Option gb_P :=
  gq (gR x1) (
  (if x1 < 0 then
    some (.inr 1, σ)
  else
    gq (gR (σ 1 9)) (
    (if (σ 1 9) < x1 then
      some (.inr 1, σ)
    else
      gq (gR (σ 2 3)) (
      (if (σ 2 3) < 14 then
        gc (fx_22 x1 σ) (fun r4 s5 =>
        some (.inl r4, s5))
      else
        some (.inr 2, σ)))))))
/-- Treeclerk.requirePerson -/
def fx_110 (x1 : Int) (σ : gb_S) : Option gb_P :=
  gq (gR x1) (
  (if x1 < 0 then
    some (.inr 0, σ)
  else
    gq (gR (σ 2 3)) (
    (if x1 < (σ 2 3) then
      some (.inl 0, σ)
    else
      some (.inr 0, σ)))))
/-- Treeclerk.requireAlive -/
def fx_116 (x1 : Int) (σ : gb_S) : Option gb_P :=
  gc (fx_24 x1 σ) (fun r1 s2 =>
  gq (gR r1) (
  (if r1 = 0 then
    some (.inl 0, s2)
  else
    some (.inr 2, s2))))
def fx_82_26 (k : Nat) (x1 : Int) (x2 : Int) (x3 : Int) (σ : gb_S) : Option gb_P := match k with
  | 0 => none
  | k + 1 =>
    gq (gR x3) (
    (if x3 < 14 then
      gq (0 ≤ x3 ∧ x3 < 14) (
      gq (gR (σ (47 + 10 * x3.toNat) 4)) (
      (if (σ (47 + 10 * x3.toNat) 4) = 0 then
        gc (fx_17 (47 + 10 * x3.toNat) x1 σ) (fun r4 s5 =>
        gq (gR r4) (
        (if r4 = 0 then
          fx_82_26 k x1 x2 (x3 + 1) s5
        else
          fx_82_26 k x1 (x2 + 1) (x3 + 1) s5)))
      else
        fx_82_26 k x1 x2 (x3 + 1) σ)))
    else
      some (.inl x2, σ)))
/-- Treeclerk.death -/
def fx_82 (x1 : Int) (σ : gb_S) : Option gb_P :=
  gc (fx_110 x1 σ) (fun _ s2 =>
  gc (fx_116 x1 s2) (fun _ s4 =>
  gc (fx_23 x1 (s4 1 9) s4) (fun _ s6 =>
  fx_82_26 gFU x1 0 0 s6)))
/-- Treeclerk.people -/
def fx_83 (σ : gb_S) : Option gb_P :=
  some (.inl (σ 2 3), σ)
/-- Treeclerk.isAlive -/
def fx_84 (x1 : Int) (σ : gb_S) : Option gb_P :=
  gc (fx_110 x1 σ) (fun _ s2 =>
  gc (fx_24 x1 s2) (fun r3 s4 =>
  gq (gR r3) (
  (if r3 = 0 then
    some (.inl 1, s4)
  else
    some (.inl 0, s4)))))
/-- Treeclerk.requireWeight -/
def fx_113 (x1 : Int) (x2 : Int) (σ : gb_S) : Option gb_P :=
  gq (gR x1) (
  gq (gR x2) (
  (if x1 < x2 then
    some (.inr 1, σ)
  else
    (if 9 < x1 then
      some (.inr 1, σ)
    else
      some (.inl 0, σ)))))
/-- Treeclerk.reopen -/
def fx_122 (a1 : Nat) (σ : gb_S) : Option gb_P :=
  gc (fx_1 15 a1 41 σ) (fun _ s2 =>
  gc (fx_76 41 (a1 + 3) s2) (fun r3 s4 =>
  gq (gR r3) (
  (if r3 = 0 then
    gc (fx_70 (a1 + 3) 41 s4) (fun _ s7 =>
    some (.inl 1, (gb_up s7 a1 7 ((s7 a1 7) + 1))))
  else
    some (.inl 0, s4)))))
def fx_121_18 (k : Nat) (x1 : Int) (x2 : Int) (σ : gb_S) : Option gb_P := match k with
  | 0 => none
  | k + 1 =>
    gq (gR x2) (
    (if x2 < 14 then
      gq (0 ≤ x2 ∧ x2 < 14) (
      gq (gR (σ (47 + 10 * x2.toNat) 4)) (
      (if (σ (47 + 10 * x2.toNat) 4) = 0 then
        fx_121_18 k x1 (x2 + 1) σ
      else
        gc (fx_122 (47 + 10 * x2.toNat) σ) (fun r6 s7 =>
        gq (gR r6) (
        (if r6 = 0 then
          fx_121_18 k x1 (x2 + 1) s7
        else
          gq (gR x1) (
          gq (gR (s7 (47 + 10 * x2.toNat) 6)) (
          fx_121_18 k (min x1 (s7 (47 + 10 * x2.toNat) 6)) (x2 + 1) s7))))))))
    else
      gc (fx_49 x1 σ) (fun r2 s3 =>
      some (.inl r2, s3))))
/-- Treeclerk.retellKin -/
def fx_121 (σ : gb_S) : Option gb_P :=
  gc (fx_35 15 (-1) σ) (fun _ s2 =>
  fx_121_18 gFU 134 0 s2)
/-- Treeclerk.proof -/
def fx_85 (x1 : Int) (x2 : Int) (x3 : Int) (σ : gb_S) : Option gb_P :=
  gc (fx_110 x1 σ) (fun _ s2 =>
  gc (fx_110 x2 s2) (fun _ s4 =>
  gc (fx_113 x3 1 s4) (fun _ s6 =>
  gc (fx_27 x1 x2 s6) (fun r7 s8 =>
  gq (gR r7) (
  (if r7 = 0 then
    some (.inr 1, s8)
  else
    gq (gR (s8 6 5)) (
    (if (s8 6 5) < 30 then
      gc (fx_59 x1 x2 x3 s8) (fun r11 s12 =>
      gc (fx_121 s12) (fun r13 s14 =>
      some (.inl r11, s14)))
    else
      some (.inr 2, s8)))))))))
/-- Treeclerk.requireProof -/
def fx_111 (x1 : Int) (σ : gb_S) : Option gb_P :=
  gq (gR x1) (
  (if x1 < 0 then
    some (.inr 0, σ)
  else
    gq (gR (σ 6 5)) (
    (if x1 < (σ 6 5) then
      some (.inl 0, σ)
    else
      some (.inr 0, σ)))))
/-- Treeclerk.doubt -/
def fx_86 (x1 : Int) (x2 : Int) (σ : gb_S) : Option gb_P :=
  gc (fx_111 x1 σ) (fun _ s2 =>
  gc (fx_113 x2 1 s2) (fun _ s4 =>
  gc (fx_65 x1 s4) (fun r5 s6 =>
  gq (gR r5) (
  (if r5 = 0 then
    gq (gR (s6 6 9)) (
    (if (s6 6 9) < 30 then
      gc (fx_60 x1 x2 s6) (fun r9 s10 =>
      gc (fx_121 s10) (fun r11 s12 =>
      some (.inl r9, s12)))
    else
      some (.inr 2, s6)))
  else
    some (.inr 2, s6))))))
/-- Treeclerk.judge -/
def fx_87 (x1 : Int) (x2 : Int) (σ : gb_S) : Option gb_P :=
  gq (gR x1) (
  (if x1 < 0 then
    some (.inr 0, σ)
  else
    gq (gR (σ 6 9)) (
    (if x1 < (σ 6 9) then
      gc (fx_64 x1 σ) (fun r3 s4 =>
      gq (gR r3) (
      (if r3 = 0 then
        some (.inr 2, s4)
      else
        gc (fx_61 x1 x2 s4) (fun _ s7 =>
        gc (fx_121 s7) (fun r8 s9 =>
        some (.inl r8, s9))))))
    else
      some (.inr 0, σ)))))
/-- Treeclerk.strength -/
def fx_88 (x1 : Int) (σ : gb_S) : Option gb_P :=
  gc (fx_111 x1 σ) (fun _ s2 =>
  gc (fx_67 x1 s2) (fun r3 s4 =>
  some (.inl r3, s4)))
def fx_89_4 (k : Nat) (x1 : Int) (x2 : Int) (σ : gb_S) : Option gb_P := match k with
  | 0 => none
  | k + 1 =>
    gq (gR x2) (
    gq (gR (σ 6 9)) (
    (if x2 < (σ 6 9) then
      gc (fx_64 x2 σ) (fun r3 s4 =>
      gq (gR r3) (
      (if r3 = 0 then
        fx_89_4 k x1 (x2 + 1) s4
      else
        fx_89_4 k (x1 + 1) (x2 + 1) s4)))
    else
      some (.inl x1, σ))))
/-- Treeclerk.openDoubts -/
def fx_89 (σ : gb_S) : Option gb_P :=
  fx_89_4 gFU 0 0 σ
def fx_90_24 (x1 : Int) (x2 : Int) (σ : gb_S) : Option gb_P :=
  gq (gR x2) (
  (if x2 = 0 then
    gc (fx_30 15 x1 σ) (fun r4 s5 =>
    some (.inl r4, s5))
  else
    gc (fx_31 15 x1 σ) (fun r2 s3 =>
    some (.inl r2, s3))))
/-- Treeclerk.parentOf -/
def fx_90 (x1 : Int) (x2 : Int) (σ : gb_S) : Option gb_P :=
  gc (fx_110 x1 σ) (fun _ s2 =>
  gq (gR x2) (
  (if x2 = 0 then
    fx_90_24 x1 x2 s2
  else
    (if x2 = 1 then
      fx_90_24 x1 x2 s2
    else
      some (.inr 1, s2)))))
/-- Treeclerk.childrenOf -/
def fx_91 (x1 : Int) (σ : gb_S) : Option gb_P :=
  gc (fx_110 x1 σ) (fun _ s2 =>
  gc (fx_32 15 x1 s2) (fun r3 s4 =>
  some (.inl r3, s4)))
/-- Treeclerk.requireOthers -/
def fx_114 (x1 : Int) (x2 : Int) (σ : gb_S) : Option gb_P :=
  gq (gR x1) (
  gq (gR x2) (
  (if x1 = x2 then
    some (.inr 1, σ)
  else
    some (.inl 0, σ))))
/-- Treeclerk.will -/
def fx_92 (x1 : Int) (x2 : Int) (x3 : Int) (σ : gb_S) : Option gb_P :=
  gc (fx_110 x1 σ) (fun _ s2 =>
  gc (fx_110 x2 s2) (fun _ s4 =>
  gc (fx_114 x1 x2 s4) (fun _ s6 =>
  gc (fx_113 x3 0 s6) (fun _ s8 =>
  gc (fx_116 x1 s8) (fun _ s10 =>
  gq (0 ≤ x1 ∧ x1 < 14) (
  gc (fx_14 (47 + 10 * x1.toNat) x2 x3 s10) (fun r12 s13 =>
  some (.inl r12, s13))))))))
/-- Treeclerk.requireDead -/
def fx_117 (x1 : Int) (σ : gb_S) : Option gb_P :=
  gc (fx_24 x1 σ) (fun r1 s2 =>
  gq (gR r1) (
  (if r1 = 0 then
    some (.inr 2, s2)
  else
    some (.inl 0, s2))))
/-- Treeclerk.requireUnclosed -/
def fx_118 (a1 : Nat) (σ : gb_S) : Option gb_P :=
  gq (gR (σ a1 4)) (
  (if (σ a1 4) = 0 then
    some (.inl 0, σ)
  else
    some (.inr 2, σ)))
/-- Treeclerk.claim -/
def fx_93 (x1 : Int) (x2 : Int) (σ : gb_S) : Option gb_P :=
  gc (fx_110 x1 σ) (fun _ s2 =>
  gc (fx_110 x2 s2) (fun _ s4 =>
  gc (fx_116 x1 s4) (fun _ s6 =>
  gc (fx_117 x2 s6) (fun _ s8 =>
  gq (0 ≤ x2 ∧ x2 < 14) (
  gc (fx_118 (47 + 10 * x2.toNat) s8) (fun _ s11 =>
  gc (fx_15 (47 + 10 * x2.toNat) x1 s11) (fun r12 s13 =>
  gq (gR r12) (
  (if r12 = 0 then
    gc (fx_16 (47 + 10 * x2.toNat) x1 s13) (fun _ s16 =>
    some (.inl (s16 (47 + 10 * x2.toNat) 3), s16))
  else
    some (.inr 2, s13))))))))))
/-- Treeclerk.claims -/
def fx_94 (x1 : Int) (σ : gb_S) : Option gb_P :=
  gc (fx_110 x1 σ) (fun _ s2 =>
  gq (0 ≤ x1 ∧ x1 < 14) (
  some (.inl (s2 (47 + 10 * x1.toNat) 3), s2)))
/-- Treeclerk.close -/
def fx_95 (x1 : Int) (σ : gb_S) : Option gb_P :=
  gc (fx_110 x1 σ) (fun _ s2 =>
  gc (fx_117 x1 s2) (fun _ s4 =>
  gq (0 ≤ x1 ∧ x1 < 14) (
  gc (fx_118 (47 + 10 * x1.toNat) s4) (fun _ s7 =>
  gc (fx_1 15 (47 + 10 * x1.toNat) ((47 + 10 * x1.toNat) + 3) s7) (fun _ s9 =>
  gc (fx_47 (47 + 10 * x1.toNat) (gb_up (gb_up s9 (47 + 10 * x1.toNat) 4 1) (47 + 10 * x1.toNat) 5 ((gb_up s9 (47 + 10 * x1.toNat) 4 1) 2 4))) (fun r10 s11 =>
  gc (fx_75 ((47 + 10 * x1.toNat) + 3) (gb_up s11 (47 + 10 * x1.toNat) 6 r10)) (fun r12 s13 =>
  some (.inl r12, s13))))))))
/-- Treeclerk.isClosed -/
def fx_96 (x1 : Int) (σ : gb_S) : Option gb_P :=
  gc (fx_110 x1 σ) (fun _ s2 =>
  gq (0 ≤ x1 ∧ x1 < 14) (
  gq ((s2 (47 + 10 * x1.toNat) 4) = 0 ∨ (s2 (47 + 10 * x1.toNat) 4) = 1) (
  some (.inl (s2 (47 + 10 * x1.toNat) 4), s2))))
/-- Treeclerk.sharesNow -/
def fx_119 (x1 : Int) (σ : gb_S) : Option gb_P :=
  gq (0 ≤ x1 ∧ x1 < 14) (
  gq (gR (σ (47 + 10 * x1.toNat) 4)) (
  (if (σ (47 + 10 * x1.toNat) 4) = 0 then
    gc (fx_1 15 (47 + 10 * x1.toNat) 41 σ) (fun _ s4 =>
    some (.inl ((41 : Nat) : Int), s4))
  else
    some (.inl ((((47 + 10 * x1.toNat) + 3) : Nat) : Int), σ))))
/-- Treeclerk.shareAbove -/
def fx_97 (x1 : Int) (x2 : Int) (σ : gb_S) : Option gb_P :=
  gc (fx_110 x1 σ) (fun _ s2 =>
  gc (fx_110 x2 s2) (fun _ s4 =>
  gc (fx_117 x2 s4) (fun _ s6 =>
  gc (fx_119 x2 s6) (fun r7 s8 =>
  gq (gb_kd r7.toNat = 6) (
  gc (fx_71 r7.toNat x1 s8) (fun r9 s10 =>
  some (.inl r9, s10)))))))
/-- Treeclerk.shareBelow -/
def fx_98 (x1 : Int) (x2 : Int) (σ : gb_S) : Option gb_P :=
  gc (fx_110 x1 σ) (fun _ s2 =>
  gc (fx_110 x2 s2) (fun _ s4 =>
  gc (fx_117 x2 s4) (fun _ s6 =>
  gc (fx_119 x2 s6) (fun r7 s8 =>
  gq (gb_kd r7.toNat = 6) (
  gc (fx_72 r7.toNat x1 s8) (fun r9 s10 =>
  some (.inl r9, s10)))))))
/-- Treeclerk.shareAboveByWays -/
def fx_99 (x1 : Int) (x2 : Int) (σ : gb_S) : Option gb_P :=
  gc (fx_110 x1 σ) (fun _ s2 =>
  gc (fx_110 x2 s2) (fun _ s4 =>
  gc (fx_117 x2 s4) (fun _ s6 =>
  gq (0 ≤ x2 ∧ x2 < 14) (
  gc (fx_3 15 (47 + 10 * x2.toNat) 41 s6) (fun _ s9 =>
  gc (fx_71 41 x1 s9) (fun r10 s11 =>
  some (.inl r10, s11)))))))
/-- Treeclerk.heirs -/
def fx_100 (x1 : Int) (σ : gb_S) : Option gb_P :=
  gc (fx_110 x1 σ) (fun _ s2 =>
  gc (fx_117 x1 s2) (fun _ s4 =>
  gc (fx_119 x1 s4) (fun r5 s6 =>
  gq (gb_kd r5.toNat = 6) (
  gc (fx_75 r5.toNat s6) (fun r7 s8 =>
  some (.inl r7, s8))))))
/-- Treeclerk.wouldBeOthers -/
def fx_120 (a1 : Nat) (a2 : Nat) (x3 : Int) (σ : gb_S) : Option gb_P :=
  gc (fx_67 x3 σ) (fun r1 s2 =>
  gq (gR r1) (
  (if r1 = 0 then
    some (.inl 0, s2)
  else
    gc (fx_35 20 x3 s2) (fun _ s5 =>
    gc (fx_1 20 a1 44 s5) (fun _ s7 =>
    gc (fx_76 44 a2 s7) (fun r8 s9 =>
    gq (gR r8) (
    (if r8 = 0 then
      some (.inl 1, s9)
    else
      some (.inl 0, s9)))))))))
def fx_101_21 (k : Nat) (x1 : Int) (a2 : Nat) (x3 : Int) (x4 : Int) (σ : gb_S) : Option gb_P := match k with
  | 0 => none
  | k + 1 =>
    gq (gR x4) (
    gq (gR (σ 6 5)) (
    (if x4 < (σ 6 5) then
      gc (fx_66 x4 σ) (fun r3 s4 =>
      gq (gR r3) (
      (if 0 < r3 then
        gq (0 ≤ x1 ∧ x1 < 14) (
        gc (fx_120 (47 + 10 * x1.toNat) a2 x4 s4) (fun r7 s8 =>
        gq (gR r7) (
        (if r7 = 0 then
          fx_101_21 k x1 a2 x3 (x4 + 1) s8
        else
          fx_101_21 k x1 a2 (x3 + r3) (x4 + 1) s8))))
      else
        fx_101_21 k x1 a2 x3 (x4 + 1) s4)))
    else
      some (.inl x3, σ))))
/-- Treeclerk.disputes -/
def fx_101 (x1 : Int) (σ : gb_S) : Option gb_P :=
  gc (fx_110 x1 σ) (fun _ s2 =>
  gc (fx_117 x1 s2) (fun _ s4 =>
  gc (fx_119 x1 s4) (fun r5 s6 =>
  gq (gb_kd r5.toNat = 6) (
  fx_101_21 gFU x1 r5.toNat 0 0 s6))))
/-- Treeclerk.reopenings -/
def fx_102 (x1 : Int) (σ : gb_S) : Option gb_P :=
  gc (fx_110 x1 σ) (fun _ s2 =>
  gq (0 ≤ x1 ∧ x1 < 14) (
  some (.inl (s2 (47 + 10 * x1.toNat) 7), s2)))
/-- Treeclerk.requireUnits -/
def fx_115 (x1 : Int) (x2 : Int) (σ : gb_S) : Option gb_P :=
  gq (gR x1) (
  (if x1 < 0 then
    some (.inr 1, σ)
  else
    (if x1 < 60 then
      gq (gR x2) (
      (if x1 < x2 then
        (if 60 < x2 then
          some (.inr 1, σ)
        else
          some (.inl 0, σ))
      else
        some (.inr 1, σ)))
    else
      some (.inr 1, σ))))
/-- Treeclerk.grant -/
def fx_103 (x1 : Int) (x2 : Int) (x3 : Int) (σ : gb_S) : Option gb_P :=
  gc (fx_110 x1 σ) (fun _ s2 =>
  gc (fx_115 x2 x3 s2) (fun _ s4 =>
  gc (fx_116 x1 s4) (fun _ s6 =>
  gc (fx_41 x2 x3 s6) (fun r7 s8 =>
  gq (gR r7) (
  (if r7 = 0 then
    gc (fx_45 x1 x2 x3 s8) (fun _ s11 =>
    some (.inl (x3 - x2), s11))
  else
    some (.inr 2, s8)))))))
/-- Treeclerk.hand -/
def fx_104 (x1 : Int) (x2 : Int) (x3 : Int) (x4 : Int) (σ : gb_S) : Option gb_P :=
  gc (fx_110 x1 σ) (fun _ s2 =>
  gc (fx_110 x2 s2) (fun _ s4 =>
  gc (fx_114 x1 x2 s4) (fun _ s6 =>
  gc (fx_115 x3 x4 s6) (fun _ s8 =>
  gc (fx_116 x1 s8) (fun _ s10 =>
  gc (fx_116 x2 s10) (fun _ s12 =>
  gc (fx_42 x1 x3 x4 s12) (fun r13 s14 =>
  gq (gR r13) (
  (if r13 = 0 then
    some (.inr 2, s14)
  else
    gq (gR (s14 30 6)) (
    (if (s14 30 6) < 60 then
      gc (fx_46 x1 x2 x3 x4 s14) (fun _ s18 =>
      some (.inl r13, s18))
    else
      some (.inr 2, s14))))))))))))
/-- Treeclerk.requireUnit -/
def fx_112 (x1 : Int) (σ : gb_S) : Option gb_P :=
  gq (gR x1) (
  (if x1 < 0 then
    some (.inr 0, σ)
  else
    (if x1 < 60 then
      some (.inl 0, σ)
    else
      some (.inr 0, σ))))
/-- Treeclerk.owner -/
def fx_105 (x1 : Int) (σ : gb_S) : Option gb_P :=
  gc (fx_112 x1 σ) (fun _ s2 =>
  gc (fx_40 x1 s2) (fun r3 s4 =>
  some (.inl r3, s4)))
def fx_106_7 (k : Nat) (x1 : Int) (x2 : Int) (σ : gb_S) : Option gb_P := match k with
  | 0 => none
  | k + 1 =>
    gq (gR x2) (
    (if x2 < 14 then
      gq (0 ≤ x2 ∧ x2 < 14) (
      gq (gR (σ (47 + 10 * x2.toNat) 4)) (
      (if (σ (47 + 10 * x2.toNat) 4) = 0 then
        fx_106_7 k x1 (x2 + 1) σ
      else
        gc (fx_3 15 (47 + 10 * x2.toNat) ((47 + 10 * x2.toNat) + 6) σ) (fun _ s7 =>
        fx_106_7 k x1 (x2 + 1) s7))))
    else
      gc (fx_50 x1 σ) (fun r2 s3 =>
      some (.inl r2, s3))))
/-- Treeclerk.ownerAnew -/
def fx_106 (x1 : Int) (σ : gb_S) : Option gb_P :=
  gc (fx_112 x1 σ) (fun _ s2 =>
  fx_106_7 gFU x1 0 s2)
/-- Treeclerk.area -/
def fx_107 (x1 : Int) (σ : gb_S) : Option gb_P :=
  gc (fx_110 x1 σ) (fun _ s2 =>
  gc (fx_42 x1 0 60 s2) (fun r3 s4 =>
  some (.inl r3, s4)))
def fx_108_4 (k : Nat) (x1 : Int) (x2 : Int) (σ : gb_S) : Option gb_P := match k with
  | 0 => none
  | k + 1 =>
    gq (gR x2) (
    (if x2 < 60 then
      gc (fx_40 x2 σ) (fun r2 s3 =>
      gq (gR r2) (
      (if r2 = (-1) then
        fx_108_4 k x1 (x2 + 1) s3
      else
        gc (fx_43 x2 s3) (fun r5 s6 =>
        gq (gR r5) (
        (if r5 = x2 then
          fx_108_4 k (x1 + 1) (x2 + 1) s6
        else
          fx_108_4 k x1 (x2 + 1) s6))))))
    else
      some (.inl x1, σ)))
/-- Treeclerk.parcels -/
def fx_108 (σ : gb_S) : Option gb_P :=
  fx_108_4 gFU 0 0 σ
/-- Treeclerk.parcelAt -/
def fx_109 (x1 : Int) (σ : gb_S) : Option gb_P :=
  gc (fx_112 x1 σ) (fun _ s2 =>
  gc (fx_40 x1 s2) (fun r3 s4 =>
  gq (gR r3) (
  (if r3 = (-1) then
    some (.inr 3, s4)
  else
    gc (fx_43 x1 s4) (fun r6 s7 =>
    gc (fx_44 x1 s7) (fun r8 s9 =>
    some (.inl (((100 * r6) + r8) - r6), s9)))))))
/-- TreeclerkModel.thrown -/
def fx_125 (σ : gb_S) : Option gb_P :=
  some (.inl (σ 187 43), σ)
/-- TreeclerkModel.in -/
def fx_126 (x0 : Int) (x1 : Int) (x2 : Int) (σ : gb_S) : Option gb_P :=
  gq (gR x0) (
  gq (gR x1) (
  (if x0 < x1 then
    some (.inl 0, σ)
  else
    gq (gR x2) (
    (if x2 < x0 then
      some (.inl 0, σ)
    else
      some (.inl 1, σ))))))
/-- TreeclerkModel.asked -/
def fx_127 (x1 : Int) (σ : gb_S) : Option gb_P :=
  gq (gR x1) (
  (if x1 = 0 then
    gq (x1 = 0 ∨ x1 = 1) (
    some (.inl x1, (gb_up σ 187 43 1)))
  else
    gq (x1 = 0 ∨ x1 = 1) (
    some (.inl x1, (gb_up σ 187 43 0)))))
def fx_128_18 (y0 : Int) (σ : gb_S) : Option gb_P :=
  gq (gR ((gb_up σ 187 43 y0) 187 43)) (
  (if ((gb_up σ 187 43 y0) 187 43) = 0 then
    some (.inl 1, (gb_up σ 187 43 y0))
  else
    some (.inl 0, (gb_up σ 187 43 y0))))
/-- TreeclerkModel.asked -/
def fx_128 (x1 : Int) (x2 : Int) (σ : gb_S) : Option gb_P :=
  gq (gR x1) (
  (if x1 = 0 then
    fx_128_18 1 σ
  else
    gq (gR x2) (
    (if x2 = 0 then
      fx_128_18 2 σ
    else
      fx_128_18 0 σ))))
def fx_129_26 (y0 : Int) (σ : gb_S) : Option gb_P :=
  gq (gR ((gb_up σ 187 43 y0) 187 43)) (
  (if ((gb_up σ 187 43 y0) 187 43) = 0 then
    some (.inl 1, (gb_up σ 187 43 y0))
  else
    some (.inl 0, (gb_up σ 187 43 y0))))
/-- TreeclerkModel.asked -/
def fx_129 (x1 : Int) (x2 : Int) (x3 : Int) (σ : gb_S) : Option gb_P :=
  gq (gR x1) (
  (if x1 = 0 then
    fx_129_26 1 σ
  else
    gq (gR x2) (
    (if x2 = 0 then
      fx_129_26 2 σ
    else
      gq (gR x3) (
      (if x3 = 0 then
        fx_129_26 3 σ
      else
        fx_129_26 0 σ))))))
/-- TreeclerkModel.told -/
def fx_130 (x1 : Int) (σ : gb_S) : Option gb_P :=
  some (.inl x1, (gb_up σ 187 43 0))
/-- TreeclerkModel.isPerson -/
def fx_131 (x1 : Int) (σ : gb_S) : Option gb_P :=
  gc (fx_126 x1 0 ((σ 187 3) - 1) σ) (fun r1 s2 =>
  gq (r1 = 0 ∨ r1 = 1) (
  some (.inl r1, s2)))
/-- TreeclerkModel.isProof -/
def fx_132 (x1 : Int) (σ : gb_S) : Option gb_P :=
  gc (fx_126 x1 0 ((σ 187 8) - 1) σ) (fun r1 s2 =>
  gq (r1 = 0 ∨ r1 = 1) (
  some (.inl r1, s2)))
/-- TreeclerkModel.isDoubt -/
def fx_133 (x1 : Int) (σ : gb_S) : Option gb_P :=
  gc (fx_126 x1 0 ((σ 187 12) - 1) σ) (fun r1 s2 =>
  gq (r1 = 0 ∨ r1 = 1) (
  some (.inl r1, s2)))
/-- TreeclerkModel.isUnit -/
def fx_134 (x0 : Int) (σ : gb_S) : Option gb_P :=
  gc (fx_126 x0 0 59 σ) (fun r1 s2 =>
  gq (r1 = 0 ∨ r1 = 1) (
  some (.inl r1, s2)))
def fx_135_31 (x1 : Int) (y0 : Int) (y1 : Int) (σ : gb_S) : Option gb_P :=
  gc (fx_128 y1 y0 σ) (fun r1 s2 =>
  gq (gR r1) (
  (if r1 = 0 then
    some (.inl 0, s2)
  else
    some (.inl ((gb_up s2 187 0 ((s2 187 0) + x1)) 187 0), (gb_up s2 187 0 ((s2 187 0) + x1))))))
/-- TreeclerkModel.pass -/
def fx_135 (x1 : Int) (σ : gb_S) : Option gb_P :=
  gc (fx_126 x1 1 100 σ) (fun r1 s2 =>
  gq (gR r1) (
  (if r1 = 0 then
    fx_135_31 x1 0 r1 s2
  else
    gq (gR ((s2 187 0) + x1)) (
    (if 2000 < ((s2 187 0) + x1) then
      fx_135_31 x1 0 r1 s2
    else
      fx_135_31 x1 1 r1 s2)))))
/-- TreeclerkModel.today -/
def fx_136 (σ : gb_S) : Option gb_P :=
  gc (fx_130 (σ 187 0) σ) (fun r1 s2 =>
  some (.inl r1, s2))
def fx_137_98 (x2 : Int) (σ : gb_S) : Option gb_P :=
  gq (0 ≤ x2 ∧ x2 < 14) (
  some (.inl (((gb_up (gb_up (gb_up σ 210 x2.toNat (σ 187 3)) 187 3 (((gb_up σ 210 x2.toNat (σ 187 3)) 187 3) + 1)) 187 29 1) 187 3) - 1), (gb_up (gb_up (gb_up σ 210 x2.toNat (σ 187 3)) 187 3 (((gb_up σ 210 x2.toNat (σ 187 3)) 187 3) + 1)) 187 29 1)))
def fx_137_57 (k : Nat) (x1 : Int) (x2 : Int) (σ : gb_S) : Option gb_P := match k with
  | 0 => none
  | k + 1 =>
    gq (gR x2) (
    (if 0 < x2 then
      gq (0 ≤ (x2 - 1) ∧ (x2 - 1) < 14) (
      gq (0 ≤ (σ 210 (x2 - 1).toNat) ∧ (σ 210 (x2 - 1).toNat) < 14) (
      gq (gR (σ 188 (σ 210 (x2 - 1).toNat).toNat)) (
      gq (gR x1) (
      (if x1 < (σ 188 (σ 210 (x2 - 1).toNat).toNat) then
        gq (0 ≤ x2 ∧ x2 < 14) (
        fx_137_57 k x1 (x2 + (-1)) (gb_up σ 210 x2.toNat (σ 210 (x2 - 1).toNat)))
      else
        fx_137_98 x2 σ)))))
    else
      fx_137_98 x2 σ))
def fx_137_24 (x1 : Int) (y0 : Int) (y1 : Int) (σ : gb_S) : Option gb_P :=
  gc (fx_128 y1 y0 σ) (fun r1 s2 =>
  gq (gR r1) (
  (if r1 = 0 then
    some (.inl 0, s2)
  else
    gq (0 ≤ (s2 187 3) ∧ (s2 187 3) < 14) (
    gq (0 ≤ ((gb_up s2 188 (s2 187 3).toNat x1) 187 3) ∧ ((gb_up s2 188 (s2 187 3).toNat x1) 187 3) < 14) (
    fx_137_57 gFU x1 ((gb_up (gb_up s2 188 (s2 187 3).toNat x1) 189 ((gb_up s2 188 (s2 187 3).toNat x1) 187 3).toNat (-1)) 187 3) (gb_up (gb_up s2 188 (s2 187 3).toNat x1) 189 ((gb_up s2 188 (s2 187 3).toNat x1) 187 3).toNat (-1)))))))
/-- TreeclerkModel.birth -/
def fx_137 (x1 : Int) (σ : gb_S) : Option gb_P :=
  gc (fx_126 x1 0 (σ 187 0) σ) (fun r1 s2 =>
  gq (gR (s2 187 3)) (
  (if (s2 187 3) < 14 then
    fx_137_24 x1 1 r1 s2
  else
    fx_137_24 x1 0 r1 s2)))
def fx_138_171 (k50 : Int → Int → Int → gb_S → Option gb_P) (x1 : Int) (x4 : Int) (x5 : Int) (y0 : Int) (y1 : Int) (σ : gb_S) : Option gb_P :=
  gq (0 ≤ x4 ∧ x4 < 14) (
  gq (gR (σ 198 x4.toNat)) (
  (if (σ 198 x4.toNat) = 0 then
    k50 x1 (y1 + y0) (x4 + 1) (gb_up σ 202 x4.toNat x5)
  else
    k50 x1 (y1 + y0) (x4 + 1) (gb_up σ 202 x4.toNat (σ 202 x4.toNat)))))
def fx_138_146 (k50 : Int → Int → Int → gb_S → Option gb_P) (x1 : Int) (x3 : Int) (x4 : Int) (x5 : Int) (σ : gb_S) : Option gb_P :=
  gq (0 ≤ x4 ∧ x4 < 14) (
  gq (gR (σ 198 x4.toNat)) (
  (if (σ 198 x4.toNat) = 0 then
    fx_138_171 k50 x1 x4 x5 ((σ 202 x4.toNat) - x5) x3 σ
  else
    fx_138_171 k50 x1 x4 x5 0 x3 σ)))
def fx_138_65 (k : Nat) (k50 : Int → Int → Int → gb_S → Option gb_P) (x1 : Int) (x3 : Int) (x4 : Int) (x5 : Int) (x6 : Int) (σ : gb_S) : Option gb_P := match k with
  | 0 => none
  | k + 1 =>
    gq (0 ≤ x4 ∧ x4 < 14) (
    gq (gR x6) (
    gq (gR (σ 202 x4.toNat)) (
    (if x6 < (σ 202 x4.toNat) then
      gq (gR (σ 198 x4.toNat)) (
      (if (σ 198 x4.toNat) = 0 then
        gq (0 ≤ ((14 * x4) + x6) ∧ ((14 * x4) + x6) < 196) (
        gq (0 ≤ ((14 * x4) + x5) ∧ ((14 * x4) + x5) < 196) (
        gq (gR ((gb_up σ 201 ((14 * x4) + x5).toNat (σ 201 ((14 * x4) + x6).toNat)) 201 ((14 * x4) + x6).toNat)) (
        gq (gR x1) (
        (if ((gb_up σ 201 ((14 * x4) + x5).toNat (σ 201 ((14 * x4) + x6).toNat)) 201 ((14 * x4) + x6).toNat) = x1 then
          fx_138_65 k k50 x1 x3 x4 (x5 + 0) (x6 + 1) (gb_up σ 201 ((14 * x4) + x5).toNat (σ 201 ((14 * x4) + x6).toNat))
        else
          fx_138_65 k k50 x1 x3 x4 (x5 + 1) (x6 + 1) (gb_up σ 201 ((14 * x4) + x5).toNat (σ 201 ((14 * x4) + x6).toNat)))))))
      else
        fx_138_146 k50 x1 x3 x4 x5 σ))
    else
      fx_138_146 k50 x1 x3 x4 x5 σ))))
def fx_138_50 (k : Nat) (x1 : Int) (x3 : Int) (x4 : Int) (σ : gb_S) : Option gb_P := match k with
  | 0 => none
  | k + 1 =>
    gq (gR x4) (
    gq (gR (σ 187 3)) (
    (if x4 < (σ 187 3) then
      fx_138_65 gFU (fx_138_50 k) x1 x3 x4 0 0 σ
    else
      some (.inl x3, σ))))
def fx_138_27 (x1 : Int) (y0 : Int) (y1 : Int) (σ : gb_S) : Option gb_P :=
  gc (fx_128 y1 y0 σ) (fun r1 s2 =>
  gq (gR r1) (
  (if r1 = 0 then
    some (.inl 0, s2)
  else
    gq (0 ≤ x1 ∧ x1 < 14) (
    fx_138_50 gFU x1 0 0 (gb_up s2 189 x1.toNat (s2 187 0))))))
/-- TreeclerkModel.death -/
def fx_138 (x1 : Int) (σ : gb_S) : Option gb_P :=
  gc (fx_131 x1 σ) (fun r1 s2 =>
  gq (gR r1) (
  (if r1 = 0 then
    fx_138_27 x1 0 r1 s2
  else
    gq (0 ≤ x1 ∧ x1 < 14) (
    gq (gR (s2 189 x1.toNat)) (
    (if (s2 189 x1.toNat) = (-1) then
      fx_138_27 x1 1 r1 s2
    else
      fx_138_27 x1 0 r1 s2))))))
/-- TreeclerkModel.people -/
def fx_139 (σ : gb_S) : Option gb_P :=
  gc (fx_130 (σ 187 3) σ) (fun r1 s2 =>
  some (.inl r1, s2))
/-- TreeclerkModel.isAlive -/
def fx_140 (x1 : Int) (σ : gb_S) : Option gb_P :=
  gc (fx_131 x1 σ) (fun r1 s2 =>
  gc (fx_127 r1 s2) (fun r3 s4 =>
  gq (gR r3) (
  (if r3 = 0 then
    some (.inl 0, s4)
  else
    gq (0 ≤ x1 ∧ x1 < 14) (
    gq (gR (s4 189 x1.toNat)) (
    (if (s4 189 x1.toNat) = (-1) then
      some (.inl 1, s4)
    else
      some (.inl 0, s4))))))))
def fx_141_22 (k : Nat) (x1 : Int) (x2 : Int) (x3 : Int) (σ : gb_S) : Option gb_P := match k with
  | 0 => none
  | k + 1 =>
    gq (gR x3) (
    gq (gR (σ 187 12)) (
    (if x3 < (σ 187 12) then
      gq (0 ≤ x3 ∧ x3 < 30) (
      gq (gR (σ 196 x3.toNat)) (
      (if (σ 196 x3.toNat) = 0 then
        fx_141_22 k x1 (x2 - 0) (x3 + 1) σ
      else
        gq (gR (σ 194 x3.toNat)) (
        gq (gR x1) (
        (if (σ 194 x3.toNat) = x1 then
          fx_141_22 k x1 (x2 - (σ 195 x3.toNat)) (x3 + 1) σ
        else
          fx_141_22 k x1 (x2 - 0) (x3 + 1) σ))))))
    else
      gq (gR x2) (
      (if x2 < 0 then
        some (.inl 0, σ)
      else
        some (.inl x2, σ))))))
/-- TreeclerkModel.strong -/
def fx_141 (x1 : Int) (σ : gb_S) : Option gb_P :=
  gq (0 ≤ x1 ∧ x1 < 30) (
  gq (gR (σ 193 x1.toNat)) (
  (if (σ 193 x1.toNat) = 0 then
    fx_141_22 gFU x1 (σ 192 x1.toNat) 0 σ
  else
    fx_141_22 gFU x1 0 0 σ)))
def fx_142_47 (k5 : Int → Int → Int → Int → gb_S → Option gb_P) (x1 : Int) (x2 : Int) (x3 : Int) (x4 : Int) (y0 : Int) (σ : gb_S) : Option gb_P :=
  gq (gR y0) (
  gq (gR x3) (
  (if x3 < y0 then
    k5 x1 x2 y0 (x4 + 1) σ
  else
    k5 x1 x2 x3 (x4 + 1) σ)))
def fx_142_5 (k : Nat) (x1 : Int) (x2 : Int) (x3 : Int) (x4 : Int) (σ : gb_S) : Option gb_P := match k with
  | 0 => none
  | k + 1 =>
    gq (gR x4) (
    gq (gR (σ 187 8)) (
    (if x4 < (σ 187 8) then
      gq (0 ≤ x4 ∧ x4 < 30) (
      gq (gR (σ 190 x4.toNat)) (
      gq (gR x1) (
      (if (σ 190 x4.toNat) = x1 then
        gq (gR (σ 191 x4.toNat)) (
        gq (gR x2) (
        (if (σ 191 x4.toNat) = x2 then
          fx_142_47 (fx_142_5 k) x1 x2 x3 x4 (σ 211 x4.toNat) σ
        else
          fx_142_47 (fx_142_5 k) x1 x2 x3 x4 0 σ)))
      else
        fx_142_47 (fx_142_5 k) x1 x2 x3 x4 0 σ))))
    else
      some (.inl x3, σ))))
/-- TreeclerkModel.strongOf -/
def fx_142 (x1 : Int) (x2 : Int) (σ : gb_S) : Option gb_P :=
  fx_142_5 gFU x1 x2 0 0 σ
def fx_143_132 (k42 : Int → gb_S → Option gb_P) (k66 : Int → Int → gb_S → Option gb_P) (x1 : Int) (x2 : Int) (x3 : Int) (σ : gb_S) : Option gb_P :=
  gq (gR x3) (
  (if 0 < x3 then
    gq (0 ≤ x1 ∧ x1 < 14) (
    gq (gR (σ 213 x1.toNat)) (
    (if (σ 213 x1.toNat) = (-1) then
      k66 x1 (x2 + 1) (gb_up σ 213 x1.toNat x2)
    else
      gc (fx_142 (σ 213 x1.toNat) x1 σ) (fun r4 s5 =>
      gq (gR r4) (
      (if r4 < x3 then
        k66 x1 (x2 + 1) (gb_up s5 213 x1.toNat x2)
      else
        k66 x1 (x2 + 1) s5))))))
  else
    k66 x1 (x2 + 1) σ))
def fx_143_110 (k42 : Int → gb_S → Option gb_P) (k66 : Int → Int → gb_S → Option gb_P) (x1 : Int) (x2 : Int) (σ : gb_S) : Option gb_P :=
  gq (0 ≤ x1 ∧ x1 < 14) (
  k66 x1 (x2 + 1) (gb_up (gb_up σ 213 x1.toNat (σ 212 x1.toNat)) 212 x1.toNat x2))
def fx_143_66 (k : Nat) (k42 : Int → gb_S → Option gb_P) (x1 : Int) (x2 : Int) (σ : gb_S) : Option gb_P := match k with
  | 0 => none
  | k + 1 =>
    gq (gR x2) (
    gq (gR (σ 187 3)) (
    (if x2 < (σ 187 3) then
      gc (fx_142 x2 x1 σ) (fun r3 s4 =>
      gq (gR r3) (
      (if 0 < r3 then
        gq (0 ≤ x1 ∧ x1 < 14) (
        gq (gR (s4 212 x1.toNat)) (
        (if (s4 212 x1.toNat) = (-1) then
          fx_143_110 k42 (fx_143_66 k k42) x1 x2 s4
        else
          gc (fx_142 (s4 212 x1.toNat) x1 s4) (fun r8 s9 =>
          gq (gR r8) (
          (if r8 < r3 then
            fx_143_110 k42 (fx_143_66 k k42) x1 x2 s9
          else
            fx_143_132 k42 (fx_143_66 k k42) x1 x2 r3 s9))))))
      else
        fx_143_132 k42 (fx_143_66 k k42) x1 x2 r3 s4)))
    else
      k42 (x1 + 1) σ)))
def fx_143_42 (k : Nat) (x1 : Int) (σ : gb_S) : Option gb_P := match k with
  | 0 => none
  | k + 1 =>
    gq (gR x1) (
    gq (gR (σ 187 3)) (
    (if x1 < (σ 187 3) then
      gq (0 ≤ x1 ∧ x1 < 14) (
      fx_143_66 gFU (fx_143_42 k) x1 0 (gb_up (gb_up σ 212 x1.toNat (-1)) 213 x1.toNat (-1)))
    else
      some (.inl 0, σ))))
def fx_143_15 (k : Nat) (x1 : Int) (σ : gb_S) : Option gb_P := match k with
  | 0 => none
  | k + 1 =>
    gq (gR x1) (
    gq (gR (σ 187 8)) (
    (if x1 < (σ 187 8) then
      gc (fx_141 x1 σ) (fun r3 s4 =>
      gq (0 ≤ x1 ∧ x1 < 30) (
      fx_143_15 k (x1 + 1) (gb_up s4 211 x1.toNat r3)))
    else
      fx_143_42 gFU 0 σ)))
/-- TreeclerkModel.findsKin -/
def fx_143 (σ : gb_S) : Option gb_P :=
  gq (gR (σ 187 29)) (
  (if (σ 187 29) = 0 then
    some (.inl 0, σ)
  else
    fx_143_15 gFU 0 (gb_up σ 187 29 0)))
/-- TreeclerkModel.isParent -/
def fx_144 (x1 : Int) (x2 : Int) (σ : gb_S) : Option gb_P :=
  gq (0 ≤ x2 ∧ x2 < 14) (
  gq (gR (σ 212 x2.toNat)) (
  gq (gR x1) (
  (if (σ 212 x2.toNat) = x1 then
    some (.inl 1, σ)
  else
    gq (gR (σ 213 x2.toNat)) (
    (if (σ 213 x2.toNat) = x1 then
      some (.inl 1, σ)
    else
      some (.inl 0, σ)))))))
/-- TreeclerkModel.wasAlive -/
def fx_158 (x1 : Int) (x2 : Int) (σ : gb_S) : Option gb_P :=
  gq (0 ≤ x2 ∧ x2 < 14) (
  gq (gR (σ 198 x2.toNat)) (
  (if (σ 198 x2.toNat) = 0 then
    gq (0 ≤ x1 ∧ x1 < 14) (
    gq (gR (σ 189 x1.toNat)) (
    (if (σ 189 x1.toNat) = (-1) then
      some (.inl 1, σ)
    else
      some (.inl 0, σ))))
  else
    gq (gR x1) (
    gq (gR (σ 200 x2.toNat)) (
    (if x1 < (σ 200 x2.toNat) then
      gq (gR (gb_and (gb_shr (σ 199 x2.toNat) x1) 1)) (
      (if (gb_and (gb_shr (σ 199 x2.toNat) x1) 1) = 1 then
        some (.inl 1, σ)
      else
        some (.inl 0, σ)))
    else
      some (.inl 1, σ)))))))
def fx_163_6 (k : Nat) (x4 : Int) (x6 : Int) (σ : gb_S) : Option gb_P := match k with
  | 0 => none
  | k + 1 =>
    gq (gRL x6) (
    (if 0 < x6 then
      gq ((0 ≤ x4 ∧ x4 ≤ 9223372036854775807) ∧ 0 < x6 ∧ x6 ≤ 9223372036854775807) (
      fx_163_6 k x6 (x4 % x6) σ)
    else
      some (.inl x4, σ)))
/-- TreeclerkModel.common -/
def fx_163 (x0 : Int) (x2 : Int) (σ : gb_S) : Option gb_P :=
  fx_163_6 gFU x0 x2 σ
/-- TreeclerkModel.adds -/
def fx_164 (x1 : Int) (x2 : Int) (x4 : Int) (σ : gb_S) : Option gb_P :=
  gq (0 ≤ x1 ∧ x1 < 14) (
  gc (fx_163 (((σ 218 x1.toNat) * x4) + (x2 * (σ 219 x1.toNat))) ((σ 219 x1.toNat) * x4) σ) (fun r2 s3 =>
  gq ((0 ≤ (((σ 218 x1.toNat) * x4) + (x2 * (σ 219 x1.toNat))) ∧ (((σ 218 x1.toNat) * x4) + (x2 * (σ 219 x1.toNat))) ≤ 9223372036854775807) ∧ 0 < r2 ∧ r2 ≤ 9223372036854775807) (
  gq ((0 ≤ ((σ 219 x1.toNat) * x4) ∧ ((σ 219 x1.toNat) * x4) ≤ 9223372036854775807) ∧ 0 < r2 ∧ r2 ≤ 9223372036854775807) (
  some (.inl 0, (gb_up (gb_up s3 218 x1.toNat ((((σ 218 x1.toNat) * x4) + (x2 * (σ 219 x1.toNat))) / r2)) 219 x1.toNat (((σ 219 x1.toNat) * x4) / r2)))))))
/-- TreeclerkModel.counts -/
def fx_159 (x1 : Int) (x2 : Int) (σ : gb_S) : Option gb_P :=
  gq (0 ≤ x1 ∧ x1 < 14) (
  gq (0 ≤ x2 ∧ x2 < 14) (
  gq (gR (σ 188 x1.toNat)) (
  gq (gR (σ 189 x2.toNat)) (
  (if (σ 189 x2.toNat) < (σ 188 x1.toNat) then
    some (.inl 0, σ)
  else
    some (.inl 1, σ))))))
def fx_160_70 (k : Nat) (k56 : Int → gb_S → Option gb_P) (x2 : Int) (x3 : Int) (x4 : Int) (σ : gb_S) : Option gb_P := match k with
  | 0 => none
  | k + 1 =>
    gq (gR x4) (
    gq (gR (σ 187 3)) (
    (if x4 < (σ 187 3) then
      gq (0 ≤ x3 ∧ x3 < 14) (
      gq (gR (σ 214 x3.toNat)) (
      (if (σ 214 x3.toNat) = 0 then
        gc (fx_144 x3 x4 σ) (fun r5 s6 =>
        gq (gR r5) (
        (if r5 = 0 then
          fx_160_70 k k56 x2 x3 (x4 + 1) (gb_up s6 214 x3.toNat 0)
        else
          gq (0 ≤ x4 ∧ x4 < 14) (
          gq (gR (s6 214 x4.toNat)) (
          (if (s6 214 x4.toNat) = 0 then
            fx_160_70 k k56 x2 x3 (x4 + 1) (gb_up s6 214 x3.toNat 0)
          else
            fx_160_70 k k56 x2 x3 (x4 + 1) (gb_up s6 214 x3.toNat 1)))))))
      else
        fx_160_70 k k56 x2 x3 (x4 + 1) (gb_up σ 214 x3.toNat 1))))
    else
      k56 (x2 + (-1)) σ)))
def fx_160_56 (k : Nat) (x2 : Int) (σ : gb_S) : Option gb_P := match k with
  | 0 => none
  | k + 1 =>
    gq (gR x2) (
    (if x2 < 0 then
      some (.inl 0, σ)
    else
      gq (0 ≤ x2 ∧ x2 < 14) (
      fx_160_70 gFU (fx_160_56 k) x2 (σ 210 x2.toNat) 0 σ)))
def fx_160_6 (k : Nat) (x1 : Int) (x2 : Int) (σ : gb_S) : Option gb_P := match k with
  | 0 => none
  | k + 1 =>
    gq (gR x2) (
    gq (gR (σ 187 3)) (
    (if x2 < (σ 187 3) then
      gc (fx_159 x2 x1 σ) (fun r3 s4 =>
      gq (gR r3) (
      (if r3 = 0 then
        gq (0 ≤ x2 ∧ x2 < 14) (
        fx_160_6 k x1 (x2 + 1) (gb_up s4 214 x2.toNat 0))
      else
        gc (fx_158 x2 x1 s4) (fun r7 s8 =>
        gq (gR r7) (
        (if r7 = 0 then
          gq (0 ≤ x2 ∧ x2 < 14) (
          fx_160_6 k x1 (x2 + 1) (gb_up s8 214 x2.toNat 0))
        else
          gq (0 ≤ x2 ∧ x2 < 14) (
          fx_160_6 k x1 (x2 + 1) (gb_up s8 214 x2.toNat 1))))))))
    else
      fx_160_56 gFU ((σ 187 3) - 1) σ)))
/-- TreeclerkModel.findsLines -/
def fx_160 (x1 : Int) (σ : gb_S) : Option gb_P :=
  gc (fx_143 σ) (fun _ s2 =>
  fx_160_6 gFU x1 0 s2)
def fx_161_4 (k : Nat) (x1 : Int) (x2 : Int) (σ : gb_S) : Option gb_P := match k with
  | 0 => none
  | k + 1 =>
    gq (gR x2) (
    gq (gR (σ 187 3)) (
    (if x2 < (σ 187 3) then
      gq (0 ≤ x2 ∧ x2 < 14) (
      gq (gR (σ 215 x2.toNat)) (
      (if (σ 215 x2.toNat) = 0 then
        fx_161_4 k (x1 + 0) (x2 + 1) σ
      else
        gq (gR (σ 214 x2.toNat)) (
        (if (σ 214 x2.toNat) = 0 then
          fx_161_4 k (x1 + 0) (x2 + 1) σ
        else
          fx_161_4 k (x1 + 1) (x2 + 1) σ)))))
    else
      some (.inl x1, σ))))
/-- TreeclerkModel.heads -/
def fx_161 (σ : gb_S) : Option gb_P :=
  fx_161_4 gFU 0 0 σ
def fx_162_111 (k62 : Int → Int → gb_S → Option gb_P) (x1 : Int) (x2 : Int) (x3 : Int) (σ : gb_S) : Option gb_P :=
  gq (gR x3) (
  (if x3 = 0 then
    k62 x1 (x2 + 1) σ
  else
    gq (0 ≤ x2 ∧ x2 < 14) (
    gq (gR (σ 213 x2.toNat)) (
    (if (σ 213 x2.toNat) = (-1) then
      k62 x1 (x2 + 1) σ
    else
      gq (0 ≤ (σ 213 x2.toNat) ∧ (σ 213 x2.toNat) < 14) (
      k62 x1 (x2 + 1) (gb_up σ 215 (σ 213 x2.toNat).toNat 1)))))))
def fx_162_84 (k62 : Int → Int → gb_S → Option gb_P) (x1 : Int) (x2 : Int) (y0 : Int) (σ : gb_S) : Option gb_P :=
  gq (gR y0) (
  (if y0 = 0 then
    fx_162_111 k62 x1 x2 y0 σ
  else
    gq (0 ≤ x2 ∧ x2 < 14) (
    gq (gR (σ 212 x2.toNat)) (
    (if (σ 212 x2.toNat) = (-1) then
      fx_162_111 k62 x1 x2 y0 σ
    else
      gq (0 ≤ (σ 212 x2.toNat) ∧ (σ 212 x2.toNat) < 14) (
      fx_162_111 k62 x1 x2 y0 (gb_up σ 215 (σ 212 x2.toNat).toNat 1)))))))
def fx_162_62 (k : Nat) (x1 : Int) (x2 : Int) (σ : gb_S) : Option gb_P := match k with
  | 0 => none
  | k + 1 =>
    gq (gR x2) (
    gq (gR (σ 187 3)) (
    (if x2 < (σ 187 3) then
      gq (gR (gb_and (gb_shr x1 x2) 1)) (
      (if (gb_and (gb_shr x1 x2) 1) = 1 then
        fx_162_84 (fx_162_62 k) x1 x2 1 σ
      else
        fx_162_84 (fx_162_62 k) x1 x2 0 σ))
    else
      some (.inl 0, σ))))
def fx_162_39 (k : Nat) (x1 : Int) (x2 : Int) (σ : gb_S) : Option gb_P := match k with
  | 0 => none
  | k + 1 =>
    gq (gR x2) (
    gq (gR (σ 187 3)) (
    (if x2 < (σ 187 3) then
      gq (0 ≤ x2 ∧ x2 < 14) (
      fx_162_39 k x1 (x2 + 1) (gb_up σ 215 x2.toNat 0))
    else
      fx_162_62 gFU x1 0 σ)))
def fx_162_4 (k : Nat) (x1 : Int) (x2 : Int) (σ : gb_S) : Option gb_P := match k with
  | 0 => none
  | k + 1 =>
    gq (gR x2) (
    gq (gR (σ 187 3)) (
    (if x2 < (σ 187 3) then
      gq (0 ≤ x2 ∧ x2 < 14) (
      gq (gR (σ 215 x2.toNat)) (
      (if (σ 215 x2.toNat) = 0 then
        fx_162_4 k (gb_or x1 0) (x2 + 1) σ
      else
        fx_162_4 k (gb_or x1 (gb_shl 1 x2)) (x2 + 1) σ)))
    else
      fx_162_39 gFU x1 0 σ)))
/-- TreeclerkModel.goesUp -/
def fx_162 (σ : gb_S) : Option gb_P :=
  fx_162_4 gFU 0 0 σ
def fx_165_4 (k : Nat) (x1 : Int) (x2 : Int) (x3 : Int) (σ : gb_S) : Option gb_P := match k with
  | 0 => none
  | k + 1 =>
    gq (gR x3) (
    gq (gR (σ 187 3)) (
    (if x3 < (σ 187 3) then
      gc (fx_144 x1 x3 σ) (fun r3 s4 =>
      gq (gR r3) (
      (if r3 = 0 then
        fx_165_4 k x1 (x2 + 0) (x3 + 1) s4
      else
        gq (0 ≤ x3 ∧ x3 < 14) (
        gq (gR (s4 214 x3.toNat)) (
        (if (s4 214 x3.toNat) = 0 then
          fx_165_4 k x1 (x2 + 0) (x3 + 1) s4
        else
          fx_165_4 k x1 (x2 + 1) (x3 + 1) s4))))))
    else
      some (.inl x2, σ))))
/-- TreeclerkModel.livingChildren -/
def fx_165 (x1 : Int) (σ : gb_S) : Option gb_P :=
  fx_165_4 gFU x1 0 0 σ
def fx_167_39 (k : Nat) (x1 : Int) (x2 : Int) (x4 : Int) (x6 : Int) (σ : gb_S) : Option gb_P := match k with
  | 0 => none
  | k + 1 =>
    gq (gR x6) (
    gq (gR (σ 187 3)) (
    (if x6 < (σ 187 3) then
      gc (fx_144 x1 x6 σ) (fun r3 s4 =>
      gq (gR r3) (
      (if r3 = 0 then
        fx_167_39 k x1 x2 x4 (x6 + 1) s4
      else
        gq (0 ≤ x6 ∧ x6 < 14) (
        gq (gR (s4 214 x6.toNat)) (
        (if (s4 214 x6.toNat) = 0 then
          fx_167_39 k x1 x2 x4 (x6 + 1) s4
        else
          gc (fx_164 x6 x2 x4 s4) (fun _ s9 =>
          fx_167_39 k x1 x2 x4 (x6 + 1) s9)))))))
    else
      some (.inl 0, σ))))
/-- TreeclerkModel.sharesOut -/
def fx_167 (x1 : Int) (σ : gb_S) : Option gb_P :=
  gq (0 ≤ x1 ∧ x1 < 14) (
  gc (fx_165 x1 σ) (fun r2 s3 =>
  gq (gR r2) (
  fx_167_39 gFU x1 (σ 218 x1.toNat) ((σ 219 x1.toNat) * r2) 0 (gb_up (gb_up s3 218 x1.toNat 0) 219 x1.toNat 1))))
def fx_166_124 (k : Nat) (x1 : Int) (x2 : Int) (x3 : Int) (σ : gb_S) : Option gb_P := match k with
  | 0 => none
  | k + 1 =>
    gq (gR x3) (
    gq (gR (σ 187 3)) (
    (if x3 < (σ 187 3) then
      gq (0 ≤ x3 ∧ x3 < 14) (
      gq (0 ≤ (σ 210 x3.toNat) ∧ (σ 210 x3.toNat) < 14) (
      gq (gRL (σ 218 (σ 210 x3.toNat).toNat)) (
      (if 0 < (σ 218 (σ 210 x3.toNat).toNat) then
        gc (fx_158 (σ 210 x3.toNat) x1 σ) (fun r7 s8 =>
        gq (gR r7) (
        (if r7 = 0 then
          gc (fx_167 (σ 210 x3.toNat) s8) (fun _ s11 =>
          fx_166_124 k x1 x2 (x3 + 1) s11)
        else
          fx_166_124 k x1 x2 (x3 + 1) s8)))
      else
        fx_166_124 k x1 x2 (x3 + 1) σ))))
    else
      gq (gR x2) (
      (if 0 < x2 then
        some (.inl 1, σ)
      else
        some (.inl 0, σ))))))
def fx_166_30 (k7 : Int → Int → gb_S → Option gb_P) (x1 : Int) (x2 : Int) (y0 : Int) (y1 : Int) (σ : gb_S) : Option gb_P :=
  gq (0 ≤ y1 ∧ y1 < 14) (
  gq (y0 = 0 ∨ y0 = 1) (
  gq (0 ≤ x2 ∧ x2 < 14) (
  k7 x1 (x2 + 1) (gb_up (gb_up (gb_up σ 215 y1.toNat y0) 218 x2.toNat 0) 219 x2.toNat 1))))
def fx_166_82 (k : Nat) (x1 : Int) (x2 : Int) (x3 : Int) (σ : gb_S) : Option gb_P := match k with
  | 0 => none
  | k + 1 =>
    gq (gR x3) (
    gq (gR (σ 187 3)) (
    (if x3 < (σ 187 3) then
      gq (0 ≤ x3 ∧ x3 < 14) (
      gq (gR (σ 215 x3.toNat)) (
      (if (σ 215 x3.toNat) = 0 then
        fx_166_82 k x1 x2 (x3 + 1) σ
      else
        gq (gR (σ 214 x3.toNat)) (
        (if (σ 214 x3.toNat) = 0 then
          fx_166_82 k x1 x2 (x3 + 1) σ
        else
          gq (gR x2) (
          gc (fx_164 x3 1 x2 σ) (fun _ s8 =>
          fx_166_82 k x1 x2 (x3 + 1) s8)))))))
    else
      fx_166_124 gFU x1 x2 0 σ)))
def fx_166_53 (k : Nat) (x1 : Int) (x2 : Int) (σ : gb_S) : Option gb_P := match k with
  | 0 => none
  | k + 1 =>
    gq (gR x2) (
    (if x2 < 2 then
      gc (fx_161 σ) (fun r4 s5 =>
      gq (gR r4) (
      (if r4 = 0 then
        gc (fx_162 s5) (fun _ s10 =>
        fx_166_53 k x1 (x2 + 1) s10)
      else
        gc (fx_161 s5) (fun r7 s8 =>
        fx_166_82 gFU x1 r7 0 s8))))
    else
      gc (fx_161 σ) (fun r2 s3 =>
      fx_166_82 gFU x1 r2 0 s3)))
def fx_166_7 (k : Nat) (x1 : Int) (x2 : Int) (σ : gb_S) : Option gb_P := match k with
  | 0 => none
  | k + 1 =>
    gq (gR x2) (
    gq (gR (σ 187 3)) (
    (if x2 < (σ 187 3) then
      gq (gR x1) (
      (if x2 = x1 then
        fx_166_30 (fx_166_7 k) x1 x2 1 x2 σ
      else
        fx_166_30 (fx_166_7 k) x1 x2 0 x2 σ))
    else
      fx_166_53 gFU x1 0 σ)))
/-- TreeclerkModel.sharesByKin -/
def fx_166 (x1 : Int) (σ : gb_S) : Option gb_P :=
  gc (fx_160 x1 σ) (fun _ s2 =>
  fx_166_7 gFU x1 0 s2)
def fx_168_199 (k78 : Int → Int → Int → Int → Int → gb_S → Option gb_P) (x1 : Int) (x2 : Int) (x3 : Int) (x4 : Int) (x5 : Int) (y0 : Int) (y1 : Int) (y2 : Int) (σ : gb_S) : Option gb_P :=
  gc (fx_164 y2 y1 y0 σ) (fun _ s2 =>
  gq (0 ≤ x5 ∧ x5 < 14) (
  k78 x1 x2 x3 x4 (x5 + 1) (gb_up (gb_up s2 216 x5.toNat (s2 218 x5.toNat)) 217 x5.toNat ((gb_up s2 216 x5.toNat (s2 218 x5.toNat)) 219 x5.toNat))))
def fx_168_167 (k78 : Int → Int → Int → Int → Int → gb_S → Option gb_P) (x1 : Int) (x2 : Int) (x3 : Int) (x4 : Int) (x5 : Int) (y0 : Int) (σ : gb_S) : Option gb_P :=
  gq (gR y0) (
  gq (gR x3) (
  (if x3 = 0 then
    fx_168_199 k78 x1 x2 x3 x4 x5 1 y0 x5 σ
  else
    gq (gR x4) (
    (if x4 = 0 then
      fx_168_199 k78 x1 x2 x3 x4 x5 x3 y0 x5 σ
    else
      fx_168_199 k78 x1 x2 x3 x4 x5 (2 * x3) y0 x5 σ)))))
def fx_168_137 (k78 : Int → Int → Int → Int → Int → gb_S → Option gb_P) (x1 : Int) (x2 : Int) (x3 : Int) (x4 : Int) (x5 : Int) (σ : gb_S) : Option gb_P :=
  gq (gR x3) (
  (if 0 < x3 then
    gc (fx_158 x5 x1 σ) (fun r2 s3 =>
    gq (gR r2) (
    (if r2 = 0 then
      fx_168_167 k78 x1 x2 x3 x4 x5 0 s3
    else
      gq (0 ≤ ((14 * x1) + x5) ∧ ((14 * x1) + x5) < 196) (
      fx_168_167 k78 x1 x2 x3 x4 x5 (s3 197 ((14 * x1) + x5).toNat) s3))))
  else
    fx_168_167 k78 x1 x2 x3 x4 x5 0 σ))
def fx_168_100 (k78 : Int → Int → Int → Int → Int → gb_S → Option gb_P) (x1 : Int) (x2 : Int) (x3 : Int) (x4 : Int) (x5 : Int) (σ : gb_S) : Option gb_P :=
  gq (0 ≤ x5 ∧ x5 < 14) (
  fx_168_137 k78 x1 x2 x3 x4 x5 (gb_up (gb_up σ 218 x5.toNat 0) 219 x5.toNat 1))
def fx_168_96 (k78 : Int → Int → Int → Int → Int → gb_S → Option gb_P) (x1 : Int) (x2 : Int) (x3 : Int) (x4 : Int) (x5 : Int) (σ : gb_S) : Option gb_P :=
  gq (gR x2) (
  (if x2 = 0 then
    fx_168_100 k78 x1 x2 x3 x4 x5 σ
  else
    gq (gR x4) (
    (if x4 = 0 then
      fx_168_137 k78 x1 x2 x3 x4 x5 σ
    else
      gq (0 ≤ x5 ∧ x5 < 14) (
      fx_168_137 k78 x1 x2 x3 x4 x5 (gb_up σ 219 x5.toNat ((σ 219 x5.toNat) * 2)))))))
def fx_168_78 (k : Nat) (x1 : Int) (x2 : Int) (x3 : Int) (x4 : Int) (x5 : Int) (σ : gb_S) : Option gb_P := match k with
  | 0 => none
  | k + 1 =>
    gq (gR x5) (
    gq (gR (σ 187 3)) (
    (if x5 < (σ 187 3) then
      gq (gR x3) (
      (if 0 < x3 then
        gq (gR x4) (
        (if x4 = 0 then
          fx_168_100 (fx_168_78 k) x1 x2 x3 x4 x5 σ
        else
          fx_168_96 (fx_168_78 k) x1 x2 x3 x4 x5 σ))
      else
        fx_168_96 (fx_168_78 k) x1 x2 x3 x4 x5 σ))
    else
      some (.inl 0, σ))))
end GD0
