/- the pure functions of the methods: of the class, of the reference (nothing runs it here: it serves the invariant alone), of whole's helpers; by program -/
section GD1
def fx_168_11 (k : Nat) (x1 : Int) (x2 : Int) (x3 : Int) (x4 : Int) (σ : gb_S) : Option gb_P := match k with
  | 0 => none
  | k + 1 =>
    gq (gR x4) (
    gq (gR (σ 187 3)) (
    (if x4 < (σ 187 3) then
      gc (fx_158 x4 x1 σ) (fun r6 s7 =>
      gq (gR r6) (
      (if r6 = 0 then
        fx_168_11 k x1 x2 (x3 + 0) (x4 + 1) s7
      else
        gq (0 ≤ ((14 * x1) + x4) ∧ ((14 * x1) + x4) < 196) (
        fx_168_11 k x1 x2 (x3 + (s7 197 ((14 * x1) + x4).toNat)) (x4 + 1) s7))))
    else
      gq (gR x3) (
      (if 0 < x3 then
        gq (0 ≤ x1 ∧ x1 < 14) (
        gq (gR (σ 214 x1.toNat)) (
        (if (σ 214 x1.toNat) = 0 then
          fx_168_78 gFU x1 x2 x3 0 0 σ
        else
          fx_168_78 gFU x1 x2 x3 1 0 σ)))
      else
        fx_168_78 gFU x1 x2 x3 0 0 σ)))))
/-- TreeclerkModel.shares -/
def fx_168 (x1 : Int) (σ : gb_S) : Option gb_P :=
  gc (fx_166 x1 σ) (fun r1 s2 =>
  fx_168_11 gFU x1 r1 0 0 s2)
def fx_170_26 (k : Nat) (k2 : Int → gb_S → Option gb_P) (x1 : Int) (x2 : Int) (σ : gb_S) : Option gb_P := match k with
  | 0 => none
  | k + 1 =>
    gq (gR x2) (
    gq (gR (σ 187 3)) (
    (if x2 < (σ 187 3) then
      gq (0 ≤ x2 ∧ x2 < 14) (
      gq (0 ≤ ((14 * x1) + x2) ∧ ((14 * x1) + x2) < 196) (
      fx_170_26 k k2 x1 (x2 + 1) (gb_up (gb_up σ 220 ((14 * x1) + x2).toNat (σ 216 x2.toNat)) 221 ((14 * x1) + x2).toNat ((gb_up σ 220 ((14 * x1) + x2).toNat (σ 216 x2.toNat)) 217 x2.toNat))))
    else
      k2 (x1 + 1) σ)))
def fx_170_2 (k : Nat) (x1 : Int) (σ : gb_S) : Option gb_P := match k with
  | 0 => none
  | k + 1 =>
    gq (gR x1) (
    gq (gR (σ 187 3)) (
    (if x1 < (σ 187 3) then
      gq (0 ≤ x1 ∧ x1 < 14) (
      gq (gR (σ 198 x1.toNat)) (
      (if (σ 198 x1.toNat) = 0 then
        fx_170_2 k (x1 + 1) σ
      else
        gc (fx_168 x1 σ) (fun _ s6 =>
        fx_170_26 gFU (fx_170_2 k) x1 0 s6))))
    else
      some (.inl 0, σ))))
/-- TreeclerkModel.keeps -/
def fx_170 (σ : gb_S) : Option gb_P :=
  fx_170_2 gFU 0 σ
def fx_171_9 (k : Nat) (x1 : Int) (x2 : Int) (x3 : Int) (σ : gb_S) : Option gb_P := match k with
  | 0 => none
  | k + 1 =>
    gq (gR x3) (
    gq (gR (σ 187 3)) (
    (if x3 < (σ 187 3) then
      gq (gR x2) (
      (if x2 = 0 then
        gq (0 ≤ x3 ∧ x3 < 14) (
        gq (0 ≤ ((14 * x1) + x3) ∧ ((14 * x1) + x3) < 196) (
        gq (gRL (σ 216 x3.toNat)) (
        gq (gRL (σ 220 ((14 * x1) + x3).toNat)) (
        (if (σ 216 x3.toNat) = (σ 220 ((14 * x1) + x3).toNat) then
          gq (gRL (σ 217 x3.toNat)) (
          gq (gRL (σ 221 ((14 * x1) + x3).toNat)) (
          (if (σ 217 x3.toNat) = (σ 221 ((14 * x1) + x3).toNat) then
            fx_171_9 k x1 0 (x3 + 1) σ
          else
            fx_171_9 k x1 1 (x3 + 1) σ)))
        else
          fx_171_9 k x1 1 (x3 + 1) σ)))))
      else
        fx_171_9 k x1 1 (x3 + 1) σ))
    else
      gq (x2 = 0 ∨ x2 = 1) (
      some (.inl x2, σ)))))
/-- TreeclerkModel.areOthers -/
def fx_171 (x1 : Int) (σ : gb_S) : Option gb_P :=
  gc (fx_168 x1 σ) (fun _ s2 =>
  fx_171_9 gFU x1 0 0 s2)
def fx_172_2 (k : Nat) (x1 : Int) (σ : gb_S) : Option gb_P := match k with
  | 0 => none
  | k + 1 =>
    gq (gR x1) (
    gq (gR (σ 187 3)) (
    (if x1 < (σ 187 3) then
      gq (0 ≤ x1 ∧ x1 < 14) (
      gq (gR (σ 198 x1.toNat)) (
      (if (σ 198 x1.toNat) = 0 then
        fx_172_2 k (x1 + 1) (gb_up σ 203 x1.toNat ((σ 203 x1.toNat) + 0))
      else
        gc (fx_171 x1 σ) (fun r5 s6 =>
        gq (gR r5) (
        (if r5 = 0 then
          fx_172_2 k (x1 + 1) (gb_up s6 203 x1.toNat ((σ 203 x1.toNat) + 0))
        else
          fx_172_2 k (x1 + 1) (gb_up s6 203 x1.toNat ((σ 203 x1.toNat) + 1))))))))
    else
      some (.inl 0, σ))))
/-- TreeclerkModel.reopens -/
def fx_172 (σ : gb_S) : Option gb_P :=
  fx_172_2 gFU 0 σ
def fx_145_75 (x1 : Int) (x2 : Int) (x3 : Int) (y0 : Int) (y1 : Int) (y2 : Int) (σ : gb_S) : Option gb_P :=
  gc (fx_129 y2 y1 y0 σ) (fun r1 s2 =>
  gq (gR r1) (
  (if r1 = 0 then
    some (.inl 0, s2)
  else
    gc (fx_170 s2) (fun _ s5 =>
    gq (0 ≤ (s5 187 8) ∧ (s5 187 8) < 30) (
    gq (0 ≤ ((gb_up s5 190 (s5 187 8).toNat x1) 187 8) ∧ ((gb_up s5 190 (s5 187 8).toNat x1) 187 8) < 30) (
    gq (0 ≤ ((gb_up (gb_up s5 190 (s5 187 8).toNat x1) 191 ((gb_up s5 190 (s5 187 8).toNat x1) 187 8).toNat x2) 187 8) ∧ ((gb_up (gb_up s5 190 (s5 187 8).toNat x1) 191 ((gb_up s5 190 (s5 187 8).toNat x1) 187 8).toNat x2) 187 8) < 30) (
    gc (fx_172 (gb_up (gb_up (gb_up (gb_up (gb_up s5 190 (s5 187 8).toNat x1) 191 ((gb_up s5 190 (s5 187 8).toNat x1) 187 8).toNat x2) 192 ((gb_up (gb_up s5 190 (s5 187 8).toNat x1) 191 ((gb_up s5 190 (s5 187 8).toNat x1) 187 8).toNat x2) 187 8).toNat x3) 187 8 (((gb_up (gb_up (gb_up s5 190 (s5 187 8).toNat x1) 191 ((gb_up s5 190 (s5 187 8).toNat x1) 187 8).toNat x2) 192 ((gb_up (gb_up s5 190 (s5 187 8).toNat x1) 191 ((gb_up s5 190 (s5 187 8).toNat x1) 187 8).toNat x2) 187 8).toNat x3) 187 8) + 1)) 187 29 1)) (fun _ s10 =>
    some (.inl ((s10 187 8) - 1), s10)))))))))
def fx_145_61 (x1 : Int) (x2 : Int) (x3 : Int) (y0 : Int) (y1 : Int) (σ : gb_S) : Option gb_P :=
  gq (gR (σ 187 8)) (
  (if (σ 187 8) < 30 then
    fx_145_75 x1 x2 x3 1 y0 y1 σ
  else
    fx_145_75 x1 x2 x3 0 y0 y1 σ))
def fx_145_21 (x1 : Int) (x2 : Int) (x3 : Int) (y0 : Int) (σ : gb_S) : Option gb_P :=
  gq (gR y0) (
  (if y0 = 0 then
    fx_145_61 x1 x2 x3 0 y0 σ
  else
    gc (fx_126 x3 1 9 σ) (fun r2 s3 =>
    gq (gR r2) (
    (if r2 = 0 then
      fx_145_61 x1 x2 x3 0 y0 s3
    else
      gq (0 ≤ x2 ∧ x2 < 14) (
      gq (0 ≤ x1 ∧ x1 < 14) (
      gq (gR (s3 188 x2.toNat)) (
      gq (gR (s3 188 x1.toNat)) (
      (if (s3 188 x1.toNat) < (s3 188 x2.toNat) then
        fx_145_61 x1 x2 x3 1 y0 s3
      else
        fx_145_61 x1 x2 x3 0 y0 s3))))))))))
/-- TreeclerkModel.proof -/
def fx_145 (x1 : Int) (x2 : Int) (x3 : Int) (σ : gb_S) : Option gb_P :=
  gc (fx_131 x1 σ) (fun r1 s2 =>
  gq (gR r1) (
  (if r1 = 0 then
    fx_145_21 x1 x2 x3 0 s2
  else
    gc (fx_131 x2 s2) (fun r4 s5 =>
    gq (gR r4) (
    (if r4 = 0 then
      fx_145_21 x1 x2 x3 0 s5
    else
      fx_145_21 x1 x2 x3 1 s5))))))
def fx_146_42 (x1 : Int) (x2 : Int) (y0 : Int) (y1 : Int) (y2 : Int) (σ : gb_S) : Option gb_P :=
  gc (fx_129 y2 y1 y0 σ) (fun r1 s2 =>
  gq (gR r1) (
  (if r1 = 0 then
    some (.inl 0, s2)
  else
    gc (fx_170 s2) (fun _ s5 =>
    gq (0 ≤ (s5 187 12) ∧ (s5 187 12) < 30) (
    gq (0 ≤ ((gb_up s5 194 (s5 187 12).toNat x1) 187 12) ∧ ((gb_up s5 194 (s5 187 12).toNat x1) 187 12) < 30) (
    gq (0 ≤ ((gb_up (gb_up s5 194 (s5 187 12).toNat x1) 195 ((gb_up s5 194 (s5 187 12).toNat x1) 187 12).toNat x2) 187 12) ∧ ((gb_up (gb_up s5 194 (s5 187 12).toNat x1) 195 ((gb_up s5 194 (s5 187 12).toNat x1) 187 12).toNat x2) 187 12) < 30) (
    gc (fx_172 (gb_up (gb_up (gb_up (gb_up (gb_up s5 194 (s5 187 12).toNat x1) 195 ((gb_up s5 194 (s5 187 12).toNat x1) 187 12).toNat x2) 196 ((gb_up (gb_up s5 194 (s5 187 12).toNat x1) 195 ((gb_up s5 194 (s5 187 12).toNat x1) 187 12).toNat x2) 187 12).toNat 1) 187 12 (((gb_up (gb_up (gb_up s5 194 (s5 187 12).toNat x1) 195 ((gb_up s5 194 (s5 187 12).toNat x1) 187 12).toNat x2) 196 ((gb_up (gb_up s5 194 (s5 187 12).toNat x1) 195 ((gb_up s5 194 (s5 187 12).toNat x1) 187 12).toNat x2) 187 12).toNat 1) 187 12) + 1)) 187 29 1)) (fun _ s10 =>
    some (.inl ((s10 187 12) - 1), s10)))))))))
/-- TreeclerkModel.doubt -/
def fx_146 (x1 : Int) (x2 : Int) (σ : gb_S) : Option gb_P :=
  gc (fx_132 x1 σ) (fun r1 s2 =>
  gc (fx_126 x2 1 9 s2) (fun r3 s4 =>
  gq (gR r1) (
  (if r1 = 0 then
    fx_146_42 x1 x2 0 r3 r1 s4
  else
    gq (0 ≤ x1 ∧ x1 < 30) (
    gq (gR (s4 193 x1.toNat)) (
    (if (s4 193 x1.toNat) = 0 then
      gq (gR (s4 187 12)) (
      (if (s4 187 12) < 30 then
        fx_146_42 x1 x2 1 r3 r1 s4
      else
        fx_146_42 x1 x2 0 r3 r1 s4))
    else
      fx_146_42 x1 x2 0 r3 r1 s4)))))))
def fx_169_9 (k : Nat) (x2 : Int) (x3 : Int) (σ : gb_S) : Option gb_P := match k with
  | 0 => none
  | k + 1 =>
    gq (gR x3) (
    gq (gR (σ 187 3)) (
    (if x3 < (σ 187 3) then
      gq (0 ≤ x3 ∧ x3 < 14) (
      gq (gRL (σ 216 x3.toNat)) (
      (if 0 < (σ 216 x3.toNat) then
        fx_169_9 k (x2 + 1) (x3 + 1) σ
      else
        fx_169_9 k (x2 + 0) (x3 + 1) σ)))
    else
      some (.inl x2, σ))))
/-- TreeclerkModel.heirsOf -/
def fx_169 (x1 : Int) (σ : gb_S) : Option gb_P :=
  gc (fx_168 x1 σ) (fun _ s2 =>
  fx_169_9 gFU 0 0 s2)
def fx_153_5 (k : Nat) (x1 : Int) (x2 : Int) (x3 : Int) (x4 : Int) (σ : gb_S) : Option gb_P := match k with
  | 0 => none
  | k + 1 =>
    gq (0 ≤ x2 ∧ x2 < 14) (
    gq (gR x4) (
    gq (gR (σ 202 x2.toNat)) (
    (if x4 < (σ 202 x2.toNat) then
      gq (0 ≤ ((14 * x2) + x4) ∧ ((14 * x2) + x4) < 196) (
      gq (gR (σ 201 ((14 * x2) + x4).toNat)) (
      gq (gR x1) (
      (if (σ 201 ((14 * x2) + x4).toNat) = x1 then
        fx_153_5 k x1 x2 x4 (x4 + 1) σ
      else
        fx_153_5 k x1 x2 x3 (x4 + 1) σ))))
    else
      some (.inl x3, σ)))))
/-- TreeclerkModel.placeOfClaim -/
def fx_153 (x1 : Int) (x2 : Int) (σ : gb_S) : Option gb_P :=
  fx_153_5 gFU x1 x2 (-1) 0 σ
def fx_181_129 (k78 : Int → Int → Int → gb_S → Option gb_P) (x1 : Int) (x3 : Int) (x4 : Int) (x5 : Int) (σ : gb_S) : Option gb_P :=
  gq (gR x5) (
  (if x5 = 0 then
    k78 x1 (x3 - 0) (x4 + 1) σ
  else
    k78 x1 (x3 - 1) (x4 + 1) σ))
def fx_181_49 (k5 : Int → Int → Int → gb_S → Option gb_P) (x1 : Int) (x3 : Int) (x4 : Int) (x5 : Int) (σ : gb_S) : Option gb_P :=
  gq (0 ≤ x5 ∧ x5 < 14) (
  gq (gRL (σ 216 x5.toNat)) (
  (if 0 < (σ 216 x5.toNat) then
    k5 x1 (x3 - 1) (x4 + 1) σ
  else
    k5 x1 (x3 - 0) (x4 + 1) σ)))
def fx_181_115 (k78 : Int → Int → Int → gb_S → Option gb_P) (x1 : Int) (x3 : Int) (x4 : Int) (y0 : Int) (σ : gb_S) : Option gb_P :=
  gq (gR y0) (
  (if y0 = 0 then
    fx_181_129 k78 x1 x3 x4 y0 σ
  else
    gq (gR x3) (
    (if x3 = 0 then
      some (.inl x4, σ)
    else
      fx_181_129 k78 x1 x3 x4 y0 σ))))
def fx_181_78 (k : Nat) (x1 : Int) (x3 : Int) (x4 : Int) (σ : gb_S) : Option gb_P := match k with
  | 0 => none
  | k + 1 =>
    gq (gR x4) (
    gq (gR (σ 187 3)) (
    (if x4 < (σ 187 3) then
      gq (0 ≤ x4 ∧ x4 < 14) (
      gq (gRL (σ 216 x4.toNat)) (
      (if 0 < (σ 216 x4.toNat) then
        gc (fx_153 x4 x1 σ) (fun r5 s6 =>
        gq (gR r5) (
        (if r5 = (-1) then
          fx_181_115 (fx_181_78 k) x1 x3 x4 1 s6
        else
          fx_181_115 (fx_181_78 k) x1 x3 x4 0 s6)))
      else
        fx_181_115 (fx_181_78 k) x1 x3 x4 0 σ)))
    else
      some (.inl (-1), σ))))
def fx_181_5 (k : Nat) (x1 : Int) (x3 : Int) (x4 : Int) (σ : gb_S) : Option gb_P := match k with
  | 0 => none
  | k + 1 =>
    gq (0 ≤ x1 ∧ x1 < 14) (
    gq (gR x4) (
    gq (gR (σ 202 x1.toNat)) (
    (if x4 < (σ 202 x1.toNat) then
      gq (0 ≤ ((14 * x1) + x4) ∧ ((14 * x1) + x4) < 196) (
      gq (0 ≤ (σ 201 ((14 * x1) + x4).toNat) ∧ (σ 201 ((14 * x1) + x4).toNat) < 14) (
      gq (gRL (σ 216 (σ 201 ((14 * x1) + x4).toNat).toNat)) (
      (if 0 < (σ 216 (σ 201 ((14 * x1) + x4).toNat).toNat) then
        gq (gR x3) (
        (if x3 = 0 then
          some (.inl (σ 201 ((14 * x1) + x4).toNat), σ)
        else
          fx_181_49 (fx_181_5 k) x1 x3 x4 (σ 201 ((14 * x1) + x4).toNat) σ))
      else
        fx_181_49 (fx_181_5 k) x1 x3 x4 (σ 201 ((14 * x1) + x4).toNat) σ))))
    else
      fx_181_78 gFU x1 x3 0 σ))))
/-- TreeclerkModel.heirAt -/
def fx_181 (x1 : Int) (x2 : Int) (σ : gb_S) : Option gb_P :=
  fx_181_5 gFU x1 x2 0 σ
def fx_182_4 (k : Nat) (x1 : Int) (x2 : Int) (x3 : Int) (σ : gb_S) : Option gb_P := match k with
  | 0 => none
  | k + 1 =>
    gq (gR x3) (
    (if x3 < 60 then
      gq (0 ≤ x3 ∧ x3 < 60) (
      gq (gR (σ 222 x3.toNat)) (
      gq (gR x1) (
      (if (σ 222 x3.toNat) = x1 then
        fx_182_4 k x1 (x2 + 1) (x3 + 1) σ
      else
        fx_182_4 k x1 (x2 + 0) (x3 + 1) σ))))
    else
      some (.inl x2, σ)))
/-- TreeclerkModel.unitsOf -/
def fx_182 (x1 : Int) (σ : gb_S) : Option gb_P :=
  fx_182_4 gFU x1 0 0 σ
def fx_183_118 (k : Nat) (k74 : Int → Int → Int → Int → Int → Int → Int → gb_S → Option gb_P) (x1 : Int) (x2 : Int) (x3 : Int) (x4 : Int) (x5 : Int) (x6 : Int) (x7 : Int) (σ : gb_S) : Option gb_P := match k with
  | 0 => none
  | k + 1 =>
    gq (gR x6) (
    (if x6 = 0 then
      gc (fx_181 x1 x5 σ) (fun r5 s6 =>
      gq (gR x2) (
      gq (0 ≤ r5 ∧ r5 < 14) (
      gq ((0 ≤ (x2 * (s6 216 r5.toNat)) ∧ (x2 * (s6 216 r5.toNat)) ≤ 9223372036854775807) ∧ 0 < (s6 217 r5.toNat) ∧ (s6 217 r5.toNat) ≤ 9223372036854775807) (
      gq (gR x5) (
      gq (gR x4) (
      (if x5 < x4 then
        fx_183_118 k k74 x1 x2 x3 x4 (x5 + 1) (((x2 * (s6 216 r5.toNat)) / (s6 217 r5.toNat)) + 1) x7 s6
      else
        fx_183_118 k k74 x1 x2 x3 x4 (x5 + 1) (((x2 * (s6 216 r5.toNat)) / (s6 217 r5.toNat)) + 0) x7 s6)))))))
    else
      gc (fx_181 x1 (x5 - 1) σ) (fun r2 s3 =>
      gq (0 ≤ x7 ∧ x7 < 60) (
      k74 x1 x2 x3 x4 x5 (x6 + (-1)) (x7 + 1) (gb_up s3 222 x7.toNat r2)))))
def fx_183_107 (k74 : Int → Int → Int → Int → Int → Int → Int → gb_S → Option gb_P) (x1 : Int) (x2 : Int) (x3 : Int) (x4 : Int) (x5 : Int) (x6 : Int) (x7 : Int) (σ : gb_S) : Option gb_P :=
  gq (0 ≤ x7 ∧ x7 < 60) (
  gq (gR (σ 222 x7.toNat)) (
  gq (gR x1) (
  (if (σ 222 x7.toNat) = x1 then
    fx_183_118 gFU k74 x1 x2 x3 x4 x5 x6 x7 σ
  else
    k74 x1 x2 x3 x4 x5 x6 (x7 + 1) σ))))
def fx_183_74 (k : Nat) (x1 : Int) (x2 : Int) (x3 : Int) (x4 : Int) (x5 : Int) (x6 : Int) (x7 : Int) (σ : gb_S) : Option gb_P := match k with
  | 0 => none
  | k + 1 =>
    gq (gR x7) (
    (if x7 < 60 then
      gq (0 ≤ x7 ∧ x7 < 60) (
      gq (gR (σ 222 x7.toNat)) (
      gq (gR x1) (
      (if (σ 222 x7.toNat) = x1 then
        gq (gR x3) (
        (if x3 = 0 then
          fx_183_74 k x1 x2 x3 x4 x5 x6 (x7 + 1) (gb_up σ 222 x7.toNat (-1))
        else
          fx_183_107 (fx_183_74 k) x1 x2 x3 x4 x5 x6 x7 σ))
      else
        fx_183_107 (fx_183_74 k) x1 x2 x3 x4 x5 x6 x7 σ))))
    else
      some (.inl 0, σ)))
def fx_183_26 (k : Nat) (x1 : Int) (x2 : Int) (x3 : Int) (x4 : Int) (x5 : Int) (σ : gb_S) : Option gb_P := match k with
  | 0 => none
  | k + 1 =>
    gq (gR x5) (
    gq (gR (σ 187 3)) (
    (if x5 < (σ 187 3) then
      gq (gR x2) (
      gq (0 ≤ x5 ∧ x5 < 14) (
      gq ((0 ≤ (x2 * (σ 216 x5.toNat)) ∧ (x2 * (σ 216 x5.toNat)) ≤ 9223372036854775807) ∧ 0 < (σ 217 x5.toNat) ∧ (σ 217 x5.toNat) ≤ 9223372036854775807) (
      fx_183_26 k x1 x2 x3 (x4 - ((x2 * (σ 216 x5.toNat)) / (σ 217 x5.toNat))) (x5 + 1) σ)))
    else
      fx_183_74 gFU x1 x2 x3 x4 0 0 0 σ)))
/-- TreeclerkModel.inherits -/
def fx_183 (x1 : Int) (σ : gb_S) : Option gb_P :=
  gc (fx_182 x1 σ) (fun r1 s2 =>
  gc (fx_169 x1 s2) (fun r3 s4 =>
  gq (gR r3) (
  (if r3 = 0 then
    fx_183_26 gFU x1 r1 r3 0 0 s4
  else
    fx_183_26 gFU x1 r1 r3 r1 0 s4))))
def fx_184_118 (k23 : Int → gb_S → Option gb_P) (x1 : Int) (σ : gb_S) : Option gb_P :=
  gq (0 ≤ x1 ∧ x1 < 140) (
  gq (gR (σ 204 x1.toNat)) (
  (if (σ 204 x1.toNat) = 2 then
    gc (fx_183 (σ 205 x1.toNat) σ) (fun _ s4 =>
    k23 (x1 + 1) s4)
  else
    k23 (x1 + 1) σ)))
def fx_184_38 (k : Nat) (k23 : Int → gb_S → Option gb_P) (x1 : Int) (x2 : Int) (σ : gb_S) : Option gb_P := match k with
  | 0 => none
  | k + 1 =>
    gq (0 ≤ x1 ∧ x1 < 140) (
    gq (gR x2) (
    gq (gR (σ 208 x1.toNat)) (
    (if x2 < (σ 208 x1.toNat) then
      gq (gR (σ 204 x1.toNat)) (
      (if (σ 204 x1.toNat) = 2 then
        fx_184_118 k23 x1 σ
      else
        (if (σ 204 x1.toNat) = 0 then
          gq (0 ≤ x2 ∧ x2 < 60) (
          fx_184_38 k k23 x1 (x2 + 1) (gb_up σ 222 x2.toNat (σ 205 x1.toNat)))
        else
          gq (0 ≤ x2 ∧ x2 < 60) (
          gq (gR (σ 222 x2.toNat)) (
          gq (gR (σ 205 x1.toNat)) (
          (if (σ 222 x2.toNat) = (σ 205 x1.toNat) then
            fx_184_38 k k23 x1 (x2 + 1) (gb_up σ 222 x2.toNat (σ 206 x1.toNat))
          else
            fx_184_38 k k23 x1 (x2 + 1) (gb_up σ 222 x2.toNat (σ 222 x2.toNat)))))))))
    else
      fx_184_118 k23 x1 σ))))
def fx_184_23 (k : Nat) (x1 : Int) (σ : gb_S) : Option gb_P := match k with
  | 0 => none
  | k + 1 =>
    gq (gR x1) (
    gq (gR (σ 187 25)) (
    (if x1 < (σ 187 25) then
      gq (0 ≤ x1 ∧ x1 < 140) (
      fx_184_38 gFU (fx_184_23 k) x1 (σ 207 x1.toNat) σ)
    else
      some (.inl 0, σ))))
def fx_184_2 (k : Nat) (x1 : Int) (σ : gb_S) : Option gb_P := match k with
  | 0 => none
  | k + 1 =>
    gq (gR x1) (
    (if x1 < 60 then
      gq (0 ≤ x1 ∧ x1 < 60) (
      fx_184_2 k (x1 + 1) (gb_up σ 222 x1.toNat (-1)))
    else
      fx_184_23 gFU 0 σ))
/-- TreeclerkModel.draws -/
def fx_184 (σ : gb_S) : Option gb_P :=
  fx_184_2 gFU 0 σ
def fx_147_170 (k : Nat) (x4 : Int) (x5 : Int) (σ : gb_S) : Option gb_P := match k with
  | 0 => none
  | k + 1 =>
    gq (gR x5) (
    (if x5 < 60 then
      gq (0 ≤ x5 ∧ x5 < 60) (
      gq (gR (σ 223 x5.toNat)) (
      gq (gR (σ 222 x5.toNat)) (
      (if (σ 223 x5.toNat) = (σ 222 x5.toNat) then
        fx_147_170 k (x4 + 0) (x5 + 1) σ
      else
        fx_147_170 k (x4 + 1) (x5 + 1) σ))))
    else
      some (.inl x4, σ)))
def fx_147_151 (σ : gb_S) : Option gb_P :=
  gc (fx_172 (gb_up σ 187 29 1)) (fun _ s2 =>
  gc (fx_184 s2) (fun _ s4 =>
  fx_147_170 gFU 0 0 s4))
def fx_147_82 (k : Nat) (x1 : Int) (x2 : Int) (x4 : Int) (σ : gb_S) : Option gb_P := match k with
  | 0 => none
  | k + 1 =>
    gq (gR x4) (
    gq (gR (σ 187 12)) (
    (if x4 < (σ 187 12) then
      gq (gR x2) (
      (if x2 = 0 then
        fx_147_151 σ
      else
        gq (0 ≤ x1 ∧ x1 < 30) (
        gq (0 ≤ (σ 194 x1.toNat) ∧ (σ 194 x1.toNat) < 30) (
        gq (0 ≤ x4 ∧ x4 < 30) (
        gq (gR ((gb_up σ 193 (σ 194 x1.toNat).toNat 1) 196 x4.toNat)) (
        (if ((gb_up σ 193 (σ 194 x1.toNat).toNat 1) 196 x4.toNat) = 0 then
          fx_147_82 k x1 x2 (x4 + 1) (gb_up (gb_up σ 193 (σ 194 x1.toNat).toNat 1) 196 x4.toNat 0)
        else
          gq (gR ((gb_up σ 193 (σ 194 x1.toNat).toNat 1) 194 x4.toNat)) (
          gq (gR ((gb_up σ 193 (σ 194 x1.toNat).toNat 1) 194 x1.toNat)) (
          (if ((gb_up σ 193 (σ 194 x1.toNat).toNat 1) 194 x4.toNat) = ((gb_up σ 193 (σ 194 x1.toNat).toNat 1) 194 x1.toNat) then
            fx_147_82 k x1 x2 (x4 + 1) (gb_up (gb_up σ 193 (σ 194 x1.toNat).toNat 1) 196 x4.toNat 0)
          else
            fx_147_82 k x1 x2 (x4 + 1) (gb_up (gb_up σ 193 (σ 194 x1.toNat).toNat 1) 196 x4.toNat 1)))))))))))
    else
      fx_147_151 σ)))
def fx_147_45 (k : Nat) (x1 : Int) (x2 : Int) (x4 : Int) (σ : gb_S) : Option gb_P := match k with
  | 0 => none
  | k + 1 =>
    gq (gR x4) (
    (if x4 < 60 then
      gq (0 ≤ x4 ∧ x4 < 60) (
      fx_147_45 k x1 x2 (x4 + 1) (gb_up σ 223 x4.toNat (σ 222 x4.toNat)))
    else
      gq (0 ≤ x1 ∧ x1 < 30) (
      fx_147_82 gFU x1 x2 0 (gb_up σ 196 x1.toNat 0))))
def fx_147_26 (x1 : Int) (x2 : Int) (y0 : Int) (y1 : Int) (σ : gb_S) : Option gb_P :=
  gc (fx_128 y1 y0 σ) (fun r1 s2 =>
  gq (gR r1) (
  (if r1 = 0 then
    some (.inl 0, s2)
  else
    gc (fx_170 s2) (fun _ s5 =>
    gc (fx_184 s5) (fun _ s7 =>
    fx_147_45 gFU x1 x2 0 s7)))))
/-- TreeclerkModel.judge -/
def fx_147 (x1 : Int) (x2 : Int) (σ : gb_S) : Option gb_P :=
  gc (fx_133 x1 σ) (fun r1 s2 =>
  gq (gR r1) (
  (if r1 = 0 then
    fx_147_26 x1 x2 0 r1 s2
  else
    gq (0 ≤ x1 ∧ x1 < 30) (
    gq (gR (s2 196 x1.toNat)) (
    (if (s2 196 x1.toNat) = 0 then
      fx_147_26 x1 x2 0 r1 s2
    else
      fx_147_26 x1 x2 1 r1 s2))))))
/-- TreeclerkModel.strength -/
def fx_148 (x1 : Int) (σ : gb_S) : Option gb_P :=
  gc (fx_132 x1 σ) (fun r1 s2 =>
  gc (fx_127 r1 s2) (fun r3 s4 =>
  gq (gR r3) (
  (if r3 = 0 then
    some (.inl 0, s4)
  else
    gc (fx_141 x1 s4) (fun r6 s7 =>
    some (.inl r6, s7))))))
def fx_149_4 (k : Nat) (x1 : Int) (x2 : Int) (σ : gb_S) : Option gb_P := match k with
  | 0 => none
  | k + 1 =>
    gq (gR x2) (
    gq (gR (σ 187 12)) (
    (if x2 < (σ 187 12) then
      gq (0 ≤ x2 ∧ x2 < 30) (
      gq (gR (σ 196 x2.toNat)) (
      (if (σ 196 x2.toNat) = 0 then
        fx_149_4 k (x1 + 0) (x2 + 1) σ
      else
        fx_149_4 k (x1 + 1) (x2 + 1) σ)))
    else
      gc (fx_130 x1 σ) (fun r3 s4 =>
      some (.inl r3, s4)))))
/-- TreeclerkModel.openDoubts -/
def fx_149 (σ : gb_S) : Option gb_P :=
  fx_149_4 gFU 0 0 σ
/-- TreeclerkModel.parentOf -/
def fx_150 (x1 : Int) (x2 : Int) (σ : gb_S) : Option gb_P :=
  gc (fx_131 x1 σ) (fun r1 s2 =>
  gc (fx_126 x2 0 1 s2) (fun r3 s4 =>
  gc (fx_128 r1 r3 s4) (fun r5 s6 =>
  gq (gR r5) (
  (if r5 = 0 then
    some (.inl 0, s6)
  else
    gc (fx_143 s6) (fun _ s9 =>
    gq (gR x2) (
    (if x2 = 0 then
      gq (0 ≤ x1 ∧ x1 < 14) (
      some (.inl (s9 212 x1.toNat), s9))
    else
      gq (0 ≤ x1 ∧ x1 < 14) (
      some (.inl (s9 213 x1.toNat), s9))))))))))
def fx_151_22 (k : Nat) (x1 : Int) (x2 : Int) (x3 : Int) (σ : gb_S) : Option gb_P := match k with
  | 0 => none
  | k + 1 =>
    gq (gR x3) (
    gq (gR (σ 187 3)) (
    (if x3 < (σ 187 3) then
      gc (fx_144 x1 x3 σ) (fun r3 s4 =>
      gq (gR r3) (
      (if r3 = 0 then
        fx_151_22 k x1 (gb_or x2 0) (x3 + 1) s4
      else
        fx_151_22 k x1 (gb_or x2 (gb_shl 1 x3)) (x3 + 1) s4)))
    else
      some (.inl x2, σ))))
/-- TreeclerkModel.childrenOf -/
def fx_151 (x1 : Int) (σ : gb_S) : Option gb_P :=
  gc (fx_131 x1 σ) (fun r1 s2 =>
  gc (fx_127 r1 s2) (fun r3 s4 =>
  gq (gR r3) (
  (if r3 = 0 then
    some (.inl 0, s4)
  else
    gc (fx_143 s4) (fun _ s7 =>
    fx_151_22 gFU x1 0 0 s7)))))
def fx_152_66 (x1 : Int) (x2 : Int) (x3 : Int) (y0 : Int) (y1 : Int) (y2 : Int) (σ : gb_S) : Option gb_P :=
  gc (fx_129 y2 y1 y0 σ) (fun r1 s2 =>
  gq (gR r1) (
  (if r1 = 0 then
    some (.inl 0, s2)
  else
    gq (0 ≤ ((14 * x1) + x2) ∧ ((14 * x1) + x2) < 196) (
    some (.inl (s2 197 ((14 * x1) + x2).toNat), (gb_up s2 197 ((14 * x1) + x2).toNat x3))))))
def fx_152_46 (x1 : Int) (x2 : Int) (x3 : Int) (x4 : Int) (y0 : Int) (y1 : Int) (σ : gb_S) : Option gb_P :=
  gq (gR x4) (
  (if x4 = 0 then
    fx_152_66 x1 x2 x3 0 y0 y1 σ
  else
    gq (0 ≤ x1 ∧ x1 < 14) (
    gq (gR (σ 189 x1.toNat)) (
    (if (σ 189 x1.toNat) = (-1) then
      fx_152_66 x1 x2 x3 1 y0 y1 σ
    else
      fx_152_66 x1 x2 x3 0 y0 y1 σ)))))
def fx_152_21 (x1 : Int) (x2 : Int) (x3 : Int) (y0 : Int) (σ : gb_S) : Option gb_P :=
  gq (gR x1) (
  gq (gR x2) (
  (if x1 = x2 then
    fx_152_46 x1 x2 x3 y0 0 y0 σ
  else
    gc (fx_126 x3 0 9 σ) (fun r3 s4 =>
    gq (gR r3) (
    (if r3 = 0 then
      fx_152_46 x1 x2 x3 y0 0 y0 s4
    else
      fx_152_46 x1 x2 x3 y0 1 y0 s4))))))
/-- TreeclerkModel.will -/
def fx_152 (x1 : Int) (x2 : Int) (x3 : Int) (σ : gb_S) : Option gb_P :=
  gc (fx_131 x1 σ) (fun r1 s2 =>
  gq (gR r1) (
  (if r1 = 0 then
    fx_152_21 x1 x2 x3 0 s2
  else
    gc (fx_131 x2 s2) (fun r4 s5 =>
    gq (gR r4) (
    (if r4 = 0 then
      fx_152_21 x1 x2 x3 0 s5
    else
      fx_152_21 x1 x2 x3 1 s5))))))
def fx_154_72 (x1 : Int) (x2 : Int) (y0 : Int) (y1 : Int) (σ : gb_S) : Option gb_P :=
  gc (fx_128 y1 y0 σ) (fun r1 s2 =>
  gq (gR r1) (
  (if r1 = 0 then
    some (.inl 0, s2)
  else
    gq (0 ≤ x2 ∧ x2 < 14) (
    gq (0 ≤ ((14 * x2) + (s2 202 x2.toNat)) ∧ ((14 * x2) + (s2 202 x2.toNat)) < 196) (
    some (.inl ((gb_up (gb_up s2 201 ((14 * x2) + (s2 202 x2.toNat)).toNat x1) 202 x2.toNat (((gb_up s2 201 ((14 * x2) + (s2 202 x2.toNat)).toNat x1) 202 x2.toNat) + 1)) 202 x2.toNat), (gb_up (gb_up s2 201 ((14 * x2) + (s2 202 x2.toNat)).toNat x1) 202 x2.toNat (((gb_up s2 201 ((14 * x2) + (s2 202 x2.toNat)).toNat x1) 202 x2.toNat) + 1))))))))
def fx_154_21 (x1 : Int) (x2 : Int) (y0 : Int) (σ : gb_S) : Option gb_P :=
  gq (gR y0) (
  (if y0 = 0 then
    fx_154_72 x1 x2 0 y0 σ
  else
    gq (0 ≤ x1 ∧ x1 < 14) (
    gq (gR (σ 189 x1.toNat)) (
    (if (σ 189 x1.toNat) = (-1) then
      gq (0 ≤ x2 ∧ x2 < 14) (
      gq (gR (σ 189 x2.toNat)) (
      (if (σ 189 x2.toNat) = (-1) then
        fx_154_72 x1 x2 0 y0 σ
      else
        gq (gR (σ 198 x2.toNat)) (
        (if (σ 198 x2.toNat) = 0 then
          gc (fx_153 x1 x2 σ) (fun r7 s8 =>
          gq (gR r7) (
          (if r7 = (-1) then
            fx_154_72 x1 x2 1 y0 s8
          else
            fx_154_72 x1 x2 0 y0 s8)))
        else
          fx_154_72 x1 x2 0 y0 σ)))))
    else
      fx_154_72 x1 x2 0 y0 σ)))))
/-- TreeclerkModel.claim -/
def fx_154 (x1 : Int) (x2 : Int) (σ : gb_S) : Option gb_P :=
  gc (fx_131 x1 σ) (fun r1 s2 =>
  gq (gR r1) (
  (if r1 = 0 then
    fx_154_21 x1 x2 0 s2
  else
    gc (fx_131 x2 s2) (fun r4 s5 =>
    gq (gR r4) (
    (if r4 = 0 then
      fx_154_21 x1 x2 0 s5
    else
      fx_154_21 x1 x2 1 s5))))))
/-- TreeclerkModel.claims -/
def fx_155 (x1 : Int) (σ : gb_S) : Option gb_P :=
  gc (fx_131 x1 σ) (fun r1 s2 =>
  gc (fx_127 r1 s2) (fun r3 s4 =>
  gq (gR r3) (
  (if r3 = 0 then
    some (.inl 0, s4)
  else
    gq (0 ≤ x1 ∧ x1 < 14) (
    some (.inl (s4 202 x1.toNat), s4))))))
/-- TreeclerkModel.does -/
def fx_180 (x1 : Int) (x2 : Int) (x3 : Int) (x4 : Int) (x5 : Int) (σ : gb_S) : Option gb_P :=
  gq (0 ≤ (σ 187 25) ∧ (σ 187 25) < 140) (
  gq (0 ≤ ((gb_up σ 204 (σ 187 25).toNat x1) 187 25) ∧ ((gb_up σ 204 (σ 187 25).toNat x1) 187 25) < 140) (
  gq (0 ≤ ((gb_up (gb_up σ 204 (σ 187 25).toNat x1) 205 ((gb_up σ 204 (σ 187 25).toNat x1) 187 25).toNat x2) 187 25) ∧ ((gb_up (gb_up σ 204 (σ 187 25).toNat x1) 205 ((gb_up σ 204 (σ 187 25).toNat x1) 187 25).toNat x2) 187 25) < 140) (
  gq (0 ≤ ((gb_up (gb_up (gb_up σ 204 (σ 187 25).toNat x1) 205 ((gb_up σ 204 (σ 187 25).toNat x1) 187 25).toNat x2) 206 ((gb_up (gb_up σ 204 (σ 187 25).toNat x1) 205 ((gb_up σ 204 (σ 187 25).toNat x1) 187 25).toNat x2) 187 25).toNat x3) 187 25) ∧ ((gb_up (gb_up (gb_up σ 204 (σ 187 25).toNat x1) 205 ((gb_up σ 204 (σ 187 25).toNat x1) 187 25).toNat x2) 206 ((gb_up (gb_up σ 204 (σ 187 25).toNat x1) 205 ((gb_up σ 204 (σ 187 25).toNat x1) 187 25).toNat x2) 187 25).toNat x3) 187 25) < 140) (
  gq (0 ≤ ((gb_up (gb_up (gb_up (gb_up σ 204 (σ 187 25).toNat x1) 205 ((gb_up σ 204 (σ 187 25).toNat x1) 187 25).toNat x2) 206 ((gb_up (gb_up σ 204 (σ 187 25).toNat x1) 205 ((gb_up σ 204 (σ 187 25).toNat x1) 187 25).toNat x2) 187 25).toNat x3) 207 ((gb_up (gb_up (gb_up σ 204 (σ 187 25).toNat x1) 205 ((gb_up σ 204 (σ 187 25).toNat x1) 187 25).toNat x2) 206 ((gb_up (gb_up σ 204 (σ 187 25).toNat x1) 205 ((gb_up σ 204 (σ 187 25).toNat x1) 187 25).toNat x2) 187 25).toNat x3) 187 25).toNat x4) 187 25) ∧ ((gb_up (gb_up (gb_up (gb_up σ 204 (σ 187 25).toNat x1) 205 ((gb_up σ 204 (σ 187 25).toNat x1) 187 25).toNat x2) 206 ((gb_up (gb_up σ 204 (σ 187 25).toNat x1) 205 ((gb_up σ 204 (σ 187 25).toNat x1) 187 25).toNat x2) 187 25).toNat x3) 207 ((gb_up (gb_up (gb_up σ 204 (σ 187 25).toNat x1) 205 ((gb_up σ 204 (σ 187 25).toNat x1) 187 25).toNat x2) 206 ((gb_up (gb_up σ 204 (σ 187 25).toNat x1) 205 ((gb_up σ 204 (σ 187 25).toNat x1) 187 25).toNat x2) 187 25).toNat x3) 187 25).toNat x4) 187 25) < 140) (
  some (.inl 0, (gb_up (gb_up (gb_up (gb_up (gb_up (gb_up σ 204 (σ 187 25).toNat x1) 205 ((gb_up σ 204 (σ 187 25).toNat x1) 187 25).toNat x2) 206 ((gb_up (gb_up σ 204 (σ 187 25).toNat x1) 205 ((gb_up σ 204 (σ 187 25).toNat x1) 187 25).toNat x2) 187 25).toNat x3) 207 ((gb_up (gb_up (gb_up σ 204 (σ 187 25).toNat x1) 205 ((gb_up σ 204 (σ 187 25).toNat x1) 187 25).toNat x2) 206 ((gb_up (gb_up σ 204 (σ 187 25).toNat x1) 205 ((gb_up σ 204 (σ 187 25).toNat x1) 187 25).toNat x2) 187 25).toNat x3) 187 25).toNat x4) 208 ((gb_up (gb_up (gb_up (gb_up σ 204 (σ 187 25).toNat x1) 205 ((gb_up σ 204 (σ 187 25).toNat x1) 187 25).toNat x2) 206 ((gb_up (gb_up σ 204 (σ 187 25).toNat x1) 205 ((gb_up σ 204 (σ 187 25).toNat x1) 187 25).toNat x2) 187 25).toNat x3) 207 ((gb_up (gb_up (gb_up σ 204 (σ 187 25).toNat x1) 205 ((gb_up σ 204 (σ 187 25).toNat x1) 187 25).toNat x2) 206 ((gb_up (gb_up σ 204 (σ 187 25).toNat x1) 205 ((gb_up σ 204 (σ 187 25).toNat x1) 187 25).toNat x2) 187 25).toNat x3) 187 25).toNat x4) 187 25).toNat x5) 187 25 (((gb_up (gb_up (gb_up (gb_up (gb_up σ 204 (σ 187 25).toNat x1) 205 ((gb_up σ 204 (σ 187 25).toNat x1) 187 25).toNat x2) 206 ((gb_up (gb_up σ 204 (σ 187 25).toNat x1) 205 ((gb_up σ 204 (σ 187 25).toNat x1) 187 25).toNat x2) 187 25).toNat x3) 207 ((gb_up (gb_up (gb_up σ 204 (σ 187 25).toNat x1) 205 ((gb_up σ 204 (σ 187 25).toNat x1) 187 25).toNat x2) 206 ((gb_up (gb_up σ 204 (σ 187 25).toNat x1) 205 ((gb_up σ 204 (σ 187 25).toNat x1) 187 25).toNat x2) 187 25).toNat x3) 187 25).toNat x4) 208 ((gb_up (gb_up (gb_up (gb_up σ 204 (σ 187 25).toNat x1) 205 ((gb_up σ 204 (σ 187 25).toNat x1) 187 25).toNat x2) 206 ((gb_up (gb_up σ 204 (σ 187 25).toNat x1) 205 ((gb_up σ 204 (σ 187 25).toNat x1) 187 25).toNat x2) 187 25).toNat x3) 207 ((gb_up (gb_up (gb_up σ 204 (σ 187 25).toNat x1) 205 ((gb_up σ 204 (σ 187 25).toNat x1) 187 25).toNat x2) 206 ((gb_up (gb_up σ 204 (σ 187 25).toNat x1) 205 ((gb_up σ 204 (σ 187 25).toNat x1) 187 25).toNat x2) 187 25).toNat x3) 187 25).toNat x4) 187 25).toNat x5) 187 25) + 1))))))))
def fx_156_53 (k : Nat) (x1 : Int) (x3 : Int) (σ : gb_S) : Option gb_P := match k with
  | 0 => none
  | k + 1 =>
    gq (gR x3) (
    gq (gR (σ 187 3)) (
    (if x3 < (σ 187 3) then
      gq (0 ≤ x1 ∧ x1 < 14) (
      gq (0 ≤ x3 ∧ x3 < 14) (
      gq (gR (σ 189 x3.toNat)) (
      (if (σ 189 x3.toNat) = (-1) then
        fx_156_53 k x1 (x3 + 1) (gb_up σ 199 x1.toNat (gb_or (σ 199 x1.toNat) (gb_shl 1 x3)))
      else
        fx_156_53 k x1 (x3 + 1) (gb_up σ 199 x1.toNat (gb_or (σ 199 x1.toNat) 0))))))
    else
      gq (0 ≤ x1 ∧ x1 < 14) (
      gc (fx_180 2 x1 (-1) 0 60 (gb_up (gb_up σ 200 x1.toNat (σ 187 3)) 198 x1.toNat 1)) (fun _ s5 =>
      gc (fx_169 x1 s5) (fun r6 s7 =>
      some (.inl r6, s7)))))))
def fx_156_36 (x1 : Int) (y0 : Int) (y1 : Int) (σ : gb_S) : Option gb_P :=
  gc (fx_128 y1 y0 σ) (fun r1 s2 =>
  gq (gR r1) (
  (if r1 = 0 then
    some (.inl 0, s2)
  else
    gq (0 ≤ x1 ∧ x1 < 14) (
    fx_156_53 gFU x1 0 (gb_up s2 199 x1.toNat 0)))))
/-- TreeclerkModel.close -/
def fx_156 (x1 : Int) (σ : gb_S) : Option gb_P :=
  gc (fx_131 x1 σ) (fun r1 s2 =>
  gq (gR r1) (
  (if r1 = 0 then
    fx_156_36 x1 0 r1 s2
  else
    gq (0 ≤ x1 ∧ x1 < 14) (
    gq (gR (s2 189 x1.toNat)) (
    (if (s2 189 x1.toNat) = (-1) then
      fx_156_36 x1 0 r1 s2
    else
      gq (gR (s2 198 x1.toNat)) (
      (if (s2 198 x1.toNat) = 0 then
        fx_156_36 x1 1 r1 s2
      else
        fx_156_36 x1 0 r1 s2))))))))
/-- TreeclerkModel.isClosed -/
def fx_157 (x1 : Int) (σ : gb_S) : Option gb_P :=
  gc (fx_131 x1 σ) (fun r1 s2 =>
  gc (fx_127 r1 s2) (fun r3 s4 =>
  gq (gR r3) (
  (if r3 = 0 then
    some (.inl 0, s4)
  else
    gq (0 ≤ x1 ∧ x1 < 14) (
    gq (gR (s4 198 x1.toNat)) (
    (if (s4 198 x1.toNat) = 0 then
      some (.inl 0, s4)
    else
      some (.inl 1, s4))))))))
def fx_173_43 (x2 : Int) (y0 : Int) (y1 : Int) (σ : gb_S) : Option gb_P :=
  gc (fx_128 y1 y0 σ) (fun r1 s2 =>
  gq (gR r1) (
  (if r1 = 0 then
    gq (r1 = 0 ∨ r1 = 1) (
    some (.inl r1, s2))
  else
    gc (fx_168 x2 s2) (fun _ s6 =>
    gq (r1 = 0 ∨ r1 = 1) (
    some (.inl r1, s6))))))
def fx_173_21 (x2 : Int) (y0 : Int) (σ : gb_S) : Option gb_P :=
  gq (gR y0) (
  (if y0 = 0 then
    fx_173_43 x2 0 y0 σ
  else
    gq (0 ≤ x2 ∧ x2 < 14) (
    gq (gR (σ 189 x2.toNat)) (
    (if (σ 189 x2.toNat) = (-1) then
      fx_173_43 x2 0 y0 σ
    else
      fx_173_43 x2 1 y0 σ)))))
/-- TreeclerkModel.isEstate -/
def fx_173 (x1 : Int) (x2 : Int) (σ : gb_S) : Option gb_P :=
  gc (fx_131 x1 σ) (fun r1 s2 =>
  gq (gR r1) (
  (if r1 = 0 then
    fx_173_21 x2 0 s2
  else
    gc (fx_131 x2 s2) (fun r4 s5 =>
    gq (gR r4) (
    (if r4 = 0 then
      fx_173_21 x2 0 s5
    else
      fx_173_21 x2 1 s5))))))
/-- TreeclerkModel.shareAbove -/
def fx_174 (x1 : Int) (x2 : Int) (σ : gb_S) : Option gb_P :=
  gc (fx_173 x1 x2 σ) (fun r1 s2 =>
  gq (gR r1) (
  (if r1 = 0 then
    some (.inl 0, s2)
  else
    gq (0 ≤ x1 ∧ x1 < 14) (
    some (.inl (s2 216 x1.toNat), s2)))))
/-- TreeclerkModel.shareBelow -/
def fx_175 (x1 : Int) (x2 : Int) (σ : gb_S) : Option gb_P :=
  gc (fx_173 x1 x2 σ) (fun r1 s2 =>
  gq (gR r1) (
  (if r1 = 0 then
    some (.inl 0, s2)
  else
    gq (0 ≤ x1 ∧ x1 < 14) (
    some (.inl (s2 217 x1.toNat), s2)))))
/-- TreeclerkModel.shareAboveByWays -/
def fx_176 (x1 : Int) (x2 : Int) (σ : gb_S) : Option gb_P :=
  gc (fx_174 x1 x2 σ) (fun r1 s2 =>
  some (.inl r1, s2))
/-- TreeclerkModel.heirs -/
def fx_177 (x1 : Int) (σ : gb_S) : Option gb_P :=
  gc (fx_173 x1 x1 σ) (fun r1 s2 =>
  gq (gR r1) (
  (if r1 = 0 then
    some (.inl 0, s2)
  else
    gc (fx_169 x1 s2) (fun r4 s5 =>
    some (.inl r4, s5)))))
def fx_178_113 (k65 : Int → Int → Int → gb_S → Option gb_P) (x1 : Int) (x3 : Int) (y0 : Int) (y1 : Int) (σ : gb_S) : Option gb_P :=
  gq (0 ≤ x3 ∧ x3 < 30) (
  gq (0 ≤ (σ 194 x3.toNat) ∧ (σ 194 x3.toNat) < 30) (
  k65 x1 (y1 + y0) (x3 + 1) (gb_up (gb_up σ 193 (σ 194 x3.toNat).toNat 0) 187 29 1)))
def fx_178_65 (k : Nat) (x1 : Int) (x2 : Int) (x3 : Int) (σ : gb_S) : Option gb_P := match k with
  | 0 => none
  | k + 1 =>
    gq (gR x3) (
    gq (gR (σ 187 12)) (
    (if x3 < (σ 187 12) then
      gq (0 ≤ x3 ∧ x3 < 30) (
      gq (gR (σ 196 x3.toNat)) (
      (if (σ 196 x3.toNat) = 0 then
        fx_178_65 k x1 x2 (x3 + 1) σ
      else
        gq (0 ≤ (σ 194 x3.toNat) ∧ (σ 194 x3.toNat) < 30) (
        gc (fx_171 x1 (gb_up (gb_up σ 193 (σ 194 x3.toNat).toNat 1) 187 29 1)) (fun r6 s7 =>
        gq (gR r6) (
        (if r6 = 0 then
          fx_178_113 (fx_178_65 k) x1 x3 0 x2 s7
        else
          fx_178_113 (fx_178_65 k) x1 x3 1 x2 s7)))))))
    else
      some (.inl x2, σ))))
def fx_178_13 (k : Nat) (x1 : Int) (x2 : Int) (σ : gb_S) : Option gb_P := match k with
  | 0 => none
  | k + 1 =>
    gq (gR x2) (
    gq (gR (σ 187 3)) (
    (if x2 < (σ 187 3) then
      gq (0 ≤ x2 ∧ x2 < 14) (
      gq (0 ≤ ((14 * x1) + x2) ∧ ((14 * x1) + x2) < 196) (
      fx_178_13 k x1 (x2 + 1) (gb_up (gb_up σ 220 ((14 * x1) + x2).toNat (σ 216 x2.toNat)) 221 ((14 * x1) + x2).toNat ((gb_up σ 220 ((14 * x1) + x2).toNat (σ 216 x2.toNat)) 217 x2.toNat))))
    else
      fx_178_65 gFU x1 0 0 σ)))
/-- TreeclerkModel.disputes -/
def fx_178 (x1 : Int) (σ : gb_S) : Option gb_P :=
  gc (fx_173 x1 x1 σ) (fun r1 s2 =>
  gq (gR r1) (
  (if r1 = 0 then
    some (.inl 0, s2)
  else
    fx_178_13 gFU x1 0 s2)))
/-- TreeclerkModel.reopenings -/
def fx_179 (x1 : Int) (σ : gb_S) : Option gb_P :=
  gc (fx_131 x1 σ) (fun r1 s2 =>
  gc (fx_127 r1 s2) (fun r3 s4 =>
  gq (gR r3) (
  (if r3 = 0 then
    some (.inl 0, s4)
  else
    gq (0 ≤ x1 ∧ x1 < 14) (
    some (.inl (s4 203 x1.toNat), s4))))))
/-- TreeclerkModel.isRow -/
def fx_185 (x0 : Int) (x1 : Int) (σ : gb_S) : Option gb_P :=
  gc (fx_134 x0 σ) (fun r1 s2 =>
  gq (gR r1) (
  (if r1 = 0 then
    some (.inl 0, s2)
  else
    gc (fx_126 x1 (x0 + 1) 60 s2) (fun r4 s5 =>
    gq (gR r4) (
    (if r4 = 0 then
      some (.inl 0, s5)
    else
      some (.inl 1, s5)))))))
def fx_186_96 (k : Nat) (x1 : Int) (x2 : Int) (x3 : Int) (x7 : Int) (σ : gb_S) : Option gb_P := match k with
  | 0 => none
  | k + 1 =>
    gq (gR x7) (
    gq (gR x3) (
    (if x7 < x3 then
      gq (0 ≤ x7 ∧ x7 < 60) (
      fx_186_96 k x1 x2 x3 (x7 + 1) (gb_up σ 209 x7.toNat 1))
    else
      gc (fx_180 0 x1 (-1) x2 x3 σ) (fun _ s4 =>
      some (.inl (x3 - x2), s4)))))
def fx_186_78 (x1 : Int) (x2 : Int) (x3 : Int) (x4 : Int) (x5 : Int) (x6 : Int) (σ : gb_S) : Option gb_P :=
  gc (fx_129 x4 x5 x6 σ) (fun r1 s2 =>
  gq (gR r1) (
  (if r1 = 0 then
    some (.inl 0, s2)
  else
    fx_186_96 gFU x1 x2 x3 x2 s2)))
def fx_186_39 (k : Nat) (x1 : Int) (x2 : Int) (x3 : Int) (x4 : Int) (x5 : Int) (x6 : Int) (x7 : Int) (σ : gb_S) : Option gb_P := match k with
  | 0 => none
  | k + 1 =>
    gq (gR x5) (
    (if x5 = 0 then
      fx_186_78 x1 x2 x3 x4 x5 x6 σ
    else
      gq (gR x7) (
      gq (gR x3) (
      (if x7 < x3 then
        gq (gR x6) (
        (if x6 = 0 then
          fx_186_39 k x1 x2 x3 x4 x5 0 (x7 + 1) σ
        else
          gq (0 ≤ x7 ∧ x7 < 60) (
          gq (gR (σ 209 x7.toNat)) (
          (if (σ 209 x7.toNat) = 0 then
            fx_186_39 k x1 x2 x3 x4 x5 1 (x7 + 1) σ
          else
            fx_186_39 k x1 x2 x3 x4 x5 0 (x7 + 1) σ)))))
      else
        fx_186_78 x1 x2 x3 x4 x5 x6 σ)))))
/-- TreeclerkModel.grant -/
def fx_186 (x1 : Int) (x2 : Int) (x3 : Int) (σ : gb_S) : Option gb_P :=
  gc (fx_131 x1 σ) (fun r1 s2 =>
  gc (fx_185 x2 x3 s2) (fun r3 s4 =>
  gq (gR r1) (
  (if r1 = 0 then
    fx_186_39 gFU x1 x2 x3 r1 r3 0 x2 s4
  else
    gq (0 ≤ x1 ∧ x1 < 14) (
    gq (gR (s4 189 x1.toNat)) (
    (if (s4 189 x1.toNat) = (-1) then
      fx_186_39 gFU x1 x2 x3 r1 r3 1 x2 s4
    else
      fx_186_39 gFU x1 x2 x3 r1 r3 0 x2 s4)))))))
def fx_187_142 (x1 : Int) (x2 : Int) (x3 : Int) (x4 : Int) (x7 : Int) (y0 : Int) (y1 : Int) (y2 : Int) (σ : gb_S) : Option gb_P :=
  gc (fx_129 y2 y1 y0 σ) (fun r1 s2 =>
  gq (gR r1) (
  (if r1 = 0 then
    some (.inl 0, s2)
  else
    gc (fx_180 1 x1 x2 x3 x4 (gb_up s2 187 26 ((s2 187 26) + 1))) (fun _ s5 =>
    some (.inl x7, s5)))))
def fx_187_98 (x1 : Int) (x2 : Int) (x3 : Int) (x4 : Int) (x5 : Int) (x6 : Int) (x7 : Int) (σ : gb_S) : Option gb_P :=
  gq (gR x7) (
  (if 0 < x7 then
    gq (0 ≤ x1 ∧ x1 < 14) (
    gq (gR (σ 189 x1.toNat)) (
    (if (σ 189 x1.toNat) = (-1) then
      gq (0 ≤ x2 ∧ x2 < 14) (
      gq (gR (σ 189 x2.toNat)) (
      (if (σ 189 x2.toNat) = (-1) then
        gq (gR (σ 187 26)) (
        (if (σ 187 26) < 60 then
          fx_187_142 x1 x2 x3 x4 x7 1 x6 x5 σ
        else
          fx_187_142 x1 x2 x3 x4 x7 0 x6 x5 σ))
      else
        fx_187_142 x1 x2 x3 x4 x7 0 x6 x5 σ)))
    else
      fx_187_142 x1 x2 x3 x4 x7 0 x6 x5 σ)))
  else
    fx_187_142 x1 x2 x3 x4 x7 0 x6 x5 σ))
def fx_187_64 (k : Nat) (x1 : Int) (x2 : Int) (x3 : Int) (x4 : Int) (x5 : Int) (x6 : Int) (x7 : Int) (x8 : Int) (σ : gb_S) : Option gb_P := match k with
  | 0 => none
  | k + 1 =>
    gq (gR x8) (
    gq (gR x4) (
    (if x8 < x4 then
      gq (0 ≤ x8 ∧ x8 < 60) (
      gq (gR (σ 222 x8.toNat)) (
      gq (gR x1) (
      (if (σ 222 x8.toNat) = x1 then
        fx_187_64 k x1 x2 x3 x4 x5 x6 (x7 + 1) (x8 + 1) σ
      else
        fx_187_64 k x1 x2 x3 x4 x5 x6 (x7 + 0) (x8 + 1) σ))))
    else
      fx_187_98 x1 x2 x3 x4 x5 x6 x7 σ)))
def fx_187_42 (x1 : Int) (x2 : Int) (x3 : Int) (x4 : Int) (x5 : Int) (y0 : Int) (σ : gb_S) : Option gb_P :=
  gq (gR x5) (
  (if x5 = 0 then
    fx_187_98 x1 x2 x3 x4 x5 y0 0 σ
  else
    gq (gR y0) (
    (if y0 = 0 then
      fx_187_98 x1 x2 x3 x4 x5 y0 0 σ
    else
      gc (fx_184 σ) (fun _ s4 =>
      fx_187_64 gFU x1 x2 x3 x4 x5 y0 0 x3 s4)))))
def fx_187_21 (x1 : Int) (x2 : Int) (x3 : Int) (x4 : Int) (y0 : Int) (σ : gb_S) : Option gb_P :=
  gq (gR x1) (
  gq (gR x2) (
  (if x1 = x2 then
    fx_187_42 x1 x2 x3 x4 y0 0 σ
  else
    gc (fx_185 x3 x4 σ) (fun r3 s4 =>
    gq (gR r3) (
    (if r3 = 0 then
      fx_187_42 x1 x2 x3 x4 y0 0 s4
    else
      fx_187_42 x1 x2 x3 x4 y0 1 s4))))))
/-- TreeclerkModel.hand -/
def fx_187 (x1 : Int) (x2 : Int) (x3 : Int) (x4 : Int) (σ : gb_S) : Option gb_P :=
  gc (fx_131 x1 σ) (fun r1 s2 =>
  gq (gR r1) (
  (if r1 = 0 then
    fx_187_21 x1 x2 x3 x4 0 s2
  else
    gc (fx_131 x2 s2) (fun r4 s5 =>
    gq (gR r4) (
    (if r4 = 0 then
      fx_187_21 x1 x2 x3 x4 0 s5
    else
      fx_187_21 x1 x2 x3 x4 1 s5))))))
/-- TreeclerkModel.owner -/
def fx_188 (x1 : Int) (σ : gb_S) : Option gb_P :=
  gc (fx_134 x1 σ) (fun r1 s2 =>
  gc (fx_127 r1 s2) (fun r3 s4 =>
  gq (gR r3) (
  (if r3 = 0 then
    some (.inl 0, s4)
  else
    gc (fx_184 s4) (fun _ s7 =>
    gq (0 ≤ x1 ∧ x1 < 60) (
    some (.inl (s7 222 x1.toNat), s7)))))))
/-- TreeclerkModel.ownerAnew -/
def fx_189 (x1 : Int) (σ : gb_S) : Option gb_P :=
  gc (fx_188 x1 σ) (fun r1 s2 =>
  some (.inl r1, s2))
/-- TreeclerkModel.area -/
def fx_190 (x1 : Int) (σ : gb_S) : Option gb_P :=
  gc (fx_131 x1 σ) (fun r1 s2 =>
  gc (fx_127 r1 s2) (fun r3 s4 =>
  gq (gR r3) (
  (if r3 = 0 then
    some (.inl 0, s4)
  else
    gc (fx_184 s4) (fun _ s7 =>
    gc (fx_182 x1 s7) (fun r8 s9 =>
    some (.inl r8, s9)))))))
def fx_191_8 (k : Nat) (x1 : Int) (x2 : Int) (σ : gb_S) : Option gb_P := match k with
  | 0 => none
  | k + 1 =>
    gq (gR x2) (
    (if x2 < 60 then
      gq (0 ≤ x2 ∧ x2 < 60) (
      gq (gR (σ 222 x2.toNat)) (
      (if (σ 222 x2.toNat) = (-1) then
        fx_191_8 k (x1 + 0) (x2 + 1) σ
      else
        (if x2 = 0 then
          fx_191_8 k (x1 + 1) (x2 + 1) σ
        else
          gq (0 ≤ (x2 - 1) ∧ (x2 - 1) < 60) (
          gq (gR (σ 222 (x2 - 1).toNat)) (
          (if (σ 222 (x2 - 1).toNat) = (σ 222 x2.toNat) then
            fx_191_8 k (x1 + 0) (x2 + 1) σ
          else
            fx_191_8 k (x1 + 1) (x2 + 1) σ)))))))
    else
      gc (fx_130 x1 σ) (fun r2 s3 =>
      some (.inl r2, s3))))
/-- TreeclerkModel.parcels -/
def fx_191 (σ : gb_S) : Option gb_P :=
  gc (fx_184 σ) (fun _ s2 =>
  fx_191_8 gFU 0 0 s2)
def fx_192_103 (x3 : Int) (x4 : Int) (σ : gb_S) : Option gb_P :=
  some (.inl (((100 * x3) + x4) - x3), σ)
def fx_192_74 (k : Nat) (x1 : Int) (x3 : Int) (x4 : Int) (σ : gb_S) : Option gb_P := match k with
  | 0 => none
  | k + 1 =>
    gq (gR x4) (
    (if x4 < 60 then
      gq (0 ≤ x4 ∧ x4 < 60) (
      gq (0 ≤ x1 ∧ x1 < 60) (
      gq (gR (σ 222 x4.toNat)) (
      gq (gR (σ 222 x1.toNat)) (
      (if (σ 222 x4.toNat) = (σ 222 x1.toNat) then
        fx_192_74 k x1 x3 (x4 + 1) σ
      else
        fx_192_103 x3 x4 σ)))))
    else
      fx_192_103 x3 x4 σ))
def fx_192_44 (k : Nat) (x1 : Int) (x3 : Int) (σ : gb_S) : Option gb_P := match k with
  | 0 => none
  | k + 1 =>
    gq (gR x3) (
    (if 0 < x3 then
      gq (0 ≤ (x3 - 1) ∧ (x3 - 1) < 60) (
      gq (0 ≤ x1 ∧ x1 < 60) (
      gq (gR (σ 222 (x3 - 1).toNat)) (
      gq (gR (σ 222 x1.toNat)) (
      (if (σ 222 (x3 - 1).toNat) = (σ 222 x1.toNat) then
        fx_192_44 k x1 (x3 + (-1)) σ
      else
        fx_192_74 gFU x1 x3 x1 σ)))))
    else
      fx_192_74 gFU x1 x3 x1 σ))
def fx_192_34 (x1 : Int) (y0 : Int) (y1 : Int) (σ : gb_S) : Option gb_P :=
  gc (fx_128 y1 y0 σ) (fun r1 s2 =>
  gq (gR r1) (
  (if r1 = 0 then
    some (.inl 0, s2)
  else
    fx_192_44 gFU x1 x1 s2)))
def fx_192_13 (x1 : Int) (x2 : Int) (σ : gb_S) : Option gb_P :=
  gq (gR x2) (
  (if x2 = 0 then
    fx_192_34 x1 0 x2 σ
  else
    gq (0 ≤ x1 ∧ x1 < 60) (
    gq (gR (σ 222 x1.toNat)) (
    (if (σ 222 x1.toNat) = (-1) then
      fx_192_34 x1 0 x2 σ
    else
      fx_192_34 x1 1 x2 σ)))))
/-- TreeclerkModel.parcelAt -/
def fx_192 (x1 : Int) (σ : gb_S) : Option gb_P :=
  gc (fx_134 x1 σ) (fun r1 s2 =>
  gq (gR r1) (
  (if r1 = 0 then
    fx_192_13 x1 r1 s2
  else
    gc (fx_184 s2) (fun _ s5 =>
    fx_192_13 x1 r1 s5))))
/-- TreeclerkLaw.pass -/
def fx_196 (x1 : Int) (σ : gb_S) : Option gb_P :=
  (gch (fx_79 x1 σ) (fun r1 s2 =>
    gq (gR r1) (
    some (.inl 0, (gb_up s2 224 0 r1)))) (fun E s => if E = 1 then some (.inl 1, s) else if E = 2 then some (.inl 2, s) else some (.inr E, s)))
/-- TreeclerkLaw.birth -/
def fx_197 (x1 : Int) (σ : gb_S) : Option gb_P :=
  (gch (fx_81 x1 σ) (fun r1 s2 =>
    gq (gR r1) (
    some (.inl 0, (gb_up s2 224 0 r1)))) (fun E s => if E = 1 then some (.inl 1, s) else if E = 2 then some (.inl 2, s) else some (.inr E, s)))
/-- TreeclerkLaw.death -/
def fx_198 (x1 : Int) (σ : gb_S) : Option gb_P :=
  (gch (fx_82 x1 σ) (fun r1 s2 =>
    gq (gR r1) (
    some (.inl 0, (gb_up s2 224 0 r1)))) (fun E s => if E = 0 then some (.inl 1, s) else if E = 2 then some (.inl 2, s) else some (.inr E, s)))
/-- TreeclerkLaw.isAlive -/
def fx_199 (x1 : Int) (σ : gb_S) : Option gb_P :=
  (gch (fx_84 x1 σ) (fun r1 s2 =>
    gq (gR r1) (
    (if r1 = 0 then
      some (.inl 0, (gb_up s2 224 0 0))
    else
      some (.inl 0, (gb_up s2 224 0 1))))) (fun E s => if E = 0 then some (.inl 1, s) else some (.inr E, s)))
/-- TreeclerkLaw.proof -/
def fx_200 (x1 : Int) (x2 : Int) (x3 : Int) (σ : gb_S) : Option gb_P :=
  (gch (fx_85 x1 x2 x3 σ) (fun r1 s2 =>
    gq (gR r1) (
    some (.inl 0, (gb_up s2 224 0 r1)))) (fun E s => if E = 0 then some (.inl 1, s) else if E = 1 then some (.inl 2, s) else if E = 2 then some (.inl 3, s) else some (.inr E, s)))
/-- TreeclerkLaw.doubt -/
def fx_201 (x1 : Int) (x2 : Int) (σ : gb_S) : Option gb_P :=
  (gch (fx_86 x1 x2 σ) (fun r1 s2 =>
    gq (gR r1) (
    some (.inl 0, (gb_up s2 224 0 r1)))) (fun E s => if E = 0 then some (.inl 1, s) else if E = 1 then some (.inl 2, s) else if E = 2 then some (.inl 3, s) else some (.inr E, s)))
/-- TreeclerkLaw.judge -/
def fx_202 (x1 : Int) (x2 : Int) (σ : gb_S) : Option gb_P :=
  (gch (fx_87 x1 x2 σ) (fun r1 s2 =>
    gq (gR r1) (
    some (.inl 0, (gb_up s2 224 0 r1)))) (fun E s => if E = 0 then some (.inl 1, s) else if E = 2 then some (.inl 2, s) else some (.inr E, s)))
/-- TreeclerkLaw.strength -/
def fx_203 (x1 : Int) (σ : gb_S) : Option gb_P :=
  (gch (fx_88 x1 σ) (fun r1 s2 =>
    gq (gR r1) (
    some (.inl 0, (gb_up s2 224 0 r1)))) (fun E s => if E = 0 then some (.inl 1, s) else some (.inr E, s)))
/-- TreeclerkLaw.parentOf -/
def fx_204 (x1 : Int) (x2 : Int) (σ : gb_S) : Option gb_P :=
  (gch (fx_90 x1 x2 σ) (fun r1 s2 =>
    gq (gR r1) (
    some (.inl 0, (gb_up s2 224 0 r1)))) (fun E s => if E = 0 then some (.inl 1, s) else if E = 1 then some (.inl 2, s) else some (.inr E, s)))
/-- TreeclerkLaw.childrenOf -/
def fx_205 (x1 : Int) (σ : gb_S) : Option gb_P :=
  (gch (fx_91 x1 σ) (fun r1 s2 =>
    gq (gR r1) (
    some (.inl 0, (gb_up s2 224 0 r1)))) (fun E s => if E = 0 then some (.inl 1, s) else some (.inr E, s)))
/-- TreeclerkLaw.will -/
def fx_206 (x1 : Int) (x2 : Int) (x3 : Int) (σ : gb_S) : Option gb_P :=
  (gch (fx_92 x1 x2 x3 σ) (fun r1 s2 =>
    gq (gR r1) (
    some (.inl 0, (gb_up s2 224 0 r1)))) (fun E s => if E = 0 then some (.inl 1, s) else if E = 1 then some (.inl 2, s) else if E = 2 then some (.inl 3, s) else some (.inr E, s)))
/-- TreeclerkLaw.claim -/
def fx_207 (x1 : Int) (x2 : Int) (σ : gb_S) : Option gb_P :=
  (gch (fx_93 x1 x2 σ) (fun r1 s2 =>
    gq (gR r1) (
    some (.inl 0, (gb_up s2 224 0 r1)))) (fun E s => if E = 0 then some (.inl 1, s) else if E = 2 then some (.inl 2, s) else some (.inr E, s)))
/-- TreeclerkLaw.claims -/
def fx_208 (x1 : Int) (σ : gb_S) : Option gb_P :=
  (gch (fx_94 x1 σ) (fun r1 s2 =>
    gq (gR r1) (
    some (.inl 0, (gb_up s2 224 0 r1)))) (fun E s => if E = 0 then some (.inl 1, s) else some (.inr E, s)))
/-- TreeclerkLaw.close -/
def fx_209 (x1 : Int) (σ : gb_S) : Option gb_P :=
  (gch (fx_95 x1 σ) (fun r1 s2 =>
    gq (gR r1) (
    some (.inl 0, (gb_up s2 224 0 r1)))) (fun E s => if E = 0 then some (.inl 1, s) else if E = 2 then some (.inl 2, s) else some (.inr E, s)))
/-- TreeclerkLaw.isClosed -/
def fx_210 (x1 : Int) (σ : gb_S) : Option gb_P :=
  (gch (fx_96 x1 σ) (fun r1 s2 =>
    gq (gR r1) (
    (if r1 = 0 then
      some (.inl 0, (gb_up s2 224 0 0))
    else
      some (.inl 0, (gb_up s2 224 0 1))))) (fun E s => if E = 0 then some (.inl 1, s) else some (.inr E, s)))
/-- TreeclerkLaw.shareAbove -/
def fx_211 (x1 : Int) (x2 : Int) (σ : gb_S) : Option gb_P :=
  (gch (fx_97 x1 x2 σ) (fun r1 s2 =>
    some (.inl 0, (gb_up s2 224 0 r1))) (fun E s => if E = 0 then some (.inl 1, s) else if E = 2 then some (.inl 2, s) else some (.inr E, s)))
/-- TreeclerkLaw.shareBelow -/
def fx_212 (x1 : Int) (x2 : Int) (σ : gb_S) : Option gb_P :=
  (gch (fx_98 x1 x2 σ) (fun r1 s2 =>
    some (.inl 0, (gb_up s2 224 0 r1))) (fun E s => if E = 0 then some (.inl 1, s) else if E = 2 then some (.inl 2, s) else some (.inr E, s)))
/-- TreeclerkLaw.shareAboveByWays -/
def fx_213 (x1 : Int) (x2 : Int) (σ : gb_S) : Option gb_P :=
  (gch (fx_99 x1 x2 σ) (fun r1 s2 =>
    some (.inl 0, (gb_up s2 224 0 r1))) (fun E s => if E = 0 then some (.inl 1, s) else if E = 2 then some (.inl 2, s) else some (.inr E, s)))
/-- TreeclerkLaw.heirs -/
def fx_214 (x1 : Int) (σ : gb_S) : Option gb_P :=
  (gch (fx_100 x1 σ) (fun r1 s2 =>
    gq (gR r1) (
    some (.inl 0, (gb_up s2 224 0 r1)))) (fun E s => if E = 0 then some (.inl 1, s) else if E = 2 then some (.inl 2, s) else some (.inr E, s)))
/-- TreeclerkLaw.disputes -/
def fx_215 (x1 : Int) (σ : gb_S) : Option gb_P :=
  (gch (fx_101 x1 σ) (fun r1 s2 =>
    gq (gR r1) (
    some (.inl 0, (gb_up s2 224 0 r1)))) (fun E s => if E = 0 then some (.inl 1, s) else if E = 2 then some (.inl 2, s) else some (.inr E, s)))
/-- TreeclerkLaw.reopenings -/
def fx_216 (x1 : Int) (σ : gb_S) : Option gb_P :=
  (gch (fx_102 x1 σ) (fun r1 s2 =>
    gq (gR r1) (
    some (.inl 0, (gb_up s2 224 0 r1)))) (fun E s => if E = 0 then some (.inl 1, s) else some (.inr E, s)))
/-- TreeclerkLaw.grant -/
def fx_217 (x1 : Int) (x2 : Int) (x3 : Int) (σ : gb_S) : Option gb_P :=
  (gch (fx_103 x1 x2 x3 σ) (fun r1 s2 =>
    gq (gR r1) (
    some (.inl 0, (gb_up s2 224 0 r1)))) (fun E s => if E = 0 then some (.inl 1, s) else if E = 1 then some (.inl 2, s) else if E = 2 then some (.inl 3, s) else some (.inr E, s)))
/-- TreeclerkLaw.hand -/
def fx_218 (x1 : Int) (x2 : Int) (x3 : Int) (x4 : Int) (σ : gb_S) : Option gb_P :=
  (gch (fx_104 x1 x2 x3 x4 σ) (fun r1 s2 =>
    gq (gR r1) (
    some (.inl 0, (gb_up s2 224 0 r1)))) (fun E s => if E = 0 then some (.inl 1, s) else if E = 1 then some (.inl 2, s) else if E = 2 then some (.inl 3, s) else some (.inr E, s)))
/-- TreeclerkLaw.owner -/
def fx_219 (x1 : Int) (σ : gb_S) : Option gb_P :=
  (gch (fx_105 x1 σ) (fun r1 s2 =>
    gq (gR r1) (
    some (.inl 0, (gb_up s2 224 0 r1)))) (fun E s => if E = 0 then some (.inl 1, s) else some (.inr E, s)))
/-- TreeclerkLaw.ownerAnew -/
def fx_220 (x1 : Int) (σ : gb_S) : Option gb_P :=
  (gch (fx_106 x1 σ) (fun r1 s2 =>
    gq (gR r1) (
    some (.inl 0, (gb_up s2 224 0 r1)))) (fun E s => if E = 0 then some (.inl 1, s) else some (.inr E, s)))
/-- TreeclerkLaw.area -/
def fx_221 (x1 : Int) (σ : gb_S) : Option gb_P :=
  (gch (fx_107 x1 σ) (fun r1 s2 =>
    gq (gR r1) (
    some (.inl 0, (gb_up s2 224 0 r1)))) (fun E s => if E = 0 then some (.inl 1, s) else some (.inr E, s)))
/-- TreeclerkLaw.parcelAt -/
def fx_222 (x1 : Int) (σ : gb_S) : Option gb_P :=
  (gch (fx_109 x1 σ) (fun r1 s2 =>
    gq (gR r1) (
    some (.inl 0, (gb_up s2 224 0 r1)))) (fun E s => if E = 0 then some (.inl 1, s) else if E = 3 then some (.inl 2, s) else some (.inr E, s)))
end GD1
