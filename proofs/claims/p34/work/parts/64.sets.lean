section BT1
/-- p is in the set s -/
def bt (s : Int) (p : Nat) : Bool := (Int32.ofInt s).toBitVec.getLsbD p
theorem bt_or (x y : Int) (p : Nat) : bt (gb_or x y) p = (bt x p || bt y p) := by
  unfold bt gb_or
  rw [Int32.ofInt_toInt, Int32.toBitVec_or, BitVec.getLsbD_or]
theorem bt_and (x y : Int) (p : Nat) : bt (gb_and x y) p = (bt x p && bt y p) := by
  unfold bt gb_and
  rw [Int32.ofInt_toInt, Int32.toBitVec_and, BitVec.getLsbD_and]
theorem bt_not (x : Int) {p : Nat} (hp : p < 32) : bt (gb_xor x (-1)) p = !bt x p := by
  unfold bt gb_xor
  rw [Int32.ofInt_toInt, Int32.toBitVec_xor, BitVec.getLsbD_xor]
  have : (Int32.ofInt (-1)).toBitVec = BitVec.allOnes 32 := by decide
  rw [this, BitVec.getLsbD_allOnes, decide_eq_true hp]
  cases (Int32.ofInt x).toBitVec.getLsbD p <;> rfl
theorem bt_zero (p : Nat) : bt 0 p = false := by
  unfold bt
  have : (Int32.ofInt 0).toBitVec = 0#32 := by decide
  rw [this]
  exact BitVec.getLsbD_zero
theorem bt_shl_all : ∀ k ∈ List.range 14, ∀ p ∈ List.range 32, bt (gb_shl 1 (k : Int)) p = decide (p = k) := by decide +kernel
theorem bt_big (x : Int) {p : Nat} (hp : 32 ≤ p) : bt x p = false := BitVec.getLsbD_of_ge _ _ hp
theorem bt_shl {k : Nat} (hk : k < 14) (p : Nat) : bt (gb_shl 1 (k : Int)) p = decide (p = k) := by
  by_cases hp : p < 32
  · exact bt_shl_all k (List.mem_range.mpr hk) p (List.mem_range.mpr hp)
  · rw [bt_big _ (by omega), decide_eq_false (by omega)]
theorem i32R (x : Int32) : -2147483648 ≤ x.toInt ∧ x.toInt ≤ 2147483647 := by
  have h1 := Int32.toInt_lt x
  have h2 := Int32.le_toInt x
  omega
theorem and_R (x y : Int) : -2147483648 ≤ gb_and x y ∧ gb_and x y ≤ 2147483647 := i32R _
theorem or_R (x y : Int) : -2147483648 ≤ gb_or x y ∧ gb_or x y ≤ 2147483647 := i32R _
theorem xor_R (x y : Int) : -2147483648 ≤ gb_xor x y ∧ gb_xor x y ≤ 2147483647 := i32R _
theorem shl_R (x y : Int) : -2147483648 ≤ gb_shl x y ∧ gb_shl x y ≤ 2147483647 := i32R _
theorem and_one (z : Int) : gb_and z 1 = if bt z 0 = true then 1 else 0 := by
  unfold gb_and bt
  have h : (Int32.ofInt z &&& Int32.ofInt 1).toInt = ((Int32.ofInt z).toBitVec &&& 1#32).toInt := by
    rw [← Int32.toInt_toBitVec, Int32.toBitVec_and]
    rfl
  rw [h, BitVec.and_one_eq_setWidth_ofBool_getLsbD]
  cases (Int32.ofInt z).toBitVec.getLsbD 0 <;> decide
theorem bt_shr_k : ∀ k ∈ List.range 14, ((Int32.ofInt (k : Int)) &&& 31).toBitVec.smod 32 = BitVec.ofNat 32 k := by decide +kernel
theorem bt_shr (x : Int) {k : Nat} (hk : k < 14) : bt (gb_shr x (k : Int)) 0 = bt x k := by
  unfold bt gb_shr
  rw [Int32.ofInt_toInt, Int32.toBitVec_shiftRight, bt_shr_k k (List.mem_range.mpr hk), BitVec.getLsbD_sshiftRight']
  have h1 : (BitVec.ofNat 32 k).toNat = k := by rw [BitVec.toNat_ofNat, Nat.mod_eq_of_lt (by omega)]
  rw [h1]
  simp
  intro h
  omega
variable {σ : gb_S}
theorem isIn_in (s : Int) {p : Nat} (hp : p < 14) : fx_123 s (p : Int) σ = some (.inl (if bt s p = true then 1 else 0), σ) := by
  have hR := and_R (gb_shr s (p : Int)) 1
  unfold fx_123
  rw [gq_R (by omega) (by omega), if_neg (by omega), if_pos (by omega), gq_R hR.1 hR.2, and_one, bt_shr s hp]
  by_cases h : bt s p = true
  · rw [if_pos h, if_neg (by decide)]
  · rw [if_neg h, if_pos rfl]
theorem isIn_out (s : Int) {x : Int} (h1 : -2147483648 ≤ x) (h2 : x ≤ 2147483647) (h : x < 0 ∨ 14 ≤ x) : fx_123 s x σ = some (.inl 0, σ) := by
  unfold fx_123
  rw [gq_R h1 h2]
  split
  · rfl
  · rw [if_neg (by omega)]
/-- a set of which nobody is a member is 0 -/
theorem bt_eq0 {z : Int} (h : -2147483648 ≤ z ∧ z ≤ 2147483647) : z = 0 ↔ ∀ p, p < 32 → bt z p = false := by
  constructor
  · intro q p _
    rw [q]
    exact bt_zero p
  · intro q
    have h1 : (Int32.ofInt z).toBitVec = 0#32 := by
      apply BitVec.eq_of_getLsbD_eq
      intro i hi
      rw [BitVec.getLsbD_zero]
      exact q i hi
    have h2 : (Int32.ofInt z).toInt = z := gb_toI h
    rw [← h2, ← Int32.toInt_toBitVec, h1]
    rfl
theorem bt_14 {z : Int} (h : -2147483648 ≤ z ∧ z ≤ 2147483647) (hb : ∀ p, 14 ≤ p → p < 32 → bt z p = false) : 0 ≤ z ∧ z < 16384 := by
  have h2 : (Int32.ofInt z).toInt = z := gb_toI h
  have hm : (Int32.ofInt z).toBitVec.msb = false := by rw [BitVec.msb_eq_getLsbD_last]; exact hb 31 (by omega) (by omega)
  have h3 : (Int32.ofInt z).toBitVec.toInt = ((Int32.ofInt z).toBitVec.toNat : Int) := BitVec.toInt_eq_toNat_of_msb hm
  have h4 : (Int32.ofInt z).toBitVec.toNat < 2 ^ 14 := by
    apply Nat.lt_pow_two_of_testBit
    intro i hi
    by_cases hi2 : i < 32
    · exact hb i hi hi2
    · exact BitVec.getLsbD_of_ge _ _ (by omega)
  rw [Int32.toInt_toBitVec, h2] at h3
  omega
theorem bt_nat {a : Nat} (ha : a < 2147483648) (p : Nat) : bt (a : Int) p = a.testBit p := by
  unfold bt
  show (Int32.ofInt (a : Int)).toBitVec.toNat.testBit p = _
  rw [gb_bvN, BitVec.toNat_ofNat, Nat.mod_eq_of_lt (by omega)]
theorem andN {a b : Nat} (ha : a < 2147483648) (hb : b < 2147483648) : gb_and (a : Int) (b : Int) = ((a &&& b : Nat) : Int) := by
  unfold gb_and
  rw [gb_andN a b ha hb]
  have : a &&& b ≤ a := Nat.and_le_left
  exact gb_toI ⟨by omega, by omega⟩
theorem ushr_k : ∀ k ∈ List.range 31, ((Int32.ofInt (k : Int)).toUInt32 &&& Int32.toUInt32 31).toBitVec % 32 = BitVec.ofNat 32 k := by decide +kernel
theorem ushrN {a n : Nat} (hn : n < 31) (ha : a < 2147483648) : gb_ushr (a : Int) (n : Int) = ((a / 2 ^ n : Nat) : Int) := by
  have hle : a / 2 ^ n ≤ a := Nat.div_le_self _ _
  have e : ((Int32.ofInt (a : Int)).toUInt32 >>> ((Int32.ofInt (n : Int)).toUInt32 &&& Int32.toUInt32 31)).toInt32 = Int32.ofInt ((a / 2 ^ n : Nat) : Int) := by
    apply Int32.toBitVec_inj.mp
    rw [UInt32.toBitVec_toInt32, UInt32.toBitVec_shiftRight, ushr_k n (List.mem_range.mpr hn), Int32.toBitVec_toUInt32, gb_bvN, gb_bvN]
    apply BitVec.eq_of_toNat_eq
    rw [BitVec.ushiftRight_eq', BitVec.toNat_ushiftRight, BitVec.toNat_ofNat, BitVec.toNat_ofNat, BitVec.toNat_ofNat, Nat.mod_eq_of_lt (by omega : n < 2 ^ 32), Nat.mod_eq_of_lt (by omega : a < 2 ^ 32), Nat.mod_eq_of_lt (by omega : a / 2 ^ n < 2 ^ 32), Nat.shiftRight_eq_div_pow]
  unfold gb_ushr
  rw [e]
  generalize a / 2 ^ n = d at hle
  exact gb_toI ⟨by omega, by omega⟩
def pc1 (x : Nat) : Nat := x - (x / 2 &&& 1431655765)
def pc2 (x : Nat) : Nat := (x &&& 858993459) + (x / 4 &&& 858993459)
def pc3 (x : Nat) : Nat := (x + x / 16) &&& 252645135
def pc4 (x : Nat) : Nat := x + x / 256
def pc5 (x : Nat) : Nat := (x + x / 65536) &&& 63
def pcc (x : Nat) : Nat := sn (fun p => x / 2 ^ p % 2) 14
def pcF (lo : Nat) : Nat → Bool
  | 0 => true
  | k + 1 => Nat.beq (pc5 (pc4 (pc3 (pc2 (pc1 (lo + k)))))) (pcc (lo + k)) && pcF lo k
theorem pcF_ok {lo : Nat} : ∀ {k : Nat}, pcF lo k = true → ∀ i, i < k → pc5 (pc4 (pc3 (pc2 (pc1 (lo + i))))) = pcc (lo + i) := by
  intro k
  induction k with
  | zero => intro _ i hi; omega
  | succ k ih =>
    intro h i hi
    rw [pcF, Bool.and_eq_true] at h
    by_cases hq : i = k
    · subst hq; exact Nat.eq_of_beq_eq_true h.1
    · exact ih h.2 i (by omega)
def pcG : Nat → Bool
  | 0 => true
  | k + 1 => pcF (128 * k) 128 && pcG k
theorem pcG_ok : ∀ {k : Nat}, pcG k = true → ∀ j, j < k → pcF (128 * j) 128 = true := by
  intro k
  induction k with
  | zero => intro _ i hi; omega
  | succ k ih =>
    intro h i hi
    rw [pcG, Bool.and_eq_true] at h
    by_cases hq : i = k
    · subst hq; exact h.1
    · exact ih h.2 i (by omega)
theorem pc_all : pcG 128 = true := by decide +kernel
theorem pc_ok {x : Nat} (h : x < 16384) : pc5 (pc4 (pc3 (pc2 (pc1 x)))) = pcc x := by
  have h1 := pcF_ok (pcG_ok pc_all (x / 128) (by omega)) (x % 128) (by omega)
  rw [show 128 * (x / 128) + x % 128 = x by omega] at h1
  exact h1
theorem pcc_ct {x : Nat} (h : x < 16384) : pcc x = ct (bt (x : Int)) 14 := by
  have e : ∀ p, (if bt (x : Int) p = true then 1 else 0) = x / 2 ^ p % 2 := by
    intro p
    rw [bt_nat (by omega), Nat.testBit_eq_decide_div_mod_eq]
    have := Nat.mod_lt (x / 2 ^ p) (show 2 > 0 by omega)
    by_cases hq : x / 2 ^ p % 2 = 1
    · rw [hq]; simp
    · rw [decide_eq_false hq]; simp; omega
  unfold pcc
  rw [← sn_ct]
  exact sn_congr (fun p _ => (e p).symm)
/-- Integer.bitCount -/
theorem bitc {z : Int} (h : 0 ≤ z ∧ z < 16384) : fx_193 z σ = some (.inl ((ct (bt z) 14 : Nat) : Int), σ) := by
  obtain ⟨x, rfl⟩ : ∃ x : Nat, z = (x : Int) := ⟨z.toNat, by omega⟩
  have hx : x < 16384 := by omega
  have a1 : x / 2 &&& 1431655765 ≤ x / 2 := Nat.and_le_left
  have s1 : (x : Int) - gb_and (gb_ushr (x : Int) 1) 1431655765 = ((pc1 x : Nat) : Int) := by
    rw [show gb_ushr (x : Int) 1 = ((x / 2 : Nat) : Int) from ushrN (n := 1) (by omega) (by omega), show gb_and ((x / 2 : Nat) : Int) 1431655765 = ((x / 2 &&& 1431655765 : Nat) : Int) from andN (b := 1431655765) (by omega) (by omega)]
    unfold pc1
    omega
  have b1 : pc1 x ≤ x := Nat.sub_le _ _
  have a2 : pc1 x &&& 858993459 ≤ pc1 x := Nat.and_le_left
  have a3 : pc1 x / 4 &&& 858993459 ≤ pc1 x / 4 := Nat.and_le_left
  have s2 : gb_and ((pc1 x : Nat) : Int) 858993459 + gb_and (gb_ushr ((pc1 x : Nat) : Int) 2) 858993459 = ((pc2 (pc1 x) : Nat) : Int) := by
    rw [show gb_ushr ((pc1 x : Nat) : Int) 2 = ((pc1 x / 4 : Nat) : Int) from ushrN (n := 2) (by omega) (by omega), show gb_and ((pc1 x / 4 : Nat) : Int) 858993459 = ((pc1 x / 4 &&& 858993459 : Nat) : Int) from andN (b := 858993459) (by omega) (by omega), show gb_and ((pc1 x : Nat) : Int) 858993459 = ((pc1 x &&& 858993459 : Nat) : Int) from andN (b := 858993459) (by omega) (by omega)]
    unfold pc2
    omega
  have b2 : pc2 (pc1 x) < 32768 := by unfold pc2; omega
  generalize hy : pc2 (pc1 x) = y at s2 b2
  have a4 : (y + y / 16) &&& 252645135 ≤ y + y / 16 := Nat.and_le_left
  have s3 : gb_and ((y : Int) + gb_ushr (y : Int) 4) 252645135 = ((pc3 y : Nat) : Int) := by
    rw [show gb_ushr (y : Int) 4 = ((y / 16 : Nat) : Int) from ushrN (n := 4) (by omega) (by omega), show (y : Int) + ((y / 16 : Nat) : Int) = ((y + y / 16 : Nat) : Int) by omega, show gb_and ((y + y / 16 : Nat) : Int) 252645135 = (((y + y / 16) &&& 252645135 : Nat) : Int) from andN (b := 252645135) (by omega) (by omega)]
    rfl
  have b3 : pc3 y < 65536 := by unfold pc3; omega
  generalize hv : pc3 y = v at s3 b3
  have s4 : (v : Int) + gb_ushr (v : Int) 8 = ((pc4 v : Nat) : Int) := by
    rw [show gb_ushr (v : Int) 8 = ((v / 256 : Nat) : Int) from ushrN (n := 8) (by omega) (by omega)]
    unfold pc4
    omega
  have b4 : pc4 v < 131072 := by unfold pc4; omega
  generalize hw : pc4 v = w at s4 b4
  have s5 : gb_and ((w : Int) + gb_ushr (w : Int) 16) 63 = ((pc5 w : Nat) : Int) := by
    rw [show gb_ushr (w : Int) 16 = ((w / 65536 : Nat) : Int) from ushrN (n := 16) (by omega) (by omega), show (w : Int) + ((w / 65536 : Nat) : Int) = ((w + w / 65536 : Nat) : Int) by omega, show gb_and ((w + w / 65536 : Nat) : Int) 63 = (((w + w / 65536) &&& 63 : Nat) : Int) from andN (b := 63) (by omega) (by omega)]
    rfl
  unfold fx_193
  rw [s1, s2, s3, s4, s5, ← pcc_ct hx, ← pc_ok hx, hy, hv, hw]
end BT1
