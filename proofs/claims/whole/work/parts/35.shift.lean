section GSh
variable {δ own : Nat} {rt : Option FieldType} {hnd : Nat → Nat → Option (Nat × Nat)} {K : List (Nat × Instr × Nat)} {c0 : gh_C} {pc : Nat} {lo : gh_L} {st : List Value} {σ : gb_S} {Q : gh_O → gb_S → Prop}
theorem gb_sm : ∀ n ∈ List.range 31, (Int32.ofNat n &&& 31).toBitVec.smod 32 = BitVec.ofNat 32 n := by decide +kernel
theorem gb_shlN (a n : Nat) (hn : n < 31) (ha : a * 2 ^ n < 2147483648) : Int32.ofInt a <<< (Int32.ofInt n &&& 31) = Int32.ofInt ((a * 2 ^ n : Nat) : Int) := by
  have hp : 0 < 2 ^ n := Nat.two_pow_pos n
  have ha2 : a < 2147483648 := Nat.lt_of_le_of_lt (Nat.le_mul_of_pos_right a hp) ha
  apply Int32.toBitVec_inj.mp
  rw [Int32.toBitVec_shiftLeft, gb_ofNat n, gb_sm n (List.mem_range.mpr hn), gb_bvN, gb_bvN]
  apply BitVec.eq_of_toNat_eq
  rw [BitVec.shiftLeft_eq', BitVec.toNat_shiftLeft, BitVec.toNat_ofNat, BitVec.toNat_ofNat, BitVec.toNat_ofNat, Nat.mod_eq_of_lt (by omega : n < 2 ^ 32), Nat.mod_eq_of_lt (by omega : a < 2 ^ 32), Nat.shiftLeft_eq]
theorem gw_shl {a n : Nat} (hk : K.lookup pc = some (.ishl, 1)) (hn : n < 31) (ha : a * 2 ^ n < 2147483648) (h : gb_W δ own rt hnd K c0 (pc + 1) lo (vi ((a * 2 ^ n : Nat) : Int) :: st) σ Q) : gb_W δ own rt hnd K c0 pc lo (vi (n : Int) :: vi (a : Int) :: st) σ Q :=
  gw_s hk (by show gh_go (pc + 1) lo (.int (Int32.ofInt a <<< (Int32.ofInt n &&& 31)) :: st) _ = _; rw [gb_shlN a n hn ha]; rfl) h
theorem gb_shrN (a n : Nat) (hn : n < 31) (ha : a < 2147483648) : Int32.ofInt a >>> (Int32.ofInt n &&& 31) = Int32.ofInt ((a / 2 ^ n : Nat) : Int) := by
  have h1 : a / 2 ^ n < 2147483648 := Nat.lt_of_le_of_lt (Nat.div_le_self _ _) ha
  apply Int32.toBitVec_inj.mp
  rw [Int32.toBitVec_shiftRight, gb_ofNat n, gb_sm n (List.mem_range.mpr hn), gb_bvN, gb_bvN]
  have hm : (BitVec.ofNat 32 a).msb = false := by rw [BitVec.msb_eq_false_iff_two_mul_lt, BitVec.toNat_ofNat, Nat.mod_eq_of_lt (by omega)]; omega
  rw [BitVec.sshiftRight_eq', BitVec.sshiftRight_eq_of_msb_false hm]
  apply BitVec.eq_of_toNat_eq
  rw [BitVec.toNat_ushiftRight, BitVec.toNat_ofNat, BitVec.toNat_ofNat, BitVec.toNat_ofNat, Nat.mod_eq_of_lt (by omega : n < 2 ^ 32), Nat.mod_eq_of_lt (by omega : a < 2 ^ 32), Nat.mod_eq_of_lt (by omega : a / 2 ^ n < 2 ^ 32), Nat.shiftRight_eq_div_pow]
theorem gw_shr {a n : Nat} (hk : K.lookup pc = some (.ishr, 1)) (hn : n < 31) (ha : a < 2147483648) (h : gb_W δ own rt hnd K c0 (pc + 1) lo (vi ((a / 2 ^ n : Nat) : Int) :: st) σ Q) : gb_W δ own rt hnd K c0 pc lo (vi (n : Int) :: vi (a : Int) :: st) σ Q :=
  gw_s hk (by show gh_go (pc + 1) lo (.int (Int32.ofInt a >>> (Int32.ofInt n &&& 31)) :: st) _ = _; rw [gb_shrN a n hn ha]; rfl) h
end GSh
