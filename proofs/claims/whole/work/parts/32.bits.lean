/-! ===== bits of small numbers ===== -/
theorem bv_i (n : Nat) : (am_i (n : Int)).toBitVec = BitVec.ofNat 32 n := by rw [am_i_nat]; rfl
theorem s_and (a b : Nat) : am_i (a : Int) &&& am_i (b : Int) = am_i ((a &&& b : Nat) : Int) := by
  apply Int32.toBitVec_inj.1
  rw [Int32.toBitVec_and, bv_i, bv_i, bv_i, BitVec.ofNat_and]
theorem s_or (a b : Nat) : am_i (a : Int) ||| am_i (b : Int) = am_i ((a ||| b : Nat) : Int) := by
  apply Int32.toBitVec_inj.1
  rw [Int32.toBitVec_or, bv_i, bv_i, bv_i, BitVec.ofNat_or]
theorem s_31 {v : Nat} (h : v < 32) : am_i (v : Int) &&& 31 = am_i (v : Int) := by
  have e : (31 : Int32) = am_i ((31 : Nat) : Int) := by decide
  rw [e, s_and]
  have : v &&& 31 = v := Nat.and_two_pow_sub_one_of_lt_two_pow (n := 5) h
  rw [this]
theorem s_smod {v : Nat} (h : v < 32) : ((am_i (v : Int)).toBitVec.smod 32).toNat = v := by
  rw [bv_i]
  have : ∀ v : Fin 32, ((BitVec.ofNat 32 v.val).smod 32).toNat = v.val := by decide
  exact this ⟨v, h⟩
theorem s_shr {a v : Nat} (ha : a < 2147483648) (h : v < 32) : am_i (a : Int) >>> am_i (v : Int) = am_i ((a / 2 ^ v : Nat) : Int) := by
  apply Int32.toBitVec_inj.1
  rw [Int32.toBitVec_shiftRight, BitVec.sshiftRight_eq', s_smod h, bv_i, bv_i, BitVec.sshiftRight_eq_of_msb_false]
  · apply BitVec.eq_of_toNat_eq
    rw [BitVec.toNat_ushiftRight, BitVec.toNat_ofNat, BitVec.toNat_ofNat, Nat.shiftRight_eq_div_pow, Nat.mod_eq_of_lt (by omega), Nat.mod_eq_of_lt]
    exact Nat.lt_of_le_of_lt (Nat.div_le_self _ _) (by omega)
  · rw [BitVec.msb_eq_decide, BitVec.toNat_ofNat, Nat.mod_eq_of_lt (by omega)]
    exact decide_eq_false (by omega)
theorem s_shl {a v : Nat} (h : v < 32) : am_i (a : Int) <<< am_i (v : Int) = am_i ((a * 2 ^ v : Nat) : Int) := by
  apply Int32.toBitVec_inj.1
  rw [Int32.toBitVec_shiftLeft, BitVec.shiftLeft_eq', s_smod h, bv_i, bv_i]
  apply BitVec.eq_of_toNat_eq
  rw [BitVec.toNat_shiftLeft, BitVec.toNat_ofNat, BitVec.toNat_ofNat, Nat.shiftLeft_eq, Nat.mod_mul_mod]
theorem s_1 (a : Nat) : am_i (a : Int) &&& am_i 1 = am_i ((a % 2 : Nat) : Int) := by
  have e : am_i (1 : Int) = am_i ((1 : Nat) : Int) := rfl
  rw [e, s_and, Nat.and_one_is_mod]
theorem s_2 (a k : Nat) : am_i (a : Int) &&& am_i ((2 ^ k - 1 : Nat) : Int) = am_i ((a % 2 ^ k : Nat) : Int) := by
  rw [s_and, Nat.and_two_pow_sub_one_eq_mod]
