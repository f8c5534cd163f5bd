/-! bits of small numbers -/
theorem i32_bv {a : Nat} (ha : a < 2147483648) : (Int32.ofInt (a : Int)).toBitVec = BitVec.ofNat 32 a := by
  rw [Int32.ofInt_eq_ofNat, Int32.toBitVec_ofNat']
theorem bv_ti {x : BitVec 32} (h : x.toNat < 2147483648) : x.toInt = (x.toNat : Int) := BitVec.toInt_eq_toNat_of_lt (by omega)
theorem land_lt {a b : Nat} (ha : a < 2147483648) : a &&& b < 2147483648 := Nat.lt_of_le_of_lt Nat.and_le_left ha
theorem lor_lt {a b : Nat} (ha : a < 2147483648) (hb : b < 2147483648) : a ||| b < 2147483648 := Nat.or_lt_two_pow (n := 31) ha hb
theorem lxor_lt {a b : Nat} (ha : a < 2147483648) (hb : b < 2147483648) : a ^^^ b < 2147483648 := Nat.xor_lt_two_pow (n := 31) ha hb
theorem iand_n {a b : Nat} (ha : a < 2147483648) (hb : b < 2147483648) : iand a b = ((a &&& b : Nat) : Int) := by
  have e : ((Int32.ofInt (a : Int) &&& Int32.ofInt (b : Int)).toBitVec).toNat = a &&& b := by
    rw [Int32.toBitVec_and, i32_bv ha, i32_bv hb, BitVec.toNat_and, BitVec.toNat_ofNat, BitVec.toNat_ofNat, Nat.mod_eq_of_lt (by omega), Nat.mod_eq_of_lt (by omega)]
  unfold iand
  rw [← Int32.toInt_toBitVec, bv_ti (by rw [e]; exact land_lt ha), e]
theorem ior_n {a b : Nat} (ha : a < 2147483648) (hb : b < 2147483648) : ior a b = ((a ||| b : Nat) : Int) := by
  have e : ((Int32.ofInt (a : Int) ||| Int32.ofInt (b : Int)).toBitVec).toNat = a ||| b := by
    rw [Int32.toBitVec_or, i32_bv ha, i32_bv hb, BitVec.toNat_or, BitVec.toNat_ofNat, BitVec.toNat_ofNat, Nat.mod_eq_of_lt (by omega), Nat.mod_eq_of_lt (by omega)]
  unfold ior
  rw [← Int32.toInt_toBitVec, bv_ti (by rw [e]; exact lor_lt ha hb), e]
theorem ixor_n {a b : Nat} (ha : a < 2147483648) (hb : b < 2147483648) : ixor a b = ((a ^^^ b : Nat) : Int) := by
  have e : ((Int32.ofInt (a : Int) ^^^ Int32.ofInt (b : Int)).toBitVec).toNat = a ^^^ b := by
    rw [Int32.toBitVec_xor, i32_bv ha, i32_bv hb, BitVec.toNat_xor, BitVec.toNat_ofNat, BitVec.toNat_ofNat, Nat.mod_eq_of_lt (by omega), Nat.mod_eq_of_lt (by omega)]
  unfold ixor
  rw [← Int32.toInt_toBitVec, bv_ti (by rw [e]; exact lxor_lt ha hb), e]
theorem ior_m2 {a : Nat} (ha : a < 2147483648) : ior a (-2) = if a % 2 = 1 then -1 else -2 := by
  have e : (Int32.ofInt (a : Int) ||| Int32.ofInt (-2)).toBitVec = if a % 2 = 1 then BitVec.ofInt 32 (-1) else BitVec.ofInt 32 (-2) := by
    rw [Int32.toBitVec_or, i32_bv ha]
    have e2 : (Int32.ofInt (-2)).toBitVec = 4294967294#32 := by decide
    rw [e2]
    apply BitVec.eq_of_getLsbD_eq
    intro i hi
    have e3 : ∀ i, i < 32 → (4294967294#32).getLsbD i = decide (i ≠ 0) := by decide
    have e4 : ∀ i, i < 32 → (BitVec.ofInt 32 (-1)).getLsbD i = true := by decide
    have e5 : ∀ i, i < 32 → (BitVec.ofInt 32 (-2)).getLsbD i = decide (i ≠ 0) := by decide
    rw [BitVec.getLsbD_or, e3 i hi, BitVec.getLsbD_ofNat]
    by_cases h0 : i = 0
    · subst h0
      split
      · rename_i h
        rw [e4 0 hi, Nat.testBit_zero]
        simp [h]
      · rename_i h
        rw [e5 0 hi, Nat.testBit_zero]
        simp [h]
    · split
      · rw [e4 i hi]; simp [h0]
      · rw [e5 i hi]; simp [h0]
  unfold ior
  rw [← Int32.toInt_toBitVec, e]
  split <;> decide
theorem iand_m1 {a : Nat} (ha : a < 2147483648) : iand a (-1) = a := by
  have e : ((Int32.ofInt (a : Int) &&& Int32.ofInt (-1)).toBitVec).toNat = a := by
    rw [Int32.toBitVec_and, i32_bv ha]
    have e2 : (Int32.ofInt (-1)).toBitVec = BitVec.allOnes 32 := by decide
    rw [e2, BitVec.and_allOnes, BitVec.toNat_ofNat, Nat.mod_eq_of_lt (by omega)]
  unfold iand
  rw [← Int32.toInt_toBitVec, bv_ti (by rw [e]; exact ha), e]
theorem iand_m2 {a : Nat} (ha : a < 2147483648) : iand a (-2) = ((2 * (a / 2) : Nat) : Int) := by
  have e0 : (Int32.ofInt (a : Int) &&& Int32.ofInt (-2)).toBitVec = BitVec.ofNat 32 (2 * (a / 2)) := by
    rw [Int32.toBitVec_and, i32_bv ha]
    have e2 : (Int32.ofInt (-2)).toBitVec = 4294967294#32 := by decide
    rw [e2]
    apply BitVec.eq_of_getLsbD_eq
    intro i hi
    have e3 : ∀ i, i < 32 → (4294967294#32).getLsbD i = decide (i ≠ 0) := by decide
    rw [BitVec.getLsbD_and, e3 i hi, BitVec.getLsbD_ofNat, BitVec.getLsbD_ofNat]
    by_cases h0 : i = 0
    · subst h0
      simp
    · obtain ⟨j, rfl⟩ : ∃ j, i = j + 1 := ⟨i - 1, by omega⟩
      rw [Nat.testBit_succ, Nat.testBit_succ]
      simp
  have e : ((Int32.ofInt (a : Int) &&& Int32.ofInt (-2)).toBitVec).toNat = 2 * (a / 2) := by
    rw [e0, BitVec.toNat_ofNat, Nat.mod_eq_of_lt (by omega)]
  unfold iand
  rw [← Int32.toInt_toBitVec, bv_ti (by rw [e]; omega), e]
theorem ishl_n {a k : Nat} (hk : k < 32) (ha : a * 2 ^ k < 2147483648) : ishl a k = ((a * 2 ^ k : Nat) : Int) := by
  have h2 : 0 < 2 ^ k := Nat.two_pow_pos k
  have ha2 : a < 2147483648 := Nat.lt_of_le_of_lt (Nat.le_mul_of_pos_right a h2) ha
  have ek : (Int32.ofInt (k : Int) &&& 31) = Int32.ofInt (k : Int) := by
    have : ∀ k : Nat, k < 32 → (Int32.ofInt (k : Int) &&& 31) = Int32.ofInt (k : Int) := by decide
    exact this k hk
  have em : ∀ k : Nat, k < 32 → (Int32.ofInt (k : Int)).toBitVec.smod 32 = BitVec.ofNat 32 k := by decide
  have e : ((Int32.ofInt (a : Int) <<< Int32.ofInt (k : Int)).toBitVec).toNat = a * 2 ^ k := by
    rw [Int32.toBitVec_shiftLeft, em k hk, i32_bv ha2, BitVec.shiftLeft_eq', BitVec.toNat_shiftLeft, BitVec.toNat_ofNat, BitVec.toNat_ofNat, Nat.mod_eq_of_lt (a := k) (by omega), Nat.mod_eq_of_lt (a := a) (by omega), Nat.shiftLeft_eq, Nat.mod_eq_of_lt (by omega)]
  unfold ishl
  rw [ek, ← Int32.toInt_toBitVec, bv_ti (by rw [e]; exact ha), e]
theorem ishr_n {a k : Nat} (hk : k < 32) (ha : a < 2147483648) : ishr a k = ((a / 2 ^ k : Nat) : Int) := by
  have ek : (Int32.ofInt (k : Int) &&& 31) = Int32.ofInt (k : Int) := by
    have : ∀ k : Nat, k < 32 → (Int32.ofInt (k : Int) &&& 31) = Int32.ofInt (k : Int) := by decide
    exact this k hk
  have em : ∀ k : Nat, k < 32 → (Int32.ofInt (k : Int)).toBitVec.smod 32 = BitVec.ofNat 32 k := by decide
  have e : ((Int32.ofInt (a : Int) >>> Int32.ofInt (k : Int)).toBitVec).toInt = ((a / 2 ^ k : Nat) : Int) := by
    rw [Int32.toBitVec_shiftRight, em k hk, i32_bv ha, BitVec.sshiftRight_eq', BitVec.toInt_sshiftRight, BitVec.toNat_ofNat, bv_ti (by rw [BitVec.toNat_ofNat, Nat.mod_eq_of_lt (by omega)]; exact ha), BitVec.toNat_ofNat, Nat.mod_eq_of_lt (a := k) (by omega), Nat.mod_eq_of_lt (a := a) (by omega), Int.shiftRight_eq_div_pow]
    rfl
  unfold ishr
  rw [ek, ← Int32.toInt_toBitVec, e]
