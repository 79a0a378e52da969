/-! ===== bits ===== -/
theorem pb_tb (n : Nat) : (Int32.ofInt (n : Int)).toBitVec = BitVec.ofNat 32 n := by
  rw [Int32.toBitVec_ofInt]
  exact BitVec.ofInt_natCast 32 n
theorem pb_toInt {x : Int32} {n : Nat} (h : x.toBitVec = BitVec.ofNat 32 n) (hn : n < 2147483648) : x.toInt = (n : Int) := by
  show x.toBitVec.toInt = _
  rw [h, BitVec.toInt_eq_toNat_of_lt]
  · rw [BitVec.toNat_ofNat, Nat.mod_eq_of_lt (by omega)]
  · rw [BitVec.toNat_ofNat, Nat.mod_eq_of_lt (by omega)]; omega
theorem pb_and {n m : Nat} (hn : n < 2147483648) : jnd (n : Int) (m : Int) = ((n &&& m : Nat) : Int) := by
  unfold jnd
  apply pb_toInt
  · rw [Int32.toBitVec_and, pb_tb, pb_tb]
    exact (BitVec.ofNat_and).symm
  · exact Nat.lt_of_le_of_lt Nat.and_le_left hn
theorem pb_or {n m : Nat} (hn : n < 2147483648) (hm : m < 2147483648) : jor (n : Int) (m : Int) = ((n ||| m : Nat) : Int) := by
  unfold jor
  apply pb_toInt
  · rw [Int32.toBitVec_or, pb_tb, pb_tb]
    exact (BitVec.ofNat_or).symm
  · exact Nat.or_lt_two_pow (n := 31) hn hm
theorem pb_cnt : ∀ k, k < 32 → ((Int32.ofInt ((k : Nat) : Int) &&& 31).toBitVec.smod 32).toNat = k := by decide +kernel
theorem pb_cntu : ∀ k, k < 32 → (((Int32.ofInt ((k : Nat) : Int)).toUInt32 &&& Int32.toUInt32 31).toBitVec % 32).toNat = k := by decide +kernel
theorem pb_sl : ∀ k, k < 31 → jsl 1 ((k : Nat) : Int) = ((2 ^ k : Nat) : Int) := by decide +kernel
theorem pb_sr {n k : Nat} (hn : n < 2147483648) (hk : k < 32) : jsr (n : Int) (k : Int) = ((n >>> k : Nat) : Int) := by
  unfold jsr
  apply pb_toInt
  · rw [Int32.toBitVec_shiftRight, pb_tb]
    rw [BitVec.sshiftRight_eq', pb_cnt k hk]
    apply BitVec.eq_of_toNat_eq
    rw [BitVec.sshiftRight_eq_of_msb_false]
    · rw [BitVec.toNat_ushiftRight, BitVec.toNat_ofNat, BitVec.toNat_ofNat, Nat.mod_eq_of_lt (by omega), Nat.mod_eq_of_lt]
      exact Nat.lt_of_le_of_lt (Nat.shiftRight_le _ _) (by omega)
    · rw [BitVec.msb_eq_false_iff_two_mul_lt, BitVec.toNat_ofNat, Nat.mod_eq_of_lt (by omega)]
      omega
  · exact Nat.lt_of_le_of_lt (Nat.shiftRight_le _ _) hn
theorem pb_us {n k : Nat} (hn : n < 2147483648) (hk : k < 32) : jus (n : Int) (k : Int) = ((n >>> k : Nat) : Int) := by
  unfold jus
  apply pb_toInt
  · show ((Int32.ofInt (n : Int)).toUInt32 >>> ((Int32.ofInt (k : Int)).toUInt32 &&& Int32.toUInt32 31)).toBitVec = _
    rw [UInt32.toBitVec_shiftRight]
    have h1 : (Int32.ofInt (n : Int)).toUInt32.toBitVec = BitVec.ofNat 32 n := pb_tb n
    rw [h1]
    apply BitVec.eq_of_toNat_eq
    rw [BitVec.ushiftRight_eq', BitVec.toNat_ushiftRight, pb_cntu k hk, BitVec.toNat_ofNat, BitVec.toNat_ofNat, Nat.mod_eq_of_lt (by omega), Nat.mod_eq_of_lt]
    exact Nat.lt_of_le_of_lt (Nat.shiftRight_le _ _) (by omega)
  · exact Nat.lt_of_le_of_lt (Nat.shiftRight_le _ _) hn
theorem pb_bit {n k : Nat} (hn : n < 2147483648) (hk : k < 32) : jnd (jsr (n : Int) (k : Int)) 1 = if n.testBit k then 1 else 0 := by
  rw [pb_sr hn hk]
  have := pb_and (n := n >>> k) (m := 1) (Nat.lt_of_le_of_lt (Nat.shiftRight_le _ _) hn)
  rw [show (1 : Int) = ((1 : Nat) : Int) from rfl, this, Nat.and_one_is_mod]
  rw [Nat.testBit, Nat.and_comm, Nat.and_one_is_mod]
  rcases Nat.mod_two_eq_zero_or_one (n >>> k) with h | h <;> rw [h] <;> rfl
theorem pb_andnot {n m : Nat} (hn : n < 2147483648) : jnd (n : Int) (jxr (m : Int) (-1)) = ((n ^^^ (n &&& m) : Nat) : Int) := by
  unfold jnd jxr
  apply pb_toInt
  · rw [Int32.toBitVec_and, Int32.ofInt_toInt, Int32.toBitVec_xor, pb_tb, pb_tb]
    have h1 : (Int32.ofInt (-1)).toBitVec = BitVec.allOnes 32 := by decide +kernel
    rw [h1, BitVec.ofNat_xor, BitVec.ofNat_and]
    ext i hi
    simp only [BitVec.getElem_and, BitVec.getElem_xor, BitVec.getElem_allOnes]
    generalize (BitVec.ofNat 32 n)[i] = a
    generalize (BitVec.ofNat 32 m)[i] = b
    cases a <;> cases b <;> rfl
  · exact Nat.xor_lt_two_pow (n := 31) hn (Nat.lt_of_le_of_lt Nat.and_le_left hn)
theorem pb_us16 (z : Int) : jnd (jus z 16) 32767 = jnd (jsr z 16) 32767 := by
  unfold jnd jus jsr
  rw [Int32.ofInt_toInt, Int32.ofInt_toInt]
  congr 1
  apply Int32.toBitVec_inj.mp
  rw [Int32.toBitVec_and, Int32.toBitVec_and, Int32.toBitVec_shiftRight]
  generalize hx : (Int32.ofInt z) = x
  have h1 : (Int32.ofInt 32767).toBitVec = BitVec.ofNat 32 32767 := pb_tb 32767
  have h2 : (x.toUInt32 >>> ((Int32.ofInt 16).toUInt32 &&& Int32.toUInt32 31)).toInt32.toBitVec = x.toBitVec >>> 16 := by
    show (x.toUInt32 >>> ((Int32.ofInt 16).toUInt32 &&& Int32.toUInt32 31)).toBitVec = _
    rw [UInt32.toBitVec_shiftRight]
    have h3 : (((Int32.ofInt 16).toUInt32 &&& Int32.toUInt32 31).toBitVec % 32).toNat = 16 := by decide +kernel
    show (x.toBitVec >>> _) = _
    rw [BitVec.ushiftRight_eq', h3]
  rw [h1, h2, BitVec.sshiftRight_eq', show ((Int32.ofInt 16 &&& 31).toBitVec.smod 32).toNat = 16 by decide +kernel]
  ext i hi
  have h4 : ∀ j, j < 32 → (BitVec.ofNat 32 32767).getLsbD j = decide (j < 15) := by decide +kernel
  have h5 := h4 i hi
  rw [BitVec.getElem_and, BitVec.getElem_and, BitVec.getElem_eq_testBit_toNat, ← BitVec.getLsbD_eq_getElem (x := BitVec.ofNat 32 32767) hi, h5]
  by_cases h6 : i < 15
  · rw [← BitVec.getElem_eq_testBit_toNat _ _ hi, BitVec.getElem_ushiftRight, BitVec.getElem_sshiftRight]
    simp [h6]
    rw [dif_pos (by omega)]
    exact BitVec.getLsbD_eq_getElem (by omega)
  · simp [h6]
def pc (n : Nat) : Nat := ((List.range 12).map (fun i => n / 2 ^ i % 2)).sum
theorem pb_pc0 : ∀ a, a < 64 → ∀ b, b < 64 → f_J6_bitCount_0f7a4 ((64 * a + b : Nat) : Int) = some ((pc (64 * a + b) : Nat) : Int) := by decide +kernel
theorem pb_pc {n : Nat} (h : n < 4096) : f_J6_bitCount_0f7a4 (n : Int) = some ((pc n : Nat) : Int) := by
  have := pb_pc0 (n / 64) (by omega) (n % 64) (by omega)
  rwa [Nat.div_add_mod] at this
