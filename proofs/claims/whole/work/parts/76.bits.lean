/-! BITS of small numbers: what waits while a COND is answered. -/
theorem hb_32 (k : Nat) : (Int32.ofNat k).toBitVec = BitVec.ofNat 32 k := rfl
theorem hb_64 (k : Nat) : (Int64.ofNat k).toBitVec = BitVec.ofNat 64 k := rfl
theorem hb_shr (k : Nat) (h : k < 67108864) : Int32.ofNat k >>> ((1 : Int32) &&& 31) = Int32.ofNat (k / 2) := by
  rw [← Int32.toBitVec_inj]
  have e : ((1 : Int32) &&& 31) = 1 := by decide
  have e2 : ((1 : Int32).toBitVec.smod 32) = 1#32 := by decide
  rw [e, Int32.toBitVec_shiftRight, hb_32, hb_32, e2]
  have hm : (BitVec.ofNat 32 k).msb = false := by rw [BitVec.msb_eq_decide, BitVec.toNat_ofNat]; simp only [decide_eq_false_iff_not]; omega
  show (BitVec.ofNat 32 k).sshiftRight 1 = BitVec.ofNat 32 (k / 2)
  rw [BitVec.sshiftRight_eq_of_msb_false hm]
  apply BitVec.eq_of_toNat_eq
  rw [BitVec.toNat_ushiftRight, BitVec.toNat_ofNat, BitVec.toNat_ofNat, Nat.shiftRight_eq_div_pow]
  omega
theorem hb_and1 (k : Nat) (h : k < 67108864) : Int32.ofNat k &&& 1 = Int32.ofNat (k % 2) := by
  rw [← Int32.toBitVec_inj, Int32.toBitVec_and, hb_32, hb_32]
  apply BitVec.eq_of_toNat_eq
  show (BitVec.ofNat 32 k &&& 1#32).toNat = _
  rw [BitVec.toNat_and, BitVec.toNat_ofNat, BitVec.toNat_ofNat, BitVec.toNat_ofNat, Nat.mod_eq_of_lt (by omega : k < 2 ^ 32), show (1 : Nat) % 2 ^ 32 = 1 from rfl, Nat.and_one_is_mod]
  omega
theorem hb_and64 (k : Nat) (h : k < 67108864) : Int64.ofNat k &&& 1 = Int64.ofNat (k % 2) := by
  rw [← Int64.toBitVec_inj, Int64.toBitVec_and, hb_64, hb_64]
  apply BitVec.eq_of_toNat_eq
  show (BitVec.ofNat 64 k &&& 1#64).toNat = _
  rw [BitVec.toNat_and, BitVec.toNat_ofNat, BitVec.toNat_ofNat, BitVec.toNat_ofNat, Nat.mod_eq_of_lt (by omega : k < 2 ^ 64), show (1 : Nat) % 2 ^ 64 = 1 from rfl, Nat.and_one_is_mod]
  omega
theorem hb_or32 (a c : Nat) (ha : a < 67108864) (hc : c < 67108864) : Int32.ofNat a ||| Int32.ofNat c = Int32.ofNat (a ||| c) := by
  rw [← Int32.toBitVec_inj, Int32.toBitVec_or, hb_32, hb_32, hb_32]
  apply BitVec.eq_of_toNat_eq
  have := Nat.or_lt_two_pow (n := 26) (show a < 2 ^ 26 by omega) (show c < 2 ^ 26 by omega)
  rw [BitVec.toNat_or, BitVec.toNat_ofNat, BitVec.toNat_ofNat, BitVec.toNat_ofNat, Nat.mod_eq_of_lt (by omega), Nat.mod_eq_of_lt (by omega), Nat.mod_eq_of_lt (by omega)]
theorem hb_or64 (a c : Nat) (ha : a < 67108864) (hc : c < 67108864) : Int64.ofNat a ||| Int64.ofNat c = Int64.ofNat (a ||| c) := by
  rw [← Int64.toBitVec_inj, Int64.toBitVec_or, hb_64, hb_64, hb_64]
  apply BitVec.eq_of_toNat_eq
  have := Nat.or_lt_two_pow (n := 26) (show a < 2 ^ 26 by omega) (show c < 2 ^ 26 by omega)
  rw [BitVec.toNat_or, BitVec.toNat_ofNat, BitVec.toNat_ofNat, BitVec.toNat_ofNat, Nat.mod_eq_of_lt (by omega), Nat.mod_eq_of_lt (by omega), Nat.mod_eq_of_lt (by omega)]
theorem hb_xor32 (k : Nat) (h : k < 67108864) : Int32.ofNat k ^^^ 1 = Int32.ofNat (k ^^^ 1) := by
  rw [← Int32.toBitVec_inj, Int32.toBitVec_xor, hb_32, hb_32]
  apply BitVec.eq_of_toNat_eq
  have := Nat.xor_lt_two_pow (n := 26) (show k < 2 ^ 26 by omega) (show 1 < 2 ^ 26 by omega)
  show (BitVec.ofNat 32 k ^^^ 1#32).toNat = _
  rw [BitVec.toNat_xor, BitVec.toNat_ofNat, BitVec.toNat_ofNat, BitVec.toNat_ofNat, Nat.mod_eq_of_lt (by omega : k < 2 ^ 32), show (1 : Nat) % 2 ^ 32 = 1 from rfl, Nat.mod_eq_of_lt (by omega)]
theorem hb_xor64 (k : Nat) (h : k < 67108864) : Int64.ofNat k ^^^ 1 = Int64.ofNat (k ^^^ 1) := by
  rw [← Int64.toBitVec_inj, Int64.toBitVec_xor, hb_64, hb_64]
  apply BitVec.eq_of_toNat_eq
  have := Nat.xor_lt_two_pow (n := 26) (show k < 2 ^ 26 by omega) (show 1 < 2 ^ 26 by omega)
  show (BitVec.ofNat 64 k ^^^ 1#64).toNat = _
  rw [BitVec.toNat_xor, BitVec.toNat_ofNat, BitVec.toNat_ofNat, BitVec.toNat_ofNat, Nat.mod_eq_of_lt (by omega : k < 2 ^ 64), show (1 : Nat) % 2 ^ 64 = 1 from rfl, Nat.mod_eq_of_lt (by omega)]
theorem hb_shr64 (k s : Nat) (hs : s = 1 ∨ s = 2) (h : k < 67108864) : Int64.ofNat k >>> (Int32.toInt64 (Int32.ofNat s) &&& 63) = Int64.ofNat (k / 2 ^ s) := by
  rw [← Int64.toBitVec_inj]
  have hm : (BitVec.ofNat 64 k).msb = false := by rw [BitVec.msb_eq_decide, BitVec.toNat_ofNat]; simp only [decide_eq_false_iff_not]; omega
  rcases hs with rfl | rfl
  · have e : (Int32.toInt64 (Int32.ofNat 1) &&& 63) = 1 := by decide
    have e2 : ((1 : Int64).toBitVec.smod 64) = 1#64 := by decide
    rw [e, Int64.toBitVec_shiftRight, hb_64, hb_64, e2]
    show (BitVec.ofNat 64 k).sshiftRight 1 = BitVec.ofNat 64 (k / 2 ^ 1)
    rw [BitVec.sshiftRight_eq_of_msb_false hm]
    apply BitVec.eq_of_toNat_eq
    rw [BitVec.toNat_ushiftRight, BitVec.toNat_ofNat, BitVec.toNat_ofNat, Nat.shiftRight_eq_div_pow]
    omega
  · have e : (Int32.toInt64 (Int32.ofNat 2) &&& 63) = 2 := by decide
    have e2 : ((2 : Int64).toBitVec.smod 64) = 2#64 := by decide
    rw [e, Int64.toBitVec_shiftRight, hb_64, hb_64, e2]
    show (BitVec.ofNat 64 k).sshiftRight 2 = BitVec.ofNat 64 (k / 2 ^ 2)
    rw [BitVec.sshiftRight_eq_of_msb_false hm]
    apply BitVec.eq_of_toNat_eq
    rw [BitVec.toNat_ushiftRight, BitVec.toNat_ofNat, BitVec.toNat_ofNat, Nat.shiftRight_eq_div_pow]
    omega
theorem hb_shl (k : Nat) (h : k < 67108864) : Int32.ofNat k <<< ((1 : Int32) &&& 31) = Int32.ofNat (2 * k) := by
  rw [← Int32.toBitVec_inj]
  have e : ((1 : Int32) &&& 31) = 1 := by decide
  have e2 : ((1 : Int32).toBitVec.smod 32) = 1#32 := by decide
  rw [e, Int32.toBitVec_shiftLeft, hb_32, hb_32, e2]
  show (BitVec.ofNat 32 k) <<< 1 = BitVec.ofNat 32 (2 * k)
  apply BitVec.eq_of_toNat_eq
  rw [BitVec.toNat_shiftLeft, BitVec.toNat_ofNat, BitVec.toNat_ofNat, Nat.shiftLeft_eq]
  omega
theorem hb_shl64 (k : Nat) (h : k < 67108864) : Int64.ofNat k <<< (Int32.toInt64 1 &&& 63) = Int64.ofNat (2 * k) := by
  rw [← Int64.toBitVec_inj]
  have e : (Int32.toInt64 1 &&& 63) = 1 := by decide
  have e2 : ((1 : Int64).toBitVec.smod 64) = 1#64 := by decide
  rw [e, Int64.toBitVec_shiftLeft, hb_64, hb_64, e2]
  show (BitVec.ofNat 64 k) <<< 1 = BitVec.ofNat 64 (2 * k)
  apply BitVec.eq_of_toNat_eq
  rw [BitVec.toNat_shiftLeft, BitVec.toNat_ofNat, BitVec.toNat_ofNat, Nat.shiftLeft_eq]
  omega
/-- `and` as the class does it: the two lowest answers become one -/
theorem hb_land (k : Nat) (h : k < 67108864) : (Int32.ofNat (k / 2)) &&& (Int32.ofNat k ||| (-2)) = Int32.ofNat (if k % 2 = 1 then k / 2 else k / 4 * 2) := by
  rw [← Int32.toBitVec_inj, Int32.toBitVec_and, Int32.toBitVec_or, hb_32, hb_32, hb_32]
  have e2 : (-2 : Int32).toBitVec = ~~~ 1#32 := by decide
  rw [e2]
  apply BitVec.eq_of_getLsbD_eq
  intro i hi
  rw [BitVec.getLsbD_and, BitVec.getLsbD_or, BitVec.getLsbD_not, BitVec.getLsbD_ofNat, BitVec.getLsbD_ofNat, BitVec.getLsbD_ofNat]
  have d1 : ∀ j, (k / 2).testBit j = k.testBit (j + 1) := fun j => by rw [Nat.testBit_succ]
  have d0 : k.testBit 0 = decide (k % 2 = 1) := Nat.testBit_zero k
  simp only [hi, decide_true, Bool.true_and, d1]
  cases i with
  | zero =>
    have h1 : Nat.testBit 1 0 = true := by decide
    rw [h1, BitVec.getLsbD_ofNat]
    simp only [hi, decide_true, Bool.true_and]
    by_cases hk : k % 2 = 1
    · rw [if_pos hk, d1, d0, hk]; simp
    · rw [if_neg hk, d0, Nat.testBit_zero]
      simp [hk]
  | succ i =>
    have h1 : Nat.testBit 1 (i + 1) = false := by rw [Nat.testBit_succ]; simp
    rw [h1, BitVec.getLsbD_ofNat]
    simp only [hi, decide_true, Bool.true_and]
    by_cases hk : k % 2 = 1
    · rw [if_pos hk, d1]; simp
    · rw [if_neg hk, Nat.testBit_succ (k / 4 * 2), Nat.mul_div_cancel _ (by decide), show k / 4 = k / 2 / 2 from by omega, ← Nat.testBit_succ, d1]
      simp

