/-! ===== bytes of a number ===== -/
theorem shr24 {a : Int} (ha : in32 a) : xshr a 24 = a / 16777216 := by
  have e : (Int32.ofInt a >>> (Int32.ofInt 24 &&& 31)).toInt = ((Int32.ofInt a).toBitVec.sshiftRight 24).toInt := rfl
  unfold xshr
  rw [e, BitVec.toInt_sshiftRight, Int32.toInt_toBitVec, i32_toInt' ha, Int.shiftRight_eq_div_pow]; rfl
theorem shr16 {a : Int} (ha : in32 a) : xshr a 16 = a / 65536 := by
  have e : (Int32.ofInt a >>> (Int32.ofInt 16 &&& 31)).toInt = ((Int32.ofInt a).toBitVec.sshiftRight 16).toInt := rfl
  unfold xshr
  rw [e, BitVec.toInt_sshiftRight, Int32.toInt_toBitVec, i32_toInt' ha, Int.shiftRight_eq_div_pow]; rfl
theorem shr8 {a : Int} (ha : in32 a) : xshr a 8 = a / 256 := by
  have e : (Int32.ofInt a >>> (Int32.ofInt 8 &&& 31)).toInt = ((Int32.ofInt a).toBitVec.sshiftRight 8).toInt := rfl
  unfold xshr
  rw [e, BitVec.toInt_sshiftRight, Int32.toInt_toBitVec, i32_toInt' ha, Int.shiftRight_eq_div_pow]; rfl
theorem shr0 {a : Int} (ha : in32 a) : xshr a 0 = a := by
  have e : (Int32.ofInt a >>> (Int32.ofInt 0 &&& 31)).toInt = ((Int32.ofInt a).toBitVec.sshiftRight 0).toInt := rfl
  unfold xshr
  rw [e, BitVec.toInt_sshiftRight, Int32.toInt_toBitVec, i32_toInt' ha, Int.shiftRight_eq_div_pow]
  show a / 1 = a
  exact Int.ediv_one a
theorem ushr_lit {a : Int} {n : Nat} {s : Int} (hs : ((Int32.ofInt a).toUInt32 >>> ((Int32.ofInt s).toUInt32 &&& Int32.toUInt32 31)).toInt32.toInt = ((Int32.ofInt a).toBitVec >>> n).toInt) : xushr a s = (((a % 4294967296).toNat >>> n : Nat) : Int).bmod 4294967296 := by
  unfold xushr
  rw [hs, BitVec.toInt_eq_toNat_bmod, BitVec.toNat_ushiftRight, Int32.toBitVec_ofInt, BitVec.toNat_ofInt]
  rfl
theorem ushr24 (a : Int) : xushr a 24 = (((a % 4294967296).toNat / 16777216 : Nat) : Int).bmod 4294967296 := by
  rw [ushr_lit (n := 24) rfl, Nat.shiftRight_eq_div_pow]
theorem ushr16 (a : Int) : xushr a 16 = (((a % 4294967296).toNat / 65536 : Nat) : Int).bmod 4294967296 := by
  rw [ushr_lit (n := 16) rfl, Nat.shiftRight_eq_div_pow]
theorem ushr8 (a : Int) : xushr a 8 = (((a % 4294967296).toNat / 256 : Nat) : Int).bmod 4294967296 := by
  rw [ushr_lit (n := 8) rfl, Nat.shiftRight_eq_div_pow]
theorem ushr0 (a : Int) : xushr a 0 = (((a % 4294967296).toNat : Nat) : Int).bmod 4294967296 := by
  rw [ushr_lit (n := 0) rfl, Nat.shiftRight_eq_div_pow, Nat.pow_zero, Nat.div_one]
theorem i2b_eq (a : Int) : xi2b a = a.bmod 256 := by
  unfold xi2b
  rw [Int8.toInt_toInt32, Int32.toInt_toInt8, Int32.toInt_ofInt]
  show (a.bmod 4294967296).bmod 256 = a.bmod 256
  rw [Int.bmod_def a 4294967296]
  rw [Int.bmod_def, Int.bmod_def]
  omega
theorem and255 {a : Int} (ha : in32 a) : xand a 255 = a % 256 := by
  unfold xand
  rw [← Int32.toInt_toBitVec, Int32.toBitVec_and, Int32.toBitVec_ofInt, BitVec.toInt_eq_toNat_bmod, BitVec.toNat_and, BitVec.toNat_ofInt]
  have e : (Int32.ofInt 255).toBitVec.toNat = 2 ^ 8 - 1 := by decide
  rw [e, Nat.and_two_pow_sub_one_eq_mod]
  rw [Int.bmod_def]
  unfold in32 at ha
  omega
theorem sb_mod (y : Int) : sb (y % 256) = y.bmod 256 := by
  unfold sb
  rw [Int.bmod_def]
  split <;> split <;> omega
theorem bm_in (y : Int) : -128 ≤ y.bmod 256 ∧ y.bmod 256 < 128 := by
  rw [Int.bmod_def]
  split <;> omega
/-- the byte that the class keeps is the reference's, with its sign -/
theorem byte24 {a : Int} (ha : in32 a) : xi2b (xi2b (xushr a 24)) = sb (xand (xshr a 24) 255) := by
  rw [shr24 ha, and255 (by unfold in32 at *; omega), sb_mod, i2b_eq, i2b_eq, ushr24]
  simp only [Int.bmod_def]
  unfold in32 at ha
  omega
theorem byte16 {a : Int} (ha : in32 a) : xi2b (xi2b (xushr a 16)) = sb (xand (xshr a 16) 255) := by
  rw [shr16 ha, and255 (by unfold in32 at *; omega), sb_mod, i2b_eq, i2b_eq, ushr16]
  simp only [Int.bmod_def]
  unfold in32 at ha
  omega
theorem byte8 {a : Int} (ha : in32 a) : xi2b (xi2b (xushr a 8)) = sb (xand (xshr a 8) 255) := by
  rw [shr8 ha, and255 (by unfold in32 at *; omega), sb_mod, i2b_eq, i2b_eq, ushr8]
  simp only [Int.bmod_def]
  unfold in32 at ha
  omega
theorem byte0 {a : Int} (ha : in32 a) : xi2b (xi2b (xushr a 0)) = sb (xand (xshr a 0) 255) := by
  rw [shr0 ha, and255 ha, sb_mod, i2b_eq, i2b_eq, ushr0]
  simp only [Int.bmod_def]
  unfold in32 at ha
  omega
theorem i2b_in (a : Int) : -128 ≤ xi2b a ∧ xi2b a < 128 := by rw [i2b_eq]; exact bm_in a
theorem ushr16_bd (a : Int) : 0 ≤ xushr a 16 ∧ xushr a 16 < 65536 := by
  rw [ushr16, Int.bmod_def]
  split <;> omega
