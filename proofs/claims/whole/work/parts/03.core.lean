/-! ===== values, memory ===== -/
abbrev PV : Type := Int ⊕ Nat ⊕ Int
abbrev vI (x : Int) : PV := .inl x
abbrev vR (o : Nat) : PV := .inr (.inl o)
abbrev vL (x : Int) : PV := .inr (.inr x)
abbrev Mem : Type := Nat → Nat → Int
def xw (x : Int) : Int := (x + 2147483648) % 4294967296 - 2147483648
def xwl (x : Int) : Int := (x + 9223372036854775808) % 18446744073709551616 - 9223372036854775808
def in32 (x : Int) : Prop := -2147483648 ≤ x ∧ x < 2147483648
def in64 (x : Int) : Prop := -9223372036854775808 ≤ x ∧ x < 9223372036854775808
def mset (F : Mem) (o k : Nat) (v : Int) : Mem := fun o' k' => if o' = o ∧ k' = k then v else F o' k'
theorem mset_eq (F : Mem) (o k : Nat) (v : Int) : mset F o k v o k = v := by simp [mset]
theorem mset_ne (F : Mem) {o k o' k' : Nat} (v : Int) (h : ¬ (o' = o ∧ k' = k)) : mset F o k v o' k' = F o' k' := by simp [mset, h]
theorem xw_id {x : Int} (h : in32 x) : xw x = x := by unfold xw in32 at *; omega
theorem xw_in (x : Int) : in32 (xw x) := by unfold xw in32; omega
theorem xwl_in (x : Int) : in64 (xwl x) := by unfold xwl in64; omega
theorem xwl_id {x : Int} (h : in64 x) : xwl x = x := by unfold xwl in64 at *; omega
theorem xw_bmod (x : Int) : xw x = x.bmod 4294967296 := by
  unfold xw; rw [Int.bmod_def]; split <;> omega
theorem xwl_bmod (x : Int) : xwl x = x.bmod 18446744073709551616 := by
  unfold xwl; rw [Int.bmod_def]; split <;> omega
theorem i32_toInt (x : Int) : (Int32.ofInt x).toInt = xw x := by rw [xw_bmod]; exact Int32.toInt_ofInt
theorem i64_toInt (x : Int) : (Int64.ofInt x).toInt = xwl x := by rw [xwl_bmod]; exact Int64.toInt_ofInt
theorem i32_xw (x : Int) : Int32.ofInt (xw x) = Int32.ofInt x := by
  apply Int32.toInt_inj.mp; rw [i32_toInt, i32_toInt, xw_id (xw_in x)]
theorem i64_xwl (x : Int) : Int64.ofInt (xwl x) = Int64.ofInt x := by
  apply Int64.toInt_inj.mp; rw [i64_toInt, i64_toInt, xwl_id (xwl_in x)]
theorem i32_add (a b : Int) : Int32.ofInt a + Int32.ofInt b = Int32.ofInt (xw (a + b)) := by
  apply Int32.toInt_inj.mp
  rw [Int32.toInt_add, i32_toInt, i32_toInt, i32_toInt, ← xw_bmod]
  unfold xw; omega
theorem i32_sub (a b : Int) : Int32.ofInt a - Int32.ofInt b = Int32.ofInt (xw (a - b)) := by
  apply Int32.toInt_inj.mp
  rw [Int32.toInt_sub, i32_toInt, i32_toInt, i32_toInt, ← xw_bmod]
  unfold xw; omega
theorem i32_neg (a : Int) : -Int32.ofInt a = Int32.ofInt (xw (-a)) := by
  apply Int32.toInt_inj.mp
  rw [Int32.toInt_neg, i32_toInt, i32_toInt, ← xw_bmod]
  unfold xw; omega
theorem i32_mul (a b : Int) : Int32.ofInt a * Int32.ofInt b = Int32.ofInt (xw (a * b)) := by
  apply Int32.toInt_inj.mp
  rw [Int32.toInt_mul, i32_toInt, i32_toInt, i32_toInt, xw_id (xw_in (a * b)), xw_bmod, xw_bmod, xw_bmod]
  rw [Int.bmod_mul_bmod, Int.mul_bmod_bmod]
theorem i32_toInt' {x : Int} (h : in32 x) : (Int32.ofInt x).toInt = x := by rw [i32_toInt, xw_id h]
theorem i64_toInt' {x : Int} (h : in64 x) : (Int64.ofInt x).toInt = x := by rw [i64_toInt, xwl_id h]
theorem i32_ofToInt (v : Int32) : Int32.ofInt v.toInt = v := by exact Int32.ofInt_toInt v
theorem i32_in (v : Int32) : in32 v.toInt := by
  have h1 := Int32.le_toInt v
  have h2 := Int32.toInt_lt v
  unfold in32; omega
theorem i64_in (v : Int64) : in64 v.toInt := by
  have h1 := Int64.le_toInt v
  have h2 := Int64.toInt_lt v
  unfold in64; omega
theorem i32_lt {a b : Int} (ha : in32 a) (hb : in32 b) : Int32.ofInt a < Int32.ofInt b ↔ a < b := by
  rw [Int32.lt_iff_toInt_lt, i32_toInt' ha, i32_toInt' hb]
theorem i32_le {a b : Int} (ha : in32 a) (hb : in32 b) : Int32.ofInt a ≤ Int32.ofInt b ↔ a ≤ b := by
  rw [Int32.le_iff_toInt_le, i32_toInt' ha, i32_toInt' hb]
theorem i32_eq {a b : Int} (ha : in32 a) (hb : in32 b) : Int32.ofInt a = Int32.ofInt b ↔ a = b := by
  rw [← Int32.toInt_inj, i32_toInt' ha, i32_toInt' hb]
theorem i32_zero : (0 : Int32) = Int32.ofInt 0 := by decide
theorem in32_0 : in32 0 := by unfold in32; omega
theorem i32_div {a b : Int} (ha : in32 a) (hb : in32 b) : Int32.ofInt a / Int32.ofInt b = Int32.ofInt (xw (a.tdiv b)) := by
  apply Int32.toInt_inj.mp
  rw [Int32.toInt_div, i32_toInt' ha, i32_toInt' hb, i32_toInt, xw_id (xw_in _), xw_bmod]
theorem i32_rem {a b : Int} (ha : in32 a) (hb : in32 b) : Int32.ofInt a - Int32.ofInt a / Int32.ofInt b * Int32.ofInt b = Int32.ofInt (a.tmod b) := by
  rw [i32_div ha hb, i32_xw (a.tdiv b), i32_mul, i32_sub]
  apply Int32.toInt_inj.mp
  rw [i32_toInt, i32_toInt]
  rw [Int.tmod_def, Int.mul_comm b]
  generalize a.tdiv b * b = z
  unfold xw; omega
theorem cl_of {x : Int} (h0 : 0 ≤ x) (h : in32 x) : (Int32.ofInt x).toNatClampNeg = x.toNat := by
  show (Int32.ofInt x).toInt.toNat = x.toNat
  rw [i32_toInt' h]
theorem vpin_of {x : Int} {n : Nat} (h0 : 0 ≤ x) (h : in32 x) (hn : x < n) : vp_in (Int32.ofInt x) n := by
  rw [vp_in_iff, i32_toInt' h]; exact ⟨h0, hn⟩
def xand (a b : Int) : Int := (Int32.ofInt a &&& Int32.ofInt b).toInt
def xor_ (a b : Int) : Int := (Int32.ofInt a ||| Int32.ofInt b).toInt
def xshl (a b : Int) : Int := (Int32.ofInt a <<< (Int32.ofInt b &&& 31)).toInt
def xshr (a b : Int) : Int := (Int32.ofInt a >>> (Int32.ofInt b &&& 31)).toInt
def xushr (a b : Int) : Int := ((Int32.ofInt a).toUInt32 >>> ((Int32.ofInt b).toUInt32 &&& Int32.toUInt32 31)).toInt32.toInt
def xi2b (a : Int) : Int := (Int32.ofInt a).toInt8.toInt32.toInt
def xmax (a b : Int) : Int := if a < b then b else a
def xmin (a b : Int) : Int := if b < a then b else a
def xabs (a : Int) : Int := if a < 0 then xw (-a) else a
def xcmp (a b : Int) : Int := if a < b then -1 else if a = b then 0 else 1
