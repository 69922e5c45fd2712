/-! ===== numbers: an int stands as a whole number, modulo 2^32; it is looked at through w32 ===== -/
def w32 (z : Int) : Int := z.bmod 4294967296
def w64 (z : Int) : Int := z.bmod 18446744073709551616
theorem w32_id {z : Int} (h1 : -2147483648 ≤ z) (h2 : z < 2147483648) : w32 z = z := by
  unfold w32; rw [Int.bmod_eq_of_le] <;> omega
theorem w64_id {z : Int} (h1 : -9223372036854775808 ≤ z) (h2 : z < 9223372036854775808) : w64 z = z := by
  unfold w64; rw [Int.bmod_eq_of_le] <;> omega
theorem w32_in (z : Int) : -2147483648 ≤ w32 z ∧ w32 z < 2147483648 := by
  unfold w32
  have h1 := Int.le_bmod (x := z) (m := 4294967296) (by decide)
  have h2 := Int.bmod_lt (x := z) (m := 4294967296) (by decide)
  omega
theorem w32_w32 (z : Int) : w32 (w32 z) = w32 z := w32_id (w32_in z).1 (w32_in z).2
theorem i_t (z : Int) : (Int32.ofInt z).toInt = w32 z := by rw [Int32.toInt_ofInt]; rfl
theorem i_t64 (z : Int) : (Int64.ofInt z).toInt = w64 z := by rw [Int64.toInt_ofInt]; rfl
theorem i_of (x : Int32) : Int32.ofInt x.toInt = x := by simp
theorem i_of64 (x : Int64) : Int64.ofInt x.toInt = x := by simp
theorem i_w (z : Int) : Int32.ofInt (w32 z) = Int32.ofInt z := by rw [← i_t, i_of]
theorem i_add (a b : Int) : Int32.ofInt a + Int32.ofInt b = Int32.ofInt (a + b) := by simp [Int32.ofInt_add]
theorem i_sub (a b : Int) : Int32.ofInt a - Int32.ofInt b = Int32.ofInt (a - b) := by simp [Int32.ofInt_sub]
theorem i_mul (a b : Int) : Int32.ofInt a * Int32.ofInt b = Int32.ofInt (a * b) := by simp [Int32.ofInt_mul]
theorem i_lt (a b : Int) : Int32.ofInt a < Int32.ofInt b ↔ w32 a < w32 b := by rw [Int32.lt_iff_toInt_lt, i_t, i_t]
theorem i_le (a b : Int) : Int32.ofInt a ≤ Int32.ofInt b ↔ w32 a ≤ w32 b := by rw [Int32.le_iff_toInt_le, i_t, i_t]
theorem i_eq (a b : Int) : Int32.ofInt a = Int32.ofInt b ↔ w32 a = w32 b := by rw [← Int32.toInt_inj, i_t, i_t]
theorem i_0 : (0 : Int32) = Int32.ofInt 0 := rfl
theorem w32_0 : w32 0 = 0 := rfl
theorem i_eq0 (a : Int) : Int32.ofInt a = 0 ↔ w32 a = 0 := by rw [i_0, i_eq, w32_0]
theorem i_lt0 (a : Int) : Int32.ofInt a < 0 ↔ w32 a < 0 := by rw [i_0, i_lt, w32_0]
theorem i_le0 (a : Int) : Int32.ofInt a ≤ 0 ↔ w32 a ≤ 0 := by rw [i_0, i_le, w32_0]
theorem i_0lt (a : Int) : 0 < Int32.ofInt a ↔ 0 < w32 a := by rw [i_0, i_lt, w32_0]
theorem i_0le (a : Int) : 0 ≤ Int32.ofInt a ↔ 0 ≤ w32 a := by rw [i_0, i_le, w32_0]
theorem i_div (a b : Int) : Int32.ofInt a / Int32.ofInt b = Int32.ofInt (Int.tdiv (w32 a) (w32 b)) := by
  rw [← Int32.toInt_inj, Int32.toInt_div, i_t, i_t, i_t]; rfl
theorem i_mod (a b : Int) : Int32.ofInt a - Int32.ofInt a / Int32.ofInt b * Int32.ofInt b = Int32.ofInt (a - Int.tdiv (w32 a) (w32 b) * b) := by
  rw [i_div, i_mul, i_sub]
theorem l_mul (a b : Int) : Int64.ofInt a * Int64.ofInt b = Int64.ofInt (a * b) := by simp [Int64.ofInt_mul]
theorem l_sub (a b : Int) : Int64.ofInt a - Int64.ofInt b = Int64.ofInt (a - b) := by simp [Int64.ofInt_sub]
theorem l_div (a b : Int) : Int64.ofInt a / Int64.ofInt b = Int64.ofInt (Int.tdiv (w64 a) (w64 b)) := by
  rw [← Int64.toInt_inj, Int64.toInt_div, i_t64, i_t64, i_t64]; rfl
theorem l_mod (a b : Int) : Int64.ofInt a - Int64.ofInt a / Int64.ofInt b * Int64.ofInt b = Int64.ofInt (a - Int.tdiv (w64 a) (w64 b) * b) := by
  rw [l_div, l_mul, l_sub]
theorem l_eq (a b : Int) : Int64.ofInt a = Int64.ofInt b ↔ w64 a = w64 b := by rw [← Int64.toInt_inj, i_t64, i_t64]
theorem l_lt (a b : Int) : Int64.ofInt a < Int64.ofInt b ↔ w64 a < w64 b := by rw [Int64.lt_iff_toInt_lt, i_t64, i_t64]
theorem i_2l (a : Int) : (Int32.ofInt a).toInt64 = Int64.ofInt (w32 a) := by
  rw [← Int64.toInt_inj, Int32.toInt_toInt64, i_t, i_t64]
  rw [w64_id] <;> have := w32_in a <;> omega
theorem l_2i (a : Int) : (Int64.ofInt a).toInt32 = Int32.ofInt a := by simp
theorem i_2b (a : Int) : (Int32.ofInt a).toInt8.toInt32 = Int32.ofInt (a.bmod 256) := by
  rw [← Int32.toInt_inj]; simp
  have h1 := Int.le_bmod (x := a) (m := 256) (by decide)
  have h2 := Int.bmod_lt (x := a) (m := 256) (by decide)
  exact (w32_id (z := a.bmod 256) (by omega) (by omega)).symm
/-- bit by bit -/
def iand (a b : Int) : Int := (Int32.ofInt a &&& Int32.ofInt b).toInt
def ior (a b : Int) : Int := (Int32.ofInt a ||| Int32.ofInt b).toInt
def ixor (a b : Int) : Int := (Int32.ofInt a ^^^ Int32.ofInt b).toInt
def ishl (a b : Int) : Int := (Int32.ofInt a <<< (Int32.ofInt b &&& 31)).toInt
def ishr (a b : Int) : Int := (Int32.ofInt a >>> (Int32.ofInt b &&& 31)).toInt
def llor (a b : Int) : Int := (Int64.ofInt a ||| Int64.ofInt b).toInt
def llshl (a b : Int) : Int := (Int64.ofInt a <<< ((Int32.ofInt b).toInt64 &&& 63)).toInt
def llcmp (a b : Int) : Int := if w64 a < w64 b then -1 else if w64 a = w64 b then 0 else 1
def irem (a b : Int) : Int := a - Int.tdiv (w32 a) (w32 b) * b
def idiv (a b : Int) : Int := Int.tdiv (w32 a) (w32 b)
def lrem (a b : Int) : Int := a - Int.tdiv (w64 a) (w64 b) * b
def ldiv (a b : Int) : Int := Int.tdiv (w64 a) (w64 b)
/-- an index -/
def ix (a : Int) : Nat := (w32 a).toNat
def inb (a : Int) (n : Nat) : Prop := 0 ≤ w32 a ∧ w32 a < n
theorem ix_clamp (a : Int) : (Int32.ofInt a).toNatClampNeg = ix a := by
  show (Int32.ofInt a).toInt.toNat = _; rw [i_t]; rfl
theorem inb_vp {a : Int} {n : Nat} (h : inb a n) : vp_in (Int32.ofInt a) n := by
  rw [vp_in_iff, i_t]; exact h
theorem inb_lt {a : Int} {n : Nat} (h : inb a n) : ix a < n := by
  unfold ix; have := h.1; have := h.2; omega
theorem ix_nat {k : Nat} (h : k < 2147483648) : ix (k : Int) = k := by
  unfold ix; rw [w32_id (by omega) (by omega)]; omega
theorem inb_nat {k n : Nat} (h : k < n) (hn : k < 2147483648) : inb (k : Int) n := by
  unfold inb; rw [w32_id (by omega) (by omega)]; omega
