/-! numbers: an int or a long of the machine as an unbounded integer, read round its width -/
def w32 (x : Int) : Int := (x + 2147483648) % 4294967296 - 2147483648
def w64 (x : Int) : Int := (x + 9223372036854775808) % 18446744073709551616 - 9223372036854775808
def w8 (x : Int) : Int := (x + 128) % 256 - 128
def w16 (x : Int) : Int := (x + 32768) % 65536 - 32768
theorem w32_b (x : Int) : x.bmod 4294967296 = w32 x := by
  unfold w32; rw [Int.bmod_def]; split <;> omega
theorem w64_b (x : Int) : x.bmod 18446744073709551616 = w64 x := by
  unfold w64; rw [Int.bmod_def]; split <;> omega
theorem w8_b (x : Int) : x.bmod 256 = w8 x := by
  unfold w8; rw [Int.bmod_def]; split <;> omega
theorem w16_b (x : Int) : x.bmod 65536 = w16 x := by
  unfold w16; rw [Int.bmod_def]; split <;> omega
theorem w32_i (x : Int) : (Int32.ofInt x).toInt = w32 x := by rw [Int32.toInt_ofInt]; exact w32_b x
theorem w64_i (x : Int) : (Int64.ofInt x).toInt = w64 x := by rw [Int64.toInt_ofInt]; exact w64_b x
theorem w32_eq {x : Int} (h1 : -2147483648 ≤ x) (h2 : x < 2147483648) : w32 x = x := by unfold w32; omega
theorem w64_eq {x : Int} (h1 : -9223372036854775808 ≤ x) (h2 : x < 9223372036854775808) : w64 x = x := by unfold w64; omega
theorem w32_lo (x : Int) : -2147483648 ≤ w32 x := by unfold w32; omega
theorem w32_hi (x : Int) : w32 x < 2147483648 := by unfold w32; omega
theorem w32_w (x : Int) : w32 (w32 x) = w32 x := by unfold w32; omega
theorem w64_w (x : Int) : w64 (w64 x) = w64 x := by unfold w64; omega
theorem w64_w32 (x : Int) : w64 (w32 x) = w32 x := by unfold w64 w32; omega
theorem w32_w64 (x : Int) : w32 (w64 x) = w32 x := by unfold w64 w32; omega
theorem i32_of (x : Int) : Int32.ofInt (w32 x) = Int32.ofInt x := by
  rw [← w32_i, Int32.ofInt_toInt]
theorem i64_of (x : Int) : Int64.ofInt (w64 x) = Int64.ofInt x := by
  rw [← w64_i, Int64.ofInt_toInt]
theorem i32_lt (x y : Int) : Int32.ofInt x < Int32.ofInt y ↔ w32 x < w32 y := by
  rw [Int32.lt_iff_toInt_lt, w32_i, w32_i]
theorem i32_le (x y : Int) : Int32.ofInt x ≤ Int32.ofInt y ↔ w32 x ≤ w32 y := by
  rw [Int32.le_iff_toInt_le, w32_i, w32_i]
theorem i32_eq (x y : Int) : Int32.ofInt x = Int32.ofInt y ↔ w32 x = w32 y := by
  rw [← Int32.toInt_inj, w32_i, w32_i]
theorem i64_lt (x y : Int) : Int64.ofInt x < Int64.ofInt y ↔ w64 x < w64 y := by
  rw [Int64.lt_iff_toInt_lt, w64_i, w64_i]
theorem i64_eq (x y : Int) : Int64.ofInt x = Int64.ofInt y ↔ w64 x = w64 y := by
  rw [← Int64.toInt_inj, w64_i, w64_i]
/-- an int's place -/
def ix (x : Int) : Nat := (w32 x).toNat
theorem i32_nat (x : Int) : (Int32.ofInt x).toNatClampNeg = ix x := by
  show (Int32.ofInt x).toInt.toNat = _
  rw [w32_i]; rfl
def vi (x : Int) : Value := .int (Int32.ofInt x)
def vl (x : Int) : Value := .long (Int64.ofInt x)
theorem i32_0 (x : Int) : Int32.ofInt x = 0 ↔ w32 x = 0 := by
  rw [show (0 : Int32) = Int32.ofInt 0 from rfl, i32_eq]; rfl
theorem i32_lt0 (x : Int) : Int32.ofInt x < 0 ↔ w32 x < 0 := by
  rw [show (0 : Int32) = Int32.ofInt 0 from rfl, i32_lt]; rfl
theorem i32_le0 (x : Int) : Int32.ofInt x ≤ 0 ↔ w32 x ≤ 0 := by
  rw [show (0 : Int32) = Int32.ofInt 0 from rfl, i32_le]; rfl
theorem i32_0lt (x : Int) : 0 < Int32.ofInt x ↔ 0 < w32 x := by
  rw [show (0 : Int32) = Int32.ofInt 0 from rfl, i32_lt]; rfl
theorem i32_0le (x : Int) : 0 ≤ Int32.ofInt x ↔ 0 ≤ w32 x := by
  rw [show (0 : Int32) = Int32.ofInt 0 from rfl, i32_le]; rfl
theorem i64_0 (x : Int) : Int64.ofInt x = 0 ↔ w64 x = 0 := by
  rw [show (0 : Int64) = Int64.ofInt 0 from rfl, i64_eq]; rfl
/-- int to long, and back; to a byte; to a short; to a char -/
theorem i32_l (x : Int) : (Int32.ofInt x).toInt64 = Int64.ofInt (w32 x) := by
  rw [← w32_i, Int64.ofInt_int32ToInt]
theorem i64_i (x : Int) : (Int64.ofInt x).toInt32 = Int32.ofInt x := Int64.toInt32_ofInt
theorem i32_b (x : Int) : (Int32.ofInt x).toInt8.toInt32 = Int32.ofInt (w8 x) := by
  rw [← Int32.toInt_inj, w32_i]
  simp only [Int8.toInt_toInt32, Int32.toInt_toInt8, w32_i]
  rw [show (2 : Nat) ^ 8 = 256 from rfl, w8_b]
  unfold w8 w32; omega
theorem i32_s (x : Int) : (Int32.ofInt x).toInt16.toInt32 = Int32.ofInt (w16 x) := by
  rw [← Int32.toInt_inj, w32_i]
  simp only [Int16.toInt_toInt32, Int32.toInt_toInt16, w32_i]
  rw [show (2 : Nat) ^ 16 = 65536 from rfl, w16_b]
  unfold w16 w32; omega
/-- by division: rounded to 0 -/
def dv32 (x y : Int) : Int := (w32 x).tdiv (w32 y)
def rm32 (x y : Int) : Int := (w32 x).tmod (w32 y)
def dv64 (x y : Int) : Int := (w64 x).tdiv (w64 y)
def rm64 (x y : Int) : Int := (w64 x).tmod (w64 y)
theorem i32_div (x y : Int) : Int32.ofInt x / Int32.ofInt y = Int32.ofInt (dv32 x y) := by
  rw [← Int32.toInt_inj, Int32.toInt_div, w32_i, w32_i, w32_i]; exact w32_b _
theorem i32_rem (x y : Int) : Int32.ofInt x % Int32.ofInt y = Int32.ofInt (rm32 x y) := by
  rw [← Int32.toInt_inj, Int32.toInt_mod, w32_i, w32_i, w32_i]
  have := Int32.toInt_mod (Int32.ofInt x) (Int32.ofInt y)
  rw [w32_i, w32_i] at this
  unfold rm32
  rw [← this]
  rw [← w32_i, Int32.ofInt_toInt]
theorem i64_div (x y : Int) : Int64.ofInt x / Int64.ofInt y = Int64.ofInt (dv64 x y) := by
  rw [← Int64.toInt_inj, Int64.toInt_div, w64_i, w64_i, w64_i]; exact w64_b _
theorem i64_rem (x y : Int) : Int64.ofInt x % Int64.ofInt y = Int64.ofInt (rm64 x y) := by
  rw [← Int64.toInt_inj, Int64.toInt_mod, w64_i, w64_i, w64_i]
  have := Int64.toInt_mod (Int64.ofInt x) (Int64.ofInt y)
  rw [w64_i, w64_i] at this
  unfold rm64
  rw [← this]
  rw [← w64_i, Int64.ofInt_toInt]
/-- bits: as the machine has them -/
def an32 (x y : Int) : Int := (Int32.ofInt x &&& Int32.ofInt y).toInt
def or32 (x y : Int) : Int := (Int32.ofInt x ||| Int32.ofInt y).toInt
def an64 (x y : Int) : Int := (Int64.ofInt x &&& Int64.ofInt y).toInt
def or64 (x y : Int) : Int := (Int64.ofInt x ||| Int64.ofInt y).toInt
def sl32 (x y : Int) : Int := (Int32.ofInt x <<< (Int32.ofInt y &&& 31)).toInt
def sr32 (x y : Int) : Int := (Int32.ofInt x >>> (Int32.ofInt y &&& 31)).toInt
def ur32 (x y : Int) : Int := (((Int32.ofInt x).toUInt32 >>> ((Int32.ofInt y).toUInt32 &&& Int32.toUInt32 31)).toInt32).toInt
def sl64 (x y : Int) : Int := (Int64.ofInt x <<< ((Int32.ofInt y).toInt64 &&& 63)).toInt
def cm64 (x y : Int) : Int := if w64 x < w64 y then -1 else if w64 x = w64 y then 0 else 1
def ch16 (x : Int) : Int := (((Int32.ofInt x).toUInt32 % 65536).toInt32).toInt
