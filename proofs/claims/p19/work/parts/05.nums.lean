/-! PART 05: the machine's ints and longs as integers: 'w32', 'w64' wrap, 'in32', 'in64' say where they lie -/
def w32 (z : Int) : Int := z.bmod 4294967296
def w64 (z : Int) : Int := z.bmod 18446744073709551616
def w8 (z : Int) : Int := z.bmod 256
def in32 (z : Int) : Prop := -2147483648 ≤ z ∧ z < 2147483648
def in64 (z : Int) : Prop := -9223372036854775808 ≤ z ∧ z < 9223372036854775808
def i32 (z : Int) : Int32 := Int32.ofInt z
def i64 (z : Int) : Int64 := Int64.ofInt z
def bAnd (x y : Int) : Int := (i32 x &&& i32 y).toInt
def bOr (x y : Int) : Int := (i32 x ||| i32 y).toInt
def bXor (x y : Int) : Int := (i32 x ^^^ i32 y).toInt
def bShl (x y : Int) : Int := (i32 x <<< (i32 y &&& 31)).toInt
def bShr (x y : Int) : Int := (i32 x >>> (i32 y &&& 31)).toInt
def bUsh (x y : Int) : Int := ((i32 x).toUInt32 >>> ((i32 y).toUInt32 &&& Int32.toUInt32 31)).toInt32.toInt
def bAndL (x y : Int) : Int := (i64 x &&& i64 y).toInt
def bOrL (x y : Int) : Int := (i64 x ||| i64 y).toInt
def bShlL (x y : Int) : Int := (i64 x <<< ((i32 y).toInt64 &&& 63)).toInt
def bShrL (x y : Int) : Int := (i64 x >>> ((i32 y).toInt64 &&& 63)).toInt
def lcm3 (x y : Int) : Int := if x < y then -1 else if x = y then 0 else 1
theorem w32_of {z : Int} (h : in32 z) : w32 z = z := Int.bmod_eq_of_le (by have := h.1; omega) (by have := h.2; omega)
theorem w64_of {z : Int} (h : in64 z) : w64 z = z := Int.bmod_eq_of_le (by have := h.1; omega) (by have := h.2; omega)
theorem w8_of {z : Int} (h1 : -128 ≤ z) (h2 : z < 128) : w8 z = z := Int.bmod_eq_of_le (by omega) (by omega)
theorem in_w32 (z : Int) : in32 (w32 z) := by
  have h1 := Int.le_bmod (x := z) (m := 4294967296) (by decide)
  have h2 := Int.bmod_lt (x := z) (m := 4294967296) (by decide)
  constructor
  · show -2147483648 ≤ z.bmod 4294967296
    omega
  · show z.bmod 4294967296 < 2147483648
    omega
theorem in_w64 (z : Int) : in64 (w64 z) := by
  have h1 := Int.le_bmod (x := z) (m := 18446744073709551616) (by decide)
  have h2 := Int.bmod_lt (x := z) (m := 18446744073709551616) (by decide)
  constructor
  · show -9223372036854775808 ≤ z.bmod 18446744073709551616
    omega
  · show z.bmod 18446744073709551616 < 9223372036854775808
    omega
theorem in_w8 (z : Int) : in32 (w8 z) := by
  have h1 := Int.le_bmod (x := z) (m := 256) (by decide)
  have h2 := Int.bmod_lt (x := z) (m := 256) (by decide)
  constructor
  · show -2147483648 ≤ z.bmod 256
    omega
  · show z.bmod 256 < 2147483648
    omega
theorem in_t32 (x : Int32) : in32 x.toInt := ⟨x.le_toInt, x.toInt_lt⟩
theorem in_t64 (x : Int64) : in64 x.toInt := ⟨x.le_toInt, x.toInt_lt⟩
theorem t_i32 (z : Int) : (i32 z).toInt = w32 z := Int32.toInt_ofInt
theorem t_i64 (z : Int) : (i64 z).toInt = w64 z := Int64.toInt_ofInt
theorem t_i32' {z : Int} (h : in32 z) : (i32 z).toInt = z := (t_i32 z).trans (w32_of h)
theorem t_i64' {z : Int} (h : in64 z) : (i64 z).toInt = z := (t_i64 z).trans (w64_of h)
theorem i32_t (x : Int32) : i32 x.toInt = x := Int32.ofInt_toInt x
theorem i64_t (x : Int64) : i64 x.toInt = x := Int64.ofInt_toInt x
theorem i32_w (z : Int) : i32 (w32 z) = i32 z := Int32.toInt.inj (by rw [t_i32, t_i32, w32_of (in_w32 z)])
theorem i64_w (z : Int) : i64 (w64 z) = i64 z := Int64.toInt.inj (by rw [t_i64, t_i64, w64_of (in_w64 z)])
theorem i32_add (x y : Int) : i32 (w32 (x + y)) = i32 x + i32 y := Int32.toInt.inj (by
  rw [i32_w, Int32.toInt_add, t_i32, t_i32, t_i32]
  simp [w32, Int.add_bmod_bmod, Int.bmod_add_bmod])
theorem i32_sub (x y : Int) : i32 (w32 (x - y)) = i32 x - i32 y := Int32.toInt.inj (by
  rw [i32_w, Int32.toInt_sub, t_i32, t_i32, t_i32]
  simp [w32, Int.sub_bmod_bmod, Int.bmod_sub_bmod])
theorem i32_mul (x y : Int) : i32 (w32 (x * y)) = i32 x * i32 y := Int32.toInt.inj (by
  rw [i32_w, Int32.toInt_mul, t_i32, t_i32, t_i32]
  simp [w32, Int.mul_bmod_bmod, Int.bmod_mul_bmod])
theorem i32_neg (x : Int) : i32 (w32 (-x)) = -i32 x := Int32.toInt.inj (by
  rw [i32_w, Int32.toInt_neg, t_i32, t_i32]
  simp [w32])
theorem i64_add (x y : Int) : i64 (w64 (x + y)) = i64 x + i64 y := Int64.toInt.inj (by
  rw [i64_w, Int64.toInt_add, t_i64, t_i64, t_i64]
  simp [w64, Int.add_bmod_bmod, Int.bmod_add_bmod])
theorem i64_sub (x y : Int) : i64 (w64 (x - y)) = i64 x - i64 y := Int64.toInt.inj (by
  rw [i64_w, Int64.toInt_sub, t_i64, t_i64, t_i64]
  simp [w64, Int.sub_bmod_bmod, Int.bmod_sub_bmod])
theorem i64_mul (x y : Int) : i64 (w64 (x * y)) = i64 x * i64 y := Int64.toInt.inj (by
  rw [i64_w, Int64.toInt_mul, t_i64, t_i64, t_i64]
  simp [w64, Int.mul_bmod_bmod, Int.bmod_mul_bmod])
theorem i32_div {x y : Int} (hx : in32 x) (hy : in32 y) : i32 (w32 (x.tdiv y)) = i32 x / i32 y := Int32.toInt.inj (by
  rw [i32_w, Int32.toInt_div, t_i32, t_i32' hx, t_i32' hy]
  rfl)
theorem i64_div {x y : Int} (hx : in64 x) (hy : in64 y) : i64 (w64 (x.tdiv y)) = i64 x / i64 y := Int64.toInt.inj (by
  rw [i64_w, Int64.toInt_div, t_i64, t_i64' hx, t_i64' hy]
  rfl)
theorem tm_abs (x y : Int) : (x.tmod y).natAbs ≤ x.natAbs := by
  rw [Int.natAbs_tmod]
  exact Nat.mod_le _ _
theorem in32_tmod {x : Int} (y : Int) (hx : in32 x) : in32 (x.tmod y) := by
  have h1 := tm_abs x y
  by_cases h0 : 0 ≤ x
  · have h2 := Int.tmod_nonneg y h0
    obtain ⟨a, b⟩ := hx
    constructor <;> omega
  · have h2 : x.tmod y ≤ 0 := by
      have := Int.tmod_nonneg y (a := -x) (by omega)
      rw [Int.neg_tmod] at this
      omega
    obtain ⟨a, b⟩ := hx
    constructor <;> omega
theorem in64_tmod {x : Int} (y : Int) (hx : in64 x) : in64 (x.tmod y) := by
  have h1 := tm_abs x y
  by_cases h0 : 0 ≤ x
  · have h2 := Int.tmod_nonneg y h0
    obtain ⟨a, b⟩ := hx
    constructor <;> omega
  · have h2 : x.tmod y ≤ 0 := by
      have := Int.tmod_nonneg y (a := -x) (by omega)
      rw [Int.neg_tmod] at this
      omega
    obtain ⟨a, b⟩ := hx
    constructor <;> omega
theorem i32_rem {x y : Int} (hx : in32 x) (hy : in32 y) : i32 (x.tmod y) = i32 x - i32 x / i32 y * i32 y := by
  rw [← i32_div hx hy, ← i32_mul, ← i32_sub]
  refine Int32.toInt.inj ?_
  rw [t_i32, t_i32, w32_of (in_w32 _), w32_of (in32_tmod y hx)]
  have h : w32 (x - w32 (w32 (x.tdiv y) * y)) = w32 (x - x.tdiv y * y) := by
    simp [w32, Int.sub_bmod_bmod, Int.bmod_mul_bmod]
  rw [h, show x - x.tdiv y * y = x.tmod y by have := Int.tmod_add_mul_tdiv x y; rw [Int.mul_comm] at this; omega, w32_of (in32_tmod y hx)]
theorem i64_rem {x y : Int} (hx : in64 x) (hy : in64 y) : i64 (x.tmod y) = i64 x - i64 x / i64 y * i64 y := by
  rw [← i64_div hx hy, ← i64_mul, ← i64_sub]
  refine Int64.toInt.inj ?_
  rw [t_i64, t_i64, w64_of (in_w64 _), w64_of (in64_tmod y hx)]
  have h : w64 (x - w64 (w64 (x.tdiv y) * y)) = w64 (x - x.tdiv y * y) := by
    simp [w64, Int.sub_bmod_bmod, Int.bmod_mul_bmod]
  rw [h, show x - x.tdiv y * y = x.tmod y by have := Int.tmod_add_mul_tdiv x y; rw [Int.mul_comm] at this; omega, w64_of (in64_tmod y hx)]
theorem i32_l2i {x : Int} (hx : in64 x) : i32 (w32 x) = (i64 x).toInt32 := Int32.toInt.inj (by
  rw [i32_w, t_i32, Int64.toInt_toInt32, t_i64' hx]
  rfl)
theorem i64_i2l {x : Int} (hx : in32 x) : i64 x = (i32 x).toInt64 := Int64.toInt.inj (by
  rw [Int32.toInt_toInt64, t_i32' hx, t_i64' ⟨by have := hx.1; omega, by have := hx.2; omega⟩])
theorem i32_i2b {x : Int} (hx : in32 x) : i32 (w8 x) = (i32 x).toInt8.toInt32 := Int32.toInt.inj (by
  rw [Int8.toInt_toInt32, Int32.toInt_toInt8, t_i32' hx, t_i32' (in_w8 x)]
  rfl)
theorem in64_32 {x : Int} (h : in32 x) : in64 x := ⟨by have := h.1; omega, by have := h.2; omega⟩
theorem eq_i32 {x y : Int} (hx : in32 x) (hy : in32 y) : i32 x = i32 y ↔ x = y := ⟨fun h => by have := congrArg Int32.toInt h; rwa [t_i32' hx, t_i32' hy] at this, fun h => by rw [h]⟩
theorem lt_i32 {x y : Int} (hx : in32 x) (hy : in32 y) : i32 x < i32 y ↔ x < y := by rw [Int32.lt_iff_toInt_lt, t_i32' hx, t_i32' hy]
theorem le_i32 {x y : Int} (hx : in32 x) (hy : in32 y) : i32 x ≤ i32 y ↔ x ≤ y := by rw [Int32.le_iff_toInt_le, t_i32' hx, t_i32' hy]
theorem eq_i64 {x y : Int} (hx : in64 x) (hy : in64 y) : i64 x = i64 y ↔ x = y := ⟨fun h => by have := congrArg Int64.toInt h; rwa [t_i64' hx, t_i64' hy] at this, fun h => by rw [h]⟩
theorem lt_i64 {x y : Int} (hx : in64 x) (hy : in64 y) : i64 x < i64 y ↔ x < y := by rw [Int64.lt_iff_toInt_lt, t_i64' hx, t_i64' hy]
theorem ne0_i32 {y : Int} (hy : in32 y) (h : y ≠ 0) : ¬ i32 y = 0 := fun q => h ((eq_i32 hy ⟨by decide, by decide⟩).mp (q.trans (by decide)))
theorem ne0_i64 {y : Int} (hy : in64 y) (h : y ≠ 0) : ¬ i64 y = 0 := fun q => h ((eq_i64 hy ⟨by decide, by decide⟩).mp (q.trans (by decide)))
theorem nat_i32 {x : Int} (hx : in32 x) : (i32 x).toNatClampNeg = x.toNat := by rw [← Int32.toNat_toInt, t_i32' hx]
theorem vp_i32 {x : Int} {n : Nat} (hx : in32 x) (h0 : 0 ≤ x) (h1 : x < n) : vp_in (i32 x) n := by
  unfold vp_in
  rw [nat_i32 hx]
  intro q
  rcases q with q | q
  · rw [show (0 : Int32) = i32 0 by decide, lt_i32 hx ⟨by decide, by decide⟩] at q
    omega
  · omega
theorem cmp_i64 {x y : Int} (hx : in64 x) (hy : in64 y) : lg_cmp (i64 x) (i64 y) = i32 (lcm3 x y) := by
  unfold lg_cmp lcm3
  simp only [gt_iff_lt, lt_i64 hy hx, eq_i64 hx hy]
  by_cases h : x < y
  · rw [if_neg (by omega), if_neg (by omega), if_pos h]
    decide
  · by_cases h2 : x = y
    · rw [if_neg (by omega), if_pos h2, if_neg h, if_pos h2]
      decide
    · rw [if_pos (by omega), if_neg h, if_neg h2]
      decide
theorem in_lcm3 (x y : Int) : in32 (lcm3 x y) := by
  unfold lcm3
  split
  · exact ⟨by decide, by decide⟩
  · split <;> exact ⟨by decide, by decide⟩
