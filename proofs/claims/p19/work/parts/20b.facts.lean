/-! PART 20b: ranges of the ints' operations -/
theorem fw32 (z : Int) : -2147483648 ≤ w32 z ∧ w32 z ≤ 2147483647 := ⟨(in_w32 z).1, by have := (in_w32 z).2; omega⟩
theorem fw64 (z : Int) : -9223372036854775808 ≤ w64 z ∧ w64 z ≤ 9223372036854775807 := ⟨(in_w64 z).1, by have := (in_w64 z).2; omega⟩
theorem ew32 {z : Int} (h1 : -2147483648 ≤ z) (h2 : z ≤ 2147483647) : w32 z = z := w32_of ⟨h1, by omega⟩
theorem ew64 {z : Int} (h1 : -9223372036854775808 ≤ z) (h2 : z ≤ 9223372036854775807) : w64 z = z := w64_of ⟨h1, by omega⟩
theorem ew8 {z : Int} (h1 : -128 ≤ z) (h2 : z ≤ 127) : w8 z = z := w8_of h1 (by omega)
theorem fw8 (z : Int) : -128 ≤ w8 z ∧ w8 z ≤ 127 := by
  have h1 := Int.le_bmod (x := z) (m := 256) (by decide)
  have h2 := Int.bmod_lt (x := z) (m := 256) (by decide)
  constructor
  · show -128 ≤ z.bmod 256
    omega
  · show z.bmod 256 ≤ 127
    omega
theorem etdiv {a b : Int} (h0 : 0 ≤ a) (h1 : a ≤ 2147483647) (hb : 0 < b) : w32 (Int.tdiv a b) = a / b := by
  rw [Int.tdiv_eq_ediv_of_nonneg h0]
  have := Int.ediv_nonneg h0 (Int.le_of_lt hb)
  have := Int.ediv_le_self b h0
  exact ew32 (by omega) (by omega)
theorem etmod {a b : Int} (h0 : 0 ≤ a) : Int.tmod a b = a % b := Int.tmod_eq_emod_of_nonneg h0
theorem ftmod (a : Int) {b : Int} (hb : 0 < b) : -b < Int.tmod a b ∧ Int.tmod a b < b := by
  have h := Int.tmod_lt_of_pos a hb
  have h2 := Int.lt_tmod_of_pos a hb
  omega
theorem fbits (x : Int32) : -2147483648 ≤ x.toInt ∧ x.toInt ≤ 2147483647 := ⟨x.le_toInt, by have := x.toInt_lt; omega⟩
/-- an and with what is not negative -/
theorem nat32 {b : Int} (h0 : 0 ≤ b) (h1 : b ≤ 2147483647) : (i32 b).toBitVec.toNat = b.toNat := by
  have h2 : (i32 b).toInt = b := t_i32' ⟨by omega, by omega⟩
  have h3 : (i32 b).toBitVec.toInt = b := h2
  rw [BitVec.toInt_eq_toNat_cond] at h3
  have := (i32 b).toBitVec.isLt
  split at h3 <;> omega
theorem int_of_nat32 {x : Int32} {n : Nat} (h : x.toBitVec.toNat = n) (hn : n < 2147483648) : x.toInt = n := by
  show x.toBitVec.toInt = n
  rw [BitVec.toInt_eq_toNat_cond, h, if_pos (by omega)]
theorem fbAnd (a : Int) {b hi : Int} (h0 : 0 ≤ b) (h1 : b ≤ hi) (h2 : hi ≤ 2147483647) : 0 ≤ bAnd a b ∧ bAnd a b ≤ hi := by
  have e := nat32 h0 (by omega)
  have h3 : ((i32 a) &&& (i32 b)).toBitVec.toNat = (i32 a).toBitVec.toNat &&& b.toNat := by
    rw [Int32.toBitVec_and, BitVec.toNat_and, e]
  have h4 : (i32 a).toBitVec.toNat &&& b.toNat ≤ b.toNat := Nat.and_le_right
  have h5 := int_of_nat32 h3 (by omega)
  have h6 : bAnd a b = (((i32 a).toBitVec.toNat &&& b.toNat : Nat) : Int) := h5
  omega
theorem bAnd_comm (a b : Int) : bAnd a b = bAnd b a := by
  show (i32 a &&& i32 b).toInt = (i32 b &&& i32 a).toInt
  rw [Int32.and_comm]
theorem fbAndL (b : Int) {a hi : Int} (h0 : 0 ≤ a) (h1 : a ≤ hi) (h2 : hi ≤ 2147483647) : 0 ≤ bAnd a b ∧ bAnd a b ≤ hi := by
  rw [bAnd_comm]
  exact fbAnd b h0 h1 h2
theorem fbOr (n : Nat) (N : Int) (hN : (2 : Int) ^ n = N) {a b : Int} (ha : 0 ≤ a ∧ a < N) (hb : 0 ≤ b ∧ b < N) (hn : n ≤ 31) : 0 ≤ bOr a b ∧ bOr a b < N := by
  subst hN
  have hp : (2 : Nat) ^ n ≤ 2 ^ 31 := Nat.pow_le_pow_right (by decide) hn
  have hp' : ((2 : Int) ^ n) = ((2 ^ n : Nat) : Int) := by
    rw [Int.natCast_pow]
    rfl
  rw [hp'] at ha hb ⊢
  have e1 := nat32 ha.1 (by omega)
  have e2 := nat32 hb.1 (by omega)
  have h3 : ((i32 a) ||| (i32 b)).toBitVec.toNat = a.toNat ||| b.toNat := by
    rw [Int32.toBitVec_or, BitVec.toNat_or, e1, e2]
  have h4 : a.toNat ||| b.toNat < 2 ^ n := Nat.or_lt_two_pow (by omega) (by omega)
  have h5 : bOr a b = ((a.toNat ||| b.toNat : Nat) : Int) := int_of_nat32 h3 (by omega)
  omega
theorem fbXor (n : Nat) (N : Int) (hN : (2 : Int) ^ n = N) {a b : Int} (ha : 0 ≤ a ∧ a < N) (hb : 0 ≤ b ∧ b < N) (hn : n ≤ 31) : 0 ≤ bXor a b ∧ bXor a b < N := by
  subst hN
  have hp : (2 : Nat) ^ n ≤ 2 ^ 31 := Nat.pow_le_pow_right (by decide) hn
  have hp' : ((2 : Int) ^ n) = ((2 ^ n : Nat) : Int) := by
    rw [Int.natCast_pow]
    rfl
  rw [hp'] at ha hb ⊢
  have e1 := nat32 ha.1 (by omega)
  have e2 := nat32 hb.1 (by omega)
  have h3 : ((i32 a) ^^^ (i32 b)).toBitVec.toNat = a.toNat ^^^ b.toNat := by
    rw [Int32.toBitVec_xor, BitVec.toNat_xor, e1, e2]
  have h4 : a.toNat ^^^ b.toNat < 2 ^ n := Nat.xor_lt_two_pow (by omega) (by omega)
  have h5 : bXor a b = ((a.toNat ^^^ b.toNat : Nat) : Int) := int_of_nat32 h3 (by omega)
  omega
theorem rows1 : ∀ v : Nat, v < 31 → bShl 1 v = ((2 ^ v : Nat) : Int) := by decide +kernel
theorem ebShl1 {v : Int} (h0 : 0 ≤ v) (h1 : v < 31) : bShl 1 v = ((2 ^ v.toNat : Nat) : Int) := by
  have := rows1 v.toNat (by omega)
  rw [Int.toNat_of_nonneg h0] at this
  exact this
theorem fbShl1 (n : Nat) (N : Int) (hN : (2 : Int) ^ n = N) {v : Int} (h0 : 0 ≤ v) (h1 : v < n) (hn : n ≤ 31) : 1 ≤ bShl 1 v ∧ bShl 1 v < N := by
  subst hN
  rw [ebShl1 h0 (by omega)]
  have h2 : v.toNat < n := by omega
  have h3 : 2 ^ v.toNat < 2 ^ n := Nat.pow_lt_pow_right (by decide) h2
  have h4 := Nat.one_le_two_pow (n := v.toNat)
  have hp' : ((2 : Int) ^ n) = ((2 ^ n : Nat) : Int) := by
    rw [Int.natCast_pow]
    rfl
  rw [hp']
  omega
theorem flcm3 (x y : Int) : (lcm3 x y = -1 ∧ x < y) ∨ (lcm3 x y = 0 ∧ x = y) ∨ (lcm3 x y = 1 ∧ y < x) := by
  unfold lcm3
  split
  · exact .inl ⟨rfl, by assumption⟩
  · split
    · exact .inr (.inl ⟨rfl, by assumption⟩)
    · exact .inr (.inr ⟨rfl, by omega⟩)
theorem fmMax (a b : Int) : (a < b ∧ mMax a b = b) ∨ (b ≤ a ∧ mMax a b = a) := by
  unfold mMax
  split
  · exact .inl ⟨by assumption, rfl⟩
  · exact .inr ⟨by omega, rfl⟩
theorem fmMin (a b : Int) : (b < a ∧ mMin a b = b) ∨ (a ≤ b ∧ mMin a b = a) := by
  unfold mMin
  split
  · exact .inl ⟨by assumption, rfl⟩
  · exact .inr ⟨by omega, rfl⟩
theorem fmAbs (a : Int) : (0 ≤ a ∧ mAbs a = a) ∨ (a < 0 ∧ (-2147483647 ≤ a → a ≤ 2147483647 → mAbs a = -a)) := by
  unfold mAbs
  split
  · exact .inl ⟨by assumption, rfl⟩
  · exact .inr ⟨by omega, fun h1 h2 => by rw [ew32 (by omega) (by omega)]; omega⟩
theorem fbits64 (x : Int64) : -9223372036854775808 ≤ x.toInt ∧ x.toInt ≤ 9223372036854775807 := ⟨x.le_toInt, by have := x.toInt_lt; omega⟩
theorem nat64 {b : Int} (h0 : 0 ≤ b) (h1 : b ≤ 9223372036854775807) : (i64 b).toBitVec.toNat = b.toNat := by
  have h2 : (i64 b).toInt = b := t_i64' ⟨by omega, by omega⟩
  have h3 : (i64 b).toBitVec.toInt = b := h2
  rw [BitVec.toInt_eq_toNat_cond] at h3
  have := (i64 b).toBitVec.isLt
  split at h3 <;> omega
theorem int_of_nat64 {x : Int64} {n : Nat} (h : x.toBitVec.toNat = n) (hn : n < 9223372036854775808) : x.toInt = n := by
  show x.toBitVec.toInt = n
  rw [BitVec.toInt_eq_toNat_cond, h, if_pos (by omega)]
theorem fbAnd64 (a : Int) {b hi : Int} (h0 : 0 ≤ b) (h1 : b ≤ hi) (h2 : hi ≤ 9223372036854775807) : 0 ≤ bAndL a b ∧ bAndL a b ≤ hi := by
  have e := nat64 h0 (by omega)
  have h3 : ((i64 a) &&& (i64 b)).toBitVec.toNat = (i64 a).toBitVec.toNat &&& b.toNat := by
    rw [Int64.toBitVec_and, BitVec.toNat_and, e]
  have h4 : (i64 a).toBitVec.toNat &&& b.toNat ≤ b.toNat := Nat.and_le_right
  have h5 := int_of_nat64 h3 (by omega)
  have h6 : bAndL a b = (((i64 a).toBitVec.toNat &&& b.toNat : Nat) : Int) := h5
  omega
theorem ebNot (x : Int) (h : in32 x) : bXor x (-1) = -1 - x := by
  show (i32 x ^^^ i32 (-1)).toInt = -1 - x
  have e : i32 (-1) = -1 := rfl
  rw [e, Int32.xor_neg_one, Int32.toInt_not, t_i32' h, Int.bmod_eq_of_le (by have := h.2; omega) (by have := h.1; omega)]
  omega
theorem fmulnn {x y a b c d : Int} (ha : 0 ≤ a) (hc : 0 ≤ c) (h1 : a ≤ x) (h2 : x ≤ b) (h3 : c ≤ y) (h4 : y ≤ d) : a * c ≤ x * y ∧ x * y ≤ b * d :=
  ⟨Int.mul_le_mul h1 h3 hc (by omega), Int.mul_le_mul h2 h4 (by omega) (by omega)⟩
theorem fediv {x y b c : Int} (h0 : 0 ≤ x) (h1 : x ≤ b) (hc : 0 < c) (h2 : c ≤ y) : 0 ≤ x / y ∧ x / y ≤ b / c := by
  refine ⟨Int.ediv_nonneg h0 (by omega), ?_⟩
  refine Int.le_ediv_of_mul_le hc ?_
  have h3 : x / y * c ≤ x / y * y := Int.mul_le_mul_of_nonneg_left h2 (Int.ediv_nonneg h0 (by omega))
  have h4 : x / y * y ≤ x := Int.ediv_mul_le x (by omega)
  omega
