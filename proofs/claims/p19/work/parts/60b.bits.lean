/-! PART 60b: bits of ints and longs -/
def bit (v : Int) (i : Nat) : Bool := (i32 v).toBitVec.getLsbD i
def bil (v : Int) (i : Nat) : Bool := (i64 v).toBitVec.getLsbD i
theorem bit_or (a b : Int) (i : Nat) : bit (bOr a b) i = (bit a i || bit b i) := by
  show (i32 (i32 a ||| i32 b).toInt).toBitVec.getLsbD i = _
  rw [i32_t, Int32.toBitVec_or, BitVec.getLsbD_or]
  rfl
theorem bit_and (a b : Int) (i : Nat) : bit (bAnd a b) i = (bit a i && bit b i) := by
  show (i32 (i32 a &&& i32 b).toInt).toBitVec.getLsbD i = _
  rw [i32_t, Int32.toBitVec_and, BitVec.getLsbD_and]
  rfl
theorem bit_not (a : Int) {i : Nat} (h : i < 32) : bit (bXor a (-1)) i = !bit a i := by
  show (i32 (i32 a ^^^ i32 (-1)).toInt).toBitVec.getLsbD i = _
  have e : i32 (-1) = -1 := rfl
  rw [i32_t, e, Int32.xor_neg_one, Int32.toBitVec_not, BitVec.getLsbD_not, decide_eq_true h, Bool.true_and]
  rfl
theorem bit_shl_all : ∀ k, k < 32 → ∀ i, i < 32 → bit (bShl 1 ((k : Nat) : Int)) i = decide (i = k) := by decide +kernel
theorem bit_shl {k i : Nat} (hk : k < 32) (hi : i < 32) : bit (bShl 1 (k : Int)) i = decide (i = k) := bit_shl_all k hk i hi
theorem sh_amt : ∀ k, k < 32 → ((i32 ((k : Nat) : Int) &&& 31).toBitVec.smod 32).toNat = k := by decide +kernel
theorem bit_shr (v : Int) {k i : Nat} (hk : k < 32) (hi : k + i < 32) : bit (bShr v (k : Int)) i = bit v (k + i) := by
  show (i32 (i32 v >>> (i32 (k : Int) &&& 31)).toInt).toBitVec.getLsbD i = _
  rw [i32_t, Int32.toBitVec_shiftRight, BitVec.getLsbD_sshiftRight', sh_amt k hk, if_pos hi, decide_eq_false (by omega)]
  rfl
theorem one_bit (x : Int32) : (x &&& 1).toInt = if x.toBitVec.getLsbD 0 then 1 else 0 := by
  have h : (x &&& 1).toBitVec.toNat = x.toBitVec.toNat % 2 := by
    rw [Int32.toBitVec_and, BitVec.toNat_and]
    exact Nat.and_two_pow_sub_one_eq_mod _ 1
  have h2 : x.toBitVec.getLsbD 0 = decide (x.toBitVec.toNat % 2 = 1) := by
    show x.toBitVec.toNat.testBit 0 = _
    rw [Nat.testBit_zero]
  rw [int_of_nat32 h (by omega), h2]
  have h3 : x.toBitVec.toNat % 2 = 0 ∨ x.toBitVec.toNat % 2 = 1 := by omega
  rcases h3 with q | q <;> rw [q] <;> rfl
theorem btv_bit (v : Int) {k : Nat} (hk : k < 32) : btv v (k : Int) = if bit v k then 1 else 0 := by
  have h := bit_shr v (k := k) (i := 0) hk (by omega)
  have e : btv v (k : Int) = (i32 (bShr v (k : Int)) &&& 1).toInt := rfl
  rw [e, one_bit]
  have h2 : (i32 (bShr v (k : Int))).toBitVec.getLsbD 0 = bit v k := h
  rw [h2]
theorem btv_iff (v : Int) {k : Nat} (hk : k < 32) : btv v (k : Int) = 1 ↔ bit v k = true := by
  rw [btv_bit v hk]
  cases bit v k
  · exact ⟨fun h => (by cases h), fun h => (by cases h)⟩
  · exact ⟨fun _ => rfl, fun _ => rfl⟩
theorem bit_nat {v : Int} (h0 : 0 ≤ v) (h1 : v ≤ 2147483647) (i : Nat) : bit v i = v.toNat.testBit i := by
  show (i32 v).toBitVec.toNat.testBit i = _
  rw [nat32 h0 h1]
theorem bit_zero (i : Nat) : bit 0 i = false := by
  rw [bit_nat (by decide) (by decide)]
  exact Nat.zero_testBit i
theorem bit_ext {v w : Int} (hv : 0 ≤ v ∧ v < 1024) (hw : 0 ≤ w ∧ w < 1024) (h : ∀ i, i < 10 → bit v i = bit w i) : v = w := by
  have e : v.toNat = w.toNat := by
    refine Nat.eq_of_testBit_eq fun i => ?_
    rcases Nat.lt_or_ge i 10 with q | q
    · have := h i q
      rw [bit_nat hv.1 (by omega), bit_nat hw.1 (by omega)] at this
      exact this
    · have hp : (2 : Nat) ^ 10 ≤ 2 ^ i := Nat.pow_le_pow_right (by decide) q
      rw [Nat.testBit_lt_two_pow (Nat.lt_of_lt_of_le (show v.toNat < 2 ^ 10 by omega) hp), Nat.testBit_lt_two_pow (Nat.lt_of_lt_of_le (show w.toNat < 2 ^ 10 by omega) hp)]
  omega
theorem bit_hi {v : Int} (hv : 0 ≤ v ∧ v < 1024) {i : Nat} (q : 10 ≤ i) : bit v i = false := by
  rw [bit_nat hv.1 (by omega)]
  have hp : (2 : Nat) ^ 10 ≤ 2 ^ i := Nat.pow_le_pow_right (by decide) q
  exact Nat.testBit_lt_two_pow (Nat.lt_of_lt_of_le (show v.toNat < 2 ^ 10 by omega) hp)
theorem bshl_r {k : Nat} (hk : k < 10) : 0 ≤ bShl 1 (k : Int) ∧ bShl 1 (k : Int) < 1024 := by
  have h := fbShl1 10 1024 (by decide) (v := (k : Int)) (by omega) (by omega) (by decide)
  omega
/-! longs -/
theorem bil_or (a b : Int) (i : Nat) : bil (bOrL a b) i = (bil a i || bil b i) := by
  show (i64 (i64 a ||| i64 b).toInt).toBitVec.getLsbD i = _
  rw [i64_t, Int64.toBitVec_or, BitVec.getLsbD_or]
  rfl
theorem bil_shl_all : ∀ k, k < 64 → ∀ i, i < 64 → bil (bShlL 1 ((k : Nat) : Int)) i = decide (i = k) := by decide +kernel
theorem bil_shl {k i : Nat} (hk : k < 64) (hi : i < 64) : bil (bShlL 1 (k : Int)) i = decide (i = k) := bil_shl_all k hk i hi
theorem bil_zero (i : Nat) : bil 0 i = false := by
  show (i64 0).toBitVec.toNat.testBit i = false
  rw [nat64 (by decide) (by decide)]
  exact Nat.zero_testBit i
theorem sh_amt64 : ∀ k, k < 64 → (((i32 ((k : Nat) : Int)).toInt64 &&& 63).toBitVec.smod 64).toNat = k := by decide +kernel
theorem bil_see (v : Int) {k : Nat} (hk : k < 64) : bAndL (bShrL v (k : Int)) 1 = if bil v k then 1 else 0 := by
  have e : bAndL (bShrL v (k : Int)) 1 = ((i64 v >>> ((i32 (k : Int)).toInt64 &&& 63)) &&& 1).toInt := by
    show (i64 (i64 v >>> ((i32 (k : Int)).toInt64 &&& 63)).toInt &&& i64 1).toInt = _
    rw [i64_t]
    rfl
  have hb : (i64 v >>> ((i32 (k : Int)).toInt64 &&& 63)).toBitVec.getLsbD 0 = bil v k := by
    rw [Int64.toBitVec_shiftRight, BitVec.getLsbD_sshiftRight', sh_amt64 k hk, if_pos (by omega), decide_eq_false (by decide)]
    rfl
  rw [e, ← hb]
  generalize i64 v >>> ((i32 (k : Int)).toInt64 &&& 63) = x
  have h : (x &&& 1).toBitVec.toNat = x.toBitVec.toNat % 2 := by
    rw [Int64.toBitVec_and, BitVec.toNat_and]
    exact Nat.and_two_pow_sub_one_eq_mod _ 1
  have h2 : x.toBitVec.getLsbD 0 = decide (x.toBitVec.toNat % 2 = 1) := by
    show x.toBitVec.toNat.testBit 0 = _
    rw [Nat.testBit_zero]
  rw [int_of_nat64 h (by omega), h2]
  have h3 : x.toBitVec.toNat % 2 = 0 ∨ x.toBitVec.toNat % 2 = 1 := by omega
  rcases h3 with q | q <;> rw [q] <;> rfl
theorem lcm_see {b : Bool} : lcm3 (if b then 1 else 0) 1 = 0 ↔ b = true := by
  cases b
  · exact ⟨fun h => (by cases h), fun h => (by cases h)⟩
  · exact ⟨fun _ => rfl, fun _ => rfl⟩
