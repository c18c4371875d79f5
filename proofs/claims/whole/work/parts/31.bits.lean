/-! bytes of a long -/
def un (x : Int64) : Nat := x.toBitVec.toNat
theorem un_lt (x : Int64) : un x < 2 ^ 64 := x.toBitVec.isLt
theorem un_inj {x y : Int64} (h : un x = un y) : x = y := by
  have h1 : x.toBitVec = y.toBitVec := BitVec.eq_of_toNat_eq h
  exact Int64.toBitVec_inj.mp h1
theorem un_or (x y : Int64) : un (x ||| y) = un x ||| un y := by
  unfold un; rw [Int64.toBitVec_or, BitVec.toNat_or]
theorem un_and (x y : Int64) : un (x &&& y) = un x &&& un y := by
  unfold un; rw [Int64.toBitVec_and, BitVec.toNat_and]
theorem un_xor (x y : Int64) : un (x ^^^ y) = un x ^^^ un y := by
  unfold un; rw [Int64.toBitVec_xor, BitVec.toNat_xor]
theorem un_lN {n : Nat} (h : n < 2 ^ 64) : un (lN n) = n := by
  unfold un lN
  rw [show (Int64.ofNat n).toBitVec = BitVec.ofNat 64 n from rfl, BitVec.toNat_ofNat, Nat.mod_eq_of_lt h]
theorem un_add (x y : Int64) : un (x + y) = (un x + un y) % 2 ^ 64 := by
  unfold un; rw [Int64.toBitVec_add, BitVec.toNat_add]
theorem sh_c : ∀ k, k < 64 → ((nI k).toInt64 &&& 63).toBitVec.smod 64 = BitVec.ofNat 64 k := by decide +kernel
theorem sh_u : ∀ k, k < 64 → ((nI k).toInt64.toUInt64 &&& Int64.toUInt64 63).toBitVec % 64#64 = BitVec.ofNat 64 k := by decide +kernel
theorem un_shl (x : Int64) {k : Nat} (hk : k < 64) : un (x <<< ((nI k).toInt64 &&& 63)) = un x * 2 ^ k % 2 ^ 64 := by
  unfold un
  rw [show (x <<< ((nI k).toInt64 &&& 63)).toBitVec = x.toBitVec <<< (((nI k).toInt64 &&& 63).toBitVec.smod 64) from rfl, sh_c k hk, BitVec.shiftLeft_eq', BitVec.toNat_shiftLeft, BitVec.toNat_ofNat, Nat.mod_eq_of_lt (show k < 2 ^ 64 by omega), Nat.shiftLeft_eq]
theorem un_ushr (x : Int64) {k : Nat} (hk : k < 64) : un ((x.toUInt64 >>> ((nI k).toInt64.toUInt64 &&& Int64.toUInt64 63)).toInt64) = un x / 2 ^ k := by
  unfold un
  rw [show ((x.toUInt64 >>> ((nI k).toInt64.toUInt64 &&& Int64.toUInt64 63)).toInt64).toBitVec = x.toBitVec >>> (((nI k).toInt64.toUInt64 &&& Int64.toUInt64 63).toBitVec % 64#64) from rfl, sh_u k hk, BitVec.ushiftRight_eq', BitVec.toNat_ushiftRight, BitVec.toNat_ofNat, Nat.mod_eq_of_lt (by omega), Nat.shiftRight_eq_div_pow]
theorem bv_sshr (x : Int64) {k : Nat} (hk : k < 64) : (x >>> ((nI k).toInt64 &&& 63)).toBitVec = x.toBitVec.sshiftRight k := by
  rw [show (x >>> ((nI k).toInt64 &&& 63)).toBitVec = x.toBitVec.sshiftRight' (((nI k).toInt64 &&& 63).toBitVec.smod 64) from rfl, sh_c k hk, BitVec.sshiftRight', BitVec.toNat_ofNat, Nat.mod_eq_of_lt (by omega)]
/-- byte i of a long, the lowest 0 -/
def b8 (x : Int64) (i : Nat) : Nat := un x / 2 ^ (8 * i) % 256
theorem b8_lt (x : Int64) (i : Nat) : b8 x i < 256 := Nat.mod_lt _ (by decide)
theorem b8_bit (x : Int64) (i t : Nat) : (b8 x i).testBit t = (decide (t < 8) && (un x).testBit (8 * i + t)) := by
  unfold b8
  rw [show (256 : Nat) = 2 ^ 8 from rfl, Nat.testBit_mod_two_pow, Nat.testBit_div_two_pow, Nat.add_comm]
theorem b8_ext {x y : Int64} (h : ∀ i, i < 8 → b8 x i = b8 y i) : x = y := by
  refine un_inj (Nat.eq_of_testBit_eq fun t => ?_)
  by_cases ht : t < 64
  · have h1 := congrArg (fun n => n.testBit (t % 8)) (h (t / 8) (by omega))
    simp only [b8_bit] at h1
    rw [decide_eq_true (by omega : t % 8 < 8), Bool.true_and, Bool.true_and, show 8 * (t / 8) + t % 8 = t by omega] at h1
    exact h1
  · rw [Nat.testBit_lt_two_pow (Nat.lt_of_lt_of_le (un_lt x) (Nat.pow_le_pow_right (by decide) (by omega))), Nat.testBit_lt_two_pow (Nat.lt_of_lt_of_le (un_lt y) (Nat.pow_le_pow_right (by decide) (by omega)))]
theorem b8_or (x y : Int64) (i : Nat) : b8 (x ||| y) i = b8 x i ||| b8 y i := by
  refine Nat.eq_of_testBit_eq fun t => ?_
  rw [Nat.testBit_or, b8_bit, b8_bit, b8_bit, un_or, Nat.testBit_or]
  cases decide (t < 8) <;> simp
theorem b8_and (x y : Int64) (i : Nat) : b8 (x &&& y) i = b8 x i &&& b8 y i := by
  refine Nat.eq_of_testBit_eq fun t => ?_
  rw [Nat.testBit_and, b8_bit, b8_bit, b8_bit, un_and, Nat.testBit_and]
  cases decide (t < 8) <;> simp
theorem b8_xor (x y : Int64) (i : Nat) : b8 (x ^^^ y) i = b8 x i ^^^ b8 y i := by
  refine Nat.eq_of_testBit_eq fun t => ?_
  rw [Nat.testBit_xor, b8_bit, b8_bit, b8_bit, un_xor, Nat.testBit_xor]
  cases decide (t < 8) <;> simp
theorem b8_zero (i : Nat) : b8 0 i = 0 := by
  unfold b8 un
  rw [show (0 : Int64).toBitVec.toNat = 0 from rfl, Nat.zero_div]
theorem b8_ff : ∀ i, i < 8 → b8 (-1) i = 255 := by decide +kernel
/-- a byte put at place i of a zero long -/
theorem b8_put {b i j : Nat} (hb : b < 256) (hi : i < 8) (hj : j < 8) : b8 (lN b <<< ((nI (8 * i)).toInt64 &&& 63)) j = if j = i then b else 0 := by
  unfold b8
  rw [un_shl _ (by omega), un_lN (by omega)]
  have hm : b * 2 ^ (8 * i) < 2 ^ 64 := by
    have h1 : b * 2 ^ (8 * i) < 256 * 2 ^ (8 * i) := Nat.mul_lt_mul_of_pos_right hb (Nat.two_pow_pos _)
    have h2 : 256 * 2 ^ (8 * i) ≤ 2 ^ 64 := by
      rw [show 256 = 2 ^ 8 from rfl, ← Nat.pow_add]
      exact Nat.pow_le_pow_right (by decide) (by omega)
    omega
  rw [Nat.mod_eq_of_lt hm]
  by_cases h : j = i
  · subst h
    rw [if_pos rfl, Nat.mul_div_cancel _ (Nat.two_pow_pos _), Nat.mod_eq_of_lt hb]
  · rw [if_neg h]
    by_cases hlt : j < i
    · rw [show 8 * i = 8 * j + (8 + (8 * i - 8 * j - 8)) by omega, Nat.pow_add, ← Nat.mul_assoc, Nat.mul_right_comm, Nat.mul_div_cancel _ (Nat.two_pow_pos _), Nat.pow_add, ← Nat.mul_assoc, Nat.mul_right_comm, show (2 : Nat) ^ 8 = 256 from rfl, Nat.mul_mod_left]
    · rw [show 8 * j = 8 * i + (8 * j - 8 * i) by omega, Nat.pow_add, ← Nat.div_div_eq_div_mul, Nat.mul_div_cancel _ (Nat.two_pow_pos _), Nat.div_eq_of_lt, Nat.zero_mod]
      exact Nat.lt_of_lt_of_le hb (by rw [show 256 = 2 ^ 8 from rfl]; exact Nat.pow_le_pow_right (by decide) (by omega))
theorem nI_l64 {n : Nat} (h : n < 2 ^ 31) : (nI n).toInt64 = lN n := nI_l h
/-- the byte that the class takes out of a long -/
theorem byte_ushr (x : Int64) {i : Nat} (hi : i < 8) : (((x.toUInt64 >>> ((nI (8 * i)).toInt64.toUInt64 &&& Int64.toUInt64 63)).toInt64).toInt32 &&& (255 : Int32)) = nI (b8 x i) := by
  rw [pk_and _ (m := 255) 8 (by decide)]
  unfold b8
  have h := un_ushr x (k := 8 * i) (by omega)
  generalize ((x.toUInt64 >>> ((nI (8 * i)).toInt64.toUInt64 &&& Int64.toUInt64 63)).toInt64) = w at h
  rw [← h]
  have h2 : w.toInt32.toBitVec.toNat = un w % 2 ^ 32 := by
    unfold un
    rw [show w.toInt32.toBitVec = w.toBitVec.signExtend 32 from rfl, BitVec.signExtend_eq_setWidth_of_le _ (by decide), BitVec.toNat_setWidth]
  rw [h2, show (2 : Nat) ^ 8 = 256 from rfl, Nat.mod_mod_of_dvd _ (by decide : 256 ∣ 2 ^ 32)]
/-- the byte that the reference takes -/
theorem byte_sshr (x : Int64) {i : Nat} (hi : i < 8) : ((x >>> ((nI (8 * i)).toInt64 &&& 63)) &&& (255 : Int64)).toInt32 = nI (b8 x i) := by
  have h1 : ((x >>> ((nI (8 * i)).toInt64 &&& 63)) &&& (255 : Int64)) = lN (b8 x i) := by
    refine un_inj (Nat.eq_of_testBit_eq fun t => ?_)
    rw [un_and, un_lN (Nat.lt_trans (b8_lt x i) (by decide)), Nat.testBit_and, b8_bit]
    have h255 : (un 255).testBit t = decide (t < 8) := by
      rw [show un 255 = 2 ^ 8 - 1 from rfl, Nat.testBit_two_pow_sub_one]
    rw [h255]
    by_cases ht : t < 8
    · rw [decide_eq_true ht, Bool.and_true, Bool.true_and]
      unfold un
      rw [bv_sshr x (by omega), BitVec.testBit_toNat, BitVec.getLsbD_sshiftRight, BitVec.testBit_toNat]
      have e1 : (!decide (64 ≤ t)) = true := by simp; omega
      rw [e1, Bool.true_and, if_pos (by omega)]
    · rw [decide_eq_false ht, Bool.and_false, Bool.false_and]
  rw [h1, lN_i]
