section TX
theorem u64_ok : ∀ k : Nat, k < 64 → (((nI k).toInt64.toUInt64 &&& Int64.toUInt64 63).toBitVec % 64).toNat = k := by decide +kernel
theorem s64_ok : ∀ k : Nat, k < 64 → (((nI k).toInt64 &&& 63).toBitVec.smod 64).toNat = k := by decide +kernel
theorem jlushr_nat (e : Int64) {k : Nat} (hk : k < 64) : (jlushr e (nI k)).toBitVec.toNat = e.toBitVec.toNat / 2 ^ k := by
  have h : (jlushr e (nI k)).toBitVec = e.toBitVec >>> k := by
    have h1 : (jlushr e (nI k)).toBitVec = e.toBitVec >>> (((nI k).toInt64.toUInt64 &&& Int64.toUInt64 63).toBitVec % 64) := UInt64.toBitVec_shiftRight _ _
    rw [h1]
    show e.toBitVec >>> (((nI k).toInt64.toUInt64 &&& Int64.toUInt64 63).toBitVec % 64).toNat = _
    rw [u64_ok k hk]
  rw [h, BitVec.toNat_ushiftRight, Nat.shiftRight_eq_div_pow]
theorem jlshr_low (e : Int64) {k : Nat} (hk : k ≤ 56) : (jlshr e (nI k)).toBitVec.toNat % 256 = e.toBitVec.toNat / 2 ^ k % 256 := by
  have h : (jlshr e (nI k)).toBitVec = e.toBitVec.sshiftRight k := by
    show e.toBitVec.sshiftRight (((nI k).toInt64 &&& 63).toBitVec.smod 64).toNat = _
    rw [s64_ok k (by omega)]
  rw [h]
  apply Nat.eq_of_testBit_eq
  intro j
  have e256 : (256 : Nat) = 2 ^ 8 := rfl
  rw [e256, Nat.testBit_mod_two_pow, Nat.testBit_mod_two_pow, Nat.testBit_div_two_pow]
  by_cases hj : j < 8
  · rw [decide_eq_true hj, Bool.true_and, Bool.true_and]
    show (e.toBitVec.sshiftRight k).getLsbD j = e.toBitVec.getLsbD (j + k)
    rw [BitVec.getLsbD_sshiftRight]
    have h1 : k + j < 64 := by omega
    simp [h1, show j < 64 by omega, Nat.add_comm]
  · rw [decide_eq_false hj, Bool.false_and, Bool.false_and]
/-- the i-th byte of eight -/
def bt (e : Int64) (i : Nat) : Nat := e.toBitVec.toNat / 2 ^ (56 - 8 * i) % 256
theorem bt_lt (e : Int64) (i : Nat) : bt e i < 256 := Nat.mod_lt _ (by decide)
theorem ix8 {i : Nat} (hi : i < 8) : (56 : Int32) - (8 : Int32) * nI i = nI (56 - 8 * i) := by
  rw [show (8 : Int32) * nI i = nI (8 * i) from pk_mul 8 i]
  exact pk_sub (a := 56) (by omega)
theorem toI32_low (x : Int64) : (Int64.toInt32 x &&& 255) = nI (x.toBitVec.toNat % 256) := by
  rw [pk_and _ 8 (by decide)]
  congr 1
  have h : (Int64.toInt32 x).toBitVec.toNat = x.toBitVec.toNat % 2 ^ 32 := by
    show (x.toBitVec.signExtend 32).toNat = _
    rw [BitVec.signExtend_eq_setWidth_of_le _ (by decide), BitVec.toNat_setWidth]
  rw [h]
  omega
theorem x_byte (e : Int64) {i : Nat} (hi : i < 8) : f_X9_byteOf e (nI i) = some (nI (bt e i)) := by
  unfold f_X9_byteOf
  rw [ix8 hi, toI32_low, jlushr_nat e (by omega)]
  rfl
theorem m_byte (e : Int64) {i : Nat} (hi : i < 8) : (jlshr e ((56 : Int32) - (8 : Int32) * nI i) &&& (255 : Int64)) = (0 : Int64) ↔ bt e i = 0 := by
  rw [ix8 hi]
  have h : (jlshr e (nI (56 - 8 * i)) &&& (255 : Int64)).toBitVec.toNat = bt e i := by
    rw [Int64.toBitVec_and, BitVec.toNat_and, show (255 : Int64).toBitVec.toNat = 2 ^ 8 - 1 from by decide, Nat.and_two_pow_sub_one_eq_mod]
    exact jlshr_low e (by omega)
  constructor
  · intro q
    rw [← h, q]; rfl
  · intro q
    apply Int64.toBitVec_inj.mp
    apply BitVec.eq_of_toNat_eq
    rw [h, q]; rfl
theorem i8_low (x : Int32) : (x.toInt8.toInt32 &&& 255) = nI (x.toBitVec.toNat % 256) := by
  rw [pk_and _ 8 (by decide)]
  congr 1
  have h1 : x.toInt8.toBitVec.toNat = x.toBitVec.toNat % 2 ^ 8 := by
    show (x.toBitVec.signExtend 8).toNat = _
    rw [BitVec.signExtend_eq_setWidth_of_le _ (by decide), BitVec.toNat_setWidth]
  have h2 : x.toInt8.toInt32.toBitVec.toNat % 2 ^ 8 = x.toInt8.toBitVec.toNat := by
    show (x.toInt8.toBitVec.signExtend 32).toNat % 2 ^ 8 = _
    rw [BitVec.toNat_signExtend, BitVec.toNat_setWidth]
    have := x.toInt8.toBitVec.isLt
    split <;> omega
  rw [h2, h1]
theorem m_store (e : Int64) {i : Nat} (hi : i < 8) : vp_nar .byte (ji2b (Int64.toInt32 (jlshr e ((56 : Int32) - (8 : Int32) * nI i)))) &&& 255 = nI (bt e i) := by
  rw [ix8 hi]
  have h : ∀ x : Int32, vp_nar .byte (ji2b x) = x.toInt8.toInt32 := fun x => by
    unfold vp_nar ji2b
    rw [pk_nb]
  rw [h, i8_low]
  congr 1
  have h2 : (Int64.toInt32 (jlshr e (nI (56 - 8 * i)))).toBitVec.toNat = (jlshr e (nI (56 - 8 * i))).toBitVec.toNat % 2 ^ 32 := by
    show ((jlshr e (nI (56 - 8 * i))).toBitVec.signExtend 32).toNat = _
    rw [BitVec.signExtend_eq_setWidth_of_le _ (by decide), BitVec.toNat_setWidth]
  rw [h2]
  have h3 := jlshr_low e (k := 56 - 8 * i) (by omega)
  unfold bt
  omega
end TX
