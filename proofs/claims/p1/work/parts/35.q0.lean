theorem by_bit (x : Int64) (s : Nat) (hs : s ≤ 56) (y : Int32) (h1 : (y.toInt64.toUInt64 &&& Int64.toUInt64 63) = UInt64.ofNat s) (h2 : (y.toInt64 &&& 63) = Int64.ofNat s) : (Int64.toInt32 (jlushr x y) &&& (255 : Int32) = 0) ↔ (jlshr x y &&& (255 : Int64) = 0) := by
  unfold jlushr jlshr
  rw [h1, h2]
  have a1 : ∀ j, ((Int64.toInt32 (x.toUInt64 >>> UInt64.ofNat s).toInt64) &&& (255 : Int32)).toBitVec.getLsbD j = (decide (j < 8) && x.toBitVec.getLsbD (s + j)) := by
    intro j
    sorry
  have a2 : ∀ j, ((x >>> Int64.ofNat s) &&& (255 : Int64)).toBitVec.getLsbD j = (decide (j < 8) && x.toBitVec.getLsbD (s + j)) := by
    intro j
    sorry
  constructor
  · intro h
    apply Int64.toBitVec_inj.mp
    apply BitVec.eq_of_getLsbD_eq
    intro j hj
    rw [a2, ← a1, h]
    simp
  · intro h
    apply Int32.toBitVec_inj.mp
    apply BitVec.eq_of_getLsbD_eq
    intro j hj
    rw [a1, ← a2, h]
    simp
