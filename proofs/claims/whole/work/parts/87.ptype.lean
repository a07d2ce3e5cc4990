/-! type: the bytes of a word on both sides -/
def cB (w : Int64) (i : Nat) : Nat := w.toBitVec.toNat / 2 ^ (8 * i) % 256
theorem sh8 : ∀ i, i < 8 → ((8 : Int32) * nI i).toInt64 &&& 63 = Int64.ofNat (8 * i) := by decide +kernel
theorem sh8u : ∀ i, i < 8 → (((8 : Int32) * nI i).toInt64.toUInt64 &&& Int64.toUInt64 63) = UInt64.ofNat (8 * i) := by decide +kernel
theorem sh8s : ∀ i, i < 8 → ((Int64.ofNat (8 * i)).toBitVec.smod 64).toNat = 8 * i := by decide +kernel
theorem sh8t : ∀ i, i < 8 → ((UInt64.ofNat (8 * i)).toBitVec % 64).toNat = 8 * i := by decide +kernel
theorem byte1 (w : Int64) {i : Nat} (hi : i < 8) : ((w.toUInt64 >>> (((8 : Int32) * nI i).toInt64.toUInt64 &&& Int64.toUInt64 63)).toInt64.toInt32) &&& (255 : Int32) = nI (cB w i) := by
  rw [sh8u i hi, pk_and _ 8 (by decide)]
  refine congrArg nI ?_
  have h1 : (w.toUInt64 >>> UInt64.ofNat (8 * i)).toInt64.toInt32.toBitVec.toNat = (w.toBitVec.toNat / 2 ^ (8 * i)) % 2 ^ 32 := by
    rw [Int64.toBitVec_toInt32, BitVec.signExtend_eq_setWidth_of_le _ (by decide), BitVec.toNat_setWidth]
    show (w.toUInt64 >>> UInt64.ofNat (8 * i)).toBitVec.toNat % 2 ^ 32 = _
    rw [ UInt64.toBitVec_shiftRight, BitVec.ushiftRight_eq', sh8t i hi, BitVec.toNat_ushiftRight, Nat.shiftRight_eq_div_pow]
    rfl
  rw [h1]
  unfold cB
  omega
theorem byte2 (w : Int64) {i : Nat} (hi : i < 8) : ((w >>> (((8 : Int32) * nI i).toInt64 &&& 63)) &&& (255 : Int64)).toInt32 = nI (cB w i) := by
  rw [sh8 i hi]
  refine Int32.toBitVec_inj.mp ?_
  rw [Int64.toBitVec_toInt32, BitVec.signExtend_eq_setWidth_of_le _ (by decide), Int64.toBitVec_and]
  show BitVec.setWidth 32 ((w >>> Int64.ofNat (8 * i)).toBitVec &&& (255 : Int64).toBitVec) = BitVec.ofNat 32 (cB w i)
  have h1 : (w >>> Int64.ofNat (8 * i)).toBitVec = w.toBitVec.sshiftRight (8 * i) := by
    rw [Int64.toBitVec_shiftRight, BitVec.sshiftRight_eq', sh8s i hi]
  rw [h1]
  refine BitVec.eq_of_getLsbD_eq (fun j hj => ?_)
  rw [BitVec.getLsbD_setWidth, BitVec.getLsbD_and, BitVec.getLsbD_sshiftRight, BitVec.getLsbD_ofNat]
  have h255 : ∀ j, j < 32 → (255 : Int64).toBitVec.getLsbD j = decide (j < 8) := by decide +kernel
  rw [h255 j hj]
  unfold cB
  rw [show (256 : Nat) = 2 ^ 8 from rfl, Nat.testBit_mod_two_pow, Nat.testBit_div_two_pow]
  by_cases h8 : j < 8
  · simp only [h8, hj, decide_true, Bool.true_and, Bool.and_true]
    rw [if_pos (by omega), show decide (64 ≤ j) = false from decide_eq_false (by omega)]
    show (true && w.toBitVec.getLsbD (8 * i + j)) = w.toBitVec.toNat.testBit (j + 8 * i)
    rw [Bool.true_and, Nat.add_comm]
    rfl
  · simp [h8]
