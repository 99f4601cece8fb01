theorem byte_bv (b : BitVec 64) (s : Nat) (hs : s ≤ 56) : ((b >>> s).signExtend 32) &&& 255#32 = ((b.sshiftRight s) &&& 255#64).signExtend 32 := by
  apply BitVec.eq_of_getLsbD_eq
  intro i hi
  have e32 : (255#32).getLsbD i = decide (i < 8) := by
    have : ∀ i, i < 32 → (255#32).getLsbD i = decide (i < 8) := by decide
    exact this i hi
  have e64 : (255#64).getLsbD i = decide (i < 8) := by
    have : ∀ i, i < 32 → (255#64).getLsbD i = decide (i < 8) := by decide
    exact this i hi
  simp only [BitVec.getLsbD_and, BitVec.getLsbD_signExtend, BitVec.getLsbD_ushiftRight, BitVec.getLsbD_sshiftRight, e32, e64, hi, decide_true, Bool.true_and, if_pos (show i < 64 by omega)]
  by_cases h8 : i < 8
  · rw [if_pos (by omega)]
    simp [h8, show ¬ 64 ≤ i by omega]
  · simp [h8]
theorem byte_eq (x : Int64) {i : Nat} (hi : i < 8) : (((x.toUInt64 >>> ((8 * nI i).toInt64.toUInt64 &&& Int64.toUInt64 63)).toInt64).toInt32) &&& 255 = (((x >>> ((8 * nI i).toInt64 &&& 63)) &&& 255).toInt32) := by
  have hi' : i = 0 ∨ i = 1 ∨ i = 2 ∨ i = 3 ∨ i = 4 ∨ i = 5 ∨ i = 6 ∨ i = 7 := by omega
  apply Int32.toBitVec_inj.mp
  rcases hi' with rfl | rfl | rfl | rfl | rfl | rfl | rfl | rfl
  · rw [Int32.toBitVec_and, Int64.toBitVec_toInt32, Int64.toBitVec_toInt32, Int64.toBitVec_and]; exact byte_bv x.toBitVec 0 (by omega)
  · rw [Int32.toBitVec_and, Int64.toBitVec_toInt32, Int64.toBitVec_toInt32, Int64.toBitVec_and]; exact byte_bv x.toBitVec 8 (by omega)
  · rw [Int32.toBitVec_and, Int64.toBitVec_toInt32, Int64.toBitVec_toInt32, Int64.toBitVec_and]; exact byte_bv x.toBitVec 16 (by omega)
  · rw [Int32.toBitVec_and, Int64.toBitVec_toInt32, Int64.toBitVec_toInt32, Int64.toBitVec_and]; exact byte_bv x.toBitVec 24 (by omega)
  · rw [Int32.toBitVec_and, Int64.toBitVec_toInt32, Int64.toBitVec_toInt32, Int64.toBitVec_and]; exact byte_bv x.toBitVec 32 (by omega)
  · rw [Int32.toBitVec_and, Int64.toBitVec_toInt32, Int64.toBitVec_toInt32, Int64.toBitVec_and]; exact byte_bv x.toBitVec 40 (by omega)
  · rw [Int32.toBitVec_and, Int64.toBitVec_toInt32, Int64.toBitVec_toInt32, Int64.toBitVec_and]; exact byte_bv x.toBitVec 48 (by omega)
  · rw [Int32.toBitVec_and, Int64.toBitVec_toInt32, Int64.toBitVec_toInt32, Int64.toBitVec_and]; exact byte_bv x.toBitVec 56 (by omega)
