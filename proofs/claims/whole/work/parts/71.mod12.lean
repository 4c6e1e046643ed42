theorem shl_b (v : Int32) (k : Nat) (hk : k < 32) : (v <<< (nI k &&& 31) >>> (nI k &&& 31)).toBitVec = (v.toBitVec <<< k).sshiftRight k := by
  have e := sh_l k hk
  rw [Int32.toBitVec_shiftRight, Int32.toBitVec_shiftLeft]
  rw [BitVec.shiftLeft_eq', BitVec.sshiftRight_eq', e]
theorem shl_x (b : BitVec 32) (k i : Nat) (hk : 0 < k) (hk2 : k < 32) (hi : i < 32) : ((b <<< k).sshiftRight k).getLsbD i = if i < 32 - k then b.getLsbD i else b.getLsbD (31 - k) := by
  rw [BitVec.getLsbD_sshiftRight]
  simp only [BitVec.getLsbD_shiftLeft, BitVec.msb_eq_getLsbD_last]
  by_cases h : i < 32 - k
  · have h1 : k + i < 32 := by omega
    have h2 : ¬ 32 ≤ i := by omega
    have h3 : ¬ k + i < k := by omega
    simp [h, h1, h2]
  · have h1 : ¬ k + i < 32 := by omega
    have h2 : ¬ 32 ≤ i := by omega
    have h3 : ¬ 31 < k := by omega
    simp [h, h1, h2, h3]
theorem sgn_x (b : BitVec 32) (w i : Nat) (hw : 0 < w) (hw2 : w < 32) (hi : i < 32) : ((b.signExtend w).signExtend 32).getLsbD i = if i < w then b.getLsbD i else b.getLsbD (w - 1) := by
  rw [BitVec.getLsbD_signExtend]
  by_cases h : i < w
  · have h1 : i < 32 := hi
    rw [if_pos h, if_pos h, BitVec.getLsbD_signExtend, if_pos h1]
    simp [h, h1]
  · have h1 : w - 1 < w := by omega
    have h2 : w - 1 < 32 := by omega
    rw [if_neg h, if_neg h, BitVec.msb_eq_getLsbD_last, BitVec.getLsbD_signExtend, if_pos h2]
    simp [h1, hi]
theorem shl24 (v : Int32) : v <<< (nI 24 &&& 31) >>> (nI 24 &&& 31) = v.toInt8.toInt32 := by
  apply Int32.toBitVec_inj.1
  rw [shl_b v 24 (by decide), Int8.toBitVec_toInt32, Int32.toBitVec_toInt8]
  apply BitVec.eq_of_getLsbD_eq
  intro i hi
  rw [shl_x _ 24 i (by decide) (by decide) hi, sgn_x _ 8 i (by decide) (by decide) hi]
theorem shl16 (v : Int32) : v <<< (nI 16 &&& 31) >>> (nI 16 &&& 31) = v.toInt16.toInt32 := by
  apply Int32.toBitVec_inj.1
  rw [shl_b v 16 (by decide), Int16.toBitVec_toInt32, Int32.toBitVec_toInt16]
  apply BitVec.eq_of_getLsbD_eq
  intro i hi
  rw [shl_x _ 16 i (by decide) (by decide) hi, sgn_x _ 16 i (by decide) (by decide) hi]
