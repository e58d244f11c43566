/-! an instruction taken apart -/
def bL (x : Int64) (i : Nat) : Bool := x.toBitVec.getLsbD i
theorem bL_or (x y : Int64) (i : Nat) : bL (x ||| y) i = (bL x i || bL y i) := by unfold bL; rw [Int64.toBitVec_or, BitVec.getLsbD_or]
theorem s_8 : (((8 : Int32).toInt64 &&& 63).toBitVec.smod 64).toNat = 8 := by decide +kernel
theorem s_32 : (((32 : Int32).toInt64 &&& 63).toBitVec.smod 64).toNat = 32 := by decide +kernel
theorem bL_shl {c : Int64} {n : Nat} (hc : (c.toBitVec.smod 64).toNat = n) (x : Int64) {i : Nat} (hi : i < 64) : bL (x <<< c) i = (decide (n ≤ i) && bL x (i - n)) := by
  unfold bL
  rw [Int64.toBitVec_shiftLeft]
  show (x.toBitVec <<< (c.toBitVec.smod 64).toNat).getLsbD i = _
  rw [hc, BitVec.getLsbD_shiftLeft]
  rcases Nat.lt_or_ge i n with h | h
  · simp [h, Nat.not_le.mpr h]
  · simp [hi, h, Nat.not_lt.mpr h]
theorem bL_shr {c : Int64} {n : Nat} (hc : (c.toBitVec.smod 64).toNat = n) (x : Int64) {i : Nat} (hi : n + i < 64) : bL (x >>> c) i = bL x (n + i) := by
  unfold bL
  rw [Int64.toBitVec_shiftRight]
  show (x.toBitVec.sshiftRight (c.toBitVec.smod 64).toNat).getLsbD i = _
  rw [hc, BitVec.getLsbD_sshiftRight]
  have : i < 64 := by omega
  simp [this, hi]
theorem bL_64 (x : Int32) {i : Nat} (hi : i < 64) : bL (x.toInt64) i = if i < 32 then bt x i else bt x 31 := by
  unfold bL bt
  rw [Int32.toBitVec_toInt64, BitVec.getLsbD_signExtend, BitVec.msb_eq_getLsbD_last]
  simp [hi]
theorem bt_32 (x : Int64) {i : Nat} (hi : i < 32) : bt (x.toInt32) i = bL x i := by
  unfold bL bt
  rw [Int64.toBitVec_toInt32, BitVec.getLsbD_signExtend]
  have : i < 64 := by omega
  simp [hi, this]
theorem bt_hi {w n i : Nat} (hw : w < 2 ^ n) (hi : n ≤ i) : bt (nI w) i = false := by
  unfold bt
  show (BitVec.ofNat 32 w).getLsbD i = false
  rw [BitVec.getLsbD_ofNat, Nat.testBit_lt_two_pow (Nat.lt_of_lt_of_le hw (Nat.pow_le_pow_right (by omega) hi))]
  simp
theorem m_255 : ∀ i, i < 32 → bt 255 i = decide (i < 8) := by decide +kernel
theorem m_24 : ∀ i, i < 32 → bt 16777215 i = decide (i < 24) := by decide +kernel
theorem wd_bit (w f s : Int32) {i : Nat} (hi : i < 64) : bL (wd w f s) i = (((decide (32 ≤ i) && bL (s.toInt64) (i - 32)) || (decide (8 ≤ i) && bL ((f &&& 16777215).toInt64) (i - 8))) || bL (w.toInt64) i) := by
  unfold wd
  rw [bL_or, bL_or, bL_shl s_32 _ hi, bL_shl s_8 _ hi]
theorem wd_what {w : Nat} (hw : w < 256) (f s : Int32) : ((wd (nI w) f s).toInt32 &&& 255) = nI w := by
  apply b_ext
  intro i hi
  rw [b_and, bt_32 _ hi, m_255 i hi, wd_bit _ _ _ (by omega), bL_64 (nI w) (by omega), if_pos hi]
  by_cases h8 : i < 8
  · simp [h8, show ¬ 32 ≤ i by omega, show ¬ 8 ≤ i by omega]
  · rw [bt_hi (n := 8) hw (by omega)]
    simp [h8]
theorem wd_first {w f : Nat} (hw : w < 256) (hf : f < 16777216) (s : Int32) : (((wd (nI w) (nI f) s) >>> ((8 : Int32).toInt64 &&& 63) : Int64).toInt32 &&& 16777215) = nI f := by
  apply b_ext
  intro i hi
  rw [b_and, bt_32 _ hi, m_24 i hi, bL_shr s_8 _ (show 8 + i < 64 by omega), wd_bit _ _ _ (by omega)]
  by_cases h24 : i < 24
  · rw [show 8 + i - 8 = i by omega, bL_64 (nI f &&& 16777215) (by omega), if_pos hi, b_and, m_24 i hi, bL_64 (nI w) (by omega), if_pos (show 8 + i < 32 by omega), bt_hi (n := 8) hw (by omega)]
    simp [h24, show ¬ 32 ≤ 8 + i by omega]
  · rw [bt_hi (n := 24) hf (by omega)]
    simp [h24]
theorem wd_second {w : Nat} (hw : w < 256) (f s : Int32) : ((wd (nI w) f s) >>> ((32 : Int32).toInt64 &&& 63) : Int64).toInt32 = s := by
  apply b_ext
  intro i hi
  rw [bt_32 _ hi, bL_shr s_32 _ (show 32 + i < 64 by omega), wd_bit _ _ _ (by omega), show 32 + i - 32 = i by omega, bL_64 s (by omega), if_pos hi, bL_64 (nI w) (by omega), if_neg (show ¬ 32 + i < 32 by omega), bt_hi (n := 8) hw (show 8 ≤ 31 by omega), bL_64 (f &&& 16777215) (by omega)]
  have z31 : bt (f &&& 16777215) 31 = false := by rw [b_and, m_24 31 (by omega)]; simp
  by_cases h : 32 + i - 8 < 32
  · rw [if_pos h, b_and, m_24 _ h]
    simp [show ¬ 32 + i - 8 < 24 by omega]
  · rw [if_neg h, z31]
    simp
