def bt (x : Int32) (i : Nat) : Bool := x.toBitVec.getLsbD i
theorem b_ext {x y : Int32} (h : ∀ i, i < 32 → bt x i = bt y i) : x = y := Int32.toBitVec_inj.mp (BitVec.eq_of_getLsbD_eq (fun i hi => h i hi))
theorem b_or (x y : Int32) (i : Nat) : bt (x ||| y) i = (bt x i || bt y i) := by unfold bt; rw [Int32.toBitVec_or, BitVec.getLsbD_or]
theorem b_and (x y : Int32) (i : Nat) : bt (x &&& y) i = (bt x i && bt y i) := by unfold bt; rw [Int32.toBitVec_and, BitVec.getLsbD_and]
theorem b_xor (x y : Int32) (i : Nat) : bt (x ^^^ y) i = (bt x i ^^ bt y i) := by unfold bt; rw [Int32.toBitVec_xor, BitVec.getLsbD_xor]
theorem b_big {x : Int32} {i : Nat} (h : 32 ≤ i) : bt x i = false := BitVec.getLsbD_of_ge _ _ h
theorem b_255 (i : Nat) : bt 255 i = decide (i < 8) := by
  rcases Nat.lt_or_ge i 32 with h | h
  · exact (by decide +kernel : ∀ i, i < 32 → bt 255 i = decide (i < 8)) i h
  · rw [b_big h, decide_eq_false (by omega)]
theorem b_65535 (i : Nat) : bt 65535 i = decide (i < 16) := by
  rcases Nat.lt_or_ge i 32 with h | h
  · exact (by decide +kernel : ∀ i, i < 32 → bt 65535 i = decide (i < 16)) i h
  · rw [b_big h, decide_eq_false (by omega)]
theorem b_m1 : ∀ i, i < 32 → bt (-1) i = true := by decide +kernel
theorem b_0 (i : Nat) : bt 0 i = false := BitVec.getLsbD_zero
theorem s_l : ∀ n, n < 32 → ((nI n &&& 31).toBitVec.smod 32).toNat = n := by decide +kernel
theorem s_u : ∀ n, n < 32 → (((nI n).toUInt32 &&& Int32.toUInt32 31).toBitVec % 32).toNat = n := by decide +kernel
theorem b_shl (n : Nat) (hn : n < 32) (x : Int32) {i : Nat} (hi : i < 32) : bt (x <<< (nI n &&& 31)) i = (decide (n ≤ i) && bt x (i - n)) := by
  unfold bt
  rw [Int32.toBitVec_shiftLeft]
  show (x.toBitVec <<< ((nI n &&& 31).toBitVec.smod 32).toNat).getLsbD i = _
  rw [s_l n hn, BitVec.getLsbD_shiftLeft]
  rcases Nat.lt_or_ge i n with h | h
  · simp [h, Nat.not_le.mpr h]
  · simp [hi, h, Nat.not_lt.mpr h]
theorem b_ushr (n : Nat) (hn : n < 32) (x : Int32) (i : Nat) : bt ((x.toUInt32 >>> ((nI n).toUInt32 &&& Int32.toUInt32 31)).toInt32) i = bt x (n + i) := by
  show (x.toUInt32 >>> ((nI n).toUInt32 &&& Int32.toUInt32 31)).toBitVec.getLsbD i = x.toUInt32.toBitVec.getLsbD (n + i)
  rw [UInt32.toBitVec_shiftRight]
  show (x.toUInt32.toBitVec >>> (((nI n).toUInt32 &&& Int32.toUInt32 31).toBitVec % 32).toNat).getLsbD i = _
  rw [s_u n hn, BitVec.getLsbD_ushiftRight]
theorem b_sshr (n : Nat) (hn : n < 32) (x : Int32) {i : Nat} (hi : i < 32) : bt (x >>> (nI n &&& 31)) i = if n + i < 32 then bt x (n + i) else bt x 31 := by
  unfold bt
  rw [Int32.toBitVec_shiftRight]
  show (x.toBitVec.sshiftRight ((nI n &&& 31).toBitVec.smod 32).toNat).getLsbD i = _
  rw [s_l n hn, BitVec.getLsbD_sshiftRight, BitVec.msb_eq_getLsbD_last]
  simp [hi]
theorem b_i8 (x : Int32) {i : Nat} (hi : i < 32) : bt (x.toInt8.toInt32) i = if i < 8 then bt x i else bt x 7 := by
  have e : x.toInt8.toInt32.toBitVec = (x.toBitVec.setWidth 8).signExtend 32 := by
    rw [← BitVec.signExtend_eq_setWidth_of_le _ (by decide)]
    rfl
  unfold bt
  rw [e, BitVec.getLsbD_signExtend]
  simp [BitVec.getLsbD_setWidth, BitVec.msb_eq_getLsbD_last, hi]
  by_cases h : i < 8
  · simp [h]
  · simp [h]
theorem b_i16 (x : Int32) {i : Nat} (hi : i < 32) : bt (x.toInt16.toInt32) i = if i < 16 then bt x i else bt x 15 := by
  have e : x.toInt16.toInt32.toBitVec = (x.toBitVec.setWidth 16).signExtend 32 := by
    rw [← BitVec.signExtend_eq_setWidth_of_le _ (by decide)]
    rfl
  unfold bt
  rw [e, BitVec.getLsbD_signExtend]
  simp [BitVec.getLsbD_setWidth, BitVec.msb_eq_getLsbD_last, hi]
  by_cases h : i < 16
  · simp [h]
  · simp [h]
theorem z_sh8 (x : Int32) : (x <<< (nI 24 &&& 31)) >>> (nI 24 &&& 31) = x.toInt8.toInt32 := by
  refine b_ext (fun i hi => ?_)
  rw [b_sshr 24 (by decide) _ hi, b_i8 x hi]
  by_cases h : i < 8
  · rw [if_pos (by omega), if_pos h, b_shl 24 (by decide) _ (by omega), show 24 + i - 24 = i by omega]
    simp
  · rw [if_neg (by omega), if_neg h, b_shl 24 (by decide) _ (by omega)]
    simp
theorem z_sh16 (x : Int32) : (x <<< (nI 16 &&& 31)) >>> (nI 16 &&& 31) = x.toInt16.toInt32 := by
  refine b_ext (fun i hi => ?_)
  rw [b_sshr 16 (by decide) _ hi, b_i16 x hi]
  by_cases h : i < 16
  · rw [if_pos (by omega), if_pos h, b_shl 16 (by decide) _ (by omega), show 16 + i - 16 = i by omega]
    simp
  · rw [if_neg (by omega), if_neg h, b_shl 16 (by decide) _ (by omega)]
    simp
theorem b_32767 : ∀ i, i < 32 → bt (nI 32767) i = decide (i < 15) := by decide
theorem z_seed (x : Int32) : (zushr x (nI 16)) &&& nI 32767 = (x >>> (nI 16 &&& 31)) &&& nI 32767 := by
  refine b_ext (fun i hi => ?_)
  unfold zushr
  rw [b_and, b_and, b_32767 i hi, b_ushr 16 (by decide), b_sshr 16 (by decide) _ hi]
  by_cases h : i < 15
  · rw [if_pos (by omega)]
  · simp [h]
theorem z_seedN (x : Int32) : ∃ k, k < 32768 ∧ (x >>> (nI 16 &&& 31)) &&& nI 32767 = nI k := by
  refine ⟨((x >>> (nI 16 &&& 31)).toBitVec.toNat) &&& 32767, by have := Nat.and_le_right (n := (x >>> (nI 16 &&& 31)).toBitVec.toNat) (m := 32767); omega, ?_⟩
  have e : x >>> (nI 16 &&& 31) = nI (x >>> (nI 16 &&& 31)).toBitVec.toNat := Int32.toBitVec_inj.1 (by
    show _ = BitVec.ofNat 32 _
    simp)
  rw [← m_and, ← e]
