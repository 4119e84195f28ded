/-! ===== the text: bytes ===== -/
theorem bvByte (x : BitVec 8) (y : BitVec 32) (h : ∀ i, i < 32 → y.getLsbD i = (decide (i < 8) && x.getLsbD i)) : x.toInt % 256 = y.toInt := by
  have e : y = x.setWidth 32 := by
    apply BitVec.eq_of_getLsbD_eq
    intro i hi
    rw [h i hi, BitVec.getLsbD_setWidth]
    by_cases q : i < 8
    · simp [q, hi]
    · simp [q, BitVec.getLsbD_of_ge x i (by omega)]
  have hx := x.isLt
  have ey : y.toNat = x.toNat := by
    rw [e, BitVec.toNat_setWidth]
    exact Nat.mod_eq_of_lt (by omega)
  rw [BitVec.toInt_eq_toNat_cond, BitVec.toInt_eq_toNat_cond, ey]
  split <;> split <;> omega
theorem i2bB (X : Int) : mi2b X = (((Int32.ofInt X).toBitVec).setWidth 8).toInt := by
  unfold mi2b
  rw [Int8.toInt_toInt32]
  show (((Int32.ofInt X).toInt8).toBitVec).toInt = _
  rw [Int32.toBitVec_toInt8, BitVec.signExtend_eq_setWidth_of_le _ (by decide)]
theorem andB (W : Int) (k : Nat) (h : k < 31) (i : Nat) (hi : i < 32) : ((Int32.ofInt W >>> (Int32.ofInt (k : Int) &&& 31)) &&& Int32.ofInt 255).toBitVec.getLsbD i = (decide (i < 8) && ((Int32.ofInt W).toBitVec.sshiftRight k).getLsbD i) := by
  have e1 : (Int32.ofInt W >>> (Int32.ofInt (k : Int) &&& 31)).toBitVec = (Int32.ofInt W).toBitVec.sshiftRight k := by
    rw [Int32.toBitVec_shiftRight]
    have e3 : ((Int32.ofInt (k : Int) &&& 31).toBitVec.smod 32).toNat = k := by
      have : ∀ k : Fin 31, ((Int32.ofInt ((k.val : Nat) : Int) &&& 31).toBitVec.smod 32).toNat = k.val := by decide +kernel
      exact this ⟨k, h⟩
    show (Int32.ofInt W).toBitVec.sshiftRight (((Int32.ofInt (k : Int) &&& 31).toBitVec.smod 32).toNat) = _
    rw [e3]
  have e2 : ∀ i : Fin 32, (Int32.ofInt 255).toBitVec.getLsbD i.val = decide (i.val < 8) := by decide +kernel
  rw [Int32.toBitVec_and, BitVec.getLsbD_and, e1, e2 ⟨i, hi⟩, Bool.and_comm]
theorem byteEq (W : Int) (k : Nat) (h : k ≤ 24) : mi2b (miushr W (k : Int)) % 256 = miand (mishr W (k : Int)) 255 := by
  rw [i2bB]
  unfold miand mI mishr mI miushr mI
  rw [m_back, m_back]
  refine bvByte _ _ (fun i hi => ?_)
  rw [andB W k (by omega) i hi, BitVec.getLsbD_sshiftRight, BitVec.getLsbD_setWidth]
  by_cases q : i < 8
  · have e1 : ((Int32.ofInt W).toUInt32 >>> ((Int32.ofInt (k : Int)).toUInt32 &&& Int32.toUInt32 31)).toInt32.toBitVec = (Int32.ofInt W).toBitVec >>> k := by
      have e3 : ((Int32.ofInt (k : Int)).toUInt32 &&& Int32.toUInt32 31).toNat % 32 = k := by
        have : ∀ k : Fin 31, ((Int32.ofInt ((k.val : Nat) : Int)).toUInt32 &&& Int32.toUInt32 31).toNat % 32 = k.val := by decide +kernel
        exact this ⟨k, by omega⟩
      apply BitVec.eq_of_toNat_eq
      show ((Int32.ofInt W).toUInt32 >>> ((Int32.ofInt (k : Int)).toUInt32 &&& Int32.toUInt32 31)).toNat = _
      rw [UInt32.toNat_shiftRight, e3, BitVec.toNat_ushiftRight]
      rfl
    rw [e1, BitVec.getLsbD_ushiftRight]
    have c : k + i < 32 := by omega
    simp [q, c]
    omega
  · simp [q]
theorem byteEq0 (W : Int) : mi2b W % 256 = miand (mishr W 0) 255 := by
  rw [i2bB]
  unfold miand mI mishr mI
  rw [m_back]
  refine bvByte _ _ (fun i hi => ?_)
  have h := andB W 0 (by omega) i hi
  rw [BitVec.getLsbD_sshiftRight] at h
  have h2 : ((Int32.ofInt W >>> (Int32.ofInt 0 &&& 31)) &&& Int32.ofInt 255).toBitVec.getLsbD i = _ := h
  rw [h2, BitVec.getLsbD_setWidth]
  by_cases q : i < 8
  · have c : 0 + i < 32 := by omega
    rw [Nat.zero_add] at c
    rw [Nat.zero_add]
    have c2 : ¬ 32 ≤ i := by omega
    simp only [q, c, c2, decide_true, decide_false, Bool.true_and, Bool.not_false, Bool.true_and, if_true, if_pos]
  · simp [q]
