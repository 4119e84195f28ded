/-! ===== bits of words ===== -/
def lb (W : Int) (k : Nat) : Bool := (Int64.ofInt W).toBitVec.getLsbD k
def ib (W : Int) (k : Nat) : Bool := (Int32.ofInt W).toBitVec.getLsbD k
theorem lb_zero (k : Nat) : lb 0 k = false := by
  unfold lb
  show (0#64).getLsbD k = false
  simp
theorem ib_zero (k : Nat) : ib 0 k = false := by
  unfold ib
  show (0#32).getLsbD k = false
  simp
theorem sh63 (k : Nat) (h : k < 64) : ((Int32.ofInt (k : Int)).toInt64 &&& 63).toBitVec.toNat = k := by
  have : ∀ k : Fin 64, ((Int32.ofInt ((k.val : Nat) : Int)).toInt64 &&& 63).toBitVec.toNat = k.val := by decide +kernel
  exact this ⟨k, h⟩
theorem sh63u (k : Nat) (h : k < 64) : ((Int32.ofInt (k : Int)).toInt64.toUInt64 &&& 63).toNat = k := by
  have : ∀ k : Fin 64, ((Int32.ofInt ((k.val : Nat) : Int)).toInt64.toUInt64 &&& 63).toNat = k.val := by decide +kernel
  exact this ⟨k, h⟩
theorem sh31 (k : Nat) (h : k < 32) : (Int32.ofInt (k : Int) &&& 31).toBitVec.toNat = k := by
  have : ∀ k : Fin 32, (Int32.ofInt ((k.val : Nat) : Int) &&& 31).toBitVec.toNat = k.val := by decide +kernel
  exact this ⟨k, h⟩
theorem i64_eq {a b : Int64} (h : a.toBitVec = b.toBitVec) : a = b := Int64.toBitVec_inj.mp h
theorem i32_eq {a b : Int32} (h : a.toBitVec = b.toBitVec) : a = b := Int32.toBitVec_inj.mp h
theorem bv_and1 {n : Nat} (hn : 0 < n) (x : BitVec n) : x &&& 1#n = if x.getLsbD 0 then 1#n else 0#n := by
  apply BitVec.eq_of_getLsbD_eq
  intro i hi
  rw [BitVec.getLsbD_and, BitVec.getLsbD_one]
  rcases Bool.eq_false_or_eq_true (x.getLsbD 0) with hx | hx
  · rw [hx]
    by_cases h0 : i = 0
    · subst h0
      rw [hx]
      simp [hn]
    · simp [h0]
  · rw [hx]
    by_cases h0 : i = 0
    · subst h0
      rw [hx]
      simp
    · simp [h0]
theorem lbget (W : Int) (k : Nat) (h : k < 64) : mland (mlushr W (k : Int)) 1 = if lb W k = true then 1 else 0 := by
  unfold mland mJ mlushr lb
  rw [m_backL]
  have e : ((Int64.ofInt W).toUInt64 >>> ((Int32.ofInt (k : Int)).toInt64.toUInt64 &&& 63)).toInt64 &&& Int64.ofInt 1 = if (Int64.ofInt W).toBitVec.getLsbD k = true then 1 else 0 := by
    apply i64_eq
    have e1 : ((Int64.ofInt W).toUInt64 >>> ((Int32.ofInt (k : Int)).toInt64.toUInt64 &&& 63)).toInt64.toBitVec = (Int64.ofInt W).toBitVec >>> k := by
      show ((Int64.ofInt W).toUInt64 >>> ((Int32.ofInt (k : Int)).toInt64.toUInt64 &&& 63)).toBitVec = _
      rw [UInt64.toBitVec_shiftRight]
      show (Int64.ofInt W).toBitVec >>> _ = _
      have e3 : (((Int32.ofInt (k : Int)).toInt64.toUInt64 &&& 63).toBitVec % 64).toNat = k := by
        rw [BitVec.toNat_umod]
        show ((Int32.ofInt (k : Int)).toInt64.toUInt64 &&& 63).toNat % 64 = k
        rw [sh63u k h]
        omega
      show (Int64.ofInt W).toBitVec >>> ((((Int32.ofInt (k : Int)).toInt64.toUInt64 &&& 63).toBitVec % 64).toNat) = _
      rw [e3]
    rw [Int64.toBitVec_and, e1]
    show (Int64.ofInt W).toBitVec >>> k &&& 1#64 = _
    rw [bv_and1 (by decide), BitVec.getLsbD_ushiftRight]
    simp only [Nat.add_zero]
    split <;> rfl
  show ((((Int64.ofInt W).toUInt64 >>> ((Int32.ofInt (k : Int)).toInt64.toUInt64 &&& 63)).toInt64) &&& Int64.ofInt 1).toInt = _
  rw [e]
  split <;> rfl
theorem lset (W : Int) (k j : Nat) (h : k < 64) (hj : j < 64) : lb (mlor W (mlshl 1 (k : Int))) j = if j = k then true else lb W j := by
  unfold mlor mJ mlshl lb
  rw [m_backL, m_backL, Int64.toBitVec_or]
  have e1 : (Int64.ofInt 1 <<< ((Int32.ofInt (k : Int)).toInt64 &&& 63)).toBitVec = 1#64 <<< k := by
    rw [Int64.toBitVec_shiftLeft]
    show 1#64 <<< _ = _
    have e3 : (((Int32.ofInt (k : Int)).toInt64 &&& 63).toBitVec.smod 64).toNat = k := by
      have : ∀ k : Fin 64, (((Int32.ofInt ((k.val : Nat) : Int)).toInt64 &&& 63).toBitVec.smod 64).toNat = k.val := by decide +kernel
      exact this ⟨k, h⟩
    show 1#64 <<< ((((Int32.ofInt (k : Int)).toInt64 &&& 63).toBitVec.smod 64).toNat) = _
    rw [e3]
  rw [BitVec.getLsbD_or, e1, BitVec.getLsbD_shiftLeft, BitVec.getLsbD_one]
  by_cases hjk : j = k
  · subst hjk
    simp [hj]
  · rw [if_neg hjk]
    by_cases hlt : j < k
    · simp [hlt]
    · have : ¬ j - k = 0 := by omega
      simp [this]
theorem iget (W : Int) (k : Nat) (h : k < 32) : miand (mishr W (k : Int)) 1 = if (Int32.ofInt W >>> (Int32.ofInt (k : Int) &&& 31)).toBitVec.getLsbD 0 = true then 1 else 0 := by
  unfold miand mI mishr mI
  rw [m_back]
  have e : (Int32.ofInt W >>> (Int32.ofInt (k : Int) &&& 31)) &&& Int32.ofInt 1 = if (Int32.ofInt W >>> (Int32.ofInt (k : Int) &&& 31)).toBitVec.getLsbD 0 = true then 1 else 0 := by
    apply i32_eq
    rw [Int32.toBitVec_and]
    show (Int32.ofInt W >>> (Int32.ofInt (k : Int) &&& 31)).toBitVec &&& 1#32 = _
    rw [bv_and1 (by decide)]
    split <;> rfl
  show ((Int32.ofInt W >>> (Int32.ofInt (k : Int) &&& 31)) &&& Int32.ofInt 1).toInt = _
  rw [e]
  split <;> rfl
theorem igetb (W : Int) (k : Nat) (h : k < 31) : (Int32.ofInt W >>> (Int32.ofInt (k : Int) &&& 31)).toBitVec.getLsbD 0 = ib W k := by
  unfold ib
  have e1 : (Int32.ofInt W >>> (Int32.ofInt (k : Int) &&& 31)).toBitVec = (Int32.ofInt W).toBitVec.sshiftRight k := by
    rw [Int32.toBitVec_shiftRight]
    have e3 : ((Int32.ofInt (k : Int) &&& 31).toBitVec.smod 32).toNat = k := by
      have : ∀ k : Fin 31, ((Int32.ofInt ((k.val : Nat) : Int) &&& 31).toBitVec.smod 32).toNat = k.val := by decide +kernel
      exact this ⟨k, h⟩
    show (Int32.ofInt W).toBitVec.sshiftRight (((Int32.ofInt (k : Int) &&& 31).toBitVec.smod 32).toNat) = _
    rw [e3]
  rw [e1, BitVec.getLsbD_sshiftRight]
  have : k + 0 < 32 := by omega
  simp [this]
  omega
theorem iset (W : Int) (k j : Nat) (h : k < 31) (hj : j < 32) : ib (mior W (mishl 1 (k : Int))) j = if j = k then true else ib W j := by
  unfold mior mI mishl mI ib
  rw [m_back, m_back, Int32.toBitVec_or]
  have e1 : (Int32.ofInt 1 <<< (Int32.ofInt (k : Int) &&& 31)).toBitVec = 1#32 <<< k := by
    rw [Int32.toBitVec_shiftLeft]
    have e3 : ((Int32.ofInt (k : Int) &&& 31).toBitVec.smod 32).toNat = k := by
      have : ∀ k : Fin 31, ((Int32.ofInt ((k.val : Nat) : Int) &&& 31).toBitVec.smod 32).toNat = k.val := by decide +kernel
      exact this ⟨k, h⟩
    show 1#32 <<< (((Int32.ofInt (k : Int) &&& 31).toBitVec.smod 32).toNat) = _
    rw [e3]
  rw [BitVec.getLsbD_or, e1, BitVec.getLsbD_shiftLeft, BitVec.getLsbD_one]
  by_cases hjk : j = k
  · subst hjk
    simp [hj]
  · rw [if_neg hjk]
    by_cases hlt : j < k
    · simp [hlt]
    · have : ¬ j - k = 0 := by omega
      simp [this]
theorem h63 {h : Int} (h0 : 0 ≤ h) (h1 : h ≤ 1023) : miand h 63 = h % 64 := by
  have t : ∀ k : Fin 1024, miand ((k.val : Nat) : Int) 63 = ((k.val : Nat) : Int) % 64 := by decide +kernel
  have := t ⟨h.toNat, by omega⟩
  rw [show (((⟨h.toNat, by omega⟩ : Fin 1024).val : Nat) : Int) = h by show ((h.toNat : Nat) : Int) = h; omega] at this
  exact this
-- has and add of a set of hours
theorem has_iff {d : mD} {x h : Int} (h0 : 0 ≤ h) (h1 : h ≤ 999) : v_6 x h d = if lb (d (x + 1) (h / 64)) (h % 64).toNat = true then 1 else 0 := by
  unfold v_6
  rw [if_neg (by omega), if_neg (by omega)]
  have e6 : mishr h 6 = h / 64 := by rcases mishr6_r h with a | a | a <;> omega
  rw [e6, h63 h0 (by omega), show h % 64 = (((h % 64).toNat : Nat) : Int) by omega, lbget _ _ (by omega)]
  simp only [Int.toNat_natCast]
  unfold mcmp
  split <;> simp
theorem has_out {d : mD} {x h : Int} (h0 : h < 0 ∨ 999 < h) : v_6 x h d = 0 := by
  unfold v_6
  rcases h0 with h0 | h0
  · rw [if_pos h0]
  · rw [if_neg (by omega), if_pos h0]
theorem has_01 (d : mD) (x h : Int) : v_6 x h d = 0 ∨ v_6 x h d = 1 := by
  unfold v_6
  repeat' split
  all_goals first
    | exact Or.inl rfl
    | exact Or.inr rfl
theorem add_has {d : mD} {x h j : Int} (h0 : 0 ≤ h) (h1 : h ≤ 999) (j0 : 0 ≤ j) (j1 : j ≤ 999) : v_6 x j (g_7 x h d) = if j = h then 1 else v_6 x j d := by
  have e6 : mishr h 6 = h / 64 := by rcases mishr6_r h with a | a | a <;> omega
  have eg : g_7 x h d = mset d (x + 1) (h / 64) (mlor (d (x + 1) (h / 64)) (mlshl 1 (((h % 64).toNat : Nat) : Int))) := by
    unfold g_7
    rw [if_neg (by omega), if_neg (by omega), e6, h63 h0 (by omega), show (((h % 64).toNat : Nat) : Int) = h % 64 by omega]
  rw [has_iff j0 j1, has_iff j0 j1, eg]
  by_cases hw : j / 64 = h / 64
  · have e : mset d (x + 1) (h / 64) (mlor (d (x + 1) (h / 64)) (mlshl 1 (((h % 64).toNat : Nat) : Int))) (x + 1) (j / 64) = mlor (d (x + 1) (h / 64)) (mlshl 1 (((h % 64).toNat : Nat) : Int)) := by
      simp [mset, hw]
    rw [e, lset _ _ _ (by omega) (by omega)]
    by_cases hj : j = h
    · subst hj
      simp
    · rw [if_neg (show ¬ (j % 64).toNat = (h % 64).toNat by omega), if_neg hj, hw]
  · have e : mset d (x + 1) (h / 64) (mlor (d (x + 1) (h / 64)) (mlshl 1 (((h % 64).toNat : Nat) : Int))) (x + 1) (j / 64) = d (x + 1) (j / 64) := by
      simp [mset, hw]
    rw [e, if_neg (show ¬ j = h by intro e; subst e; exact hw rfl)]
