/-! ===== bits of words ===== -/
def lb (W : Int) (k : Nat) : Bool := (Int64.ofInt W).toBitVec.getLsbD k
def ib (W : Int) (k : Nat) : Bool := (Int32.ofInt W).toBitVec.getLsbD k
theorem lb_zero (k : Nat) : lb 0 k = false := by
  unfold lb
  show (0#64).getLsbD k = false
  simp
theorem ib_zero (k : Nat) : ib 0 k = false := by
  unfold ib
  show (0#32).getLsbD k = false
  simp
theorem sh63 (k : Nat) (h : k < 64) : ((Int32.ofInt (k : Int)).toInt64 &&& 63).toBitVec.toNat = k := by
  have : ∀ k : Fin 64, ((Int32.ofInt ((k.val : Nat) : Int)).toInt64 &&& 63).toBitVec.toNat = k.val := by decide +kernel
  exact this ⟨k, h⟩
theorem sh63u (k : Nat) (h : k < 64) : ((Int32.ofInt (k : Int)).toInt64.toUInt64 &&& 63).toNat = k := by
  have : ∀ k : Fin 64, ((Int32.ofInt ((k.val : Nat) : Int)).toInt64.toUInt64 &&& 63).toNat = k.val := by decide +kernel
  exact this ⟨k, h⟩
theorem sh31 (k : Nat) (h : k < 32) : (Int32.ofInt (k : Int) &&& 31).toBitVec.toNat = k := by
  have : ∀ k : Fin 32, (Int32.ofInt ((k.val : Nat) : Int) &&& 31).toBitVec.toNat = k.val := by decide +kernel
  exact this ⟨k, h⟩
theorem i64_eq {a b : Int64} (h : a.toBitVec = b.toBitVec) : a = b := Int64.toBitVec_inj.mp h
theorem i32_eq {a b : Int32} (h : a.toBitVec = b.toBitVec) : a = b := Int32.toBitVec_inj.mp h
theorem bv_and1 {n : Nat} (hn : 0 < n) (x : BitVec n) : x &&& 1#n = if x.getLsbD 0 then 1#n else 0#n := by
  apply BitVec.eq_of_getLsbD_eq
  intro i hi
  rw [BitVec.getLsbD_and, BitVec.getLsbD_one]
  rcases Bool.eq_false_or_eq_true (x.getLsbD 0) with hx | hx
  · rw [hx]
    by_cases h0 : i = 0
    · subst h0
      rw [hx]
      simp [hn]
    · simp [h0]
  · rw [hx]
    by_cases h0 : i = 0
    · subst h0
      rw [hx]
      simp
    · simp [h0]
theorem lbget (W : Int) (k : Nat) (h : k < 64) : mland (mlushr W (k : Int)) 1 = if lb W k = true then 1 else 0 := by
  unfold mland mJ mlushr lb
  rw [m_backL]
  have e : ((Int64.ofInt W).toUInt64 >>> ((Int32.ofInt (k : Int)).toInt64.toUInt64 &&& 63)).toInt64 &&& Int64.ofInt 1 = if (Int64.ofInt W).toBitVec.getLsbD k = true then 1 else 0 := by
    apply i64_eq
    have e1 : ((Int64.ofInt W).toUInt64 >>> ((Int32.ofInt (k : Int)).toInt64.toUInt64 &&& 63)).toInt64.toBitVec = (Int64.ofInt W).toBitVec >>> k := by
      show ((Int64.ofInt W).toUInt64 >>> ((Int32.ofInt (k : Int)).toInt64.toUInt64 &&& 63)).toBitVec = _
      rw [UInt64.toBitVec_shiftRight]
      show (Int64.ofInt W).toBitVec >>> _ = _
      have e3 : (((Int32.ofInt (k : Int)).toInt64.toUInt64 &&& 63).toBitVec % 64).toNat = k := by
        rw [BitVec.toNat_umod]
        show ((Int32.ofInt (k : Int)).toInt64.toUInt64 &&& 63).toNat % 64 = k
        rw [sh63u k h]
        omega
      show (Int64.ofInt W).toBitVec >>> ((((Int32.ofInt (k : Int)).toInt64.toUInt64 &&& 63).toBitVec % 64).toNat) = _
      rw [e3]
    rw [Int64.toBitVec_and, e1]
    show (Int64.ofInt W).toBitVec >>> k &&& 1#64 = _
    rw [bv_and1 (by decide), BitVec.getLsbD_ushiftRight]
    simp only [Nat.add_zero]
    split <;> rfl
  show ((((Int64.ofInt W).toUInt64 >>> ((Int32.ofInt (k : Int)).toInt64.toUInt64 &&& 63)).toInt64) &&& Int64.ofInt 1).toInt = _
  rw [e]
  split <;> rfl
theorem lset (W : Int) (k j : Nat) (h : k < 64) (hj : j < 64) : lb (mlor W (mlshl 1 (k : Int))) j = if j = k then true else lb W j := by
  unfold mlor mJ mlshl lb
  rw [m_backL, m_backL, Int64.toBitVec_or]
  have e1 : (Int64.ofInt 1 <<< ((Int32.ofInt (k : Int)).toInt64 &&& 63)).toBitVec = 1#64 <<< k := by
    rw [Int64.toBitVec_shiftLeft]
    show 1#64 <<< _ = _
    have e3 : (((Int32.ofInt (k : Int)).toInt64 &&& 63).toBitVec.smod 64).toNat = k := by
      have : ∀ k : Fin 64, (((Int32.ofInt ((k.val : Nat) : Int)).toInt64 &&& 63).toBitVec.smod 64).toNat = k.val := by decide +kernel
      exact this ⟨k, h⟩
    show 1#64 <<< ((((Int32.ofInt (k : Int)).toInt64 &&& 63).toBitVec.smod 64).toNat) = _
    rw [e3]
  rw [BitVec.getLsbD_or, e1, BitVec.getLsbD_shiftLeft, BitVec.getLsbD_one]
  by_cases hjk : j = k
  · subst hjk
    simp [hj]
  · rw [if_neg hjk]
    by_cases hlt : j < k
    · simp [hlt]
    · have : ¬ j - k = 0 := by omega
      simp [this]
theorem iget (W : Int) (k : Nat) (h : k < 32) : miand (mishr W (k : Int)) 1 = if (Int32.ofInt W >>> (Int32.ofInt (k : Int) &&& 31)).toBitVec.getLsbD 0 = true then 1 else 0 := by
  unfold miand mI mishr mI
  rw [m_back]
  have e : (Int32.ofInt W >>> (Int32.ofInt (k : Int) &&& 31)) &&& Int32.ofInt 1 = if (Int32.ofInt W >>> (Int32.ofInt (k : Int) &&& 31)).toBitVec.getLsbD 0 = true then 1 else 0 := by
    apply i32_eq
    rw [Int32.toBitVec_and]
    show (Int32.ofInt W >>> (Int32.ofInt (k : Int) &&& 31)).toBitVec &&& 1#32 = _
    rw [bv_and1 (by decide)]
    split <;> rfl
  show ((Int32.ofInt W >>> (Int32.ofInt (k : Int) &&& 31)) &&& Int32.ofInt 1).toInt = _
  rw [e]
  split <;> rfl
theorem igetb (W : Int) (k : Nat) (h : k < 31) : (Int32.ofInt W >>> (Int32.ofInt (k : Int) &&& 31)).toBitVec.getLsbD 0 = ib W k := by
  unfold ib
  have e1 : (Int32.ofInt W >>> (Int32.ofInt (k : Int) &&& 31)).toBitVec = (Int32.ofInt W).toBitVec.sshiftRight k := by
    rw [Int32.toBitVec_shiftRight]
    have e3 : ((Int32.ofInt (k : Int) &&& 31).toBitVec.smod 32).toNat = k := by
      have : ∀ k : Fin 31, ((Int32.ofInt ((k.val : Nat) : Int) &&& 31).toBitVec.smod 32).toNat = k.val := by decide +kernel
      exact this ⟨k, h⟩
    show (Int32.ofInt W).toBitVec.sshiftRight (((Int32.ofInt (k : Int) &&& 31).toBitVec.smod 32).toNat) = _
    rw [e3]
  rw [e1, BitVec.getLsbD_sshiftRight]
  have : k + 0 < 32 := by omega
  simp [this]
  omega
theorem iset (W : Int) (k j : Nat) (h : k < 31) (hj : j < 32) : ib (mior W (mishl 1 (k : Int))) j = if j = k then true else ib W j := by
  unfold mior mI mishl mI ib
  rw [m_back, m_back, Int32.toBitVec_or]
  have e1 : (Int32.ofInt 1 <<< (Int32.ofInt (k : Int) &&& 31)).toBitVec = 1#32 <<< k := by
    rw [Int32.toBitVec_shiftLeft]
    have e3 : ((Int32.ofInt (k : Int) &&& 31).toBitVec.smod 32).toNat = k := by
      have : ∀ k : Fin 31, ((Int32.ofInt ((k.val : Nat) : Int) &&& 31).toBitVec.smod 32).toNat = k.val := by decide +kernel
      exact this ⟨k, h⟩
    show 1#32 <<< (((Int32.ofInt (k : Int) &&& 31).toBitVec.smod 32).toNat) = _
    rw [e3]
  rw [BitVec.getLsbD_or, e1, BitVec.getLsbD_shiftLeft, BitVec.getLsbD_one]
  by_cases hjk : j = k
  · subst hjk
    simp [hj]
  · rw [if_neg hjk]
    by_cases hlt : j < k
    · simp [hlt]
    · have : ¬ j - k = 0 := by omega
      simp [this]
theorem h63 {h : Int} (h0 : 0 ≤ h) (h1 : h ≤ 1023) : miand h 63 = h % 64 := by
  have t : ∀ k : Fin 1024, miand ((k.val : Nat) : Int) 63 = ((k.val : Nat) : Int) % 64 := by decide +kernel
  have := t ⟨h.toNat, by omega⟩
  rw [show (((⟨h.toNat, by omega⟩ : Fin 1024).val : Nat) : Int) = h by show ((h.toNat : Nat) : Int) = h; omega] at this
  exact this
-- has and add of a set of hours
theorem has_iff {d : mD} {x h : Int} (h0 : 0 ≤ h) (h1 : h ≤ 999) : v_6 x h d = if lb (d (x + 1) (h / 64)) (h % 64).toNat = true then 1 else 0 := by
  unfold v_6
  rw [if_neg (by omega), if_neg (by omega)]
  have e6 : mishr h 6 = h / 64 := by rcases mishr6_r h with a | a | a <;> omega
  rw [e6, h63 h0 (by omega), show h % 64 = (((h % 64).toNat : Nat) : Int) by omega, lbget _ _ (by omega)]
  simp only [Int.toNat_natCast]
  unfold mcmp
  split <;> simp
theorem has_out {d : mD} {x h : Int} (h0 : h < 0 ∨ 999 < h) : v_6 x h d = 0 := by
  unfold v_6
  rcases h0 with h0 | h0
  · rw [if_pos h0]
  · rw [if_neg (by omega), if_pos h0]
theorem has_01 (d : mD) (x h : Int) : v_6 x h d = 0 ∨ v_6 x h d = 1 := by
  unfold v_6
  repeat' split
  all_goals first
    | exact Or.inl rfl
    | exact Or.inr rfl
theorem add_has {d : mD} {x h j : Int} (h0 : 0 ≤ h) (h1 : h ≤ 999) (j0 : 0 ≤ j) (j1 : j ≤ 999) : v_6 x j (g_7 x h d) = if j = h then 1 else v_6 x j d := by
  have e6 : mishr h 6 = h / 64 := by rcases mishr6_r h with a | a | a <;> omega
  have eg : g_7 x h d = mset d (x + 1) (h / 64) (mlor (d (x + 1) (h / 64)) (mlshl 1 (((h % 64).toNat : Nat) : Int))) := by
    unfold g_7
    rw [if_neg (by omega), if_neg (by omega), e6, h63 h0 (by omega), show (((h % 64).toNat : Nat) : Int) = h % 64 by omega]
  rw [has_iff j0 j1, has_iff j0 j1, eg]
  by_cases hw : j / 64 = h / 64
  · have e : mset d (x + 1) (h / 64) (mlor (d (x + 1) (h / 64)) (mlshl 1 (((h % 64).toNat : Nat) : Int))) (x + 1) (j / 64) = mlor (d (x + 1) (h / 64)) (mlshl 1 (((h % 64).toNat : Nat) : Int)) := by
      simp [mset, hw]
    rw [e, lset _ _ _ (by omega) (by omega)]
    by_cases hj : j = h
    · subst hj
      simp
    · rw [if_neg (show ¬ (j % 64).toNat = (h % 64).toNat by omega), if_neg hj, hw]
  · have e : mset d (x + 1) (h / 64) (mlor (d (x + 1) (h / 64)) (mlshl 1 (((h % 64).toNat : Nat) : Int))) (x + 1) (j / 64) = d (x + 1) (j / 64) := by
      simp [mset, hw]
    rw [e, if_neg (show ¬ j = h by intro e; subst e; exact hw rfl)]
/-! ===== what a state of the class has to do with a row of the reference ===== -/
-- a name: five bits a letter in the class, base 27 in the reference
def nm (c : Int) : Int := c % 32 + 27 * (c / 32 % 32 + 27 * (c / 1024 % 32 + 27 * (c / 32768 % 32 + 27 * (c / 1048576 % 32 + 27 * (c / 33554432 % 32)))))
def okN (c : Int) : Prop := 0 < c ∧ c < 1073741824 ∧ (1 ≤ c % 32 ∧ c % 32 ≤ 26) ∧ c / 32 % 32 ≤ 26 ∧ c / 1024 % 32 ≤ 26 ∧ c / 32768 % 32 ≤ 26 ∧ c / 1048576 % 32 ≤ 26 ∧ c / 33554432 % 32 ≤ 26
  ∧ (c / 32 % 32 = 0 → c / 1024 % 32 = 0) ∧ (c / 1024 % 32 = 0 → c / 32768 % 32 = 0) ∧ (c / 32768 % 32 = 0 → c / 1048576 % 32 = 0) ∧ (c / 1048576 % 32 = 0 → c / 33554432 % 32 = 0)
theorem nm_inj {a b : Int} (ha : okN a) (hb : okN b) (h : nm a = nm b) : a = b := by
  unfold okN at ha hb
  unfold nm at h
  omega
theorem nm_pos {a : Int} (ha : okN a) : 0 < nm a := by
  unfold okN at ha
  unfold nm
  omega
def perO (w : Row) (k : Int) : Int := w (452 + 24 * w (1916 + 5 * k + 1) + 0)
def madeR (w : Row) (p : Int) : Int := csum (fun k => if perO w k = p ∧ w (1916 + 5 * k + 4) / 20 = w 0 / 20 then 1 else 0) (w 10).toNat
def attd (w : Row) (t p : Int) : Prop := 0 < w (452 + 24 * t + 8 + p) ∧ (w (452 + 24 * t + 8 + p) - 1) / 20 = w 0 / 20
def attR (w : Row) (p : Int) : Int := csum (fun t => if 0 < w (452 + 24 * t + 8 + p) ∧ (w (452 + 24 * t + 8 + p) - 1) / 20 = w 0 / 20 then 1 else 0) (w 9).toNat
def RelA (s : Int) (d : mD) (w : Row) : Prop := d s 1 = w 1 ∧ d s 2 = w 0 ∧ ∀ k, 0 ≤ k → k < 5 → d (s + 1) k = w (2 + k)
def RelO (s : Int) (d : mD) (w : Row) : Prop := d (s + 2) 0 = w 7 ∧ ∀ o, 0 ≤ o → o < w 7 → (okN (d (s + 3) o) ∧ nm (d (s + 3) o) = w (12 + 68 * o + 0)) ∧ d (s + 4) o = w (12 + 68 * o + 1) ∧ d (s + 5) o = w (12 + 68 * o + 2) ∧ d (s + 6) o = w (12 + 68 * o + 3) ∧ d (s + 7) o = w (12 + 68 * o + 4) ∧ d (s + 8) o = w (12 + 68 * o + 5)
def RelQ (s : Int) (d : mD) (w : Row) : Prop := ∀ o, 0 ≤ o → o < w 7 → ∀ k, 0 ≤ k → k < w (12 + 68 * o + 5) → d (s + 9) (o * 16 + k) = w (12 + 68 * o + 7 + k)
def RelP (s : Int) (d : mD) (w : Row) : Prop := d (s + 10) 0 = w 8 ∧ ∀ p, 0 ≤ p → p < w 8 → (okN (d (s + 11) p) ∧ nm (d (s + 11) p) = w (420 + 2 * p + 0)) ∧ d (s + 12) p = w (420 + 2 * p + 1)
def RelT (s : Int) (d : mD) (w : Row) : Prop := d (s + 49) 0 = w 9 ∧ ∀ t, 0 ≤ t → t < w 9 → d (s + 50) t = w (452 + 24 * t + 0) ∧ d (s + 51) t = w (452 + 24 * t + 1) ∧ d (s + 52) t = w (452 + 24 * t + 2) ∧ d (s + 53) t = w (452 + 24 * t + 3) ∧ d (s + 54) t = w (452 + 24 * t + 4)
def RelC (s : Int) (d : mD) (w : Row) : Prop := ∀ t, 0 ≤ t → t < w 9 → d (s + 55) t = w (452 + 24 * t + 5) + w (452 + 24 * t + 6) ∧ w (452 + 24 * t + 7) = csum (fun p => if w (452 + 24 * t + 8 + p) = 0 then 0 else 1) 16 ∧ (∀ p, 0 ≤ p → p < 16 → (ib (d (s + 56) t) p.toNat = true ↔ ¬ w (452 + 24 * t + 8 + p) = 0)) ∧ 0 ≤ d (s + 56) t ∧ d (s + 56) t < 65536
def RelK (s : Int) (d : mD) (w : Row) : Prop := d (s + 57) 0 = w 10 ∧ ∀ k, 0 ≤ k → k < w 10 → d (s + 58) k = w (1916 + 5 * k + 0) ∧ d (s + 59) k = w (1916 + 5 * k + 1) ∧ d (s + 60) k = w (1916 + 5 * k + 2) ∧ d (s + 61) k = w (1916 + 5 * k + 3)
def RelR (s : Int) (d : mD) (w : Row) : Prop := d (s + 57) 5 = w 11 ∧ ∀ k, 0 ≤ k → k < w 11 → d (s + 62) k = w (2916 + k)
def RelB (s : Int) (d : mD) (w : Row) : Prop := ∀ p, 0 ≤ p → p < w 8 → d (s + 13) p = madeR w p ∧ d (s + 14) p = attR w p ∧ ∀ q, 0 ≤ q → q < 16 → (ib (d (s + 15) p) q.toNat = true ↔ ∃ t, 0 ≤ t ∧ t < w 9 ∧ w (452 + 24 * t + 0) = q ∧ attd w t p)
def RelH (s : Int) (d : mD) (w : Row) : Prop := ∀ p, 0 ≤ p → p < w 8 → ∀ h, 0 ≤ h → h ≤ 999 → (lb (d (s + 18 + 2 * p) (h / 64)) (h % 64).toNat = true ↔ ∃ k, 0 ≤ k ∧ k < w 10 ∧ w (1916 + 5 * k + 2) = h ∧ perO w k = p)
-- the row alone: the numbers
def GN (w : Row) : Prop := (0 ≤ w 7 ∧ w 7 ≤ 6) ∧ (0 ≤ w 8 ∧ w 8 ≤ 16) ∧ (0 ≤ w 9 ∧ w 9 ≤ 60) ∧ (0 ≤ w 10 ∧ w 10 ≤ 200) ∧ (0 ≤ w 11 ∧ w 11 ≤ 200) ∧ (0 ≤ w 0 ∧ w 0 ≤ 1199) ∧ (0 ≤ w 1 ∧ w 1 ≤ 99999) ∧ (0 ≤ w 2 ∧ w 2 ≤ 9) ∧ (0 ≤ w 3 ∧ w 3 ≤ 3) ∧ (1 ≤ w 4 ∧ w 4 ≤ 9) ∧ (1 ≤ w 5 ∧ w 5 ≤ 20) ∧ 1 ≤ w 6 ∧ w 6 ≤ 99
-- offices
def GO (w : Row) : Prop := ∀ o, 0 ≤ o → o < w 7 → (1 ≤ w (12 + 68 * o + 1) ∧ w (12 + 68 * o + 1) ≤ 4) ∧ (1 ≤ w (12 + 68 * o + 2) ∧ w (12 + 68 * o + 2) ≤ 6) ∧ (1 ≤ w (12 + 68 * o + 3) ∧ w (12 + 68 * o + 3) ≤ 20) ∧ (w (12 + 68 * o + 4) = 0 ∨ w (12 + 68 * o + 4) = 1) ∧ (0 ≤ w (12 + 68 * o + 5) ∧ w (12 + 68 * o + 5) ≤ 16) ∧ (w (12 + 68 * o + 4) = 0 → w (12 + 68 * o + 5) = 0)
  ∧ w (12 + 68 * o + 6) = csum (fun t => if w (452 + 24 * t + 4) = 1 ∧ w (452 + 24 * t + 1) = o then 1 else 0) (w 9).toNat
-- queues
def GQ (w : Row) : Prop := ∀ o, 0 ≤ o → o < w 7 → ∀ k, 0 ≤ k → k < w (12 + 68 * o + 5) → (0 ≤ w (12 + 68 * o + 7 + k) ∧ w (12 + 68 * o + 7 + k) < w 9) ∧ w (452 + 24 * w (12 + 68 * o + 7 + k) + 1) = o ∧ w (452 + 24 * w (12 + 68 * o + 7 + k) + 4) = 0
  ∧ ∀ i, 0 ≤ i → i < k → w (452 + 24 * w (12 + 68 * o + 7 + i) + 2) ≤ w (452 + 24 * w (12 + 68 * o + 7 + k) + 2) ∧ ¬ w (452 + 24 * w (12 + 68 * o + 7 + i) + 0) = w (452 + 24 * w (12 + 68 * o + 7 + k) + 0)
-- tickets
def GT (w : Row) : Prop := ∀ t, 0 ≤ t → t < w 9 → (0 ≤ w (452 + 24 * t + 0) ∧ w (452 + 24 * t + 0) < w 8) ∧ (0 ≤ w (452 + 24 * t + 1) ∧ w (452 + 24 * t + 1) < w 7) ∧ (0 ≤ w (452 + 24 * t + 2) ∧ w (452 + 24 * t + 2) ≤ w 0) ∧ (0 ≤ w (452 + 24 * t + 4) ∧ w (452 + 24 * t + 4) ≤ 2)
  ∧ (w (452 + 24 * t + 4) = 0 → w (452 + 24 * t + 3) = -1 ∧ ∃ k, 0 ≤ k ∧ k < w (12 + 68 * w (452 + 24 * t + 1) + 5) ∧ w (12 + 68 * w (452 + 24 * t + 1) + 7 + k) = t)
  ∧ (¬ w (452 + 24 * t + 4) = 0 → w (452 + 24 * t + 2) ≤ w (452 + 24 * t + 3) ∧ w (452 + 24 * t + 3) ≤ w 0)
-- claims and witnesses
def GC (w : Row) : Prop := ∀ t, 0 ≤ t → t < w 9 → (w (452 + 24 * t + 5) = 0 ∨ w (452 + 24 * t + 5) = 1) ∧ (w (452 + 24 * t + 6) = 0 ∨ w (452 + 24 * t + 6) = 1) ∧ (w (452 + 24 * t + 6) = 1 → w (452 + 24 * t + 5) = 1 ∧ w (452 + 24 * t + 3) ≤ 999) ∧ (w (452 + 24 * t + 5) = 1 → w (452 + 24 * t + 4) = 1) ∧ ∀ p, 0 ≤ p → p < 16 → 0 ≤ w (452 + 24 * t + 8 + p) ∧ w (452 + 24 * t + 8 + p) ≤ w 0 + 1
-- tokens
def GK (w : Row) : Prop := ∀ k, 0 ≤ k → k < w 10 → (0 ≤ w (1916 + 5 * k + 0) ∧ w (1916 + 5 * k + 0) < w 8) ∧ (0 ≤ w (1916 + 5 * k + 1) ∧ w (1916 + 5 * k + 1) < w 9) ∧ (0 ≤ w (1916 + 5 * k + 2) ∧ w (1916 + 5 * k + 2) ≤ 999) ∧ (0 ≤ w (1916 + 5 * k + 3) ∧ w (1916 + 5 * k + 3) ≤ 2) ∧ (0 ≤ w (1916 + 5 * k + 4) ∧ w (1916 + 5 * k + 4) ≤ w 0)
  ∧ ∀ i, 0 ≤ i → i < k → ¬ (w (1916 + 5 * i + 2) = w (1916 + 5 * k + 2) ∧ perO w i = perO w k)
-- the row of offered tokens
def GR (w : Row) : Prop := w 11 = csum (fun k => if w (1916 + 5 * k + 3) = 1 then 1 else 0) (w 10).toNat ∧ ∀ k, 0 ≤ k → k < w 11 → (0 ≤ w (2916 + k) ∧ w (2916 + k) < w 10) ∧ w (1916 + 5 * w (2916 + k) + 3) = 1 ∧ ∀ i, 0 ≤ i → i < k → ¬ w (2916 + i) = w (2916 + k)
def GG (w : Row) : Prop := GN w ∧ GO w ∧ GQ w ∧ GT w ∧ GC w ∧ GK w ∧ GR w
def Rel (s : Int) (d : mD) (w : Row) : Prop := RelA s d w ∧ RelO s d w ∧ RelQ s d w ∧ RelP s d w ∧ RelT s d w ∧ RelC s d w ∧ RelK s d w ∧ RelR s d w ∧ RelB s d w ∧ RelH s d w
-- two states of the class that are the same as far as they are looked at
def CEq (s : Int) (d : mD) (s' : Int) (d' : mD) : Prop := (d' s' 1 = d s 1 ∧ d' s' 2 = d s 2 ∧ ∀ k, 0 ≤ k → k < 5 → d' (s' + 1) k = d (s + 1) k)
  ∧ (d' (s' + 2) 0 = d (s + 2) 0 ∧ ∀ o, 0 ≤ o → o < 6 → d' (s' + 3) o = d (s + 3) o ∧ d' (s' + 4) o = d (s + 4) o ∧ d' (s' + 5) o = d (s + 5) o ∧ d' (s' + 6) o = d (s + 6) o ∧ d' (s' + 7) o = d (s + 7) o ∧ d' (s' + 8) o = d (s + 8) o)
  ∧ (∀ i, 0 ≤ i → i < 96 → d' (s' + 9) i = d (s + 9) i)
  ∧ (d' (s' + 10) 0 = d (s + 10) 0 ∧ ∀ p, 0 ≤ p → p < 16 → d' (s' + 11) p = d (s + 11) p ∧ d' (s' + 12) p = d (s + 12) p ∧ d' (s' + 13) p = d (s + 13) p ∧ d' (s' + 14) p = d (s + 14) p ∧ d' (s' + 15) p = d (s + 15) p)
  ∧ (∀ p, 0 ≤ p → p < d (s + 10) 0 → ∀ i, 0 ≤ i → i < 16 → d' (s' + 18 + 2 * p) i = d (s + 18 + 2 * p) i)
  ∧ (d' (s' + 49) 0 = d (s + 49) 0 ∧ ∀ t, 0 ≤ t → t < d (s + 49) 0 → d' (s' + 50) t = d (s + 50) t ∧ d' (s' + 51) t = d (s + 51) t ∧ d' (s' + 52) t = d (s + 52) t ∧ d' (s' + 53) t = d (s + 53) t ∧ d' (s' + 54) t = d (s + 54) t ∧ d' (s' + 55) t = d (s + 55) t ∧ d' (s' + 56) t = d (s + 56) t)
  ∧ (d' (s' + 57) 0 = d (s + 57) 0 ∧ ∀ k, 0 ≤ k → k < d (s + 57) 0 → d' (s' + 58) k = d (s + 58) k ∧ d' (s' + 59) k = d (s + 59) k ∧ d' (s' + 60) k = d (s + 60) k ∧ d' (s' + 61) k = d (s + 61) k)
  ∧ (d' (s' + 57) 5 = d (s + 57) 5 ∧ ∀ k, 0 ≤ k → k < d (s + 57) 5 → d' (s' + 62) k = d (s + 62) k)
theorem Rel.cls {s s' : Int} {d d' : mD} {w : Row} (hn : GN w) (hg : GO w) (hc : CEq s d s' d') (h : Rel s d w) : Rel s' d' w := by
  obtain ⟨⟨a1, a2, a3⟩, ⟨o1, o2⟩, hq, ⟨p1, p2⟩, ⟨t1, t2⟩, hC, ⟨k1, k2⟩, ⟨r1, r2⟩, hB, hH⟩ := h
  obtain ⟨⟨c1, c2, c3⟩, ⟨c4, c5⟩, c6, ⟨c7, c8⟩, c9, ⟨c10, c11⟩, ⟨c12, c13⟩, c14, c15⟩ := hc
  obtain ⟨n7, n8, n9, n10, n11, -⟩ := hn
  refine ⟨⟨by rw [c1]; exact a1, by rw [c2]; exact a2, fun k x y => by rw [c3 k x y]; exact a3 k x y⟩, ⟨by rw [c4]; exact o1, fun o x y => ?_⟩, fun o x y k u v => ?_, ⟨by rw [c7]; exact p1, fun p x y => ?_⟩, ⟨by rw [c10]; exact t1, fun t x y => ?_⟩, fun t x y => ?_, ⟨by rw [c12]; exact k1, fun k x y => ?_⟩, ⟨by rw [c14]; exact r1, fun k x y => ?_⟩, fun p x y => ?_, fun p x y h0 u v => ?_⟩
  · obtain ⟨e1, e2, e3, e4, e5, e6⟩ := c5 o x (by omega)
    rw [e1, e2, e3, e4, e5, e6]
    exact o2 o x y
  · have g := hg o x y
    rw [c6 (o * 16 + k) (by omega) (by omega)]
    exact hq o x y k u v
  · obtain ⟨e1, e2, -⟩ := c8 p x (by omega)
    rw [e1, e2]
    exact p2 p x y
  · obtain ⟨e1, e2, e3, e4, e5, -⟩ := c11 t x (by omega)
    rw [e1, e2, e3, e4, e5]
    exact t2 t x y
  · obtain ⟨-, -, -, -, -, e6, e7⟩ := c11 t x (by omega)
    rw [e6, e7]
    exact hC t x y
  · obtain ⟨e1, e2, e3, e4⟩ := c13 k x (by omega)
    rw [e1, e2, e3, e4]
    exact k2 k x y
  · rw [c15 k x (by omega)]
    exact r2 k x y
  · obtain ⟨-, -, e3, e4, e5⟩ := c8 p x (by omega)
    rw [e3, e4, e5]
    exact hB p x y
  · rw [c9 p x (by omega) (h0 / 64) (by omega) (by omega)]
    exact hH p x y h0 u v
/-! ===== rows that are the same as far as they are looked at ===== -/
def REq (w w' : Row) : Prop := ∀ i, 0 ≤ i → i < 3116 → w' i = w i
theorem GN.row {w w' : Row} (e : REq w w') (h : GN w) : GN w' := by
  unfold GN at *
  rw [e 0 (by decide) (by decide), e 1 (by decide) (by decide), e 2 (by decide) (by decide), e 3 (by decide) (by decide), e 4 (by decide) (by decide), e 5 (by decide) (by decide), e 6 (by decide) (by decide), e 7 (by decide) (by decide), e 8 (by decide) (by decide), e 9 (by decide) (by decide), e 10 (by decide) (by decide), e 11 (by decide) (by decide)]
  exact h
theorem GO.row {w w' : Row} (e : REq w w') (hn : GN w) (h : GO w) : GO w' := by
  intro o x y
  obtain ⟨n7, n8, n9, n10, n11, -⟩ := hn
  rw [e 7 (by decide) (by decide)] at y
  have g := h o x y
  rw [e (12 + 68 * o + 1) (by omega) (by omega), e (12 + 68 * o + 2) (by omega) (by omega), e (12 + 68 * o + 3) (by omega) (by omega), e (12 + 68 * o + 4) (by omega) (by omega), e (12 + 68 * o + 5) (by omega) (by omega), e (12 + 68 * o + 6) (by omega) (by omega), e 9 (by decide) (by decide),
    csum_congr (f := fun t => if w' (452 + 24 * t + 4) = 1 ∧ w' (452 + 24 * t + 1) = o then 1 else 0) (g := fun t => if w (452 + 24 * t + 4) = 1 ∧ w (452 + 24 * t + 1) = o then 1 else 0) (fun t a b => by
      show (if w' (452 + 24 * t + 4) = 1 ∧ w' (452 + 24 * t + 1) = o then (1 : Int) else 0) = if w (452 + 24 * t + 4) = 1 ∧ w (452 + 24 * t + 1) = o then 1 else 0
      rw [e (452 + 24 * t + 4) (by omega) (by omega), e (452 + 24 * t + 1) (by omega) (by omega)])]
  exact g
theorem GQ.row {w w' : Row} (e : REq w w') (hn : GN w) (ho : GO w) (h : GQ w) : GQ w' := by
  intro o x y k u v
  obtain ⟨n7, n8, n9, n10, n11, -⟩ := hn
  rw [e 7 (by decide) (by decide)] at y
  have hO := ho o x y
  rw [e (12 + 68 * o + 5) (by omega) (by omega)] at v
  have g := h o x y k u v
  rw [e (12 + 68 * o + 7 + k) (by omega) (by omega), e 9 (by decide) (by decide), e (452 + 24 * w (12 + 68 * o + 7 + k) + 1) (by omega) (by omega), e (452 + 24 * w (12 + 68 * o + 7 + k) + 4) (by omega) (by omega)]
  refine ⟨g.1, g.2.1, g.2.2.1, fun i a b => ?_⟩
  have gi := h o x y i a (by omega)
  rw [e (12 + 68 * o + 7 + i) (by omega) (by omega), e (452 + 24 * w (12 + 68 * o + 7 + k) + 2) (by omega) (by omega), e (452 + 24 * w (12 + 68 * o + 7 + k) + 0) (by omega) (by omega), e (452 + 24 * w (12 + 68 * o + 7 + i) + 2) (by omega) (by omega), e (452 + 24 * w (12 + 68 * o + 7 + i) + 0) (by omega) (by omega)]
  exact g.2.2.2 i a b
theorem GT.row {w w' : Row} (e : REq w w') (hn : GN w) (ho : GO w) (h : GT w) : GT w' := by
  intro t x y
  obtain ⟨n7, n8, n9, n10, n11, -⟩ := hn
  rw [e 9 (by decide) (by decide)] at y
  have g := h t x y
  rw [e (452 + 24 * t + 0) (by omega) (by omega), e (452 + 24 * t + 1) (by omega) (by omega), e (452 + 24 * t + 2) (by omega) (by omega), e (452 + 24 * t + 3) (by omega) (by omega), e (452 + 24 * t + 4) (by omega) (by omega), e 0 (by decide) (by decide), e 7 (by decide) (by decide), e 8 (by decide) (by decide)]
  refine ⟨g.1, g.2.1, g.2.2.1, g.2.2.2.1, fun z => ?_, g.2.2.2.2.2⟩
  obtain ⟨g1, k, g2, g3, g4⟩ := g.2.2.2.2.1 z
  have hO := ho _ g.2.1.1 g.2.1.2
  exact ⟨g1, k, g2, by rw [e _ (by omega) (by omega)]; exact g3, by rw [e _ (by omega) (by omega)]; exact g4⟩
theorem GC.row {w w' : Row} (e : REq w w') (hn : GN w) (h : GC w) : GC w' := by
  intro t x y
  obtain ⟨n7, n8, n9, n10, n11, -⟩ := hn
  rw [e 9 (by decide) (by decide)] at y
  have g := h t x y
  rw [e (452 + 24 * t + 5) (by omega) (by omega), e (452 + 24 * t + 6) (by omega) (by omega), e (452 + 24 * t + 3) (by omega) (by omega), e (452 + 24 * t + 4) (by omega) (by omega), e 0 (by decide) (by decide)]
  exact ⟨g.1, g.2.1, g.2.2.1, g.2.2.2.1, fun p a b => by rw [e (452 + 24 * t + 8 + p) (by omega) (by omega)]; exact g.2.2.2.2 p a b⟩
theorem perO_row {w w' : Row} (e : REq w w') (hn : GN w) (hk : GK w) {k : Int} (h0 : 0 ≤ k) (h1 : k < w 10) : perO w' k = perO w k := by
  have g := hk k h0 h1
  obtain ⟨n7, n8, n9, n10, n11, -⟩ := hn
  unfold perO
  rw [e (1916 + 5 * k + 1) (by omega) (by omega), e _ (by omega) (by omega)]
theorem GK.row {w w' : Row} (e : REq w w') (hn : GN w) (h : GK w) : GK w' := by
  intro k x y
  rw [e 10 (by decide) (by decide)] at y
  have g := h k x y
  have p := perO_row e hn h x y
  obtain ⟨n7, n8, n9, n10, n11, -⟩ := id hn
  rw [e (1916 + 5 * k + 0) (by omega) (by omega), e (1916 + 5 * k + 1) (by omega) (by omega), e (1916 + 5 * k + 2) (by omega) (by omega), e (1916 + 5 * k + 3) (by omega) (by omega), e (1916 + 5 * k + 4) (by omega) (by omega), e 8 (by decide) (by decide), e 9 (by decide) (by decide), e 0 (by decide) (by decide), p]
  refine ⟨g.1, g.2.1, g.2.2.1, g.2.2.2.1, g.2.2.2.2.1, fun i a b => ?_⟩
  rw [e (1916 + 5 * i + 2) (by omega) (by omega), perO_row e hn h a (by omega)]
  exact g.2.2.2.2.2 i a b
theorem GR.row {w w' : Row} (e : REq w w') (hn : GN w) (h : GR w) : GR w' := by
  obtain ⟨n7, n8, n9, n10, n11, -⟩ := hn
  refine ⟨?_, fun k x y => ?_⟩
  · rw [e 11 (by decide) (by decide), e 10 (by decide) (by decide), h.1]
    refine csum_congr (fun k a b => ?_)
    rw [e (1916 + 5 * k + 3) (by omega) (by omega)]
  · rw [e 11 (by decide) (by decide)] at y
    have g := h.2 k x y
    rw [e (2916 + k) (by omega) (by omega), e 10 (by decide) (by decide), e _ (by omega) (by omega)]
    exact ⟨g.1, g.2.1, fun i a b => by rw [e (2916 + i) (by omega) (by omega)]; exact g.2.2 i a b⟩
theorem GG.row {w w' : Row} (e : REq w w') (h : GG w) : GG w' := by
  obtain ⟨a, b, c, d, f, g, k⟩ := h
  exact ⟨a.row e, b.row e a, c.row e a b, d.row e a b, f.row e a, g.row e a, k.row e a⟩
theorem madeR_row {w w' : Row} (e : REq w w') (hn : GN w) (hk : GK w) (p : Int) : madeR w' p = madeR w p := by
  unfold madeR
  rw [e 10 (by decide) (by decide)]
  refine csum_congr (fun k a b => ?_)
  have n10 := hn.2.2.2.1
  rw [perO_row e hn hk a (by omega), e (1916 + 5 * k + 4) (by omega) (by omega), e 0 (by decide) (by decide)]
theorem attR_row {w w' : Row} (e : REq w w') (hn : GN w) {p : Int} (h0 : 0 ≤ p) (h1 : p < 16) : attR w' p = attR w p := by
  unfold attR
  rw [e 9 (by decide) (by decide)]
  refine csum_congr (fun t a b => ?_)
  have n9 := hn.2.2.1
  rw [e (452 + 24 * t + 8 + p) (by omega) (by omega), e 0 (by decide) (by decide)]
theorem Rel.row {s : Int} {d : mD} {w w' : Row} (e : REq w w') (hg : GG w) (h : Rel s d w) : Rel s d w' := by
  obtain ⟨hN, hO, hQ, hT, hCC, hK, hR⟩ := hg
  obtain ⟨n7, n8, n9, n10, n11, -⟩ := id hN
  obtain ⟨⟨a1, a2, a3⟩, ⟨o1, o2⟩, hq, ⟨p1, p2⟩, ⟨t1, t2⟩, hC, ⟨k1, k2⟩, ⟨r1, r2⟩, hB, hH⟩ := h
  have e0 := e 0 (by decide) (by decide)
  have e7 := e 7 (by decide) (by decide)
  have e8 := e 8 (by decide) (by decide)
  have e9 := e 9 (by decide) (by decide)
  have e10 := e 10 (by decide) (by decide)
  have e11 := e 11 (by decide) (by decide)
  refine ⟨⟨by rw [e 1 (by decide) (by decide)]; exact a1, by rw [e0]; exact a2, fun k x y => by rw [e (2 + k) (by omega) (by omega)]; exact a3 k x y⟩, ⟨by rw [e7]; exact o1, fun o x y => ?_⟩, fun o x y k u v => ?_, ⟨by rw [e8]; exact p1, fun p x y => ?_⟩, ⟨by rw [e9]; exact t1, fun t x y => ?_⟩, fun t x y => ?_, ⟨by rw [e10]; exact k1, fun k x y => ?_⟩, ⟨by rw [e11]; exact r1, fun k x y => ?_⟩, fun p x y => ?_, fun p x y h0 u v => ?_⟩
  · rw [e7] at y
    rw [e (12 + 68 * o + 0) (by omega) (by omega), e (12 + 68 * o + 1) (by omega) (by omega), e (12 + 68 * o + 2) (by omega) (by omega), e (12 + 68 * o + 3) (by omega) (by omega), e (12 + 68 * o + 4) (by omega) (by omega), e (12 + 68 * o + 5) (by omega) (by omega)]
    exact o2 o x y
  · rw [e7] at y
    have g := hO o x y
    rw [e (12 + 68 * o + 5) (by omega) (by omega)] at v
    rw [e (12 + 68 * o + 7 + k) (by omega) (by omega)]
    exact hq o x y k u v
  · rw [e8] at y
    rw [e (420 + 2 * p + 0) (by omega) (by omega), e (420 + 2 * p + 1) (by omega) (by omega)]
    exact p2 p x y
  · rw [e9] at y
    rw [e (452 + 24 * t + 0) (by omega) (by omega), e (452 + 24 * t + 1) (by omega) (by omega), e (452 + 24 * t + 2) (by omega) (by omega), e (452 + 24 * t + 3) (by omega) (by omega), e (452 + 24 * t + 4) (by omega) (by omega)]
    exact t2 t x y
  · rw [e9] at y
    obtain ⟨g1, g2, g3, g4⟩ := hC t x y
    rw [e (452 + 24 * t + 5) (by omega) (by omega), e (452 + 24 * t + 6) (by omega) (by omega), e (452 + 24 * t + 7) (by omega) (by omega)]
    refine ⟨g1, ?_, fun p u v => by rw [e (452 + 24 * t + 8 + p) (by omega) (by omega)]; exact g3 p u v, g4⟩
    rw [g2]
    exact csum_congr (fun p u v => by rw [e (452 + 24 * t + 8 + p) (by omega) (by omega)])
  · rw [e10] at y
    rw [e (1916 + 5 * k + 0) (by omega) (by omega), e (1916 + 5 * k + 1) (by omega) (by omega), e (1916 + 5 * k + 2) (by omega) (by omega), e (1916 + 5 * k + 3) (by omega) (by omega)]
    exact k2 k x y
  · rw [e11] at y
    rw [e (2916 + k) (by omega) (by omega)]
    exact r2 k x y
  · rw [e8] at y
    obtain ⟨g1, g2, g3⟩ := hB p x y
    refine ⟨by rw [madeR_row e hN hK]; exact g1, by rw [attR_row e hN x (by omega)]; exact g2, fun q u v => (g3 q u v).trans ⟨?_, ?_⟩⟩
    · rintro ⟨t, z1, z2, z3, z4⟩
      refine ⟨t, z1, by rw [e9]; exact z2, by rw [e (452 + 24 * t + 0) (by omega) (by omega)]; exact z3, ?_⟩
      unfold attd at *
      rw [e (452 + 24 * t + 8 + p) (by omega) (by omega), e0]
      exact z4
    · rintro ⟨t, z1, z2, z3, z4⟩
      rw [e9] at z2
      rw [e (452 + 24 * t + 0) (by omega) (by omega)] at z3
      refine ⟨t, z1, z2, z3, ?_⟩
      unfold attd at *
      rw [e (452 + 24 * t + 8 + p) (by omega) (by omega), e0] at z4
      exact z4
  · rw [e8] at y
    refine (hH p x y h0 u v).trans ⟨?_, ?_⟩
    · rintro ⟨k, z1, z2, z3, z4⟩
      exact ⟨k, z1, by rw [e10]; exact z2, by rw [e (1916 + 5 * k + 2) (by omega) (by omega)]; exact z3, by rw [perO_row e hN hK z1 z2]; exact z4⟩
    · rintro ⟨k, z1, z2, z3, z4⟩
      rw [e10] at z2
      rw [e (1916 + 5 * k + 2) (by omega) (by omega)] at z3
      rw [perO_row e hN hK z1 z2] at z4
      exact ⟨k, z1, z2, z3, z4⟩
/-! ===== a state of the class is copied ===== -/
theorem c34l {x0 x1 : Int} (hx : ¬ x0 + 5 = x1 + 5) : ∀ (n : Nat) (x : Int) (d : mD), 0 ≤ x → 6 - x ≤ (n : Int) → (∀ b, ¬ b = x0 + 5 → lp_34_100 x0 x1 n x d b = d b) ∧ (∀ o, 0 ≤ o → o < x → lp_34_100 x0 x1 n x d (x0 + 5) o = d (x0 + 5) o) ∧ ∀ o, x ≤ o → o < 6 → lp_34_100 x0 x1 n x d (x0 + 5) o = d (x1 + 5) o := by
  intro n
  induction n with
  | zero =>
    intro x d h0 hn
    have e : lp_34_100 x0 x1 0 x d = d := by
      show st_34_100 x0 x1 _ x d = d
      unfold st_34_100
      rw [if_neg (by omega)]
    rw [e]
    exact ⟨fun _ _ => rfl, fun _ _ _ => rfl, fun o a b => by omega⟩
  | succ n ih =>
    intro x d h0 hn
    by_cases hc : x < 6
    · have e : lp_34_100 x0 x1 (n + 1) x d = lp_34_100 x0 x1 n (x + 1) (mset d (x0 + 5) x (d (x1 + 5) x)) := by
        show st_34_100 x0 x1 _ x d = _
        unfold st_34_100
        rw [if_pos hc]
      rw [e]
      obtain ⟨i1, i2, i3⟩ := ih (x + 1) (mset d (x0 + 5) x (d (x1 + 5) x)) (by omega) (by omega)
      refine ⟨fun b hb => by rw [i1 b hb]; funext j; exact ms_a hb, fun o a b => by rw [i2 o a (by omega), ms_i (by omega)], fun o a b => ?_⟩
      by_cases ho : o = x
      · rw [i2 o (by omega) (by omega), ms_e rfl ho, ho]
      · rw [i3 o (by omega) b, ms_a (by omega)]
    · have e : lp_34_100 x0 x1 (n + 1) x d = d := by
        show st_34_100 x0 x1 _ x d = d
        unfold st_34_100
        rw [if_neg hc]
      rw [e]
      exact ⟨fun _ _ => rfl, fun _ _ _ => rfl, fun o a b => by omega⟩
theorem c46l {x0 x1 : Int} (hx : x0 + 40 ≤ x1 ∨ x1 + 40 ≤ x0) : ∀ (n : Nat) (x : Int) (d : mD), 0 ≤ x → d x0 0 ≤ 16 → d x0 0 - x ≤ (n : Int) → (∀ b, (b < x0 + 8 + 2 * x ∨ x0 + 39 ≤ b) → lp_46_85 x0 x1 n x d b = d b) ∧ ∀ p, x ≤ p → p < d x0 0 → ∀ i, 0 ≤ i → i < 16 → lp_46_85 x0 x1 n x d (x0 + 8 + 2 * p) i = d (x1 + 8 + 2 * p) i := by
  intro n
  induction n with
  | zero =>
    intro x d h0 h16 hn
    have e : lp_46_85 x0 x1 0 x d = d := by
      show st_46_85 x0 x1 _ x d = d
      unfold st_46_85
      rw [if_neg (by omega)]
    rw [e]
    exact ⟨fun _ _ => rfl, fun o a b => by omega⟩
  | succ n ih =>
    intro x d h0 h16 hn
    by_cases hc : x < d x0 0
    · have e : lp_46_85 x0 x1 (n + 1) x d = lp_46_85 x0 x1 n (x + 1) (g_11 (x0 + 6 + (1 + 2 * x)) (x1 + 6 + (1 + 2 * x)) d) := by
        show st_46_85 x0 x1 _ x d = _
        unfold st_46_85
        rw [if_pos hc]
      rw [e]
      have e0 : g_11 (x0 + 6 + (1 + 2 * x)) (x1 + 6 + (1 + 2 * x)) d x0 0 = d x0 0 := by
        unfold g_11
        rw [mc_n (by omega)]
      obtain ⟨i1, i3⟩ := ih (x + 1) (g_11 (x0 + 6 + (1 + 2 * x)) (x1 + 6 + (1 + 2 * x)) d) (by omega) (by rw [e0]; exact h16) (by rw [e0]; omega)
      rw [e0] at i3
      refine ⟨fun b hb => ?_, fun p a b i u v => ?_⟩
      · rw [i1 b (by omega)]
        funext j
        unfold g_11
        rw [mc_n (by omega)]
      · by_cases ho : p = x
        · rw [i1 _ (by omega)]
          unfold g_11
          rw [mc_e (by omega) u v]
          congr 1
          omega
        · rw [i3 p (by omega) b i u v]
          unfold g_11
          rw [mc_n (by omega)]
    · have e : lp_46_85 x0 x1 (n + 1) x d = d := by
        show st_46_85 x0 x1 _ x d = d
        unfold st_46_85
        rw [if_neg hc]
      rw [e]
      exact ⟨fun _ _ => rfl, fun o a b => by omega⟩
-- each part of the copy: what it leaves, what it brings
theorem c34 {a s : Int} (hx : a + 63 ≤ s ∨ s + 63 ≤ a) (d : mD) : (∀ b, (b < a + 2 ∨ a + 9 < b) → g_34 (a + 2) (s + 2) d b = d b) ∧ g_34 (a + 2) (s + 2) d (a + 2) 0 = d (s + 2) 0 ∧ (∀ o, 0 ≤ o → o < 6 → g_34 (a + 2) (s + 2) d (a + 3) o = d (s + 3) o ∧ g_34 (a + 2) (s + 2) d (a + 4) o = d (s + 4) o ∧ g_34 (a + 2) (s + 2) d (a + 5) o = d (s + 5) o ∧ g_34 (a + 2) (s + 2) d (a + 6) o = d (s + 6) o ∧ g_34 (a + 2) (s + 2) d (a + 7) o = d (s + 7) o ∧ g_34 (a + 2) (s + 2) d (a + 8) o = d (s + 8) o) ∧ ∀ i, 0 ≤ i → i < 96 → g_34 (a + 2) (s + 2) d (a + 9) i = d (s + 9) i := by
  unfold g_34
  obtain ⟨i1, -, i3⟩ := c34l (x0 := a + 2) (x1 := s + 2) (by omega) (6 - 0 : Int).toNat 0 (mcopy (mcopy (mcopy (mcopy (mcopy (mcopy (mset d (a + 2) 0 (d (s + 2) 0)) (s + 2 + 1) 0 (a + 2 + 1) 0 6) (s + 2 + 2) 0 (a + 2 + 2) 0 6) (s + 2 + 3) 0 (a + 2 + 3) 0 6) (s + 2 + 4) 0 (a + 2 + 4) 0 6) (s + 2 + 6) 0 (a + 2 + 6) 0 6) (s + 2 + 7) 0 (a + 2 + 7) 0 96) (by decide) (by decide)
  simp only [Int.add_assoc, Int.reduceAdd] at i1 i3 ⊢
  refine ⟨fun b hb => ?_, ?_, fun o x y => ⟨?_, ?_, ?_, ?_, ?_, ?_⟩, fun i x y => ?_⟩
  · rw [i1 b (by omega)]
    funext j
    simp (disch := omega) only [mc_n, ms_a]
  · rw [i1 _ (by omega)]
    simp (disch := omega) only [mc_n, ms_e]
  · rw [i1 _ (by omega)]
    simp (disch := omega) only [mc_e, mc_n, ms_a]
  · rw [i1 _ (by omega)]
    simp (disch := omega) only [mc_e, mc_n, ms_a]
  · rw [i1 _ (by omega)]
    simp (disch := omega) only [mc_e, mc_n, ms_a]
  · rw [i1 _ (by omega)]
    simp (disch := omega) only [mc_e, mc_n, ms_a]
  · rw [i3 o x y]
    simp (disch := omega) only [mc_e, mc_n, ms_a]
  · rw [i1 _ (by omega)]
    simp (disch := omega) only [mc_e, mc_n, ms_a]
  · rw [i1 _ (by omega)]
    simp (disch := omega) only [mc_e, mc_n, ms_a]
theorem c46 {a s : Int} (hx : a + 63 ≤ s ∨ s + 63 ≤ a) (d : mD) (h16 : d (s + 10) 0 ≤ 16) : (∀ b, (b < a + 10 ∨ a + 50 ≤ b) → g_46 (a + 10) (s + 10) d b = d b) ∧ g_46 (a + 10) (s + 10) d (a + 49) = d (a + 49) ∧ g_46 (a + 10) (s + 10) d (a + 10) 0 = d (s + 10) 0 ∧ (∀ p, 0 ≤ p → p < 16 → g_46 (a + 10) (s + 10) d (a + 11) p = d (s + 11) p ∧ g_46 (a + 10) (s + 10) d (a + 12) p = d (s + 12) p ∧ g_46 (a + 10) (s + 10) d (a + 13) p = d (s + 13) p ∧ g_46 (a + 10) (s + 10) d (a + 14) p = d (s + 14) p ∧ g_46 (a + 10) (s + 10) d (a + 15) p = d (s + 15) p) ∧ ∀ p, 0 ≤ p → p < d (s + 10) 0 → ∀ i, 0 ≤ i → i < 16 → g_46 (a + 10) (s + 10) d (a + 18 + 2 * p) i = d (s + 18 + 2 * p) i := by
  unfold g_46
  have e0 : (mcopy (mcopy (mcopy (mcopy (mcopy (mset d (a + 10) 0 (d (s + 10) 0)) (s + 10 + 1) 0 (a + 10 + 1) 0 16) (s + 10 + 2) 0 (a + 10 + 2) 0 16) (s + 10 + 3) 0 (a + 10 + 3) 0 16) (s + 10 + 4) 0 (a + 10 + 4) 0 16) (s + 10 + 5) 0 (a + 10 + 5) 0 16) (a + 10) 0 = d (s + 10) 0 := by
    simp (disch := omega) only [mc_n, ms_e]
  obtain ⟨i1, i3⟩ := c46l (x0 := a + 10) (x1 := s + 10) (by omega) (16 - 0 : Int).toNat 0 (mcopy (mcopy (mcopy (mcopy (mcopy (mset d (a + 10) 0 (d (s + 10) 0)) (s + 10 + 1) 0 (a + 10 + 1) 0 16) (s + 10 + 2) 0 (a + 10 + 2) 0 16) (s + 10 + 3) 0 (a + 10 + 3) 0 16) (s + 10 + 4) 0 (a + 10 + 4) 0 16) (s + 10 + 5) 0 (a + 10 + 5) 0 16) (by decide) (by rw [e0]; exact h16) (by rw [e0, show (((16 - 0 : Int).toNat : Nat) : Int) = 16 by decide]; omega)
  rw [e0] at i3
  simp only [Int.add_assoc, Int.reduceAdd] at i1 i3 ⊢
  refine ⟨fun b hb => ?_, ?_, ?_, fun o x y => ⟨?_, ?_, ?_, ?_, ?_⟩, fun p x y i u v => ?_⟩
  · rw [i1 b (by omega)]
    funext j
    simp (disch := omega) only [mc_n, ms_a]
  · rw [i1 _ (by omega)]
    funext j
    simp (disch := omega) only [mc_n, ms_a]
  · rw [i1 _ (by omega)]
    simp (disch := omega) only [mc_n, ms_e]
  · rw [i1 _ (by omega)]
    simp (disch := omega) only [mc_e, mc_n, ms_a]
  · rw [i1 _ (by omega)]
    simp (disch := omega) only [mc_e, mc_n, ms_a]
  · rw [i1 _ (by omega)]
    simp (disch := omega) only [mc_e, mc_n, ms_a]
  · rw [i1 _ (by omega)]
    simp (disch := omega) only [mc_e, mc_n, ms_a]
  · rw [i1 _ (by omega)]
    simp (disch := omega) only [mc_e, mc_n, ms_a]
  · rw [i3 p x y i u v]
    simp (disch := omega) only [mc_e, mc_n, ms_a]
theorem c95 {a s : Int} (hx : a + 63 ≤ s ∨ s + 63 ≤ a) (d : mD) : (∀ b, (b < a + 49 ∨ a + 56 < b) → g_95 (a + 49) (s + 49) d b = d b) ∧ g_95 (a + 49) (s + 49) d (a + 49) 0 = d (s + 49) 0 ∧ ∀ t, 0 ≤ t → t < d (s + 49) 0 → g_95 (a + 49) (s + 49) d (a + 50) t = d (s + 50) t ∧ g_95 (a + 49) (s + 49) d (a + 51) t = d (s + 51) t ∧ g_95 (a + 49) (s + 49) d (a + 52) t = d (s + 52) t ∧ g_95 (a + 49) (s + 49) d (a + 53) t = d (s + 53) t ∧ g_95 (a + 49) (s + 49) d (a + 54) t = d (s + 54) t ∧ g_95 (a + 49) (s + 49) d (a + 55) t = d (s + 55) t ∧ g_95 (a + 49) (s + 49) d (a + 56) t = d (s + 56) t := by
  unfold g_95
  simp only [Int.add_assoc, Int.reduceAdd]
  refine ⟨fun b hb => ?_, ?_, fun t x y => ⟨?_, ?_, ?_, ?_, ?_, ?_, ?_⟩⟩
  · funext j
    simp (disch := omega) only [mc_n, ms_a]
  all_goals simp (disch := omega) only [mc_e, mc_n, ms_a, ms_e]
theorem c108 {a s : Int} (hx : a + 63 ≤ s ∨ s + 63 ≤ a) (d : mD) : (∀ b, (b < a + 57 ∨ a + 62 < b) → g_108 (a + 57) (s + 57) d b = d b) ∧ g_108 (a + 57) (s + 57) d (a + 57) 0 = d (s + 57) 0 ∧ g_108 (a + 57) (s + 57) d (a + 57) 5 = d (s + 57) 5 ∧ (∀ k, 0 ≤ k → k < d (s + 57) 0 → g_108 (a + 57) (s + 57) d (a + 58) k = d (s + 58) k ∧ g_108 (a + 57) (s + 57) d (a + 59) k = d (s + 59) k ∧ g_108 (a + 57) (s + 57) d (a + 60) k = d (s + 60) k ∧ g_108 (a + 57) (s + 57) d (a + 61) k = d (s + 61) k) ∧ ∀ k, 0 ≤ k → k < d (s + 57) 5 → g_108 (a + 57) (s + 57) d (a + 62) k = d (s + 62) k := by
  unfold g_108
  simp only [Int.add_assoc, Int.reduceAdd]
  have e5 : (mcopy (mcopy (mcopy (mcopy (mset d (a + 57) 0 (d (s + 57) 0)) (s + 58) 0 (a + 58) 0 (d (s + 57) 0)) (s + 59) 0 (a + 59) 0 (d (s + 57) 0)) (s + 60) 0 (a + 60) 0 (d (s + 57) 0)) (s + 61) 0 (a + 61) 0 (d (s + 57) 0)) (s + 57) 5 = d (s + 57) 5 := by
    simp (disch := omega) only [mc_n, ms_a]
  rw [e5]
  refine ⟨fun b hb => ?_, ?_, ?_, fun t x y => ⟨?_, ?_, ?_, ?_⟩, fun k x y => ?_⟩
  · funext j
    simp (disch := omega) only [mc_n, ms_a]
  all_goals simp (disch := omega) only [mc_e, mc_n, ms_a, ms_i, ms_e]
theorem cpy {a s : Int} (hx : a + 63 ≤ s ∨ s + 63 ≤ a) (d : mD) (h16 : d (s + 10) 0 ≤ 16) : CEq s d a (g_59 a s d) := by
  unfold g_59
  have e1 : (mset (mset (mcopy d (s + 1) 0 (a + 1) 0 5) a 1 (d s 1)) a 2 (d s 2)) = (mset (mset (mcopy d (s + 1) 0 (a + 1) 0 5) a 1 (d s 1)) a 2 (d s 2)) := rfl
  generalize hd1 : (mset (mset (mcopy d (s + 1) 0 (a + 1) 0 5) a 1 (d s 1)) a 2 (d s 2)) = d1
  have f1 : ∀ b, (b < a ∨ a + 1 < b) → d1 b = d b := fun b hb => by
    rw [← hd1]
    funext j
    simp (disch := omega) only [mc_n, ms_a]
  obtain ⟨a1, a2, a3, a4⟩ := c34 hx d1
  generalize g_34 (a + 2) (s + 2) d1 = d2 at *
  obtain ⟨b1, b1', b2, b3, b4⟩ := c46 hx d2 (by rw [a1 _ (by omega), f1 _ (by omega)]; exact h16)
  generalize g_46 (a + 10) (s + 10) d2 = d3 at *
  obtain ⟨c1, c2, c3⟩ := c95 hx d3
  generalize g_95 (a + 49) (s + 49) d3 = d4 at *
  obtain ⟨e1, e2, e3, e4, e5⟩ := c108 hx d4
  generalize g_108 (a + 57) (s + 57) d4 = d5 at *
  have s2 : ∀ b, s ≤ b → b < s + 63 → d2 b = d b := fun b x y => by rw [a1 b (by omega), f1 b (by omega)]
  have s3 : ∀ b, s ≤ b → b < s + 63 → d3 b = d b := fun b x y => by rw [b1 b (by omega), s2 b x y]
  have s4 : ∀ b, s ≤ b → b < s + 63 → d4 b = d b := fun b x y => by rw [c1 b (by omega), s3 b x y]
  refine ⟨⟨?_, ?_, fun k x y => ?_⟩, ⟨?_, fun o x y => ?_⟩, fun i x y => ?_, ⟨?_, fun p x y => ?_⟩, fun p x y i u v => ?_, ⟨?_, fun t x y => ?_⟩, ⟨?_, fun k x y => ?_⟩, ?_, fun k x y => ?_⟩
  · rw [e1 _ (by omega), c1 _ (by omega), b1 _ (by omega), a1 _ (by omega), ← hd1]
    simp (disch := omega) only [ms_i, ms_e]
  · rw [e1 _ (by omega), c1 _ (by omega), b1 _ (by omega), a1 _ (by omega), ← hd1]
    simp (disch := omega) only [ms_e]
  · rw [e1 _ (by omega), c1 _ (by omega), b1 _ (by omega), a1 _ (by omega), ← hd1]
    simp (disch := omega) only [ms_a, mc_e]
  · rw [e1 _ (by omega), c1 _ (by omega), b1 _ (by omega), a2, f1 _ (by omega)]
  · obtain ⟨g1, g2, g3, g4, g5, g6⟩ := a3 o x y
    rw [e1 _ (by omega), e1 _ (by omega), e1 _ (by omega), e1 _ (by omega), e1 _ (by omega), e1 _ (by omega), c1 _ (by omega), c1 _ (by omega), c1 _ (by omega), c1 _ (by omega), c1 _ (by omega), c1 _ (by omega), b1 _ (by omega), b1 _ (by omega), b1 _ (by omega), b1 _ (by omega), b1 _ (by omega), b1 _ (by omega), g1, g2, g3, g4, g5, g6]
    rw [f1 _ (by omega), f1 _ (by omega), f1 _ (by omega), f1 _ (by omega), f1 _ (by omega), f1 _ (by omega)]
    exact ⟨rfl, rfl, rfl, rfl, rfl, rfl⟩
  · rw [e1 _ (by omega), c1 _ (by omega), b1 _ (by omega), a4 i x y, f1 _ (by omega)]
  · rw [e1 _ (by omega), c1 _ (by omega), b2, s2 _ (by omega) (by omega)]
  · obtain ⟨g1, g2, g3, g4, g5⟩ := b3 p x y
    rw [e1 _ (by omega), e1 _ (by omega), e1 _ (by omega), e1 _ (by omega), e1 _ (by omega), c1 _ (by omega), c1 _ (by omega), c1 _ (by omega), c1 _ (by omega), c1 _ (by omega), g1, g2, g3, g4, g5]
    rw [s2 _ (by omega) (by omega), s2 _ (by omega) (by omega), s2 _ (by omega) (by omega), s2 _ (by omega) (by omega), s2 _ (by omega) (by omega)]
    exact ⟨rfl, rfl, rfl, rfl, rfl⟩
  · rw [e1 _ (by omega), c1 _ (by omega), b4 p x (by rw [s2 _ (by omega) (by omega)]; exact y) i u v, s2 _ (by omega) (by omega)]
  · rw [e1 _ (by omega), c2, s3 _ (by omega) (by omega)]
  · obtain ⟨g1, g2, g3, g4, g5, g6, g7⟩ := c3 t x (by rw [s3 _ (by omega) (by omega)]; exact y)
    rw [e1 _ (by omega), e1 _ (by omega), e1 _ (by omega), e1 _ (by omega), e1 _ (by omega), e1 _ (by omega), e1 _ (by omega), g1, g2, g3, g4, g5, g6, g7]
    rw [s3 _ (by omega) (by omega), s3 _ (by omega) (by omega), s3 _ (by omega) (by omega), s3 _ (by omega) (by omega), s3 _ (by omega) (by omega), s3 _ (by omega) (by omega), s3 _ (by omega) (by omega)]
    exact ⟨rfl, rfl, rfl, rfl, rfl, rfl, rfl⟩
  · rw [e2, s4 _ (by omega) (by omega)]
  · obtain ⟨g1, g2, g3, g4⟩ := e4 k x (by rw [s4 _ (by omega) (by omega)]; exact y)
    rw [g1, g2, g3, g4]
    rw [s4 _ (by omega) (by omega), s4 _ (by omega) (by omega), s4 _ (by omega) (by omega), s4 _ (by omega) (by omega)]
    exact ⟨rfl, rfl, rfl, rfl⟩
  · rw [e3, s4 _ (by omega) (by omega)]
  · rw [e5 k x (by rw [s4 _ (by omega) (by omega)]; exact y), s4 _ (by omega) (by omega)]
/-! ===== each piece of the relation: what it looks at ===== -/
theorem GN.k {w w' : Row} (e : ∀ i, 0 ≤ i ∧ i ≤ 11 → w' i = w i) (h : GN w) : GN w' := by
  unfold GN at *
  rw [e 0 (by omega), e 1 (by omega), e 2 (by omega), e 3 (by omega), e 4 (by omega), e 5 (by omega), e 6 (by omega), e 7 (by omega), e 8 (by omega), e 9 (by omega), e 10 (by omega), e 11 (by omega)]
  exact h
theorem GO.k {w w' : Row} (e : ∀ i, i = 7 ∨ i = 9 ∨ (12 ≤ i ∧ i < 420 ∧ 1 ≤ (i - 12) % 68 ∧ (i - 12) % 68 ≤ 6) ∨ (452 ≤ i ∧ i < 1916 ∧ ((i - 452) % 24 = 1 ∨ (i - 452) % 24 = 4)) → w' i = w i) (hn : GN w) (h : GO w) : GO w' := by
  intro o x y
  obtain ⟨n7, n8, n9, n10, n11, -⟩ := hn
  rw [e 7 (by omega)] at y
  have g := h o x y
  rw [e (12 + 68 * o + 1) (by omega), e (12 + 68 * o + 2) (by omega), e (12 + 68 * o + 3) (by omega), e (12 + 68 * o + 4) (by omega), e (12 + 68 * o + 5) (by omega), e (12 + 68 * o + 6) (by omega), e 9 (by omega),
    csum_congr (f := fun t => if w' (452 + 24 * t + 4) = 1 ∧ w' (452 + 24 * t + 1) = o then 1 else 0) (g := fun t => if w (452 + 24 * t + 4) = 1 ∧ w (452 + 24 * t + 1) = o then 1 else 0) (fun t a b => by
      show (if w' (452 + 24 * t + 4) = 1 ∧ w' (452 + 24 * t + 1) = o then (1 : Int) else 0) = if w (452 + 24 * t + 4) = 1 ∧ w (452 + 24 * t + 1) = o then 1 else 0
      rw [e (452 + 24 * t + 4) (by omega), e (452 + 24 * t + 1) (by omega)])]
  exact g
theorem GQ.k {w w' : Row} (e : ∀ i, i = 7 ∨ i = 9 ∨ (12 ≤ i ∧ i < 420 ∧ 5 ≤ (i - 12) % 68 ∧ ¬ (i - 12) % 68 = 6) ∨ (452 ≤ i ∧ i < 1916 ∧ ((i - 452) % 24 ≤ 2 ∨ (i - 452) % 24 = 4)) → w' i = w i) (hn : GN w) (ho : GO w) (h : GQ w) : GQ w' := by
  intro o x y k u v
  obtain ⟨n7, n8, n9, n10, n11, -⟩ := hn
  rw [e 7 (by omega)] at y
  have hO := ho o x y
  rw [e (12 + 68 * o + 5) (by omega)] at v
  have g := h o x y k u v
  rw [e (12 + 68 * o + 7 + k) (by omega), e 9 (by omega), e (452 + 24 * w (12 + 68 * o + 7 + k) + 1) (by omega), e (452 + 24 * w (12 + 68 * o + 7 + k) + 4) (by omega)]
  refine ⟨g.1, g.2.1, g.2.2.1, fun i a b => ?_⟩
  have gi := h o x y i a (by omega)
  rw [e (12 + 68 * o + 7 + i) (by omega), e (452 + 24 * w (12 + 68 * o + 7 + k) + 2) (by omega), e (452 + 24 * w (12 + 68 * o + 7 + k) + 0) (by omega), e (452 + 24 * w (12 + 68 * o + 7 + i) + 2) (by omega), e (452 + 24 * w (12 + 68 * o + 7 + i) + 0) (by omega)]
  exact g.2.2.2 i a b
theorem GT.k {w w' : Row} (e : ∀ i, i = 0 ∨ i = 7 ∨ i = 8 ∨ i = 9 ∨ (12 ≤ i ∧ i < 420 ∧ 5 ≤ (i - 12) % 68 ∧ ¬ (i - 12) % 68 = 6) ∨ (452 ≤ i ∧ i < 1916 ∧ (i - 452) % 24 ≤ 4) → w' i = w i) (hn : GN w) (ho : GO w) (h : GT w) : GT w' := by
  intro t x y
  obtain ⟨n7, n8, n9, n10, n11, -⟩ := hn
  rw [e 9 (by omega)] at y
  have g := h t x y
  rw [e (452 + 24 * t + 0) (by omega), e (452 + 24 * t + 1) (by omega), e (452 + 24 * t + 2) (by omega), e (452 + 24 * t + 3) (by omega), e (452 + 24 * t + 4) (by omega), e 0 (by omega), e 7 (by omega), e 8 (by omega)]
  refine ⟨g.1, g.2.1, g.2.2.1, g.2.2.2.1, fun z => ?_, g.2.2.2.2.2⟩
  obtain ⟨g1, k, g2, g3, g4⟩ := g.2.2.2.2.1 z
  have hO := ho _ g.2.1.1 g.2.1.2
  exact ⟨g1, k, g2, by rw [e _ (by omega)]; exact g3, by rw [e _ (by omega)]; exact g4⟩
theorem GC.k {w w' : Row} (e : ∀ i, i = 0 ∨ i = 9 ∨ (452 ≤ i ∧ i < 1916 ∧ 3 ≤ (i - 452) % 24 ∧ ¬ (i - 452) % 24 = 7) → w' i = w i) (hn : GN w) (h : GC w) : GC w' := by
  intro t x y
  obtain ⟨n7, n8, n9, n10, n11, -⟩ := hn
  rw [e 9 (by omega)] at y
  have g := h t x y
  rw [e (452 + 24 * t + 5) (by omega), e (452 + 24 * t + 6) (by omega), e (452 + 24 * t + 3) (by omega), e (452 + 24 * t + 4) (by omega), e 0 (by omega)]
  exact ⟨g.1, g.2.1, g.2.2.1, g.2.2.2.1, fun p a b => by rw [e (452 + 24 * t + 8 + p) (by omega)]; exact g.2.2.2.2 p a b⟩
theorem perO_k {w w' : Row} (e : ∀ i, (1916 ≤ i ∧ i < 2916 ∧ (i - 1916) % 5 = 1) ∨ (452 ≤ i ∧ i < 1916 ∧ (i - 452) % 24 = 0) → w' i = w i) (h9 : 0 ≤ w 9 ∧ w 9 ≤ 60) (h10 : 0 ≤ w 10 ∧ w 10 ≤ 200) {k : Int} (h0 : 0 ≤ k) (h1 : k < w 10) (g : 0 ≤ w (1916 + 5 * k + 1) ∧ w (1916 + 5 * k + 1) < w 9) : perO w' k = perO w k := by
  unfold perO
  rw [e (1916 + 5 * k + 1) (by omega), e _ (by omega)]
theorem GK.k {w w' : Row} (e : ∀ i, i = 0 ∨ i = 8 ∨ i = 9 ∨ i = 10 ∨ (1916 ≤ i ∧ i < 2916) ∨ (452 ≤ i ∧ i < 1916 ∧ (i - 452) % 24 = 0) → w' i = w i) (hn : GN w) (h : GK w) : GK w' := by
  intro k x y
  rw [e 10 (by omega)] at y
  have g := h k x y
  obtain ⟨n7, n8, n9, n10, n11, -⟩ := id hn
  have p := perO_k (fun i hi => e i (by omega)) n9 n10 x y g.2.1
  rw [e (1916 + 5 * k + 0) (by omega), e (1916 + 5 * k + 1) (by omega), e (1916 + 5 * k + 2) (by omega), e (1916 + 5 * k + 3) (by omega), e (1916 + 5 * k + 4) (by omega), e 8 (by omega), e 9 (by omega), e 0 (by omega), p]
  refine ⟨g.1, g.2.1, g.2.2.1, g.2.2.2.1, g.2.2.2.2.1, fun i a b => ?_⟩
  rw [e (1916 + 5 * i + 2) (by omega), perO_k (fun i hi => e i (by omega)) n9 n10 a (by omega) (h i a (by omega)).2.1]
  exact g.2.2.2.2.2 i a b
theorem GK.k2 {w w' : Row} (e : ∀ i, i = 0 ∨ i = 8 ∨ i = 9 ∨ i = 10 ∨ (1916 ≤ i ∧ i < 2916 ∧ ¬ (i - 1916) % 5 = 0 ∧ ¬ (i - 1916) % 5 = 3) ∨ (452 ≤ i ∧ i < 1916 ∧ (i - 452) % 24 = 0) → w' i = w i) (hn : GN w) (hz : ∀ k, 0 ≤ k → k < w 10 → (0 ≤ w' (1916 + 5 * k + 0) ∧ w' (1916 + 5 * k + 0) < w 8) ∧ (0 ≤ w' (1916 + 5 * k + 3) ∧ w' (1916 + 5 * k + 3) ≤ 2)) (h : GK w) : GK w' := by
  intro k x y
  rw [e 10 (by omega)] at y
  have g := h k x y
  obtain ⟨n7, n8, n9, n10, n11, -⟩ := id hn
  have p := perO_k (fun i hi => e i (by omega)) n9 n10 x y g.2.1
  rw [e (1916 + 5 * k + 1) (by omega), e (1916 + 5 * k + 2) (by omega), e (1916 + 5 * k + 4) (by omega), e 8 (by omega), e 9 (by omega), e 0 (by omega), p]
  refine ⟨(hz k x y).1, g.2.1, g.2.2.1, (hz k x y).2, g.2.2.2.2.1, fun i a b => ?_⟩
  rw [e (1916 + 5 * i + 2) (by omega), perO_k (fun i hi => e i (by omega)) n9 n10 a (by omega) (h i a (by omega)).2.1]
  exact g.2.2.2.2.2 i a b
theorem GR.k {w w' : Row} (e : ∀ i, i = 10 ∨ i = 11 ∨ (1916 ≤ i ∧ i < 2916 ∧ (i - 1916) % 5 = 3) ∨ (2916 ≤ i ∧ i < 3116) → w' i = w i) (hn : GN w) (h : GR w) : GR w' := by
  obtain ⟨n7, n8, n9, n10, n11, -⟩ := hn
  refine ⟨?_, fun k x y => ?_⟩
  · rw [e 11 (by omega), e 10 (by omega), h.1]
    refine csum_congr (fun k a b => ?_)
    rw [e (1916 + 5 * k + 3) (by omega)]
  · rw [e 11 (by omega)] at y
    have g := h.2 k x y
    rw [e (2916 + k) (by omega), e 10 (by omega), e _ (by omega)]
    exact ⟨g.1, g.2.1, fun i a b => by rw [e (2916 + i) (by omega)]; exact g.2.2 i a b⟩
theorem RelA.k {s : Int} {d d' : mD} {w w' : Row} (hd : ∀ b, b = s ∨ b = s + 1 → d' b = d b) (e : ∀ i, 0 ≤ i ∧ i ≤ 6 → w' i = w i) (h : RelA s d w) : RelA s d' w' := by
  obtain ⟨a1, a2, a3⟩ := h
  refine ⟨by rw [hd s (Or.inl rfl), e 1 (by omega)]; exact a1, by rw [hd s (Or.inl rfl), e 0 (by omega)]; exact a2, fun k x y => by rw [hd (s + 1) (Or.inr rfl), e (2 + k) (by omega)]; exact a3 k x y⟩
theorem RelO.k {s : Int} {d d' : mD} {w w' : Row} (hd : ∀ b, s + 2 ≤ b → b ≤ s + 8 → d' b = d b) (e : ∀ i, i = 7 ∨ (12 ≤ i ∧ i < 420 ∧ (i - 12) % 68 ≤ 5) → w' i = w i) (h7 : 0 ≤ w 7 ∧ w 7 ≤ 6) (h : RelO s d w) : RelO s d' w' := by
  obtain ⟨o1, o2⟩ := h
  refine ⟨by rw [hd _ (by omega) (by omega), e 7 (by omega)]; exact o1, fun o x y => ?_⟩
  rw [e 7 (by omega)] at y
  rw [hd (s + 3) (by omega) (by omega), hd (s + 4) (by omega) (by omega), hd (s + 5) (by omega) (by omega), hd (s + 6) (by omega) (by omega), hd (s + 7) (by omega) (by omega), hd (s + 8) (by omega) (by omega), e (12 + 68 * o + 0) (by omega), e (12 + 68 * o + 1) (by omega), e (12 + 68 * o + 2) (by omega), e (12 + 68 * o + 3) (by omega), e (12 + 68 * o + 4) (by omega), e (12 + 68 * o + 5) (by omega)]
  exact o2 o x y
theorem RelQ.k {s : Int} {d d' : mD} {w w' : Row} (hd : d' (s + 9) = d (s + 9)) (e : ∀ i, i = 7 ∨ (12 ≤ i ∧ i < 420 ∧ 5 ≤ (i - 12) % 68 ∧ ¬ (i - 12) % 68 = 6) → w' i = w i) (h7 : 0 ≤ w 7 ∧ w 7 ≤ 6) (hO : GO w) (h : RelQ s d w) : RelQ s d' w' := by
  intro o x y k u v
  rw [e 7 (by omega)] at y
  have g := hO o x y
  rw [e (12 + 68 * o + 5) (by omega)] at v
  rw [hd, e (12 + 68 * o + 7 + k) (by omega)]
  exact h o x y k u v
theorem RelP.k {s : Int} {d d' : mD} {w w' : Row} (hd : ∀ b, s + 10 ≤ b → b ≤ s + 12 → d' b = d b) (e : ∀ i, i = 8 ∨ (420 ≤ i ∧ i < 452) → w' i = w i) (h8 : 0 ≤ w 8 ∧ w 8 ≤ 16) (h : RelP s d w) : RelP s d' w' := by
  obtain ⟨p1, p2⟩ := h
  refine ⟨by rw [hd _ (by omega) (by omega), e 8 (by omega)]; exact p1, fun p x y => ?_⟩
  rw [e 8 (by omega)] at y
  rw [hd (s + 11) (by omega) (by omega), hd (s + 12) (by omega) (by omega), e (420 + 2 * p + 0) (by omega), e (420 + 2 * p + 1) (by omega)]
  exact p2 p x y
theorem RelT.k {s : Int} {d d' : mD} {w w' : Row} (hd : ∀ b, s + 49 ≤ b → b ≤ s + 54 → d' b = d b) (e : ∀ i, i = 9 ∨ (452 ≤ i ∧ i < 1916 ∧ (i - 452) % 24 ≤ 4) → w' i = w i) (h9 : 0 ≤ w 9 ∧ w 9 ≤ 60) (h : RelT s d w) : RelT s d' w' := by
  obtain ⟨t1, t2⟩ := h
  refine ⟨by rw [hd _ (by omega) (by omega), e 9 (by omega)]; exact t1, fun t x y => ?_⟩
  rw [e 9 (by omega)] at y
  rw [hd (s + 50) (by omega) (by omega), hd (s + 51) (by omega) (by omega), hd (s + 52) (by omega) (by omega), hd (s + 53) (by omega) (by omega), hd (s + 54) (by omega) (by omega), e (452 + 24 * t + 0) (by omega), e (452 + 24 * t + 1) (by omega), e (452 + 24 * t + 2) (by omega), e (452 + 24 * t + 3) (by omega), e (452 + 24 * t + 4) (by omega)]
  exact t2 t x y
theorem RelC.k {s : Int} {d d' : mD} {w w' : Row} (hd : ∀ b, b = s + 55 ∨ b = s + 56 → d' b = d b) (e : ∀ i, i = 9 ∨ (452 ≤ i ∧ i < 1916 ∧ 5 ≤ (i - 452) % 24) → w' i = w i) (h9 : 0 ≤ w 9 ∧ w 9 ≤ 60) (h : RelC s d w) : RelC s d' w' := by
  intro t x y
  rw [e 9 (by omega)] at y
  obtain ⟨g1, g2, g3, g4⟩ := h t x y
  rw [hd (s + 55) (by omega), hd (s + 56) (by omega), e (452 + 24 * t + 5) (by omega), e (452 + 24 * t + 6) (by omega), e (452 + 24 * t + 7) (by omega)]
  refine ⟨g1, ?_, fun p u v => by rw [e (452 + 24 * t + 8 + p) (by omega)]; exact g3 p u v, g4⟩
  rw [g2]
  exact csum_congr (fun p u v => by rw [e (452 + 24 * t + 8 + p) (by omega)])
theorem RelK.k {s : Int} {d d' : mD} {w w' : Row} (hd0 : d' (s + 57) 0 = d (s + 57) 0) (hd : ∀ b, s + 58 ≤ b → b ≤ s + 61 → d' b = d b) (e : ∀ i, i = 10 ∨ (1916 ≤ i ∧ i < 2916 ∧ (i - 1916) % 5 ≤ 3) → w' i = w i) (h10 : 0 ≤ w 10 ∧ w 10 ≤ 200) (h : RelK s d w) : RelK s d' w' := by
  obtain ⟨k1, k2⟩ := h
  refine ⟨by rw [hd0, e 10 (by omega)]; exact k1, fun k x y => ?_⟩
  rw [e 10 (by omega)] at y
  rw [hd (s + 58) (by omega) (by omega), hd (s + 59) (by omega) (by omega), hd (s + 60) (by omega) (by omega), hd (s + 61) (by omega) (by omega), e (1916 + 5 * k + 0) (by omega), e (1916 + 5 * k + 1) (by omega), e (1916 + 5 * k + 2) (by omega), e (1916 + 5 * k + 3) (by omega)]
  exact k2 k x y
theorem RelR.k {s : Int} {d d' : mD} {w w' : Row} (hd5 : d' (s + 57) 5 = d (s + 57) 5) (hd : d' (s + 62) = d (s + 62)) (e : ∀ i, i = 11 ∨ (2916 ≤ i ∧ i < 3116) → w' i = w i) (h11 : 0 ≤ w 11 ∧ w 11 ≤ 200) (h : RelR s d w) : RelR s d' w' := by
  obtain ⟨r1, r2⟩ := h
  refine ⟨by rw [hd5, e 11 (by omega)]; exact r1, fun k x y => ?_⟩
  rw [e 11 (by omega)] at y
  rw [hd, e (2916 + k) (by omega)]
  exact r2 k x y
theorem ndB {t p : Int} (t0 : 0 ≤ t) (t1 : t < 60) (h0 : 0 ≤ p) (h1 : p < 16) : (452 + 24 * t + 8 + p) = 0 ∨ (452 + 24 * t + 8 + p) = 8 ∨ (452 + 24 * t + 8 + p) = 9 ∨ (452 + 24 * t + 8 + p) = 10 ∨ (452 ≤ (452 + 24 * t + 8 + p) ∧ (452 + 24 * t + 8 + p) < 1916 ∧ (((452 + 24 * t + 8 + p) - 452) % 24 = 0 ∨ 8 ≤ ((452 + 24 * t + 8 + p) - 452) % 24)) ∨ (1916 ≤ (452 + 24 * t + 8 + p) ∧ (452 + 24 * t + 8 + p) < 2916 ∧ (((452 + 24 * t + 8 + p) - 1916) % 5 = 1 ∨ ((452 + 24 * t + 8 + p) - 1916) % 5 = 4)) := Or.inr (Or.inr (Or.inr (Or.inr (Or.inl ⟨by omega, by omega, Or.inr (by omega)⟩))))
theorem madeR_k {w w' : Row} (e : ∀ i, i = 0 ∨ i = 8 ∨ i = 9 ∨ i = 10 ∨ (452 ≤ i ∧ i < 1916 ∧ ((i - 452) % 24 = 0 ∨ 8 ≤ (i - 452) % 24)) ∨ (1916 ≤ i ∧ i < 2916 ∧ ((i - 1916) % 5 = 1 ∨ (i - 1916) % 5 = 4)) → w' i = w i) (h9 : 0 ≤ w 9 ∧ w 9 ≤ 60) (h10 : 0 ≤ w 10 ∧ w 10 ≤ 200) (hK : ∀ k, 0 ≤ k → k < w 10 → 0 ≤ w (1916 + 5 * k + 1) ∧ w (1916 + 5 * k + 1) < w 9) (p : Int) : madeR w' p = madeR w p := by
  unfold madeR
  rw [e 10 (by omega)]
  refine csum_congr (fun k a b => ?_)
  rw [perO_k (fun i hi => e i (by omega)) h9 h10 a (by omega) (hK k a (by omega)), e (1916 + 5 * k + 4) (by omega), e 0 (by omega)]
theorem attR_k {w w' : Row} (e : ∀ i, i = 0 ∨ i = 8 ∨ i = 9 ∨ i = 10 ∨ (452 ≤ i ∧ i < 1916 ∧ ((i - 452) % 24 = 0 ∨ 8 ≤ (i - 452) % 24)) ∨ (1916 ≤ i ∧ i < 2916 ∧ ((i - 1916) % 5 = 1 ∨ (i - 1916) % 5 = 4)) → w' i = w i) (h9 : 0 ≤ w 9 ∧ w 9 ≤ 60) {p : Int} (h0 : 0 ≤ p) (h1 : p < 16) : attR w' p = attR w p := by
  unfold attR
  rw [e 9 (by omega)]
  refine csum_congr (fun t a b => ?_)
  rw [e (452 + 24 * t + 8 + p) (ndB (by omega) (by omega) (by omega) (by omega)), e 0 (by omega)]
theorem RelB.k {s : Int} {d d' : mD} {w w' : Row} (hd : ∀ b, s + 13 ≤ b → b ≤ s + 15 → d' b = d b) (e : ∀ i, i = 0 ∨ i = 8 ∨ i = 9 ∨ i = 10 ∨ (452 ≤ i ∧ i < 1916 ∧ ((i - 452) % 24 = 0 ∨ 8 ≤ (i - 452) % 24)) ∨ (1916 ≤ i ∧ i < 2916 ∧ ((i - 1916) % 5 = 1 ∨ (i - 1916) % 5 = 4)) → w' i = w i) (h8 : 0 ≤ w 8 ∧ w 8 ≤ 16) (h9 : 0 ≤ w 9 ∧ w 9 ≤ 60) (h10 : 0 ≤ w 10 ∧ w 10 ≤ 200) (hK : ∀ k, 0 ≤ k → k < w 10 → 0 ≤ w (1916 + 5 * k + 1) ∧ w (1916 + 5 * k + 1) < w 9) (h : RelB s d w) : RelB s d' w' := by
  intro p x y
  rw [e 8 (by omega)] at y
  obtain ⟨g1, g2, g3⟩ := h p x y
  rw [hd (s + 13) (by omega) (by omega), hd (s + 14) (by omega) (by omega), hd (s + 15) (by omega) (by omega)]
  refine ⟨by rw [madeR_k e h9 h10 hK]; exact g1, by rw [attR_k e h9 x (by omega)]; exact g2, fun q u v => (g3 q u v).trans ⟨?_, ?_⟩⟩
  · rintro ⟨t, z1, z2, z3, z4⟩
    refine ⟨t, z1, by rw [e 9 (by omega)]; exact z2, by rw [e (452 + 24 * t + 0) (by omega)]; exact z3, ?_⟩
    unfold attd at *
    rw [e (452 + 24 * t + 8 + p) (ndB (by omega) (by omega) (by omega) (by omega)), e 0 (by omega)]
    exact z4
  · rintro ⟨t, z1, z2, z3, z4⟩
    rw [e 9 (by omega)] at z2
    rw [e (452 + 24 * t + 0) (by omega)] at z3
    refine ⟨t, z1, z2, z3, ?_⟩
    unfold attd at *
    rw [e (452 + 24 * t + 8 + p) (ndB (by omega) (by omega) (by omega) (by omega)), e 0 (by omega)] at z4
    exact z4
theorem RelH.k {s : Int} {d d' : mD} {w w' : Row} (hd : ∀ b, s + 18 ≤ b → b ≤ s + 48 → d' b = d b) (e : ∀ i, i = 8 ∨ i = 10 ∨ (1916 ≤ i ∧ i < 2916 ∧ ((i - 1916) % 5 = 1 ∨ (i - 1916) % 5 = 2)) ∨ (452 ≤ i ∧ i < 1916 ∧ (i - 452) % 24 = 0) → w' i = w i) (h8 : 0 ≤ w 8 ∧ w 8 ≤ 16) (h9 : 0 ≤ w 9 ∧ w 9 ≤ 60) (h10 : 0 ≤ w 10 ∧ w 10 ≤ 200) (hK : ∀ k, 0 ≤ k → k < w 10 → 0 ≤ w (1916 + 5 * k + 1) ∧ w (1916 + 5 * k + 1) < w 9) (h : RelH s d w) : RelH s d' w' := by
  intro p x y h0 u v
  rw [e 8 (by omega)] at y
  rw [hd (s + 18 + 2 * p) (by omega) (by omega)]
  refine (h p x y h0 u v).trans ⟨?_, ?_⟩
  · rintro ⟨k, z1, z2, z3, z4⟩
    exact ⟨k, z1, by rw [e 10 (by omega)]; exact z2, by rw [e (1916 + 5 * k + 2) (by omega)]; exact z3, by rw [perO_k (fun i hi => e i (by omega)) h9 h10 z1 z2 (hK k z1 z2)]; exact z4⟩
  · rintro ⟨k, z1, z2, z3, z4⟩
    rw [e 10 (by omega)] at z2
    rw [e (1916 + 5 * k + 2) (by omega)] at z3
    rw [perO_k (fun i hi => e i (by omega)) h9 h10 z1 z2 (hK k z1 z2)] at z4
    exact ⟨k, z1, z2, z3, z4⟩
theorem GK.of {w : Row} (h : GK w) : ∀ k, 0 ≤ k → k < w 10 → 0 ≤ w (1916 + 5 * k + 1) ∧ w (1916 + 5 * k + 1) < w 9 := fun k a b => (h k a b).2.1
theorem csum_upd {f g : Int → Int} {n : Nat} {k : Int} (h0 : 0 ≤ k) (h1 : k < (n : Int)) (h : ∀ i : Int, 0 ≤ i → i < (n : Int) → ¬ i = k → f i = g i) : csum f n = csum g n + (f k - g k) := by
  induction n with
  | zero => omega
  | succ n ih =>
    show csum f n + f (n : Int) = csum g n + g (n : Int) + (f k - g k)
    by_cases hk : k = (n : Int)
    · rw [csum_congr (n := n) (f := f) (g := g) (fun i a b => h i a (by omega) (by omega)), hk]
      omega
    · rw [ih (by omega) (fun i a b c => h i a (by omega) c), h (n : Int) (by omega) (by omega) (by omega)]
      omega
/-! ===== paying the offered tokens: the class's settle and the reference's settles ===== -/
def StepS (w w' : Row) : Prop := w' 1 = w 1 - w 6 ∧ w' 11 = w 11 - 1 ∧ w' (420 + 2 * w (1916 + 5 * w 2916 + 0) + 1) = w (420 + 2 * w (1916 + 5 * w 2916 + 0) + 1) + w 6 ∧ w' (1916 + 5 * w 2916 + 3) = 2 ∧ (∀ k, 0 ≤ k → k < w 11 - 1 → w' (2916 + k) = w (2916 + k + 1))
  ∧ ∀ i, ¬ i = 1 → ¬ i = 11 → ¬ i = 420 + 2 * w (1916 + 5 * w 2916 + 0) + 1 → ¬ i = 1916 + 5 * w 2916 + 3 → ¬ (2916 ≤ i ∧ i < 2916 + w 11 - 1) → w' i = w i
theorem wse {w : Row} {i v j : Int} (h : j = i) : ws w i v j = v := by simp [ws, h]
theorem wsn {w : Row} {i v j : Int} (h : ¬ j = i) : ws w i v j = w j := by simp [ws, h]
theorem sh106 {R2 : Int → Row → Int × Row} : ∀ (n : Nat) (x1 b x : Int) (w : Row), 0 ≤ x → w 11 - x ≤ (n : Int) → ∃ w' : Row, LP_219_106 R2 n x1 b x w = R2 (x1 + 1) w' ∧ (∀ k, x ≤ k → k < w 11 → w' (2916 + k) = w (2916 + k + 1)) ∧ ∀ i, ¬ (2916 + x ≤ i ∧ i < 2916 + w 11) → w' i = w i := by
  intro n
  induction n with
  | zero =>
    intro x1 b x w h0 hn
    refine ⟨w, ?_, fun k a c => by omega, fun _ _ => rfl⟩
    show ST_219_106 R2 _ x1 b x w = _
    unfold ST_219_106
    rw [if_neg (by omega)]
  | succ n ih =>
    intro x1 b x w h0 hn
    by_cases hc : x < w 11
    · have e11 : ws w (2916 + x) (w (2916 + x + 1)) 11 = w 11 := wsn (by omega)
      obtain ⟨w', i1, i2, i3⟩ := ih x1 b (x + 1) (ws w (2916 + x) (w (2916 + x + 1))) (by omega) (by rw [e11]; omega)
      rw [e11] at i2 i3
      refine ⟨w', ?_, fun k a c => ?_, fun i hi => ?_⟩
      · rw [← i1]
        show ST_219_106 R2 _ x1 b x w = _
        unfold ST_219_106
        rw [if_pos hc]
      · by_cases hk : k = x
        · rw [i3 _ (by omega), wse (by omega), hk]
        · rw [i2 k (by omega) c, wsn (by omega)]
      · rw [i3 i (by omega), wsn (by omega)]
    · refine ⟨w, ?_, fun k a c => by omega, fun _ _ => rfl⟩
      show ST_219_106 R2 _ x1 b x w = _
      unfold ST_219_106
      rw [if_neg hc]
theorem st219 {n : Nat} {y : Int} {w : Row} (h11 : 0 < w 11) (hl : w 11 ≤ 200) (h6 : w 6 ≤ w 1) (hk : 0 ≤ w 2916 ∧ w 2916 ≤ 199) (ho : 0 ≤ w (1916 + 5 * w 2916 + 0) ∧ w (1916 + 5 * w 2916 + 0) ≤ 15) : ∃ w', LP_219_2 (n + 1) y w = LP_219_2 n (y + 1) w' ∧ StepS w w' := by
  generalize hu : (ws (ws (ws (ws w 1 ((w 1) - (w 6))) ((420 + (2 * (w ((1916 + (5 * (w 2916))) + 0)))) + 1) ((w ((420 + (2 * (w ((1916 + (5 * (w 2916))) + 0)))) + 1)) + (w 6))) ((1916 + (5 * (w 2916))) + 3) 2) 11 ((w 11) - 1)) = u
  have u11 : u 11 = w 11 - 1 := by rw [← hu]; exact wse rfl
  obtain ⟨w', i1, i2, i3⟩ := sh106 (R2 := LP_219_2 n) (200 - 0 : Int).toNat y (1916 + (5 * (w 2916))) 0 u (by decide) (by rw [u11, show (((200 - 0 : Int).toNat : Nat) : Int) = 200 by decide]; omega)
  rw [u11] at i2 i3
  refine ⟨w', ?_, ?_, ?_, ?_, ?_, fun k a b => ?_, fun i e1 e2 e3 e4 e5 => ?_⟩
  · rw [← i1]
    show ST_219_2 _ y w = _
    unfold ST_219_2
    rw [if_pos h11, if_neg (by omega), hu]
  · rw [i3 1 (by omega), ← hu]
    simp (disch := omega) only [wse, wsn]
  · rw [i3 11 (by omega), u11]
  · rw [i3 _ (by omega), ← hu]
    simp (disch := omega) only [wse, wsn]
  · rw [i3 _ (by omega), ← hu]
    simp (disch := omega) only [wse, wsn]
  · rw [i2 k a b, ← hu]
    simp (disch := omega) only [wse, wsn]
  · rw [i3 i (by omega), ← hu]
    simp (disch := omega) only [wse, wsn]
-- the state while the row of offered tokens is read from place m on
def RelR' (m s : Int) (d : mD) (w : Row) : Prop := d (s + 57) 5 = w 11 + m ∧ ∀ k, 0 ≤ k → k < w 11 → d (s + 62) (m + k) = w (2916 + k)
def RelS (m s : Int) (d : mD) (w : Row) : Prop := RelA s d w ∧ RelO s d w ∧ RelQ s d w ∧ RelP s d w ∧ RelT s d w ∧ RelC s d w ∧ RelK s d w ∧ RelR' m s d w ∧ RelB s d w ∧ RelH s d w
theorem stlStep {m s : Int} {d : mD} {w w' : Row} (hm : 0 ≤ m) (hg : GG w) (h : RelS m s d w) (h11 : 0 < w 11) (h6 : w 6 ≤ w 1) (hS : StepS w w') :
    GG w' ∧ RelS (m + 1) s (mset (mset (mset d s 1 (d s 1 - w 6)) (s + 10 + 2) (d (s + 57 + 1) (d (s + 57 + 5) m)) (d (s + 10 + 2) (d (s + 57 + 1) (d (s + 57 + 5) m)) + w 6)) (s + 57 + 4) (d (s + 57 + 5) m) 2) w' := by
  obtain ⟨hN, hO, hQ, hT, hC, hK, hR⟩ := hg
  obtain ⟨n7, n8, n9, n10, n11, n0, n1, n2, n3, n4, n5, n6⟩ := id hN
  obtain ⟨⟨a1, a2, a3⟩, rO, rQ, ⟨p1, p2⟩, rT, rC, ⟨k1, k2⟩, ⟨r1, r2⟩, rB, rH⟩ := h
  obtain ⟨s1, s2, s3, s4, s5, s6⟩ := hS
  simp only [Int.add_assoc, Int.reduceAdd]
  have etk : d (s + 62) m = w 2916 := by
    have := r2 0 (by omega) h11
    simpa using this
  have gtk := (hR.2 0 (by omega) h11).1
  simp only [Int.add_zero] at gtk
  have eow := (k2 (w 2916) gtk.1 gtk.2).1
  have gow := (hK (w 2916) gtk.1 gtk.2).1
  have gk3 := (hR.2 0 (by omega) h11).2.1
  simp only [Int.add_zero] at gk3
  rw [etk, eow]
  generalize hd : (mset (mset (mset d s 1 (d s 1 - w 6)) (s + 12) (w (1916 + 5 * w 2916 + 0)) (d (s + 12) (w (1916 + 5 * w 2916 + 0)) + w 6)) (s + 61) (w 2916) 2) = d'
  have fd : ∀ b, ¬ b = s → ¬ b = s + 12 → ¬ b = s + 61 → d' b = d b := fun b x y z => by
    rw [← hd]
    funext j
    simp (disch := omega) only [ms_a]
  have e7 : w' 7 = w 7 := s6 7 (by omega) (by omega) (by omega) (by omega) (by omega)
  have e10 : w' 10 = w 10 := s6 10 (by omega) (by omega) (by omega) (by omega) (by omega)
  refine ⟨⟨?_, hO.k (fun i hi => s6 i (by omega) (by omega) (by omega) (by omega) (by omega)) hN, hQ.k (fun i hi => s6 i (by omega) (by omega) (by omega) (by omega) (by omega)) hN hO, hT.k (fun i hi => s6 i (by omega) (by omega) (by omega) (by omega) (by omega)) hN hO, hC.k (fun i hi => s6 i (by omega) (by omega) (by omega) (by omega) (by omega)) hN, ?_, ?_⟩, ?_⟩
  · unfold GN
    rw [s1, s2, s6 0 (by omega) (by omega) (by omega) (by omega) (by omega), s6 2 (by omega) (by omega) (by omega) (by omega) (by omega), s6 3 (by omega) (by omega) (by omega) (by omega) (by omega), s6 4 (by omega) (by omega) (by omega) (by omega) (by omega), s6 5 (by omega) (by omega) (by omega) (by omega) (by omega), s6 6 (by omega) (by omega) (by omega) (by omega) (by omega), e7, s6 8 (by omega) (by omega) (by omega) (by omega) (by omega), s6 9 (by omega) (by omega) (by omega) (by omega) (by omega), e10]
    omega
  · refine hK.k2 (fun i hi => s6 i (by omega) (by omega) (by omega) (by omega) (by omega)) hN (fun k x y => ?_)
    have g := hK k x y
    refine ⟨by rw [s6 _ (by omega) (by omega) (by omega) (by omega) (by omega)]; exact g.1, ?_⟩
    by_cases hk : k = w 2916
    · rw [hk, s4]; omega
    · rw [s6 _ (by omega) (by omega) (by omega) (by omega) (by omega)]; exact g.2.2.2.1
  · refine ⟨?_, fun k x y => ?_⟩
    · rw [s2, e10, hR.1]
      rw [csum_upd (f := fun k => if w' (1916 + 5 * k + 3) = 1 then 1 else 0) (g := fun k => if w (1916 + 5 * k + 3) = 1 then 1 else 0) (k := w 2916) gtk.1 (by omega) (fun i a b c => by
        show (if w' (1916 + 5 * i + 3) = 1 then (1 : Int) else 0) = if w (1916 + 5 * i + 3) = 1 then 1 else 0
        rw [s6 _ (by omega) (by omega) (by omega) (by omega) (by omega)])]
      rw [s4, gk3]
      simp
      omega
    · rw [s2] at y
      have g := hR.2 (k + 1) (by omega) (by omega)
      rw [show (2916 : Int) + (k + 1) = 2916 + k + 1 by omega] at g
      have hne : ¬ w (2916 + k + 1) = w 2916 := fun q => g.2.2 0 (by omega) (by omega) (by simpa using q.symm)
      rw [s5 k x y, e10, s6 (1916 + 5 * w (2916 + k + 1) + 3) (by omega) (by omega) (by omega) (by omega) (by omega)]
      refine ⟨g.1, g.2.1, fun i a b => ?_⟩
      rw [s5 i a (by omega)]
      have := g.2.2 (i + 1) (by omega) (by omega)
      rwa [show (2916 : Int) + (i + 1) = 2916 + i + 1 by omega] at this
  · refine ⟨⟨?_, ?_, fun k x y => ?_⟩, rO.k (fun b x y => fd b (by omega) (by omega) (by omega)) (fun i hi => s6 i (by omega) (by omega) (by omega) (by omega) (by omega)) n7, rQ.k (fd _ (by omega) (by omega) (by omega)) (fun i hi => s6 i (by omega) (by omega) (by omega) (by omega) (by omega)) n7 hO, ⟨?_, fun p x y => ?_⟩, rT.k (fun b x y => fd b (by omega) (by omega) (by omega)) (fun i hi => s6 i (by omega) (by omega) (by omega) (by omega) (by omega)) n9, rC.k (fun b x => fd b (by omega) (by omega) (by omega)) (fun i hi => s6 i (by omega) (by omega) (by omega) (by omega) (by omega)) n9, ⟨?_, fun k x y => ?_⟩, ⟨?_, fun k x y => ?_⟩, rB.k (fun b x y => fd b (by omega) (by omega) (by omega)) (fun i hi => s6 i (by omega) (by omega) (by omega) (by omega) (by omega)) n8 n9 n10 hK.of, rH.k (fun b x y => fd b (by omega) (by omega) (by omega)) (fun i hi => s6 i (by omega) (by omega) (by omega) (by omega) (by omega)) n8 n9 n10 hK.of⟩
    · rw [s1, ← hd, ← a1]
      simp (disch := omega) only [ms_a, ms_e]
    · rw [s6 0 (by omega) (by omega) (by omega) (by omega) (by omega), ← hd, ← a2]
      simp (disch := omega) only [ms_a, ms_i]
    · rw [s6 _ (by omega) (by omega) (by omega) (by omega) (by omega), fd _ (by omega) (by omega) (by omega)]
      exact a3 k x y
    · rw [fd _ (by omega) (by omega) (by omega), s6 8 (by omega) (by omega) (by omega) (by omega) (by omega)]
      exact p1
    · rw [s6 8 (by omega) (by omega) (by omega) (by omega) (by omega)] at y
      have g := p2 p x y
      refine ⟨by rw [fd _ (by omega) (by omega) (by omega), s6 _ (by omega) (by omega) (by omega) (by omega) (by omega)]; exact g.1, ?_⟩
      rw [← hd]
      by_cases hp : p = w (1916 + 5 * w 2916 + 0)
      · rw [hp, s3]
        simp (disch := omega) only [ms_a, ms_e]
        rw [(p2 _ gow.1 gow.2).2]
      · rw [s6 _ (by omega) (by omega) (by omega) (by omega) (by omega)]
        simp (disch := omega) only [ms_a, ms_i]
        exact g.2
    · rw [fd _ (by omega) (by omega) (by omega), e10]
      exact k1
    · rw [e10] at y
      have g := k2 k x y
      rw [fd (s + 58) (by omega) (by omega) (by omega), fd (s + 59) (by omega) (by omega) (by omega), fd (s + 60) (by omega) (by omega) (by omega), s6 (1916 + 5 * k + 0) (by omega) (by omega) (by omega) (by omega) (by omega), s6 (1916 + 5 * k + 1) (by omega) (by omega) (by omega) (by omega) (by omega), s6 (1916 + 5 * k + 2) (by omega) (by omega) (by omega) (by omega) (by omega)]
      refine ⟨g.1, g.2.1, g.2.2.1, ?_⟩
      rw [← hd]
      by_cases hk : k = w 2916
      · rw [hk, s4]
        simp (disch := omega) only [ms_e]
      · rw [s6 _ (by omega) (by omega) (by omega) (by omega) (by omega)]
        simp (disch := omega) only [ms_a, ms_i]
        exact g.2.2.2
    · rw [fd _ (by omega) (by omega) (by omega), s2, r1]
      omega
    · rw [s2] at y
      rw [fd _ (by omega) (by omega) (by omega), s5 k x y, show m + 1 + k = m + (k + 1) by omega, r2 (k + 1) (by omega) (by omega), show (2916 : Int) + (k + 1) = 2916 + k + 1 by omega]
theorem stlLoop {s : Int} : ∀ (nc nr : Nat) (m y : Int) (d : mD) (w : Row), 0 ≤ m → GG w → RelS m s d w → w 11 ≤ (nc : Int) → w 11 ≤ (nr : Int) → ∃ (j : Int) (d' : mD) (w' : Row), 0 ≤ j ∧ lp_82_9 s nc m (w 6) d = (m + j, g_116 (s + 57) (m + j) d') ∧ LP_219_2 nr y w = (y + j, w') ∧ GG w' ∧ RelS (m + j) s d' w' ∧ d' (s + 57) 5 = d (s + 57) 5 ∧ ∀ i, ¬ i = 1 → ¬ i = 11 → ¬ (420 ≤ i ∧ i < 452) → i < 1916 → w' i = w i := by
  intro nc
  induction nc with
  | zero =>
    intro nr m y d w hm hg h h1 h2
    have n11 := hg.1.2.2.2.2.1
    obtain ⟨-, -, -, -, -, -, -, ⟨r1, -⟩, -⟩ := id h
    refine ⟨0, d, w, by omega, ?_, ?_, hg, by rw [Int.add_zero]; exact h, rfl, fun _ _ _ _ _ => rfl⟩
    · show st_82_9 s _ m (w 6) d = _
      unfold st_82_9
      rw [if_neg (by omega), Int.add_zero]
    · cases nr with
      | zero =>
        show ST_219_2 _ y w = _
        unfold ST_219_2
        rw [if_neg (by omega), Int.add_zero]
      | succ nr =>
        show ST_219_2 _ y w = _
        unfold ST_219_2
        rw [if_neg (by omega), Int.add_zero]
  | succ nc ih =>
    intro nr m y d w hm hg h h1 h2
    obtain ⟨hN, hO, hQ, hT, hC, hK, hR⟩ := id hg
    obtain ⟨n7, n8, n9, n10, n11, n0, n1, n2, n3, n4, n5, n6⟩ := id hN
    obtain ⟨⟨a1, -⟩, -, -, -, -, -, -, ⟨r1, -⟩, -⟩ := id h
    by_cases c1 : 0 < w 11
    · by_cases c2 : w 1 < w 6
      · refine ⟨0, d, w, by omega, ?_, ?_, hg, by rw [Int.add_zero]; exact h, rfl, fun _ _ _ _ _ => rfl⟩
        · show st_82_9 s _ m (w 6) d = _
          unfold st_82_9
          rw [if_pos (by omega), if_pos (by omega), Int.add_zero]
        · cases nr with
          | zero => omega
          | succ nr =>
            show ST_219_2 _ y w = _
            unfold ST_219_2
            rw [if_pos c1, if_pos c2, Int.add_zero]
      · cases nr with
        | zero => omega
        | succ nr =>
          have gtk := (hR.2 0 (by omega) c1).1
          simp only [Int.add_zero] at gtk
          have gow := (hK (w 2916) gtk.1 gtk.2).1
          obtain ⟨w', e1, hS⟩ := st219 (n := nr) (y := y) c1 n11.2 (by omega) (by omega) (by omega)
          obtain ⟨g', h'⟩ := stlStep hm hg h c1 (by omega) hS
          have e6 : w' 6 = w 6 := hS.2.2.2.2.2 6 (by omega) (by omega) (by omega) (by omega) (by omega)
          have e11 := hS.2.1
          obtain ⟨j, d2, w2, j0, j1, j2, j3, j4, j5, j6⟩ := ih nr (m + 1) (y + 1) _ w' (by omega) g' h' (by omega) (by omega)
          refine ⟨j + 1, d2, w2, by omega, ?_, by rw [e1, j2, show y + 1 + j = y + (j + 1) by omega], j3, by rw [show m + (j + 1) = m + 1 + j by omega]; exact j4, by
            rw [j5]
            simp (disch := omega) only [ms_a], fun i x y z u => by rw [j6 i x y z u, hS.2.2.2.2.2 i x y (by omega) (by omega) (by omega)]⟩
          rw [show m + (j + 1) = m + 1 + j by omega, ← j1, e6]
          show st_82_9 s _ m (w 6) d = _
          unfold st_82_9
          rw [if_pos (by omega), if_neg (by omega)]
    · refine ⟨0, d, w, by omega, ?_, ?_, hg, by rw [Int.add_zero]; exact h, rfl, fun _ _ _ _ _ => rfl⟩
      · show st_82_9 s _ m (w 6) d = _
        unfold st_82_9
        rw [if_neg (by omega), Int.add_zero]
      · cases nr with
        | zero =>
          show ST_219_2 _ y w = _
          unfold ST_219_2
          rw [if_neg (by omega), Int.add_zero]
        | succ nr =>
          show ST_219_2 _ y w = _
          unfold ST_219_2
          rw [if_neg (by omega), Int.add_zero]
theorem drop116 {x m : Int} (hm : 0 ≤ m) : ∀ (n : Nat) (k : Int) (d : mD), m ≤ k → d x 5 - k ≤ (n : Int) → (∀ b, ¬ b = x → ¬ b = x + 5 → lp_116_2 x m n k d b = d b) ∧ (∀ j, ¬ j = 5 → lp_116_2 x m n k d x j = d x j) ∧ lp_116_2 x m n k d x 5 = d x 5 - m ∧ (∀ j, j < k - m → lp_116_2 x m n k d (x + 5) j = d (x + 5) j) ∧ ∀ j, k - m ≤ j → j < d x 5 - m → lp_116_2 x m n k d (x + 5) j = d (x + 5) (j + m) := by
  intro n
  induction n with
  | zero =>
    intro k d hk hn
    have e : lp_116_2 x m 0 k d = mset d x 5 (d x 5 - m) := by
      show st_116_2 x m _ k d = _
      unfold st_116_2
      rw [if_neg (by omega)]
    rw [e]
    exact ⟨fun b h1 h2 => by funext j; exact ms_a h1, fun j hj => ms_i hj, ms_e rfl rfl, fun j _ => ms_a (by omega), fun j a b => by omega⟩
  | succ n ih =>
    intro k d hk hn
    by_cases hc : k < d x 5
    · have e : lp_116_2 x m (n + 1) k d = lp_116_2 x m n (k + 1) (mset d (x + 5) (k - m) (d (x + 5) k)) := by
        show st_116_2 x m _ k d = _
        unfold st_116_2
        rw [if_pos hc]
      have e5 : mset d (x + 5) (k - m) (d (x + 5) k) x 5 = d x 5 := ms_a (by omega)
      rw [e]
      obtain ⟨i1, i2, i3, i4, i5⟩ := ih (k + 1) (mset d (x + 5) (k - m) (d (x + 5) k)) (by omega) (by rw [e5]; omega)
      rw [e5] at i3 i5
      refine ⟨fun b h1 h2 => by rw [i1 b h1 h2]; funext j; exact ms_a h2, fun j hj => by rw [i2 j hj, ms_a (by omega)], i3, fun j a => by rw [i4 j (by omega), ms_i (by omega)], fun j a b => ?_⟩
      by_cases hj : j = k - m
      · rw [i4 j (by omega), ms_e rfl hj]
        congr 1
        omega
      · rw [i5 j (by omega) b, ms_i (by omega)]
    · have e : lp_116_2 x m (n + 1) k d = mset d x 5 (d x 5 - m) := by
        show st_116_2 x m _ k d = _
        unfold st_116_2
        rw [if_neg hc]
      rw [e]
      exact ⟨fun b h1 h2 => by funext j; exact ms_a h1, fun j hj => ms_i hj, ms_e rfl rfl, fun j _ => ms_a (by omega), fun j a b => by omega⟩
theorem RelS.drop {m s : Int} {d : mD} {w : Row} (hm : 0 ≤ m) (hg : GG w) (h5 : d (s + 57) 5 ≤ 200) (h : RelS m s d w) : Rel s (g_116 (s + 57) m d) w := by
  obtain ⟨hN, hO, hQ, hT, hC, hK, hR⟩ := id hg
  obtain ⟨n7, n8, n9, n10, n11, n0, n1, n2, n3, n4, n5, n6⟩ := id hN
  obtain ⟨rA, rO, rQ, rP, rT, rC, rK, ⟨r1, r2⟩, rB, rH⟩ := h
  unfold g_116
  obtain ⟨i1, i2, i3, i4, i5⟩ := drop116 (x := s + 57) hm (200 - m : Int).toNat m d (by omega) (by omega)
  generalize lp_116_2 (s + 57) m (200 - m : Int).toNat m d = d' at *
  refine ⟨rA.k (fun b x => i1 b (by omega) (by omega)) (fun _ _ => rfl), rO.k (fun b x y => i1 b (by omega) (by omega)) (fun _ _ => rfl) n7, rQ.k (i1 _ (by omega) (by omega)) (fun _ _ => rfl) n7 hO, rP.k (fun b x y => i1 b (by omega) (by omega)) (fun _ _ => rfl) n8, rT.k (fun b x y => i1 b (by omega) (by omega)) (fun _ _ => rfl) n9, rC.k (fun b x => i1 b (by omega) (by omega)) (fun _ _ => rfl) n9, rK.k (i2 0 (by omega)) (fun b x y => i1 b (by omega) (by omega)) (fun _ _ => rfl) n10, ⟨by rw [i3, r1]; omega, fun k x y => ?_⟩, rB.k (fun b x y => i1 b (by omega) (by omega)) (fun _ _ => rfl) n8 n9 n10 hK.of, rH.k (fun b x y => i1 b (by omega) (by omega)) (fun _ _ => rfl) n8 n9 n10 hK.of⟩
  rw [show s + 62 = s + 57 + 5 by omega, i5 k (by omega) (by omega), show s + 57 + 5 = s + 62 by omega, Int.add_comm k m]
  exact r2 k x y
theorem settle {s : Int} {d : mD} {w : Row} (hg : GG w) (h : Rel s d w) : v_82 s d = V_219 w ∧ GG (W_219 w) ∧ Rel s (g_82 s d) (W_219 w) ∧ ∀ i, ¬ i = 1 → ¬ i = 11 → ¬ (420 ≤ i ∧ i < 452) → i < 1916 → W_219 w i = w i := by
  obtain ⟨n7, n8, n9, n10, n11, n0, n1, n2, n3, n4, n5, n6⟩ := id hg.1
  obtain ⟨rA, rO, rQ, rP, rT, rC, rK, ⟨r1, r2⟩, rB, rH⟩ := h
  have hS : RelS 0 s d w := ⟨rA, rO, rQ, rP, rT, rC, rK, ⟨by rw [r1]; omega, fun k x y => by rw [Int.zero_add]; exact r2 k x y⟩, rB, rH⟩
  obtain ⟨j, d', w', j0, j1, j2, j3, j4, j5, j6⟩ := stlLoop (s := s) (200 - 0 : Int).toNat (w 11).toNat 0 0 d w (by omega) hg hS (by rw [show (((200 - 0 : Int).toNat : Nat) : Int) = 200 by decide]; omega) (by omega)
  have e6 : d (s + 1) 4 = w 6 := rA.2.2 4 (by omega) (by omega)
  have e1 : f_82 s d = (0 + j, g_116 (s + 57) (0 + j) d') := by
    unfold f_82
    rw [e6]
    exact j1
  have e2 : F_219 w = (0 + j, w') := j2
  unfold v_82 g_82 V_219 W_219
  rw [e1, e2]
  exact ⟨rfl, j3, j4.drop (by omega) j3 (by omega), j6⟩
/-! ===== what else stands in a row: nobody witnesses before he is there, and a purse holds what was paid into it ===== -/
def GWt (w : Row) : Prop := ∀ t, 0 ≤ t → t < w 9 → ∀ q, w 8 ≤ q → q < 16 → w (452 + 24 * t + 8 + q) = 0
def C2 (w : Row) : Int := csum (fun k => if w (1916 + 5 * k + 3) = 2 then 1 else 0) (w 10).toNat
def GP (w : Row) : Prop := ∀ p, 0 ≤ p → p < w 8 → 0 ≤ w (420 + 2 * p + 1) ∧ w (420 + 2 * p + 1) ≤ 99 * C2 w
def GXI (w w' : Row) : Prop := GWt w → GP w → GWt w' ∧ GP w'
def XR (w w' : Row) : Prop := GXI w w' ∧ w' 0 = w 0
theorem GXI.trans {a b c : Row} (h : GXI a b) (g : GXI b c) : GXI a c := fun x y => g (h x y).1 (h x y).2
theorem XR.refl {w : Row} : XR w w := ⟨fun a b => ⟨a, b⟩, rfl⟩
theorem XR.trans {a b c : Row} (h : XR a b) (g : XR b c) : XR a c := ⟨h.1.trans g.1, g.2.trans h.2⟩
theorem C2_of {w w' : Row} (e10 : w' 10 = w 10) (e : ∀ k, 0 ≤ k → k < w 10 → (w' (1916 + 5 * k + 3) = 2 ↔ w (1916 + 5 * k + 3) = 2)) : C2 w' = C2 w := by
  unfold C2
  rw [e10]
  refine csum_congr (fun k a b => ?_)
  have z := e k a (by omega)
  by_cases q : w (1916 + 5 * k + 3) = 2
  · rw [if_pos q, if_pos (z.2 q)]
  · rw [if_neg q, if_neg (fun y => q (z.1 y))]
theorem GXI.keep {w w' : Row} (p8 : 0 ≤ w 8 ∧ w 8 ≤ 16) (e8 : w' 8 = w 8) (e9 : w' 9 = w 9) (ew : ∀ t q, 0 ≤ t → t < w 9 → w 8 ≤ q → q < 16 → w' (452 + 24 * t + 8 + q) = w (452 + 24 * t + 8 + q)) (ep : ∀ p, 0 ≤ p → p < 16 → w' (420 + 2 * p + 1) = w (420 + 2 * p + 1)) (ec : C2 w ≤ C2 w') : GXI w w' := by
  intro a b
  refine ⟨fun t x y q u v => ?_, fun p x y => ?_⟩
  · rw [e9] at y
    rw [e8] at u
    rw [ew t q x y u v]
    exact a t x y q u v
  · rw [e8] at y
    rw [ep p x (by omega)]
    have := b p x y
    omega
theorem stlX {s : Int} : ∀ (n : Nat) (m y : Int) (d : mD) (w : Row), 0 ≤ m → GG w → RelS m s d w → w 11 ≤ (n : Int) → XR w (LP_219_2 n y w).2 := by
  intro n
  induction n with
  | zero =>
    intro m y d w hm hg h hn
    show XR w (ST_219_2 _ y w).2
    unfold ST_219_2
    rw [if_neg (by omega)]
    exact XR.refl
  | succ n ih =>
    intro m y d w hm hg h hn
    by_cases c : 0 < w 11 ∧ ¬ w 1 < w 6
    · obtain ⟨hN, hO, hQ, hT, hC, hK, hR⟩ := id hg
      obtain ⟨n7, n8, n9, n10, n11, n0, n1, n2, n3, n4, n5, n6⟩ := id hN
      have gr := hR.2 0 (by omega) c.1
      simp only [Int.add_zero] at gr
      have gow := (hK (w 2916) gr.1.1 gr.1.2).1
      obtain ⟨w', e1, hS⟩ := st219 (n := n) (y := y) c.1 n11.2 (by omega) (by omega) (by omega)
      obtain ⟨g', h'⟩ := stlStep hm hg h c.1 (by omega) hS
      rw [e1]
      refine XR.trans ?_ (ih (m + 1) (y + 1) _ w' (by omega) g' h' (by have := hS.2.1; omega))
      obtain ⟨s1, s2, s3, s4, s5, s6⟩ := hS
      have e8 : w' 8 = w 8 := s6 8 (by omega) (by omega) (by omega) (by omega) (by omega)
      have e9 : w' 9 = w 9 := s6 9 (by omega) (by omega) (by omega) (by omega) (by omega)
      have e10 : w' 10 = w 10 := s6 10 (by omega) (by omega) (by omega) (by omega) (by omega)
      have ec : C2 w' = C2 w + 1 := by
        unfold C2
        rw [e10]
        have := csum_upd (f := fun k => if w' (1916 + 5 * k + 3) = 2 then (1 : Int) else 0) (g := fun k => if w (1916 + 5 * k + 3) = 2 then 1 else 0) (n := (w 10).toNat) (k := w 2916) gr.1.1 (by omega) (fun i a b c => by
          show (if w' (1916 + 5 * i + 3) = 2 then (1 : Int) else 0) = if w (1916 + 5 * i + 3) = 2 then 1 else 0
          rw [s6 _ (by omega) (by omega) (by omega) (by omega) (by omega)])
        rw [this]
        show _ + ((if w' (1916 + 5 * w 2916 + 3) = 2 then (1 : Int) else 0) - if w (1916 + 5 * w 2916 + 3) = 2 then 1 else 0) = _
        rw [s4, if_pos rfl, gr.2.1, if_neg (by decide)]
        omega
      refine ⟨fun a b => ⟨fun t x z q u v => ?_, fun p x z => ?_⟩, s6 0 (by omega) (by omega) (by omega) (by omega) (by omega)⟩
      · rw [e9] at z
        rw [e8] at u
        rw [s6 _ (by omega) (by omega) (by omega) (by omega) (by omega)]
        exact a t x z q u v
      · rw [e8] at z
        rw [ec]
        have := b p x z
        by_cases q : p = w (1916 + 5 * w 2916 + 0)
        · rw [q] at this ⊢
          rw [s3]
          omega
        · rw [s6 _ (by omega) (by omega) (by omega) (by omega) (by omega)]
          omega
    · have e : (LP_219_2 (n + 1) y w).2 = w := by
        show (ST_219_2 _ y w).2 = w
        unfold ST_219_2
        by_cases c1 : 0 < w 11
        · have c2 : w 1 < w 6 := by omega
          rw [if_pos c1, if_pos c2]
        · rw [if_neg c1]
      rw [e]
      exact XR.refl
theorem settleX {s : Int} {d : mD} {w : Row} (hg : GG w) (h : Rel s d w) : XR w (W_219 w) := by
  have n11 := hg.1.2.2.2.2.1
  obtain ⟨rA, rO, rQ, rP, rT, rC, rK, ⟨r1, r2⟩, rB, rH⟩ := h
  have hS : RelS 0 s d w := ⟨rA, rO, rQ, rP, rT, rC, rK, ⟨by rw [r1]; omega, fun k x y => by rw [Int.zero_add]; exact r2 k x y⟩, rB, rH⟩
  unfold W_219 F_219
  exact stlX (w 11).toNat 0 0 d w (by omega) hg hS (by omega)
/-! ===== queues: a ticket is taken out; the first one is served ===== -/
theorem lp220 {x1 x2 b : Int} : ∀ (n : Nat) (x : Int) (w : Row), 0 ≤ x → w (b + 5) - x ≤ (n : Int) → (∀ k, x ≤ k → k < w (b + 5) → LP_220_20 x1 x2 n b x w (b + 7 + k) = w (b + 7 + k + 1)) ∧ ∀ i, ¬ (b + 7 + x ≤ i ∧ i < b + 7 + w (b + 5)) → LP_220_20 x1 x2 n b x w i = w i := by
  intro n
  induction n with
  | zero =>
    intro x w h0 hn
    have e : LP_220_20 x1 x2 0 b x w = w := by
      show ST_220_20 x1 x2 _ b x w = _
      unfold ST_220_20
      rw [if_neg (by omega)]
    rw [e]
    exact ⟨fun k a c => by omega, fun _ _ => rfl⟩
  | succ n ih =>
    intro x w h0 hn
    by_cases hc : x < w (b + 5)
    · have e : LP_220_20 x1 x2 (n + 1) b x w = LP_220_20 x1 x2 n b (x + 1) (ws w (b + 7 + x) (w (b + 7 + x + 1))) := by
        show ST_220_20 x1 x2 _ b x w = _
        unfold ST_220_20
        rw [if_pos hc]
      have e5 : ws w (b + 7 + x) (w (b + 7 + x + 1)) (b + 5) = w (b + 5) := wsn (by omega)
      rw [e]
      obtain ⟨i1, i2⟩ := ih (x + 1) (ws w (b + 7 + x) (w (b + 7 + x + 1))) (by omega) (by rw [e5]; omega)
      rw [e5] at i1 i2
      refine ⟨fun k a c => ?_, fun i hi => ?_⟩
      · by_cases hk : k = x
        · rw [i2 _ (by omega), wse (by omega), hk]
        · rw [i1 k (by omega) c, wsn (by omega)]
      · rw [i2 i (by omega), wsn (by omega)]
    · have e : LP_220_20 x1 x2 (n + 1) b x w = w := by
        show ST_220_20 x1 x2 _ b x w = _
        unfold ST_220_20
        rw [if_neg hc]
      rw [e]
      exact ⟨fun k a c => by omega, fun _ _ => rfl⟩
def TakeW (o p : Int) (w w' : Row) : Prop := w' (12 + 68 * o + 5) = w (12 + 68 * o + 5) - 1 ∧ (∀ k, p ≤ k → k < w (12 + 68 * o + 5) - 1 → w' (12 + 68 * o + 7 + k) = w (12 + 68 * o + 7 + k + 1)) ∧ ∀ i, ¬ i = 12 + 68 * o + 5 → ¬ (12 + 68 * o + 7 + p ≤ i ∧ i < 12 + 68 * o + 7 + (w (12 + 68 * o + 5) - 1)) → w' i = w i
theorem take220 {o p : Int} {w : Row} (hp : 0 ≤ p) (hl : w (12 + 68 * o + 5) ≤ 62) (hp2 : p ≤ 61) : TakeW o p w (W_220 o p w) := by
  unfold W_220
  have e5 : ws w (12 + 68 * o + 5) (w (12 + 68 * o + 5) - 1) (12 + 68 * o + 5) = w (12 + 68 * o + 5) - 1 := wse rfl
  obtain ⟨i1, i2⟩ := lp220 (x1 := o) (x2 := p) (b := 12 + 68 * o) (61 - p : Int).toNat p (ws w (12 + 68 * o + 5) (w (12 + 68 * o + 5) - 1)) hp (by rw [e5]; omega)
  rw [e5] at i1 i2
  refine ⟨by rw [i2 _ (by omega), e5], fun k a b => by rw [i1 k a b, wsn (by omega)], fun i h1 h2 => by rw [i2 i h2, wsn h1]⟩
theorem lp41 {x0 o p : Int} : ∀ (n : Nat) (x : Int) (d : mD), 1 ≤ x → d (x0 + 6) o - x ≤ (n : Int) → (∀ b, ¬ b = x0 + 6 → ¬ b = x0 + 7 → lp_41_25 x0 o p n (o * 16) x d b = d b) ∧ (∀ j, ¬ j = o → lp_41_25 x0 o p n (o * 16) x d (x0 + 6) j = d (x0 + 6) j) ∧ lp_41_25 x0 o p n (o * 16) x d (x0 + 6) o = d (x0 + 6) o - 1 ∧ (∀ k, x - 1 ≤ k → k < d (x0 + 6) o - 1 → lp_41_25 x0 o p n (o * 16) x d (x0 + 7) (o * 16 + k) = d (x0 + 7) (o * 16 + k + 1)) ∧ ∀ j, ¬ (o * 16 + (x - 1) ≤ j ∧ j < o * 16 + (d (x0 + 6) o - 1)) → lp_41_25 x0 o p n (o * 16) x d (x0 + 7) j = d (x0 + 7) j := by
  intro n
  induction n with
  | zero =>
    intro x d h0 hn
    have e : lp_41_25 x0 o p 0 (o * 16) x d = mset d (x0 + 6) o (d (x0 + 6) o - 1) := by
      show st_41_25 x0 o p _ (o * 16) x d = _
      unfold st_41_25
      rw [if_neg (by omega)]
    rw [e]
    exact ⟨fun b h1 h2 => by funext j; exact ms_a h1, fun j hj => ms_i hj, ms_e rfl rfl, fun k a b => by omega, fun j hj => ms_a (by omega)⟩
  | succ n ih =>
    intro x d h0 hn
    by_cases hc : x < d (x0 + 6) o
    · have e : lp_41_25 x0 o p (n + 1) (o * 16) x d = lp_41_25 x0 o p n (o * 16) (x + 1) (mset d (x0 + 7) (o * 16 + x - 1) (d (x0 + 7) (o * 16 + x))) := by
        show st_41_25 x0 o p _ (o * 16) x d = _
        unfold st_41_25
        rw [if_pos hc]
      have e5 : ∀ j, mset d (x0 + 7) (o * 16 + x - 1) (d (x0 + 7) (o * 16 + x)) (x0 + 6) j = d (x0 + 6) j := fun j => ms_a (by omega)
      rw [e]
      obtain ⟨i1, i2, i3, i4, i5⟩ := ih (x + 1) (mset d (x0 + 7) (o * 16 + x - 1) (d (x0 + 7) (o * 16 + x))) (by omega) (by rw [e5]; omega)
      rw [e5] at i3 i4 i5
      refine ⟨fun b h1 h2 => by rw [i1 b h1 h2]; funext j; exact ms_a h2, fun j hj => by rw [i2 j hj, e5], i3, fun k a b => ?_, fun j hj => by rw [i5 j (by omega), ms_i (by omega)]⟩
      by_cases hk : k = x - 1
      · rw [i5 _ (by omega), ms_e rfl (by omega), hk]
        congr 1
        omega
      · rw [i4 k (by omega) b, ms_i (by omega)]
    · have e : lp_41_25 x0 o p (n + 1) (o * 16) x d = mset d (x0 + 6) o (d (x0 + 6) o - 1) := by
        show st_41_25 x0 o p _ (o * 16) x d = _
        unfold st_41_25
        rw [if_neg hc]
      rw [e]
      exact ⟨fun b h1 h2 => by funext j; exact ms_a h1, fun j hj => ms_i hj, ms_e rfl rfl, fun k a b => by omega, fun j hj => ms_a (by omega)⟩
def TakeD (s o p : Int) (d d' : mD) : Prop := (∀ b, ¬ b = s + 8 → ¬ b = s + 9 → d' b = d b) ∧ (∀ j, ¬ j = o → d' (s + 8) j = d (s + 8) j) ∧ d' (s + 8) o = d (s + 8) o - 1 ∧ (∀ k, p ≤ k → k < d (s + 8) o - 1 → d' (s + 9) (o * 16 + k) = d (s + 9) (o * 16 + k + 1)) ∧ ∀ j, ¬ (o * 16 + p ≤ j ∧ j < o * 16 + (d (s + 8) o - 1)) → d' (s + 9) j = d (s + 9) j
theorem take41 {s o p : Int} {d : mD} (hp : 0 ≤ p) (hl : p < d (s + 8) o) (hl2 : d (s + 8) o ≤ 16) : TakeD s o p d (g_41 (s + 2) o p d) := by
  unfold g_41
  have e8 : s + 2 + 6 = s + 8 := by omega
  have e9 : s + 2 + 7 = s + 9 := by omega
  rw [if_neg (by omega), if_pos (by rw [e8]; exact hl)]
  obtain ⟨i1, i2, i3, i4, i5⟩ := lp41 (x0 := s + 2) (o := o) (p := p) (16 - (p + 1) : Int).toNat (p + 1) d (by omega) (by rw [e8]; omega)
  rw [e8] at i1 i2 i3 i4 i5
  rw [e9] at i1 i4 i5
  rw [show p + 1 - 1 = p by omega] at i4 i5
  exact ⟨i1, i2, i3, i4, i5⟩
-- the first ticket of an office's queue is served
def RelN (s : Int) (d : mD) (w : Row) : Prop := RelA s d w ∧ RelO s d w ∧ RelQ s d w ∧ RelP s d w ∧ RelT s d w ∧ RelC s d w ∧ RelK s d w ∧ RelR s d w ∧ RelH s d w
theorem Rel.n {s : Int} {d : mD} {w : Row} (h : Rel s d w) : RelN s d w ∧ RelB s d w := by
  obtain ⟨a, b, c, e, f, g, i, j, k, l⟩ := h
  exact ⟨⟨a, b, c, e, f, g, i, j, l⟩, k⟩
theorem RelN.r {s : Int} {d : mD} {w : Row} (h : RelN s d w) (hB : RelB s d w) : Rel s d w := by
  obtain ⟨a, b, c, e, f, g, i, j, l⟩ := h
  exact ⟨a, b, c, e, f, g, i, j, hB, l⟩
def StepV (o : Int) (w w' : Row) : Prop := w' (12 + 68 * o + 5) = w (12 + 68 * o + 5) - 1 ∧ w' (12 + 68 * o + 6) = w (12 + 68 * o + 6) + 1 ∧ w' (452 + 24 * w (12 + 68 * o + 7) + 4) = 1 ∧ w' (452 + 24 * w (12 + 68 * o + 7) + 3) = w 0 ∧ (∀ k, 0 ≤ k → k < w (12 + 68 * o + 5) - 1 → w' (12 + 68 * o + 7 + k) = w (12 + 68 * o + 7 + k + 1))
  ∧ ∀ i, ¬ i = 12 + 68 * o + 5 → ¬ i = 12 + 68 * o + 6 → ¬ i = 452 + 24 * w (12 + 68 * o + 7) + 4 → ¬ i = 452 + 24 * w (12 + 68 * o + 7) + 3 → ¬ (12 + 68 * o + 7 ≤ i ∧ i < 12 + 68 * o + 7 + (w (12 + 68 * o + 5) - 1)) → w' i = w i
theorem stepV {o : Int} {w : Row} (ho : 0 ≤ o ∧ o ≤ 5) (hl : w (12 + 68 * o + 5) ≤ 61) (ht : 0 ≤ w (12 + 68 * o + 7) ∧ w (12 + 68 * o + 7) ≤ 60) : StepV o w (W_220 o 0 (ws (ws (ws w ((452 + (24 * (w ((12 + (68 * o)) + 7)))) + 4) 1) ((452 + (24 * (w ((12 + (68 * o)) + 7)))) + 3) (w 0)) ((12 + (68 * o)) + 6) ((w ((12 + (68 * o)) + 6)) + 1))) := by
  generalize hu : (ws (ws (ws w ((452 + (24 * (w ((12 + (68 * o)) + 7)))) + 4) 1) ((452 + (24 * (w ((12 + (68 * o)) + 7)))) + 3) (w 0)) ((12 + (68 * o)) + 6) ((w ((12 + (68 * o)) + 6)) + 1)) = u
  have u5 : u (12 + 68 * o + 5) = w (12 + 68 * o + 5) := by
    rw [← hu]
    simp (disch := omega) only [wsn]
  have h := take220 (o := o) (p := 0) (w := u) (by omega) (by rw [u5]; omega) (by omega)
  obtain ⟨t1, t2, t3⟩ := h
  rw [u5] at t1 t2 t3
  refine ⟨t1, ?_, ?_, ?_, fun k a b => ?_, fun i h1 h2 h3 h4 h5 => ?_⟩
  · rw [t3 _ (by omega) (by omega), ← hu]
    simp (disch := omega) only [wse]
  · rw [t3 _ (by omega) (by omega), ← hu]
    simp (disch := omega) only [wse, wsn]
  · rw [t3 _ (by omega) (by omega), ← hu]
    simp (disch := omega) only [wse, wsn]
  · rw [t2 k a b, ← hu]
    simp (disch := omega) only [wsn]
  · rw [t3 i h1 (by omega), ← hu]
    simp (disch := omega) only [wsn]
-- how many tickets were served
def srvN (w : Row) : Int := csum (fun t => if w (452 + 24 * t + 4) = 1 then 1 else 0) (w 9).toNat
theorem serve1n {o : Int} {w w' : Row} (hg : GG w) (ho : 0 ≤ o ∧ o < w 7) (hq : 0 < w (12 + 68 * o + 5)) (hS : StepV o w w') : srvN w' = srvN w + 1 := by
  obtain ⟨hN, hO, hQ, -⟩ := hg
  obtain ⟨n7, n8, n9, n10, n11, n0, n1, n2, n3, n4, n5, n6⟩ := id hN
  obtain ⟨s1, s2, s3, s4, s5, s6⟩ := hS
  have go := hO o ho.1 ho.2
  have gq := hQ o ho.1 ho.2 0 (by omega) hq
  simp only [Int.add_zero] at gq
  unfold srvN
  rw [s6 9 (by omega) (by omega) (by omega) (by omega) (by omega)]
  have hs := csum_upd (f := fun t => if w' (452 + 24 * t + 4) = 1 then 1 else 0) (g := fun t => if w (452 + 24 * t + 4) = 1 then 1 else 0) (n := (w 9).toNat) (k := w (12 + 68 * o + 7)) gq.1.1 (by omega) (fun i a b c => by
    show (if w' (452 + 24 * i + 4) = 1 then (1 : Int) else 0) = if w (452 + 24 * i + 4) = 1 then 1 else 0
    rw [s6 (452 + 24 * i + 4) (by omega) (by omega) (by omega) (by omega) (by omega)])
  rw [s3, gq.2.2.1] at hs
  rw [hs]
  simp
theorem serve1 {s o : Int} {d : mD} {w w' : Row} {X : Prop} (hg : GG w) (h : RelN s d w) (hX : X → RelB s d w) (ho : 0 ≤ o ∧ o < w 7) (hq : 0 < w (12 + 68 * o + 5)) (hS : StepV o w w') :
    GG w' ∧ RelN s (g_41 (s + 2) o 0 (g_97 (s + 49) (v_38 (s + 2) o 0 d) 1 (d s 2) d)) w' ∧ (X → RelB s (g_41 (s + 2) o 0 (g_97 (s + 49) (v_38 (s + 2) o 0 d) 1 (d s 2) d)) w') := by
  obtain ⟨hN, hO, hQ, hT, hC, hK, hR⟩ := hg
  obtain ⟨n7, n8, n9, n10, n11, n0, n1, n2, n3, n4, n5, n6⟩ := id hN
  obtain ⟨⟨a1, a2, a3⟩, ⟨o1, o2⟩, rQ, rP, ⟨t1, t2⟩, rC, rK, rR, rH⟩ := h
  obtain ⟨s1, s2, s3, s4, s5, s6⟩ := hS
  have S6 : ∀ i, (¬ i = 12 + 68 * o + 5 ∧ ¬ i = 12 + 68 * o + 6 ∧ ¬ i = 452 + 24 * w (12 + 68 * o + 7) + 4 ∧ ¬ i = 452 + 24 * w (12 + 68 * o + 7) + 3 ∧ ¬ (12 + 68 * o + 7 ≤ i ∧ i < 12 + 68 * o + 7 + (w (12 + 68 * o + 5) - 1))) → w' i = w i := fun i h => s6 i h.1 h.2.1 h.2.2.1 h.2.2.2.1 h.2.2.2.2
  have go := (hO o ho.1 ho.2).2.2.2.2.1
  have gq := hQ o ho.1 ho.2 0 (by omega) hq
  simp only [Int.add_zero] at gq
  have et : v_38 (s + 2) o 0 d = w (12 + 68 * o + 7) := by
    have := rQ o ho.1 ho.2 0 (by omega) hq
    simp only [Int.add_zero] at this
    unfold v_38
    rw [show s + 2 + 7 = s + 9 by omega, Int.add_zero]
    exact this
  have e8 : d (s + 8) o = w (12 + 68 * o + 5) := (o2 o ho.1 ho.2).2.2.2.2.2
  rw [et]
  have e1 : g_97 (s + 49) (w (12 + 68 * o + 7)) 1 (d s 2) d = mset (mset d (s + 54) (w (12 + 68 * o + 7)) 1) (s + 53) (w (12 + 68 * o + 7)) (w 0) := by
    unfold g_97
    simp only [Int.add_assoc, Int.reduceAdd, a2]
  rw [e1]
  generalize hd1 : mset (mset d (s + 54) (w (12 + 68 * o + 7)) 1) (s + 53) (w (12 + 68 * o + 7)) (w 0) = d1
  have f1 : ∀ b, ¬ b = s + 54 → ¬ b = s + 53 → d1 b = d b := fun b x y => by
    rw [← hd1]
    funext j
    simp (disch := omega) only [ms_a]
  obtain ⟨q1, q2, q3, q4, q5⟩ := take41 (s := s) (o := o) (p := 0) (d := d1) (by omega) (by rw [f1 _ (by omega) (by omega), e8]; exact hq) (by rw [f1 _ (by omega) (by omega), e8]; omega)
  generalize g_41 (s + 2) o 0 d1 = d' at *
  rw [f1 (s + 8) (by omega) (by omega), e8] at q3 q4 q5
  have fd : ∀ b, ¬ b = s + 54 → ¬ b = s + 53 → ¬ b = s + 8 → ¬ b = s + 9 → d' b = d b := fun b x y z u => by rw [q1 b z u, f1 b x y]
  -- the ticket is in no other place
  have other : ∀ o', 0 ≤ o' → o' < w 7 → ∀ k, 0 ≤ k → k < w (12 + 68 * o' + 5) → ¬ (o' = o ∧ k = 0) → ¬ w (12 + 68 * o' + 7 + k) = w (12 + 68 * o + 7) := by
    intro o' x y k u v hn e
    have g := hQ o' x y k u v
    rw [e] at g
    by_cases hoo : o' = o
    · subst hoo
      have g2 := g.2.2.2 0 (by omega) (by omega)
      simp only [Int.add_zero] at g2
      exact g2.2 trivial
    · omega
  refine ⟨⟨?_, ?_, ?_, ?_, ?_, ?_, hR.k (fun i hi => S6 i (by omega)) hN⟩, ⟨?_, ?_, ?_, rP.k (fun b x y => fd b (by omega) (by omega) (by omega) (by omega)) (fun i hi => S6 i (by omega)) n8, ?_, rC.k (fun b x => fd b (by omega) (by omega) (by omega) (by omega)) (fun i hi => S6 i (by omega)) n9, rK.k (by rw [fd _ (by omega) (by omega) (by omega) (by omega)]) (fun b x y => fd b (by omega) (by omega) (by omega) (by omega)) (fun i hi => S6 i (by omega)) n10, rR.k (by rw [fd _ (by omega) (by omega) (by omega) (by omega)]) (fd _ (by omega) (by omega) (by omega) (by omega)) (fun i hi => S6 i (by omega)) n11, rH.k (fun b x y => fd b (by omega) (by omega) (by omega) (by omega)) (fun i hi => S6 i (by omega)) n8 n9 n10 hK.of⟩, fun hx => (hX hx).k (fun b x y => fd b (by omega) (by omega) (by omega) (by omega)) (fun i hi => S6 i (by omega)) n8 n9 n10 hK.of⟩
  · exact hN.k (fun i hi => S6 i (by omega))
  · -- offices
    intro o' x y
    rw [S6 7 (by omega)] at y
    have g := hO o' x y
    rw [S6 (12 + 68 * o' + 1) (by omega), S6 (12 + 68 * o' + 2) (by omega), S6 (12 + 68 * o' + 3) (by omega), S6 (12 + 68 * o' + 4) (by omega), S6 9 (by omega)]
    have hs := csum_upd (f := fun t => if w' (452 + 24 * t + 4) = 1 ∧ w' (452 + 24 * t + 1) = o' then 1 else 0) (g := fun t => if w (452 + 24 * t + 4) = 1 ∧ w (452 + 24 * t + 1) = o' then 1 else 0) (n := (w 9).toNat) (k := w (12 + 68 * o + 7)) gq.1.1 (by omega) (fun i a b c => by
      show (if w' (452 + 24 * i + 4) = 1 ∧ w' (452 + 24 * i + 1) = o' then (1 : Int) else 0) = if w (452 + 24 * i + 4) = 1 ∧ w (452 + 24 * i + 1) = o' then 1 else 0
      rw [S6 (452 + 24 * i + 4) (by omega), S6 (452 + 24 * i + 1) (by omega)])
    rw [s3, S6 (452 + 24 * w (12 + 68 * o + 7) + 1) (by omega), gq.2.1, gq.2.2.1] at hs
    rw [hs]
    by_cases hoo : o' = o
    · subst hoo
      rw [s1, s2, g.2.2.2.2.2.2]
      simp
      omega
    · rw [S6 (12 + 68 * o' + 5) (by omega), S6 (12 + 68 * o' + 6) (by omega), g.2.2.2.2.2.2]
      rw [if_neg (fun z => hoo z.2.symm), if_neg (fun z => hoo z.2.symm)]
      simp
      omega
  · -- queues
    intro o' x y k u v
    rw [S6 7 (by omega)] at y
    by_cases hoo : o' = o
    · subst hoo
      rw [s1] at v
      have g := hQ o' x y (k + 1) (by omega) (by omega)
      rw [show 12 + 68 * o' + 7 + (k + 1) = 12 + 68 * o' + 7 + k + 1 by omega] at g
      have ne := other o' x y (k + 1) (by omega) (by omega) (by omega)
      rw [show 12 + 68 * o' + 7 + (k + 1) = 12 + 68 * o' + 7 + k + 1 by omega] at ne
      rw [s5 k u v, S6 9 (by omega), S6 (452 + 24 * w (12 + 68 * o' + 7 + k + 1) + 1) (by omega), S6 (452 + 24 * w (12 + 68 * o' + 7 + k + 1) + 4) (by omega)]
      refine ⟨g.1, g.2.1, g.2.2.1, fun i a b => ?_⟩
      have g2 := g.2.2.2 (i + 1) (by omega) (by omega)
      rw [show 12 + 68 * o' + 7 + (i + 1) = 12 + 68 * o' + 7 + i + 1 by omega] at g2
      have gi := hQ o' x y (i + 1) (by omega) (by omega)
      rw [show 12 + 68 * o' + 7 + (i + 1) = 12 + 68 * o' + 7 + i + 1 by omega] at gi
      rw [s5 i a (by omega), S6 (452 + 24 * w (12 + 68 * o' + 7 + k + 1) + 2) (by omega), S6 (452 + 24 * w (12 + 68 * o' + 7 + k + 1) + 0) (by omega), S6 (452 + 24 * w (12 + 68 * o' + 7 + i + 1) + 2) (by omega), S6 (452 + 24 * w (12 + 68 * o' + 7 + i + 1) + 0) (by omega)]
      exact g2
    · have go' := hO o' x y
      rw [S6 (12 + 68 * o' + 5) (by omega)] at v
      have g := hQ o' x y k u v
      have ne := other o' x y k u v (by omega)
      rw [S6 (12 + 68 * o' + 7 + k) (by omega), S6 9 (by omega), S6 (452 + 24 * w (12 + 68 * o' + 7 + k) + 1) (by omega), S6 (452 + 24 * w (12 + 68 * o' + 7 + k) + 4) (by omega)]
      refine ⟨g.1, g.2.1, g.2.2.1, fun i a b => ?_⟩
      have gi := hQ o' x y i a (by omega)
      rw [S6 (12 + 68 * o' + 7 + i) (by omega), S6 (452 + 24 * w (12 + 68 * o' + 7 + k) + 2) (by omega), S6 (452 + 24 * w (12 + 68 * o' + 7 + k) + 0) (by omega), S6 (452 + 24 * w (12 + 68 * o' + 7 + i) + 2) (by omega), S6 (452 + 24 * w (12 + 68 * o' + 7 + i) + 0) (by omega)]
      exact g.2.2.2 i a b
  · -- tickets
    intro t x y
    rw [S6 9 (by omega)] at y
    have g := hT t x y
    rw [S6 (452 + 24 * t + 0) (by omega), S6 (452 + 24 * t + 1) (by omega), S6 (452 + 24 * t + 2) (by omega), S6 0 (by omega), S6 7 (by omega), S6 8 (by omega)]
    by_cases ht : t = w (12 + 68 * o + 7)
    · rw [ht, s3, s4]
      rw [ht] at g
      exact ⟨g.1, g.2.1, g.2.2.1, by omega, fun z => by omega, fun _ => by omega⟩
    · rw [S6 (452 + 24 * t + 3) (by omega), S6 (452 + 24 * t + 4) (by omega)]
      refine ⟨g.1, g.2.1, g.2.2.1, g.2.2.2.1, fun z => ?_, g.2.2.2.2.2⟩
      obtain ⟨z1, k, z2, z3, z4⟩ := g.2.2.2.2.1 z
      refine ⟨z1, ?_⟩
      have go' := hO _ g.2.1.1 g.2.1.2
      by_cases hoo : w (452 + 24 * t + 1) = o
      · rw [hoo] at z3 z4 ⊢
        have hk : ¬ k = 0 := by
          intro hk
          rw [hk, Int.add_zero] at z4
          exact ht z4.symm
        refine ⟨k - 1, by omega, by rw [s1]; omega, ?_⟩
        rw [s5 (k - 1) (by omega) (by omega), show 12 + 68 * o + 7 + (k - 1) + 1 = 12 + 68 * o + 7 + k by omega]
        exact z4
      · exact ⟨k, z2, by rw [S6 _ (by omega)]; exact z3, by rw [S6 _ (by omega)]; exact z4⟩
  · -- claims
    intro t x y
    rw [S6 9 (by omega)] at y
    have g := hC t x y
    rw [S6 (452 + 24 * t + 5) (by omega), S6 (452 + 24 * t + 6) (by omega), S6 0 (by omega)]
    have gp : ∀ p, 0 ≤ p → p < 16 → 0 ≤ w' (452 + 24 * t + 8 + p) ∧ w' (452 + 24 * t + 8 + p) ≤ w 0 + 1 := fun p a b => by
      rw [S6 _ (by omega)]
      exact g.2.2.2.2 p a b
    by_cases ht : t = w (12 + 68 * o + 7)
    · rw [ht] at g gp ⊢
      rw [s3, s4]
      refine ⟨g.1, g.2.1, fun z => ?_, fun _ => rfl, gp⟩
      have := g.2.2.2.1 (g.2.2.1 z).1
      omega
    · rw [S6 (452 + 24 * t + 3) (by omega), S6 (452 + 24 * t + 4) (by omega)]
      exact ⟨g.1, g.2.1, g.2.2.1, g.2.2.2.1, gp⟩
  · exact hK.k (fun i hi => S6 i (by omega)) hN
  · refine ⟨?_, ?_, fun k x y => ?_⟩
    · rw [fd _ (by omega) (by omega) (by omega) (by omega), S6 1 (by omega)]; exact a1
    · rw [fd _ (by omega) (by omega) (by omega) (by omega), S6 0 (by omega)]; exact a2
    · rw [fd _ (by omega) (by omega) (by omega) (by omega), S6 _ (by omega)]; exact a3 k x y
  · refine ⟨?_, fun o' x y => ?_⟩
    · rw [fd _ (by omega) (by omega) (by omega) (by omega), S6 7 (by omega)]; exact o1
    · rw [S6 7 (by omega)] at y
      have g := o2 o' x y
      rw [fd (s + 3) (by omega) (by omega) (by omega) (by omega), fd (s + 4) (by omega) (by omega) (by omega) (by omega), fd (s + 5) (by omega) (by omega) (by omega) (by omega), fd (s + 6) (by omega) (by omega) (by omega) (by omega), fd (s + 7) (by omega) (by omega) (by omega) (by omega), S6 (12 + 68 * o' + 0) (by omega), S6 (12 + 68 * o' + 1) (by omega), S6 (12 + 68 * o' + 2) (by omega), S6 (12 + 68 * o' + 3) (by omega), S6 (12 + 68 * o' + 4) (by omega)]
      refine ⟨g.1, g.2.1, g.2.2.1, g.2.2.2.1, g.2.2.2.2.1, ?_⟩
      by_cases hoo : o' = o
      · rw [hoo, q3, s1]
      · rw [q2 o' hoo, f1 _ (by omega) (by omega), S6 (12 + 68 * o' + 5) (by omega)]
        exact g.2.2.2.2.2
  · intro o' x y k u v
    rw [S6 7 (by omega)] at y
    have go' := hO o' x y
    by_cases hoo : o' = o
    · subst hoo
      rw [s1] at v
      rw [q4 k u (by omega), f1 _ (by omega) (by omega), s5 k u v]
      have := rQ o' x y (k + 1) (by omega) (by omega)
      rw [show o' * 16 + (k + 1) = o' * 16 + k + 1 by omega, show 12 + 68 * o' + 7 + (k + 1) = 12 + 68 * o' + 7 + k + 1 by omega] at this
      exact this
    · rw [S6 (12 + 68 * o' + 5) (by omega)] at v
      rw [q5 _ (by omega), f1 _ (by omega) (by omega), S6 _ (by omega)]
      exact rQ o' x y k u v
  · refine ⟨?_, fun t x y => ?_⟩
    · rw [fd _ (by omega) (by omega) (by omega) (by omega), S6 9 (by omega)]; exact t1
    · rw [S6 9 (by omega)] at y
      have g := t2 t x y
      rw [fd (s + 50) (by omega) (by omega) (by omega) (by omega), fd (s + 51) (by omega) (by omega) (by omega) (by omega), fd (s + 52) (by omega) (by omega) (by omega) (by omega), S6 (452 + 24 * t + 0) (by omega), S6 (452 + 24 * t + 1) (by omega), S6 (452 + 24 * t + 2) (by omega), q1 (s + 53) (by omega) (by omega), q1 (s + 54) (by omega) (by omega), ← hd1]
      by_cases ht : t = w (12 + 68 * o + 7)
      · rw [ht] at g ⊢
        rw [s3, s4]
        simp (disch := omega) only [ms_a, ms_e]
        exact ⟨g.1, g.2.1, g.2.2.1, trivial, trivial⟩
      · rw [S6 (452 + 24 * t + 3) (by omega), S6 (452 + 24 * t + 4) (by omega)]
        simp (disch := omega) only [ms_a, ms_i]
        exact g
/-! ===== an office serves ===== -/
theorem serveLoop {s o many : Int} {X : Prop} : ∀ (nc nr : Nat) (i : Int) (d : mD) (w : Row), 0 ≤ i → i ≤ many → GG w → RelN s d w → (X → RelB s d w) → 0 ≤ o ∧ o < w 7 → many = mmin (w (12 + 68 * o + 1)) (i + w (12 + 68 * o + 5)) → many - i ≤ (nc : Int) → 4 - i ≤ (nr : Int) →
    GG (LP_222_7 o nr (12 + 68 * o) i w) ∧ RelN s (lp_69_15 s o nc many i d).2 (LP_222_7 o nr (12 + 68 * o) i w) ∧ (X → RelB s (lp_69_15 s o nc many i d).2 (LP_222_7 o nr (12 + 68 * o) i w)) ∧ (lp_69_15 s o nc many i d).1 = many ∧ (∀ j, j ≤ 11 ∨ (452 ≤ j ∧ j < 1916 ∧ (5 ≤ (j - 452) % 24 ∨ (j - 452) % 24 ≤ 2)) ∨ (420 ≤ j ∧ j < 452) ∨ 1916 ≤ j → LP_222_7 o nr (12 + 68 * o) i w j = w j) ∧ srvN (LP_222_7 o nr (12 + 68 * o) i w) = srvN w + (many - i) := by
  intro nc
  induction nc with
  | zero =>
    intro nr i d w hi him hg h hX ho hm h1 h2
    have go := hg.2.1 o ho.1 ho.2
    have hmn := mmin_r (w (12 + 68 * o + 1)) (i + w (12 + 68 * o + 5))
    have e : lp_69_15 s o 0 many i d = (many, d) := by
      show st_69_15 s o _ many i d = _
      unfold st_69_15
      rw [if_neg (by omega)]
    have e2 : LP_222_7 o nr (12 + 68 * o) i w = w := by
      cases nr with
      | zero =>
        show ST_222_7 o _ (12 + 68 * o) i w = w
        unfold ST_222_7
        split
        · rw [if_neg (by omega)]
        · rfl
      | succ nr =>
        show ST_222_7 o _ (12 + 68 * o) i w = w
        unfold ST_222_7
        split
        · rw [if_neg (by omega)]
        · rfl
    rw [e, e2]
    exact ⟨hg, h, hX, rfl, fun _ _ => rfl, by omega⟩
  | succ nc ih =>
    intro nr i d w hi him hg h hX ho hm h1 h2
    have go := hg.2.1 o ho.1 ho.2
    have n7 := hg.1.1
    have n9 := hg.1.2.2.1
    have hmn := mmin_r (w (12 + 68 * o + 1)) (i + w (12 + 68 * o + 5))
    by_cases hc : i < many
    · cases nr with
      | zero => omega
      | succ nr =>
        have gq := hg.2.2.1 o ho.1 ho.2 0 (by omega) (by omega)
        simp only [Int.add_zero] at gq
        have hS := stepV (o := o) (w := w) (by omega) (by omega) (by omega)
        have e2 : LP_222_7 o (nr + 1) (12 + 68 * o) i w = LP_222_7 o nr (12 + 68 * o) (i + 1) (W_220 o 0 (ws (ws (ws w ((452 + (24 * (w ((12 + (68 * o)) + 7)))) + 4) 1) ((452 + (24 * (w ((12 + (68 * o)) + 7)))) + 3) (w 0)) ((12 + (68 * o)) + 6) ((w ((12 + (68 * o)) + 6)) + 1))) := by
          show ST_222_7 o _ (12 + 68 * o) i w = _
          unfold ST_222_7
          rw [if_pos (by omega), if_pos (by omega)]
        have e : lp_69_15 s o (nc + 1) many i d = lp_69_15 s o nc many (i + 1) (g_41 (s + 2) o 0 (g_97 (s + 49) (v_38 (s + 2) o 0 d) 1 (d s 2) d)) := by
          show st_69_15 s o _ many i d = _
          unfold st_69_15
          rw [if_pos hc]
        rw [e, e2]
        generalize W_220 o 0 (ws (ws (ws w ((452 + (24 * (w ((12 + (68 * o)) + 7)))) + 4) 1) ((452 + (24 * (w ((12 + (68 * o)) + 7)))) + 3) (w 0)) ((12 + (68 * o)) + 6) ((w ((12 + (68 * o)) + 6)) + 1)) = w' at *
        obtain ⟨g', r', x'⟩ := serve1 hg h hX ho (by omega) hS
        have hsn := serve1n hg ho (by omega) hS
        obtain ⟨s1, s2, s3, s4, s5, s6⟩ := hS
        have e7 : w' 7 = w 7 := s6 7 (by omega) (by omega) (by omega) (by omega) (by omega)
        obtain ⟨j1, j2, j3, j4, j5, j6⟩ := ih nr (i + 1) _ w' (by omega) (by omega) g' r' x' (by rw [e7]; exact ho) (by rw [s1, s6 (12 + 68 * o + 1) (by omega) (by omega) (by omega) (by omega) (by omega), hm]; congr 1; omega) (by omega) (by omega)
        exact ⟨j1, j2, j3, j4, fun j hj => by rw [j5 j hj, s6 j (by omega) (by omega) (by omega) (by omega) (by omega)], by rw [j6, hsn]; omega⟩
    · have e : lp_69_15 s o (nc + 1) many i d = (many, d) := by
        show st_69_15 s o _ many i d = _
        unfold st_69_15
        rw [if_neg hc]
      have e2 : LP_222_7 o nr (12 + 68 * o) i w = w := by
        cases nr with
        | zero =>
          show ST_222_7 o _ (12 + 68 * o) i w = w
          unfold ST_222_7
          split
          · rw [if_neg (by omega)]
          · rfl
        | succ nr =>
          show ST_222_7 o _ (12 + 68 * o) i w = w
          unfold ST_222_7
          split
          · rw [if_neg (by omega)]
          · rfl
      rw [e, e2]
      exact ⟨hg, h, hX, rfl, fun _ _ => rfl, by omega⟩
-- what an office does in an hour, in the reference
def hourO (o : Int) (w : Row) : Row := if w (12 + 68 * o + 4) = 0 then w else if w 0 % w (12 + 68 * o + 2) = 0 then W_222 o w else w
theorem serve {s o : Int} {d : mD} {w : Row} {X : Prop} (hg : GG w) (h : RelN s d w) (hX : X → RelB s d w) (ho : 0 ≤ o ∧ o < w 7) :
    GG (hourO o w) ∧ RelN s (g_69 s o d) (hourO o w) ∧ (X → RelB s (g_69 s o d) (hourO o w)) ∧ (∀ j, j ≤ 11 ∨ (452 ≤ j ∧ j < 1916 ∧ (5 ≤ (j - 452) % 24 ∨ (j - 452) % 24 ≤ 2)) ∨ (420 ≤ j ∧ j < 452) ∨ 1916 ≤ j → hourO o w j = w j) ∧ srvN (hourO o w) = srvN w + v_69 s o d := by
  have go := hg.2.1 o ho.1 ho.2
  have n7 := hg.1.1
  have n0 := hg.1.2.2.2.2.2.1
  obtain ⟨⟨a1, a2, a3⟩, ⟨o1, o2⟩, -⟩ := id h
  have g := o2 o ho.1 ho.2
  have e42 : v_42 (s + 2) o (d s 2) d = if w (12 + 68 * o + 4) = 0 then 0 else if w 0 % w (12 + 68 * o + 2) = 0 then mmin (w (12 + 68 * o + 1)) (w (12 + 68 * o + 5)) else 0 := by
    unfold v_42
    rw [show s + 2 + 5 = s + 7 by omega, show s + 2 + 3 = s + 5 by omega, show s + 2 + 2 = s + 4 by omega, show s + 2 + 6 = s + 8 by omega, g.2.1, g.2.2.1, g.2.2.2.2.1, g.2.2.2.2.2, a2]
    have hmx : mmax 1 (w (12 + 68 * o + 2)) = w (12 + 68 * o + 2) := by
      have := mmax_r 1 (w (12 + 68 * o + 2))
      omega
    rw [hmx]
  unfold v_69 g_69 f_69
  rw [e42]
  unfold hourO
  by_cases c1 : w (12 + 68 * o + 4) = 0
  · rw [if_pos c1, if_pos c1]
    have e : lp_69_15 s o ((0 : Int) - 0).toNat 0 0 d = (0, d) := by
      show st_69_15 s o _ 0 0 d = _
      unfold st_69_15
      rw [if_neg (by omega)]
    rw [e]
    exact ⟨hg, h, hX, fun _ _ => rfl, by simp⟩
  · rw [if_neg c1, if_neg c1]
    by_cases c2 : w 0 % w (12 + 68 * o + 2) = 0
    · rw [if_pos c2, if_pos c2]
      have hmn := mmin_r (w (12 + 68 * o + 1)) (w (12 + 68 * o + 5))
      unfold W_222
      obtain ⟨j1, j2, j3, j4, j5, j6⟩ := serveLoop (s := s) (o := o) (many := mmin (w (12 + 68 * o + 1)) (w (12 + 68 * o + 5))) (X := X) (mmin (w (12 + 68 * o + 1)) (w (12 + 68 * o + 5)) - 0 : Int).toNat (4 - 0 : Int).toNat 0 d w (by omega) (by omega) hg h hX ho (by rw [Int.zero_add]) (by omega) (by decide)
      exact ⟨j1, j2, j3, j5, by rw [j6, j4, Int.sub_zero]⟩
    · rw [if_neg c2, if_neg c2]
      have e : lp_69_15 s o ((0 : Int) - 0).toNat 0 0 d = (0, d) := by
        show st_69_15 s o _ 0 0 d = _
        unfold st_69_15
        rw [if_neg (by omega)]
      rw [e]
      exact ⟨hg, h, hX, fun _ _ => rfl, by simp⟩
/-! ===== tokens are made: the class's makeTokens and the reference's makes ===== -/
theorem lp216 {p h : Int} : ∀ (n : Nat) (k : Int) (w : Row), 0 ≤ k → w 10 - k ≤ (n : Int) → (LP_216_2 p h n k w = 0 ∨ LP_216_2 p h n k w = 1) ∧ (LP_216_2 p h n k w = 0 ↔ ¬ ∃ j, k ≤ j ∧ j < w 10 ∧ w (1916 + 5 * j + 2) = h ∧ perO w j = p) := by
  intro n
  induction n with
  | zero =>
    intro k w h0 hn
    have e : LP_216_2 p h 0 k w = 0 := by
      show ST_216_2 p h _ k w = 0
      unfold ST_216_2
      rw [if_neg (by omega)]
    rw [e]
    exact ⟨Or.inl rfl, ⟨fun _ ⟨j, a, b, _⟩ => by omega, fun _ => rfl⟩⟩
  | succ n ih =>
    intro k w h0 hn
    have i := ih (k + 1) w (by omega) (by omega)
    by_cases c1 : k < w 10
    · by_cases c2 : w (1916 + 5 * k + 2) = h
      · by_cases c3 : perO w k = p
        · have e : LP_216_2 p h (n + 1) k w = 1 := by
            show ST_216_2 p h _ k w = 1
            unfold ST_216_2
            rw [if_pos c1, if_pos c2, if_pos (show V_215 k w = p from c3)]
          rw [e]
          exact ⟨Or.inr rfl, ⟨fun z => by omega, fun z => absurd ⟨k, by omega, c1, c2, c3⟩ z⟩⟩
        · have e : LP_216_2 p h (n + 1) k w = LP_216_2 p h n (k + 1) w := by
            show ST_216_2 p h _ k w = _
            unfold ST_216_2
            rw [if_pos c1, if_pos c2, if_neg (show ¬ V_215 k w = p from c3)]
          rw [e]
          refine ⟨i.1, i.2.trans ⟨fun z ⟨j, a, b, c, dd⟩ => z ⟨j, ?_, b, c, dd⟩, fun z ⟨j, a, b, c, dd⟩ => z ⟨j, by omega, b, c, dd⟩⟩⟩
          by_cases hj : j = k
          · rw [hj] at dd; exact absurd dd c3
          · omega
      · have e : LP_216_2 p h (n + 1) k w = LP_216_2 p h n (k + 1) w := by
          show ST_216_2 p h _ k w = _
          unfold ST_216_2
          rw [if_pos c1, if_neg c2]
        rw [e]
        refine ⟨i.1, i.2.trans ⟨fun z ⟨j, a, b, c, dd⟩ => z ⟨j, ?_, b, c, dd⟩, fun z ⟨j, a, b, c, dd⟩ => z ⟨j, by omega, b, c, dd⟩⟩⟩
        by_cases hj : j = k
        · rw [hj] at c; exact absurd c c2
        · omega
    · have e : LP_216_2 p h (n + 1) k w = 0 := by
        show ST_216_2 p h _ k w = 0
        unfold ST_216_2
        rw [if_neg c1]
      rw [e]
      exact ⟨Or.inl rfl, ⟨fun _ ⟨j, a, b, _⟩ => by omega, fun _ => rfl⟩⟩
theorem v216 {p h : Int} {w : Row} (h10 : 0 ≤ w 10 ∧ w 10 ≤ 200) : (V_216 p h w = 0 ∨ V_216 p h w = 1) ∧ (V_216 p h w = 0 ↔ ¬ ∃ j, 0 ≤ j ∧ j < w 10 ∧ w (1916 + 5 * j + 2) = h ∧ perO w j = p) := lp216 (200 - 0 : Int).toNat 0 w (by decide) (by rw [show (((200 - 0 : Int).toNat : Nat) : Int) = 200 by decide]; omega)
theorem lp217 {p : Int} : ∀ (n : Nat) (a k : Int) (w : Row), 0 ≤ k → k ≤ w 10 → w 10 - k ≤ (n : Int) → LP_217_4 p n a k w = a + (csum (fun k => if perO w k = p ∧ w (1916 + 5 * k + 4) / 20 = w 0 / 20 then 1 else 0) (w 10).toNat - csum (fun k => if perO w k = p ∧ w (1916 + 5 * k + 4) / 20 = w 0 / 20 then 1 else 0) k.toNat) := by
  intro n
  induction n with
  | zero =>
    intro a k w h0 hk hn
    have : k = w 10 := by omega
    rw [this]
    show ST_217_4 p _ a (w 10) w = _
    unfold ST_217_4
    rw [if_neg (by omega)]
    omega
  | succ n ih =>
    intro a k w h0 hk hn
    by_cases c1 : k < w 10
    · have i := fun a => ih a (k + 1) w (by omega) (by omega) (by omega)
      rw [csum_s _ h0] at i
      show ST_217_4 p _ a k w = _
      unfold ST_217_4
      rw [if_pos c1]
      by_cases c2 : perO w k = p
      · rw [if_pos (show V_215 k w = p from c2)]
        by_cases c3 : w (1916 + 5 * k + 4) / 20 = w 0 / 20
        · rw [if_pos c3, i, if_pos ⟨c2, c3⟩]
          omega
        · rw [if_neg c3, i, if_neg (fun z => c3 z.2)]
          omega
      · rw [if_neg (show ¬ V_215 k w = p from c2), i, if_neg (fun z => c2 z.1)]
        omega
    · have : k = w 10 := by omega
      rw [this]
      show ST_217_4 p _ a (w 10) w = _
      unfold ST_217_4
      rw [if_neg (by omega)]
      omega
theorem v217 {p : Int} {w : Row} (h10 : 0 ≤ w 10 ∧ w 10 ≤ 200) : V_217 p w = madeR w p := by
  have h := lp217 (p := p) (200 - 0 : Int).toNat 0 0 w (by decide) h10.1 (by rw [show (((200 - 0 : Int).toNat : Nat) : Int) = 200 by decide]; omega)
  unfold V_217 madeR
  rw [h]
  show 0 + (_ - csum _ 0) = _
  simp only [csum]
  omega
theorem g7_ne {x h : Int} {d : mD} {b : Int} (hb : ¬ b = x + 1) : g_7 x h d b = d b := by
  unfold g_7
  split
  · rfl
  · split
    · rfl
    · funext j
      exact ms_a hb
theorem RelH.has {s : Int} {d : mD} {w : Row} (hH : RelH s d w) (h10 : 0 ≤ w 10 ∧ w 10 ≤ 200) {p h : Int} (p0 : 0 ≤ p) (p1 : p < w 8) (h0 : 0 ≤ h) (h1 : h ≤ 999) : v_6 (s + 10 + 6 + (1 + 2 * p)) h d = V_216 p h w := by
  have a := hH p p0 p1 h h0 h1
  obtain ⟨b, c⟩ := v216 (p := p) (h := h) h10
  rw [has_iff h0 h1, show s + 10 + 6 + (1 + 2 * p) + 1 = s + 18 + 2 * p by omega]
  by_cases z : lb (d (s + 18 + 2 * p) (h / 64)) (h % 64).toNat = true
  · rw [if_pos z]
    rcases b with b | b
    · exact absurd (a.mp z) (c.mp b)
    · exact b.symm
  · rw [if_neg z]
    have := c.mpr (fun q => z (a.mpr q))
    exact this.symm
def RelB' (p m s : Int) (d : mD) (w : Row) : Prop := ∀ q, 0 ≤ q → q < w 8 → d (s + 13) q + (if q = p then m else 0) = madeR w q ∧ d (s + 14) q = attR w q ∧ ∀ r, 0 ≤ r → r < 16 → (ib (d (s + 15) q) r.toNat = true ↔ ∃ t, 0 ≤ t ∧ t < w 9 ∧ w (452 + 24 * t + 0) = r ∧ attd w t q)
def TokW (p t h : Int) (w w' : Row) : Prop := w' 10 = w 10 + 1 ∧ w' (1916 + 5 * w 10 + 0) = p ∧ w' (1916 + 5 * w 10 + 1) = t ∧ w' (1916 + 5 * w 10 + 2) = h ∧ w' (1916 + 5 * w 10 + 3) = 0 ∧ w' (1916 + 5 * w 10 + 4) = w 0 ∧ ∀ i, ¬ i = 10 → ¬ (1916 + 5 * w 10 ≤ i ∧ i < 1916 + 5 * w 10 + 5) → w' i = w i
theorem tokW {p t h : Int} {w : Row} (h10 : 0 ≤ w 10 ∧ w 10 ≤ 200) : TokW p t h w (ws (ws (ws (ws (ws (ws w ((1916 + (5 * (w 10))) + 0) p) ((1916 + (5 * (w 10))) + 1) t) ((1916 + (5 * (w 10))) + 2) h) ((1916 + (5 * (w 10))) + 3) 0) ((1916 + (5 * (w 10))) + 4) (w 0)) 10 ((w 10) + 1)) := by
  refine ⟨?_, ?_, ?_, ?_, ?_, ?_, fun i h1 h2 => ?_⟩ <;> simp (disch := omega) only [wse, wsn]
theorem mk1 {s p t h m : Int} {d : mD} {w w' : Row} (hg : GG w) (hr : RelN s d w) (hB : RelB' p m s d w) (ht : 0 ≤ t ∧ t < w 9) (hp : w (452 + 24 * t + 0) = p) (hh : 0 ≤ h ∧ h ≤ 999) (h10 : w 10 < 200) (hv : V_216 p h w = 0) (hS : TokW p t h w w') :
    GG w' ∧ RelN s (g_109 (s + 57) p t h (g_7 (s + 10 + 6 + (1 + 2 * p)) h d)) w' ∧ RelB' p (m + 1) s (g_109 (s + 57) p t h (g_7 (s + 10 + 6 + (1 + 2 * p)) h d)) w' ∧ madeR w' p = madeR w p + 1 := by
  obtain ⟨hN, hO, hQ, hT, hC, hK, hR⟩ := hg
  obtain ⟨n7, n8, n9, n10, n11, n0, n1, n2, n3, n4, n5, n6⟩ := id hN
  obtain ⟨rA, rO, rQ, rP, rT, rC, ⟨k1, k2⟩, rR, rH⟩ := hr
  obtain ⟨s1, s2, s3, s4, s5, s7, s6⟩ := hS
  have gt := hT t ht.1 ht.2
  rw [hp] at gt
  have hno := (v216 (p := p) (h := h) n10).2.mp hv
  have e10 : g_7 (s + 10 + 6 + (1 + 2 * p)) h d (s + 57) 0 = w 10 := by rw [g7_ne (by omega)]; exact k1
  have eg : g_109 (s + 57) p t h (g_7 (s + 10 + 6 + (1 + 2 * p)) h d) = mset (mset (mset (mset (mset (g_7 (s + 10 + 6 + (1 + 2 * p)) h d) (s + 58) (w 10) p) (s + 59) (w 10) t) (s + 60) (w 10) h) (s + 61) (w 10) 0) (s + 57) 0 (w 10 + 1) := by
    unfold g_109
    rw [e10, if_pos (by omega)]
    simp only [Int.add_assoc, Int.reduceAdd]
  generalize hd : g_109 (s + 57) p t h (g_7 (s + 10 + 6 + (1 + 2 * p)) h d) = d' at *
  have fd : ∀ b, ¬ (s + 57 ≤ b ∧ b ≤ s + 61) → ¬ b = s + 18 + 2 * p → d' b = d b := fun b x y => by
    rw [eg]
    funext j
    simp (disch := omega) only [ms_a]
    rw [g7_ne (by omega)]
  have fh : ∀ q h', d' (s + 18 + 2 * q) h' = g_7 (s + 10 + 6 + (1 + 2 * p)) h d (s + 18 + 2 * q) h' ∨ ¬ (0 ≤ q ∧ q < 16) := fun q h' => by
    by_cases c : 0 ≤ q ∧ q < 16
    · refine Or.inl ?_
      rw [eg]
      simp (disch := omega) only [ms_a]
    · exact Or.inr c
  have pO : ∀ k, 0 ≤ k → k < w 10 → perO w' k = perO w k := fun k a b => by
    have g := hK k a b
    unfold perO
    rw [s6 (1916 + 5 * k + 1) (by omega) (by omega), s6 (452 + 24 * w (1916 + 5 * k + 1) + 0) (by omega) (by omega)]
  have pN : perO w' (w 10) = p := by
    unfold perO
    rw [s3, s6 _ (by omega) (by omega), hp]
  have mR : ∀ q, madeR w' q = madeR w q + (if p = q then 1 else 0) := fun q => by
    unfold madeR
    rw [s1, csum_s _ n10.1, pN, s7, s6 0 (by omega) (by omega)]
    rw [csum_congr (f := fun k => if perO w' k = q ∧ w' (1916 + 5 * k + 4) / 20 = w 0 / 20 then 1 else 0) (g := fun k => if perO w k = q ∧ w (1916 + 5 * k + 4) / 20 = w 0 / 20 then 1 else 0) (fun k a b => by
      show (if perO w' k = q ∧ w' (1916 + 5 * k + 4) / 20 = w 0 / 20 then (1 : Int) else 0) = if perO w k = q ∧ w (1916 + 5 * k + 4) / 20 = w 0 / 20 then 1 else 0
      rw [pO k a (by omega), s6 (1916 + 5 * k + 4) (by omega) (by omega)])]
    simp
  refine ⟨⟨?_, hO.k (fun i hi => s6 i (by omega) (by omega)) hN, hQ.k (fun i hi => s6 i (by omega) (by omega)) hN hO, hT.k (fun i hi => s6 i (by omega) (by omega)) hN hO, hC.k (fun i hi => s6 i (by omega) (by omega)) hN, ?_, ?_⟩, ⟨?_, ?_, ?_, ?_, ?_, ?_, ?_, ?_, ?_⟩, ?_, by rw [mR, if_pos rfl]⟩
  · unfold GN
    rw [s1, s6 0 (by omega) (by omega), s6 1 (by omega) (by omega), s6 2 (by omega) (by omega), s6 3 (by omega) (by omega), s6 4 (by omega) (by omega), s6 5 (by omega) (by omega), s6 6 (by omega) (by omega), s6 7 (by omega) (by omega), s6 8 (by omega) (by omega), s6 9 (by omega) (by omega), s6 11 (by omega) (by omega)]
    omega
  · -- tokens
    intro k x y
    rw [s1] at y
    rw [s6 0 (by omega) (by omega), s6 8 (by omega) (by omega), s6 9 (by omega) (by omega)]
    by_cases hk : k = w 10
    · rw [hk, s2, s3, s4, s5, s7, pN]
      refine ⟨by omega, ht, hh, by omega, by omega, fun i a b => ?_⟩
      rw [s6 (1916 + 5 * i + 2) (by omega) (by omega), pO i a b]
      exact fun z => hno ⟨i, a, b, z.1, z.2⟩
    · have g := hK k x (by omega)
      rw [s6 (1916 + 5 * k + 0) (by omega) (by omega), s6 (1916 + 5 * k + 1) (by omega) (by omega), s6 (1916 + 5 * k + 2) (by omega) (by omega), s6 (1916 + 5 * k + 3) (by omega) (by omega), s6 (1916 + 5 * k + 4) (by omega) (by omega), pO k x (by omega)]
      refine ⟨g.1, g.2.1, g.2.2.1, g.2.2.2.1, g.2.2.2.2.1, fun i a b => ?_⟩
      rw [s6 (1916 + 5 * i + 2) (by omega) (by omega), pO i a (by omega)]
      exact g.2.2.2.2.2 i a b
  · refine ⟨?_, fun k x y => ?_⟩
    · rw [s1, csum_s _ n10.1, s5, s6 11 (by omega) (by omega), hR.1]
      rw [csum_congr (f := fun k => if w' (1916 + 5 * k + 3) = 1 then 1 else 0) (g := fun k => if w (1916 + 5 * k + 3) = 1 then 1 else 0) (fun k a b => by
        show (if w' (1916 + 5 * k + 3) = 1 then (1 : Int) else 0) = if w (1916 + 5 * k + 3) = 1 then 1 else 0
        rw [s6 (1916 + 5 * k + 3) (by omega) (by omega)])]
      simp
    · rw [s6 11 (by omega) (by omega)] at y
      have g := hR.2 k x y
      rw [s6 (2916 + k) (by omega) (by omega), s1, s6 (1916 + 5 * w (2916 + k) + 3) (by omega) (by omega)]
      refine ⟨by omega, g.2.1, fun i a b => ?_⟩
      rw [s6 (2916 + i) (by omega) (by omega)]
      exact g.2.2 i a b
  · exact rA.k (fun b x => fd b (by omega) (by omega)) (fun i hi => s6 i (by omega) (by omega))
  · exact rO.k (fun b x y => fd b (by omega) (by omega)) (fun i hi => s6 i (by omega) (by omega)) n7
  · exact rQ.k (fd _ (by omega) (by omega)) (fun i hi => s6 i (by omega) (by omega)) n7 hO
  · exact rP.k (fun b x y => fd b (by omega) (by omega)) (fun i hi => s6 i (by omega) (by omega)) n8
  · exact rT.k (fun b x y => fd b (by omega) (by omega)) (fun i hi => s6 i (by omega) (by omega)) n9
  · exact rC.k (fun b x => fd b (by omega) (by omega)) (fun i hi => s6 i (by omega) (by omega)) n9
  · refine ⟨by rw [eg, s1]; exact ms_e rfl rfl, fun k x y => ?_⟩
    rw [s1] at y
    rw [eg]
    by_cases hk : k = w 10
    · rw [hk, s2, s3, s4, s5]
      simp (disch := omega) only [ms_a, ms_e]
      exact ⟨trivial, trivial, trivial, trivial⟩
    · have g := k2 k x (by omega)
      rw [s6 (1916 + 5 * k + 0) (by omega) (by omega), s6 (1916 + 5 * k + 1) (by omega) (by omega), s6 (1916 + 5 * k + 2) (by omega) (by omega), s6 (1916 + 5 * k + 3) (by omega) (by omega)]
      simp (disch := omega) only [ms_a, ms_i]
      rw [g7_ne (by omega), g7_ne (by omega), g7_ne (by omega), g7_ne (by omega)]
      exact g
  · refine rR.k ?_ (fd _ (by omega) (by omega)) (fun i hi => s6 i (by omega) (by omega)) n11
    rw [eg]
    simp (disch := omega) only [ms_a, ms_i]
    rw [g7_ne (by omega)]
  · intro q x y h' u v
    rw [s6 8 (by omega) (by omega)] at y
    have ga := rH q x y h' u v
    have gw : lb (d' (s + 18 + 2 * q) (h' / 64)) (h' % 64).toNat = true ↔ (q = p ∧ h' = h) ∨ lb (d (s + 18 + 2 * q) (h' / 64)) (h' % 64).toNat = true := by
      rcases fh q (h' / 64) with e | e
      · rw [e]
        by_cases hqp : q = p
        · subst hqp
          have a1 := add_has (d := d) (x := s + 10 + 6 + (1 + 2 * q)) hh.1 hh.2 u v
          rw [has_iff u v, has_iff u v, show s + 10 + 6 + (1 + 2 * q) + 1 = s + 18 + 2 * q by omega] at a1
          by_cases hhh : h' = h
          · rw [if_pos hhh] at a1
            constructor
            · intro _; exact Or.inl ⟨rfl, hhh⟩
            · intro _
              by_cases z : lb (g_7 (s + 10 + 6 + (1 + 2 * q)) h d (s + 18 + 2 * q) (h' / 64)) (h' % 64).toNat = true
              · exact z
              · rw [if_neg z] at a1; omega
          · rw [if_neg hhh] at a1
            constructor
            · intro z
              rw [if_pos z] at a1
              refine Or.inr ?_
              by_cases z2 : lb (d (s + 18 + 2 * q) (h' / 64)) (h' % 64).toNat = true
              · exact z2
              · rw [if_neg z2] at a1; omega
            · rintro (z | z)
              · exact absurd z.2 hhh
              · rw [if_pos z] at a1
                by_cases z2 : lb (g_7 (s + 10 + 6 + (1 + 2 * q)) h d (s + 18 + 2 * q) (h' / 64)) (h' % 64).toNat = true
                · exact z2
                · rw [if_neg z2] at a1; omega
        · rw [g7_ne (by omega)]
          exact ⟨fun z => Or.inr z, fun z => z.elim (fun z => absurd z.1 hqp) id⟩
      · omega
    rw [gw, ga]
    constructor
    · rintro (⟨z1, z2⟩ | ⟨k, z1, z2, z3, z4⟩)
      · exact ⟨w 10, by omega, by omega, by rw [s4, z2], by rw [pN, z1]⟩
      · exact ⟨k, z1, by omega, by rw [s6 _ (by omega) (by omega)]; exact z3, by rw [pO k z1 z2]; exact z4⟩
    · rintro ⟨k, z1, z2, z3, z4⟩
      by_cases hk : k = w 10
      · rw [hk, s4] at z3
        rw [hk, pN] at z4
        exact Or.inl ⟨z4.symm, z3.symm⟩
      · rw [s6 _ (by omega) (by omega)] at z3
        rw [pO k z1 (by omega)] at z4
        exact Or.inr ⟨k, z1, by omega, z3, z4⟩
  · intro q x y
    rw [s6 8 (by omega) (by omega)] at y
    obtain ⟨g1, g2, g3⟩ := hB q x y
    rw [fd (s + 13) (by omega) (by omega), fd (s + 14) (by omega) (by omega), fd (s + 15) (by omega) (by omega), mR]
    refine ⟨?_, ?_, fun r a b => ?_⟩
    · rw [← g1]
      by_cases hq : q = p
      · subst hq
        simp only [if_true]
        omega
      · rw [if_neg hq, if_neg hq, if_neg (fun z => hq z.symm)]
        omega
    · rw [g2]
      unfold attR
      rw [s6 9 (by omega) (by omega)]
      exact csum_congr (fun t a b => by rw [s6 (452 + 24 * t + 8 + q) (by omega) (by omega), s6 0 (by omega) (by omega)])
    · rw [g3 r a b]
      constructor
      · rintro ⟨t, z1, z2, z3, z4⟩
        refine ⟨t, z1, by rw [s6 9 (by omega) (by omega)]; exact z2, by rw [s6 _ (by omega) (by omega)]; exact z3, ?_⟩
        unfold attd at *
        rw [s6 (452 + 24 * t + 8 + q) (by omega) (by omega), s6 0 (by omega) (by omega)]
        exact z4
      · rintro ⟨t, z1, z2, z3, z4⟩
        rw [s6 9 (by omega) (by omega)] at z2
        rw [s6 _ (by omega) (by omega)] at z3
        refine ⟨t, z1, z2, z3, ?_⟩
        unfold attd at *
        rw [s6 (452 + 24 * t + 8 + q) (by omega) (by omega), s6 0 (by omega) (by omega)] at z4
        exact z4
theorem mkIdle {t p y z : Int} : ∀ (n : Nat) (h : Int) (w : Row), w (452 + 24 * t + 3) - h ≤ (n : Int) → ¬ (z < w 5 ∧ w 10 < 200) → LP_218_41 t n p z y h w = (y, w) := by
  intro n
  induction n with
  | zero =>
    intro h w hn hc
    show ST_218_41 t _ p z y h w = _
    unfold ST_218_41
    rw [if_neg (by omega)]
  | succ n ih =>
    intro h w hn hc
    show ST_218_41 t _ p z y h w = _
    unfold ST_218_41
    by_cases c1 : h < w (452 + 24 * t + 3)
    · rw [if_pos c1]
      by_cases c2 : z < w 5
      · rw [if_pos c2, if_neg (fun z2 => hc ⟨c2, z2⟩)]
        exact ih (h + 1) w (by omega) hc
      · rw [if_neg c2]
        exact ih (h + 1) w (by omega) hc
    · rw [if_neg c1]
theorem RelB'.fin {p m s : Int} {d : mD} {w : Row} (h : RelB' p m s d w) : RelB s (mset d (s + 10 + 3) p (d (s + 10 + 3) p + m)) w := by
  intro q x y
  obtain ⟨g1, g2, g3⟩ := h q x y
  rw [show s + 10 + 3 = s + 13 by omega]
  by_cases hq : q = p
  · subst hq
    rw [if_pos rfl] at g1
    simp (disch := omega) only [ms_a, ms_e]
    exact ⟨g1, g2, g3⟩
  · rw [if_neg hq, Int.add_zero] at g1
    simp (disch := omega) only [ms_a, ms_i]
    exact ⟨g1, g2, g3⟩
theorem RelN.made {p v s : Int} {d : mD} {w : Row} (hg : GG w) (h : RelN s d w) : RelN s (mset d (s + 10 + 3) p v) w := by
  obtain ⟨hN, hO, hQ, hT, hC, hK, hR⟩ := hg
  obtain ⟨n7, n8, n9, n10, n11, n0, n1, n2, n3, n4, n5, n6⟩ := id hN
  obtain ⟨rA, rO, rQ, rP, rT, rC, rK, rR, rH⟩ := h
  have fd : ∀ b, ¬ b = s + 13 → mset d (s + 10 + 3) p v b = d b := fun b x => by
    funext j
    exact ms_a (by omega)
  exact ⟨rA.k (fun b x => fd b (by omega)) (fun _ _ => rfl), rO.k (fun b x y => fd b (by omega)) (fun _ _ => rfl) n7, rQ.k (fd _ (by omega)) (fun _ _ => rfl) n7 hO, rP.k (fun b x y => fd b (by omega)) (fun _ _ => rfl) n8, rT.k (fun b x y => fd b (by omega)) (fun _ _ => rfl) n9, rC.k (fun b x => fd b (by omega)) (fun _ _ => rfl) n9, rK.k (by rw [fd _ (by omega)]) (fun b x y => fd b (by omega)) (fun _ _ => rfl) n10, rR.k (by rw [fd _ (by omega)]) (fd _ (by omega)) (fun _ _ => rfl) n11, rH.k (fun b x y => fd b (by omega)) (fun _ _ => rfl) n8 n9 n10 hK.of⟩
theorem mkLoop {s t p en room : Int} : ∀ (nc nr : Nat) (m y h : Int) (d : mD) (w : Row), GG w → RelN s d w → RelB' p m s d w → 0 ≤ t ∧ t < w 9 → w (452 + 24 * t + 0) = p → w (452 + 24 * t + 3) = en → en ≤ 999 → 0 ≤ h → room = mmin (w 5 - (madeR w p - m)) (200 - (w 10 - m)) → en - h ≤ (nc : Int) → en - h ≤ (nr : Int) →
    (lp_81_48 s t nc p en room m h d).1 - m = (LP_218_41 t nr p (madeR w p) y h w).1 - y ∧ GG (LP_218_41 t nr p (madeR w p) y h w).2 ∧ RelN s (lp_81_48 s t nc p en room m h d).2 (LP_218_41 t nr p (madeR w p) y h w).2 ∧ RelB s (lp_81_48 s t nc p en room m h d).2 (LP_218_41 t nr p (madeR w p) y h w).2 ∧ ∀ i, ¬ i = 10 → ¬ (1916 ≤ i ∧ i < 2916) → (LP_218_41 t nr p (madeR w p) y h w).2 i = w i := by
  intro nc
  induction nc with
  | zero =>
    intro nr m y h d w hg hr hB ht hp he h9 h0 hm h1 h2
    have e : lp_81_48 s t 0 p en room m h d = (m, mset d (s + 10 + 3) p (d (s + 10 + 3) p + m)) := by
      show st_81_48 s t _ p en room m h d = _
      unfold st_81_48
      rw [if_neg (by omega)]
    have e2 : LP_218_41 t nr p (madeR w p) y h w = (y, w) := by
      cases nr with
      | zero =>
        show ST_218_41 t _ p (madeR w p) y h w = _
        unfold ST_218_41
        rw [if_neg (by omega)]
      | succ nr =>
        show ST_218_41 t _ p (madeR w p) y h w = _
        unfold ST_218_41
        rw [if_neg (by omega)]
    rw [e, e2]
    exact ⟨by omega, hg, hr.made hg, hB.fin, fun _ _ _ => rfl⟩
  | succ nc ih =>
    intro nr m y h d w hg hr hB ht hp he h9 h0 hm h1 h2
    have n10 := hg.1.2.2.2.1
    have n9 := hg.1.2.2.1
    have n8 := hg.1.2.1
    have gt := hg.2.2.2.1 t ht.1 ht.2
    rw [hp] at gt
    have hmn := mmin_r (w 5 - (madeR w p - m)) (200 - (w 10 - m))
    by_cases c1 : h < en
    · cases nr with
      | zero => omega
      | succ nr =>
        by_cases c2 : m < room
        · have hv := hr.2.2.2.2.2.2.2.2.has n10 gt.1.1 gt.1.2 h0 (by omega : h ≤ 999)
          by_cases c3 : V_216 p h w = 0
          · have hS := tokW (p := p) (t := t) (h := h) n10
            have e2 : LP_218_41 t (nr + 1) p (madeR w p) y h w = LP_218_41 t nr p (madeR w p + 1) (y + 1) (h + 1) (ws (ws (ws (ws (ws (ws w ((1916 + (5 * (w 10))) + 0) p) ((1916 + (5 * (w 10))) + 1) t) ((1916 + (5 * (w 10))) + 2) h) ((1916 + (5 * (w 10))) + 3) 0) ((1916 + (5 * (w 10))) + 4) (w 0)) 10 ((w 10) + 1)) := by
              show ST_218_41 t _ p (madeR w p) y h w = _
              unfold ST_218_41
              rw [if_pos (by omega), if_pos (by omega), if_pos (by omega), if_pos c3]
            have e : lp_81_48 s t (nc + 1) p en room m h d = lp_81_48 s t nc p en room (m + 1) (h + 1) (g_109 (s + 57) p t h (g_7 (s + 10 + 6 + (1 + 2 * p)) h d)) := by
              show st_81_48 s t _ p en room m h d = _
              unfold st_81_48
              rw [if_pos c1, if_pos c2, if_pos (by rw [hv]; exact c3)]
            rw [e, e2]
            generalize (ws (ws (ws (ws (ws (ws w ((1916 + (5 * (w 10))) + 0) p) ((1916 + (5 * (w 10))) + 1) t) ((1916 + (5 * (w 10))) + 2) h) ((1916 + (5 * (w 10))) + 3) 0) ((1916 + (5 * (w 10))) + 4) (w 0)) 10 ((w 10) + 1)) = w' at *
            obtain ⟨g', r', b', mm⟩ := mk1 hg hr hB ht hp ⟨h0, by omega⟩ (by omega) c3 hS
            obtain ⟨s1, s2, s3, s4, s5, s7, s6⟩ := hS
            obtain ⟨j1, j2, j3, j4, j5⟩ := ih nr (m + 1) (y + 1) (h + 1) _ w' g' r' b' (by rw [s6 9 (by omega) (by omega)]; exact ht) (by rw [s6 _ (by omega) (by omega)]; exact hp) (by rw [s6 _ (by omega) (by omega)]; exact he) h9 (by omega) (by rw [s6 5 (by omega) (by omega), mm, s1, hm]; congr 1 <;> omega) (by omega) (by omega)
            rw [mm] at j1 j2 j3 j4 j5
            exact ⟨by omega, j2, j3, j4, fun i a b => by rw [j5 i a b, s6 i a (by omega)]⟩
          · have e2 : LP_218_41 t (nr + 1) p (madeR w p) y h w = LP_218_41 t nr p (madeR w p) y (h + 1) w := by
              show ST_218_41 t _ p (madeR w p) y h w = _
              unfold ST_218_41
              rw [if_pos (by omega), if_pos (by omega), if_pos (by omega), if_neg c3]
            have e : lp_81_48 s t (nc + 1) p en room m h d = lp_81_48 s t nc p en room m (h + 1) d := by
              show st_81_48 s t _ p en room m h d = _
              unfold st_81_48
              rw [if_pos c1, if_pos c2, if_neg (by rw [hv]; exact c3)]
            rw [e, e2]
            exact ih nr m y (h + 1) d w hg hr hB ht hp he h9 (by omega) hm (by omega) (by omega)
        · have e : lp_81_48 s t (nc + 1) p en room m h d = (m, mset d (s + 10 + 3) p (d (s + 10 + 3) p + m)) := by
            show st_81_48 s t _ p en room m h d = _
            unfold st_81_48
            rw [if_pos c1, if_neg c2]
          rw [e, mkIdle (nr + 1) h w (by omega) (by omega)]
          exact ⟨by omega, hg, hr.made hg, hB.fin, fun _ _ _ => rfl⟩
    · have e : lp_81_48 s t (nc + 1) p en room m h d = (m, mset d (s + 10 + 3) p (d (s + 10 + 3) p + m)) := by
        show st_81_48 s t _ p en room m h d = _
        unfold st_81_48
        rw [if_neg c1]
      have e2 : LP_218_41 t nr p (madeR w p) y h w = (y, w) := by
        cases nr with
        | zero =>
          show ST_218_41 t _ p (madeR w p) y h w = _
          unfold ST_218_41
          rw [if_neg (by omega)]
        | succ nr =>
          show ST_218_41 t _ p (madeR w p) y h w = _
          unfold ST_218_41
          rw [if_neg (by omega)]
      rw [e, e2]
      exact ⟨by omega, hg, hr.made hg, hB.fin, fun _ _ _ => rfl⟩
theorem makes {s t : Int} {d : mD} {w : Row} (hg : GG w) (h : Rel s d w) (ht : 0 ≤ t ∧ t < w 9) (hs : w (452 + 24 * t + 4) = 1) (h9 : w (452 + 24 * t + 3) ≤ 999) :
    v_81 s t d = V_218 t w ∧ GG (W_218 t w) ∧ Rel s (g_81 s t d) (W_218 t w) ∧ ∀ i, ¬ i = 10 → ¬ (1916 ≤ i ∧ i < 2916) → W_218 t w i = w i := by
  obtain ⟨n7, n8, n9, n10, n11, n0, n1, n2, n3, n4, n5, n6⟩ := id hg.1
  obtain ⟨hn, hB⟩ := h.n
  obtain ⟨⟨a1, a2, a3⟩, -, -, -, ⟨t1, t2⟩, -, ⟨k1, -⟩, -, -⟩ := id hn
  have gt := hg.2.2.2.1 t ht.1 ht.2
  have gt2 := t2 t ht.1 ht.2
  have gB := hB _ gt.1.1 gt.1.2
  have hB' : RelB' (w (452 + 24 * t + 0)) 0 s d w := fun q x y => by
    obtain ⟨g1, g2, g3⟩ := hB q x y
    refine ⟨?_, g2, g3⟩
    split <;> omega
  have e3 : d (s + 1) 3 = w 5 := a3 3 (by omega) (by omega)
  have e0 : d (s + 1) 0 = w 2 := a3 0 (by omega) (by omega)
  have e : f_81 s t d = lp_81_48 s t (1300 - (w (452 + 24 * t + 2) + w 2) : Int).toNat (w (452 + 24 * t + 0)) (w (452 + 24 * t + 3)) (mmin (w 5 - (madeR w (w (452 + 24 * t + 0)) - 0)) (200 - (w 10 - 0))) 0 (w (452 + 24 * t + 2) + w 2) d := by
    unfold f_81 v_79
    rw [show s + 49 + 3 = s + 52 by omega, show s + 49 + 1 = s + 50 by omega, show s + 49 + 4 = s + 53 by omega, show s + 10 + 3 = s + 13 by omega, gt2.1, gt2.2.2.1, gt2.2.2.2.1, e0, e3, k1, gB.1]
    rw [Int.sub_zero, Int.sub_zero]
  have e2 : F_218 t w = LP_218_41 t (1301 - (w (452 + 24 * t + 2) + w 2) : Int).toNat (w (452 + 24 * t + 0)) (madeR w (w (452 + 24 * t + 0))) 0 (w (452 + 24 * t + 2) + w 2) w := by
    unfold F_218
    rw [v217 n10]
  obtain ⟨j1, j2, j3, j4, j5⟩ := mkLoop (s := s) (t := t) (p := w (452 + 24 * t + 0)) (en := w (452 + 24 * t + 3)) (room := mmin (w 5 - (madeR w (w (452 + 24 * t + 0)) - 0)) (200 - (w 10 - 0))) (1300 - (w (452 + 24 * t + 2) + w 2) : Int).toNat (1301 - (w (452 + 24 * t + 2) + w 2) : Int).toNat 0 0 (w (452 + 24 * t + 2) + w 2) d w hg hn hB' ht rfl rfl h9 (by omega) rfl (by omega) (by omega)
  unfold v_81 g_81 V_218 W_218
  rw [e, e2]
  exact ⟨by omega, j2, j3.r j4, j5⟩
