/-! ===== bits ===== -/
theorem n32 {n : Nat} (h : n < 2147483648) : (Int32.ofInt (n : Int)).toBitVec.toNat = n := by
  show (BitVec.ofInt 32 (n : Int)).toNat = n
  rw [BitVec.toNat_ofInt]
  omega
theorem i32n {v : Int32} (h : v.toBitVec.toNat < 2147483648) : v.toInt = (v.toBitVec.toNat : Int) := by
  show v.toBitVec.toInt = _
  exact BitVec.toInt_eq_toNat_of_lt (by omega)
theorem mishl5_n {n : Nat} (h : n < 33554432) : (Int32.ofInt (n : Int) <<< (Int32.ofInt 5 &&& 31)).toBitVec.toNat = 32 * n := by
  have e : (Int32.ofInt 5 &&& 31) = (5 : Int32) := by decide
  rw [e, Int32.toBitVec_shiftLeft]
  have e2 : ((5 : Int32).toBitVec.smod 32) = 5#32 := by decide
  rw [e2, BitVec.shiftLeft_eq', BitVec.toNat_shiftLeft, n32 (by omega)]
  show n <<< 5 % 4294967296 = _
  rw [Nat.shiftLeft_eq]
  omega
theorem mname_or (x c : Int) : (0 ≤ x ∧ x < 33554432 ∧ 1 ≤ c ∧ c ≤ 31 ∧ mior (mishl x 5) c = 32 * x + c) ∨ x < 0 ∨ 33554432 ≤ x ∨ c < 1 ∨ 31 < c := by
  by_cases h : 0 ≤ x ∧ x < 33554432 ∧ 1 ≤ c ∧ c ≤ 31
  · left
    obtain ⟨h0, h1, h2, h3⟩ := h
    refine ⟨h0, h1, h2, h3, ?_⟩
    obtain ⟨n, rfl⟩ := Int.eq_ofNat_of_zero_le h0
    obtain ⟨k, rfl⟩ := Int.eq_ofNat_of_zero_le (show 0 ≤ c by omega)
    have hs : mishl (n : Int) 5 = ((32 * n : Nat) : Int) := by
      unfold mishl mI
      have := mishl5_n (n := n) (by omega)
      rw [i32n (by rw [this]; omega), this]
    rw [hs]
    unfold mior mI
    have hb : (Int32.ofInt ((32 * n : Nat) : Int) ||| Int32.ofInt (k : Int)).toBitVec.toNat = 32 * n + k := by
      rw [Int32.toBitVec_or, BitVec.toNat_or, n32 (by omega), n32 (by omega)]
      have := Nat.shiftLeft_add_eq_or_of_lt (b := k) (i := 5) (by omega) n
      rw [Nat.shiftLeft_eq] at this
      rw [show 32 * n = n * 2 ^ 5 by omega, ← this]
    rw [i32n (by rw [hb]; omega), hb]
    omega
  · omega
theorem mishr6_n : ∀ n : Fin 1000, mishr ((n : Nat) : Int) 6 = ((n.val / 64 : Nat) : Int) := by decide +kernel
theorem mishr6_r (x : Int) : (mishr x 6 = x / 64 ∧ 0 ≤ x ∧ x ≤ 999) ∨ x < 0 ∨ 999 < x := by
  by_cases h : 0 ≤ x ∧ x ≤ 999
  · left
    obtain ⟨n, rfl⟩ := Int.eq_ofNat_of_zero_le h.1
    have := mishr6_n ⟨n, by omega⟩
    have e : (((n / 64 : Nat)) : Int) = (n : Int) / 64 := by omega
    exact ⟨this.trans e, h⟩
  · omega
