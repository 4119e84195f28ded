/-! ===== how many bits of sixteen are set ===== -/
theorem ndl (m : Nat) (a : Nat) (ha : a < 2147483648) (hm : m < 2147483648) : miand (a : Int) (m : Int) = ((a &&& m : Nat) : Int) := by
  unfold miand mI
  have e : (Int32.ofInt (a : Int) &&& Int32.ofInt (m : Int)).toBitVec.toNat = a &&& m := by
    rw [Int32.toBitVec_and, BitVec.toNat_and, n32 ha, n32 hm]
  rw [i32n (by rw [e]; exact Nat.lt_of_le_of_lt Nat.and_le_left ha), e]
theorem nsr (k : Nat) (hk : k < 32) (a : Nat) (ha : a < 2147483648) : miushr (a : Int) (k : Int) = ((a >>> k : Nat) : Int) := by
  unfold miushr mI
  have e : ((Int32.ofInt (a : Int)).toUInt32 >>> ((Int32.ofInt (k : Int)).toUInt32 &&& Int32.toUInt32 31)).toInt32.toBitVec.toNat = a >>> k := by
    show ((Int32.ofInt (a : Int)).toUInt32 >>> ((Int32.ofInt (k : Int)).toUInt32 &&& Int32.toUInt32 31)).toBitVec.toNat = a >>> k
    rw [UInt32.toBitVec_shiftRight]
    have e3 : (((Int32.ofInt (k : Int)).toUInt32 &&& Int32.toUInt32 31).toBitVec % 32).toNat = k := by
      have : ∀ k : Fin 32, (((Int32.ofInt ((k.val : Nat) : Int)).toUInt32 &&& Int32.toUInt32 31).toBitVec % 32).toNat = k.val := by decide +kernel
      exact this ⟨k, hk⟩
    show ((Int32.ofInt (a : Int)).toBitVec >>> ((((Int32.ofInt (k : Int)).toUInt32 &&& Int32.toUInt32 31).toBitVec % 32).toNat)).toNat = _
    rw [e3, BitVec.toNat_ushiftRight, n32 ha]
  rw [i32n (by rw [e]; exact Nat.lt_of_le_of_lt (Nat.shiftRight_le a k) ha), e]
def pcA (n : Nat) : Nat := n - ((n >>> 1) &&& 1431655765)
def pcB (n : Nat) : Nat := (pcA n &&& 858993459) + ((pcA n >>> 2) &&& 858993459)
def pcC (n : Nat) : Nat := (pcB n + (pcB n >>> 4)) &&& 252645135
def pcD (n : Nat) : Nat := pcC n + (pcC n >>> 8)
def pcN (n : Nat) : Nat := (pcD n + (pcD n >>> 16)) &&& 63
def bcN (n : Nat) : Nat := n % 2 + n / 2 % 2 + n / 4 % 2 + n / 8 % 2 + n / 16 % 2 + n / 32 % 2 + n / 64 % 2 + n / 128 % 2 + n / 256 % 2 + n / 512 % 2 + n / 1024 % 2 + n / 2048 % 2 + n / 4096 % 2 + n / 8192 % 2 + n / 16384 % 2 + n / 32768 % 2
set_option maxRecDepth 100000 in
theorem pc_0 : ∀ a : Fin 4, ∀ b : Fin 256, pcN (0 + 256 * a.val + b.val) = bcN (0 + 256 * a.val + b.val) := by decide +kernel
set_option maxRecDepth 100000 in
theorem pc_1 : ∀ a : Fin 4, ∀ b : Fin 256, pcN (1024 + 256 * a.val + b.val) = bcN (1024 + 256 * a.val + b.val) := by decide +kernel
set_option maxRecDepth 100000 in
theorem pc_2 : ∀ a : Fin 4, ∀ b : Fin 256, pcN (2048 + 256 * a.val + b.val) = bcN (2048 + 256 * a.val + b.val) := by decide +kernel
set_option maxRecDepth 100000 in
theorem pc_3 : ∀ a : Fin 4, ∀ b : Fin 256, pcN (3072 + 256 * a.val + b.val) = bcN (3072 + 256 * a.val + b.val) := by decide +kernel
set_option maxRecDepth 100000 in
theorem pc_4 : ∀ a : Fin 4, ∀ b : Fin 256, pcN (4096 + 256 * a.val + b.val) = bcN (4096 + 256 * a.val + b.val) := by decide +kernel
set_option maxRecDepth 100000 in
theorem pc_5 : ∀ a : Fin 4, ∀ b : Fin 256, pcN (5120 + 256 * a.val + b.val) = bcN (5120 + 256 * a.val + b.val) := by decide +kernel
set_option maxRecDepth 100000 in
theorem pc_6 : ∀ a : Fin 4, ∀ b : Fin 256, pcN (6144 + 256 * a.val + b.val) = bcN (6144 + 256 * a.val + b.val) := by decide +kernel
set_option maxRecDepth 100000 in
theorem pc_7 : ∀ a : Fin 4, ∀ b : Fin 256, pcN (7168 + 256 * a.val + b.val) = bcN (7168 + 256 * a.val + b.val) := by decide +kernel
set_option maxRecDepth 100000 in
theorem pc_8 : ∀ a : Fin 4, ∀ b : Fin 256, pcN (8192 + 256 * a.val + b.val) = bcN (8192 + 256 * a.val + b.val) := by decide +kernel
set_option maxRecDepth 100000 in
theorem pc_9 : ∀ a : Fin 4, ∀ b : Fin 256, pcN (9216 + 256 * a.val + b.val) = bcN (9216 + 256 * a.val + b.val) := by decide +kernel
set_option maxRecDepth 100000 in
theorem pc_10 : ∀ a : Fin 4, ∀ b : Fin 256, pcN (10240 + 256 * a.val + b.val) = bcN (10240 + 256 * a.val + b.val) := by decide +kernel
set_option maxRecDepth 100000 in
theorem pc_11 : ∀ a : Fin 4, ∀ b : Fin 256, pcN (11264 + 256 * a.val + b.val) = bcN (11264 + 256 * a.val + b.val) := by decide +kernel
set_option maxRecDepth 100000 in
theorem pc_12 : ∀ a : Fin 4, ∀ b : Fin 256, pcN (12288 + 256 * a.val + b.val) = bcN (12288 + 256 * a.val + b.val) := by decide +kernel
set_option maxRecDepth 100000 in
theorem pc_13 : ∀ a : Fin 4, ∀ b : Fin 256, pcN (13312 + 256 * a.val + b.val) = bcN (13312 + 256 * a.val + b.val) := by decide +kernel
set_option maxRecDepth 100000 in
theorem pc_14 : ∀ a : Fin 4, ∀ b : Fin 256, pcN (14336 + 256 * a.val + b.val) = bcN (14336 + 256 * a.val + b.val) := by decide +kernel
set_option maxRecDepth 100000 in
theorem pc_15 : ∀ a : Fin 4, ∀ b : Fin 256, pcN (15360 + 256 * a.val + b.val) = bcN (15360 + 256 * a.val + b.val) := by decide +kernel
set_option maxRecDepth 100000 in
theorem pc_16 : ∀ a : Fin 4, ∀ b : Fin 256, pcN (16384 + 256 * a.val + b.val) = bcN (16384 + 256 * a.val + b.val) := by decide +kernel
set_option maxRecDepth 100000 in
theorem pc_17 : ∀ a : Fin 4, ∀ b : Fin 256, pcN (17408 + 256 * a.val + b.val) = bcN (17408 + 256 * a.val + b.val) := by decide +kernel
set_option maxRecDepth 100000 in
theorem pc_18 : ∀ a : Fin 4, ∀ b : Fin 256, pcN (18432 + 256 * a.val + b.val) = bcN (18432 + 256 * a.val + b.val) := by decide +kernel
set_option maxRecDepth 100000 in
theorem pc_19 : ∀ a : Fin 4, ∀ b : Fin 256, pcN (19456 + 256 * a.val + b.val) = bcN (19456 + 256 * a.val + b.val) := by decide +kernel
set_option maxRecDepth 100000 in
theorem pc_20 : ∀ a : Fin 4, ∀ b : Fin 256, pcN (20480 + 256 * a.val + b.val) = bcN (20480 + 256 * a.val + b.val) := by decide +kernel
set_option maxRecDepth 100000 in
theorem pc_21 : ∀ a : Fin 4, ∀ b : Fin 256, pcN (21504 + 256 * a.val + b.val) = bcN (21504 + 256 * a.val + b.val) := by decide +kernel
set_option maxRecDepth 100000 in
theorem pc_22 : ∀ a : Fin 4, ∀ b : Fin 256, pcN (22528 + 256 * a.val + b.val) = bcN (22528 + 256 * a.val + b.val) := by decide +kernel
set_option maxRecDepth 100000 in
theorem pc_23 : ∀ a : Fin 4, ∀ b : Fin 256, pcN (23552 + 256 * a.val + b.val) = bcN (23552 + 256 * a.val + b.val) := by decide +kernel
set_option maxRecDepth 100000 in
theorem pc_24 : ∀ a : Fin 4, ∀ b : Fin 256, pcN (24576 + 256 * a.val + b.val) = bcN (24576 + 256 * a.val + b.val) := by decide +kernel
set_option maxRecDepth 100000 in
theorem pc_25 : ∀ a : Fin 4, ∀ b : Fin 256, pcN (25600 + 256 * a.val + b.val) = bcN (25600 + 256 * a.val + b.val) := by decide +kernel
set_option maxRecDepth 100000 in
theorem pc_26 : ∀ a : Fin 4, ∀ b : Fin 256, pcN (26624 + 256 * a.val + b.val) = bcN (26624 + 256 * a.val + b.val) := by decide +kernel
set_option maxRecDepth 100000 in
theorem pc_27 : ∀ a : Fin 4, ∀ b : Fin 256, pcN (27648 + 256 * a.val + b.val) = bcN (27648 + 256 * a.val + b.val) := by decide +kernel
set_option maxRecDepth 100000 in
theorem pc_28 : ∀ a : Fin 4, ∀ b : Fin 256, pcN (28672 + 256 * a.val + b.val) = bcN (28672 + 256 * a.val + b.val) := by decide +kernel
set_option maxRecDepth 100000 in
theorem pc_29 : ∀ a : Fin 4, ∀ b : Fin 256, pcN (29696 + 256 * a.val + b.val) = bcN (29696 + 256 * a.val + b.val) := by decide +kernel
set_option maxRecDepth 100000 in
theorem pc_30 : ∀ a : Fin 4, ∀ b : Fin 256, pcN (30720 + 256 * a.val + b.val) = bcN (30720 + 256 * a.val + b.val) := by decide +kernel
set_option maxRecDepth 100000 in
theorem pc_31 : ∀ a : Fin 4, ∀ b : Fin 256, pcN (31744 + 256 * a.val + b.val) = bcN (31744 + 256 * a.val + b.val) := by decide +kernel
set_option maxRecDepth 100000 in
theorem pc_32 : ∀ a : Fin 4, ∀ b : Fin 256, pcN (32768 + 256 * a.val + b.val) = bcN (32768 + 256 * a.val + b.val) := by decide +kernel
set_option maxRecDepth 100000 in
theorem pc_33 : ∀ a : Fin 4, ∀ b : Fin 256, pcN (33792 + 256 * a.val + b.val) = bcN (33792 + 256 * a.val + b.val) := by decide +kernel
set_option maxRecDepth 100000 in
theorem pc_34 : ∀ a : Fin 4, ∀ b : Fin 256, pcN (34816 + 256 * a.val + b.val) = bcN (34816 + 256 * a.val + b.val) := by decide +kernel
set_option maxRecDepth 100000 in
theorem pc_35 : ∀ a : Fin 4, ∀ b : Fin 256, pcN (35840 + 256 * a.val + b.val) = bcN (35840 + 256 * a.val + b.val) := by decide +kernel
set_option maxRecDepth 100000 in
theorem pc_36 : ∀ a : Fin 4, ∀ b : Fin 256, pcN (36864 + 256 * a.val + b.val) = bcN (36864 + 256 * a.val + b.val) := by decide +kernel
set_option maxRecDepth 100000 in
theorem pc_37 : ∀ a : Fin 4, ∀ b : Fin 256, pcN (37888 + 256 * a.val + b.val) = bcN (37888 + 256 * a.val + b.val) := by decide +kernel
set_option maxRecDepth 100000 in
theorem pc_38 : ∀ a : Fin 4, ∀ b : Fin 256, pcN (38912 + 256 * a.val + b.val) = bcN (38912 + 256 * a.val + b.val) := by decide +kernel
set_option maxRecDepth 100000 in
theorem pc_39 : ∀ a : Fin 4, ∀ b : Fin 256, pcN (39936 + 256 * a.val + b.val) = bcN (39936 + 256 * a.val + b.val) := by decide +kernel
set_option maxRecDepth 100000 in
theorem pc_40 : ∀ a : Fin 4, ∀ b : Fin 256, pcN (40960 + 256 * a.val + b.val) = bcN (40960 + 256 * a.val + b.val) := by decide +kernel
set_option maxRecDepth 100000 in
theorem pc_41 : ∀ a : Fin 4, ∀ b : Fin 256, pcN (41984 + 256 * a.val + b.val) = bcN (41984 + 256 * a.val + b.val) := by decide +kernel
set_option maxRecDepth 100000 in
theorem pc_42 : ∀ a : Fin 4, ∀ b : Fin 256, pcN (43008 + 256 * a.val + b.val) = bcN (43008 + 256 * a.val + b.val) := by decide +kernel
set_option maxRecDepth 100000 in
theorem pc_43 : ∀ a : Fin 4, ∀ b : Fin 256, pcN (44032 + 256 * a.val + b.val) = bcN (44032 + 256 * a.val + b.val) := by decide +kernel
set_option maxRecDepth 100000 in
theorem pc_44 : ∀ a : Fin 4, ∀ b : Fin 256, pcN (45056 + 256 * a.val + b.val) = bcN (45056 + 256 * a.val + b.val) := by decide +kernel
set_option maxRecDepth 100000 in
theorem pc_45 : ∀ a : Fin 4, ∀ b : Fin 256, pcN (46080 + 256 * a.val + b.val) = bcN (46080 + 256 * a.val + b.val) := by decide +kernel
set_option maxRecDepth 100000 in
theorem pc_46 : ∀ a : Fin 4, ∀ b : Fin 256, pcN (47104 + 256 * a.val + b.val) = bcN (47104 + 256 * a.val + b.val) := by decide +kernel
set_option maxRecDepth 100000 in
theorem pc_47 : ∀ a : Fin 4, ∀ b : Fin 256, pcN (48128 + 256 * a.val + b.val) = bcN (48128 + 256 * a.val + b.val) := by decide +kernel
set_option maxRecDepth 100000 in
theorem pc_48 : ∀ a : Fin 4, ∀ b : Fin 256, pcN (49152 + 256 * a.val + b.val) = bcN (49152 + 256 * a.val + b.val) := by decide +kernel
set_option maxRecDepth 100000 in
theorem pc_49 : ∀ a : Fin 4, ∀ b : Fin 256, pcN (50176 + 256 * a.val + b.val) = bcN (50176 + 256 * a.val + b.val) := by decide +kernel
set_option maxRecDepth 100000 in
theorem pc_50 : ∀ a : Fin 4, ∀ b : Fin 256, pcN (51200 + 256 * a.val + b.val) = bcN (51200 + 256 * a.val + b.val) := by decide +kernel
set_option maxRecDepth 100000 in
theorem pc_51 : ∀ a : Fin 4, ∀ b : Fin 256, pcN (52224 + 256 * a.val + b.val) = bcN (52224 + 256 * a.val + b.val) := by decide +kernel
set_option maxRecDepth 100000 in
theorem pc_52 : ∀ a : Fin 4, ∀ b : Fin 256, pcN (53248 + 256 * a.val + b.val) = bcN (53248 + 256 * a.val + b.val) := by decide +kernel
set_option maxRecDepth 100000 in
theorem pc_53 : ∀ a : Fin 4, ∀ b : Fin 256, pcN (54272 + 256 * a.val + b.val) = bcN (54272 + 256 * a.val + b.val) := by decide +kernel
set_option maxRecDepth 100000 in
theorem pc_54 : ∀ a : Fin 4, ∀ b : Fin 256, pcN (55296 + 256 * a.val + b.val) = bcN (55296 + 256 * a.val + b.val) := by decide +kernel
set_option maxRecDepth 100000 in
theorem pc_55 : ∀ a : Fin 4, ∀ b : Fin 256, pcN (56320 + 256 * a.val + b.val) = bcN (56320 + 256 * a.val + b.val) := by decide +kernel
set_option maxRecDepth 100000 in
theorem pc_56 : ∀ a : Fin 4, ∀ b : Fin 256, pcN (57344 + 256 * a.val + b.val) = bcN (57344 + 256 * a.val + b.val) := by decide +kernel
set_option maxRecDepth 100000 in
theorem pc_57 : ∀ a : Fin 4, ∀ b : Fin 256, pcN (58368 + 256 * a.val + b.val) = bcN (58368 + 256 * a.val + b.val) := by decide +kernel
set_option maxRecDepth 100000 in
theorem pc_58 : ∀ a : Fin 4, ∀ b : Fin 256, pcN (59392 + 256 * a.val + b.val) = bcN (59392 + 256 * a.val + b.val) := by decide +kernel
set_option maxRecDepth 100000 in
theorem pc_59 : ∀ a : Fin 4, ∀ b : Fin 256, pcN (60416 + 256 * a.val + b.val) = bcN (60416 + 256 * a.val + b.val) := by decide +kernel
set_option maxRecDepth 100000 in
theorem pc_60 : ∀ a : Fin 4, ∀ b : Fin 256, pcN (61440 + 256 * a.val + b.val) = bcN (61440 + 256 * a.val + b.val) := by decide +kernel
set_option maxRecDepth 100000 in
theorem pc_61 : ∀ a : Fin 4, ∀ b : Fin 256, pcN (62464 + 256 * a.val + b.val) = bcN (62464 + 256 * a.val + b.val) := by decide +kernel
set_option maxRecDepth 100000 in
theorem pc_62 : ∀ a : Fin 4, ∀ b : Fin 256, pcN (63488 + 256 * a.val + b.val) = bcN (63488 + 256 * a.val + b.val) := by decide +kernel
set_option maxRecDepth 100000 in
theorem pc_63 : ∀ a : Fin 4, ∀ b : Fin 256, pcN (64512 + 256 * a.val + b.val) = bcN (64512 + 256 * a.val + b.val) := by decide +kernel
theorem pc_use {k n : Nat} (h : ∀ a : Fin 4, ∀ b : Fin 256, pcN (k + 256 * a.val + b.val) = bcN (k + 256 * a.val + b.val)) (h0 : k ≤ n) (h1 : n < k + 1024) : pcN n = bcN n := by
  have := h ⟨(n - k) / 256, by omega⟩ ⟨(n - k) % 256, by omega⟩
  rw [show k + 256 * (⟨(n - k) / 256, by omega⟩ : Fin 4).val + (⟨(n - k) % 256, by omega⟩ : Fin 256).val = n by show k + 256 * ((n - k) / 256) + (n - k) % 256 = n; omega] at this
  exact this
theorem pc_all {n : Nat} (h : n < 65536) : pcN n = bcN n := by
  by_cases c0_64 : n < 32768
  · by_cases c0_32 : n < 16384
    · by_cases c0_16 : n < 8192
      · by_cases c0_8 : n < 4096
        · by_cases c0_4 : n < 2048
          · by_cases c0_2 : n < 1024
            · exact pc_use pc_0 (by omega) (by omega)
            · exact pc_use pc_1 (by omega) (by omega)
          · by_cases c2_4 : n < 3072
            · exact pc_use pc_2 (by omega) (by omega)
            · exact pc_use pc_3 (by omega) (by omega)
        · by_cases c4_8 : n < 6144
          · by_cases c4_6 : n < 5120
            · exact pc_use pc_4 (by omega) (by omega)
            · exact pc_use pc_5 (by omega) (by omega)
          · by_cases c6_8 : n < 7168
            · exact pc_use pc_6 (by omega) (by omega)
            · exact pc_use pc_7 (by omega) (by omega)
      · by_cases c8_16 : n < 12288
        · by_cases c8_12 : n < 10240
          · by_cases c8_10 : n < 9216
            · exact pc_use pc_8 (by omega) (by omega)
            · exact pc_use pc_9 (by omega) (by omega)
          · by_cases c10_12 : n < 11264
            · exact pc_use pc_10 (by omega) (by omega)
            · exact pc_use pc_11 (by omega) (by omega)
        · by_cases c12_16 : n < 14336
          · by_cases c12_14 : n < 13312
            · exact pc_use pc_12 (by omega) (by omega)
            · exact pc_use pc_13 (by omega) (by omega)
          · by_cases c14_16 : n < 15360
            · exact pc_use pc_14 (by omega) (by omega)
            · exact pc_use pc_15 (by omega) (by omega)
    · by_cases c16_32 : n < 24576
      · by_cases c16_24 : n < 20480
        · by_cases c16_20 : n < 18432
          · by_cases c16_18 : n < 17408
            · exact pc_use pc_16 (by omega) (by omega)
            · exact pc_use pc_17 (by omega) (by omega)
          · by_cases c18_20 : n < 19456
            · exact pc_use pc_18 (by omega) (by omega)
            · exact pc_use pc_19 (by omega) (by omega)
        · by_cases c20_24 : n < 22528
          · by_cases c20_22 : n < 21504
            · exact pc_use pc_20 (by omega) (by omega)
            · exact pc_use pc_21 (by omega) (by omega)
          · by_cases c22_24 : n < 23552
            · exact pc_use pc_22 (by omega) (by omega)
            · exact pc_use pc_23 (by omega) (by omega)
      · by_cases c24_32 : n < 28672
        · by_cases c24_28 : n < 26624
          · by_cases c24_26 : n < 25600
            · exact pc_use pc_24 (by omega) (by omega)
            · exact pc_use pc_25 (by omega) (by omega)
          · by_cases c26_28 : n < 27648
            · exact pc_use pc_26 (by omega) (by omega)
            · exact pc_use pc_27 (by omega) (by omega)
        · by_cases c28_32 : n < 30720
          · by_cases c28_30 : n < 29696
            · exact pc_use pc_28 (by omega) (by omega)
            · exact pc_use pc_29 (by omega) (by omega)
          · by_cases c30_32 : n < 31744
            · exact pc_use pc_30 (by omega) (by omega)
            · exact pc_use pc_31 (by omega) (by omega)
  · by_cases c32_64 : n < 49152
    · by_cases c32_48 : n < 40960
      · by_cases c32_40 : n < 36864
        · by_cases c32_36 : n < 34816
          · by_cases c32_34 : n < 33792
            · exact pc_use pc_32 (by omega) (by omega)
            · exact pc_use pc_33 (by omega) (by omega)
          · by_cases c34_36 : n < 35840
            · exact pc_use pc_34 (by omega) (by omega)
            · exact pc_use pc_35 (by omega) (by omega)
        · by_cases c36_40 : n < 38912
          · by_cases c36_38 : n < 37888
            · exact pc_use pc_36 (by omega) (by omega)
            · exact pc_use pc_37 (by omega) (by omega)
          · by_cases c38_40 : n < 39936
            · exact pc_use pc_38 (by omega) (by omega)
            · exact pc_use pc_39 (by omega) (by omega)
      · by_cases c40_48 : n < 45056
        · by_cases c40_44 : n < 43008
          · by_cases c40_42 : n < 41984
            · exact pc_use pc_40 (by omega) (by omega)
            · exact pc_use pc_41 (by omega) (by omega)
          · by_cases c42_44 : n < 44032
            · exact pc_use pc_42 (by omega) (by omega)
            · exact pc_use pc_43 (by omega) (by omega)
        · by_cases c44_48 : n < 47104
          · by_cases c44_46 : n < 46080
            · exact pc_use pc_44 (by omega) (by omega)
            · exact pc_use pc_45 (by omega) (by omega)
          · by_cases c46_48 : n < 48128
            · exact pc_use pc_46 (by omega) (by omega)
            · exact pc_use pc_47 (by omega) (by omega)
    · by_cases c48_64 : n < 57344
      · by_cases c48_56 : n < 53248
        · by_cases c48_52 : n < 51200
          · by_cases c48_50 : n < 50176
            · exact pc_use pc_48 (by omega) (by omega)
            · exact pc_use pc_49 (by omega) (by omega)
          · by_cases c50_52 : n < 52224
            · exact pc_use pc_50 (by omega) (by omega)
            · exact pc_use pc_51 (by omega) (by omega)
        · by_cases c52_56 : n < 55296
          · by_cases c52_54 : n < 54272
            · exact pc_use pc_52 (by omega) (by omega)
            · exact pc_use pc_53 (by omega) (by omega)
          · by_cases c54_56 : n < 56320
            · exact pc_use pc_54 (by omega) (by omega)
            · exact pc_use pc_55 (by omega) (by omega)
      · by_cases c56_64 : n < 61440
        · by_cases c56_60 : n < 59392
          · by_cases c56_58 : n < 58368
            · exact pc_use pc_56 (by omega) (by omega)
            · exact pc_use pc_57 (by omega) (by omega)
          · by_cases c58_60 : n < 60416
            · exact pc_use pc_58 (by omega) (by omega)
            · exact pc_use pc_59 (by omega) (by omega)
        · by_cases c60_64 : n < 63488
          · by_cases c60_62 : n < 62464
            · exact pc_use pc_60 (by omega) (by omega)
            · exact pc_use pc_61 (by omega) (by omega)
          · by_cases c62_64 : n < 64512
            · exact pc_use pc_62 (by omega) (by omega)
            · exact pc_use pc_63 (by omega) (by omega)
theorem v298_n {n : Nat} (h : n < 65536) (d : mD) : v_298 (n : Int) d = (pcN n : Int) := by
  have hl : (n >>> 1) &&& 1431655765 ≤ n := Nat.le_trans Nat.and_le_left (Nat.shiftRight_le n 1)
  have eA : (n : Int) - miand (miushr (n : Int) 1) 1431655765 = (pcA n : Int) := by
    have e1 := nsr 1 (by decide) n (by omega)
    have e2 := ndl 1431655765 (n >>> 1) (Nat.lt_of_le_of_lt (Nat.shiftRight_le n 1) (by omega)) (by decide)
    rw [show ((1 : Nat) : Int) = 1 from rfl] at e1
    rw [show ((1431655765 : Nat) : Int) = 1431655765 from rfl] at e2
    rw [e1, e2]
    unfold pcA
    omega
  have hA : pcA n < 65536 := by unfold pcA; omega
  have eB : miand (pcA n : Int) 858993459 + miand (miushr (pcA n : Int) 2) 858993459 = (pcB n : Int) := by
    have e1 := nsr 2 (by decide) (pcA n) (by omega)
    have e2 := ndl 858993459 (pcA n >>> 2) (Nat.lt_of_le_of_lt (Nat.shiftRight_le _ 2) (by omega)) (by decide)
    have e3 := ndl 858993459 (pcA n) (by omega) (by decide)
    rw [show ((2 : Nat) : Int) = 2 from rfl] at e1
    rw [show ((858993459 : Nat) : Int) = 858993459 from rfl] at e2 e3
    rw [e1, e2, e3]
    unfold pcB
    omega
  have hB : pcB n < 131072 := by
    have a := @Nat.and_le_left (pcA n) 858993459
    have b := Nat.le_trans (@Nat.and_le_left (pcA n >>> 2) 858993459) (Nat.shiftRight_le (pcA n) 2)
    unfold pcB
    omega
  have hs : pcB n >>> 4 ≤ pcB n := Nat.shiftRight_le _ _
  have eC : miand ((pcB n : Int) + miushr (pcB n : Int) 4) 252645135 = (pcC n : Int) := by
    have e1 := nsr 4 (by decide) (pcB n) (by omega)
    have e2 := ndl 252645135 (pcB n + pcB n >>> 4) (by omega) (by decide)
    rw [show ((4 : Nat) : Int) = 4 from rfl] at e1
    rw [show ((252645135 : Nat) : Int) = 252645135 from rfl, Int.natCast_add] at e2
    rw [e1, e2]
    rfl
  have hC : pcC n < 262144 := by
    have a := @Nat.and_le_left (pcB n + pcB n >>> 4) 252645135
    unfold pcC
    omega
  have hs8 : pcC n >>> 8 ≤ pcC n := Nat.shiftRight_le _ _
  have eD : (pcC n : Int) + miushr (pcC n : Int) 8 = (pcD n : Int) := by
    have e1 := nsr 8 (by decide) (pcC n) (by omega)
    rw [show ((8 : Nat) : Int) = 8 from rfl] at e1
    rw [e1]
    unfold pcD
    omega
  have hD : pcD n < 524288 := by unfold pcD; omega
  have hs16 : pcD n >>> 16 ≤ pcD n := Nat.shiftRight_le _ _
  unfold v_298
  rw [eA, eB, eC, eD]
  have e1 := nsr 16 (by decide) (pcD n) (by omega)
  have e2 := ndl 63 (pcD n + pcD n >>> 16) (by omega) (by decide)
  rw [show ((16 : Nat) : Int) = 16 from rfl] at e1
  rw [show ((63 : Nat) : Int) = 63 from rfl, Int.natCast_add] at e2
  rw [e1, e2]
  rfl
theorem ib_n {n : Nat} (h : n < 65536) (p : Nat) : ib (n : Int) p = decide (n / 2 ^ p % 2 = 1) := by
  unfold ib
  show (Int32.ofInt (n : Int)).toBitVec.toNat.testBit p = _
  rw [n32 (by omega), Nat.testBit_eq_decide_div_mod_eq]
theorem ibv {n : Nat} (h : n < 65536) (p : Nat) : (if ib (n : Int) p = true then (1 : Int) else 0) = ((n / 2 ^ p % 2 : Nat) : Int) := by
  rw [ib_n h]
  by_cases c : n / 2 ^ p % 2 = 1
  · rw [if_pos (by simp [c]), c]
    rfl
  · rw [if_neg (by simp [c])]
    have := Nat.mod_lt (n / 2 ^ p) (show 0 < 2 by decide)
    have : n / 2 ^ p % 2 = 0 := by omega
    rw [this]
    rfl
theorem v298_bits {W : Int} (h0 : 0 ≤ W) (h1 : W < 65536) (d : mD) : v_298 W d = csum (fun p => if ib W p.toNat = true then 1 else 0) 16 := by
  obtain ⟨n, rfl⟩ := Int.eq_ofNat_of_zero_le h0
  have h : n < 65536 := by omega
  rw [v298_n h, pc_all h]
  have e : csum (fun p => if ib (n : Int) p.toNat = true then 1 else 0) 16 = csum (fun p => ((n / 2 ^ p.toNat % 2 : Nat) : Int)) 16 := csum_congr (fun p a b => ibv h p.toNat)
  rw [e]
  simp only [csum]
  unfold bcN
  simp
theorem mior_rng {W p : Int} (h0 : 0 ≤ W) (h1 : W < 65536) (p0 : 0 ≤ p) (p1 : p < 16) : 0 ≤ mior W (mishl 1 p) ∧ mior W (mishl 1 p) < 65536 := by
  obtain ⟨n, rfl⟩ := Int.eq_ofNat_of_zero_le h0
  obtain ⟨k, rfl⟩ := Int.eq_ofNat_of_zero_le p0
  have e1 : mishl 1 (k : Int) = ((2 ^ k : Nat) : Int) := by
    have : ∀ k : Fin 16, mishl 1 ((k.val : Nat) : Int) = ((2 ^ k.val : Nat) : Int) := by decide +kernel
    exact this ⟨k, by omega⟩
  have hk : 2 ^ k < 65536 := by
    have : ∀ k : Fin 16, 2 ^ k.val < 65536 := by decide
    exact this ⟨k, by omega⟩
  rw [e1]
  unfold mior mI
  have e : (Int32.ofInt (n : Int) ||| Int32.ofInt ((2 ^ k : Nat) : Int)).toBitVec.toNat = n ||| 2 ^ k := by
    rw [Int32.toBitVec_or, BitVec.toNat_or, n32 (by omega), n32 (by omega)]
  have hb : n ||| 2 ^ k < 65536 := Nat.or_lt_two_pow (n := 16) (by omega) hk
  rw [i32n (by rw [e]; omega), e]
  omega
