def mcks (lo n : Nat) : Bool := (List.range n).all (fun k => (List.range (mlen (lo + k))).all (mck (lo + k)))
theorem mck_1 : mcks 1 17 = true := by decide +kernel
theorem mck_18 : mcks 18 12 = true := by decide +kernel
theorem mck_30 : mcks 30 13 = true := by decide +kernel
theorem mck_43 : mcks 43 11 = true := by decide +kernel
theorem mck_54 : mcks 54 12 = true := by decide +kernel
theorem mck_66 : mcks 66 11 = true := by decide +kernel
theorem mck_77 : mcks 77 7 = true := by decide +kernel
theorem mck_84 : mcks 84 14 = true := by decide +kernel
theorem mck_98 : mcks 98 15 = true := by decide +kernel
theorem mck_113 : mcks 113 10 = true := by decide +kernel
theorem mck_123 : mcks 123 7 = true := by decide +kernel
theorem mck_130 : mcks 130 16 = true := by decide +kernel
theorem mck_146 : mcks 146 10 = true := by decide +kernel
theorem mck_156 : mcks 156 17 = true := by decide +kernel
theorem mck_173 : mcks 173 16 = true := by decide +kernel
