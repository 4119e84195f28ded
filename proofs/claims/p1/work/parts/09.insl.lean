def mckl (lo n : Nat) : Bool := (List.range n).all (fun k => mck 0 (lo + k))
theorem mckl_0 : mckl 0 150 = true := by decide +kernel
theorem mckl_150 : mckl 150 150 = true := by decide +kernel
theorem mckl_300 : mckl 300 150 = true := by decide +kernel
theorem mckl_450 : mckl 450 150 = true := by decide +kernel
theorem mckl_600 : mckl 600 150 = true := by decide +kernel
theorem mckl_750 : mckl 750 150 = true := by decide +kernel
theorem mckl_900 : mckl 900 150 = true := by decide +kernel
theorem mckl_1050 : mckl 1050 150 = true := by decide +kernel
theorem mckl_1200 : mckl 1200 150 = true := by decide +kernel
