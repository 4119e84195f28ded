theorem mckl_2400 : mckl 2400 150 = true := by decide +kernel
theorem mckl_2550 : mckl 2550 150 = true := by decide +kernel
