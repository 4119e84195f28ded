theorem mckl_1350 : mckl 1350 150 = true := by decide +kernel
theorem mckl_1500 : mckl 1500 150 = true := by decide +kernel
theorem mckl_1650 : mckl 1650 150 = true := by decide +kernel
theorem mckl_1800 : mckl 1800 150 = true := by decide +kernel
theorem mckl_1950 : mckl 1950 150 = true := by decide +kernel
