theorem mckl_2100 : mckl 2100 150 = true := by decide +kernel
theorem mckl_2250 : mckl 2250 150 = true := by decide +kernel
