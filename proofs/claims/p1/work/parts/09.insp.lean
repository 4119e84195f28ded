theorem mckl_2550 : mckl 2550 150 = true := by decide +kernel
