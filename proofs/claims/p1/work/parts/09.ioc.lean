theorem mckl_2550 : mckl 2550 75 = true := by decide +kernel
