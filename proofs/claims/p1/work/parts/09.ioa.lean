theorem mckl_2400 : mckl 2400 75 = true := by decide +kernel
