theorem mckl_2400 : mckl 2400 150 = true := by decide +kernel
