theorem mckl_2475 : mckl 2475 75 = true := by decide +kernel
