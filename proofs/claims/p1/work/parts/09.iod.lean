theorem mckl_2625 : mckl 2625 75 = true := by decide +kernel
