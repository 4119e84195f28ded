theorem mckl_2700 : mckl 2700 75 = true := by decide +kernel
