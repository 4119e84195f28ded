theorem mckl_2850 : mckl 2850 7 = true := by decide +kernel
