theorem mckl_2775 : mckl 2775 75 = true := by decide +kernel
