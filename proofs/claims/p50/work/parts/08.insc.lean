theorem mckW_1 : mckWs 1 32 = true := by decide +kernel
theorem mckW_33 : mckWs 33 26 = true := by decide +kernel
theorem mckW_59 : mckWs 59 25 = true := by decide +kernel
theorem mckW_84 : mckWs 84 33 = true := by decide +kernel
theorem mckW_117 : mckWs 117 33 = true := by decide +kernel
theorem mckW_150 : mckWs 150 193 = true := by decide +kernel
theorem mckW_343 : mckWs 343 13 = true := by decide +kernel
theorem mckW_356 : mckWs 356 13 = true := by decide +kernel
theorem mckW_369 : mckWs 369 3 = true := by decide +kernel
theorem mckW_372 : mckWs 372 3 = true := by decide +kernel
theorem mckW_375 : mckWs 375 33 = true := by decide +kernel
theorem mckW_408 : mckWs 408 12 = true := by decide +kernel
theorem mckW_0 : mckWs 0 1 = true := by decide +kernel
theorem mck_all {j pc : Nat} (hr : mre j = true) (h : pc < mlen j) : mck j pc = true := by
  have hj : j < 420 := by
    unfold mre at hr
    rw [Bool.and_eq_true, Nat.blt_eq] at hr
    exact hr.1
  rcases Nat.eq_zero_or_pos j with h0 | h0
  · subst h0
    exact mckWs_use mckW_0 (by omega) (by omega) hr h
  by_cases c1 : j < 33
  · exact mckWs_use mckW_1 (by omega) (by omega) hr h
  by_cases c33 : j < 59
  · exact mckWs_use mckW_33 (by omega) (by omega) hr h
  by_cases c59 : j < 84
  · exact mckWs_use mckW_59 (by omega) (by omega) hr h
  by_cases c84 : j < 117
  · exact mckWs_use mckW_84 (by omega) (by omega) hr h
  by_cases c117 : j < 150
  · exact mckWs_use mckW_117 (by omega) (by omega) hr h
  by_cases c150 : j < 343
  · exact mckWs_use mckW_150 (by omega) (by omega) hr h
  by_cases c343 : j < 356
  · exact mckWs_use mckW_343 (by omega) (by omega) hr h
  by_cases c356 : j < 369
  · exact mckWs_use mckW_356 (by omega) (by omega) hr h
  by_cases c369 : j < 372
  · exact mckWs_use mckW_369 (by omega) (by omega) hr h
  by_cases c372 : j < 375
  · exact mckWs_use mckW_372 (by omega) (by omega) hr h
  by_cases c375 : j < 408
  · exact mckWs_use mckW_375 (by omega) (by omega) hr h
  by_cases c408 : j < 420
  · exact mckWs_use mckW_408 (by omega) (by omega) hr h
  omega
