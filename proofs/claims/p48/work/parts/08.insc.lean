theorem mckW_1 : mckWs 1 31 = true := by decide +kernel
theorem mckW_32 : mckWs 32 26 = true := by decide +kernel
theorem mckW_58 : mckWs 58 23 = true := by decide +kernel
theorem mckW_81 : mckWs 81 29 = true := by decide +kernel
theorem mckW_110 : mckWs 110 18 = true := by decide +kernel
theorem mckW_128 : mckWs 128 22 = true := by decide +kernel
theorem mckW_150 : mckWs 150 31 = true := by decide +kernel
theorem mckW_181 : mckWs 181 24 = true := by decide +kernel
theorem mckW_205 : mckWs 205 18 = true := by decide +kernel
theorem mckW_223 : mckWs 223 16 = true := by decide +kernel
theorem mckW_239 : mckWs 239 17 = true := by decide +kernel
theorem mckW_256 : mckWs 256 22 = true := by decide +kernel
theorem mckW_278 : mckWs 278 19 = true := by decide +kernel
theorem mckW_297 : mckWs 297 44 = true := by decide +kernel
theorem mckW_0 : mckWs 0 1 = true := by decide +kernel
theorem mck_all {j pc : Nat} (hj : j < 341) (h : pc < mlen j) : mck j pc = true := by
  rcases Nat.eq_zero_or_pos j with h0 | h0
  · subst h0
    exact mckWs_use mckW_0 (by omega) (by omega) h
  by_cases c1 : j < 32
  · exact mckWs_use mckW_1 (by omega) (by omega) h
  by_cases c32 : j < 58
  · exact mckWs_use mckW_32 (by omega) (by omega) h
  by_cases c58 : j < 81
  · exact mckWs_use mckW_58 (by omega) (by omega) h
  by_cases c81 : j < 110
  · exact mckWs_use mckW_81 (by omega) (by omega) h
  by_cases c110 : j < 128
  · exact mckWs_use mckW_110 (by omega) (by omega) h
  by_cases c128 : j < 150
  · exact mckWs_use mckW_128 (by omega) (by omega) h
  by_cases c150 : j < 181
  · exact mckWs_use mckW_150 (by omega) (by omega) h
  by_cases c181 : j < 205
  · exact mckWs_use mckW_181 (by omega) (by omega) h
  by_cases c205 : j < 223
  · exact mckWs_use mckW_205 (by omega) (by omega) h
  by_cases c223 : j < 239
  · exact mckWs_use mckW_223 (by omega) (by omega) h
  by_cases c239 : j < 256
  · exact mckWs_use mckW_239 (by omega) (by omega) h
  by_cases c256 : j < 278
  · exact mckWs_use mckW_256 (by omega) (by omega) h
  by_cases c278 : j < 297
  · exact mckWs_use mckW_278 (by omega) (by omega) h
  by_cases c297 : j < 341
  · exact mckWs_use mckW_297 (by omega) (by omega) h
  omega
