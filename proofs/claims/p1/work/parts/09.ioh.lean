theorem mcks_use {lo n j pc : Nat} (h : mcks lo n = true) (h1 : lo ≤ j) (h2 : j < lo + n) (h3 : pc < mlen j) : mck j pc = true := by
  have h4 := List.all_eq_true.mp h (j - lo) (List.mem_range.mpr (by omega))
  rw [show lo + (j - lo) = j by omega] at h4
  exact List.all_eq_true.mp h4 pc (List.mem_range.mpr h3)
theorem mckl_use {lo n pc : Nat} (h : mckl lo n = true) (h1 : lo ≤ pc) (h2 : pc < lo + n) : mck 0 pc = true := by
  have h4 := List.all_eq_true.mp h (pc - lo) (List.mem_range.mpr (by omega))
  rw [show lo + (pc - lo) = pc by omega] at h4
  exact h4
theorem mck_all {j pc : Nat} (hj : j < 341) (h : pc < mlen j) : mck j pc = true := by
  rcases Nat.eq_zero_or_pos j with h0 | h0
  · subst h0
    have h : pc < 2857 := h
    by_cases c0 : pc < 150
    · exact mckl_use mckl_0 (by omega) (by omega)
    by_cases c150 : pc < 300
    · exact mckl_use mckl_150 (by omega) (by omega)
    by_cases c300 : pc < 450
    · exact mckl_use mckl_300 (by omega) (by omega)
    by_cases c450 : pc < 600
    · exact mckl_use mckl_450 (by omega) (by omega)
    by_cases c600 : pc < 750
    · exact mckl_use mckl_600 (by omega) (by omega)
    by_cases c750 : pc < 900
    · exact mckl_use mckl_750 (by omega) (by omega)
    by_cases c900 : pc < 1050
    · exact mckl_use mckl_900 (by omega) (by omega)
    by_cases c1050 : pc < 1200
    · exact mckl_use mckl_1050 (by omega) (by omega)
    by_cases c1200 : pc < 1350
    · exact mckl_use mckl_1200 (by omega) (by omega)
    by_cases c1350 : pc < 1500
    · exact mckl_use mckl_1350 (by omega) (by omega)
    by_cases c1500 : pc < 1650
    · exact mckl_use mckl_1500 (by omega) (by omega)
    by_cases c1650 : pc < 1800
    · exact mckl_use mckl_1650 (by omega) (by omega)
    by_cases c1800 : pc < 1950
    · exact mckl_use mckl_1800 (by omega) (by omega)
    by_cases c1950 : pc < 2100
    · exact mckl_use mckl_1950 (by omega) (by omega)
    by_cases c2100 : pc < 2250
    · exact mckl_use mckl_2100 (by omega) (by omega)
    by_cases c2250 : pc < 2400
    · exact mckl_use mckl_2250 (by omega) (by omega)
    by_cases c2400 : pc < 2475
    · exact mckl_use mckl_2400 (by omega) (by omega)
    by_cases c2475 : pc < 2550
    · exact mckl_use mckl_2475 (by omega) (by omega)
    by_cases c2550 : pc < 2625
    · exact mckl_use mckl_2550 (by omega) (by omega)
    by_cases c2625 : pc < 2700
    · exact mckl_use mckl_2625 (by omega) (by omega)
    by_cases c2700 : pc < 2775
    · exact mckl_use mckl_2700 (by omega) (by omega)
    by_cases c2775 : pc < 2850
    · exact mckl_use mckl_2775 (by omega) (by omega)
    by_cases c2850 : pc < 2857
    · exact mckl_use mckl_2850 (by omega) (by omega)
    omega
  by_cases c1 : j < 18
  · exact mcks_use mck_1 (by omega) (by omega) h
  by_cases c18 : j < 30
  · exact mcks_use mck_18 (by omega) (by omega) h
  by_cases c30 : j < 43
  · exact mcks_use mck_30 (by omega) (by omega) h
  by_cases c43 : j < 54
  · exact mcks_use mck_43 (by omega) (by omega) h
  by_cases c54 : j < 66
  · exact mcks_use mck_54 (by omega) (by omega) h
  by_cases c66 : j < 77
  · exact mcks_use mck_66 (by omega) (by omega) h
  by_cases c77 : j < 84
  · exact mcks_use mck_77 (by omega) (by omega) h
  by_cases c84 : j < 98
  · exact mcks_use mck_84 (by omega) (by omega) h
  by_cases c98 : j < 113
  · exact mcks_use mck_98 (by omega) (by omega) h
  by_cases c113 : j < 123
  · exact mcks_use mck_113 (by omega) (by omega) h
  by_cases c123 : j < 130
  · exact mcks_use mck_123 (by omega) (by omega) h
  by_cases c130 : j < 146
  · exact mcks_use mck_130 (by omega) (by omega) h
  by_cases c146 : j < 156
  · exact mcks_use mck_146 (by omega) (by omega) h
  by_cases c156 : j < 173
  · exact mcks_use mck_156 (by omega) (by omega) h
  by_cases c173 : j < 189
  · exact mcks_use mck_173 (by omega) (by omega) h
  by_cases c189 : j < 202
  · exact mcks_use mck_189 (by omega) (by omega) h
  by_cases c202 : j < 207
  · exact mcks_use mck_202 (by omega) (by omega) h
  by_cases c207 : j < 218
  · exact mcks_use mck_207 (by omega) (by omega) h
  by_cases c218 : j < 223
  · exact mcks_use mck_218 (by omega) (by omega) h
  by_cases c223 : j < 229
  · exact mcks_use mck_223 (by omega) (by omega) h
  by_cases c229 : j < 234
  · exact mcks_use mck_229 (by omega) (by omega) h
  by_cases c234 : j < 241
  · exact mcks_use mck_234 (by omega) (by omega) h
  by_cases c241 : j < 248
  · exact mcks_use mck_241 (by omega) (by omega) h
  by_cases c248 : j < 261
  · exact mcks_use mck_248 (by omega) (by omega) h
  by_cases c261 : j < 272
  · exact mcks_use mck_261 (by omega) (by omega) h
  by_cases c272 : j < 280
  · exact mcks_use mck_272 (by omega) (by omega) h
  by_cases c280 : j < 287
  · exact mcks_use mck_280 (by omega) (by omega) h
  by_cases c287 : j < 297
  · exact mcks_use mck_287 (by omega) (by omega) h
  by_cases c297 : j < 319
  · exact mcks_use mck_297 (by omega) (by omega) h
  by_cases c319 : j < 341
  · exact mcks_use mck_319 (by omega) (by omega) h
  omega
