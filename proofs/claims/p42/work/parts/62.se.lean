/-! ===== pieces of the methods between cuts: printed by a program of mine ===== -/
theorem t_247_0 {E : mO × tW} {K : tK} {d : mD} {x0 x1 x2 : Int}
  (h : tCall E 238 [.inr (11, x0), .inl (0, x1)] d (tbk E 247 3 [.inr (11, x0), .inl (0, x1), .inl (0, x2), tu, tu] [.inr (11, x0)] 0 0 K)) :
  tRun E 247 (0, [.inr (11, x0), .inl (0, x1), .inl (0, x2), tu, tu], [], 0, 0, d) K := tT_run (cut := [0, 6, 22, 56, 65, 87, 118, 136]) 4 _ h
theorem t_247_6 {E : mO × tW} {K : tK} {d : mD} {x0 x1 x2 y0 y1 : Int}
  (h : mInR y1 ∧ (¬ y1 = 0 → mInR x2 ∧ tCall E 176 [.inl (1, x2), .inl (1, 0), .inl (1, 10)] d (tbk E 247 19 [.inr (11, x0), .inl (0, x1), .inl (0, x2), tu, tu] [.inr (11, y0)] 0 0 K)) ∧ (y1 = 0 → mInR ((mset d y0 0 1) x0 0) ∧ ((mset d y0 0 1) x0 0 ≤ 0 → (mInR x2 ∧ mInR 8) ∧ (8 ≤ x2 → tRun E 247 (65, [.inr (11, x0), .inl (0, x1), .inl (0, x2), .inl (0, 0), .inl (0, 0)], [], 0, 0, mset d y0 0 1) K) ∧ (x2 < 8 → tCall E 179 [.inl (0, x1)] (mset d y0 0 1) (tbk E 247 53 [.inr (11, x0), .inl (0, x1), .inl (0, x2), tu, tu] [.inr (25, x0 + 1)] 0 0 K))) ∧ (0 < (mset d y0 0 1) x0 0 → K (.inl (some (0, 0))) (mset d y0 0 1)))) :
  tRun E 247 (6, [.inr (11, x0), .inl (0, x1), .inl (0, x2), tu, tu], [.inl (0, y1), .inr (11, y0)], 0, 0, d) K := tT_run (cut := [0, 6, 22, 56, 65, 87, 118, 136]) 14 _ h
theorem t_247_22 {E : mO × tW} {K : tK} {d : mD} {x0 x1 x2 y0 y1 : Int}
  (h : mInR y1 ∧ (y1 = 0 → mInR ((mset d y0 0 2) x0 0) ∧ ((mset d y0 0 2) x0 0 ≤ 0 → (mInR x2 ∧ mInR 8) ∧ (8 ≤ x2 → tRun E 247 (65, [.inr (11, x0), .inl (0, x1), .inl (0, x2), .inl (0, 0), .inl (0, 0)], [], 0, 0, mset d y0 0 2) K) ∧ (x2 < 8 → tCall E 179 [.inl (0, x1)] (mset d y0 0 2) (tbk E 247 53 [.inr (11, x0), .inl (0, x1), .inl (0, x2), tu, tu] [.inr (25, x0 + 1)] 0 0 K))) ∧ (0 < (mset d y0 0 2) x0 0 → K (.inl (some (0, 0))) (mset d y0 0 2))) ∧ (¬ y1 = 0 → mInR ((mset d y0 0 0) x0 0) ∧ ((mset d y0 0 0) x0 0 ≤ 0 → (mInR x2 ∧ mInR 8) ∧ (8 ≤ x2 → tRun E 247 (65, [.inr (11, x0), .inl (0, x1), .inl (0, x2), .inl (0, 0), .inl (0, 0)], [], 0, 0, mset d y0 0 0) K) ∧ (x2 < 8 → tCall E 179 [.inl (0, x1)] (mset d y0 0 0) (tbk E 247 53 [.inr (11, x0), .inl (0, x1), .inl (0, x2), tu, tu] [.inr (25, x0 + 1)] 0 0 K))) ∧ (0 < (mset d y0 0 0) x0 0 → K (.inl (some (0, 0))) (mset d y0 0 0)))) :
  tRun E 247 (22, [.inr (11, x0), .inl (0, x1), .inl (0, x2), tu, tu], [.inl (0, y1), .inr (11, y0)], 0, 0, d) K := tT_run (cut := [0, 6, 22, 56, 65, 87, 118, 136]) 14 _ h
theorem t_247_56 {E : mO × tW} {K : tK} {d : mD} {x0 x1 x2 y0 y1 : Int}
  (h : (0 ≤ y1 + x2 ∧ y1 + x2 < 3116) ∧ K (.inl (some (0, d y0 (y1 + x2)))) d) :
  tRun E 247 (56, [.inr (11, x0), .inl (0, x1), .inl (0, x2), tu, tu], [.inl (0, y1), .inr (25, y0)], 0, 0, d) K := tT_run (cut := [0, 6, 22, 56, 65, 87, 118, 136]) 4 _ h
theorem t_247_65 {E : mO × tW} {K : tK} {d : mD} {x0 x1 x2 x3 x4 : Int}
  (h : (0 ≤ (10 : Int) ∧ (10 : Int) < 3116) ∧ (mInR x4 ∧ mInR (d (x0 + 1) 10)) ∧ (d (x0 + 1) 10 ≤ x4 → (mInR x2 ∧ mInR 8) ∧ (¬ x2 = 8 → (mInR x2 ∧ mInR 9) ∧ (¬ x2 = 9 → tCall E 221 [.inr (11, x0), .inl (0, x1)] d (tbk E 247 133 [.inr (11, x0), .inl (0, x1), .inl (0, x2), .inl (0, x3), .inl (0, x4)] [] 0 0 K)) ∧ (x2 = 9 → tRun E 247 (136, [.inr (11, x0), .inl (0, x1), .inl (0, x2), .inl (0, x3), .inl (0, x4)], [.inl (0, x3)], 0, 0, d) K)) ∧ (x2 = 8 → tCall E 213 [.inr (11, x0), .inl (0, x1)] d (tbk E 247 115 [.inr (11, x0), .inl (0, x1), .inl (0, x2), .inl (0, x3), .inl (0, x4)] [] 0 0 K))) ∧ (x4 < d (x0 + 1) 10 → tCall E 180 [.inl (0, x4)] d (tbk E 247 84 [.inr (11, x0), .inl (0, x1), .inl (0, x2), .inl (0, x3), .inl (0, x4)] [.inr (25, x0 + 1), .inl (0, x3)] 0 0 K))) :
  tRun E 247 (65, [.inr (11, x0), .inl (0, x1), .inl (0, x2), .inl (0, x3), .inl (0, x4)], [], 0, 0, d) K := tT_run (cut := [0, 6, 22, 56, 65, 87, 118, 136]) 15 _ h
theorem t_247_87 {E : mO × tW} {K : tK} {d : mD} {x0 x1 x2 x3 x4 y0 y1 y2 : Int}
  (h : (0 ≤ y2 + 1 ∧ y2 + 1 < 3116) ∧ (mInR (d y1 (y2 + 1)) ∧ mInR x1) ∧ (¬ d y1 (y2 + 1) = x1 → tRun E 247 (65, [.inr (11, x0), .inl (0, x1), .inl (0, x2), .inl (0, y0 + 0), .inl (0, x4 + 1)], [], 0, 0, d) K) ∧ (d y1 (y2 + 1) = x1 → tRun E 247 (65, [.inr (11, x0), .inl (0, x1), .inl (0, x2), .inl (0, y0 + 1), .inl (0, x4 + 1)], [], 0, 0, d) K)) :
  tRun E 247 (87, [.inr (11, x0), .inl (0, x1), .inl (0, x2), .inl (0, x3), .inl (0, x4)], [.inl (0, y2), .inr (25, y1), .inl (0, y0)], 0, 0, d) K := tT_run (cut := [0, 6, 22, 56, 65, 87, 118, 136]) 11 _ h
theorem t_247_118 {E : mO × tW} {K : tK} {d : mD} {x0 x1 x2 x3 x4 y0 : Int}
  (h : tRun E 247 (136, [.inr (11, x0), .inl (0, x1), .inl (0, x2), .inl (0, x3), .inl (0, x4)], [.inl (0, y0)], 0, 0, d) K) :
  tRun E 247 (118, [.inr (11, x0), .inl (0, x1), .inl (0, x2), .inl (0, x3), .inl (0, x4)], [.inl (0, y0)], 0, 0, d) K := tT_run (cut := [0, 6, 22, 56, 65, 87, 118, 136]) 1 _ h
theorem t_247_136 {E : mO × tW} {K : tK} {d : mD} {x0 x1 x2 x3 x4 y0 : Int}
  (h : K (.inl (some (0, y0))) d) :
  tRun E 247 (136, [.inr (11, x0), .inl (0, x1), .inl (0, x2), .inl (0, x3), .inl (0, x4)], [.inl (0, y0)], 0, 0, d) K := tT_run (cut := [0, 6, 22, 56, 65, 87, 118, 136]) 1 _ h
theorem t_248_0 {E : mO × tW} {K : tK} {d : mD} {x0 x1 x2 : Int}
  (h : mInR x1 ∧ (0 ≤ (10 : Int) ∧ (10 : Int) < 3116) ∧ mInR ((d (x0 + 1) 10) - 1) ∧ tCall E 176 [.inl (1, x1), .inl (1, 0), .inl (1, (d (x0 + 1) 10) - 1)] d (tbk E 248 14 [.inr (11, x0), .inl (0, x1), .inl (0, x2), tu, tu] [.inr (11, x0)] 0 0 K)) :
  tRun E 248 (0, [.inr (11, x0), .inl (0, x1), .inl (0, x2), tu, tu], [], 0, 0, d) K := tT_run (cut := [0, 17, 33, 66, 75]) 12 _ h
theorem t_248_17 {E : mO × tW} {K : tK} {d : mD} {x0 x1 x2 y0 y1 : Int}
  (h : mInR y1 ∧ (¬ y1 = 0 → mInR x2 ∧ tCall E 176 [.inl (1, x2), .inl (1, 0), .inl (1, 4)] d (tbk E 248 30 [.inr (11, x0), .inl (0, x1), .inl (0, x2), tu, tu] [.inr (11, y0)] 0 0 K)) ∧ (y1 = 0 → mInR ((mset d y0 0 1) x0 0) ∧ ((mset d y0 0 1) x0 0 ≤ 0 → (mInR x2 ∧ mInR 4) ∧ (4 ≤ x2 → tRun E 248 (75, [.inr (11, x0), .inl (0, x1), .inl (0, x2), .inl (0, (-1)), .inl (0, 0)], [], 0, 0, mset d y0 0 1) K) ∧ (x2 < 4 → tCall E 180 [.inl (0, x1)] (mset d y0 0 1) (tbk E 248 63 [.inr (11, x0), .inl (0, x1), .inl (0, x2), tu, tu] [.inr (25, x0 + 1)] 0 0 K))) ∧ (0 < (mset d y0 0 1) x0 0 → K (.inl (some (0, 0))) (mset d y0 0 1)))) :
  tRun E 248 (17, [.inr (11, x0), .inl (0, x1), .inl (0, x2), tu, tu], [.inl (0, y1), .inr (11, y0)], 0, 0, d) K := tT_run (cut := [0, 17, 33, 66, 75]) 14 _ h
theorem t_248_33 {E : mO × tW} {K : tK} {d : mD} {x0 x1 x2 y0 y1 : Int}
  (h : mInR y1 ∧ (y1 = 0 → mInR ((mset d y0 0 2) x0 0) ∧ ((mset d y0 0 2) x0 0 ≤ 0 → (mInR x2 ∧ mInR 4) ∧ (4 ≤ x2 → tRun E 248 (75, [.inr (11, x0), .inl (0, x1), .inl (0, x2), .inl (0, (-1)), .inl (0, 0)], [], 0, 0, mset d y0 0 2) K) ∧ (x2 < 4 → tCall E 180 [.inl (0, x1)] (mset d y0 0 2) (tbk E 248 63 [.inr (11, x0), .inl (0, x1), .inl (0, x2), tu, tu] [.inr (25, x0 + 1)] 0 0 K))) ∧ (0 < (mset d y0 0 2) x0 0 → K (.inl (some (0, 0))) (mset d y0 0 2))) ∧ (¬ y1 = 0 → mInR ((mset d y0 0 0) x0 0) ∧ ((mset d y0 0 0) x0 0 ≤ 0 → (mInR x2 ∧ mInR 4) ∧ (4 ≤ x2 → tRun E 248 (75, [.inr (11, x0), .inl (0, x1), .inl (0, x2), .inl (0, (-1)), .inl (0, 0)], [], 0, 0, mset d y0 0 0) K) ∧ (x2 < 4 → tCall E 180 [.inl (0, x1)] (mset d y0 0 0) (tbk E 248 63 [.inr (11, x0), .inl (0, x1), .inl (0, x2), tu, tu] [.inr (25, x0 + 1)] 0 0 K))) ∧ (0 < (mset d y0 0 0) x0 0 → K (.inl (some (0, 0))) (mset d y0 0 0)))) :
  tRun E 248 (33, [.inr (11, x0), .inl (0, x1), .inl (0, x2), tu, tu], [.inl (0, y1), .inr (11, y0)], 0, 0, d) K := tT_run (cut := [0, 17, 33, 66, 75]) 14 _ h
theorem t_248_66 {E : mO × tW} {K : tK} {d : mD} {x0 x1 x2 y0 y1 : Int}
  (h : (0 ≤ y1 + x2 ∧ y1 + x2 < 3116) ∧ K (.inl (some (0, d y0 (y1 + x2)))) d) :
  tRun E 248 (66, [.inr (11, x0), .inl (0, x1), .inl (0, x2), tu, tu], [.inl (0, y1), .inr (25, y0)], 0, 0, d) K := tT_run (cut := [0, 17, 33, 66, 75]) 4 _ h
theorem t_248_75 {E : mO × tW} {K : tK} {d : mD} {x0 x1 x2 x3 x4 : Int}
  (h : (0 ≤ (11 : Int) ∧ (11 : Int) < 3116) ∧ (mInR x4 ∧ mInR (d (x0 + 1) 11)) ∧ (d (x0 + 1) 11 ≤ x4 → K (.inl (some (0, x3))) d) ∧ (x4 < d (x0 + 1) 11 → (0 ≤ 2916 + x4 ∧ 2916 + x4 < 3116) ∧ (mInR (d (x0 + 1) (2916 + x4)) ∧ mInR x1) ∧ (¬ d (x0 + 1) (2916 + x4) = x1 → tRun E 248 (75, [.inr (11, x0), .inl (0, x1), .inl (0, x2), .inl (0, x3), .inl (0, x4 + 1)], [], 0, 0, d) K) ∧ (d (x0 + 1) (2916 + x4) = x1 → tRun E 248 (75, [.inr (11, x0), .inl (0, x1), .inl (0, x2), .inl (0, x4), .inl (0, x4 + 1)], [], 0, 0, d) K))) :
  tRun E 248 (75, [.inr (11, x0), .inl (0, x1), .inl (0, x2), .inl (0, x3), .inl (0, x4)], [], 0, 0, d) K := tT_run (cut := [0, 17, 33, 66, 75]) 19 _ h
theorem t_249_0 {E : mO × tW} {K : tK} {d : mD} {x0 x1 x2 : Int}
  (h : tCall E 237 [.inr (11, x0), .inl (0, x1)] d (tbk E 249 3 [.inr (11, x0), .inl (0, x1), .inl (0, x2)] [.inr (11, x0)] 0 0 K)) :
  tRun E 249 (0, [.inr (11, x0), .inl (0, x1), .inl (0, x2)], [], 0, 0, d) K := tT_run (cut := [0, 6, 22, 46]) 4 _ h
theorem t_249_6 {E : mO × tW} {K : tK} {d : mD} {x0 x1 x2 y0 y1 : Int}
  (h : mInR y1 ∧ (¬ y1 = 0 → mInR x2 ∧ tCall E 176 [.inl (1, x2), .inl (1, 0), .inl (1, 999)] d (tbk E 249 19 [.inr (11, x0), .inl (0, x1), .inl (0, x2)] [.inr (11, y0)] 0 0 K)) ∧ (y1 = 0 → mInR ((mset d y0 0 1) x0 0) ∧ (¬ (mset d y0 0 1) x0 0 = 0 → ((0 : Int) = 0 ∨ (0 : Int) = 1) ∧ K (.inl (some (0, 0))) (mset d y0 0 1)) ∧ ((mset d y0 0 1) x0 0 = 0 → tCall E 216 [.inr (11, x0), .inl (0, x1), .inl (0, x2)] (mset d y0 0 1) (tbk E 249 43 [.inr (11, x0), .inl (0, x1), .inl (0, x2)] [] 0 0 K)))) :
  tRun E 249 (6, [.inr (11, x0), .inl (0, x1), .inl (0, x2)], [.inl (0, y1), .inr (11, y0)], 0, 0, d) K := tT_run (cut := [0, 6, 22, 46]) 11 _ h
theorem t_249_22 {E : mO × tW} {K : tK} {d : mD} {x0 x1 x2 y0 y1 : Int}
  (h : mInR y1 ∧ (y1 = 0 → mInR ((mset d y0 0 2) x0 0) ∧ (¬ (mset d y0 0 2) x0 0 = 0 → ((0 : Int) = 0 ∨ (0 : Int) = 1) ∧ K (.inl (some (0, 0))) (mset d y0 0 2)) ∧ ((mset d y0 0 2) x0 0 = 0 → tCall E 216 [.inr (11, x0), .inl (0, x1), .inl (0, x2)] (mset d y0 0 2) (tbk E 249 43 [.inr (11, x0), .inl (0, x1), .inl (0, x2)] [] 0 0 K))) ∧ (¬ y1 = 0 → mInR ((mset d y0 0 0) x0 0) ∧ (¬ (mset d y0 0 0) x0 0 = 0 → ((0 : Int) = 0 ∨ (0 : Int) = 1) ∧ K (.inl (some (0, 0))) (mset d y0 0 0)) ∧ ((mset d y0 0 0) x0 0 = 0 → tCall E 216 [.inr (11, x0), .inl (0, x1), .inl (0, x2)] (mset d y0 0 0) (tbk E 249 43 [.inr (11, x0), .inl (0, x1), .inl (0, x2)] [] 0 0 K)))) :
  tRun E 249 (22, [.inr (11, x0), .inl (0, x1), .inl (0, x2)], [.inl (0, y1), .inr (11, y0)], 0, 0, d) K := tT_run (cut := [0, 6, 22, 46]) 11 _ h
theorem t_249_46 {E : mO × tW} {K : tK} {d : mD} {x0 x1 x2 y0 : Int}
  (h : mInR y0 ∧ (y0 = 0 → ((0 : Int) = 0 ∨ (0 : Int) = 1) ∧ K (.inl (some (0, 0))) d) ∧ (¬ y0 = 0 → ((1 : Int) = 0 ∨ (1 : Int) = 1) ∧ K (.inl (some (0, 1))) d)) :
  tRun E 249 (46, [.inr (11, x0), .inl (0, x1), .inl (0, x2)], [.inl (0, y0)], 0, 0, d) K := tT_run (cut := [0, 6, 22, 46]) 4 _ h
theorem t_250_0 {E : mO × tW} {K : tK} {d : mD} {x0 x1 x2 : Int}
  (h : tCall E 238 [.inr (11, x0), .inl (0, x1)] d (tbk E 250 3 [.inr (11, x0), .inl (0, x1), .inl (0, x2)] [.inr (11, x0)] 0 0 K)) :
  tRun E 250 (0, [.inr (11, x0), .inl (0, x1), .inl (0, x2)], [], 0, 0, d) K := tT_run (cut := [0, 6, 14]) 4 _ h
theorem t_250_6 {E : mO × tW} {K : tK} {d : mD} {x0 x1 x2 y0 y1 : Int}
  (h : mInR y1 ∧ (y1 = 0 → mInR ((mset d y0 0 1) x0 0) ∧ (¬ (mset d y0 0 1) x0 0 = 0 → ((0 : Int) = 0 ∨ (0 : Int) = 1) ∧ K (.inl (some (0, 0))) (mset d y0 0 1)) ∧ ((mset d y0 0 1) x0 0 = 0 → ((1 : Int) = 0 ∨ (1 : Int) = 1) ∧ K (.inl (some (0, 1))) (mset d y0 0 1))) ∧ (¬ y1 = 0 → tCall E 237 [.inr (11, x0), .inl (0, x2)] d (tbk E 250 11 [.inr (11, x0), .inl (0, x1), .inl (0, x2)] [.inr (11, y0)] 0 0 K))) :
  tRun E 250 (6, [.inr (11, x0), .inl (0, x1), .inl (0, x2)], [.inl (0, y1), .inr (11, y0)], 0, 0, d) K := tT_run (cut := [0, 6, 14]) 9 _ h
theorem t_250_14 {E : mO × tW} {K : tK} {d : mD} {x0 x1 x2 y0 y1 : Int}
  (h : mInR y1 ∧ (y1 = 0 → mInR ((mset d y0 0 1) x0 0) ∧ (¬ (mset d y0 0 1) x0 0 = 0 → ((0 : Int) = 0 ∨ (0 : Int) = 1) ∧ K (.inl (some (0, 0))) (mset d y0 0 1)) ∧ ((mset d y0 0 1) x0 0 = 0 → ((1 : Int) = 0 ∨ (1 : Int) = 1) ∧ K (.inl (some (0, 1))) (mset d y0 0 1))) ∧ (¬ y1 = 0 → mInR ((mset d y0 0 0) x0 0) ∧ (¬ (mset d y0 0 0) x0 0 = 0 → ((0 : Int) = 0 ∨ (0 : Int) = 1) ∧ K (.inl (some (0, 0))) (mset d y0 0 0)) ∧ ((mset d y0 0 0) x0 0 = 0 → ((1 : Int) = 0 ∨ (1 : Int) = 1) ∧ K (.inl (some (0, 1))) (mset d y0 0 0)))) :
  tRun E 250 (14, [.inr (11, x0), .inl (0, x1), .inl (0, x2)], [.inl (0, y1), .inr (11, y0)], 0, 0, d) K := tT_run (cut := [0, 6, 14]) 10 _ h
theorem t_251_0 {E : mO × tW} {K : tK} {d : mD} {x0 x1 x2 : Int}
  (h : tCall E 250 [.inr (11, x0), .inl (0, x1), .inl (0, x2)] d (tbk E 251 3 [.inr (11, x0), .inl (0, x1), .inl (0, x2)] [] 0 0 K)) :
  tRun E 251 (0, [.inr (11, x0), .inl (0, x1), .inl (0, x2)], [], 0, 0, d) K := tT_run (cut := [0, 6, 15]) 4 _ h
theorem t_251_6 {E : mO × tW} {K : tK} {d : mD} {x0 x1 x2 y0 : Int}
  (h : mInR y0 ∧ (y0 = 0 → K (.inl (some (0, 0))) d) ∧ (¬ y0 = 0 → tCall E 234 [.inr (11, x0), .inl (0, x1), .inl (0, x2)] d (tbk E 251 12 [.inr (11, x0), .inl (0, x1), .inl (0, x2)] [] 0 0 K))) :
  tRun E 251 (6, [.inr (11, x0), .inl (0, x1), .inl (0, x2)], [.inl (0, y0)], 0, 0, d) K := tT_run (cut := [0, 6, 15]) 5 _ h
theorem t_251_15 {E : mO × tW} {K : tK} {d : mD} {x0 x1 x2 y0 : Int}
  (h : K (.inl (some (0, y0))) d) :
  tRun E 251 (15, [.inr (11, x0), .inl (0, x1), .inl (0, x2)], [.inl (0, y0)], 0, 0, d) K := tT_run (cut := [0, 6, 15]) 2 _ h
theorem t_252_0 {E : mO × tW} {K : tK} {d : mD} {x0 x1 x2 : Int}
  (h : tCall E 250 [.inr (11, x0), .inl (0, x1), .inl (0, x2)] d (tbk E 252 3 [.inr (11, x0), .inl (0, x1), .inl (0, x2)] [] 0 0 K)) :
  tRun E 252 (0, [.inr (11, x0), .inl (0, x1), .inl (0, x2)], [], 0, 0, d) K := tT_run (cut := [0, 6, 15]) 4 _ h
theorem t_252_6 {E : mO × tW} {K : tK} {d : mD} {x0 x1 x2 y0 : Int}
  (h : mInR y0 ∧ (y0 = 0 → K (.inl (some (0, 0))) d) ∧ (¬ y0 = 0 → tCall E 231 [.inr (11, x0), .inl (0, x1), .inl (0, x2)] d (tbk E 252 12 [.inr (11, x0), .inl (0, x1), .inl (0, x2)] [] 0 0 K))) :
  tRun E 252 (6, [.inr (11, x0), .inl (0, x1), .inl (0, x2)], [.inl (0, y0)], 0, 0, d) K := tT_run (cut := [0, 6, 15]) 5 _ h
theorem t_252_15 {E : mO × tW} {K : tK} {d : mD} {x0 x1 x2 y0 : Int}
  (h : K (.inl (some (0, y0))) d) :
  tRun E 252 (15, [.inr (11, x0), .inl (0, x1), .inl (0, x2)], [.inl (0, y0)], 0, 0, d) K := tT_run (cut := [0, 6, 15]) 2 _ h
theorem t_253_0 {E : mO × tW} {K : tK} {d : mD} {x0 x1 x2 : Int}
  (h : tCall E 238 [.inr (11, x0), .inl (0, x1)] d (tbk E 253 3 [.inr (11, x0), .inl (0, x1), .inl (0, x2), tu, tu] [.inr (11, x0)] 0 0 K)) :
  tRun E 253 (0, [.inr (11, x0), .inl (0, x1), .inl (0, x2), tu, tu], [], 0, 0, d) K := tT_run (cut := [0, 6, 31, 54]) 4 _ h
theorem t_253_6 {E : mO × tW} {K : tK} {d : mD} {x0 x1 x2 y0 y1 : Int}
  (h : mInR y1 ∧ (y1 = 0 → mInR ((mset d y0 0 1) x0 0) ∧ ((mset d y0 0 1) x0 0 ≤ 0 → tRun E 253 (31, [.inr (11, x0), .inl (0, x1), .inl (0, x2), .inl (0, x2), .inl (0, 0)], [], 0, 0, mset d y0 0 1) K) ∧ (0 < (mset d y0 0 1) x0 0 → K (.inl (some (0, 0))) (mset d y0 0 1))) ∧ (¬ y1 = 0 → mInR ((mset d y0 0 0) x0 0) ∧ ((mset d y0 0 0) x0 0 ≤ 0 → tRun E 253 (31, [.inr (11, x0), .inl (0, x1), .inl (0, x2), .inl (0, x2), .inl (0, 0)], [], 0, 0, mset d y0 0 0) K) ∧ (0 < (mset d y0 0 0) x0 0 → K (.inl (some (0, 0))) (mset d y0 0 0)))) :
  tRun E 253 (6, [.inr (11, x0), .inl (0, x1), .inl (0, x2), tu, tu], [.inl (0, y1), .inr (11, y0)], 0, 0, d) K := tT_run (cut := [0, 6, 31, 54]) 11 _ h
theorem t_253_31 {E : mO × tW} {K : tK} {d : mD} {x0 x1 x2 x3 x4 : Int}
  (h : (0 ≤ (8 : Int) ∧ (8 : Int) < 3116) ∧ (mInR x4 ∧ mInR (d (x0 + 1) 8)) ∧ (d (x0 + 1) 8 ≤ x4 → K (.inl (some (0, 0))) (mset d x0 0 2)) ∧ (x4 < d (x0 + 1) 8 → mInR x2 ∧ (x2 < 0 → K (.inl (some (0, 0))) (mset d x0 0 2)) ∧ (0 ≤ x2 → tCall E 234 [.inr (11, x0), .inl (0, x1), .inl (0, x4)] d (tbk E 253 51 [.inr (11, x0), .inl (0, x1), .inl (0, x2), .inl (0, x3), .inl (0, x4)] [] 0 0 K)))) :
  tRun E 253 (31, [.inr (11, x0), .inl (0, x1), .inl (0, x2), .inl (0, x3), .inl (0, x4)], [], 0, 0, d) K := tT_run (cut := [0, 6, 31, 54]) 13 _ h
theorem t_253_54 {E : mO × tW} {K : tK} {d : mD} {x0 x1 x2 x3 x4 y0 : Int}
  (h : mInR y0 ∧ (¬ y0 = 0 → tRun E 253 (31, [.inr (11, x0), .inl (0, x1), .inl (0, x2), .inl (0, x3), .inl (0, x4 + 1)], [], 0, 0, d) K) ∧ (y0 = 0 → mInR x3 ∧ (¬ x3 = 0 → tRun E 253 (31, [.inr (11, x0), .inl (0, x1), .inl (0, x2), .inl (0, x3 + (-1)), .inl (0, x4 + 1)], [], 0, 0, d) K) ∧ (x3 = 0 → K (.inl (some (0, x4))) d))) :
  tRun E 253 (54, [.inr (11, x0), .inl (0, x1), .inl (0, x2), .inl (0, x3), .inl (0, x4)], [.inl (0, y0)], 0, 0, d) K := tT_run (cut := [0, 6, 31, 54]) 6 _ h
theorem t_254_0 {E : mO × tW} {K : tK} {d : mD} {x0 x1 x2 : Int}
  (h : tCall E 250 [.inr (11, x0), .inl (0, x1), .inl (0, x2)] d (tbk E 254 3 [.inr (11, x0), .inl (0, x1), .inl (0, x2)] [] 0 0 K)) :
  tRun E 254 (0, [.inr (11, x0), .inl (0, x1), .inl (0, x2)], [], 0, 0, d) K := tT_run (cut := [0, 6, 17]) 4 _ h
theorem t_254_6 {E : mO × tW} {K : tK} {d : mD} {x0 x1 x2 y0 : Int}
  (h : mInR y0 ∧ (y0 = 0 → ((0 : Int) = 0 ∨ (0 : Int) = 1) ∧ K (.inl (some (0, 0))) d) ∧ (¬ y0 = 0 → tCall E 179 [.inl (0, x1)] d (tbk E 254 14 [.inr (11, x0), .inl (0, x1), .inl (0, x2)] [.inr (25, x0 + 1)] 0 0 K))) :
  tRun E 254 (6, [.inr (11, x0), .inl (0, x1), .inl (0, x2)], [.inl (0, y0)], 0, 0, d) K := tT_run (cut := [0, 6, 17]) 5 _ h
theorem t_254_17 {E : mO × tW} {K : tK} {d : mD} {x0 x1 x2 y0 y1 : Int}
  (h : (0 ≤ (y1 + 8) + x2 ∧ (y1 + 8) + x2 < 3116) ∧ mInR (d y0 ((y1 + 8) + x2)) ∧ (d y0 ((y1 + 8) + x2) = 0 → ((0 : Int) = 0 ∨ (0 : Int) = 1) ∧ K (.inl (some (0, 0))) d) ∧ (¬ d y0 ((y1 + 8) + x2) = 0 → ((1 : Int) = 0 ∨ (1 : Int) = 1) ∧ K (.inl (some (0, 1))) d)) :
  tRun E 254 (17, [.inr (11, x0), .inl (0, x1), .inl (0, x2)], [.inl (0, y1), .inr (25, y0)], 0, 0, d) K := tT_run (cut := [0, 6, 17]) 9 _ h
theorem t_255_0 {E : mO × tW} {K : tK} {d : mD} {x0 : Int}
  (h : tRun E 255 (2, [.inr (11, x0), .inl (0, 0)], [], 0, 0, d) K) :
  tRun E 255 (0, [.inr (11, x0), tu], [], 0, 0, d) K := tT_run (cut := [0, 2]) 2 _ h
theorem t_255_2 {E : mO × tW} {K : tK} {d : mD} {x0 x1 : Int}
  (h : (mInR x1 ∧ mInR 3116) ∧ (3116 ≤ x1 → K (.inl none) d) ∧ (x1 < 3116 → (0 ≤ x1 ∧ x1 < 3116) ∧ (0 ≤ x1 ∧ x1 < 3116) ∧ tRun E 255 (2, [.inr (11, x0), .inl (0, x1 + 1)], [], 0, 0, mset d (x0 + 4) x1 (d (x0 + 1) x1)) K)) :
  tRun E 255 (2, [.inr (11, x0), .inl (0, x1)], [], 0, 0, d) K := tT_run (cut := [0, 2]) 13 _ h
theorem t_256_0 {E : mO × tW} {K : tK} {d : mD} {x0 : Int}
  (h : tRun E 256 (2, [.inr (11, x0), .inl (0, 0)], [], 0, 0, d) K) :
  tRun E 256 (0, [.inr (11, x0), tu], [], 0, 0, d) K := tT_run (cut := [0, 2]) 2 _ h
theorem t_256_2 {E : mO × tW} {K : tK} {d : mD} {x0 x1 : Int}
  (h : (mInR x1 ∧ mInR 3116) ∧ (3116 ≤ x1 → K (.inl none) d) ∧ (x1 < 3116 → (0 ≤ x1 ∧ x1 < 3116) ∧ (0 ≤ x1 ∧ x1 < 3116) ∧ tRun E 256 (2, [.inr (11, x0), .inl (0, x1 + 1)], [], 0, 0, mset d (x0 + 1) x1 (d (x0 + 4) x1)) K)) :
  tRun E 256 (2, [.inr (11, x0), .inl (0, x1)], [], 0, 0, d) K := tT_run (cut := [0, 2]) 13 _ h
theorem t_257_0 {E : mO × tW} {K : tK} {d : mD} {x0 x1 : Int}
  (h : tCall E 238 [.inr (11, x0), .inl (0, x1)] d (tbk E 257 3 [.inr (11, x0), .inl (0, x1), tu] [.inr (11, x0)] 0 0 K)) :
  tRun E 257 (0, [.inr (11, x0), .inl (0, x1), tu], [], 0, 0, d) K := tT_run (cut := [0, 6, 32, 45, 50, 55]) 4 _ h
theorem t_257_6 {E : mO × tW} {K : tK} {d : mD} {x0 x1 y0 y1 : Int}
  (h : mInR y1 ∧ (y1 = 0 → mInR ((mset d y0 0 1) x0 0) ∧ (0 < (mset d y0 0 1) x0 0 → K (.inl (some (0, 0))) (mset d y0 0 1)) ∧ ((mset d y0 0 1) x0 0 ≤ 0 → tCall E 179 [.inl (0, x1)] (mset d y0 0 1) (tbk E 257 29 [.inr (11, x0), .inl (0, x1), tu] [.inr (25, x0 + 1)] 0 0 K))) ∧ (¬ y1 = 0 → mInR ((mset d y0 0 0) x0 0) ∧ (0 < (mset d y0 0 0) x0 0 → K (.inl (some (0, 0))) (mset d y0 0 0)) ∧ ((mset d y0 0 0) x0 0 ≤ 0 → tCall E 179 [.inl (0, x1)] (mset d y0 0 0) (tbk E 257 29 [.inr (11, x0), .inl (0, x1), tu] [.inr (25, x0 + 1)] 0 0 K)))) :
  tRun E 257 (6, [.inr (11, x0), .inl (0, x1), tu], [.inl (0, y1), .inr (11, y0)], 0, 0, d) K := tT_run (cut := [0, 6, 32, 45, 50, 55]) 11 _ h
theorem t_257_32 {E : mO × tW} {K : tK} {d : mD} {x0 x1 y0 y1 : Int}
  (h : (0 ≤ y1 + 4 ∧ y1 + 4 < 3116) ∧ (mInR (d y0 (y1 + 4)) ∧ mInR 1) ∧ (d y0 (y1 + 4) = 1 → tCall E 255 [.inr (11, x0)] d (tbk E 257 42 [.inr (11, x0), .inl (0, x1), tu] [] 0 0 K)) ∧ (¬ d y0 (y1 + 4) = 1 → K (.inl (some (0, 0))) d)) :
  tRun E 257 (32, [.inr (11, x0), .inl (0, x1), tu], [.inl (0, y1), .inr (25, y0)], 0, 0, d) K := tT_run (cut := [0, 6, 32, 45, 50, 55]) 7 _ h
theorem t_257_45 {E : mO × tW} {K : tK} {d : mD} {x0 x1 : Int}
  (h : tCall E 218 [.inr (11, x0), .inl (0, x1)] d (tbk E 257 47 [.inr (11, x0), .inl (0, x1), tu] [] 0 0 K)) :
  tRun E 257 (45, [.inr (11, x0), .inl (0, x1), tu], [], 0, 0, d) K := tT_run (cut := [0, 6, 32, 45, 50, 55]) 3 _ h
theorem t_257_50 {E : mO × tW} {K : tK} {d : mD} {x0 x1 y0 : Int}
  (h : tCall E 256 [.inr (11, x0)] d (tbk E 257 52 [.inr (11, x0), .inl (0, x1), .inl (0, y0)] [] 0 0 K)) :
  tRun E 257 (50, [.inr (11, x0), .inl (0, x1), tu], [.inl (0, y0)], 0, 0, d) K := tT_run (cut := [0, 6, 32, 45, 50, 55]) 3 _ h
theorem t_257_55 {E : mO × tW} {K : tK} {d : mD} {x0 x1 x2 : Int}
  (h : K (.inl (some (0, x2))) d) :
  tRun E 257 (55, [.inr (11, x0), .inl (0, x1), .inl (0, x2)], [], 0, 0, d) K := tT_run (cut := [0, 6, 32, 45, 50, 55]) 2 _ h
theorem t_258_0 {E : mO × tW} {K : tK} {d : mD} {x0 : Int}
  (h : tRun E 258 (9, [.inr (11, x0), .inl (0, 0), .inl (0, 0)], [], 0, 0, mset d x0 0 0) K) :
  tRun E 258 (0, [.inr (11, x0), tu, tu], [], 0, 0, d) K := tT_run (cut := [0, 9, 29]) 7 _ h
theorem t_258_9 {E : mO × tW} {K : tK} {d : mD} {x0 x1 x2 : Int}
  (h : (0 ≤ (10 : Int) ∧ (10 : Int) < 3116) ∧ (mInR x2 ∧ mInR (d (x0 + 1) 10)) ∧ (d (x0 + 1) 10 ≤ x2 → (0 ≤ (6 : Int) ∧ (6 : Int) < 3116) ∧ K (.inl (some (0, x1 * (d (x0 + 1) 6)))) d) ∧ (x2 < d (x0 + 1) 10 → tCall E 180 [.inl (0, x2)] d (tbk E 258 26 [.inr (11, x0), .inl (0, x1), .inl (0, x2)] [.inr (25, x0 + 1), .inl (0, x1)] 0 0 K))) :
  tRun E 258 (9, [.inr (11, x0), .inl (0, x1), .inl (0, x2)], [], 0, 0, d) K := tT_run (cut := [0, 9, 29]) 13 _ h
theorem t_258_29 {E : mO × tW} {K : tK} {d : mD} {x0 x1 x2 y0 y1 y2 : Int}
  (h : (0 ≤ y2 + 3 ∧ y2 + 3 < 3116) ∧ (mInR (d y1 (y2 + 3)) ∧ mInR 2) ∧ (¬ d y1 (y2 + 3) = 2 → tRun E 258 (9, [.inr (11, x0), .inl (0, y0 + 1), .inl (0, x2 + 1)], [], 0, 0, d) K) ∧ (d y1 (y2 + 3) = 2 → tRun E 258 (9, [.inr (11, x0), .inl (0, y0 + 0), .inl (0, x2 + 1)], [], 0, 0, d) K)) :
  tRun E 258 (29, [.inr (11, x0), .inl (0, x1), .inl (0, x2)], [.inl (0, y2), .inr (25, y1), .inl (0, y0)], 0, 0, d) K := tT_run (cut := [0, 9, 29]) 11 _ h
theorem t_259_0 {E : mO × tW} {K : tK} {d : mD} {x0 : Int}
  (h : tRun E 259 (11, [.inr (11, x0), .inl (0, 0), .inl (0, 0), .inl (0, 0)], [], 0, 0, mset d x0 0 0) K) :
  tRun E 259 (0, [.inr (11, x0), tu, tu, tu], [], 0, 0, d) K := tT_run (cut := [0, 11, 30, 46, 57]) 9 _ h
theorem t_259_11 {E : mO × tW} {K : tK} {d : mD} {x0 x1 x2 x3 : Int}
  (h : (0 ≤ (9 : Int) ∧ (9 : Int) < 3116) ∧ (mInR x3 ∧ mInR (d (x0 + 1) 9)) ∧ (d (x0 + 1) 9 ≤ x3 → mInR x2 ∧ (¬ x2 = 0 → vf_n64 (FP.ddiv (mbit (mi2d x1)) (mbit (mi2d x2))) ∧ K (.inl (some (2, mddiv (mi2d x1) (mi2d x2)))) d) ∧ (x2 = 0 → K (.inl (some (2, 0))) d)) ∧ (x3 < d (x0 + 1) 9 → tCall E 179 [.inl (0, x3)] d (tbk E 259 27 [.inr (11, x0), .inl (0, x1), .inl (0, x2), .inl (0, x3)] [.inr (25, x0 + 1)] 0 0 K))) :
  tRun E 259 (11, [.inr (11, x0), .inl (0, x1), .inl (0, x2), .inl (0, x3)], [], 0, 0, d) K := tT_run (cut := [0, 11, 30, 46, 57]) 14 _ h
theorem t_259_30 {E : mO × tW} {K : tK} {d : mD} {x0 x1 x2 x3 y0 y1 : Int}
  (h : (0 ≤ y1 + 4 ∧ y1 + 4 < 3116) ∧ (mInR (d y0 (y1 + 4)) ∧ mInR 1) ∧ (¬ d y0 (y1 + 4) = 1 → tRun E 259 (11, [.inr (11, x0), .inl (0, x1), .inl (0, x2), .inl (0, x3 + 1)], [], 0, 0, d) K) ∧ (d y0 (y1 + 4) = 1 → tCall E 179 [.inl (0, x3)] d (tbk E 259 43 [.inr (11, x0), .inl (0, x1), .inl (0, x2), .inl (0, x3)] [.inr (25, x0 + 1), .inl (0, x1)] 0 0 K))) :
  tRun E 259 (30, [.inr (11, x0), .inl (0, x1), .inl (0, x2), .inl (0, x3)], [.inl (0, y1), .inr (25, y0)], 0, 0, d) K := tT_run (cut := [0, 11, 30, 46, 57]) 10 _ h
theorem t_259_46 {E : mO × tW} {K : tK} {d : mD} {x0 x1 x2 x3 y0 y1 y2 : Int}
  (h : (0 ≤ y2 + 3 ∧ y2 + 3 < 3116) ∧ tCall E 179 [.inl (0, x3)] d (tbk E 259 54 [.inr (11, x0), .inl (0, x1), .inl (0, x2), .inl (0, x3)] [.inr (25, x0 + 1), .inl (0, d y1 (y2 + 3)), .inl (0, y0)] 0 0 K)) :
  tRun E 259 (46, [.inr (11, x0), .inl (0, x1), .inl (0, x2), .inl (0, x3)], [.inl (0, y2), .inr (25, y1), .inl (0, y0)], 0, 0, d) K := tT_run (cut := [0, 11, 30, 46, 57]) 7 _ h
theorem t_259_57 {E : mO × tW} {K : tK} {d : mD} {x0 x1 x2 x3 y0 y1 y2 y3 : Int}
  (h : (0 ≤ y3 + 2 ∧ y3 + 2 < 3116) ∧ tRun E 259 (11, [.inr (11, x0), .inl (0, y0 + (y1 - (d y2 (y3 + 2)))), .inl (0, x2 + 1), .inl (0, x3 + 1)], [], 0, 0, d) K) :
  tRun E 259 (57, [.inr (11, x0), .inl (0, x1), .inl (0, x2), .inl (0, x3)], [.inl (0, y3), .inr (25, y2), .inl (0, y1), .inl (0, y0)], 0, 0, d) K := tT_run (cut := [0, 11, 30, 46, 57]) 9 _ h
theorem t_260_0 {E : mO × tW} {K : tK} {d : mD} {x0 : Int}
  (h : tRun E 260 (9, [.inr (11, x0), .inl (0, 0), .inl (0, 0)], [], 0, 0, mset d x0 0 0) K) :
  tRun E 260 (0, [.inr (11, x0), tu, tu], [], 0, 0, d) K := tT_run (cut := [0, 9, 27]) 7 _ h
theorem t_260_9 {E : mO × tW} {K : tK} {d : mD} {x0 x1 x2 : Int}
  (h : (0 ≤ (8 : Int) ∧ (8 : Int) < 3116) ∧ (mInR x2 ∧ mInR (d (x0 + 1) 8)) ∧ (d (x0 + 1) 8 ≤ x2 → mInR x1 ∧ (¬ x1 = 0 → (0 ≤ (10 : Int) ∧ (10 : Int) < 3116) ∧ vf_n64 (FP.ddiv (mbit (mi2d (d (x0 + 1) 10))) (mbit (mi2d x1))) ∧ K (.inl (some (2, mddiv (mi2d (d (x0 + 1) 10)) (mi2d x1)))) d) ∧ (x1 = 0 → K (.inl (some (2, 0))) d)) ∧ (x2 < d (x0 + 1) 8 → tCall E 244 [.inr (11, x0), .inl (0, x2), .inl (0, 0)] d (tbk E 260 24 [.inr (11, x0), .inl (0, x1), .inl (0, x2)] [.inl (0, x1)] 0 0 K))) :
  tRun E 260 (9, [.inr (11, x0), .inl (0, x1), .inl (0, x2)], [], 0, 0, d) K := tT_run (cut := [0, 9, 27]) 17 _ h
theorem t_260_27 {E : mO × tW} {K : tK} {d : mD} {x0 x1 x2 y0 y1 : Int}
  (h : tRun E 260 (9, [.inr (11, x0), .inl (0, y0 + y1), .inl (0, x2 + 1)], [], 0, 0, d) K) :
  tRun E 260 (27, [.inr (11, x0), .inl (0, x1), .inl (0, x2)], [.inl (0, y1), .inl (0, y0)], 0, 0, d) K := tT_run (cut := [0, 9, 27]) 4 _ h
theorem t_261_0 {E : mO × tW} {K : tK} {d : mD} {x0 : Int}
  (h : tRun E 261 (11, [.inr (11, x0), .inl (0, (-1)), .inl (0, 0), .inl (0, 0), tu], [], 0, 0, mset d x0 0 0) K) :
  tRun E 261 (0, [.inr (11, x0), tu, tu, tu, tu], [], 0, 0, d) K := tT_run (cut := [0, 11, 28]) 9 _ h
theorem t_261_11 {E : mO × tW} {K : tK} {d : mD} {x0 x1 x2 x3 : Int} {v4 : tV}
  (h : (0 ≤ (8 : Int) ∧ (8 : Int) < 3116) ∧ (mInR x3 ∧ mInR (d (x0 + 1) 8)) ∧ (d (x0 + 1) 8 ≤ x3 → K (.inl (some (0, x1))) d) ∧ (x3 < d (x0 + 1) 8 → tCall E 244 [.inr (11, x0), .inl (0, x3), .inl (0, 0)] d (tbk E 261 25 [.inr (11, x0), .inl (0, x1), .inl (0, x2), .inl (0, x3), v4] [] 0 0 K))) :
  tRun E 261 (11, [.inr (11, x0), .inl (0, x1), .inl (0, x2), .inl (0, x3), v4], [], 0, 0, d) K := tT_run (cut := [0, 11, 28]) 10 _ h
theorem t_261_28 {E : mO × tW} {K : tK} {d : mD} {x0 x1 x2 x3 y0 : Int} {v4 : tV}
  (h : (mInR y0 ∧ mInR x2) ∧ (y0 ≤ x2 → (mInR y0 ∧ mInR x2) ∧ (y0 ≤ x2 → tRun E 261 (11, [.inr (11, x0), .inl (0, x1), .inl (0, x2), .inl (0, x3 + 1), .inl (0, y0)], [], 0, 0, d) K) ∧ (x2 < y0 → tRun E 261 (11, [.inr (11, x0), .inl (0, x1), .inl (0, y0), .inl (0, x3 + 1), .inl (0, y0)], [], 0, 0, d) K)) ∧ (x2 < y0 → (mInR y0 ∧ mInR x2) ∧ (y0 ≤ x2 → tRun E 261 (11, [.inr (11, x0), .inl (0, x3), .inl (0, x2), .inl (0, x3 + 1), .inl (0, y0)], [], 0, 0, d) K) ∧ (x2 < y0 → tRun E 261 (11, [.inr (11, x0), .inl (0, x3), .inl (0, y0), .inl (0, x3 + 1), .inl (0, y0)], [], 0, 0, d) K))) :
  tRun E 261 (28, [.inr (11, x0), .inl (0, x1), .inl (0, x2), .inl (0, x3), v4], [.inl (0, y0)], 0, 0, d) K := tT_run (cut := [0, 11, 28]) 15 _ h
theorem t_262_0 {E : mO × tW} {K : tK} {d : mD} {x0 : Int}
  (h : (0 ≤ (10 : Int) ∧ (10 : Int) < 3116) ∧ tRun E 262 (15, [.inr (11, x0), .inl (0, (mset d x0 0 0) (x0 + 1) 10), .inl (0, 0), tu], [], 0, 0, mset d x0 0 0) K) :
  tRun E 262 (0, [.inr (11, x0), tu, tu, tu], [], 0, 0, d) K := tT_run (cut := [0, 15, 35, 46, 58, 72, 83, 94, 99]) 10 _ h
theorem t_262_15 {E : mO × tW} {K : tK} {d : mD} {x0 x1 x2 : Int} {v3 : tV}
  (h : (0 ≤ (10 : Int) ∧ (10 : Int) < 3116) ∧ (mInR x2 ∧ mInR (d (x0 + 1) 10)) ∧ (d (x0 + 1) 10 ≤ x2 → K (.inl (some (0, x1))) d) ∧ (x2 < d (x0 + 1) 10 → tCall E 180 [.inl (0, x2)] d (tbk E 262 32 [.inr (11, x0), .inl (0, x1), .inl (0, x2), v3] [.inr (25, x0 + 1), .inl (0, x1)] 0 0 K))) :
  tRun E 262 (15, [.inr (11, x0), .inl (0, x1), .inl (0, x2), v3], [], 0, 0, d) K := tT_run (cut := [0, 15, 35, 46, 58, 72, 83, 94, 99]) 11 _ h
theorem t_262_35 {E : mO × tW} {K : tK} {d : mD} {x0 x1 x2 y0 y1 y2 : Int} {v3 : tV}
  (h : (0 ≤ y2 + 3 ∧ y2 + 3 < 3116) ∧ mInR (d y1 (y2 + 3)) ∧ tCall E 176 [.inl (1, d y1 (y2 + 3)), .inl (1, 0), .inl (1, 2)] d (tbk E 262 43 [.inr (11, x0), .inl (0, x1), .inl (0, x2), v3] [.inl (0, y0)] 0 0 K)) :
  tRun E 262 (35, [.inr (11, x0), .inl (0, x1), .inl (0, x2), v3], [.inl (0, y2), .inr (25, y1), .inl (0, y0)], 0, 0, d) K := tT_run (cut := [0, 15, 35, 46, 58, 72, 83, 94, 99]) 7 _ h
theorem t_262_46 {E : mO × tW} {K : tK} {d : mD} {x0 x1 x2 y0 y1 : Int} {v3 : tV}
  (h : mInR y1 ∧ (y1 = 0 → tRun E 262 (58, [.inr (11, x0), .inl (0, y0 - 0), .inl (0, x2), .inl (0, 0)], [], 0, 0, d) K) ∧ (¬ y1 = 0 → tRun E 262 (58, [.inr (11, x0), .inl (0, y0 - 1), .inl (0, x2), .inl (0, 0)], [], 0, 0, d) K)) :
  tRun E 262 (46, [.inr (11, x0), .inl (0, x1), .inl (0, x2), v3], [.inl (0, y1), .inl (0, y0)], 0, 0, d) K := tT_run (cut := [0, 15, 35, 46, 58, 72, 83, 94, 99]) 7 _ h
theorem t_262_58 {E : mO × tW} {K : tK} {d : mD} {x0 x1 x2 x3 : Int}
  (h : (mInR x3 ∧ mInR x2) ∧ (x2 ≤ x3 → tRun E 262 (15, [.inr (11, x0), .inl (0, x1), .inl (0, x2 + 1), .inl (0, x3)], [], 0, 0, d) K) ∧ (x3 < x2 → tCall E 180 [.inl (0, x2)] d (tbk E 262 69 [.inr (11, x0), .inl (0, x1), .inl (0, x2), .inl (0, x3)] [.inr (25, x0 + 1), .inl (0, x1)] 0 0 K))) :
  tRun E 262 (58, [.inr (11, x0), .inl (0, x1), .inl (0, x2), .inl (0, x3)], [], 0, 0, d) K := tT_run (cut := [0, 15, 35, 46, 58, 72, 83, 94, 99]) 8 _ h
theorem t_262_72 {E : mO × tW} {K : tK} {d : mD} {x0 x1 x2 x3 y0 y1 y2 : Int}
  (h : (0 ≤ y2 + 2 ∧ y2 + 2 < 3116) ∧ tCall E 180 [.inl (0, x3)] d (tbk E 262 80 [.inr (11, x0), .inl (0, x1), .inl (0, x2), .inl (0, x3)] [.inr (25, x0 + 1), .inl (0, d y1 (y2 + 2)), .inl (0, y0)] 0 0 K)) :
  tRun E 262 (72, [.inr (11, x0), .inl (0, x1), .inl (0, x2), .inl (0, x3)], [.inl (0, y2), .inr (25, y1), .inl (0, y0)], 0, 0, d) K := tT_run (cut := [0, 15, 35, 46, 58, 72, 83, 94, 99]) 7 _ h
theorem t_262_83 {E : mO × tW} {K : tK} {d : mD} {x0 x1 x2 x3 y0 y1 y2 y3 : Int}
  (h : (0 ≤ y3 + 2 ∧ y3 + 2 < 3116) ∧ (mInR y1 ∧ mInR (d y2 (y3 + 2))) ∧ (¬ y1 = d y2 (y3 + 2) → tRun E 262 (58, [.inr (11, x0), .inl (0, y0 + 0), .inl (0, x2), .inl (0, x3 + 1)], [], 0, 0, d) K) ∧ (y1 = d y2 (y3 + 2) → tCall E 215 [.inr (11, x0), .inl (0, x2)] d (tbk E 262 91 [.inr (11, x0), .inl (0, x1), .inl (0, x2), .inl (0, x3)] [.inl (0, y0)] 0 0 K))) :
  tRun E 262 (83, [.inr (11, x0), .inl (0, x1), .inl (0, x2), .inl (0, x3)], [.inl (0, y3), .inr (25, y2), .inl (0, y1), .inl (0, y0)], 0, 0, d) K := tT_run (cut := [0, 15, 35, 46, 58, 72, 83, 94, 99]) 9 _ h
theorem t_262_94 {E : mO × tW} {K : tK} {d : mD} {x0 x1 x2 x3 y0 y1 : Int}
  (h : tCall E 215 [.inr (11, x0), .inl (0, x3)] d (tbk E 262 96 [.inr (11, x0), .inl (0, x1), .inl (0, x2), .inl (0, x3)] [.inl (0, y1), .inl (0, y0)] 0 0 K)) :
  tRun E 262 (94, [.inr (11, x0), .inl (0, x1), .inl (0, x2), .inl (0, x3)], [.inl (0, y1), .inl (0, y0)], 0, 0, d) K := tT_run (cut := [0, 15, 35, 46, 58, 72, 83, 94, 99]) 3 _ h
theorem t_262_99 {E : mO × tW} {K : tK} {d : mD} {x0 x1 x2 x3 y0 y1 y2 : Int}
  (h : (mInR y1 ∧ mInR y2) ∧ (¬ y1 = y2 → tRun E 262 (58, [.inr (11, x0), .inl (0, y0 + 0), .inl (0, x2), .inl (0, x3 + 1)], [], 0, 0, d) K) ∧ (y1 = y2 → tRun E 262 (58, [.inr (11, x0), .inl (0, y0 + 1), .inl (0, x2), .inl (0, x3 + 1)], [], 0, 0, d) K)) :
  tRun E 262 (99, [.inr (11, x0), .inl (0, x1), .inl (0, x2), .inl (0, x3)], [.inl (0, y2), .inl (0, y1), .inl (0, y0)], 0, 0, d) K := tT_run (cut := [0, 15, 35, 46, 58, 72, 83, 94, 99]) 7 _ h
theorem t_263_0 {E : mO × tW} {K : tK} {d : mD} {x0 x1 : Int}
  (h : tRun E 263 (2, [.inr (11, x0), .inl (0, x1), .inl (0, 0)], [], 0, 0, d) K) :
  tRun E 263 (0, [.inr (11, x0), .inl (0, x1), tu], [], 0, 0, d) K := tT_run (cut := [0, 2, 17, 28]) 2 _ h
theorem t_263_2 {E : mO × tW} {K : tK} {d : mD} {x0 x1 x2 : Int}
  (h : (mInR x2 ∧ mInR 200) ∧ (200 < x2 → K (.inl (some (0, x2))) d) ∧ (x2 ≤ 200 → tCall E 179 [.inl (0, x1)] d (tbk E 263 14 [.inr (11, x0), .inl (0, x1), .inl (0, x2)] [.inr (25, x0 + 1)] 0 0 K))) :
  tRun E 263 (2, [.inr (11, x0), .inl (0, x1), .inl (0, x2)], [], 0, 0, d) K := tT_run (cut := [0, 2, 17, 28]) 7 _ h
theorem t_263_17 {E : mO × tW} {K : tK} {d : mD} {x0 x1 x2 y0 y1 : Int}
  (h : (0 ≤ y1 + 4 ∧ y1 + 4 < 3116) ∧ (mInR (d y0 (y1 + 4)) ∧ mInR 1) ∧ (d y0 (y1 + 4) = 1 → K (.inl (some (0, x2))) d) ∧ (¬ d y0 (y1 + 4) = 1 → tCall E 223 [.inr (11, x0)] d (tbk E 263 25 [.inr (11, x0), .inl (0, x1), .inl (0, x2)] [] 0 0 K))) :
  tRun E 263 (17, [.inr (11, x0), .inl (0, x1), .inl (0, x2)], [.inl (0, y1), .inr (25, y0)], 0, 0, d) K := tT_run (cut := [0, 2, 17, 28]) 7 _ h
theorem t_263_28 {E : mO × tW} {K : tK} {d : mD} {x0 x1 x2 : Int}
  (h : tRun E 263 (2, [.inr (11, x0), .inl (0, x1), .inl (0, x2 + 1)], [], 0, 0, d) K) :
  tRun E 263 (28, [.inr (11, x0), .inl (0, x1), .inl (0, x2)], [], 0, 0, d) K := tT_run (cut := [0, 2, 17, 28]) 2 _ h
theorem t_264_0 {E : mO × tW} {K : tK} {d : mD} {x0 x1 : Int}
  (h : tCall E 238 [.inr (11, x0), .inl (0, x1)] d (tbk E 264 3 [.inr (11, x0), .inl (0, x1), tu] [.inr (11, x0)] 0 0 K)) :
  tRun E 264 (0, [.inr (11, x0), .inl (0, x1), tu], [], 0, 0, d) K := tT_run (cut := [0, 6, 30, 35, 40]) 4 _ h
theorem t_264_6 {E : mO × tW} {K : tK} {d : mD} {x0 x1 y0 y1 : Int}
  (h : mInR y1 ∧ (y1 = 0 → mInR ((mset d y0 0 1) x0 0) ∧ ((mset d y0 0 1) x0 0 ≤ 0 → tCall E 255 [.inr (11, x0)] (mset d y0 0 1) (tbk E 264 27 [.inr (11, x0), .inl (0, x1), tu] [] 0 0 K)) ∧ (0 < (mset d y0 0 1) x0 0 → K (.inl (some (0, 0))) (mset d y0 0 1))) ∧ (¬ y1 = 0 → mInR ((mset d y0 0 0) x0 0) ∧ ((mset d y0 0 0) x0 0 ≤ 0 → tCall E 255 [.inr (11, x0)] (mset d y0 0 0) (tbk E 264 27 [.inr (11, x0), .inl (0, x1), tu] [] 0 0 K)) ∧ (0 < (mset d y0 0 0) x0 0 → K (.inl (some (0, 0))) (mset d y0 0 0)))) :
  tRun E 264 (6, [.inr (11, x0), .inl (0, x1), tu], [.inl (0, y1), .inr (11, y0)], 0, 0, d) K := tT_run (cut := [0, 6, 30, 35, 40]) 9 _ h
theorem t_264_30 {E : mO × tW} {K : tK} {d : mD} {x0 x1 : Int}
  (h : tCall E 263 [.inr (11, x0), .inl (0, x1)] d (tbk E 264 32 [.inr (11, x0), .inl (0, x1), tu] [] 0 0 K)) :
  tRun E 264 (30, [.inr (11, x0), .inl (0, x1), tu], [], 0, 0, d) K := tT_run (cut := [0, 6, 30, 35, 40]) 3 _ h
theorem t_264_35 {E : mO × tW} {K : tK} {d : mD} {x0 x1 y0 : Int}
  (h : tCall E 256 [.inr (11, x0)] d (tbk E 264 37 [.inr (11, x0), .inl (0, x1), .inl (0, y0)] [] 0 0 K)) :
  tRun E 264 (35, [.inr (11, x0), .inl (0, x1), tu], [.inl (0, y0)], 0, 0, d) K := tT_run (cut := [0, 6, 30, 35, 40]) 3 _ h
theorem t_264_40 {E : mO × tW} {K : tK} {d : mD} {x0 x1 x2 : Int}
  (h : (mInR x2 ∧ mInR 200) ∧ (x2 ≤ 200 → mInR ((mset d x0 0 0) x0 0) ∧ ((mset d x0 0 0) x0 0 ≤ 0 → K (.inl (some (0, x2))) (mset d x0 0 0)) ∧ (0 < (mset d x0 0 0) x0 0 → K (.inl (some (0, 0))) (mset d x0 0 0))) ∧ (200 < x2 → mInR ((mset d x0 0 2) x0 0) ∧ ((mset d x0 0 2) x0 0 ≤ 0 → K (.inl (some (0, x2))) (mset d x0 0 2)) ∧ (0 < (mset d x0 0 2) x0 0 → K (.inl (some (0, 0))) (mset d x0 0 2)))) :
  tRun E 264 (40, [.inr (11, x0), .inl (0, x1), .inl (0, x2)], [], 0, 0, d) K := tT_run (cut := [0, 6, 30, 35, 40]) 13 _ h
theorem t_265_0 {E : mO × tW} {K : tK} {d : mD} {x0 x1 x2 : Int}
  (h : tCall E 236 [.inr (11, x0), .inl (0, x1)] d (tbk E 265 3 [.inr (11, x0), .inl (0, x1), .inl (0, x2), tu] [.inr (11, x0)] 0 0 K)) :
  tRun E 265 (0, [.inr (11, x0), .inl (0, x1), .inl (0, x2), tu], [], 0, 0, d) K := tT_run (cut := [0, 6, 22, 46, 48, 57, 71, 79]) 4 _ h
theorem t_265_6 {E : mO × tW} {K : tK} {d : mD} {x0 x1 x2 y0 y1 : Int}
  (h : mInR y1 ∧ (¬ y1 = 0 → mInR x2 ∧ tCall E 176 [.inl (1, x2), .inl (1, 0), .inl (1, 200)] d (tbk E 265 19 [.inr (11, x0), .inl (0, x1), .inl (0, x2), tu] [.inr (11, y0)] 0 0 K)) ∧ (y1 = 0 → mInR ((mset d y0 0 1) x0 0) ∧ ((mset d y0 0 1) x0 0 ≤ 0 → tCall E 255 [.inr (11, x0)] (mset d y0 0 1) (tbk E 265 43 [.inr (11, x0), .inl (0, x1), .inl (0, x2), tu] [] 0 0 K)) ∧ (0 < (mset d y0 0 1) x0 0 → K (.inl (some (0, 0))) (mset d y0 0 1)))) :
  tRun E 265 (6, [.inr (11, x0), .inl (0, x1), .inl (0, x2), tu], [.inl (0, y1), .inr (11, y0)], 0, 0, d) K := tT_run (cut := [0, 6, 22, 46, 48, 57, 71, 79]) 9 _ h
theorem t_265_22 {E : mO × tW} {K : tK} {d : mD} {x0 x1 x2 y0 y1 : Int}
  (h : mInR y1 ∧ (y1 = 0 → mInR ((mset d y0 0 2) x0 0) ∧ ((mset d y0 0 2) x0 0 ≤ 0 → tCall E 255 [.inr (11, x0)] (mset d y0 0 2) (tbk E 265 43 [.inr (11, x0), .inl (0, x1), .inl (0, x2), tu] [] 0 0 K)) ∧ (0 < (mset d y0 0 2) x0 0 → K (.inl (some (0, 0))) (mset d y0 0 2))) ∧ (¬ y1 = 0 → mInR ((mset d y0 0 0) x0 0) ∧ ((mset d y0 0 0) x0 0 ≤ 0 → tCall E 255 [.inr (11, x0)] (mset d y0 0 0) (tbk E 265 43 [.inr (11, x0), .inl (0, x1), .inl (0, x2), tu] [] 0 0 K)) ∧ (0 < (mset d y0 0 0) x0 0 → K (.inl (some (0, 0))) (mset d y0 0 0)))) :
  tRun E 265 (22, [.inr (11, x0), .inl (0, x1), .inl (0, x2), tu], [.inl (0, y1), .inr (11, y0)], 0, 0, d) K := tT_run (cut := [0, 6, 22, 46, 48, 57, 71, 79]) 9 _ h
theorem t_265_46 {E : mO × tW} {K : tK} {d : mD} {x0 x1 x2 : Int}
  (h : tRun E 265 (48, [.inr (11, x0), .inl (0, x1), .inl (0, x2), .inl (0, 0)], [], 0, 0, d) K) :
  tRun E 265 (46, [.inr (11, x0), .inl (0, x1), .inl (0, x2), tu], [], 0, 0, d) K := tT_run (cut := [0, 6, 22, 46, 48, 57, 71, 79]) 2 _ h
theorem t_265_48 {E : mO × tW} {K : tK} {d : mD} {x0 x1 x2 x3 : Int}
  (h : (mInR x3 ∧ mInR x2) ∧ (x2 ≤ x3 → tCall E 177 [.inl (0, x1)] d (tbk E 265 68 [.inr (11, x0), .inl (0, x1), .inl (0, x2), .inl (0, x3)] [.inr (25, x0 + 1)] 0 0 K)) ∧ (x3 < x2 → tCall E 223 [.inr (11, x0)] d (tbk E 265 54 [.inr (11, x0), .inl (0, x1), .inl (0, x2), .inl (0, x3)] [] 0 0 K))) :
  tRun E 265 (48, [.inr (11, x0), .inl (0, x1), .inl (0, x2), .inl (0, x3)], [], 0, 0, d) K := tT_run (cut := [0, 6, 22, 46, 48, 57, 71, 79]) 7 _ h
theorem t_265_57 {E : mO × tW} {K : tK} {d : mD} {x0 x1 x2 x3 : Int}
  (h : tRun E 265 (48, [.inr (11, x0), .inl (0, x1), .inl (0, x2), .inl (0, x3 + 1)], [], 0, 0, d) K) :
  tRun E 265 (57, [.inr (11, x0), .inl (0, x1), .inl (0, x2), .inl (0, x3)], [], 0, 0, d) K := tT_run (cut := [0, 6, 22, 46, 48, 57, 71, 79]) 2 _ h
theorem t_265_71 {E : mO × tW} {K : tK} {d : mD} {x0 x1 x2 x3 y0 y1 : Int}
  (h : (0 ≤ y1 + 5 ∧ y1 + 5 < 3116) ∧ tCall E 256 [.inr (11, x0)] d (tbk E 265 76 [.inr (11, x0), .inl (0, x1), .inl (0, x2), .inl (0, d y0 (y1 + 5))] [] 0 0 K)) :
  tRun E 265 (71, [.inr (11, x0), .inl (0, x1), .inl (0, x2), .inl (0, x3)], [.inl (0, y1), .inr (25, y0)], 0, 0, d) K := tT_run (cut := [0, 6, 22, 46, 48, 57, 71, 79]) 6 _ h
theorem t_265_79 {E : mO × tW} {K : tK} {d : mD} {x0 x1 x2 x3 : Int}
  (h : K (.inl (some (0, x3))) d) :
  tRun E 265 (79, [.inr (11, x0), .inl (0, x1), .inl (0, x2), .inl (0, x3)], [], 0, 0, d) K := tT_run (cut := [0, 6, 22, 46, 48, 57, 71, 79]) 2 _ h
theorem t_266_0 {E : mO × tW} {K : tK} {d : mD} {x0 x1 : Int}
  (h : mInR x1 ∧ tCall E 176 [.inl (1, x1), .inl (1, 0), .inl (1, 200)] d (tbk E 266 7 [.inr (11, x0), .inl (0, x1), tu] [.inr (11, x0)] 0 0 K)) :
  tRun E 266 (0, [.inr (11, x0), .inl (0, x1), tu], [], 0, 0, d) K := tT_run (cut := [0, 10, 34, 36, 45, 63]) 6 _ h
theorem t_266_10 {E : mO × tW} {K : tK} {d : mD} {x0 x1 y0 y1 : Int}
  (h : mInR y1 ∧ (y1 = 0 → mInR ((mset d y0 0 1) x0 0) ∧ ((mset d y0 0 1) x0 0 ≤ 0 → tCall E 255 [.inr (11, x0)] (mset d y0 0 1) (tbk E 266 31 [.inr (11, x0), .inl (0, x1), tu] [] 0 0 K)) ∧ (0 < (mset d y0 0 1) x0 0 → K (.inl (some (0, 0))) (mset d y0 0 1))) ∧ (¬ y1 = 0 → mInR ((mset d y0 0 0) x0 0) ∧ ((mset d y0 0 0) x0 0 ≤ 0 → tCall E 255 [.inr (11, x0)] (mset d y0 0 0) (tbk E 266 31 [.inr (11, x0), .inl (0, x1), tu] [] 0 0 K)) ∧ (0 < (mset d y0 0 0) x0 0 → K (.inl (some (0, 0))) (mset d y0 0 0)))) :
  tRun E 266 (10, [.inr (11, x0), .inl (0, x1), tu], [.inl (0, y1), .inr (11, y0)], 0, 0, d) K := tT_run (cut := [0, 10, 34, 36, 45, 63]) 9 _ h
theorem t_266_34 {E : mO × tW} {K : tK} {d : mD} {x0 x1 : Int}
  (h : tRun E 266 (36, [.inr (11, x0), .inl (0, x1), .inl (0, 0)], [], 0, 0, d) K) :
  tRun E 266 (34, [.inr (11, x0), .inl (0, x1), tu], [], 0, 0, d) K := tT_run (cut := [0, 10, 34, 36, 45, 63]) 2 _ h
theorem t_266_36 {E : mO × tW} {K : tK} {d : mD} {x0 x1 x2 : Int}
  (h : (mInR x2 ∧ mInR x1) ∧ (x1 ≤ x2 → (0 ≤ (10 : Int) ∧ (10 : Int) < 3116) ∧ tCall E 256 [.inr (11, x0)] d (tbk E 266 60 [.inr (11, x0), .inl (0, x1), .inl (0, d (x0 + 1) 10)] [] 0 0 K)) ∧ (x2 < x1 → tCall E 223 [.inr (11, x0)] d (tbk E 266 42 [.inr (11, x0), .inl (0, x1), .inl (0, x2)] [] 0 0 K))) :
  tRun E 266 (36, [.inr (11, x0), .inl (0, x1), .inl (0, x2)], [], 0, 0, d) K := tT_run (cut := [0, 10, 34, 36, 45, 63]) 10 _ h
theorem t_266_45 {E : mO × tW} {K : tK} {d : mD} {x0 x1 x2 : Int}
  (h : tRun E 266 (36, [.inr (11, x0), .inl (0, x1), .inl (0, x2 + 1)], [], 0, 0, d) K) :
  tRun E 266 (45, [.inr (11, x0), .inl (0, x1), .inl (0, x2)], [], 0, 0, d) K := tT_run (cut := [0, 10, 34, 36, 45, 63]) 2 _ h
theorem t_266_63 {E : mO × tW} {K : tK} {d : mD} {x0 x1 x2 : Int}
  (h : K (.inl (some (0, x2))) d) :
  tRun E 266 (63, [.inr (11, x0), .inl (0, x1), .inl (0, x2)], [], 0, 0, d) K := tT_run (cut := [0, 10, 34, 36, 45, 63]) 2 _ h
theorem t_267_0 {E : mO × tW} {K : tK} {d : mD} {x0 x1 : Int}
  (h : tCall E 177 [.inl (0, x1)] d (tbk E 267 5 [.inr (11, x0), .inl (0, x1), tu] [.inr (25, x0 + 1)] 0 0 K)) :
  tRun E 267 (0, [.inr (11, x0), .inl (0, x1), tu], [], 0, 0, d) K := tT_run (cut := [0, 8, 22, 29, 32, 37]) 4 _ h
theorem t_267_8 {E : mO × tW} {K : tK} {d : mD} {x0 x1 y0 y1 : Int}
  (h : (0 ≤ y1 + 4 ∧ y1 + 4 < 3116) ∧ mInR (d y0 (y1 + 4)) ∧ (¬ d y0 (y1 + 4) = 0 → tCall E 255 [.inr (11, x0)] d (tbk E 267 19 [.inr (11, x0), .inl (0, x1), tu] [] 0 0 K)) ∧ (d y0 (y1 + 4) = 0 → K (.inl (some (0, 201))) d)) :
  tRun E 267 (8, [.inr (11, x0), .inl (0, x1), tu], [.inl (0, y1), .inr (25, y0)], 0, 0, d) K := tT_run (cut := [0, 8, 22, 29, 32, 37]) 6 _ h
theorem t_267_22 {E : mO × tW} {K : tK} {d : mD} {x0 x1 : Int}
  (h : tCall E 224 [.inr (11, x0), .inl (0, 0), .inl (0, x1)] d (tbk E 267 26 [.inr (11, x0), .inl (0, x1), tu] [.inr (11, x0)] 0 0 K)) :
  tRun E 267 (22, [.inr (11, x0), .inl (0, x1), tu], [], 0, 0, d) K := tT_run (cut := [0, 8, 22, 29, 32, 37]) 5 _ h
theorem t_267_29 {E : mO × tW} {K : tK} {d : mD} {x0 x1 y0 y1 : Int}
  (h : tCall E 263 [.inr (11, y0), .inl (0, y1)] d (tbk E 267 29 [.inr (11, x0), .inl (0, x1), tu] [] 0 0 K)) :
  tRun E 267 (29, [.inr (11, x0), .inl (0, x1), tu], [.inl (0, y1), .inr (11, y0)], 0, 0, d) K := tT_run (cut := [0, 8, 22, 29, 32, 37]) 1 _ h
theorem t_267_32 {E : mO × tW} {K : tK} {d : mD} {x0 x1 y0 : Int}
  (h : tCall E 256 [.inr (11, x0)] d (tbk E 267 34 [.inr (11, x0), .inl (0, x1), .inl (0, y0)] [] 0 0 K)) :
  tRun E 267 (32, [.inr (11, x0), .inl (0, x1), tu], [.inl (0, y0)], 0, 0, d) K := tT_run (cut := [0, 8, 22, 29, 32, 37]) 3 _ h
theorem t_267_37 {E : mO × tW} {K : tK} {d : mD} {x0 x1 x2 : Int}
  (h : K (.inl (some (0, x2))) d) :
  tRun E 267 (37, [.inr (11, x0), .inl (0, x1), .inl (0, x2)], [], 0, 0, d) K := tT_run (cut := [0, 8, 22, 29, 32, 37]) 2 _ h
theorem t_268_0 {E : mO × tW} {K : tK} {d : mD} {x0 x1 : Int}
  (h : tCall E 236 [.inr (11, x0), .inl (0, x1)] d (tbk E 268 3 [.inr (11, x0), .inl (0, x1), tu] [.inr (11, x0)] 0 0 K)) :
  tRun E 268 (0, [.inr (11, x0), .inl (0, x1), tu], [], 0, 0, d) K := tT_run (cut := [0, 6, 31]) 4 _ h
theorem t_268_6 {E : mO × tW} {K : tK} {d : mD} {x0 x1 y0 y1 : Int}
  (h : mInR y1 ∧ (y1 = 0 → mInR ((mset d y0 0 1) x0 0) ∧ ((mset d y0 0 1) x0 0 ≤ 0 → tCall E 267 [.inr (11, x0), .inl (0, x1)] (mset d y0 0 1) (tbk E 268 28 [.inr (11, x0), .inl (0, x1), tu] [] 0 0 K)) ∧ (0 < (mset d y0 0 1) x0 0 → K (.inl (some (0, 0))) (mset d y0 0 1))) ∧ (¬ y1 = 0 → mInR ((mset d y0 0 0) x0 0) ∧ ((mset d y0 0 0) x0 0 ≤ 0 → tCall E 267 [.inr (11, x0), .inl (0, x1)] (mset d y0 0 0) (tbk E 268 28 [.inr (11, x0), .inl (0, x1), tu] [] 0 0 K)) ∧ (0 < (mset d y0 0 0) x0 0 → K (.inl (some (0, 0))) (mset d y0 0 0)))) :
  tRun E 268 (6, [.inr (11, x0), .inl (0, x1), tu], [.inl (0, y1), .inr (11, y0)], 0, 0, d) K := tT_run (cut := [0, 6, 31]) 10 _ h
theorem t_268_31 {E : mO × tW} {K : tK} {d : mD} {x0 x1 y0 : Int}
  (h : (mInR y0 ∧ mInR 200) ∧ (y0 ≤ 200 → mInR ((mset d x0 0 0) x0 0) ∧ ((mset d x0 0 0) x0 0 ≤ 0 → K (.inl (some (0, y0))) (mset d x0 0 0)) ∧ (0 < (mset d x0 0 0) x0 0 → K (.inl (some (0, 0))) (mset d x0 0 0))) ∧ (200 < y0 → mInR ((mset d x0 0 2) x0 0) ∧ ((mset d x0 0 2) x0 0 ≤ 0 → K (.inl (some (0, y0))) (mset d x0 0 2)) ∧ (0 < (mset d x0 0 2) x0 0 → K (.inl (some (0, 0))) (mset d x0 0 2)))) :
  tRun E 268 (31, [.inr (11, x0), .inl (0, x1), tu], [.inl (0, y0)], 0, 0, d) K := tT_run (cut := [0, 6, 31]) 14 _ h
theorem t_269_0 {E : mO × tW} {K : tK} {d : mD} {x0 : Int}
  (h : tRun E 269 (8, [.inr (11, x0), .inl (0, (-1)), .inl (0, 201), .inl (0, 0), tu], [], 0, 0, d) K) :
  tRun E 269 (0, [.inr (11, x0), tu, tu, tu, tu], [], 0, 0, d) K := tT_run (cut := [0, 8, 24]) 6 _ h
theorem t_269_8 {E : mO × tW} {K : tK} {d : mD} {x0 x1 x2 x3 : Int} {v4 : tV}
  (h : (0 ≤ (7 : Int) ∧ (7 : Int) < 3116) ∧ (mInR x3 ∧ mInR (d (x0 + 1) 7)) ∧ (d (x0 + 1) 7 ≤ x3 → (mInR x1 ∧ mInR ((-1))) ∧ (¬ x1 = (-1) → mInR ((mset d x0 0 0) x0 0) ∧ ((mset d x0 0 0) x0 0 ≤ 0 → K (.inl (some (0, x1))) (mset d x0 0 0)) ∧ (0 < (mset d x0 0 0) x0 0 → K (.inl (some (0, 0))) (mset d x0 0 0))) ∧ (x1 = (-1) → mInR ((mset d x0 0 1) x0 0) ∧ ((mset d x0 0 1) x0 0 ≤ 0 → K (.inl (some (0, x1))) (mset d x0 0 1)) ∧ (0 < (mset d x0 0 1) x0 0 → K (.inl (some (0, 0))) (mset d x0 0 1)))) ∧ (x3 < d (x0 + 1) 7 → tCall E 267 [.inr (11, x0), .inl (0, x3)] d (tbk E 269 21 [.inr (11, x0), .inl (0, x1), .inl (0, x2), .inl (0, x3), v4] [] 0 0 K))) :
  tRun E 269 (8, [.inr (11, x0), .inl (0, x1), .inl (0, x2), .inl (0, x3), v4], [], 0, 0, d) K := tT_run (cut := [0, 8, 24]) 19 _ h
theorem t_269_24 {E : mO × tW} {K : tK} {d : mD} {x0 x1 x2 x3 y0 : Int} {v4 : tV}
  (h : (mInR y0 ∧ mInR x2) ∧ (x2 ≤ y0 → (mInR y0 ∧ mInR x2) ∧ (x2 ≤ y0 → tRun E 269 (8, [.inr (11, x0), .inl (0, x1), .inl (0, x2), .inl (0, x3 + 1), .inl (0, y0)], [], 0, 0, d) K) ∧ (y0 < x2 → tRun E 269 (8, [.inr (11, x0), .inl (0, x1), .inl (0, y0), .inl (0, x3 + 1), .inl (0, y0)], [], 0, 0, d) K)) ∧ (y0 < x2 → (mInR y0 ∧ mInR x2) ∧ (x2 ≤ y0 → tRun E 269 (8, [.inr (11, x0), .inl (0, x3), .inl (0, x2), .inl (0, x3 + 1), .inl (0, y0)], [], 0, 0, d) K) ∧ (y0 < x2 → tRun E 269 (8, [.inr (11, x0), .inl (0, x3), .inl (0, y0), .inl (0, x3 + 1), .inl (0, y0)], [], 0, 0, d) K))) :
  tRun E 269 (24, [.inr (11, x0), .inl (0, x1), .inl (0, x2), .inl (0, x3), v4], [.inl (0, y0)], 0, 0, d) K := tT_run (cut := [0, 8, 24]) 15 _ h
theorem t_270_0 {E : mO × tW} {K : tK} {d : mD} {x0 x1 x2 : Int}
  (h : (mInR x1 ∧ mInR x2) ∧ (x1 = x2 → ((0 : Int) = 0 ∨ (0 : Int) = 1) ∧ K (.inl (some (0, 0))) d) ∧ (¬ x1 = x2 → tCall E 177 [.inl (0, x1)] d (tbk E 270 10 [.inr (11, x0), .inl (0, x1), .inl (0, x2)] [.inr (25, x0 + 1)] 0 0 K))) :
  tRun E 270 (0, [.inr (11, x0), .inl (0, x1), .inl (0, x2)], [], 0, 0, d) K := tT_run (cut := [0, 13, 27]) 7 _ h
theorem t_270_13 {E : mO × tW} {K : tK} {d : mD} {x0 x1 x2 y0 y1 : Int}
  (h : (0 ≤ y1 + 4 ∧ y1 + 4 < 3116) ∧ mInR (d y0 (y1 + 4)) ∧ (d y0 (y1 + 4) = 0 → ((0 : Int) = 0 ∨ (0 : Int) = 1) ∧ K (.inl (some (0, 0))) d) ∧ (¬ d y0 (y1 + 4) = 0 → tCall E 177 [.inl (0, x2)] d (tbk E 270 24 [.inr (11, x0), .inl (0, x1), .inl (0, x2)] [.inr (25, x0 + 1)] 0 0 K))) :
  tRun E 270 (13, [.inr (11, x0), .inl (0, x1), .inl (0, x2)], [.inl (0, y1), .inr (25, y0)], 0, 0, d) K := tT_run (cut := [0, 13, 27]) 8 _ h
theorem t_270_27 {E : mO × tW} {K : tK} {d : mD} {x0 x1 x2 y0 y1 : Int}
  (h : (0 ≤ y1 + 4 ∧ y1 + 4 < 3116) ∧ mInR (d y0 (y1 + 4)) ∧ (d y0 (y1 + 4) = 0 → ((0 : Int) = 0 ∨ (0 : Int) = 1) ∧ K (.inl (some (0, 0))) d) ∧ (¬ d y0 (y1 + 4) = 0 → ((1 : Int) = 0 ∨ (1 : Int) = 1) ∧ K (.inl (some (0, 1))) d)) :
  tRun E 270 (27, [.inr (11, x0), .inl (0, x1), .inl (0, x2)], [.inl (0, y1), .inr (25, y0)], 0, 0, d) K := tT_run (cut := [0, 13, 27]) 7 _ h
theorem t_271_0 {E : mO × tW} {K : tK} {d : mD} {x0 : Int}
  (h : tRun E 271 (4, [.inr (11, x0), .inl (0, 0), .inl (0, 0)], [], 0, 0, d) K) :
  tRun E 271 (0, [.inr (11, x0), tu, tu], [], 0, 0, d) K := tT_run (cut := [0, 4, 24]) 4 _ h
theorem t_271_4 {E : mO × tW} {K : tK} {d : mD} {x0 x1 x2 : Int}
  (h : (0 ≤ (7 : Int) ∧ (7 : Int) < 3116) ∧ (mInR x2 ∧ mInR (d (x0 + 1) 7)) ∧ (d (x0 + 1) 7 ≤ x2 → K (.inl (some (0, x1))) d) ∧ (x2 < d (x0 + 1) 7 → tCall E 177 [.inl (0, x2)] d (tbk E 271 21 [.inr (11, x0), .inl (0, x1), .inl (0, x2)] [.inr (25, x0 + 1), .inl (0, x1)] 0 0 K))) :
  tRun E 271 (4, [.inr (11, x0), .inl (0, x1), .inl (0, x2)], [], 0, 0, d) K := tT_run (cut := [0, 4, 24]) 11 _ h
theorem t_271_24 {E : mO × tW} {K : tK} {d : mD} {x0 x1 x2 y0 y1 y2 : Int}
  (h : (0 ≤ y2 + 5 ∧ y2 + 5 < 3116) ∧ tRun E 271 (4, [.inr (11, x0), .inl (0, y0 + (d y1 (y2 + 5))), .inl (0, x2 + 1)], [], 0, 0, d) K) :
  tRun E 271 (24, [.inr (11, x0), .inl (0, x1), .inl (0, x2)], [.inl (0, y2), .inr (25, y1), .inl (0, y0)], 0, 0, d) K := tT_run (cut := [0, 4, 24]) 7 _ h
theorem t_272_0 {E : mO × tW} {K : tK} {d : mD} {x0 x1 x2 : Int}
  (h : tCall E 236 [.inr (11, x0), .inl (0, x1)] d (tbk E 272 3 [.inr (11, x0), .inl (0, x1), .inl (0, x2), tu, tu, tu, tu, tu] [.inr (11, x0)] 0 0 K)) :
  tRun E 272 (0, [.inr (11, x0), .inl (0, x1), .inl (0, x2), tu, tu, tu, tu, tu], [], 0, 0, d) K := tT_run (cut := [0, 6, 14, 27, 51, 57, 59, 70, 77, 89, 106, 206, 221]) 4 _ h
theorem t_272_6 {E : mO × tW} {K : tK} {d : mD} {x0 x1 x2 y0 y1 : Int}
  (h : mInR y1 ∧ (y1 = 0 → mInR ((mset d y0 0 1) x0 0) ∧ ((mset d y0 0 1) x0 0 ≤ 0 → tCall E 255 [.inr (11, x0)] (mset d y0 0 1) (tbk E 272 48 [.inr (11, x0), .inl (0, x1), .inl (0, x2), tu, tu, tu, tu, tu] [] 0 0 K)) ∧ (0 < (mset d y0 0 1) x0 0 → K (.inl (some (0, 0))) (mset d y0 0 1))) ∧ (¬ y1 = 0 → tCall E 236 [.inr (11, x0), .inl (0, x2)] d (tbk E 272 11 [.inr (11, x0), .inl (0, x1), .inl (0, x2), tu, tu, tu, tu, tu] [.inr (11, y0)] 0 0 K))) :
  tRun E 272 (6, [.inr (11, x0), .inl (0, x1), .inl (0, x2), tu, tu, tu, tu, tu], [.inl (0, y1), .inr (11, y0)], 0, 0, d) K := tT_run (cut := [0, 6, 14, 27, 51, 57, 59, 70, 77, 89, 106, 206, 221]) 9 _ h
theorem t_272_14 {E : mO × tW} {K : tK} {d : mD} {x0 x1 x2 y0 y1 : Int}
  (h : mInR y1 ∧ (¬ y1 = 0 → tCall E 270 [.inr (11, x0), .inl (0, x1), .inl (0, x2)] d (tbk E 272 24 [.inr (11, x0), .inl (0, x1), .inl (0, x2), tu, tu, tu, tu, tu] [.inr (11, y0)] 0 0 K)) ∧ (y1 = 0 → mInR ((mset d y0 0 1) x0 0) ∧ ((mset d y0 0 1) x0 0 ≤ 0 → tCall E 255 [.inr (11, x0)] (mset d y0 0 1) (tbk E 272 48 [.inr (11, x0), .inl (0, x1), .inl (0, x2), tu, tu, tu, tu, tu] [] 0 0 K)) ∧ (0 < (mset d y0 0 1) x0 0 → K (.inl (some (0, 0))) (mset d y0 0 1)))) :
  tRun E 272 (14, [.inr (11, x0), .inl (0, x1), .inl (0, x2), tu, tu, tu, tu, tu], [.inl (0, y1), .inr (11, y0)], 0, 0, d) K := tT_run (cut := [0, 6, 14, 27, 51, 57, 59, 70, 77, 89, 106, 206, 221]) 9 _ h
theorem t_272_27 {E : mO × tW} {K : tK} {d : mD} {x0 x1 x2 y0 y1 : Int}
  (h : mInR y1 ∧ (y1 = 0 → mInR ((mset d y0 0 2) x0 0) ∧ ((mset d y0 0 2) x0 0 ≤ 0 → tCall E 255 [.inr (11, x0)] (mset d y0 0 2) (tbk E 272 48 [.inr (11, x0), .inl (0, x1), .inl (0, x2), tu, tu, tu, tu, tu] [] 0 0 K)) ∧ (0 < (mset d y0 0 2) x0 0 → K (.inl (some (0, 0))) (mset d y0 0 2))) ∧ (¬ y1 = 0 → mInR ((mset d y0 0 0) x0 0) ∧ ((mset d y0 0 0) x0 0 ≤ 0 → tCall E 255 [.inr (11, x0)] (mset d y0 0 0) (tbk E 272 48 [.inr (11, x0), .inl (0, x1), .inl (0, x2), tu, tu, tu, tu, tu] [] 0 0 K)) ∧ (0 < (mset d y0 0 0) x0 0 → K (.inl (some (0, 0))) (mset d y0 0 0)))) :
  tRun E 272 (27, [.inr (11, x0), .inl (0, x1), .inl (0, x2), tu, tu, tu, tu, tu], [.inl (0, y1), .inr (11, y0)], 0, 0, d) K := tT_run (cut := [0, 6, 14, 27, 51, 57, 59, 70, 77, 89, 106, 206, 221]) 9 _ h
theorem t_272_51 {E : mO × tW} {K : tK} {d : mD} {x0 x1 x2 : Int}
  (h : tCall E 229 [.inr (11, x0), .inl (0, x1), .inl (0, x2)] d (tbk E 272 54 [.inr (11, x0), .inl (0, x1), .inl (0, x2), tu, tu, tu, tu, tu] [] 0 0 K)) :
  tRun E 272 (51, [.inr (11, x0), .inl (0, x1), .inl (0, x2), tu, tu, tu, tu, tu], [], 0, 0, d) K := tT_run (cut := [0, 6, 14, 27, 51, 57, 59, 70, 77, 89, 106, 206, 221]) 4 _ h
theorem t_272_57 {E : mO × tW} {K : tK} {d : mD} {x0 x1 x2 : Int}
  (h : tRun E 272 (59, [.inr (11, x0), .inl (0, x1), .inl (0, x2), .inl (0, 0), tu, tu, tu, tu], [], 0, 0, d) K) :
  tRun E 272 (57, [.inr (11, x0), .inl (0, x1), .inl (0, x2), tu, tu, tu, tu, tu], [], 0, 0, d) K := tT_run (cut := [0, 6, 14, 27, 51, 57, 59, 70, 77, 89, 106, 206, 221]) 2 _ h
theorem t_272_59 {E : mO × tW} {K : tK} {d : mD} {x0 x1 x2 x3 : Int}
  (h : (mInR x3 ∧ mInR 200) ∧ (200 ≤ x3 → tRun E 272 (89, [.inr (11, x0), .inl (0, x1), .inl (0, x2), .inl (0, x3), .inl (0, 0), .inl (0, 0), tu, tu], [], 0, 0, d) K) ∧ (x3 < 200 → tCall E 271 [.inr (11, x0)] d (tbk E 272 67 [.inr (11, x0), .inl (0, x1), .inl (0, x2), .inl (0, x3), tu, tu, tu, tu] [] 0 0 K))) :
  tRun E 272 (59, [.inr (11, x0), .inl (0, x1), .inl (0, x2), .inl (0, x3), tu, tu, tu, tu], [], 0, 0, d) K := tT_run (cut := [0, 6, 14, 27, 51, 57, 59, 70, 77, 89, 106, 206, 221]) 7 _ h
theorem t_272_70 {E : mO × tW} {K : tK} {d : mD} {x0 x1 x2 x3 y0 : Int}
  (h : mInR y0 ∧ (y0 ≤ 0 → tRun E 272 (89, [.inr (11, x0), .inl (0, x1), .inl (0, x2), .inl (0, x3), .inl (0, 0), .inl (0, 0), tu, tu], [], 0, 0, d) K) ∧ (0 < y0 → tCall E 223 [.inr (11, x0)] d (tbk E 272 74 [.inr (11, x0), .inl (0, x1), .inl (0, x2), .inl (0, x3), tu, tu, tu, tu] [] 0 0 K))) :
  tRun E 272 (70, [.inr (11, x0), .inl (0, x1), .inl (0, x2), .inl (0, x3), tu, tu, tu, tu], [.inl (0, y0)], 0, 0, d) K := tT_run (cut := [0, 6, 14, 27, 51, 57, 59, 70, 77, 89, 106, 206, 221]) 5 _ h
theorem t_272_77 {E : mO × tW} {K : tK} {d : mD} {x0 x1 x2 x3 : Int}
  (h : tRun E 272 (59, [.inr (11, x0), .inl (0, x1), .inl (0, x2), .inl (0, x3 + 1), tu, tu, tu, tu], [], 0, 0, d) K) :
  tRun E 272 (77, [.inr (11, x0), .inl (0, x1), .inl (0, x2), .inl (0, x3), tu, tu, tu, tu], [], 0, 0, d) K := tT_run (cut := [0, 6, 14, 27, 51, 57, 59, 70, 77, 89, 106, 206, 221]) 2 _ h
theorem t_272_89 {E : mO × tW} {K : tK} {d : mD} {x0 x1 x2 x3 x4 x5 : Int} {v6 v7 : tV}
  (h : (0 ≤ (9 : Int) ∧ (9 : Int) < 3116) ∧ (mInR x5 ∧ mInR (d (x0 + 1) 9)) ∧ (d (x0 + 1) 9 ≤ x5 → tCall E 271 [.inr (11, x0)] d (tbk E 272 203 [.inr (11, x0), .inl (0, x1), .inl (0, x2), .inl (0, x3), .inl (0, x4), .inl (0, x5), v6, v7] [.inr (11, x0)] 0 0 K)) ∧ (x5 < d (x0 + 1) 9 → tCall E 179 [.inl (0, x5)] d (tbk E 272 103 [.inr (11, x0), .inl (0, x1), .inl (0, x2), .inl (0, x3), .inl (0, x4), .inl (0, x5), v6, v7] [] 0 0 K))) :
  tRun E 272 (89, [.inr (11, x0), .inl (0, x1), .inl (0, x2), .inl (0, x3), .inl (0, x4), .inl (0, x5), v6, v7], [], 0, 0, d) K := tT_run (cut := [0, 6, 14, 27, 51, 57, 59, 70, 77, 89, 106, 206, 221]) 9 _ h
theorem t_272_106 {E : mO × tW} {K : tK} {d : mD} {x0 x1 x2 x3 x4 x5 y0 : Int} {v6 v7 : tV}
  (h : (0 ≤ y0 + 4 ∧ y0 + 4 < 3116) ∧ mInR (d (x0 + 4) (y0 + 4)) ∧ (¬ d (x0 + 4) (y0 + 4) = 0 → mInR 0 ∧ ((0 : Int) = 0 → tRun E 272 (89, [.inr (11, x0), .inl (0, x1), .inl (0, x2), .inl (0, x3), .inl (0, x4), .inl (0, x5 + 1), .inl (0, y0), .inl (0, 0)], [], 0, 0, d) K) ∧ (¬ (0 : Int) = 0 → (0 ≤ y0 + 3 ∧ y0 + 3 < 3116) ∧ (0 ≤ y0 + 2 ∧ y0 + 2 < 3116) ∧ (mInR ((d (x0 + 1) (y0 + 3)) - (d (x0 + 1) (y0 + 2))) ∧ mInR x4) ∧ ((d (x0 + 1) (y0 + 3)) - (d (x0 + 1) (y0 + 2)) ≤ x4 → tRun E 272 (89, [.inr (11, x0), .inl (0, x1), .inl (0, x2), .inl (0, x3), .inl (0, x4), .inl (0, x5 + 1), .inl (0, y0), .inl (0, 0)], [], 0, 0, d) K) ∧ (x4 < (d (x0 + 1) (y0 + 3)) - (d (x0 + 1) (y0 + 2)) → (0 ≤ y0 + 3 ∧ y0 + 3 < 3116) ∧ (0 ≤ y0 + 2 ∧ y0 + 2 < 3116) ∧ tRun E 272 (89, [.inr (11, x0), .inl (0, x1), .inl (0, x2), .inl (0, x3), .inl (0, (d (x0 + 1) (y0 + 3)) - (d (x0 + 1) (y0 + 2))), .inl (0, x5 + 1), .inl (0, y0), .inl (0, 0)], [], 0, 0, d) K))) ∧ (d (x0 + 4) (y0 + 4) = 0 → (0 ≤ y0 + 4 ∧ y0 + 4 < 3116) ∧ (mInR (d (x0 + 1) (y0 + 4)) ∧ mInR 1) ∧ (¬ d (x0 + 1) (y0 + 4) = 1 → mInR 0 ∧ ((0 : Int) = 0 → tRun E 272 (89, [.inr (11, x0), .inl (0, x1), .inl (0, x2), .inl (0, x3), .inl (0, x4), .inl (0, x5 + 1), .inl (0, y0), .inl (0, 0)], [], 0, 0, d) K) ∧ (¬ (0 : Int) = 0 → (0 ≤ y0 + 3 ∧ y0 + 3 < 3116) ∧ (0 ≤ y0 + 2 ∧ y0 + 2 < 3116) ∧ (mInR ((d (x0 + 1) (y0 + 3)) - (d (x0 + 1) (y0 + 2))) ∧ mInR x4) ∧ ((d (x0 + 1) (y0 + 3)) - (d (x0 + 1) (y0 + 2)) ≤ x4 → tRun E 272 (89, [.inr (11, x0), .inl (0, x1), .inl (0, x2), .inl (0, x3), .inl (0, x4), .inl (0, x5 + 1), .inl (0, y0), .inl (0, 0)], [], 0, 0, d) K) ∧ (x4 < (d (x0 + 1) (y0 + 3)) - (d (x0 + 1) (y0 + 2)) → (0 ≤ y0 + 3 ∧ y0 + 3 < 3116) ∧ (0 ≤ y0 + 2 ∧ y0 + 2 < 3116) ∧ tRun E 272 (89, [.inr (11, x0), .inl (0, x1), .inl (0, x2), .inl (0, x3), .inl (0, (d (x0 + 1) (y0 + 3)) - (d (x0 + 1) (y0 + 2))), .inl (0, x5 + 1), .inl (0, y0), .inl (0, 0)], [], 0, 0, d) K))) ∧ (d (x0 + 1) (y0 + 4) = 1 → mInR 1 ∧ ((1 : Int) = 0 → tRun E 272 (89, [.inr (11, x0), .inl (0, x1), .inl (0, x2), .inl (0, x3), .inl (0, x4), .inl (0, x5 + 1), .inl (0, y0), .inl (0, 1)], [], 0, 0, d) K) ∧ (¬ (1 : Int) = 0 → (0 ≤ y0 + 3 ∧ y0 + 3 < 3116) ∧ (0 ≤ y0 + 2 ∧ y0 + 2 < 3116) ∧ (mInR ((d (x0 + 1) (y0 + 3)) - (d (x0 + 1) (y0 + 2))) ∧ mInR x4) ∧ ((d (x0 + 1) (y0 + 3)) - (d (x0 + 1) (y0 + 2)) ≤ x4 → tRun E 272 (89, [.inr (11, x0), .inl (0, x1), .inl (0, x2), .inl (0, x3), .inl (0, x4), .inl (0, x5 + 1), .inl (0, y0), .inl (0, 1)], [], 0, 0, d) K) ∧ (x4 < (d (x0 + 1) (y0 + 3)) - (d (x0 + 1) (y0 + 2)) → (0 ≤ y0 + 3 ∧ y0 + 3 < 3116) ∧ (0 ≤ y0 + 2 ∧ y0 + 2 < 3116) ∧ tRun E 272 (89, [.inr (11, x0), .inl (0, x1), .inl (0, x2), .inl (0, x3), .inl (0, (d (x0 + 1) (y0 + 3)) - (d (x0 + 1) (y0 + 2))), .inl (0, x5 + 1), .inl (0, y0), .inl (0, 1)], [], 0, 0, d) K))))) :
  tRun E 272 (106, [.inr (11, x0), .inl (0, x1), .inl (0, x2), .inl (0, x3), .inl (0, x4), .inl (0, x5), v6, v7], [.inl (0, y0)], 0, 0, d) K := tT_run (cut := [0, 6, 14, 27, 51, 57, 59, 70, 77, 89, 106, 206, 221]) 53 _ h
theorem t_272_206 {E : mO × tW} {K : tK} {d : mD} {x0 x1 x2 x3 x4 x5 y0 y1 : Int} {v6 v7 : tV}
  (h : mInR y1 ∧ (y1 ≤ 0 → tCall E 256 [.inr (11, x0)] (mset d y0 0 0) (tbk E 272 218 [.inr (11, x0), .inl (0, x1), .inl (0, x2), .inl (0, x3), .inl (0, x4), .inl (0, x5), v6, v7] [] 0 0 K)) ∧ (0 < y1 → tCall E 256 [.inr (11, x0)] (mset d y0 0 3) (tbk E 272 218 [.inr (11, x0), .inl (0, x1), .inl (0, x2), .inl (0, x3), .inl (0, x4), .inl (0, x5), v6, v7] [] 0 0 K))) :
  tRun E 272 (206, [.inr (11, x0), .inl (0, x1), .inl (0, x2), .inl (0, x3), .inl (0, x4), .inl (0, x5), v6, v7], [.inl (0, y1), .inr (11, y0)], 0, 0, d) K := tT_run (cut := [0, 6, 14, 27, 51, 57, 59, 70, 77, 89, 106, 206, 221]) 6 _ h
theorem t_272_221 {E : mO × tW} {K : tK} {d : mD} {x0 x1 x2 x3 x4 x5 : Int} {v6 v7 : tV}
  (h : mInR (d x0 0) ∧ (d x0 0 ≤ 0 → K (.inl (some (0, x4))) d) ∧ (0 < d x0 0 → K (.inl (some (0, 0))) d)) :
  tRun E 272 (221, [.inr (11, x0), .inl (0, x1), .inl (0, x2), .inl (0, x3), .inl (0, x4), .inl (0, x5), v6, v7], [], 0, 0, d) K := tT_run (cut := [0, 6, 14, 27, 51, 57, 59, 70, 77, 89, 106, 206, 221]) 6 _ h
theorem t_273_0 {E : mO × tW} {K : tK} {d : mD} {x0 x1 : Int}
  (h : (0 ≤ d x0 18 ∧ d x0 18 < 800) ∧ K (.inl none) (mset (mset d (x0 + 8) (d x0 18) x1) x0 18 (((mset d (x0 + 8) (d x0 18) x1) x0 18) + 1))) :
  tRun E 273 (0, [.inr (11, x0), .inl (0, x1)], [], 0, 0, d) K := tT_run (cut := [0]) 13 _ h
theorem t_274_0 {E : mO × tW} {K : tK} {d : mD} {x0 x1 : Int}
  (h : tRun E 274 (2, [.inr (11, x0), .inl (0, x1), .inl (0, 1)], [], 0, 0, d) K) :
  tRun E 274 (0, [.inr (11, x0), .inl (0, x1), tu], [], 0, 0, d) K := tT_run (cut := [0, 2, 18, 35]) 2 _ h
theorem t_274_2 {E : mO × tW} {K : tK} {d : mD} {x0 x1 x2 : Int}
  (h : (0 ≤ x1 ∧ x1 ≤ 2147483647 ∧ 0 < x2 ∧ x2 ≤ 2147483647) ∧ (mInR (x1 / x2) ∧ mInR 10) ∧ (x1 / x2 < 10 → tRun E 274 (18, [.inr (11, x0), .inl (0, x1), .inl (0, x2)], [], 0, 0, d) K) ∧ (10 ≤ x1 / x2 → tRun E 274 (2, [.inr (11, x0), .inl (0, x1), .inl (0, x2 * 10)], [], 0, 0, d) K)) :
  tRun E 274 (2, [.inr (11, x0), .inl (0, x1), .inl (0, x2)], [], 0, 0, d) K := tT_run (cut := [0, 2, 18, 35]) 10 _ h
theorem t_274_18 {E : mO × tW} {K : tK} {d : mD} {x0 x1 x2 : Int}
  (h : mInR x2 ∧ (x2 ≤ 0 → K (.inl none) d) ∧ (0 < x2 → (0 ≤ x1 ∧ x1 ≤ 2147483647 ∧ 0 < x2 ∧ x2 ≤ 2147483647) ∧ (0 ≤ x1 / x2 ∧ x1 / x2 ≤ 2147483647 ∧ 0 < (10 : Int) ∧ (10 : Int) ≤ 2147483647) ∧ tCall E 273 [.inr (11, x0), .inl (0, 48 + ((x1 / x2) % 10))] d (tbk E 274 32 [.inr (11, x0), .inl (0, x1), .inl (0, x2)] [] 0 0 K))) :
  tRun E 274 (18, [.inr (11, x0), .inl (0, x1), .inl (0, x2)], [], 0, 0, d) K := tT_run (cut := [0, 2, 18, 35]) 11 _ h
theorem t_274_35 {E : mO × tW} {K : tK} {d : mD} {x0 x1 x2 : Int}
  (h : (0 ≤ x2 ∧ x2 ≤ 2147483647 ∧ 0 < (10 : Int) ∧ (10 : Int) ≤ 2147483647) ∧ tRun E 274 (18, [.inr (11, x0), .inl (0, x1), .inl (0, x2 / 10)], [], 0, 0, d) K) :
  tRun E 274 (35, [.inr (11, x0), .inl (0, x1), .inl (0, x2)], [], 0, 0, d) K := tT_run (cut := [0, 2, 18, 35]) 5 _ h
theorem t_275_0 {E : mO × tW} {K : tK} {d : mD} {x0 x1 : Int}
  (h : tRun E 275 (2, [.inr (11, x0), .inl (0, x1), .inl (0, 1)], [], 0, 0, d) K) :
  tRun E 275 (0, [.inr (11, x0), .inl (0, x1), tu], [], 0, 0, d) K := tT_run (cut := [0, 2, 18, 37]) 2 _ h
theorem t_275_2 {E : mO × tW} {K : tK} {d : mD} {x0 x1 x2 : Int}
  (h : (0 ≤ x1 ∧ x1 ≤ 2147483647 ∧ 0 < x2 ∧ x2 ≤ 2147483647) ∧ (mInR (x1 / x2) ∧ mInR 27) ∧ (x1 / x2 < 27 → tRun E 275 (18, [.inr (11, x0), .inl (0, x1), .inl (0, x2)], [], 0, 0, d) K) ∧ (27 ≤ x1 / x2 → tRun E 275 (2, [.inr (11, x0), .inl (0, x1), .inl (0, x2 * 27)], [], 0, 0, d) K)) :
  tRun E 275 (2, [.inr (11, x0), .inl (0, x1), .inl (0, x2)], [], 0, 0, d) K := tT_run (cut := [0, 2, 18, 37]) 10 _ h
theorem t_275_18 {E : mO × tW} {K : tK} {d : mD} {x0 x1 x2 : Int}
  (h : mInR x2 ∧ (x2 ≤ 0 → K (.inl none) d) ∧ (0 < x2 → (0 ≤ x1 ∧ x1 ≤ 2147483647 ∧ 0 < x2 ∧ x2 ≤ 2147483647) ∧ (0 ≤ x1 / x2 ∧ x1 / x2 ≤ 2147483647 ∧ 0 < (27 : Int) ∧ (27 : Int) ≤ 2147483647) ∧ tCall E 273 [.inr (11, x0), .inl (0, (((x1 / x2) % 27) + 97) - 1)] d (tbk E 275 34 [.inr (11, x0), .inl (0, x1), .inl (0, x2)] [] 0 0 K))) :
  tRun E 275 (18, [.inr (11, x0), .inl (0, x1), .inl (0, x2)], [], 0, 0, d) K := tT_run (cut := [0, 2, 18, 37]) 13 _ h
theorem t_275_37 {E : mO × tW} {K : tK} {d : mD} {x0 x1 x2 : Int}
  (h : (0 ≤ x2 ∧ x2 ≤ 2147483647 ∧ 0 < (27 : Int) ∧ (27 : Int) ≤ 2147483647) ∧ tRun E 275 (18, [.inr (11, x0), .inl (0, x1), .inl (0, x2 / 27)], [], 0, 0, d) K) :
  tRun E 275 (37, [.inr (11, x0), .inl (0, x1), .inl (0, x2)], [], 0, 0, d) K := tT_run (cut := [0, 2, 18, 37]) 5 _ h
theorem t_276_0 {E : mO × tW} {K : tK} {d : mD} {x0 x1 : Int}
  (h : tCall E 236 [.inr (11, x0), .inl (0, x1)] d (tbk E 276 3 [.inr (11, x0), .inl (0, x1), tu, tu, tu] [.inr (11, x0)] 0 0 K)) :
  tRun E 276 (0, [.inr (11, x0), .inl (0, x1), tu, tu, tu], [], 0, 0, d) K := tT_run (cut := [0, 6, 35, 38, 60, 74, 93, 99, 105, 118, 141]) 4 _ h
theorem t_276_6 {E : mO × tW} {K : tK} {d : mD} {x0 x1 y0 y1 : Int}
  (h : mInR y1 ∧ (y1 = 0 → mInR ((mset d y0 0 1) x0 0) ∧ ((mset d y0 0 1) x0 0 ≤ 0 → tCall E 177 [.inl (0, x1)] (mset (mset d y0 0 1) x0 18 0) (tbk E 276 32 [.inr (11, x0), .inl (0, x1), tu, tu, tu] [] 0 0 K)) ∧ (0 < (mset d y0 0 1) x0 0 → K (.inl (some (0, 0))) (mset d y0 0 1))) ∧ (¬ y1 = 0 → mInR ((mset d y0 0 0) x0 0) ∧ ((mset d y0 0 0) x0 0 ≤ 0 → tCall E 177 [.inl (0, x1)] (mset (mset d y0 0 0) x0 18 0) (tbk E 276 32 [.inr (11, x0), .inl (0, x1), tu, tu, tu] [] 0 0 K)) ∧ (0 < (mset d y0 0 0) x0 0 → K (.inl (some (0, 0))) (mset d y0 0 0)))) :
  tRun E 276 (6, [.inr (11, x0), .inl (0, x1), tu, tu, tu], [.inl (0, y1), .inr (11, y0)], 0, 0, d) K := tT_run (cut := [0, 6, 35, 38, 60, 74, 93, 99, 105, 118, 141]) 12 _ h
theorem t_276_35 {E : mO × tW} {K : tK} {d : mD} {x0 x1 y0 : Int}
  (h : tRun E 276 (38, [.inr (11, x0), .inl (0, x1), .inl (0, y0), .inl (0, 0), tu], [], 0, 0, d) K) :
  tRun E 276 (35, [.inr (11, x0), .inl (0, x1), tu, tu, tu], [.inl (0, y0)], 0, 0, d) K := tT_run (cut := [0, 6, 35, 38, 60, 74, 93, 99, 105, 118, 141]) 3 _ h
theorem t_276_38 {E : mO × tW} {K : tK} {d : mD} {x0 x1 x2 x3 : Int} {v4 : tV}
  (h : (0 ≤ x2 + 5 ∧ x2 + 5 < 3116) ∧ (mInR x3 ∧ mInR (d (x0 + 1) (x2 + 5))) ∧ (d (x0 + 1) (x2 + 5) ≤ x3 → (0 ≤ x2 + 4 ∧ x2 + 4 < 3116) ∧ mInR (d (x0 + 1) (x2 + 4)) ∧ (¬ d (x0 + 1) (x2 + 4) = 0 → tRun E 276 (141, [.inr (11, x0), .inl (0, x1), .inl (0, x2), .inl (0, x3), v4], [], 0, 0, d) K) ∧ (d (x0 + 1) (x2 + 4) = 0 → tCall E 273 [.inr (11, x0), .inl (0, 33)] d (tbk E 276 138 [.inr (11, x0), .inl (0, x1), .inl (0, x2), .inl (0, x3), v4] [] 0 0 K))) ∧ (x3 < d (x0 + 1) (x2 + 5) → mInR x3 ∧ (x3 ≤ 0 → tRun E 276 (60, [.inr (11, x0), .inl (0, x1), .inl (0, x2), .inl (0, x3), v4], [], 0, 0, d) K) ∧ (0 < x3 → tCall E 273 [.inr (11, x0), .inl (0, 32)] d (tbk E 276 57 [.inr (11, x0), .inl (0, x1), .inl (0, x2), .inl (0, x3), v4] [] 0 0 K)))) :
  tRun E 276 (38, [.inr (11, x0), .inl (0, x1), .inl (0, x2), .inl (0, x3), v4], [], 0, 0, d) K := tT_run (cut := [0, 6, 35, 38, 60, 74, 93, 99, 105, 118, 141]) 18 _ h
theorem t_276_60 {E : mO × tW} {K : tK} {d : mD} {x0 x1 x2 x3 : Int} {v4 : tV}
  (h : (0 ≤ (x2 + 7) + x3 ∧ (x2 + 7) + x3 < 3116) ∧ tCall E 179 [.inl (0, d (x0 + 1) ((x2 + 7) + x3))] d (tbk E 276 71 [.inr (11, x0), .inl (0, x1), .inl (0, x2), .inl (0, x3), v4] [] 0 0 K)) :
  tRun E 276 (60, [.inr (11, x0), .inl (0, x1), .inl (0, x2), .inl (0, x3), v4], [], 0, 0, d) K := tT_run (cut := [0, 6, 35, 38, 60, 74, 93, 99, 105, 118, 141]) 9 _ h
theorem t_276_74 {E : mO × tW} {K : tK} {d : mD} {x0 x1 x2 x3 y0 : Int} {v4 : tV}
  (h : (0 ≤ y0 + 0 ∧ y0 + 0 < 3116) ∧ tCall E 178 [.inl (0, d (x0 + 1) (y0 + 0))] d (tbk E 276 90 [.inr (11, x0), .inl (0, x1), .inl (0, x2), .inl (0, x3), .inl (0, y0)] [.inr (25, x0 + 1), .inr (11, x0)] 0 0 K)) :
  tRun E 276 (74, [.inr (11, x0), .inl (0, x1), .inl (0, x2), .inl (0, x3), v4], [.inl (0, y0)], 0, 0, d) K := tT_run (cut := [0, 6, 35, 38, 60, 74, 93, 99, 105, 118, 141]) 11 _ h
theorem t_276_93 {E : mO × tW} {K : tK} {d : mD} {x0 x1 x2 x3 x4 y0 y1 y2 : Int}
  (h : (0 ≤ y2 + 0 ∧ y2 + 0 < 3116) ∧ tCall E 275 [.inr (11, y0), .inl (0, d y1 (y2 + 0))] d (tbk E 276 96 [.inr (11, x0), .inl (0, x1), .inl (0, x2), .inl (0, x3), .inl (0, x4)] [] 0 0 K)) :
  tRun E 276 (93, [.inr (11, x0), .inl (0, x1), .inl (0, x2), .inl (0, x3), .inl (0, x4)], [.inl (0, y2), .inr (25, y1), .inr (11, y0)], 0, 0, d) K := tT_run (cut := [0, 6, 35, 38, 60, 74, 93, 99, 105, 118, 141]) 4 _ h
theorem t_276_99 {E : mO × tW} {K : tK} {d : mD} {x0 x1 x2 x3 x4 : Int}
  (h : tCall E 273 [.inr (11, x0), .inl (0, 64)] d (tbk E 276 102 [.inr (11, x0), .inl (0, x1), .inl (0, x2), .inl (0, x3), .inl (0, x4)] [] 0 0 K)) :
  tRun E 276 (99, [.inr (11, x0), .inl (0, x1), .inl (0, x2), .inl (0, x3), .inl (0, x4)], [], 0, 0, d) K := tT_run (cut := [0, 6, 35, 38, 60, 74, 93, 99, 105, 118, 141]) 3 _ h
theorem t_276_105 {E : mO × tW} {K : tK} {d : mD} {x0 x1 x2 x3 x4 : Int}
  (h : (0 ≤ x4 + 2 ∧ x4 + 2 < 3116) ∧ tCall E 274 [.inr (11, x0), .inl (0, d (x0 + 1) (x4 + 2))] d (tbk E 276 115 [.inr (11, x0), .inl (0, x1), .inl (0, x2), .inl (0, x3), .inl (0, x4)] [] 0 0 K)) :
  tRun E 276 (105, [.inr (11, x0), .inl (0, x1), .inl (0, x2), .inl (0, x3), .inl (0, x4)], [], 0, 0, d) K := tT_run (cut := [0, 6, 35, 38, 60, 74, 93, 99, 105, 118, 141]) 8 _ h
theorem t_276_118 {E : mO × tW} {K : tK} {d : mD} {x0 x1 x2 x3 x4 : Int}
  (h : tRun E 276 (38, [.inr (11, x0), .inl (0, x1), .inl (0, x2), .inl (0, x3 + 1), .inl (0, x4)], [], 0, 0, d) K) :
  tRun E 276 (118, [.inr (11, x0), .inl (0, x1), .inl (0, x2), .inl (0, x3), .inl (0, x4)], [], 0, 0, d) K := tT_run (cut := [0, 6, 35, 38, 60, 74, 93, 99, 105, 118, 141]) 2 _ h
theorem t_276_141 {E : mO × tW} {K : tK} {d : mD} {x0 x1 x2 x3 : Int} {v4 : tV}
  (h : K (.inl (some (0, d x0 18))) d) :
  tRun E 276 (141, [.inr (11, x0), .inl (0, x1), .inl (0, x2), .inl (0, x3), v4], [], 0, 0, d) K := tT_run (cut := [0, 6, 35, 38, 60, 74, 93, 99, 105, 118, 141]) 3 _ h
theorem t_277_0 {E : mO × tW} {K : tK} {d : mD} {x0 x1 : Int}
  (h : mInR x1 ∧ mInR ((d x0 18) - 1) ∧ tCall E 176 [.inl (1, x1), .inl (1, 0), .inl (1, (d x0 18) - 1)] d (tbk E 277 11 [.inr (11, x0), .inl (0, x1)] [.inr (11, x0)] 0 0 K)) :
  tRun E 277 (0, [.inr (11, x0), .inl (0, x1)], [], 0, 0, d) K := tT_run (cut := [0, 14]) 10 _ h
theorem t_277_14 {E : mO × tW} {K : tK} {d : mD} {x0 x1 y0 y1 : Int}
  (h : mInR y1 ∧ (y1 = 0 → mInR ((mset d y0 0 1) x0 0) ∧ ((mset d y0 0 1) x0 0 ≤ 0 → (0 ≤ x1 ∧ x1 < 800) ∧ K (.inl (some (0, (mset d y0 0 1) (x0 + 8) x1))) (mset d y0 0 1)) ∧ (0 < (mset d y0 0 1) x0 0 → K (.inl (some (0, 0))) (mset d y0 0 1))) ∧ (¬ y1 = 0 → mInR ((mset d y0 0 0) x0 0) ∧ ((mset d y0 0 0) x0 0 ≤ 0 → (0 ≤ x1 ∧ x1 < 800) ∧ K (.inl (some (0, (mset d y0 0 0) (x0 + 8) x1))) (mset d y0 0 0)) ∧ (0 < (mset d y0 0 0) x0 0 → K (.inl (some (0, 0))) (mset d y0 0 0)))) :
  tRun E 277 (14, [.inr (11, x0), .inl (0, x1)], [.inl (0, y1), .inr (11, y0)], 0, 0, d) K := tT_run (cut := [0, 14]) 12 _ h
theorem t_278_0 {E : mO × tW} {K : tK} {d : mD} {x0 : Int}
  (h : (mInR (d x0 7) ∧ mInR 8) ∧ (¬ d x0 7 = 8 → tRun E 278 (54, [.inr (11, x0), .inl (0, 0)], [], 0, 0, d) K) ∧ (d x0 7 = 8 → tRun E 278 (13, [.inr (11, x0), .inl (0, 3116)], [], 0, 0, d) K)) :
  tRun E 278 (0, [.inr (11, x0), tu], [], 0, 0, d) K := tT_run (cut := [0, 13, 54]) 6 _ h
theorem t_278_13 {E : mO × tW} {K : tK} {d : mD} {x0 x1 : Int}
  (h : (mInR x1 ∧ mInR 24928) ∧ (24928 ≤ x1 → tRun E 278 (54, [.inr (11, x0), .inl (0, 0)], [], 0, 0, mset d x0 7 ((d x0 7) - 1)) K) ∧ (x1 < 24928 → (0 ≤ x1 ∧ x1 < 24928) ∧ (0 ≤ x1 - 3116 ∧ x1 - 3116 < 24928) ∧ tRun E 278 (13, [.inr (11, x0), .inl (0, x1 + 1)], [], 0, 0, mset d (x0 + 2) (x1 - 3116) (d (x0 + 2) x1)) K)) :
  tRun E 278 (13, [.inr (11, x0), .inl (0, x1)], [], 0, 0, d) K := tT_run (cut := [0, 13, 54]) 15 _ h
theorem t_278_54 {E : mO × tW} {K : tK} {d : mD} {x0 x1 : Int}
  (h : (mInR x1 ∧ mInR 3116) ∧ (3116 ≤ x1 → K (.inl none) (mset d x0 7 ((d x0 7) + 1))) ∧ (x1 < 3116 → (0 ≤ x1 ∧ x1 < 3116) ∧ (0 ≤ (3116 * (d x0 7)) + x1 ∧ (3116 * (d x0 7)) + x1 < 24928) ∧ tRun E 278 (54, [.inr (11, x0), .inl (0, x1 + 1)], [], 0, 0, mset d (x0 + 2) ((3116 * (d x0 7)) + x1) (d (x0 + 1) x1)) K)) :
  tRun E 278 (54, [.inr (11, x0), .inl (0, x1)], [], 0, 0, d) K := tT_run (cut := [0, 13, 54]) 18 _ h
theorem t_279_0 {E : mO × tW} {K : tK} {d : mD} {x0 x1 x2 : Int}
  (h : tCall E 237 [.inr (11, x0), .inl (0, x1)] d (tbk E 279 3 [.inr (11, x0), .inl (0, x1), .inl (0, x2)] [.inr (11, x0)] 0 0 K)) :
  tRun E 279 (0, [.inr (11, x0), .inl (0, x1), .inl (0, x2)], [], 0, 0, d) K := tT_run (cut := [0, 6, 14, 27, 51, 57]) 4 _ h
theorem t_279_6 {E : mO × tW} {K : tK} {d : mD} {x0 x1 x2 y0 y1 : Int}
  (h : mInR y1 ∧ (y1 = 0 → mInR ((mset d y0 0 1) x0 0) ∧ ((mset d y0 0 1) x0 0 ≤ 0 → tCall E 278 [.inr (11, x0)] (mset d y0 0 1) (tbk E 279 48 [.inr (11, x0), .inl (0, x1), .inl (0, x2)] [] 0 0 K)) ∧ (0 < (mset d y0 0 1) x0 0 → K (.inl (some (0, 0))) (mset d y0 0 1))) ∧ (¬ y1 = 0 → tCall E 236 [.inr (11, x0), .inl (0, x2)] d (tbk E 279 11 [.inr (11, x0), .inl (0, x1), .inl (0, x2)] [.inr (11, y0)] 0 0 K))) :
  tRun E 279 (6, [.inr (11, x0), .inl (0, x1), .inl (0, x2)], [.inl (0, y1), .inr (11, y0)], 0, 0, d) K := tT_run (cut := [0, 6, 14, 27, 51, 57]) 9 _ h
theorem t_279_14 {E : mO × tW} {K : tK} {d : mD} {x0 x1 x2 y0 y1 : Int}
  (h : mInR y1 ∧ (¬ y1 = 0 → tCall E 225 [.inr (11, x0), .inl (0, x1), .inl (0, x2)] d (tbk E 279 24 [.inr (11, x0), .inl (0, x1), .inl (0, x2)] [.inr (11, y0)] 0 0 K)) ∧ (y1 = 0 → mInR ((mset d y0 0 1) x0 0) ∧ ((mset d y0 0 1) x0 0 ≤ 0 → tCall E 278 [.inr (11, x0)] (mset d y0 0 1) (tbk E 279 48 [.inr (11, x0), .inl (0, x1), .inl (0, x2)] [] 0 0 K)) ∧ (0 < (mset d y0 0 1) x0 0 → K (.inl (some (0, 0))) (mset d y0 0 1)))) :
  tRun E 279 (14, [.inr (11, x0), .inl (0, x1), .inl (0, x2)], [.inl (0, y1), .inr (11, y0)], 0, 0, d) K := tT_run (cut := [0, 6, 14, 27, 51, 57]) 9 _ h
theorem t_279_27 {E : mO × tW} {K : tK} {d : mD} {x0 x1 x2 y0 y1 : Int}
  (h : mInR y1 ∧ (y1 = 0 → mInR ((mset d y0 0 2) x0 0) ∧ ((mset d y0 0 2) x0 0 ≤ 0 → tCall E 278 [.inr (11, x0)] (mset d y0 0 2) (tbk E 279 48 [.inr (11, x0), .inl (0, x1), .inl (0, x2)] [] 0 0 K)) ∧ (0 < (mset d y0 0 2) x0 0 → K (.inl (some (0, 0))) (mset d y0 0 2))) ∧ (¬ y1 = 0 → mInR ((mset d y0 0 0) x0 0) ∧ ((mset d y0 0 0) x0 0 ≤ 0 → tCall E 278 [.inr (11, x0)] (mset d y0 0 0) (tbk E 279 48 [.inr (11, x0), .inl (0, x1), .inl (0, x2)] [] 0 0 K)) ∧ (0 < (mset d y0 0 0) x0 0 → K (.inl (some (0, 0))) (mset d y0 0 0)))) :
  tRun E 279 (27, [.inr (11, x0), .inl (0, x1), .inl (0, x2)], [.inl (0, y1), .inr (11, y0)], 0, 0, d) K := tT_run (cut := [0, 6, 14, 27, 51, 57]) 9 _ h
theorem t_279_51 {E : mO × tW} {K : tK} {d : mD} {x0 x1 x2 : Int}
  (h : tCall E 226 [.inr (11, x0), .inl (0, x1), .inl (0, x2)] d (tbk E 279 54 [.inr (11, x0), .inl (0, x1), .inl (0, x2)] [] 0 0 K)) :
  tRun E 279 (51, [.inr (11, x0), .inl (0, x1), .inl (0, x2)], [], 0, 0, d) K := tT_run (cut := [0, 6, 14, 27, 51, 57]) 4 _ h
theorem t_279_57 {E : mO × tW} {K : tK} {d : mD} {x0 x1 x2 y0 : Int}
  (h : K (.inl (some (0, y0))) d) :
  tRun E 279 (57, [.inr (11, x0), .inl (0, x1), .inl (0, x2)], [.inl (0, y0)], 0, 0, d) K := tT_run (cut := [0, 6, 14, 27, 51, 57]) 1 _ h
theorem t_280_0 {E : mO × tW} {K : tK} {d : mD} {x0 x1 : Int}
  (h : tCall E 238 [.inr (11, x0), .inl (0, x1)] d (tbk E 280 3 [.inr (11, x0), .inl (0, x1)] [.inr (11, x0)] 0 0 K)) :
  tRun E 280 (0, [.inr (11, x0), .inl (0, x1)], [], 0, 0, d) K := tT_run (cut := [0, 6, 21, 48, 57, 65, 68, 76, 88, 111]) 4 _ h
theorem t_280_6 {E : mO × tW} {K : tK} {d : mD} {x0 x1 y0 y1 : Int}
  (h : mInR y1 ∧ (¬ y1 = 0 → tCall E 179 [.inl (0, x1)] d (tbk E 280 18 [.inr (11, x0), .inl (0, x1)] [.inr (25, x0 + 1), .inr (11, y0)] 0 0 K)) ∧ (y1 = 0 → mInR ((mset d y0 0 1) x0 0) ∧ ((mset d y0 0 1) x0 0 ≤ 0 → tCall E 278 [.inr (11, x0)] (mset d y0 0 1) (tbk E 280 45 [.inr (11, x0), .inl (0, x1)] [] 0 0 K)) ∧ (0 < (mset d y0 0 1) x0 0 → K (.inl (some (0, 0))) (mset d y0 0 1)))) :
  tRun E 280 (6, [.inr (11, x0), .inl (0, x1)], [.inl (0, y1), .inr (11, y0)], 0, 0, d) K := tT_run (cut := [0, 6, 21, 48, 57, 65, 68, 76, 88, 111]) 9 _ h
theorem t_280_21 {E : mO × tW} {K : tK} {d : mD} {x0 x1 y0 y1 y2 : Int}
  (h : (0 ≤ y2 + 4 ∧ y2 + 4 < 3116) ∧ mInR (d y1 (y2 + 4)) ∧ (¬ d y1 (y2 + 4) = 0 → mInR ((mset d y0 0 2) x0 0) ∧ ((mset d y0 0 2) x0 0 ≤ 0 → tCall E 278 [.inr (11, x0)] (mset d y0 0 2) (tbk E 280 45 [.inr (11, x0), .inl (0, x1)] [] 0 0 K)) ∧ (0 < (mset d y0 0 2) x0 0 → K (.inl (some (0, 0))) (mset d y0 0 2))) ∧ (d y1 (y2 + 4) = 0 → mInR ((mset d y0 0 0) x0 0) ∧ ((mset d y0 0 0) x0 0 ≤ 0 → tCall E 278 [.inr (11, x0)] (mset d y0 0 0) (tbk E 280 45 [.inr (11, x0), .inl (0, x1)] [] 0 0 K)) ∧ (0 < (mset d y0 0 0) x0 0 → K (.inl (some (0, 0))) (mset d y0 0 0)))) :
  tRun E 280 (21, [.inr (11, x0), .inl (0, x1)], [.inl (0, y2), .inr (25, y1), .inr (11, y0)], 0, 0, d) K := tT_run (cut := [0, 6, 21, 48, 57, 65, 68, 76, 88, 111]) 12 _ h
theorem t_280_48 {E : mO × tW} {K : tK} {d : mD} {x0 x1 : Int}
  (h : tCall E 179 [.inl (0, x1)] d (tbk E 280 54 [.inr (11, x0), .inl (0, x1)] [.inr (25, x0 + 1), .inr (11, x0)] 0 0 K)) :
  tRun E 280 (48, [.inr (11, x0), .inl (0, x1)], [], 0, 0, d) K := tT_run (cut := [0, 6, 21, 48, 57, 65, 68, 76, 88, 111]) 5 _ h
theorem t_280_57 {E : mO × tW} {K : tK} {d : mD} {x0 x1 y0 y1 y2 : Int}
  (h : (0 ≤ y2 + 1 ∧ y2 + 1 < 3116) ∧ tCall E 221 [.inr (11, x0), .inl (0, x1)] d (tbk E 280 62 [.inr (11, x0), .inl (0, x1)] [.inl (0, d y1 (y2 + 1)), .inr (11, y0)] 0 0 K)) :
  tRun E 280 (57, [.inr (11, x0), .inl (0, x1)], [.inl (0, y2), .inr (25, y1), .inr (11, y0)], 0, 0, d) K := tT_run (cut := [0, 6, 21, 48, 57, 65, 68, 76, 88, 111]) 6 _ h
theorem t_280_65 {E : mO × tW} {K : tK} {d : mD} {x0 x1 y0 y1 y2 : Int}
  (h : tCall E 220 [.inr (11, y0), .inl (0, y1), .inl (0, y2)] d (tbk E 280 65 [.inr (11, x0), .inl (0, x1)] [] 0 0 K)) :
  tRun E 280 (65, [.inr (11, x0), .inl (0, x1)], [.inl (0, y2), .inl (0, y1), .inr (11, y0)], 0, 0, d) K := tT_run (cut := [0, 6, 21, 48, 57, 65, 68, 76, 88, 111]) 1 _ h
theorem t_280_68 {E : mO × tW} {K : tK} {d : mD} {x0 x1 : Int}
  (h : tCall E 179 [.inl (0, x1)] d (tbk E 280 73 [.inr (11, x0), .inl (0, x1)] [.inr (25, x0 + 1)] 0 0 K)) :
  tRun E 280 (68, [.inr (11, x0), .inl (0, x1)], [], 0, 0, d) K := tT_run (cut := [0, 6, 21, 48, 57, 65, 68, 76, 88, 111]) 4 _ h
theorem t_280_76 {E : mO × tW} {K : tK} {d : mD} {x0 x1 y0 y1 : Int}
  (h : (0 ≤ y1 + 4 ∧ y1 + 4 < 3116) ∧ tCall E 179 [.inl (0, x1)] (mset d y0 (y1 + 4) 2) (tbk E 280 85 [.inr (11, x0), .inl (0, x1)] [.inr (25, x0 + 1)] 0 0 K)) :
  tRun E 280 (76, [.inr (11, x0), .inl (0, x1)], [.inl (0, y1), .inr (25, y0)], 0, 0, d) K := tT_run (cut := [0, 6, 21, 48, 57, 65, 68, 76, 88, 111]) 8 _ h
theorem t_280_88 {E : mO × tW} {K : tK} {d : mD} {x0 x1 y0 y1 : Int}
  (h : (0 ≤ (0 : Int) ∧ (0 : Int) < 3116) ∧ (0 ≤ y1 + 3 ∧ y1 + 3 < 3116) ∧ (0 ≤ (0 : Int) ∧ (0 : Int) < 3116) ∧ tCall E 179 [.inl (0, x1)] (mset d y0 (y1 + 3) (d (x0 + 1) 0)) (tbk E 280 108 [.inr (11, x0), .inl (0, x1)] [.inr (25, x0 + 1), .inl (0, (mset d y0 (y1 + 3) (d (x0 + 1) 0)) (x0 + 1) 0)] 0 0 K)) :
  tRun E 280 (88, [.inr (11, x0), .inl (0, x1)], [.inl (0, y1), .inr (25, y0)], 0, 0, d) K := tT_run (cut := [0, 6, 21, 48, 57, 65, 68, 76, 88, 111]) 15 _ h
theorem t_280_111 {E : mO × tW} {K : tK} {d : mD} {x0 x1 y0 y1 y2 : Int}
  (h : (0 ≤ y2 + 2 ∧ y2 + 2 < 3116) ∧ K (.inl (some (0, y0 - (d y1 (y2 + 2))))) d) :
  tRun E 280 (111, [.inr (11, x0), .inl (0, x1)], [.inl (0, y2), .inr (25, y1), .inl (0, y0)], 0, 0, d) K := tT_run (cut := [0, 6, 21, 48, 57, 65, 68, 76, 88, 111]) 5 _ h
theorem t_281_0 {E : mO × tW} {K : tK} {d : mD} {x0 : Int}
  (h : tRun E 281 (4, [.inr (11, x0), .inl (0, 0), .inl (0, 0)], [], 0, 0, d) K) :
  tRun E 281 (0, [.inr (11, x0), tu, tu], [], 0, 0, d) K := tT_run (cut := [0, 4, 24]) 4 _ h
theorem t_281_4 {E : mO × tW} {K : tK} {d : mD} {x0 x1 x2 : Int}
  (h : (0 ≤ (9 : Int) ∧ (9 : Int) < 3116) ∧ (mInR x2 ∧ mInR (d (x0 + 1) 9)) ∧ (d (x0 + 1) 9 ≤ x2 → K (.inl (some (0, x1))) d) ∧ (x2 < d (x0 + 1) 9 → tCall E 179 [.inl (0, x2)] d (tbk E 281 21 [.inr (11, x0), .inl (0, x1), .inl (0, x2)] [.inr (25, x0 + 1), .inl (0, x1)] 0 0 K))) :
  tRun E 281 (4, [.inr (11, x0), .inl (0, x1), .inl (0, x2)], [], 0, 0, d) K := tT_run (cut := [0, 4, 24]) 11 _ h
theorem t_281_24 {E : mO × tW} {K : tK} {d : mD} {x0 x1 x2 y0 y1 y2 : Int}
  (h : (0 ≤ y2 + 4 ∧ y2 + 4 < 3116) ∧ (mInR (d y1 (y2 + 4)) ∧ mInR 1) ∧ (¬ d y1 (y2 + 4) = 1 → tRun E 281 (4, [.inr (11, x0), .inl (0, y0 + 0), .inl (0, x2 + 1)], [], 0, 0, d) K) ∧ (d y1 (y2 + 4) = 1 → tRun E 281 (4, [.inr (11, x0), .inl (0, y0 + 1), .inl (0, x2 + 1)], [], 0, 0, d) K)) :
  tRun E 281 (24, [.inr (11, x0), .inl (0, x1), .inl (0, x2)], [.inl (0, y2), .inr (25, y1), .inl (0, y0)], 0, 0, d) K := tT_run (cut := [0, 4, 24]) 11 _ h
theorem t_282_0 {E : mO × tW} {K : tK} {d : mD} {x0 x1 : Int}
  (h : mInR x1 ∧ tCall E 176 [.inl (1, x1), .inl (1, 1), .inl (1, 99)] d (tbk E 282 7 [.inr (11, x0), .inl (0, x1), tu, tu] [.inr (11, x0)] 0 0 K)) :
  tRun E 282 (0, [.inr (11, x0), .inl (0, x1), tu, tu], [], 0, 0, d) K := tT_run (cut := [0, 10, 52, 56, 59, 68, 78]) 6 _ h
theorem t_282_10 {E : mO × tW} {K : tK} {d : mD} {x0 x1 y0 y1 : Int}
  (h : mInR y1 ∧ (¬ y1 = 0 → (0 ≤ (0 : Int) ∧ (0 : Int) < 3116) ∧ (mInR ((d (x0 + 1) 0) + x1) ∧ mInR 999) ∧ ((d (x0 + 1) 0) + x1 ≤ 999 → mInR ((mset d y0 0 0) x0 0) ∧ ((mset d y0 0 0) x0 0 ≤ 0 → tCall E 278 [.inr (11, x0)] (mset d y0 0 0) (tbk E 282 49 [.inr (11, x0), .inl (0, x1), tu, tu] [] 0 0 K)) ∧ (0 < (mset d y0 0 0) x0 0 → K (.inl (some (0, 0))) (mset d y0 0 0))) ∧ (999 < (d (x0 + 1) 0) + x1 → mInR ((mset d y0 0 2) x0 0) ∧ ((mset d y0 0 2) x0 0 ≤ 0 → tCall E 278 [.inr (11, x0)] (mset d y0 0 2) (tbk E 282 49 [.inr (11, x0), .inl (0, x1), tu, tu] [] 0 0 K)) ∧ (0 < (mset d y0 0 2) x0 0 → K (.inl (some (0, 0))) (mset d y0 0 2)))) ∧ (y1 = 0 → mInR ((mset d y0 0 1) x0 0) ∧ ((mset d y0 0 1) x0 0 ≤ 0 → tCall E 278 [.inr (11, x0)] (mset d y0 0 1) (tbk E 282 49 [.inr (11, x0), .inl (0, x1), tu, tu] [] 0 0 K)) ∧ (0 < (mset d y0 0 1) x0 0 → K (.inl (some (0, 0))) (mset d y0 0 1)))) :
  tRun E 282 (10, [.inr (11, x0), .inl (0, x1), tu, tu], [.inl (0, y1), .inr (11, y0)], 0, 0, d) K := tT_run (cut := [0, 10, 52, 56, 59, 68, 78]) 17 _ h
theorem t_282_52 {E : mO × tW} {K : tK} {d : mD} {x0 x1 : Int}
  (h : tCall E 281 [.inr (11, x0)] d (tbk E 282 53 [.inr (11, x0), .inl (0, x1), tu, tu] [] 0 0 K)) :
  tRun E 282 (52, [.inr (11, x0), .inl (0, x1), tu, tu], [], 0, 0, d) K := tT_run (cut := [0, 10, 52, 56, 59, 68, 78]) 2 _ h
theorem t_282_56 {E : mO × tW} {K : tK} {d : mD} {x0 x1 y0 : Int}
  (h : tRun E 282 (59, [.inr (11, x0), .inl (0, x1), .inl (0, y0), .inl (0, 0)], [], 0, 0, d) K) :
  tRun E 282 (56, [.inr (11, x0), .inl (0, x1), tu, tu], [.inl (0, y0)], 0, 0, d) K := tT_run (cut := [0, 10, 52, 56, 59, 68, 78]) 3 _ h
theorem t_282_59 {E : mO × tW} {K : tK} {d : mD} {x0 x1 x2 x3 : Int}
  (h : (mInR x3 ∧ mInR x1) ∧ (x1 ≤ x3 → tCall E 281 [.inr (11, x0)] d (tbk E 282 75 [.inr (11, x0), .inl (0, x1), .inl (0, x2), .inl (0, x3)] [] 0 0 K)) ∧ (x3 < x1 → tCall E 223 [.inr (11, x0)] d (tbk E 282 65 [.inr (11, x0), .inl (0, x1), .inl (0, x2), .inl (0, x3)] [] 0 0 K))) :
  tRun E 282 (59, [.inr (11, x0), .inl (0, x1), .inl (0, x2), .inl (0, x3)], [], 0, 0, d) K := tT_run (cut := [0, 10, 52, 56, 59, 68, 78]) 5 _ h
theorem t_282_68 {E : mO × tW} {K : tK} {d : mD} {x0 x1 x2 x3 : Int}
  (h : tRun E 282 (59, [.inr (11, x0), .inl (0, x1), .inl (0, x2), .inl (0, x3 + 1)], [], 0, 0, d) K) :
  tRun E 282 (68, [.inr (11, x0), .inl (0, x1), .inl (0, x2), .inl (0, x3)], [], 0, 0, d) K := tT_run (cut := [0, 10, 52, 56, 59, 68, 78]) 2 _ h
theorem t_282_78 {E : mO × tW} {K : tK} {d : mD} {x0 x1 x2 x3 y0 : Int}
  (h : K (.inl (some (0, y0 - x2))) d) :
  tRun E 282 (78, [.inr (11, x0), .inl (0, x1), .inl (0, x2), .inl (0, x3)], [.inl (0, y0)], 0, 0, d) K := tT_run (cut := [0, 10, 52, 56, 59, 68, 78]) 3 _ h
theorem t_283_0 {E : mO × tW} {K : tK} {d : mD} {x0 x1 : Int}
  (h : tCall E 238 [.inr (11, x0), .inl (0, x1)] d (tbk E 283 3 [.inr (11, x0), .inl (0, x1)] [.inr (11, x0)] 0 0 K)) :
  tRun E 283 (0, [.inr (11, x0), .inl (0, x1)], [], 0, 0, d) K := tT_run (cut := [0, 6, 18, 42, 47]) 4 _ h
theorem t_283_6 {E : mO × tW} {K : tK} {d : mD} {x0 x1 y0 y1 : Int}
  (h : mInR y1 ∧ (¬ y1 = 0 → tCall E 227 [.inr (11, x0), .inl (0, x1)] d (tbk E 283 15 [.inr (11, x0), .inl (0, x1)] [.inr (11, y0)] 0 0 K)) ∧ (y1 = 0 → mInR ((mset d y0 0 1) x0 0) ∧ ((mset d y0 0 1) x0 0 ≤ 0 → tCall E 278 [.inr (11, x0)] (mset d y0 0 1) (tbk E 283 39 [.inr (11, x0), .inl (0, x1)] [] 0 0 K)) ∧ (0 < (mset d y0 0 1) x0 0 → K (.inl (some (0, 0))) (mset d y0 0 1)))) :
  tRun E 283 (6, [.inr (11, x0), .inl (0, x1)], [.inl (0, y1), .inr (11, y0)], 0, 0, d) K := tT_run (cut := [0, 6, 18, 42, 47]) 9 _ h
theorem t_283_18 {E : mO × tW} {K : tK} {d : mD} {x0 x1 y0 y1 : Int}
  (h : mInR y1 ∧ (y1 = 0 → mInR ((mset d y0 0 2) x0 0) ∧ ((mset d y0 0 2) x0 0 ≤ 0 → tCall E 278 [.inr (11, x0)] (mset d y0 0 2) (tbk E 283 39 [.inr (11, x0), .inl (0, x1)] [] 0 0 K)) ∧ (0 < (mset d y0 0 2) x0 0 → K (.inl (some (0, 0))) (mset d y0 0 2))) ∧ (¬ y1 = 0 → mInR ((mset d y0 0 0) x0 0) ∧ ((mset d y0 0 0) x0 0 ≤ 0 → tCall E 278 [.inr (11, x0)] (mset d y0 0 0) (tbk E 283 39 [.inr (11, x0), .inl (0, x1)] [] 0 0 K)) ∧ (0 < (mset d y0 0 0) x0 0 → K (.inl (some (0, 0))) (mset d y0 0 0)))) :
  tRun E 283 (18, [.inr (11, x0), .inl (0, x1)], [.inl (0, y1), .inr (11, y0)], 0, 0, d) K := tT_run (cut := [0, 6, 18, 42, 47]) 9 _ h
theorem t_283_42 {E : mO × tW} {K : tK} {d : mD} {x0 x1 : Int}
  (h : tCall E 228 [.inr (11, x0), .inl (0, x1)] d (tbk E 283 44 [.inr (11, x0), .inl (0, x1)] [] 0 0 K)) :
  tRun E 283 (42, [.inr (11, x0), .inl (0, x1)], [], 0, 0, d) K := tT_run (cut := [0, 6, 18, 42, 47]) 3 _ h
theorem t_283_47 {E : mO × tW} {K : tK} {d : mD} {x0 x1 y0 : Int}
  (h : K (.inl (some (0, y0))) d) :
  tRun E 283 (47, [.inr (11, x0), .inl (0, x1)], [.inl (0, y0)], 0, 0, d) K := tT_run (cut := [0, 6, 18, 42, 47]) 1 _ h
theorem t_284_0 {E : mO × tW} {K : tK} {d : mD} {x0 x1 x2 : Int}
  (h : tCall E 238 [.inr (11, x0), .inl (0, x1)] d (tbk E 284 3 [.inr (11, x0), .inl (0, x1), .inl (0, x2)] [.inr (11, x0)] 0 0 K)) :
  tRun E 284 (0, [.inr (11, x0), .inl (0, x1), .inl (0, x2)], [], 0, 0, d) K := tT_run (cut := [0, 6, 14, 27, 51, 57]) 4 _ h
theorem t_284_6 {E : mO × tW} {K : tK} {d : mD} {x0 x1 x2 y0 y1 : Int}
  (h : mInR y1 ∧ (y1 = 0 → mInR ((mset d y0 0 1) x0 0) ∧ ((mset d y0 0 1) x0 0 ≤ 0 → tCall E 278 [.inr (11, x0)] (mset d y0 0 1) (tbk E 284 48 [.inr (11, x0), .inl (0, x1), .inl (0, x2)] [] 0 0 K)) ∧ (0 < (mset d y0 0 1) x0 0 → K (.inl (some (0, 0))) (mset d y0 0 1))) ∧ (¬ y1 = 0 → tCall E 237 [.inr (11, x0), .inl (0, x2)] d (tbk E 284 11 [.inr (11, x0), .inl (0, x1), .inl (0, x2)] [.inr (11, y0)] 0 0 K))) :
  tRun E 284 (6, [.inr (11, x0), .inl (0, x1), .inl (0, x2)], [.inl (0, y1), .inr (11, y0)], 0, 0, d) K := tT_run (cut := [0, 6, 14, 27, 51, 57]) 9 _ h
theorem t_284_14 {E : mO × tW} {K : tK} {d : mD} {x0 x1 x2 y0 y1 : Int}
  (h : mInR y1 ∧ (¬ y1 = 0 → tCall E 234 [.inr (11, x0), .inl (0, x1), .inl (0, x2)] d (tbk E 284 24 [.inr (11, x0), .inl (0, x1), .inl (0, x2)] [.inr (11, y0)] 0 0 K)) ∧ (y1 = 0 → mInR ((mset d y0 0 1) x0 0) ∧ ((mset d y0 0 1) x0 0 ≤ 0 → tCall E 278 [.inr (11, x0)] (mset d y0 0 1) (tbk E 284 48 [.inr (11, x0), .inl (0, x1), .inl (0, x2)] [] 0 0 K)) ∧ (0 < (mset d y0 0 1) x0 0 → K (.inl (some (0, 0))) (mset d y0 0 1)))) :
  tRun E 284 (14, [.inr (11, x0), .inl (0, x1), .inl (0, x2)], [.inl (0, y1), .inr (11, y0)], 0, 0, d) K := tT_run (cut := [0, 6, 14, 27, 51, 57]) 9 _ h
theorem t_284_27 {E : mO × tW} {K : tK} {d : mD} {x0 x1 x2 y0 y1 : Int}
  (h : mInR y1 ∧ (¬ y1 = 0 → mInR ((mset d y0 0 2) x0 0) ∧ ((mset d y0 0 2) x0 0 ≤ 0 → tCall E 278 [.inr (11, x0)] (mset d y0 0 2) (tbk E 284 48 [.inr (11, x0), .inl (0, x1), .inl (0, x2)] [] 0 0 K)) ∧ (0 < (mset d y0 0 2) x0 0 → K (.inl (some (0, 0))) (mset d y0 0 2))) ∧ (y1 = 0 → mInR ((mset d y0 0 0) x0 0) ∧ ((mset d y0 0 0) x0 0 ≤ 0 → tCall E 278 [.inr (11, x0)] (mset d y0 0 0) (tbk E 284 48 [.inr (11, x0), .inl (0, x1), .inl (0, x2)] [] 0 0 K)) ∧ (0 < (mset d y0 0 0) x0 0 → K (.inl (some (0, 0))) (mset d y0 0 0)))) :
  tRun E 284 (27, [.inr (11, x0), .inl (0, x1), .inl (0, x2)], [.inl (0, y1), .inr (11, y0)], 0, 0, d) K := tT_run (cut := [0, 6, 14, 27, 51, 57]) 9 _ h
theorem t_284_51 {E : mO × tW} {K : tK} {d : mD} {x0 x1 x2 : Int}
  (h : tCall E 235 [.inr (11, x0), .inl (0, x1), .inl (0, x2)] d (tbk E 284 54 [.inr (11, x0), .inl (0, x1), .inl (0, x2)] [] 0 0 K)) :
  tRun E 284 (51, [.inr (11, x0), .inl (0, x1), .inl (0, x2)], [], 0, 0, d) K := tT_run (cut := [0, 6, 14, 27, 51, 57]) 4 _ h
theorem t_284_57 {E : mO × tW} {K : tK} {d : mD} {x0 x1 x2 y0 : Int}
  (h : K (.inl (some (0, y0))) d) :
  tRun E 284 (57, [.inr (11, x0), .inl (0, x1), .inl (0, x2)], [.inl (0, y0)], 0, 0, d) K := tT_run (cut := [0, 6, 14, 27, 51, 57]) 1 _ h
theorem t_285_0 {E : mO × tW} {K : tK} {d : mD} {x0 x1 x2 x3 : Int}
  (h : tCall E 237 [.inr (11, x0), .inl (0, x1)] d (tbk E 285 3 [.inr (11, x0), .inl (0, x1), .inl (0, x2), .inl (0, x3), tu, tu] [.inr (11, x0)] 0 0 K)) :
  tRun E 285 (0, [.inr (11, x0), .inl (0, x1), .inl (0, x2), .inl (0, x3), tu, tu], [], 0, 0, d) K := tT_run (cut := [0, 6, 14, 30, 48, 73, 79, 105, 121, 136, 155]) 4 _ h
theorem t_285_6 {E : mO × tW} {K : tK} {d : mD} {x0 x1 x2 x3 y0 y1 : Int}
  (h : mInR y1 ∧ (y1 = 0 → mInR ((mset d y0 0 1) x0 0) ∧ ((mset d y0 0 1) x0 0 ≤ 0 → tCall E 278 [.inr (11, x0)] (mset d y0 0 1) (tbk E 285 70 [.inr (11, x0), .inl (0, x1), .inl (0, x2), .inl (0, x3), tu, tu] [] 0 0 K)) ∧ (0 < (mset d y0 0 1) x0 0 → K (.inl (some (0, 0))) (mset d y0 0 1))) ∧ (¬ y1 = 0 → tCall E 237 [.inr (11, x0), .inl (0, x2)] d (tbk E 285 11 [.inr (11, x0), .inl (0, x1), .inl (0, x2), .inl (0, x3), tu, tu] [.inr (11, y0)] 0 0 K))) :
  tRun E 285 (6, [.inr (11, x0), .inl (0, x1), .inl (0, x2), .inl (0, x3), tu, tu], [.inl (0, y1), .inr (11, y0)], 0, 0, d) K := tT_run (cut := [0, 6, 14, 30, 48, 73, 79, 105, 121, 136, 155]) 9 _ h
theorem t_285_14 {E : mO × tW} {K : tK} {d : mD} {x0 x1 x2 x3 y0 y1 : Int}
  (h : mInR y1 ∧ (¬ y1 = 0 → mInR x3 ∧ tCall E 176 [.inl (1, x3), .inl (1, 1), .inl (1, 200)] d (tbk E 285 27 [.inr (11, x0), .inl (0, x1), .inl (0, x2), .inl (0, x3), tu, tu] [.inr (11, y0)] 0 0 K)) ∧ (y1 = 0 → mInR ((mset d y0 0 1) x0 0) ∧ ((mset d y0 0 1) x0 0 ≤ 0 → tCall E 278 [.inr (11, x0)] (mset d y0 0 1) (tbk E 285 70 [.inr (11, x0), .inl (0, x1), .inl (0, x2), .inl (0, x3), tu, tu] [] 0 0 K)) ∧ (0 < (mset d y0 0 1) x0 0 → K (.inl (some (0, 0))) (mset d y0 0 1)))) :
  tRun E 285 (14, [.inr (11, x0), .inl (0, x1), .inl (0, x2), .inl (0, x3), tu, tu], [.inl (0, y1), .inr (11, y0)], 0, 0, d) K := tT_run (cut := [0, 6, 14, 30, 48, 73, 79, 105, 121, 136, 155]) 9 _ h
theorem t_285_30 {E : mO × tW} {K : tK} {d : mD} {x0 x1 x2 x3 y0 y1 : Int}
  (h : mInR y1 ∧ (¬ y1 = 0 → (mInR x1 ∧ mInR x2) ∧ (x1 = x2 → mInR ((mset d y0 0 3) x0 0) ∧ ((mset d y0 0 3) x0 0 ≤ 0 → tCall E 278 [.inr (11, x0)] (mset d y0 0 3) (tbk E 285 70 [.inr (11, x0), .inl (0, x1), .inl (0, x2), .inl (0, x3), tu, tu] [] 0 0 K)) ∧ (0 < (mset d y0 0 3) x0 0 → K (.inl (some (0, 0))) (mset d y0 0 3))) ∧ (¬ x1 = x2 → tCall E 245 [.inr (11, x0), .inl (0, x1), .inl (0, 0)] d (tbk E 285 45 [.inr (11, x0), .inl (0, x1), .inl (0, x2), .inl (0, x3), tu, tu] [.inr (11, y0)] 0 0 K))) ∧ (y1 = 0 → mInR ((mset d y0 0 2) x0 0) ∧ ((mset d y0 0 2) x0 0 ≤ 0 → tCall E 278 [.inr (11, x0)] (mset d y0 0 2) (tbk E 285 70 [.inr (11, x0), .inl (0, x1), .inl (0, x2), .inl (0, x3), tu, tu] [] 0 0 K)) ∧ (0 < (mset d y0 0 2) x0 0 → K (.inl (some (0, 0))) (mset d y0 0 2)))) :
  tRun E 285 (30, [.inr (11, x0), .inl (0, x1), .inl (0, x2), .inl (0, x3), tu, tu], [.inl (0, y1), .inr (11, y0)], 0, 0, d) K := tT_run (cut := [0, 6, 14, 30, 48, 73, 79, 105, 121, 136, 155]) 12 _ h
theorem t_285_48 {E : mO × tW} {K : tK} {d : mD} {x0 x1 x2 x3 y0 y1 : Int}
  (h : (mInR y1 ∧ mInR x3) ∧ (x3 ≤ y1 → mInR ((mset d y0 0 0) x0 0) ∧ ((mset d y0 0 0) x0 0 ≤ 0 → tCall E 278 [.inr (11, x0)] (mset d y0 0 0) (tbk E 285 70 [.inr (11, x0), .inl (0, x1), .inl (0, x2), .inl (0, x3), tu, tu] [] 0 0 K)) ∧ (0 < (mset d y0 0 0) x0 0 → K (.inl (some (0, 0))) (mset d y0 0 0))) ∧ (y1 < x3 → mInR ((mset d y0 0 3) x0 0) ∧ ((mset d y0 0 3) x0 0 ≤ 0 → tCall E 278 [.inr (11, x0)] (mset d y0 0 3) (tbk E 285 70 [.inr (11, x0), .inl (0, x1), .inl (0, x2), .inl (0, x3), tu, tu] [] 0 0 K)) ∧ (0 < (mset d y0 0 3) x0 0 → K (.inl (some (0, 0))) (mset d y0 0 3)))) :
  tRun E 285 (48, [.inr (11, x0), .inl (0, x1), .inl (0, x2), .inl (0, x3), tu, tu], [.inl (0, y1), .inr (11, y0)], 0, 0, d) K := tT_run (cut := [0, 6, 14, 30, 48, 73, 79, 105, 121, 136, 155]) 10 _ h
theorem t_285_73 {E : mO × tW} {K : tK} {d : mD} {x0 x1 x2 x3 : Int}
  (h : tRun E 285 (79, [.inr (11, x0), .inl (0, x1), .inl (0, x2), .inl (0, x3), .inl (0, x3), .inl (0, 0)], [], 0, 0, d) K) :
  tRun E 285 (73, [.inr (11, x0), .inl (0, x1), .inl (0, x2), .inl (0, x3), tu, tu], [], 0, 0, d) K := tT_run (cut := [0, 6, 14, 30, 48, 73, 79, 105, 121, 136, 155]) 4 _ h
theorem t_285_79 {E : mO × tW} {K : tK} {d : mD} {x0 x1 x2 x3 x4 x5 : Int}
  (h : (0 ≤ (10 : Int) ∧ (10 : Int) < 3116) ∧ (mInR x5 ∧ mInR (d (x0 + 1) 10)) ∧ (d (x0 + 1) 10 ≤ x5 → tCall E 245 [.inr (11, x0), .inl (0, x2), .inl (0, 0)] d (tbk E 285 152 [.inr (11, x0), .inl (0, x1), .inl (0, x2), .inl (0, x3), .inl (0, x4), .inl (0, x5)] [] 0 0 K)) ∧ (x5 < d (x0 + 1) 10 → mInR x4 ∧ (x4 ≤ 0 → tCall E 245 [.inr (11, x0), .inl (0, x2), .inl (0, 0)] d (tbk E 285 152 [.inr (11, x0), .inl (0, x1), .inl (0, x2), .inl (0, x3), .inl (0, x4), .inl (0, x5)] [] 0 0 K)) ∧ (0 < x4 → tCall E 180 [.inl (0, x5)] d (tbk E 285 102 [.inr (11, x0), .inl (0, x1), .inl (0, x2), .inl (0, x3), .inl (0, x4), .inl (0, x5)] [.inr (25, x0 + 1)] 0 0 K)))) :
  tRun E 285 (79, [.inr (11, x0), .inl (0, x1), .inl (0, x2), .inl (0, x3), .inl (0, x4), .inl (0, x5)], [], 0, 0, d) K := tT_run (cut := [0, 6, 14, 30, 48, 73, 79, 105, 121, 136, 155]) 12 _ h
theorem t_285_105 {E : mO × tW} {K : tK} {d : mD} {x0 x1 x2 x3 x4 x5 y0 y1 : Int}
  (h : (0 ≤ y1 + 0 ∧ y1 + 0 < 3116) ∧ (mInR (d y0 (y1 + 0)) ∧ mInR x1) ∧ (¬ d y0 (y1 + 0) = x1 → tRun E 285 (79, [.inr (11, x0), .inl (0, x1), .inl (0, x2), .inl (0, x3), .inl (0, x4), .inl (0, x5 + 1)], [], 0, 0, d) K) ∧ (d y0 (y1 + 0) = x1 → tCall E 180 [.inl (0, x5)] d (tbk E 285 118 [.inr (11, x0), .inl (0, x1), .inl (0, x2), .inl (0, x3), .inl (0, x4), .inl (0, x5)] [.inr (25, x0 + 1)] 0 0 K))) :
  tRun E 285 (105, [.inr (11, x0), .inl (0, x1), .inl (0, x2), .inl (0, x3), .inl (0, x4), .inl (0, x5)], [.inl (0, y1), .inr (25, y0)], 0, 0, d) K := tT_run (cut := [0, 6, 14, 30, 48, 73, 79, 105, 121, 136, 155]) 9 _ h
theorem t_285_121 {E : mO × tW} {K : tK} {d : mD} {x0 x1 x2 x3 x4 x5 y0 y1 : Int}
  (h : (0 ≤ y1 + 3 ∧ y1 + 3 < 3116) ∧ mInR (d y0 (y1 + 3)) ∧ (¬ d y0 (y1 + 3) = 0 → tRun E 285 (79, [.inr (11, x0), .inl (0, x1), .inl (0, x2), .inl (0, x3), .inl (0, x4), .inl (0, x5 + 1)], [], 0, 0, d) K) ∧ (d y0 (y1 + 3) = 0 → tCall E 180 [.inl (0, x5)] d (tbk E 285 133 [.inr (11, x0), .inl (0, x1), .inl (0, x2), .inl (0, x3), .inl (0, x4), .inl (0, x5)] [.inr (25, x0 + 1)] 0 0 K))) :
  tRun E 285 (121, [.inr (11, x0), .inl (0, x1), .inl (0, x2), .inl (0, x3), .inl (0, x4), .inl (0, x5)], [.inl (0, y1), .inr (25, y0)], 0, 0, d) K := tT_run (cut := [0, 6, 14, 30, 48, 73, 79, 105, 121, 136, 155]) 8 _ h
theorem t_285_136 {E : mO × tW} {K : tK} {d : mD} {x0 x1 x2 x3 x4 x5 y0 y1 : Int}
  (h : (0 ≤ y1 + 0 ∧ y1 + 0 < 3116) ∧ tRun E 285 (79, [.inr (11, x0), .inl (0, x1), .inl (0, x2), .inl (0, x3), .inl (0, x4 + (-1)), .inl (0, x5 + 1)], [], 0, 0, mset d y0 (y1 + 0) x2) K) :
  tRun E 285 (136, [.inr (11, x0), .inl (0, x1), .inl (0, x2), .inl (0, x3), .inl (0, x4), .inl (0, x5)], [.inl (0, y1), .inr (25, y0)], 0, 0, d) K := tT_run (cut := [0, 6, 14, 30, 48, 73, 79, 105, 121, 136, 155]) 7 _ h
theorem t_285_155 {E : mO × tW} {K : tK} {d : mD} {x0 x1 x2 x3 x4 x5 y0 : Int}
  (h : K (.inl (some (0, y0))) d) :
  tRun E 285 (155, [.inr (11, x0), .inl (0, x1), .inl (0, x2), .inl (0, x3), .inl (0, x4), .inl (0, x5)], [.inl (0, y0)], 0, 0, d) K := tT_run (cut := [0, 6, 14, 30, 48, 73, 79, 105, 121, 136, 155]) 1 _ h
theorem t_286_0 {E : mO × tW} {K : tK} {d : mD} {x0 x1 x2 : Int}
  (h : tCall E 237 [.inr (11, x0), .inl (0, x1)] d (tbk E 286 3 [.inr (11, x0), .inl (0, x1), .inl (0, x2), tu, tu] [.inr (11, x0)] 0 0 K)) :
  tRun E 286 (0, [.inr (11, x0), .inl (0, x1), .inl (0, x2), tu, tu], [], 0, 0, d) K := tT_run (cut := [0, 6, 22, 35, 60, 65, 90, 106, 121, 167]) 4 _ h
theorem t_286_6 {E : mO × tW} {K : tK} {d : mD} {x0 x1 x2 y0 y1 : Int}
  (h : mInR y1 ∧ (¬ y1 = 0 → mInR x2 ∧ tCall E 176 [.inl (1, x2), .inl (1, 1), .inl (1, 200)] d (tbk E 286 19 [.inr (11, x0), .inl (0, x1), .inl (0, x2), tu, tu] [.inr (11, y0)] 0 0 K)) ∧ (y1 = 0 → mInR ((mset d y0 0 1) x0 0) ∧ ((mset d y0 0 1) x0 0 ≤ 0 → tCall E 278 [.inr (11, x0)] (mset d y0 0 1) (tbk E 286 57 [.inr (11, x0), .inl (0, x1), .inl (0, x2), tu, tu] [] 0 0 K)) ∧ (0 < (mset d y0 0 1) x0 0 → K (.inl (some (0, 0))) (mset d y0 0 1)))) :
  tRun E 286 (6, [.inr (11, x0), .inl (0, x1), .inl (0, x2), tu, tu], [.inl (0, y1), .inr (11, y0)], 0, 0, d) K := tT_run (cut := [0, 6, 22, 35, 60, 65, 90, 106, 121, 167]) 9 _ h
theorem t_286_22 {E : mO × tW} {K : tK} {d : mD} {x0 x1 x2 y0 y1 : Int}
  (h : mInR y1 ∧ (¬ y1 = 0 → tCall E 245 [.inr (11, x0), .inl (0, x1), .inl (0, 0)] d (tbk E 286 32 [.inr (11, x0), .inl (0, x1), .inl (0, x2), tu, tu] [.inr (11, y0)] 0 0 K)) ∧ (y1 = 0 → mInR ((mset d y0 0 2) x0 0) ∧ ((mset d y0 0 2) x0 0 ≤ 0 → tCall E 278 [.inr (11, x0)] (mset d y0 0 2) (tbk E 286 57 [.inr (11, x0), .inl (0, x1), .inl (0, x2), tu, tu] [] 0 0 K)) ∧ (0 < (mset d y0 0 2) x0 0 → K (.inl (some (0, 0))) (mset d y0 0 2)))) :
  tRun E 286 (22, [.inr (11, x0), .inl (0, x1), .inl (0, x2), tu, tu], [.inl (0, y1), .inr (11, y0)], 0, 0, d) K := tT_run (cut := [0, 6, 22, 35, 60, 65, 90, 106, 121, 167]) 9 _ h
theorem t_286_35 {E : mO × tW} {K : tK} {d : mD} {x0 x1 x2 y0 y1 : Int}
  (h : (mInR y1 ∧ mInR x2) ∧ (x2 ≤ y1 → mInR ((mset d y0 0 0) x0 0) ∧ ((mset d y0 0 0) x0 0 ≤ 0 → tCall E 278 [.inr (11, x0)] (mset d y0 0 0) (tbk E 286 57 [.inr (11, x0), .inl (0, x1), .inl (0, x2), tu, tu] [] 0 0 K)) ∧ (0 < (mset d y0 0 0) x0 0 → K (.inl (some (0, 0))) (mset d y0 0 0))) ∧ (y1 < x2 → mInR ((mset d y0 0 3) x0 0) ∧ ((mset d y0 0 3) x0 0 ≤ 0 → tCall E 278 [.inr (11, x0)] (mset d y0 0 3) (tbk E 286 57 [.inr (11, x0), .inl (0, x1), .inl (0, x2), tu, tu] [] 0 0 K)) ∧ (0 < (mset d y0 0 3) x0 0 → K (.inl (some (0, 0))) (mset d y0 0 3)))) :
  tRun E 286 (35, [.inr (11, x0), .inl (0, x1), .inl (0, x2), tu, tu], [.inl (0, y1), .inr (11, y0)], 0, 0, d) K := tT_run (cut := [0, 6, 22, 35, 60, 65, 90, 106, 121, 167]) 10 _ h
theorem t_286_60 {E : mO × tW} {K : tK} {d : mD} {x0 x1 x2 : Int}
  (h : tRun E 286 (65, [.inr (11, x0), .inl (0, x1), .inl (0, x2), .inl (0, x2), .inl (0, 0)], [], 0, 0, d) K) :
  tRun E 286 (60, [.inr (11, x0), .inl (0, x1), .inl (0, x2), tu, tu], [], 0, 0, d) K := tT_run (cut := [0, 6, 22, 35, 60, 65, 90, 106, 121, 167]) 4 _ h
theorem t_286_65 {E : mO × tW} {K : tK} {d : mD} {x0 x1 x2 x3 x4 : Int}
  (h : (0 ≤ (10 : Int) ∧ (10 : Int) < 3116) ∧ (mInR x4 ∧ mInR (d (x0 + 1) 10)) ∧ (d (x0 + 1) 10 ≤ x4 → tCall E 219 [.inr (11, x0)] d (tbk E 286 164 [.inr (11, x0), .inl (0, x1), .inl (0, x2), .inl (0, x3), .inl (0, x4)] [] 0 0 K)) ∧ (x4 < d (x0 + 1) 10 → mInR x3 ∧ (x3 ≤ 0 → tCall E 219 [.inr (11, x0)] d (tbk E 286 164 [.inr (11, x0), .inl (0, x1), .inl (0, x2), .inl (0, x3), .inl (0, x4)] [] 0 0 K)) ∧ (0 < x3 → tCall E 180 [.inl (0, x4)] d (tbk E 286 87 [.inr (11, x0), .inl (0, x1), .inl (0, x2), .inl (0, x3), .inl (0, x4)] [.inr (25, x0 + 1)] 0 0 K)))) :
  tRun E 286 (65, [.inr (11, x0), .inl (0, x1), .inl (0, x2), .inl (0, x3), .inl (0, x4)], [], 0, 0, d) K := tT_run (cut := [0, 6, 22, 35, 60, 65, 90, 106, 121, 167]) 12 _ h
theorem t_286_90 {E : mO × tW} {K : tK} {d : mD} {x0 x1 x2 x3 x4 y0 y1 : Int}
  (h : (0 ≤ y1 + 0 ∧ y1 + 0 < 3116) ∧ (mInR (d y0 (y1 + 0)) ∧ mInR x1) ∧ (¬ d y0 (y1 + 0) = x1 → tRun E 286 (65, [.inr (11, x0), .inl (0, x1), .inl (0, x2), .inl (0, x3), .inl (0, x4 + 1)], [], 0, 0, d) K) ∧ (d y0 (y1 + 0) = x1 → tCall E 180 [.inl (0, x4)] d (tbk E 286 103 [.inr (11, x0), .inl (0, x1), .inl (0, x2), .inl (0, x3), .inl (0, x4)] [.inr (25, x0 + 1)] 0 0 K))) :
  tRun E 286 (90, [.inr (11, x0), .inl (0, x1), .inl (0, x2), .inl (0, x3), .inl (0, x4)], [.inl (0, y1), .inr (25, y0)], 0, 0, d) K := tT_run (cut := [0, 6, 22, 35, 60, 65, 90, 106, 121, 167]) 9 _ h
theorem t_286_106 {E : mO × tW} {K : tK} {d : mD} {x0 x1 x2 x3 x4 y0 y1 : Int}
  (h : (0 ≤ y1 + 3 ∧ y1 + 3 < 3116) ∧ mInR (d y0 (y1 + 3)) ∧ (¬ d y0 (y1 + 3) = 0 → tRun E 286 (65, [.inr (11, x0), .inl (0, x1), .inl (0, x2), .inl (0, x3), .inl (0, x4 + 1)], [], 0, 0, d) K) ∧ (d y0 (y1 + 3) = 0 → tCall E 180 [.inl (0, x4)] d (tbk E 286 118 [.inr (11, x0), .inl (0, x1), .inl (0, x2), .inl (0, x3), .inl (0, x4)] [.inr (25, x0 + 1)] 0 0 K))) :
  tRun E 286 (106, [.inr (11, x0), .inl (0, x1), .inl (0, x2), .inl (0, x3), .inl (0, x4)], [.inl (0, y1), .inr (25, y0)], 0, 0, d) K := tT_run (cut := [0, 6, 22, 35, 60, 65, 90, 106, 121, 167]) 8 _ h
theorem t_286_121 {E : mO × tW} {K : tK} {d : mD} {x0 x1 x2 x3 x4 y0 y1 : Int}
  (h : (0 ≤ y1 + 3 ∧ y1 + 3 < 3116) ∧ (0 ≤ (11 : Int) ∧ (11 : Int) < 3116) ∧ (0 ≤ 2916 + ((mset d y0 (y1 + 3) 1) (x0 + 1) 11) ∧ 2916 + ((mset d y0 (y1 + 3) 1) (x0 + 1) 11) < 3116) ∧ (0 ≤ (11 : Int) ∧ (11 : Int) < 3116) ∧ (0 ≤ (11 : Int) ∧ (11 : Int) < 3116) ∧ tRun E 286 (65, [.inr (11, x0), .inl (0, x1), .inl (0, x2), .inl (0, x3 + (-1)), .inl (0, x4 + 1)], [], 0, 0, mset (mset (mset d y0 (y1 + 3) 1) (x0 + 1) (2916 + ((mset d y0 (y1 + 3) 1) (x0 + 1) 11)) x4) (x0 + 1) 11 (((mset (mset d y0 (y1 + 3) 1) (x0 + 1) (2916 + ((mset d y0 (y1 + 3) 1) (x0 + 1) 11)) x4) (x0 + 1) 11) + 1)) K) :
  tRun E 286 (121, [.inr (11, x0), .inl (0, x1), .inl (0, x2), .inl (0, x3), .inl (0, x4)], [.inl (0, y1), .inr (25, y0)], 0, 0, d) K := tT_run (cut := [0, 6, 22, 35, 60, 65, 90, 106, 121, 167]) 25 _ h
theorem t_286_167 {E : mO × tW} {K : tK} {d : mD} {x0 x1 x2 x3 x4 y0 : Int}
  (h : K (.inl (some (0, y0))) d) :
  tRun E 286 (167, [.inr (11, x0), .inl (0, x1), .inl (0, x2), .inl (0, x3), .inl (0, x4)], [.inl (0, y0)], 0, 0, d) K := tT_run (cut := [0, 6, 22, 35, 60, 65, 90, 106, 121, 167]) 1 _ h
theorem t_287_0 {E : mO × tW} {K : tK} {d : mD} {x0 x1 : Int}
  (h : mInR x1 ∧ tCall E 176 [.inl (1, x1), .inl (1, 1), .inl (1, 9999)] d (tbk E 287 7 [.inr (11, x0), .inl (0, x1), tu] [.inr (11, x0)] 0 0 K)) :
  tRun E 287 (0, [.inr (11, x0), .inl (0, x1), tu], [], 0, 0, d) K := tT_run (cut := [0, 10, 51, 65]) 6 _ h
theorem t_287_10 {E : mO × tW} {K : tK} {d : mD} {x0 x1 y0 y1 : Int}
  (h : mInR y1 ∧ (¬ y1 = 0 → (0 ≤ (1 : Int) ∧ (1 : Int) < 3116) ∧ (mInR ((d (x0 + 1) 1) + x1) ∧ mInR 99999) ∧ ((d (x0 + 1) 1) + x1 ≤ 99999 → mInR ((mset d y0 0 0) x0 0) ∧ ((mset d y0 0 0) x0 0 ≤ 0 → tCall E 278 [.inr (11, x0)] (mset d y0 0 0) (tbk E 287 48 [.inr (11, x0), .inl (0, x1), tu] [] 0 0 K)) ∧ (0 < (mset d y0 0 0) x0 0 → K (.inl (some (0, 0))) (mset d y0 0 0))) ∧ (99999 < (d (x0 + 1) 1) + x1 → mInR ((mset d y0 0 2) x0 0) ∧ ((mset d y0 0 2) x0 0 ≤ 0 → tCall E 278 [.inr (11, x0)] (mset d y0 0 2) (tbk E 287 48 [.inr (11, x0), .inl (0, x1), tu] [] 0 0 K)) ∧ (0 < (mset d y0 0 2) x0 0 → K (.inl (some (0, 0))) (mset d y0 0 2)))) ∧ (y1 = 0 → mInR ((mset d y0 0 1) x0 0) ∧ ((mset d y0 0 1) x0 0 ≤ 0 → tCall E 278 [.inr (11, x0)] (mset d y0 0 1) (tbk E 287 48 [.inr (11, x0), .inl (0, x1), tu] [] 0 0 K)) ∧ (0 < (mset d y0 0 1) x0 0 → K (.inl (some (0, 0))) (mset d y0 0 1)))) :
  tRun E 287 (10, [.inr (11, x0), .inl (0, x1), tu], [.inl (0, y1), .inr (11, y0)], 0, 0, d) K := tT_run (cut := [0, 10, 51, 65]) 17 _ h
theorem t_287_51 {E : mO × tW} {K : tK} {d : mD} {x0 x1 : Int}
  (h : (0 ≤ (1 : Int) ∧ (1 : Int) < 3116) ∧ (0 ≤ (1 : Int) ∧ (1 : Int) < 3116) ∧ tCall E 219 [.inr (11, x0)] (mset d (x0 + 1) 1 ((d (x0 + 1) 1) + x1)) (tbk E 287 62 [.inr (11, x0), .inl (0, x1), tu] [] 0 0 K)) :
  tRun E 287 (51, [.inr (11, x0), .inl (0, x1), tu], [], 0, 0, d) K := tT_run (cut := [0, 10, 51, 65]) 10 _ h
theorem t_287_65 {E : mO × tW} {K : tK} {d : mD} {x0 x1 y0 : Int}
  (h : (0 ≤ (1 : Int) ∧ (1 : Int) < 3116) ∧ K (.inl (some (0, d (x0 + 1) 1))) d) :
  tRun E 287 (65, [.inr (11, x0), .inl (0, x1), tu], [.inl (0, y0)], 0, 0, d) K := tT_run (cut := [0, 10, 51, 65]) 6 _ h
theorem t_288_0 {E : mO × tW} {K : tK} {d : mD} {x0 x1 x2 : Int}
  (h : tCall E 236 [.inr (11, x0), .inl (0, x1)] d (tbk E 288 3 [.inr (11, x0), .inl (0, x1), .inl (0, x2)] [.inr (11, x0)] 0 0 K)) :
  tRun E 288 (0, [.inr (11, x0), .inl (0, x1), .inl (0, x2)], [], 0, 0, d) K := tT_run (cut := [0, 6, 14, 27, 51, 57, 65]) 4 _ h
theorem t_288_6 {E : mO × tW} {K : tK} {d : mD} {x0 x1 x2 y0 y1 : Int}
  (h : mInR y1 ∧ (y1 = 0 → mInR ((mset d y0 0 1) x0 0) ∧ ((mset d y0 0 1) x0 0 ≤ 0 → tCall E 278 [.inr (11, x0)] (mset d y0 0 1) (tbk E 288 48 [.inr (11, x0), .inl (0, x1), .inl (0, x2)] [] 0 0 K)) ∧ (0 < (mset d y0 0 1) x0 0 → K (.inl (some (0, 0))) (mset d y0 0 1))) ∧ (¬ y1 = 0 → tCall E 236 [.inr (11, x0), .inl (0, x2)] d (tbk E 288 11 [.inr (11, x0), .inl (0, x1), .inl (0, x2)] [.inr (11, y0)] 0 0 K))) :
  tRun E 288 (6, [.inr (11, x0), .inl (0, x1), .inl (0, x2)], [.inl (0, y1), .inr (11, y0)], 0, 0, d) K := tT_run (cut := [0, 6, 14, 27, 51, 57, 65]) 9 _ h
theorem t_288_14 {E : mO × tW} {K : tK} {d : mD} {x0 x1 x2 y0 y1 : Int}
  (h : mInR y1 ∧ (¬ y1 = 0 → tCall E 270 [.inr (11, x0), .inl (0, x1), .inl (0, x2)] d (tbk E 288 24 [.inr (11, x0), .inl (0, x1), .inl (0, x2)] [.inr (11, y0)] 0 0 K)) ∧ (y1 = 0 → mInR ((mset d y0 0 1) x0 0) ∧ ((mset d y0 0 1) x0 0 ≤ 0 → tCall E 278 [.inr (11, x0)] (mset d y0 0 1) (tbk E 288 48 [.inr (11, x0), .inl (0, x1), .inl (0, x2)] [] 0 0 K)) ∧ (0 < (mset d y0 0 1) x0 0 → K (.inl (some (0, 0))) (mset d y0 0 1)))) :
  tRun E 288 (14, [.inr (11, x0), .inl (0, x1), .inl (0, x2)], [.inl (0, y1), .inr (11, y0)], 0, 0, d) K := tT_run (cut := [0, 6, 14, 27, 51, 57, 65]) 9 _ h
theorem t_288_27 {E : mO × tW} {K : tK} {d : mD} {x0 x1 x2 y0 y1 : Int}
  (h : mInR y1 ∧ (y1 = 0 → mInR ((mset d y0 0 2) x0 0) ∧ ((mset d y0 0 2) x0 0 ≤ 0 → tCall E 278 [.inr (11, x0)] (mset d y0 0 2) (tbk E 288 48 [.inr (11, x0), .inl (0, x1), .inl (0, x2)] [] 0 0 K)) ∧ (0 < (mset d y0 0 2) x0 0 → K (.inl (some (0, 0))) (mset d y0 0 2))) ∧ (¬ y1 = 0 → mInR ((mset d y0 0 0) x0 0) ∧ ((mset d y0 0 0) x0 0 ≤ 0 → tCall E 278 [.inr (11, x0)] (mset d y0 0 0) (tbk E 288 48 [.inr (11, x0), .inl (0, x1), .inl (0, x2)] [] 0 0 K)) ∧ (0 < (mset d y0 0 0) x0 0 → K (.inl (some (0, 0))) (mset d y0 0 0)))) :
  tRun E 288 (27, [.inr (11, x0), .inl (0, x1), .inl (0, x2)], [.inl (0, y1), .inr (11, y0)], 0, 0, d) K := tT_run (cut := [0, 6, 14, 27, 51, 57, 65]) 9 _ h
theorem t_288_51 {E : mO × tW} {K : tK} {d : mD} {x0 x1 x2 : Int}
  (h : tCall E 229 [.inr (11, x0), .inl (0, x1), .inl (0, x2)] d (tbk E 288 54 [.inr (11, x0), .inl (0, x1), .inl (0, x2)] [] 0 0 K)) :
  tRun E 288 (51, [.inr (11, x0), .inl (0, x1), .inl (0, x2)], [], 0, 0, d) K := tT_run (cut := [0, 6, 14, 27, 51, 57, 65]) 4 _ h
theorem t_288_57 {E : mO × tW} {K : tK} {d : mD} {x0 x1 x2 : Int}
  (h : tCall E 177 [.inl (0, x2)] d (tbk E 288 62 [.inr (11, x0), .inl (0, x1), .inl (0, x2)] [.inr (25, x0 + 1)] 0 0 K)) :
  tRun E 288 (57, [.inr (11, x0), .inl (0, x1), .inl (0, x2)], [], 0, 0, d) K := tT_run (cut := [0, 6, 14, 27, 51, 57, 65]) 4 _ h
theorem t_288_65 {E : mO × tW} {K : tK} {d : mD} {x0 x1 x2 y0 y1 : Int}
  (h : (0 ≤ y1 + 5 ∧ y1 + 5 < 3116) ∧ K (.inl (some (0, d y0 (y1 + 5)))) d) :
  tRun E 288 (65, [.inr (11, x0), .inl (0, x1), .inl (0, x2)], [.inl (0, y1), .inr (25, y0)], 0, 0, d) K := tT_run (cut := [0, 6, 14, 27, 51, 57, 65]) 4 _ h
theorem t_289_0 {E : mO × tW} {K : tK} {d : mD} {x0 x1 : Int}
  (h : tCall E 236 [.inr (11, x0), .inl (0, x1)] d (tbk E 289 3 [.inr (11, x0), .inl (0, x1), tu, tu] [.inr (11, x0)] 0 0 K)) :
  tRun E 289 (0, [.inr (11, x0), .inl (0, x1), tu, tu], [], 0, 0, d) K := tT_run (cut := [0, 6, 21, 48, 56, 64, 84]) 4 _ h
theorem t_289_6 {E : mO × tW} {K : tK} {d : mD} {x0 x1 y0 y1 : Int}
  (h : mInR y1 ∧ (¬ y1 = 0 → tCall E 177 [.inl (0, x1)] d (tbk E 289 18 [.inr (11, x0), .inl (0, x1), tu, tu] [.inr (25, x0 + 1), .inr (11, y0)] 0 0 K)) ∧ (y1 = 0 → mInR ((mset d y0 0 1) x0 0) ∧ ((mset d y0 0 1) x0 0 ≤ 0 → tCall E 278 [.inr (11, x0)] (mset d y0 0 1) (tbk E 289 45 [.inr (11, x0), .inl (0, x1), tu, tu] [] 0 0 K)) ∧ (0 < (mset d y0 0 1) x0 0 → K (.inl (some (0, 0))) (mset d y0 0 1)))) :
  tRun E 289 (6, [.inr (11, x0), .inl (0, x1), tu, tu], [.inl (0, y1), .inr (11, y0)], 0, 0, d) K := tT_run (cut := [0, 6, 21, 48, 56, 64, 84]) 9 _ h
theorem t_289_21 {E : mO × tW} {K : tK} {d : mD} {x0 x1 y0 y1 y2 : Int}
  (h : (0 ≤ y2 + 4 ∧ y2 + 4 < 3116) ∧ mInR (d y1 (y2 + 4)) ∧ (¬ d y1 (y2 + 4) = 0 → mInR ((mset d y0 0 2) x0 0) ∧ ((mset d y0 0 2) x0 0 ≤ 0 → tCall E 278 [.inr (11, x0)] (mset d y0 0 2) (tbk E 289 45 [.inr (11, x0), .inl (0, x1), tu, tu] [] 0 0 K)) ∧ (0 < (mset d y0 0 2) x0 0 → K (.inl (some (0, 0))) (mset d y0 0 2))) ∧ (d y1 (y2 + 4) = 0 → mInR ((mset d y0 0 0) x0 0) ∧ ((mset d y0 0 0) x0 0 ≤ 0 → tCall E 278 [.inr (11, x0)] (mset d y0 0 0) (tbk E 289 45 [.inr (11, x0), .inl (0, x1), tu, tu] [] 0 0 K)) ∧ (0 < (mset d y0 0 0) x0 0 → K (.inl (some (0, 0))) (mset d y0 0 0)))) :
  tRun E 289 (21, [.inr (11, x0), .inl (0, x1), tu, tu], [.inl (0, y2), .inr (25, y1), .inr (11, y0)], 0, 0, d) K := tT_run (cut := [0, 6, 21, 48, 56, 64, 84]) 12 _ h
theorem t_289_48 {E : mO × tW} {K : tK} {d : mD} {x0 x1 : Int}
  (h : tCall E 177 [.inl (0, x1)] d (tbk E 289 53 [.inr (11, x0), .inl (0, x1), tu, tu] [.inr (25, x0 + 1)] 0 0 K)) :
  tRun E 289 (48, [.inr (11, x0), .inl (0, x1), tu, tu], [], 0, 0, d) K := tT_run (cut := [0, 6, 21, 48, 56, 64, 84]) 4 _ h
theorem t_289_56 {E : mO × tW} {K : tK} {d : mD} {x0 x1 y0 y1 : Int}
  (h : (0 ≤ y1 + 4 ∧ y1 + 4 < 3116) ∧ tRun E 289 (64, [.inr (11, x0), .inl (0, x1), .inl (0, 0), .inl (0, 0)], [], 0, 0, mset d y0 (y1 + 4) 1) K) :
  tRun E 289 (56, [.inr (11, x0), .inl (0, x1), tu, tu], [.inl (0, y1), .inr (25, y0)], 0, 0, d) K := tT_run (cut := [0, 6, 21, 48, 56, 64, 84]) 8 _ h
theorem t_289_64 {E : mO × tW} {K : tK} {d : mD} {x0 x1 x2 x3 : Int}
  (h : (0 ≤ (7 : Int) ∧ (7 : Int) < 3116) ∧ (mInR x3 ∧ mInR (d (x0 + 1) 7)) ∧ (d (x0 + 1) 7 ≤ x3 → K (.inl (some (0, x2))) d) ∧ (x3 < d (x0 + 1) 7 → tCall E 177 [.inl (0, x3)] d (tbk E 289 81 [.inr (11, x0), .inl (0, x1), .inl (0, x2), .inl (0, x3)] [.inr (25, x0 + 1), .inl (0, x2)] 0 0 K))) :
  tRun E 289 (64, [.inr (11, x0), .inl (0, x1), .inl (0, x2), .inl (0, x3)], [], 0, 0, d) K := tT_run (cut := [0, 6, 21, 48, 56, 64, 84]) 11 _ h
theorem t_289_84 {E : mO × tW} {K : tK} {d : mD} {x0 x1 x2 x3 y0 y1 y2 : Int}
  (h : (0 ≤ y2 + 4 ∧ y2 + 4 < 3116) ∧ tRun E 289 (64, [.inr (11, x0), .inl (0, x1), .inl (0, y0 + (d y1 (y2 + 4))), .inl (0, x3 + 1)], [], 0, 0, d) K) :
  tRun E 289 (84, [.inr (11, x0), .inl (0, x1), .inl (0, x2), .inl (0, x3)], [.inl (0, y2), .inr (25, y1), .inl (0, y0)], 0, 0, d) K := tT_run (cut := [0, 6, 21, 48, 56, 64, 84]) 7 _ h
