/-! ===== pieces of the methods between cuts: printed by a program of mine ===== -/
theorem t_309_0 {E : mO × tW} {K : tK} {d : mD} {x0 x1 x2 x3 : Int}
  (h : tCall E 128 [.inr (10, x0), .inl (0, x1), .inl (0, x2)] d (tbk E 309 5 [.inr (10, x0), .inl (0, x1), .inl (0, x2), .inr (30, x3), tu] [.inl (0, 0), .inr (30, x3)] 2 12 K)) :
  tRun E 309 (0, [.inr (10, x0), .inl (0, x1), .inl (0, x2), .inr (30, x3), tu], [], 0, 0, d) K := tT_run (cut := [0, 8]) 6 _ h
theorem t_309_8 {E : mO × tW} {K : tK} {d : mD} {x0 x1 x2 x3 y0 y1 y2 : Int}
  (h : mInR y2 ∧ (0 ≤ y1 ∧ y1 < 1) ∧ K (.inl (some (0, 0))) (mset d y0 y1 y2)) :
  tRun E 309 (8, [.inr (10, x0), .inl (0, x1), .inl (0, x2), .inr (30, x3), tu], [.inl (0, y2), .inl (0, y1), .inr (30, y0)], 2, 12, d) K := tT_run (cut := [0, 8]) 5 _ h
theorem t_310_0 {E : mO × tW} {K : tK} {d : mD} {x0 x1 x2 x3 : Int}
  (h : tCall E 129 [.inr (10, x0), .inl (0, x1), .inl (0, x2)] d (tbk E 310 5 [.inr (10, x0), .inl (0, x1), .inl (0, x2), .inr (30, x3), tu] [.inl (0, 0), .inr (30, x3)] 2 12 K)) :
  tRun E 310 (0, [.inr (10, x0), .inl (0, x1), .inl (0, x2), .inr (30, x3), tu], [], 0, 0, d) K := tT_run (cut := [0, 8]) 6 _ h
theorem t_310_8 {E : mO × tW} {K : tK} {d : mD} {x0 x1 x2 x3 y0 y1 y2 : Int}
  (h : mInR y2 ∧ (0 ≤ y1 ∧ y1 < 1) ∧ K (.inl (some (0, 0))) (mset d y0 y1 y2)) :
  tRun E 310 (8, [.inr (10, x0), .inl (0, x1), .inl (0, x2), .inr (30, x3), tu], [.inl (0, y2), .inl (0, y1), .inr (30, y0)], 2, 12, d) K := tT_run (cut := [0, 8]) 5 _ h
theorem t_311_0 {E : mO × tW} {K : tK} {d : mD} {x0 x1 x2 x3 : Int}
  (h : tCall E 130 [.inr (10, x0), .inl (0, x1), .inl (0, x2)] d (tbk E 311 5 [.inr (10, x0), .inl (0, x1), .inl (0, x2), .inr (30, x3), tu] [.inl (0, 0), .inr (30, x3)] 1 6 K)) :
  tRun E 311 (0, [.inr (10, x0), .inl (0, x1), .inl (0, x2), .inr (30, x3), tu], [], 0, 0, d) K := tT_run (cut := [0, 8]) 6 _ h
theorem t_311_8 {E : mO × tW} {K : tK} {d : mD} {x0 x1 x2 x3 y0 y1 y2 : Int}
  (h : mInR y2 ∧ (0 ≤ y1 ∧ y1 < 1) ∧ K (.inl (some (0, 0))) (mset d y0 y1 y2)) :
  tRun E 311 (8, [.inr (10, x0), .inl (0, x1), .inl (0, x2), .inr (30, x3), tu], [.inl (0, y2), .inl (0, y1), .inr (30, y0)], 1, 6, d) K := tT_run (cut := [0, 8]) 5 _ h
theorem t_312_0 {E : mO × tW} {K : tK} {d : mD} {x0 x1 x2 x3 : Int}
  (h : tCall E 131 [.inr (10, x0), .inl (0, x1), .inl (0, x2)] d (tbk E 312 5 [.inr (10, x0), .inl (0, x1), .inl (0, x2), .inr (30, x3), tu] [.inl (0, 0), .inr (30, x3)] 2 12 K)) :
  tRun E 312 (0, [.inr (10, x0), .inl (0, x1), .inl (0, x2), .inr (30, x3), tu], [], 0, 0, d) K := tT_run (cut := [0, 8]) 6 _ h
theorem t_312_8 {E : mO × tW} {K : tK} {d : mD} {x0 x1 x2 x3 y0 y1 y2 : Int}
  (h : mInR y2 ∧ (y2 = 0 → (0 ≤ y1 ∧ y1 < 1) ∧ K (.inl (some (0, 0))) (mset d y0 y1 0)) ∧ (¬ y2 = 0 → (0 ≤ y1 ∧ y1 < 1) ∧ K (.inl (some (0, 0))) (mset d y0 y1 1))) :
  tRun E 312 (8, [.inr (10, x0), .inl (0, x1), .inl (0, x2), .inr (30, x3), tu], [.inl (0, y2), .inl (0, y1), .inr (30, y0)], 2, 12, d) K := tT_run (cut := [0, 8]) 7 _ h
theorem t_313_0 {E : mO × tW} {K : tK} {d : mD} {x0 x1 x2 x3 : Int}
  (h : tCall E 132 [.inr (10, x0), .inl (0, x1), .inl (0, x2)] d (tbk E 313 5 [.inr (10, x0), .inl (0, x1), .inl (0, x2), .inr (30, x3), tu] [.inl (0, 0), .inr (30, x3)] 2 12 K)) :
  tRun E 313 (0, [.inr (10, x0), .inl (0, x1), .inl (0, x2), .inr (30, x3), tu], [], 0, 0, d) K := tT_run (cut := [0, 8]) 6 _ h
theorem t_313_8 {E : mO × tW} {K : tK} {d : mD} {x0 x1 x2 x3 y0 y1 y2 : Int}
  (h : mInR y2 ∧ (0 ≤ y1 ∧ y1 < 1) ∧ K (.inl (some (0, 0))) (mset d y0 y1 y2)) :
  tRun E 313 (8, [.inr (10, x0), .inl (0, x1), .inl (0, x2), .inr (30, x3), tu], [.inl (0, y2), .inl (0, y1), .inr (30, y0)], 2, 12, d) K := tT_run (cut := [0, 8]) 5 _ h
theorem t_314_0 {E : mO × tW} {K : tK} {d : mD} {x0 x1 x2 x3 : Int}
  (h : tCall E 133 [.inr (10, x0), .inl (0, x1), .inl (0, x2)] d (tbk E 314 5 [.inr (10, x0), .inl (0, x1), .inl (0, x2), .inr (30, x3), tu] [.inl (0, 0), .inr (30, x3)] 2 12 K)) :
  tRun E 314 (0, [.inr (10, x0), .inl (0, x1), .inl (0, x2), .inr (30, x3), tu], [], 0, 0, d) K := tT_run (cut := [0, 8]) 6 _ h
theorem t_314_8 {E : mO × tW} {K : tK} {d : mD} {x0 x1 x2 x3 y0 y1 y2 : Int}
  (h : mInR y2 ∧ (0 ≤ y1 ∧ y1 < 1) ∧ K (.inl (some (0, 0))) (mset d y0 y1 y2)) :
  tRun E 314 (8, [.inr (10, x0), .inl (0, x1), .inl (0, x2), .inr (30, x3), tu], [.inl (0, y2), .inl (0, y1), .inr (30, y0)], 2, 12, d) K := tT_run (cut := [0, 8]) 5 _ h
theorem t_315_0 {E : mO × tW} {K : tK} {d : mD} {x0 x1 x2 x3 : Int}
  (h : tCall E 134 [.inr (10, x0), .inl (0, x1), .inl (0, x2)] d (tbk E 315 5 [.inr (10, x0), .inl (0, x1), .inl (0, x2), .inr (30, x3), tu] [.inl (0, 0), .inr (30, x3)] 2 12 K)) :
  tRun E 315 (0, [.inr (10, x0), .inl (0, x1), .inl (0, x2), .inr (30, x3), tu], [], 0, 0, d) K := tT_run (cut := [0, 8]) 6 _ h
theorem t_315_8 {E : mO × tW} {K : tK} {d : mD} {x0 x1 x2 x3 y0 y1 y2 : Int}
  (h : mInR y2 ∧ (0 ≤ y1 ∧ y1 < 1) ∧ K (.inl (some (0, 0))) (mset d y0 y1 y2)) :
  tRun E 315 (8, [.inr (10, x0), .inl (0, x1), .inl (0, x2), .inr (30, x3), tu], [.inl (0, y2), .inl (0, y1), .inr (30, y0)], 2, 12, d) K := tT_run (cut := [0, 8]) 5 _ h
theorem t_316_0 {E : mO × tW} {K : tK} {d : mD} {x0 x1 x2 x3 : Int}
  (h : tCall E 135 [.inr (10, x0), .inl (0, x1), .inl (0, x2)] d (tbk E 316 5 [.inr (10, x0), .inl (0, x1), .inl (0, x2), .inr (30, x3), tu] [.inl (0, 0), .inr (30, x3)] 2 12 K)) :
  tRun E 316 (0, [.inr (10, x0), .inl (0, x1), .inl (0, x2), .inr (30, x3), tu], [], 0, 0, d) K := tT_run (cut := [0, 8]) 6 _ h
theorem t_316_8 {E : mO × tW} {K : tK} {d : mD} {x0 x1 x2 x3 y0 y1 y2 : Int}
  (h : mInR y2 ∧ (y2 = 0 → (0 ≤ y1 ∧ y1 < 1) ∧ K (.inl (some (0, 0))) (mset d y0 y1 0)) ∧ (¬ y2 = 0 → (0 ≤ y1 ∧ y1 < 1) ∧ K (.inl (some (0, 0))) (mset d y0 y1 1))) :
  tRun E 316 (8, [.inr (10, x0), .inl (0, x1), .inl (0, x2), .inr (30, x3), tu], [.inl (0, y2), .inl (0, y1), .inr (30, y0)], 2, 12, d) K := tT_run (cut := [0, 8]) 7 _ h
theorem t_317_0 {E : mO × tW} {K : tK} {d : mD} {x0 x1 x2 : Int}
  (h : tCall E 136 [.inr (10, x0), .inl (0, x1)] d (tbk E 317 4 [.inr (10, x0), .inl (0, x1), .inr (30, x2), tu] [.inl (0, 0), .inr (30, x2)] 1 6 K)) :
  tRun E 317 (0, [.inr (10, x0), .inl (0, x1), .inr (30, x2), tu], [], 0, 0, d) K := tT_run (cut := [0, 7]) 5 _ h
theorem t_317_7 {E : mO × tW} {K : tK} {d : mD} {x0 x1 x2 y0 y1 y2 : Int}
  (h : mInR y2 ∧ (0 ≤ y1 ∧ y1 < 1) ∧ K (.inl (some (0, 0))) (mset d y0 y1 y2)) :
  tRun E 317 (7, [.inr (10, x0), .inl (0, x1), .inr (30, x2), tu], [.inl (0, y2), .inl (0, y1), .inr (30, y0)], 1, 6, d) K := tT_run (cut := [0, 7]) 5 _ h
theorem t_318_0 {E : mO × tW} {K : tK} {d : mD} {x0 x1 x2 : Int}
  (h : tCall E 142 [.inr (10, x0), .inl (0, x1)] d (tbk E 318 4 [.inr (10, x0), .inl (0, x1), .inr (30, x2), tu] [.inl (0, 0), .inr (30, x2)] 2 12 K)) :
  tRun E 318 (0, [.inr (10, x0), .inl (0, x1), .inr (30, x2), tu], [], 0, 0, d) K := tT_run (cut := [0, 7]) 5 _ h
theorem t_318_7 {E : mO × tW} {K : tK} {d : mD} {x0 x1 x2 y0 y1 y2 : Int}
  (h : mInR y2 ∧ (0 ≤ y1 ∧ y1 < 1) ∧ K (.inl (some (0, 0))) (mset d y0 y1 y2)) :
  tRun E 318 (7, [.inr (10, x0), .inl (0, x1), .inr (30, x2), tu], [.inl (0, y2), .inl (0, y1), .inr (30, y0)], 2, 12, d) K := tT_run (cut := [0, 7]) 5 _ h
theorem t_319_0 {E : mO × tW} {K : tK} {d : mD} {x0 x1 x2 x3 : Int}
  (h : tCall E 143 [.inr (10, x0), .inl (0, x1), .inl (0, x2)] d (tbk E 319 5 [.inr (10, x0), .inl (0, x1), .inl (0, x2), .inr (30, x3), tu] [.inl (0, 0), .inr (30, x3)] 2 12 K)) :
  tRun E 319 (0, [.inr (10, x0), .inl (0, x1), .inl (0, x2), .inr (30, x3), tu], [], 0, 0, d) K := tT_run (cut := [0, 8]) 6 _ h
theorem t_319_8 {E : mO × tW} {K : tK} {d : mD} {x0 x1 x2 x3 y0 y1 y2 : Int}
  (h : mInR y2 ∧ (0 ≤ y1 ∧ y1 < 1) ∧ K (.inl (some (0, 0))) (mset d y0 y1 y2)) :
  tRun E 319 (8, [.inr (10, x0), .inl (0, x1), .inl (0, x2), .inr (30, x3), tu], [.inl (0, y2), .inl (0, y1), .inr (30, y0)], 2, 12, d) K := tT_run (cut := [0, 8]) 5 _ h
theorem t_320_0 {E : mO × tW} {K : tK} {d : mD} {x0 x1 x2 : Int}
  (h : tCall E 144 [.inr (10, x0), .inl (0, x1)] d (tbk E 320 4 [.inr (10, x0), .inl (0, x1), .inr (30, x2), tu] [.inl (0, 0), .inr (30, x2)] 1 6 K)) :
  tRun E 320 (0, [.inr (10, x0), .inl (0, x1), .inr (30, x2), tu], [], 0, 0, d) K := tT_run (cut := [0, 7]) 5 _ h
theorem t_320_7 {E : mO × tW} {K : tK} {d : mD} {x0 x1 x2 y0 y1 y2 : Int}
  (h : mInR y2 ∧ (0 ≤ y1 ∧ y1 < 1) ∧ K (.inl (some (0, 0))) (mset d y0 y1 y2)) :
  tRun E 320 (7, [.inr (10, x0), .inl (0, x1), .inr (30, x2), tu], [.inl (0, y2), .inl (0, y1), .inr (30, y0)], 1, 6, d) K := tT_run (cut := [0, 7]) 5 _ h
theorem t_321_0 {E : mO × tW} {K : tK} {d : mD} {x0 x1 x2 : Int}
  (h : tCall E 145 [.inr (10, x0), .inl (0, x1)] d (tbk E 321 4 [.inr (10, x0), .inl (0, x1), .inr (30, x2), tu] [.inl (0, 0), .inr (30, x2)] 2 12 K)) :
  tRun E 321 (0, [.inr (10, x0), .inl (0, x1), .inr (30, x2), tu], [], 0, 0, d) K := tT_run (cut := [0, 7]) 5 _ h
theorem t_321_7 {E : mO × tW} {K : tK} {d : mD} {x0 x1 x2 y0 y1 y2 : Int}
  (h : mInR y2 ∧ (0 ≤ y1 ∧ y1 < 1) ∧ K (.inl (some (0, 0))) (mset d y0 y1 y2)) :
  tRun E 321 (7, [.inr (10, x0), .inl (0, x1), .inr (30, x2), tu], [.inl (0, y2), .inl (0, y1), .inr (30, y0)], 2, 12, d) K := tT_run (cut := [0, 7]) 5 _ h
theorem t_322_0 {E : mO × tW} {K : tK} {d : mD} {x0 x1 : Int}
  (h : tCall E 146 [.inr (10, x0)] d (tbk E 322 3 [.inr (10, x0), .inr (30, x1), tu] [.inl (0, 0), .inr (30, x1)] 1 6 K)) :
  tRun E 322 (0, [.inr (10, x0), .inr (30, x1), tu], [], 0, 0, d) K := tT_run (cut := [0, 6]) 4 _ h
theorem t_322_6 {E : mO × tW} {K : tK} {d : mD} {x0 x1 y0 y1 y2 : Int}
  (h : mInR y2 ∧ (0 ≤ y1 ∧ y1 < 1) ∧ K (.inl (some (0, 0))) (mset d y0 y1 y2)) :
  tRun E 322 (6, [.inr (10, x0), .inr (30, x1), tu], [.inl (0, y2), .inl (0, y1), .inr (30, y0)], 1, 6, d) K := tT_run (cut := [0, 6]) 5 _ h
theorem t_323_0 {E : mO × tW} {K : tK} {d : mD} {x0 x1 x2 x3 : Int}
  (h : tCall E 147 [.inr (10, x0), .inl (0, x1), .inl (0, x2)] d (tbk E 323 5 [.inr (10, x0), .inl (0, x1), .inl (0, x2), .inr (30, x3), tu] [.inl (0, 0), .inr (30, x3)] 4 24 K)) :
  tRun E 323 (0, [.inr (10, x0), .inl (0, x1), .inl (0, x2), .inr (30, x3), tu], [], 0, 0, d) K := tT_run (cut := [0, 8]) 6 _ h
theorem t_323_8 {E : mO × tW} {K : tK} {d : mD} {x0 x1 x2 x3 y0 y1 y2 : Int}
  (h : mInR y2 ∧ (0 ≤ y1 ∧ y1 < 1) ∧ K (.inl (some (0, 0))) (mset d y0 y1 y2)) :
  tRun E 323 (8, [.inr (10, x0), .inl (0, x1), .inl (0, x2), .inr (30, x3), tu], [.inl (0, y2), .inl (0, y1), .inr (30, y0)], 4, 24, d) K := tT_run (cut := [0, 8]) 5 _ h
theorem t_324_0 {E : mO × tW} {K : tK} {d : mD} {x0 x1 x2 : Int}
  (h : tCall E 148 [.inr (10, x0), .inl (0, x1)] d (tbk E 324 4 [.inr (10, x0), .inl (0, x1), .inr (30, x2), tu] [.inl (0, 0), .inr (30, x2)] 1 6 K)) :
  tRun E 324 (0, [.inr (10, x0), .inl (0, x1), .inr (30, x2), tu], [], 0, 0, d) K := tT_run (cut := [0, 7]) 5 _ h
theorem t_324_7 {E : mO × tW} {K : tK} {d : mD} {x0 x1 x2 y0 y1 y2 : Int}
  (h : mInR y2 ∧ (0 ≤ y1 ∧ y1 < 1) ∧ K (.inl (some (0, 0))) (mset d y0 y1 y2)) :
  tRun E 324 (7, [.inr (10, x0), .inl (0, x1), .inr (30, x2), tu], [.inl (0, y2), .inl (0, y1), .inr (30, y0)], 1, 6, d) K := tT_run (cut := [0, 7]) 5 _ h
theorem t_325_0 {E : mO × tW} {K : tK} {d : mD} {x0 x1 x2 : Int}
  (h : tCall E 149 [.inr (10, x0), .inl (0, x1)] d (tbk E 325 4 [.inr (10, x0), .inl (0, x1), .inr (30, x2), tu] [.inl (0, 0), .inr (30, x2)] 1 6 K)) :
  tRun E 325 (0, [.inr (10, x0), .inl (0, x1), .inr (30, x2), tu], [], 0, 0, d) K := tT_run (cut := [0, 7]) 5 _ h
theorem t_325_7 {E : mO × tW} {K : tK} {d : mD} {x0 x1 x2 y0 y1 y2 : Int}
  (h : mInR y2 ∧ (0 ≤ y1 ∧ y1 < 1) ∧ K (.inl (some (0, 0))) (mset d y0 y1 y2)) :
  tRun E 325 (7, [.inr (10, x0), .inl (0, x1), .inr (30, x2), tu], [.inl (0, y2), .inl (0, y1), .inr (30, y0)], 1, 6, d) K := tT_run (cut := [0, 7]) 5 _ h
theorem t_326_0 {E : mO × tW} {K : tK} {d : mD} {x0 x1 x2 x3 : Int}
  (h : tCall E 150 [.inr (10, x0), .inl (0, x1), .inl (0, x2)] d (tbk E 326 5 [.inr (10, x0), .inl (0, x1), .inl (0, x2), .inr (30, x3), tu] [.inl (0, 0), .inr (30, x3)] 3 18 K)) :
  tRun E 326 (0, [.inr (10, x0), .inl (0, x1), .inl (0, x2), .inr (30, x3), tu], [], 0, 0, d) K := tT_run (cut := [0, 8]) 6 _ h
theorem t_326_8 {E : mO × tW} {K : tK} {d : mD} {x0 x1 x2 x3 y0 y1 y2 : Int}
  (h : mInR y2 ∧ (0 ≤ y1 ∧ y1 < 1) ∧ K (.inl (some (0, 0))) (mset d y0 y1 y2)) :
  tRun E 326 (8, [.inr (10, x0), .inl (0, x1), .inl (0, x2), .inr (30, x3), tu], [.inl (0, y2), .inl (0, y1), .inr (30, y0)], 3, 18, d) K := tT_run (cut := [0, 8]) 5 _ h
theorem t_327_0 {E : mO × tW} {K : tK} {d : mD} {x0 x1 x2 : Int}
  (h : tCall E 151 [.inr (10, x0), .inl (0, x1)] d (tbk E 327 4 [.inr (10, x0), .inl (0, x1), .inr (30, x2), tu] [.inl (0, 0), .inr (30, x2)] 2 12 K)) :
  tRun E 327 (0, [.inr (10, x0), .inl (0, x1), .inr (30, x2), tu], [], 0, 0, d) K := tT_run (cut := [0, 7]) 5 _ h
theorem t_327_7 {E : mO × tW} {K : tK} {d : mD} {x0 x1 x2 y0 y1 y2 : Int}
  (h : mInR y2 ∧ (0 ≤ y1 ∧ y1 < 1) ∧ K (.inl (some (0, 0))) (mset d y0 y1 y2)) :
  tRun E 327 (7, [.inr (10, x0), .inl (0, x1), .inr (30, x2), tu], [.inl (0, y2), .inl (0, y1), .inr (30, y0)], 2, 12, d) K := tT_run (cut := [0, 7]) 5 _ h
theorem t_328_0 {E : mO × tW} {K : tK} {d : mD} {x0 x1 x2 : Int}
  (h : tCall E 152 [.inr (10, x0), .inl (0, x1)] d (tbk E 328 4 [.inr (10, x0), .inl (0, x1), .inr (30, x2), tu] [.inl (0, 0), .inr (30, x2)] 1 6 K)) :
  tRun E 328 (0, [.inr (10, x0), .inl (0, x1), .inr (30, x2), tu], [], 0, 0, d) K := tT_run (cut := [0, 7]) 5 _ h
theorem t_328_7 {E : mO × tW} {K : tK} {d : mD} {x0 x1 x2 y0 y1 y2 : Int}
  (h : mInR y2 ∧ (0 ≤ y1 ∧ y1 < 1) ∧ K (.inl (some (0, 0))) (mset d y0 y1 y2)) :
  tRun E 328 (7, [.inr (10, x0), .inl (0, x1), .inr (30, x2), tu], [.inl (0, y2), .inl (0, y1), .inr (30, y0)], 1, 6, d) K := tT_run (cut := [0, 7]) 5 _ h
theorem t_329_0 {E : mO × tW} {K : tK} {d : mD} {x0 x1 x2 : Int}
  (h : tCall E 153 [.inr (10, x0), .inl (0, x1)] d (tbk E 329 4 [.inr (10, x0), .inl (0, x1), .inr (30, x2), tu] [.inl (0, 0), .inr (30, x2)] 2 12 K)) :
  tRun E 329 (0, [.inr (10, x0), .inl (0, x1), .inr (30, x2), tu], [], 0, 0, d) K := tT_run (cut := [0, 7]) 5 _ h
theorem t_329_7 {E : mO × tW} {K : tK} {d : mD} {x0 x1 x2 y0 y1 y2 : Int}
  (h : mInR y2 ∧ (0 ≤ y1 ∧ y1 < 1) ∧ K (.inl (some (0, 0))) (mset d y0 y1 y2)) :
  tRun E 329 (7, [.inr (10, x0), .inl (0, x1), .inr (30, x2), tu], [.inl (0, y2), .inl (0, y1), .inr (30, y0)], 2, 12, d) K := tT_run (cut := [0, 7]) 5 _ h
theorem t_330_0 {E : mO × tW} {K : tK} {d : mD} {x0 x1 x2 x3 : Int}
  (h : tCall E 154 [.inr (10, x0), .inl (0, x1), .inl (0, x2)] d (tbk E 330 5 [.inr (10, x0), .inl (0, x1), .inl (0, x2), .inr (30, x3), tu] [.inl (0, 0), .inr (30, x3)] 3 18 K)) :
  tRun E 330 (0, [.inr (10, x0), .inl (0, x1), .inl (0, x2), .inr (30, x3), tu], [], 0, 0, d) K := tT_run (cut := [0, 8]) 6 _ h
theorem t_330_8 {E : mO × tW} {K : tK} {d : mD} {x0 x1 x2 x3 y0 y1 y2 : Int}
  (h : mInR y2 ∧ (0 ≤ y1 ∧ y1 < 1) ∧ K (.inl (some (0, 0))) (mset d y0 y1 y2)) :
  tRun E 330 (8, [.inr (10, x0), .inl (0, x1), .inl (0, x2), .inr (30, x3), tu], [.inl (0, y2), .inl (0, y1), .inr (30, y0)], 3, 18, d) K := tT_run (cut := [0, 8]) 5 _ h
theorem t_331_0 {E : mO × tW} {K : tK} {d : mD} {x0 x1 x2 x3 x4 : Int}
  (h : tCall E 155 [.inr (10, x0), .inl (0, x1), .inl (0, x2), .inl (0, x3)] d (tbk E 331 7 [.inr (10, x0), .inl (0, x1), .inl (0, x2), .inl (0, x3), .inr (30, x4), tu] [.inl (0, 0), .inr (30, x4)] 4 24 K)) :
  tRun E 331 (0, [.inr (10, x0), .inl (0, x1), .inl (0, x2), .inl (0, x3), .inr (30, x4), tu], [], 0, 0, d) K := tT_run (cut := [0, 10]) 7 _ h
theorem t_331_10 {E : mO × tW} {K : tK} {d : mD} {x0 x1 x2 x3 x4 y0 y1 y2 : Int}
  (h : mInR y2 ∧ (0 ≤ y1 ∧ y1 < 1) ∧ K (.inl (some (0, 0))) (mset d y0 y1 y2)) :
  tRun E 331 (10, [.inr (10, x0), .inl (0, x1), .inl (0, x2), .inl (0, x3), .inr (30, x4), tu], [.inl (0, y2), .inl (0, y1), .inr (30, y0)], 4, 24, d) K := tT_run (cut := [0, 10]) 5 _ h
theorem t_332_0 {E : mO × tW} {K : tK} {d : mD} {x0 x1 x2 x3 : Int}
  (h : tCall E 156 [.inr (10, x0), .inl (0, x1), .inl (0, x2)] d (tbk E 332 5 [.inr (10, x0), .inl (0, x1), .inl (0, x2), .inr (30, x3), tu] [.inl (0, 0), .inr (30, x3)] 3 18 K)) :
  tRun E 332 (0, [.inr (10, x0), .inl (0, x1), .inl (0, x2), .inr (30, x3), tu], [], 0, 0, d) K := tT_run (cut := [0, 8]) 6 _ h
theorem t_332_8 {E : mO × tW} {K : tK} {d : mD} {x0 x1 x2 x3 y0 y1 y2 : Int}
  (h : mInR y2 ∧ (0 ≤ y1 ∧ y1 < 1) ∧ K (.inl (some (0, 0))) (mset d y0 y1 y2)) :
  tRun E 332 (8, [.inr (10, x0), .inl (0, x1), .inl (0, x2), .inr (30, x3), tu], [.inl (0, y2), .inl (0, y1), .inr (30, y0)], 3, 18, d) K := tT_run (cut := [0, 8]) 5 _ h
theorem t_333_0 {E : mO × tW} {K : tK} {d : mD} {x0 x1 x2 : Int}
  (h : tCall E 157 [.inr (10, x0), .inl (0, x1)] d (tbk E 333 4 [.inr (10, x0), .inl (0, x1), .inr (30, x2), tu] [.inl (0, 0), .inr (30, x2)] 1 6 K)) :
  tRun E 333 (0, [.inr (10, x0), .inl (0, x1), .inr (30, x2), tu], [], 0, 0, d) K := tT_run (cut := [0, 7]) 5 _ h
theorem t_333_7 {E : mO × tW} {K : tK} {d : mD} {x0 x1 x2 y0 y1 y2 : Int}
  (h : mInR y2 ∧ (0 ≤ y1 ∧ y1 < 1) ∧ K (.inl (some (0, 0))) (mset d y0 y1 y2)) :
  tRun E 333 (7, [.inr (10, x0), .inl (0, x1), .inr (30, x2), tu], [.inl (0, y2), .inl (0, y1), .inr (30, y0)], 1, 6, d) K := tT_run (cut := [0, 7]) 5 _ h
theorem t_334_0 {E : mO × tW} {K : tK} {d : mD} {x0 x1 x2 x3 : Int}
  (h : tCall E 158 [.inr (10, x0), .inl (0, x1), .inl (0, x2)] d (tbk E 334 5 [.inr (10, x0), .inl (0, x1), .inl (0, x2), .inr (30, x3), tu] [.inl (0, 0), .inr (30, x3)] 3 18 K)) :
  tRun E 334 (0, [.inr (10, x0), .inl (0, x1), .inl (0, x2), .inr (30, x3), tu], [], 0, 0, d) K := tT_run (cut := [0, 8]) 6 _ h
theorem t_334_8 {E : mO × tW} {K : tK} {d : mD} {x0 x1 x2 x3 y0 y1 y2 : Int}
  (h : mInR y2 ∧ (0 ≤ y1 ∧ y1 < 1) ∧ K (.inl (some (0, 0))) (mset d y0 y1 y2)) :
  tRun E 334 (8, [.inr (10, x0), .inl (0, x1), .inl (0, x2), .inr (30, x3), tu], [.inl (0, y2), .inl (0, y1), .inr (30, y0)], 3, 18, d) K := tT_run (cut := [0, 8]) 5 _ h
theorem t_335_0 {E : mO × tW} {K : tK} {d : mD} {x0 x1 x2 : Int}
  (h : tCall E 159 [.inr (10, x0), .inl (0, x1)] d (tbk E 335 4 [.inr (10, x0), .inl (0, x1), .inr (30, x2), tu] [.inl (0, 0), .inr (30, x2)] 2 12 K)) :
  tRun E 335 (0, [.inr (10, x0), .inl (0, x1), .inr (30, x2), tu], [], 0, 0, d) K := tT_run (cut := [0, 7]) 5 _ h
theorem t_335_7 {E : mO × tW} {K : tK} {d : mD} {x0 x1 x2 y0 y1 y2 : Int}
  (h : mInR y2 ∧ (0 ≤ y1 ∧ y1 < 1) ∧ K (.inl (some (0, 0))) (mset d y0 y1 y2)) :
  tRun E 335 (7, [.inr (10, x0), .inl (0, x1), .inr (30, x2), tu], [.inl (0, y2), .inl (0, y1), .inr (30, y0)], 2, 12, d) K := tT_run (cut := [0, 7]) 5 _ h
theorem t_336_0 {E : mO × tW} {K : tK} {d : mD} {x0 x1 : Int}
  (h : tCall E 160 [.inr (10, x0)] d (tbk E 336 3 [.inr (10, x0), .inr (30, x1), tu] [.inl (0, 0), .inr (30, x1)] 1 6 K)) :
  tRun E 336 (0, [.inr (10, x0), .inr (30, x1), tu], [], 0, 0, d) K := tT_run (cut := [0, 6]) 4 _ h
theorem t_336_6 {E : mO × tW} {K : tK} {d : mD} {x0 x1 y0 y1 y2 : Int}
  (h : mInR y2 ∧ (0 ≤ y1 ∧ y1 < 1) ∧ K (.inl (some (0, 0))) (mset d y0 y1 y2)) :
  tRun E 336 (6, [.inr (10, x0), .inr (30, x1), tu], [.inl (0, y2), .inl (0, y1), .inr (30, y0)], 1, 6, d) K := tT_run (cut := [0, 6]) 5 _ h
theorem t_337_0 {E : mO × tW} {K : tK} {d : mD} {x0 x1 x2 x3 : Int}
  (h : tCall E 161 [.inr (10, x0), .inl (0, x1), .inl (0, x2)] d (tbk E 337 5 [.inr (10, x0), .inl (0, x1), .inl (0, x2), .inr (30, x3), tu] [.inl (0, 0), .inr (30, x3)] 2 12 K)) :
  tRun E 337 (0, [.inr (10, x0), .inl (0, x1), .inl (0, x2), .inr (30, x3), tu], [], 0, 0, d) K := tT_run (cut := [0, 8]) 6 _ h
theorem t_337_8 {E : mO × tW} {K : tK} {d : mD} {x0 x1 x2 x3 y0 y1 y2 : Int}
  (h : mInR y2 ∧ (0 ≤ y1 ∧ y1 < 1) ∧ K (.inl (some (0, 0))) (mset d y0 y1 y2)) :
  tRun E 337 (8, [.inr (10, x0), .inl (0, x1), .inl (0, x2), .inr (30, x3), tu], [.inl (0, y2), .inl (0, y1), .inr (30, y0)], 2, 12, d) K := tT_run (cut := [0, 8]) 5 _ h
theorem t_338_0 {E : mO × tW} {K : tK} {d : mD} {x0 x1 : Int}
  (h : tCall E 162 [.inr (10, x0)] d (tbk E 338 3 [.inr (10, x0), .inr (30, x1), tu] [.inl (0, 0), .inr (30, x1)] 1 6 K)) :
  tRun E 338 (0, [.inr (10, x0), .inr (30, x1), tu], [], 0, 0, d) K := tT_run (cut := [0, 6]) 4 _ h
theorem t_338_6 {E : mO × tW} {K : tK} {d : mD} {x0 x1 y0 y1 y2 : Int}
  (h : mInR y2 ∧ (0 ≤ y1 ∧ y1 < 1) ∧ K (.inl (some (0, 0))) (mset d y0 y1 y2)) :
  tRun E 338 (6, [.inr (10, x0), .inr (30, x1), tu], [.inl (0, y2), .inl (0, y1), .inr (30, y0)], 1, 6, d) K := tT_run (cut := [0, 6]) 5 _ h
theorem t_339_0 {E : mO × tW} {K : tK} {d : mD} {x0 x1 : Int}
  (h : tCall E 163 [.inr (10, x0), .inl (0, x1)] d (tbk E 339 2 [.inr (10, x0), .inl (0, x1), tu] [] 1 6 K)) :
  tRun E 339 (0, [.inr (10, x0), .inl (0, x1), tu], [], 0, 0, d) K := tT_run (cut := [0, 5]) 3 _ h
theorem t_339_5 {E : mO × tW} {K : tK} {d : mD} {x0 x1 : Int}
  (h : K (.inl (some (0, 0))) d) :
  tRun E 339 (5, [.inr (10, x0), .inl (0, x1), tu], [], 1, 6, d) K := tT_run (cut := [0, 5]) 3 _ h
theorem t_340_0 {E : mO × tW} {K : tK} {d : mD} {x0 x1 : Int}
  (h : tCall E 164 [.inr (10, x0), .inl (0, x1)] d (tbk E 340 2 [.inr (10, x0), .inl (0, x1), tu] [] 2 12 K)) :
  tRun E 340 (0, [.inr (10, x0), .inl (0, x1), tu], [], 0, 0, d) K := tT_run (cut := [0, 5]) 3 _ h
theorem t_340_5 {E : mO × tW} {K : tK} {d : mD} {x0 x1 : Int}
  (h : K (.inl (some (0, 0))) d) :
  tRun E 340 (5, [.inr (10, x0), .inl (0, x1), tu], [], 2, 12, d) K := tT_run (cut := [0, 5]) 3 _ h
