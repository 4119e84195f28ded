/-! ===== pieces of the methods between cuts: printed by a program of mine ===== -/
theorem t_290_0 {E : mO × tW} {K : tK} {d : mD} {x0 : Int}
  (h : tCall E 210 [.inr (11, x0)] d (tbk E 290 1 [.inr (11, x0), tu] [] 0 0 K)) :
  tRun E 290 (0, [.inr (11, x0), tu], [], 0, 0, d) K := tT_run (cut := [0, 4, 31, 56, 61]) 2 _ h
theorem t_290_4 {E : mO × tW} {K : tK} {d : mD} {x0 y0 : Int}
  (h : mInR y0 ∧ (¬ y0 = 0 → (0 ≤ (8 : Int) ∧ (8 : Int) < 3116) ∧ (mInR (d (x0 + 1) 8) ∧ mInR 16) ∧ (d (x0 + 1) 8 = 16 → mInR ((mset d x0 0 2) x0 0) ∧ ((mset d x0 0 2) x0 0 ≤ 0 → tCall E 278 [.inr (11, x0)] (mset d x0 0 2) (tbk E 290 53 [.inr (11, x0), .inl (0, y0)] [] 0 0 K)) ∧ (0 < (mset d x0 0 2) x0 0 → K (.inl (some (0, 0))) (mset d x0 0 2))) ∧ (¬ d (x0 + 1) 8 = 16 → tCall E 183 [.inr (11, x0), .inl (0, y0)] d (tbk E 290 28 [.inr (11, x0), .inl (0, y0)] [.inr (11, x0)] 0 0 K))) ∧ (y0 = 0 → mInR ((mset d x0 0 1) x0 0) ∧ ((mset d x0 0 1) x0 0 ≤ 0 → tCall E 278 [.inr (11, x0)] (mset d x0 0 1) (tbk E 290 53 [.inr (11, x0), .inl (0, y0)] [] 0 0 K)) ∧ (0 < (mset d x0 0 1) x0 0 → K (.inl (some (0, 0))) (mset d x0 0 1)))) :
  tRun E 290 (4, [.inr (11, x0), tu], [.inl (0, y0)], 0, 0, d) K := tT_run (cut := [0, 4, 31, 56, 61]) 18 _ h
theorem t_290_31 {E : mO × tW} {K : tK} {d : mD} {x0 x1 y0 y1 : Int}
  (h : (mInR y1 ∧ mInR ((-1))) ∧ (y1 = (-1) → mInR ((mset d y0 0 0) x0 0) ∧ ((mset d y0 0 0) x0 0 ≤ 0 → tCall E 278 [.inr (11, x0)] (mset d y0 0 0) (tbk E 290 53 [.inr (11, x0), .inl (0, x1)] [] 0 0 K)) ∧ (0 < (mset d y0 0 0) x0 0 → K (.inl (some (0, 0))) (mset d y0 0 0))) ∧ (¬ y1 = (-1) → mInR ((mset d y0 0 2) x0 0) ∧ ((mset d y0 0 2) x0 0 ≤ 0 → tCall E 278 [.inr (11, x0)] (mset d y0 0 2) (tbk E 290 53 [.inr (11, x0), .inl (0, x1)] [] 0 0 K)) ∧ (0 < (mset d y0 0 2) x0 0 → K (.inl (some (0, 0))) (mset d y0 0 2)))) :
  tRun E 290 (31, [.inr (11, x0), .inl (0, x1)], [.inl (0, y1), .inr (11, y0)], 0, 0, d) K := tT_run (cut := [0, 4, 31, 56, 61]) 10 _ h
theorem t_290_56 {E : mO × tW} {K : tK} {d : mD} {x0 x1 : Int}
  (h : tCall E 182 [.inr (11, x0), .inl (0, x1)] d (tbk E 290 58 [.inr (11, x0), .inl (0, x1)] [] 0 0 K)) :
  tRun E 290 (56, [.inr (11, x0), .inl (0, x1)], [], 0, 0, d) K := tT_run (cut := [0, 4, 31, 56, 61]) 3 _ h
theorem t_290_61 {E : mO × tW} {K : tK} {d : mD} {x0 x1 : Int}
  (h : (0 ≤ (8 : Int) ∧ (8 : Int) < 3116) ∧ K (.inl (some (0, (d (x0 + 1) 8) - 1))) d) :
  tRun E 290 (61, [.inr (11, x0), .inl (0, x1)], [], 0, 0, d) K := tT_run (cut := [0, 4, 31, 56, 61]) 7 _ h
theorem t_291_0 {E : mO × tW} {K : tK} {d : mD} {x0 : Int}
  (h : (mInR x0 ∧ mInR 2) ∧ (2 ≤ x0 → K (.inl (some (0, 1))) d) ∧ (x0 < 2 → K (.inl (some (0, 0))) d)) :
  tRun E 291 (0, [.inl (0, x0)], [], 0, 0, d) K := tT_run (cut := [0]) 6 _ h
theorem t_292_0 {E : mO × tW} {K : tK} {d : mD} {x0 : Int}
  (h : (mInR x0 ∧ mInR 1) ∧ (¬ x0 = 1 → (mInR x0 ∧ mInR 3) ∧ (¬ x0 = 3 → (mInR x0 ∧ mInR 4) ∧ (¬ x0 = 4 → K (.inl (some (0, 9))) d) ∧ (x0 = 4 → K (.inl (some (0, 99))) d)) ∧ (x0 = 3 → K (.inl (some (0, 20))) d)) ∧ (x0 = 1 → K (.inl (some (0, 3))) d)) :
  tRun E 292 (0, [.inl (0, x0)], [], 0, 0, d) K := tT_run (cut := [0]) 12 _ h
theorem t_293_0 {E : mO × tW} {K : tK} {d : mD} {x0 x1 x2 : Int}
  (h : mInR x1 ∧ tCall E 176 [.inl (1, x1), .inl (1, 0), .inl (1, 4)] d (tbk E 293 7 [.inr (11, x0), .inl (0, x1), .inl (0, x2), tu] [.inr (11, x0)] 0 0 K)) :
  tRun E 293 (0, [.inr (11, x0), .inl (0, x1), .inl (0, x2), tu], [], 0, 0, d) K := tT_run (cut := [0, 10, 19, 24, 28, 52]) 6 _ h
theorem t_293_10 {E : mO × tW} {K : tK} {d : mD} {x0 x1 x2 y0 y1 : Int}
  (h : mInR y1 ∧ (y1 = 0 → mInR ((mset d y0 0 1) x0 0) ∧ ((mset d y0 0 1) x0 0 ≤ 0 → tCall E 278 [.inr (11, x0)] (mset d y0 0 1) (tbk E 293 49 [.inr (11, x0), .inl (0, x1), .inl (0, x2), tu] [] 0 0 K)) ∧ (0 < (mset d y0 0 1) x0 0 → K (.inl (some (0, 0))) (mset d y0 0 1))) ∧ (¬ y1 = 0 → mInR x2 ∧ tCall E 291 [.inl (0, x1)] d (tbk E 293 16 [.inr (11, x0), .inl (0, x1), .inl (0, x2), tu] [.inl (1, x2), .inr (11, y0)] 0 0 K))) :
  tRun E 293 (10, [.inr (11, x0), .inl (0, x1), .inl (0, x2), tu], [.inl (0, y1), .inr (11, y0)], 0, 0, d) K := tT_run (cut := [0, 10, 19, 24, 28, 52]) 8 _ h
theorem t_293_19 {E : mO × tW} {K : tK} {d : mD} {x0 x1 x2 y0 y1 y2 : Int}
  (h : mInR y2 ∧ tCall E 292 [.inl (0, x1)] d (tbk E 293 21 [.inr (11, x0), .inl (0, x1), .inl (0, x2), tu] [.inl (1, y2), .inl (1, y1), .inr (11, y0)] 0 0 K)) :
  tRun E 293 (19, [.inr (11, x0), .inl (0, x1), .inl (0, x2), tu], [.inl (0, y2), .inl (1, y1), .inr (11, y0)], 0, 0, d) K := tT_run (cut := [0, 10, 19, 24, 28, 52]) 3 _ h
theorem t_293_24 {E : mO × tW} {K : tK} {d : mD} {x0 x1 x2 y0 y1 y2 y3 : Int}
  (h : mInR y3 ∧ tCall E 176 [.inl (1, y1), .inl (1, y2), .inl (1, y3)] d (tbk E 293 25 [.inr (11, x0), .inl (0, x1), .inl (0, x2), tu] [.inr (11, y0)] 0 0 K)) :
  tRun E 293 (24, [.inr (11, x0), .inl (0, x1), .inl (0, x2), tu], [.inl (0, y3), .inl (1, y2), .inl (1, y1), .inr (11, y0)], 0, 0, d) K := tT_run (cut := [0, 10, 19, 24, 28, 52]) 2 _ h
theorem t_293_28 {E : mO × tW} {K : tK} {d : mD} {x0 x1 x2 y0 y1 : Int}
  (h : mInR y1 ∧ (y1 = 0 → mInR ((mset d y0 0 1) x0 0) ∧ ((mset d y0 0 1) x0 0 ≤ 0 → tCall E 278 [.inr (11, x0)] (mset d y0 0 1) (tbk E 293 49 [.inr (11, x0), .inl (0, x1), .inl (0, x2), tu] [] 0 0 K)) ∧ (0 < (mset d y0 0 1) x0 0 → K (.inl (some (0, 0))) (mset d y0 0 1))) ∧ (¬ y1 = 0 → mInR ((mset d y0 0 0) x0 0) ∧ ((mset d y0 0 0) x0 0 ≤ 0 → tCall E 278 [.inr (11, x0)] (mset d y0 0 0) (tbk E 293 49 [.inr (11, x0), .inl (0, x1), .inl (0, x2), tu] [] 0 0 K)) ∧ (0 < (mset d y0 0 0) x0 0 → K (.inl (some (0, 0))) (mset d y0 0 0)))) :
  tRun E 293 (28, [.inr (11, x0), .inl (0, x1), .inl (0, x2), tu], [.inl (0, y1), .inr (11, y0)], 0, 0, d) K := tT_run (cut := [0, 10, 19, 24, 28, 52]) 9 _ h
theorem t_293_52 {E : mO × tW} {K : tK} {d : mD} {x0 x1 x2 : Int}
  (h : (0 ≤ 2 + x1 ∧ 2 + x1 < 3116) ∧ (0 ≤ 2 + x1 ∧ 2 + x1 < 3116) ∧ K (.inl (some (0, d (x0 + 1) (2 + x1)))) (mset d (x0 + 1) (2 + x1) x2)) :
  tRun E 293 (52, [.inr (11, x0), .inl (0, x1), .inl (0, x2), tu], [], 0, 0, d) K := tT_run (cut := [0, 10, 19, 24, 28, 52]) 16 _ h
theorem t_294_0 {E : mO × tW} {K : tK} {d : mD} {x0 : Int}
  (h : mInR (d x0 7) ∧ (d x0 7 ≤ 0 → mInR ((mset d x0 0 1) x0 0) ∧ ((mset d x0 0 1) x0 0 ≤ 0 → tRun E 294 (37, [.inr (11, x0), .inl (0, 0)], [], 0, 0, mset (mset d x0 0 1) x0 7 (((mset d x0 0 1) x0 7) - 1)) K) ∧ (0 < (mset d x0 0 1) x0 0 → K (.inl (some (0, 0))) (mset d x0 0 1))) ∧ (0 < d x0 7 → mInR ((mset d x0 0 0) x0 0) ∧ ((mset d x0 0 0) x0 0 ≤ 0 → tRun E 294 (37, [.inr (11, x0), .inl (0, 0)], [], 0, 0, mset (mset d x0 0 0) x0 7 (((mset d x0 0 0) x0 7) - 1)) K) ∧ (0 < (mset d x0 0 0) x0 0 → K (.inl (some (0, 0))) (mset d x0 0 0)))) :
  tRun E 294 (0, [.inr (11, x0), tu], [], 0, 0, d) K := tT_run (cut := [0, 37]) 18 _ h
theorem t_294_37 {E : mO × tW} {K : tK} {d : mD} {x0 x1 : Int}
  (h : (mInR x1 ∧ mInR 3116) ∧ (3116 ≤ x1 → K (.inl (some (0, d x0 7))) d) ∧ (x1 < 3116 → (0 ≤ (3116 * (d x0 7)) + x1 ∧ (3116 * (d x0 7)) + x1 < 24928) ∧ (0 ≤ x1 ∧ x1 < 3116) ∧ tRun E 294 (37, [.inr (11, x0), .inl (0, x1 + 1)], [], 0, 0, mset d (x0 + 1) x1 (d (x0 + 2) ((3116 * (d x0 7)) + x1))) K)) :
  tRun E 294 (37, [.inr (11, x0), .inl (0, x1)], [], 0, 0, d) K := tT_run (cut := [0, 37]) 18 _ h
theorem t_295_0 {E : mO × tW} {K : tK} {d : mD} {x0 x1 : Int}
  (h : mInR x1 ∧ tCall E 176 [.inl (1, x1), .inl (1, 0), .inl (1, 1)] d (tbk E 295 5 [.inr (11, x0), .inl (0, x1), tu] [.inr (11, x0)] 0 0 K)) :
  tRun E 295 (0, [.inr (11, x0), .inl (0, x1), tu], [], 0, 0, d) K := tT_run (cut := [0, 8, 29]) 6 _ h
theorem t_295_8 {E : mO × tW} {K : tK} {d : mD} {x0 x1 y0 y1 : Int}
  (h : mInR y1 ∧ (y1 = 0 → mInR ((mset d y0 0 1) x0 0) ∧ ((mset d y0 0 1) x0 0 ≤ 0 → tRun E 295 (29, [.inr (11, x0), .inl (0, x1), .inl (0, 0)], [], 0, 0, mset d y0 0 1) K) ∧ (0 < (mset d y0 0 1) x0 0 → K (.inl none) (mset d y0 0 1))) ∧ (¬ y1 = 0 → mInR ((mset d y0 0 0) x0 0) ∧ ((mset d y0 0 0) x0 0 ≤ 0 → tRun E 295 (29, [.inr (11, x0), .inl (0, x1), .inl (0, 0)], [], 0, 0, mset d y0 0 0) K) ∧ (0 < (mset d y0 0 0) x0 0 → K (.inl none) (mset d y0 0 0)))) :
  tRun E 295 (8, [.inr (11, x0), .inl (0, x1), tu], [.inl (0, y1), .inr (11, y0)], 0, 0, d) K := tT_run (cut := [0, 8, 29]) 9 _ h
theorem t_295_29 {E : mO × tW} {K : tK} {d : mD} {x0 x1 x2 : Int}
  (h : (mInR x2 ∧ mInR 3116) ∧ (3116 ≤ x2 → (((1 : Int) = 0 ∨ (1 : Int) = 1) ∧ 0 ≤ x1 ∧ x1 < 2) ∧ K (.inl none) (mset d (x0 + 6) x1 1)) ∧ (x2 < 3116 → (0 ≤ x2 ∧ x2 < 3116) ∧ (0 ≤ (3116 * x1) + x2 ∧ (3116 * x1) + x2 < 6232) ∧ tRun E 295 (29, [.inr (11, x0), .inl (0, x1), .inl (0, x2 + 1)], [], 0, 0, mset d (x0 + 3) ((3116 * x1) + x2) (d (x0 + 1) x2)) K)) :
  tRun E 295 (29, [.inr (11, x0), .inl (0, x1), .inl (0, x2)], [], 0, 0, d) K := tT_run (cut := [0, 8, 29]) 17 _ h
theorem t_296_0 {E : mO × tW} {K : tK} {d : mD} {x0 x1 : Int}
  (h : mInR x1 ∧ tCall E 176 [.inl (1, x1), .inl (1, 0), .inl (1, 1)] d (tbk E 296 5 [.inr (11, x0), .inl (0, x1), tu] [.inr (11, x0)] 0 0 K)) :
  tRun E 296 (0, [.inr (11, x0), .inl (0, x1), tu], [], 0, 0, d) K := tT_run (cut := [0, 8, 42]) 6 _ h
theorem t_296_8 {E : mO × tW} {K : tK} {d : mD} {x0 x1 y0 y1 : Int}
  (h : mInR y1 ∧ (¬ y1 = 0 → (0 ≤ x1 ∧ x1 < 2) ∧ mInR (d (x0 + 6) x1) ∧ (d (x0 + 6) x1 = 0 → mInR ((mset d y0 0 2) x0 0) ∧ ((mset d y0 0 2) x0 0 ≤ 0 → tRun E 296 (42, [.inr (11, x0), .inl (0, x1), .inl (0, 0)], [], 0, 0, mset d y0 0 2) K) ∧ (0 < (mset d y0 0 2) x0 0 → K (.inl none) (mset d y0 0 2))) ∧ (¬ d (x0 + 6) x1 = 0 → mInR ((mset d y0 0 0) x0 0) ∧ ((mset d y0 0 0) x0 0 ≤ 0 → tRun E 296 (42, [.inr (11, x0), .inl (0, x1), .inl (0, 0)], [], 0, 0, mset d y0 0 0) K) ∧ (0 < (mset d y0 0 0) x0 0 → K (.inl none) (mset d y0 0 0)))) ∧ (y1 = 0 → mInR ((mset d y0 0 1) x0 0) ∧ ((mset d y0 0 1) x0 0 ≤ 0 → tRun E 296 (42, [.inr (11, x0), .inl (0, x1), .inl (0, 0)], [], 0, 0, mset d y0 0 1) K) ∧ (0 < (mset d y0 0 1) x0 0 → K (.inl none) (mset d y0 0 1)))) :
  tRun E 296 (8, [.inr (11, x0), .inl (0, x1), tu], [.inl (0, y1), .inr (11, y0)], 0, 0, d) K := tT_run (cut := [0, 8, 42]) 14 _ h
theorem t_296_42 {E : mO × tW} {K : tK} {d : mD} {x0 x1 x2 : Int}
  (h : (mInR x2 ∧ mInR 3116) ∧ (3116 ≤ x2 → K (.inl none) (mset d x0 7 0)) ∧ (x2 < 3116 → (0 ≤ (3116 * x1) + x2 ∧ (3116 * x1) + x2 < 6232) ∧ (0 ≤ x2 ∧ x2 < 3116) ∧ tRun E 296 (42, [.inr (11, x0), .inl (0, x1), .inl (0, x2 + 1)], [], 0, 0, mset d (x0 + 1) x2 (d (x0 + 3) ((3116 * x1) + x2))) K)) :
  tRun E 296 (42, [.inr (11, x0), .inl (0, x1), .inl (0, x2)], [], 0, 0, d) K := tT_run (cut := [0, 8, 42]) 17 _ h
theorem t_297_0 {E : mO × tW} {K : tK} {d : mD} {x0 : Int}
  (h : K (.inl (some (0, miand ((((mland (((mland (x0 - (mland (mlushr x0 1) 6148914691236517205)) 3689348814741910323) + (mland (mlushr (x0 - (mland (mlushr x0 1) 6148914691236517205)) 2) 3689348814741910323)) + (mlushr ((mland (x0 - (mland (mlushr x0 1) 6148914691236517205)) 3689348814741910323) + (mland (mlushr (x0 - (mland (mlushr x0 1) 6148914691236517205)) 2) 3689348814741910323)) 4)) 1085102592571150095) + (mlushr (mland (((mland (x0 - (mland (mlushr x0 1) 6148914691236517205)) 3689348814741910323) + (mland (mlushr (x0 - (mland (mlushr x0 1) 6148914691236517205)) 2) 3689348814741910323)) + (mlushr ((mland (x0 - (mland (mlushr x0 1) 6148914691236517205)) 3689348814741910323) + (mland (mlushr (x0 - (mland (mlushr x0 1) 6148914691236517205)) 2) 3689348814741910323)) 4)) 1085102592571150095) 8)) + (mlushr ((mland (((mland (x0 - (mland (mlushr x0 1) 6148914691236517205)) 3689348814741910323) + (mland (mlushr (x0 - (mland (mlushr x0 1) 6148914691236517205)) 2) 3689348814741910323)) + (mlushr ((mland (x0 - (mland (mlushr x0 1) 6148914691236517205)) 3689348814741910323) + (mland (mlushr (x0 - (mland (mlushr x0 1) 6148914691236517205)) 2) 3689348814741910323)) 4)) 1085102592571150095) + (mlushr (mland (((mland (x0 - (mland (mlushr x0 1) 6148914691236517205)) 3689348814741910323) + (mland (mlushr (x0 - (mland (mlushr x0 1) 6148914691236517205)) 2) 3689348814741910323)) + (mlushr ((mland (x0 - (mland (mlushr x0 1) 6148914691236517205)) 3689348814741910323) + (mland (mlushr (x0 - (mland (mlushr x0 1) 6148914691236517205)) 2) 3689348814741910323)) 4)) 1085102592571150095) 8)) 16)) + (mlushr (((mland (((mland (x0 - (mland (mlushr x0 1) 6148914691236517205)) 3689348814741910323) + (mland (mlushr (x0 - (mland (mlushr x0 1) 6148914691236517205)) 2) 3689348814741910323)) + (mlushr ((mland (x0 - (mland (mlushr x0 1) 6148914691236517205)) 3689348814741910323) + (mland (mlushr (x0 - (mland (mlushr x0 1) 6148914691236517205)) 2) 3689348814741910323)) 4)) 1085102592571150095) + (mlushr (mland (((mland (x0 - (mland (mlushr x0 1) 6148914691236517205)) 3689348814741910323) + (mland (mlushr (x0 - (mland (mlushr x0 1) 6148914691236517205)) 2) 3689348814741910323)) + (mlushr ((mland (x0 - (mland (mlushr x0 1) 6148914691236517205)) 3689348814741910323) + (mland (mlushr (x0 - (mland (mlushr x0 1) 6148914691236517205)) 2) 3689348814741910323)) 4)) 1085102592571150095) 8)) + (mlushr ((mland (((mland (x0 - (mland (mlushr x0 1) 6148914691236517205)) 3689348814741910323) + (mland (mlushr (x0 - (mland (mlushr x0 1) 6148914691236517205)) 2) 3689348814741910323)) + (mlushr ((mland (x0 - (mland (mlushr x0 1) 6148914691236517205)) 3689348814741910323) + (mland (mlushr (x0 - (mland (mlushr x0 1) 6148914691236517205)) 2) 3689348814741910323)) 4)) 1085102592571150095) + (mlushr (mland (((mland (x0 - (mland (mlushr x0 1) 6148914691236517205)) 3689348814741910323) + (mland (mlushr (x0 - (mland (mlushr x0 1) 6148914691236517205)) 2) 3689348814741910323)) + (mlushr ((mland (x0 - (mland (mlushr x0 1) 6148914691236517205)) 3689348814741910323) + (mland (mlushr (x0 - (mland (mlushr x0 1) 6148914691236517205)) 2) 3689348814741910323)) 4)) 1085102592571150095) 8)) 16)) 32)) 127))) d) :
  tRun E 297 (0, [.inl (1, x0), tu], [], 0, 0, d) K := tT_run (cut := [0]) 49 _ h
theorem t_298_0 {E : mO × tW} {K : tK} {d : mD} {x0 : Int}
  (h : K (.inl (some (0, miand (((miand (((miand (x0 - (miand (miushr x0 1) 1431655765)) 858993459) + (miand (miushr (x0 - (miand (miushr x0 1) 1431655765)) 2) 858993459)) + (miushr ((miand (x0 - (miand (miushr x0 1) 1431655765)) 858993459) + (miand (miushr (x0 - (miand (miushr x0 1) 1431655765)) 2) 858993459)) 4)) 252645135) + (miushr (miand (((miand (x0 - (miand (miushr x0 1) 1431655765)) 858993459) + (miand (miushr (x0 - (miand (miushr x0 1) 1431655765)) 2) 858993459)) + (miushr ((miand (x0 - (miand (miushr x0 1) 1431655765)) 858993459) + (miand (miushr (x0 - (miand (miushr x0 1) 1431655765)) 2) 858993459)) 4)) 252645135) 8)) + (miushr ((miand (((miand (x0 - (miand (miushr x0 1) 1431655765)) 858993459) + (miand (miushr (x0 - (miand (miushr x0 1) 1431655765)) 2) 858993459)) + (miushr ((miand (x0 - (miand (miushr x0 1) 1431655765)) 858993459) + (miand (miushr (x0 - (miand (miushr x0 1) 1431655765)) 2) 858993459)) 4)) 252645135) + (miushr (miand (((miand (x0 - (miand (miushr x0 1) 1431655765)) 858993459) + (miand (miushr (x0 - (miand (miushr x0 1) 1431655765)) 2) 858993459)) + (miushr ((miand (x0 - (miand (miushr x0 1) 1431655765)) 858993459) + (miand (miushr (x0 - (miand (miushr x0 1) 1431655765)) 2) 858993459)) 4)) 252645135) 8)) 16)) 63))) d) :
  tRun E 298 (0, [.inl (0, x0)], [], 0, 0, d) K := tT_run (cut := [0]) 42 _ h
theorem t_299_0 {E : mO × tW} {K : tK} {d : mD} {x0 x1 : Int}
  (h : tRun E 299 (5, [.inr (18, x0), .inl (0, x1), .inl (0, 0), .inl (0, 16)], [], 0, 0, d) K) :
  tRun E 299 (0, [.inr (18, x0), .inl (0, x1), tu, tu], [], 0, 0, d) K := tT_run (cut := [0, 5]) 5 _ h
theorem t_299_5 {E : mO × tW} {K : tK} {d : mD} {x0 x1 x2 x3 : Int}
  (h : (mInR x2 ∧ mInR x3) ∧ (x3 ≤ x2 → K (.inl none) d) ∧ (x2 < x3 → (0 ≤ x2 ∧ x2 < 16) ∧ tRun E 299 (5, [.inr (18, x0), .inl (0, x1), .inl (0, x2 + 1), .inl (0, x3)], [], 0, 0, mset d x0 x2 x1) K)) :
  tRun E 299 (5, [.inr (18, x0), .inl (0, x1), .inl (0, x2), .inl (0, x3)], [], 0, 0, d) K := tT_run (cut := [0, 5]) 9 _ h
theorem t_300_0 {E : mO × tW} {K : tK} {d : mD} {x0 x1 : Int}
  (h : tRun E 300 (6, [.inr (20, x0), .inl (1, x1), tu, .inl (0, 0), .inl (0, 16)], [], 0, 0, d) K) :
  tRun E 300 (0, [.inr (20, x0), .inl (1, x1), tu, tu, tu], [], 0, 0, d) K := tT_run (cut := [0, 6]) 5 _ h
theorem t_300_6 {E : mO × tW} {K : tK} {d : mD} {x0 x1 x3 x4 : Int}
  (h : (mInR x3 ∧ mInR x4) ∧ (x4 ≤ x3 → K (.inl none) d) ∧ (x3 < x4 → (0 ≤ x3 ∧ x3 < 16) ∧ tRun E 300 (6, [.inr (20, x0), .inl (1, x1), tu, .inl (0, x3 + 1), .inl (0, x4)], [], 0, 0, mset d x0 x3 x1) K)) :
  tRun E 300 (6, [.inr (20, x0), .inl (1, x1), tu, .inl (0, x3), .inl (0, x4)], [], 0, 0, d) K := tT_run (cut := [0, 6]) 9 _ h
theorem t_301_0 {E : mO × tW} {K : tK} {d : mD} {x0 x1 x2 x3 x4 x5 x6 : Int}
  (h : tCall E 118 [.inr (10, x0), .inl (0, x1), .inl (0, x2), .inl (0, x3), .inl (0, x4), .inl (0, x5)] d (tbk E 301 11 [.inr (10, x0), .inl (0, x1), .inl (0, x2), .inl (0, x3), .inl (0, x4), .inl (0, x5), .inr (30, x6), tu] [.inl (0, 0), .inr (30, x6)] 1 6 K)) :
  tRun E 301 (0, [.inr (10, x0), .inl (0, x1), .inl (0, x2), .inl (0, x3), .inl (0, x4), .inl (0, x5), .inr (30, x6), tu], [], 0, 0, d) K := tT_run (cut := [0, 14]) 9 _ h
theorem t_301_14 {E : mO × tW} {K : tK} {d : mD} {x0 x1 x2 x3 x4 x5 x6 y0 y1 y2 : Int}
  (h : mInR y2 ∧ (0 ≤ y1 ∧ y1 < 1) ∧ K (.inl (some (0, 0))) (mset d y0 y1 y2)) :
  tRun E 301 (14, [.inr (10, x0), .inl (0, x1), .inl (0, x2), .inl (0, x3), .inl (0, x4), .inl (0, x5), .inr (30, x6), tu], [.inl (0, y2), .inl (0, y1), .inr (30, y0)], 1, 6, d) K := tT_run (cut := [0, 14]) 5 _ h
theorem t_302_0 {E : mO × tW} {K : tK} {d : mD} {x0 x1 x2 : Int}
  (h : tCall E 119 [.inr (10, x0), .inl (0, x1)] d (tbk E 302 4 [.inr (10, x0), .inl (0, x1), .inr (30, x2), tu] [.inl (0, 0), .inr (30, x2)] 1 6 K)) :
  tRun E 302 (0, [.inr (10, x0), .inl (0, x1), .inr (30, x2), tu], [], 0, 0, d) K := tT_run (cut := [0, 7]) 5 _ h
theorem t_302_7 {E : mO × tW} {K : tK} {d : mD} {x0 x1 x2 y0 y1 y2 : Int}
  (h : mInR y2 ∧ (0 ≤ y1 ∧ y1 < 1) ∧ K (.inl (some (0, 0))) (mset d y0 y1 y2)) :
  tRun E 302 (7, [.inr (10, x0), .inl (0, x1), .inr (30, x2), tu], [.inl (0, y2), .inl (0, y1), .inr (30, y0)], 1, 6, d) K := tT_run (cut := [0, 7]) 5 _ h
theorem t_303_0 {E : mO × tW} {K : tK} {d : mD} {x0 x1 : Int}
  (h : tCall E 120 [.inr (10, x0)] d (tbk E 303 3 [.inr (10, x0), .inr (30, x1), tu] [.inl (0, 0), .inr (30, x1)] 1 6 K)) :
  tRun E 303 (0, [.inr (10, x0), .inr (30, x1), tu], [], 0, 0, d) K := tT_run (cut := [0, 6]) 4 _ h
theorem t_303_6 {E : mO × tW} {K : tK} {d : mD} {x0 x1 y0 y1 y2 : Int}
  (h : mInR y2 ∧ (0 ≤ y1 ∧ y1 < 1) ∧ K (.inl (some (0, 0))) (mset d y0 y1 y2)) :
  tRun E 303 (6, [.inr (10, x0), .inr (30, x1), tu], [.inl (0, y2), .inl (0, y1), .inr (30, y0)], 1, 6, d) K := tT_run (cut := [0, 6]) 5 _ h
theorem t_304_0 {E : mO × tW} {K : tK} {d : mD} {x0 x1 x2 : Int}
  (h : tCall E 123 [.inr (10, x0), .inl (0, x1)] d (tbk E 304 4 [.inr (10, x0), .inl (0, x1), .inr (30, x2), tu] [.inl (0, 0), .inr (30, x2)] 1 6 K)) :
  tRun E 304 (0, [.inr (10, x0), .inl (0, x1), .inr (30, x2), tu], [], 0, 0, d) K := tT_run (cut := [0, 7]) 5 _ h
theorem t_304_7 {E : mO × tW} {K : tK} {d : mD} {x0 x1 x2 y0 y1 y2 : Int}
  (h : mInR y2 ∧ (0 ≤ y1 ∧ y1 < 1) ∧ K (.inl (some (0, 0))) (mset d y0 y1 y2)) :
  tRun E 304 (7, [.inr (10, x0), .inl (0, x1), .inr (30, x2), tu], [.inl (0, y2), .inl (0, y1), .inr (30, y0)], 1, 6, d) K := tT_run (cut := [0, 7]) 5 _ h
theorem t_305_0 {E : mO × tW} {K : tK} {d : mD} {x0 x1 x2 : Int}
  (h : tCall E 124 [.inr (10, x0), .inl (0, x1)] d (tbk E 305 4 [.inr (10, x0), .inl (0, x1), .inr (30, x2), tu] [.inl (0, 0), .inr (30, x2)] 1 6 K)) :
  tRun E 305 (0, [.inr (10, x0), .inl (0, x1), .inr (30, x2), tu], [], 0, 0, d) K := tT_run (cut := [0, 7]) 5 _ h
theorem t_305_7 {E : mO × tW} {K : tK} {d : mD} {x0 x1 x2 y0 y1 y2 : Int}
  (h : mInR y2 ∧ (0 ≤ y1 ∧ y1 < 1) ∧ K (.inl (some (0, 0))) (mset d y0 y1 y2)) :
  tRun E 305 (7, [.inr (10, x0), .inl (0, x1), .inr (30, x2), tu], [.inl (0, y2), .inl (0, y1), .inr (30, y0)], 1, 6, d) K := tT_run (cut := [0, 7]) 5 _ h
theorem t_306_0 {E : mO × tW} {K : tK} {d : mD} {x0 x1 x2 : Int}
  (h : tCall E 125 [.inr (10, x0), .inl (0, x1)] d (tbk E 306 4 [.inr (10, x0), .inl (0, x1), .inr (30, x2), tu] [.inl (0, 0), .inr (30, x2)] 1 6 K)) :
  tRun E 306 (0, [.inr (10, x0), .inl (0, x1), .inr (30, x2), tu], [], 0, 0, d) K := tT_run (cut := [0, 7]) 5 _ h
theorem t_306_7 {E : mO × tW} {K : tK} {d : mD} {x0 x1 x2 y0 y1 y2 : Int}
  (h : mInR y2 ∧ (0 ≤ y1 ∧ y1 < 1) ∧ K (.inl (some (0, 0))) (mset d y0 y1 y2)) :
  tRun E 306 (7, [.inr (10, x0), .inl (0, x1), .inr (30, x2), tu], [.inl (0, y2), .inl (0, y1), .inr (30, y0)], 1, 6, d) K := tT_run (cut := [0, 7]) 5 _ h
theorem t_307_0 {E : mO × tW} {K : tK} {d : mD} {x0 x1 x2 x3 : Int}
  (h : tCall E 126 [.inr (10, x0), .inl (0, x1), .inl (0, x2)] d (tbk E 307 5 [.inr (10, x0), .inl (0, x1), .inl (0, x2), .inr (30, x3), tu] [.inl (0, 0), .inr (30, x3)] 2 12 K)) :
  tRun E 307 (0, [.inr (10, x0), .inl (0, x1), .inl (0, x2), .inr (30, x3), tu], [], 0, 0, d) K := tT_run (cut := [0, 8]) 6 _ h
theorem t_307_8 {E : mO × tW} {K : tK} {d : mD} {x0 x1 x2 x3 y0 y1 y2 : Int}
  (h : mInR y2 ∧ (0 ≤ y1 ∧ y1 < 1) ∧ K (.inl (some (0, 0))) (mset d y0 y1 y2)) :
  tRun E 307 (8, [.inr (10, x0), .inl (0, x1), .inl (0, x2), .inr (30, x3), tu], [.inl (0, y2), .inl (0, y1), .inr (30, y0)], 2, 12, d) K := tT_run (cut := [0, 8]) 5 _ h
theorem t_308_0 {E : mO × tW} {K : tK} {d : mD} {x0 x1 x2 x3 : Int}
  (h : tCall E 127 [.inr (10, x0), .inl (0, x1), .inl (0, x2)] d (tbk E 308 5 [.inr (10, x0), .inl (0, x1), .inl (0, x2), .inr (30, x3), tu] [.inl (0, 0), .inr (30, x3)] 2 12 K)) :
  tRun E 308 (0, [.inr (10, x0), .inl (0, x1), .inl (0, x2), .inr (30, x3), tu], [], 0, 0, d) K := tT_run (cut := [0, 8]) 6 _ h
theorem t_308_8 {E : mO × tW} {K : tK} {d : mD} {x0 x1 x2 x3 y0 y1 y2 : Int}
  (h : mInR y2 ∧ (0 ≤ y1 ∧ y1 < 1) ∧ K (.inl (some (0, 0))) (mset d y0 y1 y2)) :
  tRun E 308 (8, [.inr (10, x0), .inl (0, x1), .inl (0, x2), .inr (30, x3), tu], [.inl (0, y2), .inl (0, y1), .inr (30, y0)], 2, 12, d) K := tT_run (cut := [0, 8]) 5 _ h
theorem t_309_0 {E : mO × tW} {K : tK} {d : mD} {x0 x1 x2 x3 : Int}
  (h : tCall E 128 [.inr (10, x0), .inl (0, x1), .inl (0, x2)] d (tbk E 309 5 [.inr (10, x0), .inl (0, x1), .inl (0, x2), .inr (30, x3), tu] [.inl (0, 0), .inr (30, x3)] 2 12 K)) :
  tRun E 309 (0, [.inr (10, x0), .inl (0, x1), .inl (0, x2), .inr (30, x3), tu], [], 0, 0, d) K := tT_run (cut := [0, 8]) 6 _ h
theorem t_309_8 {E : mO × tW} {K : tK} {d : mD} {x0 x1 x2 x3 y0 y1 y2 : Int}
  (h : mInR y2 ∧ (0 ≤ y1 ∧ y1 < 1) ∧ K (.inl (some (0, 0))) (mset d y0 y1 y2)) :
  tRun E 309 (8, [.inr (10, x0), .inl (0, x1), .inl (0, x2), .inr (30, x3), tu], [.inl (0, y2), .inl (0, y1), .inr (30, y0)], 2, 12, d) K := tT_run (cut := [0, 8]) 5 _ h
theorem t_310_0 {E : mO × tW} {K : tK} {d : mD} {x0 x1 x2 x3 : Int}
  (h : tCall E 129 [.inr (10, x0), .inl (0, x1), .inl (0, x2)] d (tbk E 310 5 [.inr (10, x0), .inl (0, x1), .inl (0, x2), .inr (30, x3), tu] [.inl (0, 0), .inr (30, x3)] 2 12 K)) :
  tRun E 310 (0, [.inr (10, x0), .inl (0, x1), .inl (0, x2), .inr (30, x3), tu], [], 0, 0, d) K := tT_run (cut := [0, 8]) 6 _ h
theorem t_310_8 {E : mO × tW} {K : tK} {d : mD} {x0 x1 x2 x3 y0 y1 y2 : Int}
  (h : mInR y2 ∧ (0 ≤ y1 ∧ y1 < 1) ∧ K (.inl (some (0, 0))) (mset d y0 y1 y2)) :
  tRun E 310 (8, [.inr (10, x0), .inl (0, x1), .inl (0, x2), .inr (30, x3), tu], [.inl (0, y2), .inl (0, y1), .inr (30, y0)], 2, 12, d) K := tT_run (cut := [0, 8]) 5 _ h
theorem t_311_0 {E : mO × tW} {K : tK} {d : mD} {x0 x1 x2 x3 : Int}
  (h : tCall E 130 [.inr (10, x0), .inl (0, x1), .inl (0, x2)] d (tbk E 311 5 [.inr (10, x0), .inl (0, x1), .inl (0, x2), .inr (30, x3), tu] [.inl (0, 0), .inr (30, x3)] 1 6 K)) :
  tRun E 311 (0, [.inr (10, x0), .inl (0, x1), .inl (0, x2), .inr (30, x3), tu], [], 0, 0, d) K := tT_run (cut := [0, 8]) 6 _ h
theorem t_311_8 {E : mO × tW} {K : tK} {d : mD} {x0 x1 x2 x3 y0 y1 y2 : Int}
  (h : mInR y2 ∧ (0 ≤ y1 ∧ y1 < 1) ∧ K (.inl (some (0, 0))) (mset d y0 y1 y2)) :
  tRun E 311 (8, [.inr (10, x0), .inl (0, x1), .inl (0, x2), .inr (30, x3), tu], [.inl (0, y2), .inl (0, y1), .inr (30, y0)], 1, 6, d) K := tT_run (cut := [0, 8]) 5 _ h
theorem t_312_0 {E : mO × tW} {K : tK} {d : mD} {x0 x1 x2 x3 : Int}
  (h : tCall E 131 [.inr (10, x0), .inl (0, x1), .inl (0, x2)] d (tbk E 312 5 [.inr (10, x0), .inl (0, x1), .inl (0, x2), .inr (30, x3), tu] [.inl (0, 0), .inr (30, x3)] 2 12 K)) :
  tRun E 312 (0, [.inr (10, x0), .inl (0, x1), .inl (0, x2), .inr (30, x3), tu], [], 0, 0, d) K := tT_run (cut := [0, 8]) 6 _ h
theorem t_312_8 {E : mO × tW} {K : tK} {d : mD} {x0 x1 x2 x3 y0 y1 y2 : Int}
  (h : mInR y2 ∧ (y2 = 0 → (0 ≤ y1 ∧ y1 < 1) ∧ K (.inl (some (0, 0))) (mset d y0 y1 0)) ∧ (¬ y2 = 0 → (0 ≤ y1 ∧ y1 < 1) ∧ K (.inl (some (0, 0))) (mset d y0 y1 1))) :
  tRun E 312 (8, [.inr (10, x0), .inl (0, x1), .inl (0, x2), .inr (30, x3), tu], [.inl (0, y2), .inl (0, y1), .inr (30, y0)], 2, 12, d) K := tT_run (cut := [0, 8]) 7 _ h
theorem t_313_0 {E : mO × tW} {K : tK} {d : mD} {x0 x1 x2 x3 : Int}
  (h : tCall E 132 [.inr (10, x0), .inl (0, x1), .inl (0, x2)] d (tbk E 313 5 [.inr (10, x0), .inl (0, x1), .inl (0, x2), .inr (30, x3), tu] [.inl (0, 0), .inr (30, x3)] 2 12 K)) :
  tRun E 313 (0, [.inr (10, x0), .inl (0, x1), .inl (0, x2), .inr (30, x3), tu], [], 0, 0, d) K := tT_run (cut := [0, 8]) 6 _ h
theorem t_313_8 {E : mO × tW} {K : tK} {d : mD} {x0 x1 x2 x3 y0 y1 y2 : Int}
  (h : mInR y2 ∧ (0 ≤ y1 ∧ y1 < 1) ∧ K (.inl (some (0, 0))) (mset d y0 y1 y2)) :
  tRun E 313 (8, [.inr (10, x0), .inl (0, x1), .inl (0, x2), .inr (30, x3), tu], [.inl (0, y2), .inl (0, y1), .inr (30, y0)], 2, 12, d) K := tT_run (cut := [0, 8]) 5 _ h
theorem t_314_0 {E : mO × tW} {K : tK} {d : mD} {x0 x1 x2 x3 : Int}
  (h : tCall E 133 [.inr (10, x0), .inl (0, x1), .inl (0, x2)] d (tbk E 314 5 [.inr (10, x0), .inl (0, x1), .inl (0, x2), .inr (30, x3), tu] [.inl (0, 0), .inr (30, x3)] 2 12 K)) :
  tRun E 314 (0, [.inr (10, x0), .inl (0, x1), .inl (0, x2), .inr (30, x3), tu], [], 0, 0, d) K := tT_run (cut := [0, 8]) 6 _ h
theorem t_314_8 {E : mO × tW} {K : tK} {d : mD} {x0 x1 x2 x3 y0 y1 y2 : Int}
  (h : mInR y2 ∧ (0 ≤ y1 ∧ y1 < 1) ∧ K (.inl (some (0, 0))) (mset d y0 y1 y2)) :
  tRun E 314 (8, [.inr (10, x0), .inl (0, x1), .inl (0, x2), .inr (30, x3), tu], [.inl (0, y2), .inl (0, y1), .inr (30, y0)], 2, 12, d) K := tT_run (cut := [0, 8]) 5 _ h
theorem t_315_0 {E : mO × tW} {K : tK} {d : mD} {x0 x1 x2 x3 : Int}
  (h : tCall E 134 [.inr (10, x0), .inl (0, x1), .inl (0, x2)] d (tbk E 315 5 [.inr (10, x0), .inl (0, x1), .inl (0, x2), .inr (30, x3), tu] [.inl (0, 0), .inr (30, x3)] 2 12 K)) :
  tRun E 315 (0, [.inr (10, x0), .inl (0, x1), .inl (0, x2), .inr (30, x3), tu], [], 0, 0, d) K := tT_run (cut := [0, 8]) 6 _ h
theorem t_315_8 {E : mO × tW} {K : tK} {d : mD} {x0 x1 x2 x3 y0 y1 y2 : Int}
  (h : mInR y2 ∧ (0 ≤ y1 ∧ y1 < 1) ∧ K (.inl (some (0, 0))) (mset d y0 y1 y2)) :
  tRun E 315 (8, [.inr (10, x0), .inl (0, x1), .inl (0, x2), .inr (30, x3), tu], [.inl (0, y2), .inl (0, y1), .inr (30, y0)], 2, 12, d) K := tT_run (cut := [0, 8]) 5 _ h
theorem t_316_0 {E : mO × tW} {K : tK} {d : mD} {x0 x1 x2 x3 : Int}
  (h : tCall E 135 [.inr (10, x0), .inl (0, x1), .inl (0, x2)] d (tbk E 316 5 [.inr (10, x0), .inl (0, x1), .inl (0, x2), .inr (30, x3), tu] [.inl (0, 0), .inr (30, x3)] 2 12 K)) :
  tRun E 316 (0, [.inr (10, x0), .inl (0, x1), .inl (0, x2), .inr (30, x3), tu], [], 0, 0, d) K := tT_run (cut := [0, 8]) 6 _ h
theorem t_316_8 {E : mO × tW} {K : tK} {d : mD} {x0 x1 x2 x3 y0 y1 y2 : Int}
  (h : mInR y2 ∧ (y2 = 0 → (0 ≤ y1 ∧ y1 < 1) ∧ K (.inl (some (0, 0))) (mset d y0 y1 0)) ∧ (¬ y2 = 0 → (0 ≤ y1 ∧ y1 < 1) ∧ K (.inl (some (0, 0))) (mset d y0 y1 1))) :
  tRun E 316 (8, [.inr (10, x0), .inl (0, x1), .inl (0, x2), .inr (30, x3), tu], [.inl (0, y2), .inl (0, y1), .inr (30, y0)], 2, 12, d) K := tT_run (cut := [0, 8]) 7 _ h
theorem t_317_0 {E : mO × tW} {K : tK} {d : mD} {x0 x1 x2 : Int}
  (h : tCall E 136 [.inr (10, x0), .inl (0, x1)] d (tbk E 317 4 [.inr (10, x0), .inl (0, x1), .inr (30, x2), tu] [.inl (0, 0), .inr (30, x2)] 1 6 K)) :
  tRun E 317 (0, [.inr (10, x0), .inl (0, x1), .inr (30, x2), tu], [], 0, 0, d) K := tT_run (cut := [0, 7]) 5 _ h
theorem t_317_7 {E : mO × tW} {K : tK} {d : mD} {x0 x1 x2 y0 y1 y2 : Int}
  (h : mInR y2 ∧ (0 ≤ y1 ∧ y1 < 1) ∧ K (.inl (some (0, 0))) (mset d y0 y1 y2)) :
  tRun E 317 (7, [.inr (10, x0), .inl (0, x1), .inr (30, x2), tu], [.inl (0, y2), .inl (0, y1), .inr (30, y0)], 1, 6, d) K := tT_run (cut := [0, 7]) 5 _ h
theorem t_318_0 {E : mO × tW} {K : tK} {d : mD} {x0 x1 x2 : Int}
  (h : tCall E 142 [.inr (10, x0), .inl (0, x1)] d (tbk E 318 4 [.inr (10, x0), .inl (0, x1), .inr (30, x2), tu] [.inl (0, 0), .inr (30, x2)] 2 12 K)) :
  tRun E 318 (0, [.inr (10, x0), .inl (0, x1), .inr (30, x2), tu], [], 0, 0, d) K := tT_run (cut := [0, 7]) 5 _ h
theorem t_318_7 {E : mO × tW} {K : tK} {d : mD} {x0 x1 x2 y0 y1 y2 : Int}
  (h : mInR y2 ∧ (0 ≤ y1 ∧ y1 < 1) ∧ K (.inl (some (0, 0))) (mset d y0 y1 y2)) :
  tRun E 318 (7, [.inr (10, x0), .inl (0, x1), .inr (30, x2), tu], [.inl (0, y2), .inl (0, y1), .inr (30, y0)], 2, 12, d) K := tT_run (cut := [0, 7]) 5 _ h
theorem t_319_0 {E : mO × tW} {K : tK} {d : mD} {x0 x1 x2 x3 : Int}
  (h : tCall E 143 [.inr (10, x0), .inl (0, x1), .inl (0, x2)] d (tbk E 319 5 [.inr (10, x0), .inl (0, x1), .inl (0, x2), .inr (30, x3), tu] [.inl (0, 0), .inr (30, x3)] 2 12 K)) :
  tRun E 319 (0, [.inr (10, x0), .inl (0, x1), .inl (0, x2), .inr (30, x3), tu], [], 0, 0, d) K := tT_run (cut := [0, 8]) 6 _ h
theorem t_319_8 {E : mO × tW} {K : tK} {d : mD} {x0 x1 x2 x3 y0 y1 y2 : Int}
  (h : mInR y2 ∧ (0 ≤ y1 ∧ y1 < 1) ∧ K (.inl (some (0, 0))) (mset d y0 y1 y2)) :
  tRun E 319 (8, [.inr (10, x0), .inl (0, x1), .inl (0, x2), .inr (30, x3), tu], [.inl (0, y2), .inl (0, y1), .inr (30, y0)], 2, 12, d) K := tT_run (cut := [0, 8]) 5 _ h
theorem t_320_0 {E : mO × tW} {K : tK} {d : mD} {x0 x1 x2 : Int}
  (h : tCall E 144 [.inr (10, x0), .inl (0, x1)] d (tbk E 320 4 [.inr (10, x0), .inl (0, x1), .inr (30, x2), tu] [.inl (0, 0), .inr (30, x2)] 1 6 K)) :
  tRun E 320 (0, [.inr (10, x0), .inl (0, x1), .inr (30, x2), tu], [], 0, 0, d) K := tT_run (cut := [0, 7]) 5 _ h
theorem t_320_7 {E : mO × tW} {K : tK} {d : mD} {x0 x1 x2 y0 y1 y2 : Int}
  (h : mInR y2 ∧ (0 ≤ y1 ∧ y1 < 1) ∧ K (.inl (some (0, 0))) (mset d y0 y1 y2)) :
  tRun E 320 (7, [.inr (10, x0), .inl (0, x1), .inr (30, x2), tu], [.inl (0, y2), .inl (0, y1), .inr (30, y0)], 1, 6, d) K := tT_run (cut := [0, 7]) 5 _ h
theorem t_321_0 {E : mO × tW} {K : tK} {d : mD} {x0 x1 x2 : Int}
  (h : tCall E 145 [.inr (10, x0), .inl (0, x1)] d (tbk E 321 4 [.inr (10, x0), .inl (0, x1), .inr (30, x2), tu] [.inl (0, 0), .inr (30, x2)] 2 12 K)) :
  tRun E 321 (0, [.inr (10, x0), .inl (0, x1), .inr (30, x2), tu], [], 0, 0, d) K := tT_run (cut := [0, 7]) 5 _ h
theorem t_321_7 {E : mO × tW} {K : tK} {d : mD} {x0 x1 x2 y0 y1 y2 : Int}
  (h : mInR y2 ∧ (0 ≤ y1 ∧ y1 < 1) ∧ K (.inl (some (0, 0))) (mset d y0 y1 y2)) :
  tRun E 321 (7, [.inr (10, x0), .inl (0, x1), .inr (30, x2), tu], [.inl (0, y2), .inl (0, y1), .inr (30, y0)], 2, 12, d) K := tT_run (cut := [0, 7]) 5 _ h
theorem t_322_0 {E : mO × tW} {K : tK} {d : mD} {x0 x1 : Int}
  (h : tCall E 146 [.inr (10, x0)] d (tbk E 322 3 [.inr (10, x0), .inr (30, x1), tu] [.inl (0, 0), .inr (30, x1)] 1 6 K)) :
  tRun E 322 (0, [.inr (10, x0), .inr (30, x1), tu], [], 0, 0, d) K := tT_run (cut := [0, 6]) 4 _ h
theorem t_322_6 {E : mO × tW} {K : tK} {d : mD} {x0 x1 y0 y1 y2 : Int}
  (h : mInR y2 ∧ (0 ≤ y1 ∧ y1 < 1) ∧ K (.inl (some (0, 0))) (mset d y0 y1 y2)) :
  tRun E 322 (6, [.inr (10, x0), .inr (30, x1), tu], [.inl (0, y2), .inl (0, y1), .inr (30, y0)], 1, 6, d) K := tT_run (cut := [0, 6]) 5 _ h
theorem t_323_0 {E : mO × tW} {K : tK} {d : mD} {x0 x1 x2 x3 : Int}
  (h : tCall E 147 [.inr (10, x0), .inl (0, x1), .inl (0, x2)] d (tbk E 323 5 [.inr (10, x0), .inl (0, x1), .inl (0, x2), .inr (30, x3), tu] [.inl (0, 0), .inr (30, x3)] 4 24 K)) :
  tRun E 323 (0, [.inr (10, x0), .inl (0, x1), .inl (0, x2), .inr (30, x3), tu], [], 0, 0, d) K := tT_run (cut := [0, 8]) 6 _ h
theorem t_323_8 {E : mO × tW} {K : tK} {d : mD} {x0 x1 x2 x3 y0 y1 y2 : Int}
  (h : mInR y2 ∧ (0 ≤ y1 ∧ y1 < 1) ∧ K (.inl (some (0, 0))) (mset d y0 y1 y2)) :
  tRun E 323 (8, [.inr (10, x0), .inl (0, x1), .inl (0, x2), .inr (30, x3), tu], [.inl (0, y2), .inl (0, y1), .inr (30, y0)], 4, 24, d) K := tT_run (cut := [0, 8]) 5 _ h
theorem t_324_0 {E : mO × tW} {K : tK} {d : mD} {x0 x1 x2 : Int}
  (h : tCall E 148 [.inr (10, x0), .inl (0, x1)] d (tbk E 324 4 [.inr (10, x0), .inl (0, x1), .inr (30, x2), tu] [.inl (0, 0), .inr (30, x2)] 1 6 K)) :
  tRun E 324 (0, [.inr (10, x0), .inl (0, x1), .inr (30, x2), tu], [], 0, 0, d) K := tT_run (cut := [0, 7]) 5 _ h
theorem t_324_7 {E : mO × tW} {K : tK} {d : mD} {x0 x1 x2 y0 y1 y2 : Int}
  (h : mInR y2 ∧ (0 ≤ y1 ∧ y1 < 1) ∧ K (.inl (some (0, 0))) (mset d y0 y1 y2)) :
  tRun E 324 (7, [.inr (10, x0), .inl (0, x1), .inr (30, x2), tu], [.inl (0, y2), .inl (0, y1), .inr (30, y0)], 1, 6, d) K := tT_run (cut := [0, 7]) 5 _ h
theorem t_325_0 {E : mO × tW} {K : tK} {d : mD} {x0 x1 x2 : Int}
  (h : tCall E 149 [.inr (10, x0), .inl (0, x1)] d (tbk E 325 4 [.inr (10, x0), .inl (0, x1), .inr (30, x2), tu] [.inl (0, 0), .inr (30, x2)] 1 6 K)) :
  tRun E 325 (0, [.inr (10, x0), .inl (0, x1), .inr (30, x2), tu], [], 0, 0, d) K := tT_run (cut := [0, 7]) 5 _ h
theorem t_325_7 {E : mO × tW} {K : tK} {d : mD} {x0 x1 x2 y0 y1 y2 : Int}
  (h : mInR y2 ∧ (0 ≤ y1 ∧ y1 < 1) ∧ K (.inl (some (0, 0))) (mset d y0 y1 y2)) :
  tRun E 325 (7, [.inr (10, x0), .inl (0, x1), .inr (30, x2), tu], [.inl (0, y2), .inl (0, y1), .inr (30, y0)], 1, 6, d) K := tT_run (cut := [0, 7]) 5 _ h
theorem t_326_0 {E : mO × tW} {K : tK} {d : mD} {x0 x1 x2 x3 : Int}
  (h : tCall E 150 [.inr (10, x0), .inl (0, x1), .inl (0, x2)] d (tbk E 326 5 [.inr (10, x0), .inl (0, x1), .inl (0, x2), .inr (30, x3), tu] [.inl (0, 0), .inr (30, x3)] 3 18 K)) :
  tRun E 326 (0, [.inr (10, x0), .inl (0, x1), .inl (0, x2), .inr (30, x3), tu], [], 0, 0, d) K := tT_run (cut := [0, 8]) 6 _ h
theorem t_326_8 {E : mO × tW} {K : tK} {d : mD} {x0 x1 x2 x3 y0 y1 y2 : Int}
  (h : mInR y2 ∧ (0 ≤ y1 ∧ y1 < 1) ∧ K (.inl (some (0, 0))) (mset d y0 y1 y2)) :
  tRun E 326 (8, [.inr (10, x0), .inl (0, x1), .inl (0, x2), .inr (30, x3), tu], [.inl (0, y2), .inl (0, y1), .inr (30, y0)], 3, 18, d) K := tT_run (cut := [0, 8]) 5 _ h
theorem t_327_0 {E : mO × tW} {K : tK} {d : mD} {x0 x1 x2 : Int}
  (h : tCall E 151 [.inr (10, x0), .inl (0, x1)] d (tbk E 327 4 [.inr (10, x0), .inl (0, x1), .inr (30, x2), tu] [.inl (0, 0), .inr (30, x2)] 2 12 K)) :
  tRun E 327 (0, [.inr (10, x0), .inl (0, x1), .inr (30, x2), tu], [], 0, 0, d) K := tT_run (cut := [0, 7]) 5 _ h
theorem t_327_7 {E : mO × tW} {K : tK} {d : mD} {x0 x1 x2 y0 y1 y2 : Int}
  (h : mInR y2 ∧ (0 ≤ y1 ∧ y1 < 1) ∧ K (.inl (some (0, 0))) (mset d y0 y1 y2)) :
  tRun E 327 (7, [.inr (10, x0), .inl (0, x1), .inr (30, x2), tu], [.inl (0, y2), .inl (0, y1), .inr (30, y0)], 2, 12, d) K := tT_run (cut := [0, 7]) 5 _ h
theorem t_328_0 {E : mO × tW} {K : tK} {d : mD} {x0 x1 x2 : Int}
  (h : tCall E 152 [.inr (10, x0), .inl (0, x1)] d (tbk E 328 4 [.inr (10, x0), .inl (0, x1), .inr (30, x2), tu] [.inl (0, 0), .inr (30, x2)] 1 6 K)) :
  tRun E 328 (0, [.inr (10, x0), .inl (0, x1), .inr (30, x2), tu], [], 0, 0, d) K := tT_run (cut := [0, 7]) 5 _ h
theorem t_328_7 {E : mO × tW} {K : tK} {d : mD} {x0 x1 x2 y0 y1 y2 : Int}
  (h : mInR y2 ∧ (0 ≤ y1 ∧ y1 < 1) ∧ K (.inl (some (0, 0))) (mset d y0 y1 y2)) :
  tRun E 328 (7, [.inr (10, x0), .inl (0, x1), .inr (30, x2), tu], [.inl (0, y2), .inl (0, y1), .inr (30, y0)], 1, 6, d) K := tT_run (cut := [0, 7]) 5 _ h
theorem t_329_0 {E : mO × tW} {K : tK} {d : mD} {x0 x1 x2 : Int}
  (h : tCall E 153 [.inr (10, x0), .inl (0, x1)] d (tbk E 329 4 [.inr (10, x0), .inl (0, x1), .inr (30, x2), tu] [.inl (0, 0), .inr (30, x2)] 2 12 K)) :
  tRun E 329 (0, [.inr (10, x0), .inl (0, x1), .inr (30, x2), tu], [], 0, 0, d) K := tT_run (cut := [0, 7]) 5 _ h
theorem t_329_7 {E : mO × tW} {K : tK} {d : mD} {x0 x1 x2 y0 y1 y2 : Int}
  (h : mInR y2 ∧ (0 ≤ y1 ∧ y1 < 1) ∧ K (.inl (some (0, 0))) (mset d y0 y1 y2)) :
  tRun E 329 (7, [.inr (10, x0), .inl (0, x1), .inr (30, x2), tu], [.inl (0, y2), .inl (0, y1), .inr (30, y0)], 2, 12, d) K := tT_run (cut := [0, 7]) 5 _ h
theorem t_330_0 {E : mO × tW} {K : tK} {d : mD} {x0 x1 x2 x3 : Int}
  (h : tCall E 154 [.inr (10, x0), .inl (0, x1), .inl (0, x2)] d (tbk E 330 5 [.inr (10, x0), .inl (0, x1), .inl (0, x2), .inr (30, x3), tu] [.inl (0, 0), .inr (30, x3)] 3 18 K)) :
  tRun E 330 (0, [.inr (10, x0), .inl (0, x1), .inl (0, x2), .inr (30, x3), tu], [], 0, 0, d) K := tT_run (cut := [0, 8]) 6 _ h
theorem t_330_8 {E : mO × tW} {K : tK} {d : mD} {x0 x1 x2 x3 y0 y1 y2 : Int}
  (h : mInR y2 ∧ (0 ≤ y1 ∧ y1 < 1) ∧ K (.inl (some (0, 0))) (mset d y0 y1 y2)) :
  tRun E 330 (8, [.inr (10, x0), .inl (0, x1), .inl (0, x2), .inr (30, x3), tu], [.inl (0, y2), .inl (0, y1), .inr (30, y0)], 3, 18, d) K := tT_run (cut := [0, 8]) 5 _ h
theorem t_331_0 {E : mO × tW} {K : tK} {d : mD} {x0 x1 x2 x3 x4 : Int}
  (h : tCall E 155 [.inr (10, x0), .inl (0, x1), .inl (0, x2), .inl (0, x3)] d (tbk E 331 7 [.inr (10, x0), .inl (0, x1), .inl (0, x2), .inl (0, x3), .inr (30, x4), tu] [.inl (0, 0), .inr (30, x4)] 4 24 K)) :
  tRun E 331 (0, [.inr (10, x0), .inl (0, x1), .inl (0, x2), .inl (0, x3), .inr (30, x4), tu], [], 0, 0, d) K := tT_run (cut := [0, 10]) 7 _ h
theorem t_331_10 {E : mO × tW} {K : tK} {d : mD} {x0 x1 x2 x3 x4 y0 y1 y2 : Int}
  (h : mInR y2 ∧ (0 ≤ y1 ∧ y1 < 1) ∧ K (.inl (some (0, 0))) (mset d y0 y1 y2)) :
  tRun E 331 (10, [.inr (10, x0), .inl (0, x1), .inl (0, x2), .inl (0, x3), .inr (30, x4), tu], [.inl (0, y2), .inl (0, y1), .inr (30, y0)], 4, 24, d) K := tT_run (cut := [0, 10]) 5 _ h
theorem t_332_0 {E : mO × tW} {K : tK} {d : mD} {x0 x1 x2 x3 : Int}
  (h : tCall E 156 [.inr (10, x0), .inl (0, x1), .inl (0, x2)] d (tbk E 332 5 [.inr (10, x0), .inl (0, x1), .inl (0, x2), .inr (30, x3), tu] [.inl (0, 0), .inr (30, x3)] 3 18 K)) :
  tRun E 332 (0, [.inr (10, x0), .inl (0, x1), .inl (0, x2), .inr (30, x3), tu], [], 0, 0, d) K := tT_run (cut := [0, 8]) 6 _ h
theorem t_332_8 {E : mO × tW} {K : tK} {d : mD} {x0 x1 x2 x3 y0 y1 y2 : Int}
  (h : mInR y2 ∧ (0 ≤ y1 ∧ y1 < 1) ∧ K (.inl (some (0, 0))) (mset d y0 y1 y2)) :
  tRun E 332 (8, [.inr (10, x0), .inl (0, x1), .inl (0, x2), .inr (30, x3), tu], [.inl (0, y2), .inl (0, y1), .inr (30, y0)], 3, 18, d) K := tT_run (cut := [0, 8]) 5 _ h
theorem t_333_0 {E : mO × tW} {K : tK} {d : mD} {x0 x1 x2 : Int}
  (h : tCall E 157 [.inr (10, x0), .inl (0, x1)] d (tbk E 333 4 [.inr (10, x0), .inl (0, x1), .inr (30, x2), tu] [.inl (0, 0), .inr (30, x2)] 1 6 K)) :
  tRun E 333 (0, [.inr (10, x0), .inl (0, x1), .inr (30, x2), tu], [], 0, 0, d) K := tT_run (cut := [0, 7]) 5 _ h
theorem t_333_7 {E : mO × tW} {K : tK} {d : mD} {x0 x1 x2 y0 y1 y2 : Int}
  (h : mInR y2 ∧ (0 ≤ y1 ∧ y1 < 1) ∧ K (.inl (some (0, 0))) (mset d y0 y1 y2)) :
  tRun E 333 (7, [.inr (10, x0), .inl (0, x1), .inr (30, x2), tu], [.inl (0, y2), .inl (0, y1), .inr (30, y0)], 1, 6, d) K := tT_run (cut := [0, 7]) 5 _ h
theorem t_334_0 {E : mO × tW} {K : tK} {d : mD} {x0 x1 x2 x3 : Int}
  (h : tCall E 158 [.inr (10, x0), .inl (0, x1), .inl (0, x2)] d (tbk E 334 5 [.inr (10, x0), .inl (0, x1), .inl (0, x2), .inr (30, x3), tu] [.inl (0, 0), .inr (30, x3)] 3 18 K)) :
  tRun E 334 (0, [.inr (10, x0), .inl (0, x1), .inl (0, x2), .inr (30, x3), tu], [], 0, 0, d) K := tT_run (cut := [0, 8]) 6 _ h
theorem t_334_8 {E : mO × tW} {K : tK} {d : mD} {x0 x1 x2 x3 y0 y1 y2 : Int}
  (h : mInR y2 ∧ (0 ≤ y1 ∧ y1 < 1) ∧ K (.inl (some (0, 0))) (mset d y0 y1 y2)) :
  tRun E 334 (8, [.inr (10, x0), .inl (0, x1), .inl (0, x2), .inr (30, x3), tu], [.inl (0, y2), .inl (0, y1), .inr (30, y0)], 3, 18, d) K := tT_run (cut := [0, 8]) 5 _ h
theorem t_335_0 {E : mO × tW} {K : tK} {d : mD} {x0 x1 x2 : Int}
  (h : tCall E 159 [.inr (10, x0), .inl (0, x1)] d (tbk E 335 4 [.inr (10, x0), .inl (0, x1), .inr (30, x2), tu] [.inl (0, 0), .inr (30, x2)] 2 12 K)) :
  tRun E 335 (0, [.inr (10, x0), .inl (0, x1), .inr (30, x2), tu], [], 0, 0, d) K := tT_run (cut := [0, 7]) 5 _ h
theorem t_335_7 {E : mO × tW} {K : tK} {d : mD} {x0 x1 x2 y0 y1 y2 : Int}
  (h : mInR y2 ∧ (0 ≤ y1 ∧ y1 < 1) ∧ K (.inl (some (0, 0))) (mset d y0 y1 y2)) :
  tRun E 335 (7, [.inr (10, x0), .inl (0, x1), .inr (30, x2), tu], [.inl (0, y2), .inl (0, y1), .inr (30, y0)], 2, 12, d) K := tT_run (cut := [0, 7]) 5 _ h
theorem t_336_0 {E : mO × tW} {K : tK} {d : mD} {x0 x1 : Int}
  (h : tCall E 160 [.inr (10, x0)] d (tbk E 336 3 [.inr (10, x0), .inr (30, x1), tu] [.inl (0, 0), .inr (30, x1)] 1 6 K)) :
  tRun E 336 (0, [.inr (10, x0), .inr (30, x1), tu], [], 0, 0, d) K := tT_run (cut := [0, 6]) 4 _ h
theorem t_336_6 {E : mO × tW} {K : tK} {d : mD} {x0 x1 y0 y1 y2 : Int}
  (h : mInR y2 ∧ (0 ≤ y1 ∧ y1 < 1) ∧ K (.inl (some (0, 0))) (mset d y0 y1 y2)) :
  tRun E 336 (6, [.inr (10, x0), .inr (30, x1), tu], [.inl (0, y2), .inl (0, y1), .inr (30, y0)], 1, 6, d) K := tT_run (cut := [0, 6]) 5 _ h
theorem t_337_0 {E : mO × tW} {K : tK} {d : mD} {x0 x1 x2 x3 : Int}
  (h : tCall E 161 [.inr (10, x0), .inl (0, x1), .inl (0, x2)] d (tbk E 337 5 [.inr (10, x0), .inl (0, x1), .inl (0, x2), .inr (30, x3), tu] [.inl (0, 0), .inr (30, x3)] 2 12 K)) :
  tRun E 337 (0, [.inr (10, x0), .inl (0, x1), .inl (0, x2), .inr (30, x3), tu], [], 0, 0, d) K := tT_run (cut := [0, 8]) 6 _ h
theorem t_337_8 {E : mO × tW} {K : tK} {d : mD} {x0 x1 x2 x3 y0 y1 y2 : Int}
  (h : mInR y2 ∧ (0 ≤ y1 ∧ y1 < 1) ∧ K (.inl (some (0, 0))) (mset d y0 y1 y2)) :
  tRun E 337 (8, [.inr (10, x0), .inl (0, x1), .inl (0, x2), .inr (30, x3), tu], [.inl (0, y2), .inl (0, y1), .inr (30, y0)], 2, 12, d) K := tT_run (cut := [0, 8]) 5 _ h
theorem t_338_0 {E : mO × tW} {K : tK} {d : mD} {x0 x1 : Int}
  (h : tCall E 162 [.inr (10, x0)] d (tbk E 338 3 [.inr (10, x0), .inr (30, x1), tu] [.inl (0, 0), .inr (30, x1)] 1 6 K)) :
  tRun E 338 (0, [.inr (10, x0), .inr (30, x1), tu], [], 0, 0, d) K := tT_run (cut := [0, 6]) 4 _ h
theorem t_338_6 {E : mO × tW} {K : tK} {d : mD} {x0 x1 y0 y1 y2 : Int}
  (h : mInR y2 ∧ (0 ≤ y1 ∧ y1 < 1) ∧ K (.inl (some (0, 0))) (mset d y0 y1 y2)) :
  tRun E 338 (6, [.inr (10, x0), .inr (30, x1), tu], [.inl (0, y2), .inl (0, y1), .inr (30, y0)], 1, 6, d) K := tT_run (cut := [0, 6]) 5 _ h
theorem t_339_0 {E : mO × tW} {K : tK} {d : mD} {x0 x1 : Int}
  (h : tCall E 163 [.inr (10, x0), .inl (0, x1)] d (tbk E 339 2 [.inr (10, x0), .inl (0, x1), tu] [] 1 6 K)) :
  tRun E 339 (0, [.inr (10, x0), .inl (0, x1), tu], [], 0, 0, d) K := tT_run (cut := [0, 5]) 3 _ h
theorem t_339_5 {E : mO × tW} {K : tK} {d : mD} {x0 x1 : Int}
  (h : K (.inl (some (0, 0))) d) :
  tRun E 339 (5, [.inr (10, x0), .inl (0, x1), tu], [], 1, 6, d) K := tT_run (cut := [0, 5]) 3 _ h
theorem t_340_0 {E : mO × tW} {K : tK} {d : mD} {x0 x1 : Int}
  (h : tCall E 164 [.inr (10, x0), .inl (0, x1)] d (tbk E 340 2 [.inr (10, x0), .inl (0, x1), tu] [] 2 12 K)) :
  tRun E 340 (0, [.inr (10, x0), .inl (0, x1), tu], [], 0, 0, d) K := tT_run (cut := [0, 5]) 3 _ h
theorem t_340_5 {E : mO × tW} {K : tK} {d : mD} {x0 x1 : Int}
  (h : K (.inl (some (0, 0))) d) :
  tRun E 340 (5, [.inr (10, x0), .inl (0, x1), tu], [], 2, 12, d) K := tT_run (cut := [0, 5]) 3 _ h
