/-! ===== pieces of the methods between cuts: printed by a program of mine ===== -/
theorem t_290_0 {E : mO × tW} {K : tK} {d : mD} {x0 : Int}
  (h : tCall E 210 [.inr (11, x0)] d (tbk E 290 1 [.inr (11, x0), tu] [] 0 0 K)) :
  tRun E 290 (0, [.inr (11, x0), tu], [], 0, 0, d) K := tT_run (cut := [0, 4, 31, 56, 61]) 2 _ h
theorem t_290_4 {E : mO × tW} {K : tK} {d : mD} {x0 y0 : Int}
  (h : mInR y0 ∧ (¬ y0 = 0 → (0 ≤ (8 : Int) ∧ (8 : Int) < 3116) ∧ (mInR (d (x0 + 1) 8) ∧ mInR 16) ∧ (d (x0 + 1) 8 = 16 → mInR ((mset d x0 0 2) x0 0) ∧ ((mset d x0 0 2) x0 0 ≤ 0 → tCall E 278 [.inr (11, x0)] (mset d x0 0 2) (tbk E 290 53 [.inr (11, x0), .inl (0, y0)] [] 0 0 K)) ∧ (0 < (mset d x0 0 2) x0 0 → K (.inl (some (0, 0))) (mset d x0 0 2))) ∧ (¬ d (x0 + 1) 8 = 16 → tCall E 183 [.inr (11, x0), .inl (0, y0)] d (tbk E 290 28 [.inr (11, x0), .inl (0, y0)] [.inr (11, x0)] 0 0 K))) ∧ (y0 = 0 → mInR ((mset d x0 0 1) x0 0) ∧ ((mset d x0 0 1) x0 0 ≤ 0 → tCall E 278 [.inr (11, x0)] (mset d x0 0 1) (tbk E 290 53 [.inr (11, x0), .inl (0, y0)] [] 0 0 K)) ∧ (0 < (mset d x0 0 1) x0 0 → K (.inl (some (0, 0))) (mset d x0 0 1)))) :
  tRun E 290 (4, [.inr (11, x0), tu], [.inl (0, y0)], 0, 0, d) K := tT_run (cut := [0, 4, 31, 56, 61]) 18 _ h
theorem t_290_31 {E : mO × tW} {K : tK} {d : mD} {x0 x1 y0 y1 : Int}
  (h : (mInR y1 ∧ mInR ((-1))) ∧ (y1 = (-1) → mInR ((mset d y0 0 0) x0 0) ∧ ((mset d y0 0 0) x0 0 ≤ 0 → tCall E 278 [.inr (11, x0)] (mset d y0 0 0) (tbk E 290 53 [.inr (11, x0), .inl (0, x1)] [] 0 0 K)) ∧ (0 < (mset d y0 0 0) x0 0 → K (.inl (some (0, 0))) (mset d y0 0 0))) ∧ (¬ y1 = (-1) → mInR ((mset d y0 0 2) x0 0) ∧ ((mset d y0 0 2) x0 0 ≤ 0 → tCall E 278 [.inr (11, x0)] (mset d y0 0 2) (tbk E 290 53 [.inr (11, x0), .inl (0, x1)] [] 0 0 K)) ∧ (0 < (mset d y0 0 2) x0 0 → K (.inl (some (0, 0))) (mset d y0 0 2)))) :
  tRun E 290 (31, [.inr (11, x0), .inl (0, x1)], [.inl (0, y1), .inr (11, y0)], 0, 0, d) K := tT_run (cut := [0, 4, 31, 56, 61]) 10 _ h
theorem t_290_56 {E : mO × tW} {K : tK} {d : mD} {x0 x1 : Int}
  (h : tCall E 182 [.inr (11, x0), .inl (0, x1)] d (tbk E 290 58 [.inr (11, x0), .inl (0, x1)] [] 0 0 K)) :
  tRun E 290 (56, [.inr (11, x0), .inl (0, x1)], [], 0, 0, d) K := tT_run (cut := [0, 4, 31, 56, 61]) 3 _ h
theorem t_290_61 {E : mO × tW} {K : tK} {d : mD} {x0 x1 : Int}
  (h : (0 ≤ (8 : Int) ∧ (8 : Int) < 3116) ∧ K (.inl (some (0, (d (x0 + 1) 8) - 1))) d) :
  tRun E 290 (61, [.inr (11, x0), .inl (0, x1)], [], 0, 0, d) K := tT_run (cut := [0, 4, 31, 56, 61]) 7 _ h
theorem t_291_0 {E : mO × tW} {K : tK} {d : mD} {x0 : Int}
  (h : (mInR x0 ∧ mInR 2) ∧ (2 ≤ x0 → K (.inl (some (0, 1))) d) ∧ (x0 < 2 → K (.inl (some (0, 0))) d)) :
  tRun E 291 (0, [.inl (0, x0)], [], 0, 0, d) K := tT_run (cut := [0]) 6 _ h
theorem t_292_0 {E : mO × tW} {K : tK} {d : mD} {x0 : Int}
  (h : (mInR x0 ∧ mInR 1) ∧ (¬ x0 = 1 → (mInR x0 ∧ mInR 3) ∧ (¬ x0 = 3 → (mInR x0 ∧ mInR 4) ∧ (¬ x0 = 4 → K (.inl (some (0, 9))) d) ∧ (x0 = 4 → K (.inl (some (0, 99))) d)) ∧ (x0 = 3 → K (.inl (some (0, 20))) d)) ∧ (x0 = 1 → K (.inl (some (0, 3))) d)) :
  tRun E 292 (0, [.inl (0, x0)], [], 0, 0, d) K := tT_run (cut := [0]) 12 _ h
theorem t_293_0 {E : mO × tW} {K : tK} {d : mD} {x0 x1 x2 : Int}
  (h : mInR x1 ∧ tCall E 176 [.inl (1, x1), .inl (1, 0), .inl (1, 4)] d (tbk E 293 7 [.inr (11, x0), .inl (0, x1), .inl (0, x2), tu] [.inr (11, x0)] 0 0 K)) :
  tRun E 293 (0, [.inr (11, x0), .inl (0, x1), .inl (0, x2), tu], [], 0, 0, d) K := tT_run (cut := [0, 10, 19, 24, 28, 52]) 6 _ h
theorem t_293_10 {E : mO × tW} {K : tK} {d : mD} {x0 x1 x2 y0 y1 : Int}
  (h : mInR y1 ∧ (y1 = 0 → mInR ((mset d y0 0 1) x0 0) ∧ ((mset d y0 0 1) x0 0 ≤ 0 → tCall E 278 [.inr (11, x0)] (mset d y0 0 1) (tbk E 293 49 [.inr (11, x0), .inl (0, x1), .inl (0, x2), tu] [] 0 0 K)) ∧ (0 < (mset d y0 0 1) x0 0 → K (.inl (some (0, 0))) (mset d y0 0 1))) ∧ (¬ y1 = 0 → mInR x2 ∧ tCall E 291 [.inl (0, x1)] d (tbk E 293 16 [.inr (11, x0), .inl (0, x1), .inl (0, x2), tu] [.inl (1, x2), .inr (11, y0)] 0 0 K))) :
  tRun E 293 (10, [.inr (11, x0), .inl (0, x1), .inl (0, x2), tu], [.inl (0, y1), .inr (11, y0)], 0, 0, d) K := tT_run (cut := [0, 10, 19, 24, 28, 52]) 8 _ h
theorem t_293_19 {E : mO × tW} {K : tK} {d : mD} {x0 x1 x2 y0 y1 y2 : Int}
  (h : mInR y2 ∧ tCall E 292 [.inl (0, x1)] d (tbk E 293 21 [.inr (11, x0), .inl (0, x1), .inl (0, x2), tu] [.inl (1, y2), .inl (1, y1), .inr (11, y0)] 0 0 K)) :
  tRun E 293 (19, [.inr (11, x0), .inl (0, x1), .inl (0, x2), tu], [.inl (0, y2), .inl (1, y1), .inr (11, y0)], 0, 0, d) K := tT_run (cut := [0, 10, 19, 24, 28, 52]) 3 _ h
theorem t_293_24 {E : mO × tW} {K : tK} {d : mD} {x0 x1 x2 y0 y1 y2 y3 : Int}
  (h : mInR y3 ∧ tCall E 176 [.inl (1, y1), .inl (1, y2), .inl (1, y3)] d (tbk E 293 25 [.inr (11, x0), .inl (0, x1), .inl (0, x2), tu] [.inr (11, y0)] 0 0 K)) :
  tRun E 293 (24, [.inr (11, x0), .inl (0, x1), .inl (0, x2), tu], [.inl (0, y3), .inl (1, y2), .inl (1, y1), .inr (11, y0)], 0, 0, d) K := tT_run (cut := [0, 10, 19, 24, 28, 52]) 2 _ h
theorem t_293_28 {E : mO × tW} {K : tK} {d : mD} {x0 x1 x2 y0 y1 : Int}
  (h : mInR y1 ∧ (y1 = 0 → mInR ((mset d y0 0 1) x0 0) ∧ ((mset d y0 0 1) x0 0 ≤ 0 → tCall E 278 [.inr (11, x0)] (mset d y0 0 1) (tbk E 293 49 [.inr (11, x0), .inl (0, x1), .inl (0, x2), tu] [] 0 0 K)) ∧ (0 < (mset d y0 0 1) x0 0 → K (.inl (some (0, 0))) (mset d y0 0 1))) ∧ (¬ y1 = 0 → mInR ((mset d y0 0 0) x0 0) ∧ ((mset d y0 0 0) x0 0 ≤ 0 → tCall E 278 [.inr (11, x0)] (mset d y0 0 0) (tbk E 293 49 [.inr (11, x0), .inl (0, x1), .inl (0, x2), tu] [] 0 0 K)) ∧ (0 < (mset d y0 0 0) x0 0 → K (.inl (some (0, 0))) (mset d y0 0 0)))) :
  tRun E 293 (28, [.inr (11, x0), .inl (0, x1), .inl (0, x2), tu], [.inl (0, y1), .inr (11, y0)], 0, 0, d) K := tT_run (cut := [0, 10, 19, 24, 28, 52]) 9 _ h
theorem t_293_52 {E : mO × tW} {K : tK} {d : mD} {x0 x1 x2 : Int}
  (h : (0 ≤ 2 + x1 ∧ 2 + x1 < 3116) ∧ (0 ≤ 2 + x1 ∧ 2 + x1 < 3116) ∧ K (.inl (some (0, d (x0 + 1) (2 + x1)))) (mset d (x0 + 1) (2 + x1) x2)) :
  tRun E 293 (52, [.inr (11, x0), .inl (0, x1), .inl (0, x2), tu], [], 0, 0, d) K := tT_run (cut := [0, 10, 19, 24, 28, 52]) 16 _ h
theorem t_294_0 {E : mO × tW} {K : tK} {d : mD} {x0 : Int}
  (h : mInR (d x0 7) ∧ (d x0 7 ≤ 0 → mInR ((mset d x0 0 1) x0 0) ∧ ((mset d x0 0 1) x0 0 ≤ 0 → tRun E 294 (37, [.inr (11, x0), .inl (0, 0)], [], 0, 0, mset (mset d x0 0 1) x0 7 (((mset d x0 0 1) x0 7) - 1)) K) ∧ (0 < (mset d x0 0 1) x0 0 → K (.inl (some (0, 0))) (mset d x0 0 1))) ∧ (0 < d x0 7 → mInR ((mset d x0 0 0) x0 0) ∧ ((mset d x0 0 0) x0 0 ≤ 0 → tRun E 294 (37, [.inr (11, x0), .inl (0, 0)], [], 0, 0, mset (mset d x0 0 0) x0 7 (((mset d x0 0 0) x0 7) - 1)) K) ∧ (0 < (mset d x0 0 0) x0 0 → K (.inl (some (0, 0))) (mset d x0 0 0)))) :
  tRun E 294 (0, [.inr (11, x0), tu], [], 0, 0, d) K := tT_run (cut := [0, 37]) 18 _ h
theorem t_294_37 {E : mO × tW} {K : tK} {d : mD} {x0 x1 : Int}
  (h : (mInR x1 ∧ mInR 3116) ∧ (3116 ≤ x1 → K (.inl (some (0, d x0 7))) d) ∧ (x1 < 3116 → (0 ≤ (3116 * (d x0 7)) + x1 ∧ (3116 * (d x0 7)) + x1 < 24928) ∧ (0 ≤ x1 ∧ x1 < 3116) ∧ tRun E 294 (37, [.inr (11, x0), .inl (0, x1 + 1)], [], 0, 0, mset d (x0 + 1) x1 (d (x0 + 2) ((3116 * (d x0 7)) + x1))) K)) :
  tRun E 294 (37, [.inr (11, x0), .inl (0, x1)], [], 0, 0, d) K := tT_run (cut := [0, 37]) 18 _ h
theorem t_295_0 {E : mO × tW} {K : tK} {d : mD} {x0 x1 : Int}
  (h : mInR x1 ∧ tCall E 176 [.inl (1, x1), .inl (1, 0), .inl (1, 1)] d (tbk E 295 5 [.inr (11, x0), .inl (0, x1), tu] [.inr (11, x0)] 0 0 K)) :
  tRun E 295 (0, [.inr (11, x0), .inl (0, x1), tu], [], 0, 0, d) K := tT_run (cut := [0, 8, 29]) 6 _ h
theorem t_295_8 {E : mO × tW} {K : tK} {d : mD} {x0 x1 y0 y1 : Int}
  (h : mInR y1 ∧ (y1 = 0 → mInR ((mset d y0 0 1) x0 0) ∧ ((mset d y0 0 1) x0 0 ≤ 0 → tRun E 295 (29, [.inr (11, x0), .inl (0, x1), .inl (0, 0)], [], 0, 0, mset d y0 0 1) K) ∧ (0 < (mset d y0 0 1) x0 0 → K (.inl none) (mset d y0 0 1))) ∧ (¬ y1 = 0 → mInR ((mset d y0 0 0) x0 0) ∧ ((mset d y0 0 0) x0 0 ≤ 0 → tRun E 295 (29, [.inr (11, x0), .inl (0, x1), .inl (0, 0)], [], 0, 0, mset d y0 0 0) K) ∧ (0 < (mset d y0 0 0) x0 0 → K (.inl none) (mset d y0 0 0)))) :
  tRun E 295 (8, [.inr (11, x0), .inl (0, x1), tu], [.inl (0, y1), .inr (11, y0)], 0, 0, d) K := tT_run (cut := [0, 8, 29]) 9 _ h
theorem t_295_29 {E : mO × tW} {K : tK} {d : mD} {x0 x1 x2 : Int}
  (h : (mInR x2 ∧ mInR 3116) ∧ (3116 ≤ x2 → (((1 : Int) = 0 ∨ (1 : Int) = 1) ∧ 0 ≤ x1 ∧ x1 < 2) ∧ K (.inl none) (mset d (x0 + 6) x1 1)) ∧ (x2 < 3116 → (0 ≤ x2 ∧ x2 < 3116) ∧ (0 ≤ (3116 * x1) + x2 ∧ (3116 * x1) + x2 < 6232) ∧ tRun E 295 (29, [.inr (11, x0), .inl (0, x1), .inl (0, x2 + 1)], [], 0, 0, mset d (x0 + 3) ((3116 * x1) + x2) (d (x0 + 1) x2)) K)) :
  tRun E 295 (29, [.inr (11, x0), .inl (0, x1), .inl (0, x2)], [], 0, 0, d) K := tT_run (cut := [0, 8, 29]) 17 _ h
theorem t_296_0 {E : mO × tW} {K : tK} {d : mD} {x0 x1 : Int}
  (h : mInR x1 ∧ tCall E 176 [.inl (1, x1), .inl (1, 0), .inl (1, 1)] d (tbk E 296 5 [.inr (11, x0), .inl (0, x1), tu] [.inr (11, x0)] 0 0 K)) :
  tRun E 296 (0, [.inr (11, x0), .inl (0, x1), tu], [], 0, 0, d) K := tT_run (cut := [0, 8, 42]) 6 _ h
theorem t_296_8 {E : mO × tW} {K : tK} {d : mD} {x0 x1 y0 y1 : Int}
  (h : mInR y1 ∧ (¬ y1 = 0 → (0 ≤ x1 ∧ x1 < 2) ∧ mInR (d (x0 + 6) x1) ∧ (d (x0 + 6) x1 = 0 → mInR ((mset d y0 0 2) x0 0) ∧ ((mset d y0 0 2) x0 0 ≤ 0 → tRun E 296 (42, [.inr (11, x0), .inl (0, x1), .inl (0, 0)], [], 0, 0, mset d y0 0 2) K) ∧ (0 < (mset d y0 0 2) x0 0 → K (.inl none) (mset d y0 0 2))) ∧ (¬ d (x0 + 6) x1 = 0 → mInR ((mset d y0 0 0) x0 0) ∧ ((mset d y0 0 0) x0 0 ≤ 0 → tRun E 296 (42, [.inr (11, x0), .inl (0, x1), .inl (0, 0)], [], 0, 0, mset d y0 0 0) K) ∧ (0 < (mset d y0 0 0) x0 0 → K (.inl none) (mset d y0 0 0)))) ∧ (y1 = 0 → mInR ((mset d y0 0 1) x0 0) ∧ ((mset d y0 0 1) x0 0 ≤ 0 → tRun E 296 (42, [.inr (11, x0), .inl (0, x1), .inl (0, 0)], [], 0, 0, mset d y0 0 1) K) ∧ (0 < (mset d y0 0 1) x0 0 → K (.inl none) (mset d y0 0 1)))) :
  tRun E 296 (8, [.inr (11, x0), .inl (0, x1), tu], [.inl (0, y1), .inr (11, y0)], 0, 0, d) K := tT_run (cut := [0, 8, 42]) 14 _ h
theorem t_296_42 {E : mO × tW} {K : tK} {d : mD} {x0 x1 x2 : Int}
  (h : (mInR x2 ∧ mInR 3116) ∧ (3116 ≤ x2 → K (.inl none) (mset d x0 7 0)) ∧ (x2 < 3116 → (0 ≤ (3116 * x1) + x2 ∧ (3116 * x1) + x2 < 6232) ∧ (0 ≤ x2 ∧ x2 < 3116) ∧ tRun E 296 (42, [.inr (11, x0), .inl (0, x1), .inl (0, x2 + 1)], [], 0, 0, mset d (x0 + 1) x2 (d (x0 + 3) ((3116 * x1) + x2))) K)) :
  tRun E 296 (42, [.inr (11, x0), .inl (0, x1), .inl (0, x2)], [], 0, 0, d) K := tT_run (cut := [0, 8, 42]) 17 _ h
theorem t_297_0 {E : mO × tW} {K : tK} {d : mD} {x0 : Int}
  (h : K (.inl (some (0, miand ((((mland (((mland (x0 - (mland (mlushr x0 1) 6148914691236517205)) 3689348814741910323) + (mland (mlushr (x0 - (mland (mlushr x0 1) 6148914691236517205)) 2) 3689348814741910323)) + (mlushr ((mland (x0 - (mland (mlushr x0 1) 6148914691236517205)) 3689348814741910323) + (mland (mlushr (x0 - (mland (mlushr x0 1) 6148914691236517205)) 2) 3689348814741910323)) 4)) 1085102592571150095) + (mlushr (mland (((mland (x0 - (mland (mlushr x0 1) 6148914691236517205)) 3689348814741910323) + (mland (mlushr (x0 - (mland (mlushr x0 1) 6148914691236517205)) 2) 3689348814741910323)) + (mlushr ((mland (x0 - (mland (mlushr x0 1) 6148914691236517205)) 3689348814741910323) + (mland (mlushr (x0 - (mland (mlushr x0 1) 6148914691236517205)) 2) 3689348814741910323)) 4)) 1085102592571150095) 8)) + (mlushr ((mland (((mland (x0 - (mland (mlushr x0 1) 6148914691236517205)) 3689348814741910323) + (mland (mlushr (x0 - (mland (mlushr x0 1) 6148914691236517205)) 2) 3689348814741910323)) + (mlushr ((mland (x0 - (mland (mlushr x0 1) 6148914691236517205)) 3689348814741910323) + (mland (mlushr (x0 - (mland (mlushr x0 1) 6148914691236517205)) 2) 3689348814741910323)) 4)) 1085102592571150095) + (mlushr (mland (((mland (x0 - (mland (mlushr x0 1) 6148914691236517205)) 3689348814741910323) + (mland (mlushr (x0 - (mland (mlushr x0 1) 6148914691236517205)) 2) 3689348814741910323)) + (mlushr ((mland (x0 - (mland (mlushr x0 1) 6148914691236517205)) 3689348814741910323) + (mland (mlushr (x0 - (mland (mlushr x0 1) 6148914691236517205)) 2) 3689348814741910323)) 4)) 1085102592571150095) 8)) 16)) + (mlushr (((mland (((mland (x0 - (mland (mlushr x0 1) 6148914691236517205)) 3689348814741910323) + (mland (mlushr (x0 - (mland (mlushr x0 1) 6148914691236517205)) 2) 3689348814741910323)) + (mlushr ((mland (x0 - (mland (mlushr x0 1) 6148914691236517205)) 3689348814741910323) + (mland (mlushr (x0 - (mland (mlushr x0 1) 6148914691236517205)) 2) 3689348814741910323)) 4)) 1085102592571150095) + (mlushr (mland (((mland (x0 - (mland (mlushr x0 1) 6148914691236517205)) 3689348814741910323) + (mland (mlushr (x0 - (mland (mlushr x0 1) 6148914691236517205)) 2) 3689348814741910323)) + (mlushr ((mland (x0 - (mland (mlushr x0 1) 6148914691236517205)) 3689348814741910323) + (mland (mlushr (x0 - (mland (mlushr x0 1) 6148914691236517205)) 2) 3689348814741910323)) 4)) 1085102592571150095) 8)) + (mlushr ((mland (((mland (x0 - (mland (mlushr x0 1) 6148914691236517205)) 3689348814741910323) + (mland (mlushr (x0 - (mland (mlushr x0 1) 6148914691236517205)) 2) 3689348814741910323)) + (mlushr ((mland (x0 - (mland (mlushr x0 1) 6148914691236517205)) 3689348814741910323) + (mland (mlushr (x0 - (mland (mlushr x0 1) 6148914691236517205)) 2) 3689348814741910323)) 4)) 1085102592571150095) + (mlushr (mland (((mland (x0 - (mland (mlushr x0 1) 6148914691236517205)) 3689348814741910323) + (mland (mlushr (x0 - (mland (mlushr x0 1) 6148914691236517205)) 2) 3689348814741910323)) + (mlushr ((mland (x0 - (mland (mlushr x0 1) 6148914691236517205)) 3689348814741910323) + (mland (mlushr (x0 - (mland (mlushr x0 1) 6148914691236517205)) 2) 3689348814741910323)) 4)) 1085102592571150095) 8)) 16)) 32)) 127))) d) :
  tRun E 297 (0, [.inl (1, x0), tu], [], 0, 0, d) K := tT_run (cut := [0]) 49 _ h
theorem t_298_0 {E : mO × tW} {K : tK} {d : mD} {x0 : Int}
  (h : K (.inl (some (0, miand (((miand (((miand (x0 - (miand (miushr x0 1) 1431655765)) 858993459) + (miand (miushr (x0 - (miand (miushr x0 1) 1431655765)) 2) 858993459)) + (miushr ((miand (x0 - (miand (miushr x0 1) 1431655765)) 858993459) + (miand (miushr (x0 - (miand (miushr x0 1) 1431655765)) 2) 858993459)) 4)) 252645135) + (miushr (miand (((miand (x0 - (miand (miushr x0 1) 1431655765)) 858993459) + (miand (miushr (x0 - (miand (miushr x0 1) 1431655765)) 2) 858993459)) + (miushr ((miand (x0 - (miand (miushr x0 1) 1431655765)) 858993459) + (miand (miushr (x0 - (miand (miushr x0 1) 1431655765)) 2) 858993459)) 4)) 252645135) 8)) + (miushr ((miand (((miand (x0 - (miand (miushr x0 1) 1431655765)) 858993459) + (miand (miushr (x0 - (miand (miushr x0 1) 1431655765)) 2) 858993459)) + (miushr ((miand (x0 - (miand (miushr x0 1) 1431655765)) 858993459) + (miand (miushr (x0 - (miand (miushr x0 1) 1431655765)) 2) 858993459)) 4)) 252645135) + (miushr (miand (((miand (x0 - (miand (miushr x0 1) 1431655765)) 858993459) + (miand (miushr (x0 - (miand (miushr x0 1) 1431655765)) 2) 858993459)) + (miushr ((miand (x0 - (miand (miushr x0 1) 1431655765)) 858993459) + (miand (miushr (x0 - (miand (miushr x0 1) 1431655765)) 2) 858993459)) 4)) 252645135) 8)) 16)) 63))) d) :
  tRun E 298 (0, [.inl (0, x0)], [], 0, 0, d) K := tT_run (cut := [0]) 42 _ h
theorem t_299_0 {E : mO × tW} {K : tK} {d : mD} {x0 x1 : Int}
  (h : tRun E 299 (5, [.inr (18, x0), .inl (0, x1), .inl (0, 0), .inl (0, 16)], [], 0, 0, d) K) :
  tRun E 299 (0, [.inr (18, x0), .inl (0, x1), tu, tu], [], 0, 0, d) K := tT_run (cut := [0, 5]) 5 _ h
theorem t_299_5 {E : mO × tW} {K : tK} {d : mD} {x0 x1 x2 x3 : Int}
  (h : (mInR x2 ∧ mInR x3) ∧ (x3 ≤ x2 → K (.inl none) d) ∧ (x2 < x3 → (0 ≤ x2 ∧ x2 < 16) ∧ tRun E 299 (5, [.inr (18, x0), .inl (0, x1), .inl (0, x2 + 1), .inl (0, x3)], [], 0, 0, mset d x0 x2 x1) K)) :
  tRun E 299 (5, [.inr (18, x0), .inl (0, x1), .inl (0, x2), .inl (0, x3)], [], 0, 0, d) K := tT_run (cut := [0, 5]) 9 _ h
theorem t_300_0 {E : mO × tW} {K : tK} {d : mD} {x0 x1 : Int}
  (h : tRun E 300 (6, [.inr (20, x0), .inl (1, x1), tu, .inl (0, 0), .inl (0, 16)], [], 0, 0, d) K) :
  tRun E 300 (0, [.inr (20, x0), .inl (1, x1), tu, tu, tu], [], 0, 0, d) K := tT_run (cut := [0, 6]) 5 _ h
theorem t_300_6 {E : mO × tW} {K : tK} {d : mD} {x0 x1 x3 x4 : Int}
  (h : (mInR x3 ∧ mInR x4) ∧ (x4 ≤ x3 → K (.inl none) d) ∧ (x3 < x4 → (0 ≤ x3 ∧ x3 < 16) ∧ tRun E 300 (6, [.inr (20, x0), .inl (1, x1), tu, .inl (0, x3 + 1), .inl (0, x4)], [], 0, 0, mset d x0 x3 x1) K)) :
  tRun E 300 (6, [.inr (20, x0), .inl (1, x1), tu, .inl (0, x3), .inl (0, x4)], [], 0, 0, d) K := tT_run (cut := [0, 6]) 9 _ h
theorem t_301_0 {E : mO × tW} {K : tK} {d : mD} {x0 x1 x2 x3 x4 x5 x6 : Int}
  (h : tCall E 118 [.inr (10, x0), .inl (0, x1), .inl (0, x2), .inl (0, x3), .inl (0, x4), .inl (0, x5)] d (tbk E 301 11 [.inr (10, x0), .inl (0, x1), .inl (0, x2), .inl (0, x3), .inl (0, x4), .inl (0, x5), .inr (30, x6), tu] [.inl (0, 0), .inr (30, x6)] 1 6 K)) :
  tRun E 301 (0, [.inr (10, x0), .inl (0, x1), .inl (0, x2), .inl (0, x3), .inl (0, x4), .inl (0, x5), .inr (30, x6), tu], [], 0, 0, d) K := tT_run (cut := [0, 14]) 9 _ h
theorem t_301_14 {E : mO × tW} {K : tK} {d : mD} {x0 x1 x2 x3 x4 x5 x6 y0 y1 y2 : Int}
  (h : mInR y2 ∧ (0 ≤ y1 ∧ y1 < 1) ∧ K (.inl (some (0, 0))) (mset d y0 y1 y2)) :
  tRun E 301 (14, [.inr (10, x0), .inl (0, x1), .inl (0, x2), .inl (0, x3), .inl (0, x4), .inl (0, x5), .inr (30, x6), tu], [.inl (0, y2), .inl (0, y1), .inr (30, y0)], 1, 6, d) K := tT_run (cut := [0, 14]) 5 _ h
theorem t_302_0 {E : mO × tW} {K : tK} {d : mD} {x0 x1 x2 : Int}
  (h : tCall E 119 [.inr (10, x0), .inl (0, x1)] d (tbk E 302 4 [.inr (10, x0), .inl (0, x1), .inr (30, x2), tu] [.inl (0, 0), .inr (30, x2)] 1 6 K)) :
  tRun E 302 (0, [.inr (10, x0), .inl (0, x1), .inr (30, x2), tu], [], 0, 0, d) K := tT_run (cut := [0, 7]) 5 _ h
theorem t_302_7 {E : mO × tW} {K : tK} {d : mD} {x0 x1 x2 y0 y1 y2 : Int}
  (h : mInR y2 ∧ (0 ≤ y1 ∧ y1 < 1) ∧ K (.inl (some (0, 0))) (mset d y0 y1 y2)) :
  tRun E 302 (7, [.inr (10, x0), .inl (0, x1), .inr (30, x2), tu], [.inl (0, y2), .inl (0, y1), .inr (30, y0)], 1, 6, d) K := tT_run (cut := [0, 7]) 5 _ h
theorem t_303_0 {E : mO × tW} {K : tK} {d : mD} {x0 x1 : Int}
  (h : tCall E 120 [.inr (10, x0)] d (tbk E 303 3 [.inr (10, x0), .inr (30, x1), tu] [.inl (0, 0), .inr (30, x1)] 1 6 K)) :
  tRun E 303 (0, [.inr (10, x0), .inr (30, x1), tu], [], 0, 0, d) K := tT_run (cut := [0, 6]) 4 _ h
theorem t_303_6 {E : mO × tW} {K : tK} {d : mD} {x0 x1 y0 y1 y2 : Int}
  (h : mInR y2 ∧ (0 ≤ y1 ∧ y1 < 1) ∧ K (.inl (some (0, 0))) (mset d y0 y1 y2)) :
  tRun E 303 (6, [.inr (10, x0), .inr (30, x1), tu], [.inl (0, y2), .inl (0, y1), .inr (30, y0)], 1, 6, d) K := tT_run (cut := [0, 6]) 5 _ h
theorem t_304_0 {E : mO × tW} {K : tK} {d : mD} {x0 x1 x2 : Int}
  (h : tCall E 123 [.inr (10, x0), .inl (0, x1)] d (tbk E 304 4 [.inr (10, x0), .inl (0, x1), .inr (30, x2), tu] [.inl (0, 0), .inr (30, x2)] 1 6 K)) :
  tRun E 304 (0, [.inr (10, x0), .inl (0, x1), .inr (30, x2), tu], [], 0, 0, d) K := tT_run (cut := [0, 7]) 5 _ h
theorem t_304_7 {E : mO × tW} {K : tK} {d : mD} {x0 x1 x2 y0 y1 y2 : Int}
  (h : mInR y2 ∧ (0 ≤ y1 ∧ y1 < 1) ∧ K (.inl (some (0, 0))) (mset d y0 y1 y2)) :
  tRun E 304 (7, [.inr (10, x0), .inl (0, x1), .inr (30, x2), tu], [.inl (0, y2), .inl (0, y1), .inr (30, y0)], 1, 6, d) K := tT_run (cut := [0, 7]) 5 _ h
theorem t_305_0 {E : mO × tW} {K : tK} {d : mD} {x0 x1 x2 : Int}
  (h : tCall E 124 [.inr (10, x0), .inl (0, x1)] d (tbk E 305 4 [.inr (10, x0), .inl (0, x1), .inr (30, x2), tu] [.inl (0, 0), .inr (30, x2)] 1 6 K)) :
  tRun E 305 (0, [.inr (10, x0), .inl (0, x1), .inr (30, x2), tu], [], 0, 0, d) K := tT_run (cut := [0, 7]) 5 _ h
theorem t_305_7 {E : mO × tW} {K : tK} {d : mD} {x0 x1 x2 y0 y1 y2 : Int}
  (h : mInR y2 ∧ (0 ≤ y1 ∧ y1 < 1) ∧ K (.inl (some (0, 0))) (mset d y0 y1 y2)) :
  tRun E 305 (7, [.inr (10, x0), .inl (0, x1), .inr (30, x2), tu], [.inl (0, y2), .inl (0, y1), .inr (30, y0)], 1, 6, d) K := tT_run (cut := [0, 7]) 5 _ h
theorem t_306_0 {E : mO × tW} {K : tK} {d : mD} {x0 x1 x2 : Int}
  (h : tCall E 125 [.inr (10, x0), .inl (0, x1)] d (tbk E 306 4 [.inr (10, x0), .inl (0, x1), .inr (30, x2), tu] [.inl (0, 0), .inr (30, x2)] 1 6 K)) :
  tRun E 306 (0, [.inr (10, x0), .inl (0, x1), .inr (30, x2), tu], [], 0, 0, d) K := tT_run (cut := [0, 7]) 5 _ h
theorem t_306_7 {E : mO × tW} {K : tK} {d : mD} {x0 x1 x2 y0 y1 y2 : Int}
  (h : mInR y2 ∧ (0 ≤ y1 ∧ y1 < 1) ∧ K (.inl (some (0, 0))) (mset d y0 y1 y2)) :
  tRun E 306 (7, [.inr (10, x0), .inl (0, x1), .inr (30, x2), tu], [.inl (0, y2), .inl (0, y1), .inr (30, y0)], 1, 6, d) K := tT_run (cut := [0, 7]) 5 _ h
theorem t_307_0 {E : mO × tW} {K : tK} {d : mD} {x0 x1 x2 x3 : Int}
  (h : tCall E 126 [.inr (10, x0), .inl (0, x1), .inl (0, x2)] d (tbk E 307 5 [.inr (10, x0), .inl (0, x1), .inl (0, x2), .inr (30, x3), tu] [.inl (0, 0), .inr (30, x3)] 2 12 K)) :
  tRun E 307 (0, [.inr (10, x0), .inl (0, x1), .inl (0, x2), .inr (30, x3), tu], [], 0, 0, d) K := tT_run (cut := [0, 8]) 6 _ h
theorem t_307_8 {E : mO × tW} {K : tK} {d : mD} {x0 x1 x2 x3 y0 y1 y2 : Int}
  (h : mInR y2 ∧ (0 ≤ y1 ∧ y1 < 1) ∧ K (.inl (some (0, 0))) (mset d y0 y1 y2)) :
  tRun E 307 (8, [.inr (10, x0), .inl (0, x1), .inl (0, x2), .inr (30, x3), tu], [.inl (0, y2), .inl (0, y1), .inr (30, y0)], 2, 12, d) K := tT_run (cut := [0, 8]) 5 _ h
theorem t_308_0 {E : mO × tW} {K : tK} {d : mD} {x0 x1 x2 x3 : Int}
  (h : tCall E 127 [.inr (10, x0), .inl (0, x1), .inl (0, x2)] d (tbk E 308 5 [.inr (10, x0), .inl (0, x1), .inl (0, x2), .inr (30, x3), tu] [.inl (0, 0), .inr (30, x3)] 2 12 K)) :
  tRun E 308 (0, [.inr (10, x0), .inl (0, x1), .inl (0, x2), .inr (30, x3), tu], [], 0, 0, d) K := tT_run (cut := [0, 8]) 6 _ h
theorem t_308_8 {E : mO × tW} {K : tK} {d : mD} {x0 x1 x2 x3 y0 y1 y2 : Int}
  (h : mInR y2 ∧ (0 ≤ y1 ∧ y1 < 1) ∧ K (.inl (some (0, 0))) (mset d y0 y1 y2)) :
  tRun E 308 (8, [.inr (10, x0), .inl (0, x1), .inl (0, x2), .inr (30, x3), tu], [.inl (0, y2), .inl (0, y1), .inr (30, y0)], 2, 12, d) K := tT_run (cut := [0, 8]) 5 _ h
theorem t_309_0 {E : mO × tW} {K : tK} {d : mD} {x0 x1 x2 x3 : Int}
  (h : tCall E 128 [.inr (10, x0), .inl (0, x1), .inl (0, x2)] d (tbk E 309 5 [.inr (10, x0), .inl (0, x1), .inl (0, x2), .inr (30, x3), tu] [.inl (0, 0), .inr (30, x3)] 2 12 K)) :
  tRun E 309 (0, [.inr (10, x0), .inl (0, x1), .inl (0, x2), .inr (30, x3), tu], [], 0, 0, d) K := tT_run (cut := [0, 8]) 6 _ h
theorem t_309_8 {E : mO × tW} {K : tK} {d : mD} {x0 x1 x2 x3 y0 y1 y2 : Int}
  (h : mInR y2 ∧ (0 ≤ y1 ∧ y1 < 1) ∧ K (.inl (some (0, 0))) (mset d y0 y1 y2)) :
  tRun E 309 (8, [.inr (10, x0), .inl (0, x1), .inl (0, x2), .inr (30, x3), tu], [.inl (0, y2), .inl (0, y1), .inr (30, y0)], 2, 12, d) K := tT_run (cut := [0, 8]) 5 _ h
theorem t_310_0 {E : mO × tW} {K : tK} {d : mD} {x0 x1 x2 x3 : Int}
  (h : tCall E 129 [.inr (10, x0), .inl (0, x1), .inl (0, x2)] d (tbk E 310 5 [.inr (10, x0), .inl (0, x1), .inl (0, x2), .inr (30, x3), tu] [.inl (0, 0), .inr (30, x3)] 2 12 K)) :
  tRun E 310 (0, [.inr (10, x0), .inl (0, x1), .inl (0, x2), .inr (30, x3), tu], [], 0, 0, d) K := tT_run (cut := [0, 8]) 6 _ h
theorem t_310_8 {E : mO × tW} {K : tK} {d : mD} {x0 x1 x2 x3 y0 y1 y2 : Int}
  (h : mInR y2 ∧ (0 ≤ y1 ∧ y1 < 1) ∧ K (.inl (some (0, 0))) (mset d y0 y1 y2)) :
  tRun E 310 (8, [.inr (10, x0), .inl (0, x1), .inl (0, x2), .inr (30, x3), tu], [.inl (0, y2), .inl (0, y1), .inr (30, y0)], 2, 12, d) K := tT_run (cut := [0, 8]) 5 _ h
theorem t_311_0 {E : mO × tW} {K : tK} {d : mD} {x0 x1 x2 x3 : Int}
  (h : tCall E 130 [.inr (10, x0), .inl (0, x1), .inl (0, x2)] d (tbk E 311 5 [.inr (10, x0), .inl (0, x1), .inl (0, x2), .inr (30, x3), tu] [.inl (0, 0), .inr (30, x3)] 1 6 K)) :
  tRun E 311 (0, [.inr (10, x0), .inl (0, x1), .inl (0, x2), .inr (30, x3), tu], [], 0, 0, d) K := tT_run (cut := [0, 8]) 6 _ h
theorem t_311_8 {E : mO × tW} {K : tK} {d : mD} {x0 x1 x2 x3 y0 y1 y2 : Int}
  (h : mInR y2 ∧ (0 ≤ y1 ∧ y1 < 1) ∧ K (.inl (some (0, 0))) (mset d y0 y1 y2)) :
  tRun E 311 (8, [.inr (10, x0), .inl (0, x1), .inl (0, x2), .inr (30, x3), tu], [.inl (0, y2), .inl (0, y1), .inr (30, y0)], 1, 6, d) K := tT_run (cut := [0, 8]) 5 _ h
theorem t_312_0 {E : mO × tW} {K : tK} {d : mD} {x0 x1 x2 x3 : Int}
  (h : tCall E 131 [.inr (10, x0), .inl (0, x1), .inl (0, x2)] d (tbk E 312 5 [.inr (10, x0), .inl (0, x1), .inl (0, x2), .inr (30, x3), tu] [.inl (0, 0), .inr (30, x3)] 2 12 K)) :
  tRun E 312 (0, [.inr (10, x0), .inl (0, x1), .inl (0, x2), .inr (30, x3), tu], [], 0, 0, d) K := tT_run (cut := [0, 8]) 6 _ h
theorem t_312_8 {E : mO × tW} {K : tK} {d : mD} {x0 x1 x2 x3 y0 y1 y2 : Int}
  (h : mInR y2 ∧ (y2 = 0 → (0 ≤ y1 ∧ y1 < 1) ∧ K (.inl (some (0, 0))) (mset d y0 y1 0)) ∧ (¬ y2 = 0 → (0 ≤ y1 ∧ y1 < 1) ∧ K (.inl (some (0, 0))) (mset d y0 y1 1))) :
  tRun E 312 (8, [.inr (10, x0), .inl (0, x1), .inl (0, x2), .inr (30, x3), tu], [.inl (0, y2), .inl (0, y1), .inr (30, y0)], 2, 12, d) K := tT_run (cut := [0, 8]) 7 _ h
theorem t_313_0 {E : mO × tW} {K : tK} {d : mD} {x0 x1 x2 x3 : Int}
  (h : tCall E 132 [.inr (10, x0), .inl (0, x1), .inl (0, x2)] d (tbk E 313 5 [.inr (10, x0), .inl (0, x1), .inl (0, x2), .inr (30, x3), tu] [.inl (0, 0), .inr (30, x3)] 2 12 K)) :
  tRun E 313 (0, [.inr (10, x0), .inl (0, x1), .inl (0, x2), .inr (30, x3), tu], [], 0, 0, d) K := tT_run (cut := [0, 8]) 6 _ h
theorem t_313_8 {E : mO × tW} {K : tK} {d : mD} {x0 x1 x2 x3 y0 y1 y2 : Int}
  (h : mInR y2 ∧ (0 ≤ y1 ∧ y1 < 1) ∧ K (.inl (some (0, 0))) (mset d y0 y1 y2)) :
  tRun E 313 (8, [.inr (10, x0), .inl (0, x1), .inl (0, x2), .inr (30, x3), tu], [.inl (0, y2), .inl (0, y1), .inr (30, y0)], 2, 12, d) K := tT_run (cut := [0, 8]) 5 _ h
theorem t_314_0 {E : mO × tW} {K : tK} {d : mD} {x0 x1 x2 x3 : Int}
  (h : tCall E 133 [.inr (10, x0), .inl (0, x1), .inl (0, x2)] d (tbk E 314 5 [.inr (10, x0), .inl (0, x1), .inl (0, x2), .inr (30, x3), tu] [.inl (0, 0), .inr (30, x3)] 2 12 K)) :
  tRun E 314 (0, [.inr (10, x0), .inl (0, x1), .inl (0, x2), .inr (30, x3), tu], [], 0, 0, d) K := tT_run (cut := [0, 8]) 6 _ h
theorem t_314_8 {E : mO × tW} {K : tK} {d : mD} {x0 x1 x2 x3 y0 y1 y2 : Int}
  (h : mInR y2 ∧ (0 ≤ y1 ∧ y1 < 1) ∧ K (.inl (some (0, 0))) (mset d y0 y1 y2)) :
  tRun E 314 (8, [.inr (10, x0), .inl (0, x1), .inl (0, x2), .inr (30, x3), tu], [.inl (0, y2), .inl (0, y1), .inr (30, y0)], 2, 12, d) K := tT_run (cut := [0, 8]) 5 _ h
theorem t_315_0 {E : mO × tW} {K : tK} {d : mD} {x0 x1 x2 x3 : Int}
  (h : tCall E 134 [.inr (10, x0), .inl (0, x1), .inl (0, x2)] d (tbk E 315 5 [.inr (10, x0), .inl (0, x1), .inl (0, x2), .inr (30, x3), tu] [.inl (0, 0), .inr (30, x3)] 2 12 K)) :
  tRun E 315 (0, [.inr (10, x0), .inl (0, x1), .inl (0, x2), .inr (30, x3), tu], [], 0, 0, d) K := tT_run (cut := [0, 8]) 6 _ h
theorem t_315_8 {E : mO × tW} {K : tK} {d : mD} {x0 x1 x2 x3 y0 y1 y2 : Int}
  (h : mInR y2 ∧ (0 ≤ y1 ∧ y1 < 1) ∧ K (.inl (some (0, 0))) (mset d y0 y1 y2)) :
  tRun E 315 (8, [.inr (10, x0), .inl (0, x1), .inl (0, x2), .inr (30, x3), tu], [.inl (0, y2), .inl (0, y1), .inr (30, y0)], 2, 12, d) K := tT_run (cut := [0, 8]) 5 _ h
theorem t_316_0 {E : mO × tW} {K : tK} {d : mD} {x0 x1 x2 x3 : Int}
  (h : tCall E 135 [.inr (10, x0), .inl (0, x1), .inl (0, x2)] d (tbk E 316 5 [.inr (10, x0), .inl (0, x1), .inl (0, x2), .inr (30, x3), tu] [.inl (0, 0), .inr (30, x3)] 2 12 K)) :
  tRun E 316 (0, [.inr (10, x0), .inl (0, x1), .inl (0, x2), .inr (30, x3), tu], [], 0, 0, d) K := tT_run (cut := [0, 8]) 6 _ h
theorem t_316_8 {E : mO × tW} {K : tK} {d : mD} {x0 x1 x2 x3 y0 y1 y2 : Int}
  (h : mInR y2 ∧ (y2 = 0 → (0 ≤ y1 ∧ y1 < 1) ∧ K (.inl (some (0, 0))) (mset d y0 y1 0)) ∧ (¬ y2 = 0 → (0 ≤ y1 ∧ y1 < 1) ∧ K (.inl (some (0, 0))) (mset d y0 y1 1))) :
  tRun E 316 (8, [.inr (10, x0), .inl (0, x1), .inl (0, x2), .inr (30, x3), tu], [.inl (0, y2), .inl (0, y1), .inr (30, y0)], 2, 12, d) K := tT_run (cut := [0, 8]) 7 _ h
theorem t_317_0 {E : mO × tW} {K : tK} {d : mD} {x0 x1 x2 : Int}
  (h : tCall E 136 [.inr (10, x0), .inl (0, x1)] d (tbk E 317 4 [.inr (10, x0), .inl (0, x1), .inr (30, x2), tu] [.inl (0, 0), .inr (30, x2)] 1 6 K)) :
  tRun E 317 (0, [.inr (10, x0), .inl (0, x1), .inr (30, x2), tu], [], 0, 0, d) K := tT_run (cut := [0, 7]) 5 _ h
theorem t_317_7 {E : mO × tW} {K : tK} {d : mD} {x0 x1 x2 y0 y1 y2 : Int}
  (h : mInR y2 ∧ (0 ≤ y1 ∧ y1 < 1) ∧ K (.inl (some (0, 0))) (mset d y0 y1 y2)) :
  tRun E 317 (7, [.inr (10, x0), .inl (0, x1), .inr (30, x2), tu], [.inl (0, y2), .inl (0, y1), .inr (30, y0)], 1, 6, d) K := tT_run (cut := [0, 7]) 5 _ h
theorem t_318_0 {E : mO × tW} {K : tK} {d : mD} {x0 x1 x2 : Int}
  (h : tCall E 142 [.inr (10, x0), .inl (0, x1)] d (tbk E 318 4 [.inr (10, x0), .inl (0, x1), .inr (30, x2), tu] [.inl (0, 0), .inr (30, x2)] 2 12 K)) :
  tRun E 318 (0, [.inr (10, x0), .inl (0, x1), .inr (30, x2), tu], [], 0, 0, d) K := tT_run (cut := [0, 7]) 5 _ h
theorem t_318_7 {E : mO × tW} {K : tK} {d : mD} {x0 x1 x2 y0 y1 y2 : Int}
  (h : mInR y2 ∧ (0 ≤ y1 ∧ y1 < 1) ∧ K (.inl (some (0, 0))) (mset d y0 y1 y2)) :
  tRun E 318 (7, [.inr (10, x0), .inl (0, x1), .inr (30, x2), tu], [.inl (0, y2), .inl (0, y1), .inr (30, y0)], 2, 12, d) K := tT_run (cut := [0, 7]) 5 _ h
theorem t_319_0 {E : mO × tW} {K : tK} {d : mD} {x0 x1 x2 x3 : Int}
  (h : tCall E 143 [.inr (10, x0), .inl (0, x1), .inl (0, x2)] d (tbk E 319 5 [.inr (10, x0), .inl (0, x1), .inl (0, x2), .inr (30, x3), tu] [.inl (0, 0), .inr (30, x3)] 2 12 K)) :
  tRun E 319 (0, [.inr (10, x0), .inl (0, x1), .inl (0, x2), .inr (30, x3), tu], [], 0, 0, d) K := tT_run (cut := [0, 8]) 6 _ h
theorem t_319_8 {E : mO × tW} {K : tK} {d : mD} {x0 x1 x2 x3 y0 y1 y2 : Int}
  (h : mInR y2 ∧ (0 ≤ y1 ∧ y1 < 1) ∧ K (.inl (some (0, 0))) (mset d y0 y1 y2)) :
  tRun E 319 (8, [.inr (10, x0), .inl (0, x1), .inl (0, x2), .inr (30, x3), tu], [.inl (0, y2), .inl (0, y1), .inr (30, y0)], 2, 12, d) K := tT_run (cut := [0, 8]) 5 _ h
theorem t_320_0 {E : mO × tW} {K : tK} {d : mD} {x0 x1 x2 : Int}
  (h : tCall E 144 [.inr (10, x0), .inl (0, x1)] d (tbk E 320 4 [.inr (10, x0), .inl (0, x1), .inr (30, x2), tu] [.inl (0, 0), .inr (30, x2)] 1 6 K)) :
  tRun E 320 (0, [.inr (10, x0), .inl (0, x1), .inr (30, x2), tu], [], 0, 0, d) K := tT_run (cut := [0, 7]) 5 _ h
theorem t_320_7 {E : mO × tW} {K : tK} {d : mD} {x0 x1 x2 y0 y1 y2 : Int}
  (h : mInR y2 ∧ (0 ≤ y1 ∧ y1 < 1) ∧ K (.inl (some (0, 0))) (mset d y0 y1 y2)) :
  tRun E 320 (7, [.inr (10, x0), .inl (0, x1), .inr (30, x2), tu], [.inl (0, y2), .inl (0, y1), .inr (30, y0)], 1, 6, d) K := tT_run (cut := [0, 7]) 5 _ h
theorem t_321_0 {E : mO × tW} {K : tK} {d : mD} {x0 x1 x2 : Int}
  (h : tCall E 145 [.inr (10, x0), .inl (0, x1)] d (tbk E 321 4 [.inr (10, x0), .inl (0, x1), .inr (30, x2), tu] [.inl (0, 0), .inr (30, x2)] 2 12 K)) :
  tRun E 321 (0, [.inr (10, x0), .inl (0, x1), .inr (30, x2), tu], [], 0, 0, d) K := tT_run (cut := [0, 7]) 5 _ h
theorem t_321_7 {E : mO × tW} {K : tK} {d : mD} {x0 x1 x2 y0 y1 y2 : Int}
  (h : mInR y2 ∧ (0 ≤ y1 ∧ y1 < 1) ∧ K (.inl (some (0, 0))) (mset d y0 y1 y2)) :
  tRun E 321 (7, [.inr (10, x0), .inl (0, x1), .inr (30, x2), tu], [.inl (0, y2), .inl (0, y1), .inr (30, y0)], 2, 12, d) K := tT_run (cut := [0, 7]) 5 _ h
theorem t_322_0 {E : mO × tW} {K : tK} {d : mD} {x0 x1 : Int}
  (h : tCall E 146 [.inr (10, x0)] d (tbk E 322 3 [.inr (10, x0), .inr (30, x1), tu] [.inl (0, 0), .inr (30, x1)] 1 6 K)) :
  tRun E 322 (0, [.inr (10, x0), .inr (30, x1), tu], [], 0, 0, d) K := tT_run (cut := [0, 6]) 4 _ h
theorem t_322_6 {E : mO × tW} {K : tK} {d : mD} {x0 x1 y0 y1 y2 : Int}
  (h : mInR y2 ∧ (0 ≤ y1 ∧ y1 < 1) ∧ K (.inl (some (0, 0))) (mset d y0 y1 y2)) :
  tRun E 322 (6, [.inr (10, x0), .inr (30, x1), tu], [.inl (0, y2), .inl (0, y1), .inr (30, y0)], 1, 6, d) K := tT_run (cut := [0, 6]) 5 _ h
theorem t_323_0 {E : mO × tW} {K : tK} {d : mD} {x0 x1 x2 x3 : Int}
  (h : tCall E 147 [.inr (10, x0), .inl (0, x1), .inl (0, x2)] d (tbk E 323 5 [.inr (10, x0), .inl (0, x1), .inl (0, x2), .inr (30, x3), tu] [.inl (0, 0), .inr (30, x3)] 4 24 K)) :
  tRun E 323 (0, [.inr (10, x0), .inl (0, x1), .inl (0, x2), .inr (30, x3), tu], [], 0, 0, d) K := tT_run (cut := [0, 8]) 6 _ h
theorem t_323_8 {E : mO × tW} {K : tK} {d : mD} {x0 x1 x2 x3 y0 y1 y2 : Int}
  (h : mInR y2 ∧ (0 ≤ y1 ∧ y1 < 1) ∧ K (.inl (some (0, 0))) (mset d y0 y1 y2)) :
  tRun E 323 (8, [.inr (10, x0), .inl (0, x1), .inl (0, x2), .inr (30, x3), tu], [.inl (0, y2), .inl (0, y1), .inr (30, y0)], 4, 24, d) K := tT_run (cut := [0, 8]) 5 _ h
theorem t_324_0 {E : mO × tW} {K : tK} {d : mD} {x0 x1 x2 : Int}
  (h : tCall E 148 [.inr (10, x0), .inl (0, x1)] d (tbk E 324 4 [.inr (10, x0), .inl (0, x1), .inr (30, x2), tu] [.inl (0, 0), .inr (30, x2)] 1 6 K)) :
  tRun E 324 (0, [.inr (10, x0), .inl (0, x1), .inr (30, x2), tu], [], 0, 0, d) K := tT_run (cut := [0, 7]) 5 _ h
theorem t_324_7 {E : mO × tW} {K : tK} {d : mD} {x0 x1 x2 y0 y1 y2 : Int}
  (h : mInR y2 ∧ (0 ≤ y1 ∧ y1 < 1) ∧ K (.inl (some (0, 0))) (mset d y0 y1 y2)) :
  tRun E 324 (7, [.inr (10, x0), .inl (0, x1), .inr (30, x2), tu], [.inl (0, y2), .inl (0, y1), .inr (30, y0)], 1, 6, d) K := tT_run (cut := [0, 7]) 5 _ h
theorem t_325_0 {E : mO × tW} {K : tK} {d : mD} {x0 x1 x2 : Int}
  (h : tCall E 149 [.inr (10, x0), .inl (0, x1)] d (tbk E 325 4 [.inr (10, x0), .inl (0, x1), .inr (30, x2), tu] [.inl (0, 0), .inr (30, x2)] 1 6 K)) :
  tRun E 325 (0, [.inr (10, x0), .inl (0, x1), .inr (30, x2), tu], [], 0, 0, d) K := tT_run (cut := [0, 7]) 5 _ h
theorem t_325_7 {E : mO × tW} {K : tK} {d : mD} {x0 x1 x2 y0 y1 y2 : Int}
  (h : mInR y2 ∧ (0 ≤ y1 ∧ y1 < 1) ∧ K (.inl (some (0, 0))) (mset d y0 y1 y2)) :
  tRun E 325 (7, [.inr (10, x0), .inl (0, x1), .inr (30, x2), tu], [.inl (0, y2), .inl (0, y1), .inr (30, y0)], 1, 6, d) K := tT_run (cut := [0, 7]) 5 _ h
theorem t_326_0 {E : mO × tW} {K : tK} {d : mD} {x0 x1 x2 x3 : Int}
  (h : tCall E 150 [.inr (10, x0), .inl (0, x1), .inl (0, x2)] d (tbk E 326 5 [.inr (10, x0), .inl (0, x1), .inl (0, x2), .inr (30, x3), tu] [.inl (0, 0), .inr (30, x3)] 3 18 K)) :
  tRun E 326 (0, [.inr (10, x0), .inl (0, x1), .inl (0, x2), .inr (30, x3), tu], [], 0, 0, d) K := tT_run (cut := [0, 8]) 6 _ h
theorem t_326_8 {E : mO × tW} {K : tK} {d : mD} {x0 x1 x2 x3 y0 y1 y2 : Int}
  (h : mInR y2 ∧ (0 ≤ y1 ∧ y1 < 1) ∧ K (.inl (some (0, 0))) (mset d y0 y1 y2)) :
  tRun E 326 (8, [.inr (10, x0), .inl (0, x1), .inl (0, x2), .inr (30, x3), tu], [.inl (0, y2), .inl (0, y1), .inr (30, y0)], 3, 18, d) K := tT_run (cut := [0, 8]) 5 _ h
theorem t_327_0 {E : mO × tW} {K : tK} {d : mD} {x0 x1 x2 : Int}
  (h : tCall E 151 [.inr (10, x0), .inl (0, x1)] d (tbk E 327 4 [.inr (10, x0), .inl (0, x1), .inr (30, x2), tu] [.inl (0, 0), .inr (30, x2)] 2 12 K)) :
  tRun E 327 (0, [.inr (10, x0), .inl (0, x1), .inr (30, x2), tu], [], 0, 0, d) K := tT_run (cut := [0, 7]) 5 _ h
theorem t_327_7 {E : mO × tW} {K : tK} {d : mD} {x0 x1 x2 y0 y1 y2 : Int}
  (h : mInR y2 ∧ (0 ≤ y1 ∧ y1 < 1) ∧ K (.inl (some (0, 0))) (mset d y0 y1 y2)) :
  tRun E 327 (7, [.inr (10, x0), .inl (0, x1), .inr (30, x2), tu], [.inl (0, y2), .inl (0, y1), .inr (30, y0)], 2, 12, d) K := tT_run (cut := [0, 7]) 5 _ h
theorem t_328_0 {E : mO × tW} {K : tK} {d : mD} {x0 x1 x2 : Int}
  (h : tCall E 152 [.inr (10, x0), .inl (0, x1)] d (tbk E 328 4 [.inr (10, x0), .inl (0, x1), .inr (30, x2), tu] [.inl (0, 0), .inr (30, x2)] 1 6 K)) :
  tRun E 328 (0, [.inr (10, x0), .inl (0, x1), .inr (30, x2), tu], [], 0, 0, d) K := tT_run (cut := [0, 7]) 5 _ h
theorem t_328_7 {E : mO × tW} {K : tK} {d : mD} {x0 x1 x2 y0 y1 y2 : Int}
  (h : mInR y2 ∧ (0 ≤ y1 ∧ y1 < 1) ∧ K (.inl (some (0, 0))) (mset d y0 y1 y2)) :
  tRun E 328 (7, [.inr (10, x0), .inl (0, x1), .inr (30, x2), tu], [.inl (0, y2), .inl (0, y1), .inr (30, y0)], 1, 6, d) K := tT_run (cut := [0, 7]) 5 _ h
theorem t_329_0 {E : mO × tW} {K : tK} {d : mD} {x0 x1 x2 : Int}
  (h : tCall E 153 [.inr (10, x0), .inl (0, x1)] d (tbk E 329 4 [.inr (10, x0), .inl (0, x1), .inr (30, x2), tu] [.inl (0, 0), .inr (30, x2)] 2 12 K)) :
  tRun E 329 (0, [.inr (10, x0), .inl (0, x1), .inr (30, x2), tu], [], 0, 0, d) K := tT_run (cut := [0, 7]) 5 _ h
theorem t_329_7 {E : mO × tW} {K : tK} {d : mD} {x0 x1 x2 y0 y1 y2 : Int}
  (h : mInR y2 ∧ (0 ≤ y1 ∧ y1 < 1) ∧ K (.inl (some (0, 0))) (mset d y0 y1 y2)) :
  tRun E 329 (7, [.inr (10, x0), .inl (0, x1), .inr (30, x2), tu], [.inl (0, y2), .inl (0, y1), .inr (30, y0)], 2, 12, d) K := tT_run (cut := [0, 7]) 5 _ h
theorem t_330_0 {E : mO × tW} {K : tK} {d : mD} {x0 x1 x2 x3 : Int}
  (h : tCall E 154 [.inr (10, x0), .inl (0, x1), .inl (0, x2)] d (tbk E 330 5 [.inr (10, x0), .inl (0, x1), .inl (0, x2), .inr (30, x3), tu] [.inl (0, 0), .inr (30, x3)] 3 18 K)) :
  tRun E 330 (0, [.inr (10, x0), .inl (0, x1), .inl (0, x2), .inr (30, x3), tu], [], 0, 0, d) K := tT_run (cut := [0, 8]) 6 _ h
theorem t_330_8 {E : mO × tW} {K : tK} {d : mD} {x0 x1 x2 x3 y0 y1 y2 : Int}
  (h : mInR y2 ∧ (0 ≤ y1 ∧ y1 < 1) ∧ K (.inl (some (0, 0))) (mset d y0 y1 y2)) :
  tRun E 330 (8, [.inr (10, x0), .inl (0, x1), .inl (0, x2), .inr (30, x3), tu], [.inl (0, y2), .inl (0, y1), .inr (30, y0)], 3, 18, d) K := tT_run (cut := [0, 8]) 5 _ h
theorem t_331_0 {E : mO × tW} {K : tK} {d : mD} {x0 x1 x2 x3 x4 : Int}
  (h : tCall E 155 [.inr (10, x0), .inl (0, x1), .inl (0, x2), .inl (0, x3)] d (tbk E 331 7 [.inr (10, x0), .inl (0, x1), .inl (0, x2), .inl (0, x3), .inr (30, x4), tu] [.inl (0, 0), .inr (30, x4)] 4 24 K)) :
  tRun E 331 (0, [.inr (10, x0), .inl (0, x1), .inl (0, x2), .inl (0, x3), .inr (30, x4), tu], [], 0, 0, d) K := tT_run (cut := [0, 10]) 7 _ h
theorem t_331_10 {E : mO × tW} {K : tK} {d : mD} {x0 x1 x2 x3 x4 y0 y1 y2 : Int}
  (h : mInR y2 ∧ (0 ≤ y1 ∧ y1 < 1) ∧ K (.inl (some (0, 0))) (mset d y0 y1 y2)) :
  tRun E 331 (10, [.inr (10, x0), .inl (0, x1), .inl (0, x2), .inl (0, x3), .inr (30, x4), tu], [.inl (0, y2), .inl (0, y1), .inr (30, y0)], 4, 24, d) K := tT_run (cut := [0, 10]) 5 _ h
theorem t_332_0 {E : mO × tW} {K : tK} {d : mD} {x0 x1 x2 x3 : Int}
  (h : tCall E 156 [.inr (10, x0), .inl (0, x1), .inl (0, x2)] d (tbk E 332 5 [.inr (10, x0), .inl (0, x1), .inl (0, x2), .inr (30, x3), tu] [.inl (0, 0), .inr (30, x3)] 3 18 K)) :
  tRun E 332 (0, [.inr (10, x0), .inl (0, x1), .inl (0, x2), .inr (30, x3), tu], [], 0, 0, d) K := tT_run (cut := [0, 8]) 6 _ h
theorem t_332_8 {E : mO × tW} {K : tK} {d : mD} {x0 x1 x2 x3 y0 y1 y2 : Int}
  (h : mInR y2 ∧ (0 ≤ y1 ∧ y1 < 1) ∧ K (.inl (some (0, 0))) (mset d y0 y1 y2)) :
  tRun E 332 (8, [.inr (10, x0), .inl (0, x1), .inl (0, x2), .inr (30, x3), tu], [.inl (0, y2), .inl (0, y1), .inr (30, y0)], 3, 18, d) K := tT_run (cut := [0, 8]) 5 _ h
theorem t_333_0 {E : mO × tW} {K : tK} {d : mD} {x0 x1 x2 : Int}
  (h : tCall E 157 [.inr (10, x0), .inl (0, x1)] d (tbk E 333 4 [.inr (10, x0), .inl (0, x1), .inr (30, x2), tu] [.inl (0, 0), .inr (30, x2)] 1 6 K)) :
  tRun E 333 (0, [.inr (10, x0), .inl (0, x1), .inr (30, x2), tu], [], 0, 0, d) K := tT_run (cut := [0, 7]) 5 _ h
theorem t_333_7 {E : mO × tW} {K : tK} {d : mD} {x0 x1 x2 y0 y1 y2 : Int}
  (h : mInR y2 ∧ (0 ≤ y1 ∧ y1 < 1) ∧ K (.inl (some (0, 0))) (mset d y0 y1 y2)) :
  tRun E 333 (7, [.inr (10, x0), .inl (0, x1), .inr (30, x2), tu], [.inl (0, y2), .inl (0, y1), .inr (30, y0)], 1, 6, d) K := tT_run (cut := [0, 7]) 5 _ h
theorem t_334_0 {E : mO × tW} {K : tK} {d : mD} {x0 x1 x2 x3 : Int}
  (h : tCall E 158 [.inr (10, x0), .inl (0, x1), .inl (0, x2)] d (tbk E 334 5 [.inr (10, x0), .inl (0, x1), .inl (0, x2), .inr (30, x3), tu] [.inl (0, 0), .inr (30, x3)] 3 18 K)) :
  tRun E 334 (0, [.inr (10, x0), .inl (0, x1), .inl (0, x2), .inr (30, x3), tu], [], 0, 0, d) K := tT_run (cut := [0, 8]) 6 _ h
theorem t_334_8 {E : mO × tW} {K : tK} {d : mD} {x0 x1 x2 x3 y0 y1 y2 : Int}
  (h : mInR y2 ∧ (0 ≤ y1 ∧ y1 < 1) ∧ K (.inl (some (0, 0))) (mset d y0 y1 y2)) :
  tRun E 334 (8, [.inr (10, x0), .inl (0, x1), .inl (0, x2), .inr (30, x3), tu], [.inl (0, y2), .inl (0, y1), .inr (30, y0)], 3, 18, d) K := tT_run (cut := [0, 8]) 5 _ h
theorem t_335_0 {E : mO × tW} {K : tK} {d : mD} {x0 x1 x2 : Int}
  (h : tCall E 159 [.inr (10, x0), .inl (0, x1)] d (tbk E 335 4 [.inr (10, x0), .inl (0, x1), .inr (30, x2), tu] [.inl (0, 0), .inr (30, x2)] 2 12 K)) :
  tRun E 335 (0, [.inr (10, x0), .inl (0, x1), .inr (30, x2), tu], [], 0, 0, d) K := tT_run (cut := [0, 7]) 5 _ h
theorem t_335_7 {E : mO × tW} {K : tK} {d : mD} {x0 x1 x2 y0 y1 y2 : Int}
  (h : mInR y2 ∧ (0 ≤ y1 ∧ y1 < 1) ∧ K (.inl (some (0, 0))) (mset d y0 y1 y2)) :
  tRun E 335 (7, [.inr (10, x0), .inl (0, x1), .inr (30, x2), tu], [.inl (0, y2), .inl (0, y1), .inr (30, y0)], 2, 12, d) K := tT_run (cut := [0, 7]) 5 _ h
theorem t_336_0 {E : mO × tW} {K : tK} {d : mD} {x0 x1 : Int}
  (h : tCall E 160 [.inr (10, x0)] d (tbk E 336 3 [.inr (10, x0), .inr (30, x1), tu] [.inl (0, 0), .inr (30, x1)] 1 6 K)) :
  tRun E 336 (0, [.inr (10, x0), .inr (30, x1), tu], [], 0, 0, d) K := tT_run (cut := [0, 6]) 4 _ h
theorem t_336_6 {E : mO × tW} {K : tK} {d : mD} {x0 x1 y0 y1 y2 : Int}
  (h : mInR y2 ∧ (0 ≤ y1 ∧ y1 < 1) ∧ K (.inl (some (0, 0))) (mset d y0 y1 y2)) :
  tRun E 336 (6, [.inr (10, x0), .inr (30, x1), tu], [.inl (0, y2), .inl (0, y1), .inr (30, y0)], 1, 6, d) K := tT_run (cut := [0, 6]) 5 _ h
theorem t_337_0 {E : mO × tW} {K : tK} {d : mD} {x0 x1 x2 x3 : Int}
  (h : tCall E 161 [.inr (10, x0), .inl (0, x1), .inl (0, x2)] d (tbk E 337 5 [.inr (10, x0), .inl (0, x1), .inl (0, x2), .inr (30, x3), tu] [.inl (0, 0), .inr (30, x3)] 2 12 K)) :
  tRun E 337 (0, [.inr (10, x0), .inl (0, x1), .inl (0, x2), .inr (30, x3), tu], [], 0, 0, d) K := tT_run (cut := [0, 8]) 6 _ h
theorem t_337_8 {E : mO × tW} {K : tK} {d : mD} {x0 x1 x2 x3 y0 y1 y2 : Int}
  (h : mInR y2 ∧ (0 ≤ y1 ∧ y1 < 1) ∧ K (.inl (some (0, 0))) (mset d y0 y1 y2)) :
  tRun E 337 (8, [.inr (10, x0), .inl (0, x1), .inl (0, x2), .inr (30, x3), tu], [.inl (0, y2), .inl (0, y1), .inr (30, y0)], 2, 12, d) K := tT_run (cut := [0, 8]) 5 _ h
theorem t_338_0 {E : mO × tW} {K : tK} {d : mD} {x0 x1 : Int}
  (h : tCall E 162 [.inr (10, x0)] d (tbk E 338 3 [.inr (10, x0), .inr (30, x1), tu] [.inl (0, 0), .inr (30, x1)] 1 6 K)) :
  tRun E 338 (0, [.inr (10, x0), .inr (30, x1), tu], [], 0, 0, d) K := tT_run (cut := [0, 6]) 4 _ h
theorem t_338_6 {E : mO × tW} {K : tK} {d : mD} {x0 x1 y0 y1 y2 : Int}
  (h : mInR y2 ∧ (0 ≤ y1 ∧ y1 < 1) ∧ K (.inl (some (0, 0))) (mset d y0 y1 y2)) :
  tRun E 338 (6, [.inr (10, x0), .inr (30, x1), tu], [.inl (0, y2), .inl (0, y1), .inr (30, y0)], 1, 6, d) K := tT_run (cut := [0, 6]) 5 _ h
theorem t_339_0 {E : mO × tW} {K : tK} {d : mD} {x0 x1 : Int}
  (h : tCall E 163 [.inr (10, x0), .inl (0, x1)] d (tbk E 339 2 [.inr (10, x0), .inl (0, x1), tu] [] 1 6 K)) :
  tRun E 339 (0, [.inr (10, x0), .inl (0, x1), tu], [], 0, 0, d) K := tT_run (cut := [0, 5]) 3 _ h
theorem t_339_5 {E : mO × tW} {K : tK} {d : mD} {x0 x1 : Int}
  (h : K (.inl (some (0, 0))) d) :
  tRun E 339 (5, [.inr (10, x0), .inl (0, x1), tu], [], 1, 6, d) K := tT_run (cut := [0, 5]) 3 _ h
theorem t_340_0 {E : mO × tW} {K : tK} {d : mD} {x0 x1 : Int}
  (h : tCall E 164 [.inr (10, x0), .inl (0, x1)] d (tbk E 340 2 [.inr (10, x0), .inl (0, x1), tu] [] 2 12 K)) :
  tRun E 340 (0, [.inr (10, x0), .inl (0, x1), tu], [], 0, 0, d) K := tT_run (cut := [0, 5]) 3 _ h
theorem t_340_5 {E : mO × tW} {K : tK} {d : mD} {x0 x1 : Int}
  (h : K (.inl (some (0, 0))) d) :
  tRun E 340 (5, [.inr (10, x0), .inl (0, x1), tu], [], 2, 12, d) K := tT_run (cut := [0, 5]) 3 _ h
/-! ===== the shape of the cells behind the two constructors ===== -/
noncomputable def shT (a t : Nat) : Bool := Nat.blt a 779 && Nat.beq (acell aM1 a).1 (tk t) && (Nat.blt t 12 || zeq ((acell aM1 a).2.1 : Int) (tl t))
noncomputable def shE (x : aN) (z : Int) (t : Nat) : Bool := match x with
  | (0, .ofNat q) => zeq (.ofNat q) z && shT q t
  | _ => false
noncomputable def shF (a : Nat) : Bool := !Nat.beq (acell aM1 a).1 999 && (Nat.ble 12 (acell aM1 a).1 || (List.range 32).all (fun f => !Nat.beq (mfty (32 * (acell aM1 a).1 + f)) 4 || shE (aget (acell aM1 a) f) ((a : Int) + tpo (32 * (acell aM1 a).1 + f)) (tpy (32 * (acell aM1 a).1 + f))))
noncomputable def shA1 (a t : Nat) : Bool := !(Nat.beq (acell aM1 a).1 (tk t) && zeq ((acell aM1 a).2.1 : Int) (tl t)) || (List.range (acell aM1 a).2.1).all (fun i => shE (aget (acell aM1 a) i) ((a : Int) + (teb t + tes t * (i : Int))) (tec t))
noncomputable def shA (a : Nat) : Bool := Nat.blt (acell aM1 a).1 200 || (shA1 a 12 && shA1 a 19 && shA1 a 23)
set_option maxRecDepth 100000 in
theorem sh_ok : (List.range 779).all (fun a => shF a && shA a) = true := by decide +kernel
theorem tk_200 : ∀ t, t < 31 → 200 ≤ tk t → t = 12 ∨ t = 19 ∨ t = 23 := by decide
theorem shT_ok {ρ : Nat → Int} {kn : Bool} {G : mG} {d : mD} (hM : gM ρ aM1 779 kn G d) {q t : Nat} (h : shT q t = true) (h9 : ∀ a, a < 779 → (acell aM1 a).1 ≠ 999) : tokV (G.1, G.2.1) (.inr (t, (q : Int))) := by
  unfold shT at h
  rw [Bool.and_eq_true, Bool.and_eq_true, Nat.blt_eq] at h
  obtain ⟨⟨h1, h2⟩, h3⟩ := h
  obtain ⟨g1, g2, -⟩ := hM.2 q h1 (h9 q h1)
  refine ⟨⟨by omega, by omega⟩, ?_, fun ht => ?_⟩
  · show G.1 (q : Int) = _
    rw [g1, Nat.eq_of_beq_eq_true h2]
  · show G.2.1 (q : Int) = _
    rw [Bool.or_eq_true, Nat.blt_eq] at h3
    rcases h3 with h3 | h3
    · omega
    · rw [g2]
      exact of_decide_eq_true h3
theorem shE_ok {ρ : Nat → Int} {kn : Bool} {G : mG} {d : mD} (hM : gM ρ aM1 779 kn G d) (h9 : ∀ a, a < 779 → (acell aM1 a).1 ≠ 999) {x : aN} {y z : Int} {t : Nat} (hx : gN ρ x y) (h : shE x z t = true) : y = z ∧ tokV (G.1, G.2.1) (.inr (t, z)) := by
  unfold shE at h
  split at h
  · rename_i q
    rw [Bool.and_eq_true] at h
    have e : (Int.ofNat q) = z := of_decide_eq_true h.1
    have hx : y = Int.ofNat q := hx
    rw [← e]
    exact ⟨hx, shT_ok hM h.2 h9⟩
  · cases h
theorem tSh_of {ρ : Nat → Int} {kn : Bool} {G : mG} {d : mD} (hM : gM ρ aM1 779 kn G d) : tSh (G.1, G.2.1) d := by
  have hk : ∀ a, a < 779 → shF a = true ∧ shA a = true := fun a ha => by
    have h := List.all_eq_true.mp sh_ok a (List.mem_range.mpr ha)
    rwa [Bool.and_eq_true] at h
  have h9 : ∀ a, a < 779 → (acell aM1 a).1 ≠ 999 := fun a ha e => by
    have h := (hk a ha).1
    unfold shF at h
    rw [e] at h
    cases h
  refine ⟨fun a g h0 h1 hg h4 => ?_, fun a t i hv ht h0 h1 => ?_⟩
  · obtain ⟨n, rfl⟩ := Int.eq_ofNat_of_zero_le h0
    have hn : n < 779 := by omega
    obtain ⟨g1, g2, g3⟩ := hM.2 n hn (h9 n hn)
    have hg : G.1 (n : Int) = ((g / 32 : Nat) : Int) := hg
    rw [g1] at hg
    have hc : (acell aM1 n).1 = g / 32 := by omega
    have h := (hk n hn).1
    unfold shF at h
    rw [hc] at h
    have h12 := tfg_lt g h4
    simp only [Bool.and_eq_true, Bool.or_eq_true] at h
    rcases h.2 with h | h
    · have := Nat.le_of_ble_eq_true h
      omega
    · have h5 := List.all_eq_true.mp h (g % 32) (List.mem_range.mpr (by omega))
      have e : 32 * (g / 32) + g % 32 = g := by omega
      rw [e, h4] at h5
      simp only [Bool.or_eq_true] at h5
      rcases h5 with h5 | h5
      · cases h5
      · exact shE_ok hM h9 (g3 (g % 32)) h5
  · obtain ⟨n, rfl⟩ := Int.eq_ofNat_of_zero_le hv.1.1
    have hn : n < 779 := by have := hv.1.2; omega
    obtain ⟨g1, g2, g3⟩ := hM.2 n hn (h9 n hn)
    obtain ⟨-, v1, v2⟩ := trow hv (by omega)
    have v1 : G.1 (n : Int) = _ := v1
    have v2 : G.2.1 (n : Int) = _ := v2
    rw [g1] at v1
    rw [g2] at v2
    have hc : (acell aM1 n).1 = tk t := by omega
    have ht31 : t < 31 := by
      rcases Nat.lt_or_ge t 31 with h | h
      · exact h
      · rw [tk_hi t h] at ht
        omega
    have h := (hk n hn).2
    unfold shA at h
    rw [Bool.or_eq_true, Nat.blt_eq, hc] at h
    rcases h with h | h
    · omega
    · rw [Bool.and_eq_true, Bool.and_eq_true] at h
      have hx : shA1 n t = true := by
        rcases tk_200 t ht31 ht with rfl | rfl | rfl
        · exact h.1.1
        · exact h.1.2
        · exact h.2
      unfold shA1 at hx
      have hz : zeq ((acell aM1 n).2.1 : Int) (tl t) = true := decide_eq_true v2
      rw [hz, hc, Nat.beq_refl] at hx
      obtain ⟨k, rfl⟩ := Int.eq_ofNat_of_zero_le h0
      have h5 := List.all_eq_true.mp hx k (List.mem_range.mpr (by omega))
      exact shE_ok hM h9 (g3 k) h5
/-! ===== working on the typed machine ===== -/
theorem t_rounds {E : mO × tW} {m : Nat} {K : tK} (st : Int → mD → tSt) (Inv : Int → mD → Prop) {N : Int} (hN : 0 ≤ N) (h1 : ∀ i d, 0 ≤ i → i < N → Inv i d → (∀ d', Inv (i + 1) d' → tRun E m (st (i + 1) d') K) → tRun E m (st i d) K) (h2 : ∀ d, Inv N d → tRun E m (st N d) K) {d : mD} (h0 : Inv 0 d) : tRun E m (st 0 d) K := by
  have h : ∀ n : Nat, (n : Int) ≤ N → ∀ d, Inv (N - (n : Int)) d → tRun E m (st (N - (n : Int)) d) K := by
    intro n
    induction n with
    | zero =>
      intro _ d hd
      have e : N - ((0 : Nat) : Int) = N := by omega
      rw [e] at hd ⊢
      exact h2 d hd
    | succ n ih =>
      intro hn d hd
      refine h1 _ d (by omega) (by omega) hd (fun d' hd' => ?_)
      have e : N - ((n + 1 : Nat) : Int) + 1 = N - (n : Int) := by omega
      rw [e] at hd' ⊢
      exact ih (by omega) d' hd'
  have h9 := h N.toNat (by omega)
  have e : N - (N.toNat : Int) = 0 := by omega
  rw [e] at h9
  exact h9 d h0
theorem t_count {E : mO × tW} {m : Nat} {K : tK} (st : Int → tSt) {N : Int} (hN : 0 ≤ N) (h1 : ∀ i, 0 ≤ i → i < N → tRun E m (st (i + 1)) K → tRun E m (st i) K) (h2 : tRun E m (st N) K) : tRun E m (st 0) K :=
  t_rounds (fun i _ => st i) (fun _ _ => True) hN (fun i d a b _ k => h1 i a b (k d trivial)) (fun _ _ => h2) (d := fun _ _ => 0) trivial
theorem t_find {E : mO × tW} {m : Nat} {K : tK} (st : Int → tSt) (p : Int → Prop) {N : Int} (hN : 0 ≤ N) (h1 : ∀ i, 0 ≤ i → i < N → (∀ j, 0 ≤ j → j < i → ¬ p j) → (¬ p i → tRun E m (st (i + 1)) K) → tRun E m (st i) K) (h2 : (∀ j, 0 ≤ j → j < N → ¬ p j) → tRun E m (st N) K) : tRun E m (st 0) K :=
  t_rounds (fun i _ => st i) (fun i _ => ∀ j, 0 ≤ j → j < i → ¬ p j) hN (fun i d a b hi k => h1 i a b hi (fun hn => k d (fun j h0 hj => by
    by_cases e : j = i
    · rw [e]; exact hn
    · exact hi j h0 (by omega)))) (fun _ h => h2 h) (d := fun _ _ => 0) (fun j h0 hj => absurd hj (by omega))
-- the first place
def isF (p : Int → Prop) (n r : Int) : Prop := (r = -1 ∧ ∀ j, 0 ≤ j → j < n → ¬ p j) ∨ (0 ≤ r ∧ r < n ∧ p r ∧ ∀ j, 0 ≤ j → j < r → ¬ p j)
-- sums
def csum (f : Int → Int) : Nat → Int
  | 0 => 0
  | n + 1 => csum f n + f (n : Int)
theorem csum_s (f : Int → Int) {i : Int} (h : 0 ≤ i) : csum f (i + 1).toNat = csum f i.toNat + f i := by
  have e : (i + 1).toNat = i.toNat + 1 := by omega
  rw [e]
  show csum f i.toNat + f (i.toNat : Int) = _
  rw [Int.toNat_of_nonneg h]
theorem csum_congr {f g : Int → Int} {n : Nat} (h : ∀ i : Int, 0 ≤ i → i < (n : Int) → f i = g i) : csum f n = csum g n := by
  induction n with
  | zero => rfl
  | succ n ih =>
    show csum f n + f (n : Int) = csum g n + g (n : Int)
    rw [ih (fun i h0 h1 => h i h0 (by omega)), h (n : Int) (by omega) (by omega)]
theorem csum_rng {f : Int → Int} {n : Nat} {B : Int} (h : ∀ i : Int, 0 ≤ i → i < (n : Int) → 0 ≤ f i ∧ f i ≤ B) : 0 ≤ csum f n ∧ csum f n ≤ (n : Int) * B := by
  induction n with
  | zero => exact ⟨Int.le_refl 0, by simp [csum]⟩
  | succ n ih =>
    have h1 := ih (fun i h0 h1 => h i h0 (by omega))
    have h2 := h (n : Int) (by omega) (by omega)
    have e : ((n + 1 : Nat) : Int) * B = (n : Int) * B + B := by
      rw [Int.natCast_add, Int.add_mul]
      simp
    show 0 ≤ csum f n + f (n : Int) ∧ csum f n + f (n : Int) ≤ _
    rw [e]
    omega
/-! ===== bits ===== -/
theorem n32 {n : Nat} (h : n < 2147483648) : (Int32.ofInt (n : Int)).toBitVec.toNat = n := by
  show (BitVec.ofInt 32 (n : Int)).toNat = n
  rw [BitVec.toNat_ofInt]
  omega
theorem i32n {v : Int32} (h : v.toBitVec.toNat < 2147483648) : v.toInt = (v.toBitVec.toNat : Int) := by
  show v.toBitVec.toInt = _
  exact BitVec.toInt_eq_toNat_of_lt (by omega)
theorem mishl5_n {n : Nat} (h : n < 33554432) : (Int32.ofInt (n : Int) <<< (Int32.ofInt 5 &&& 31)).toBitVec.toNat = 32 * n := by
  have e : (Int32.ofInt 5 &&& 31) = (5 : Int32) := by decide
  rw [e, Int32.toBitVec_shiftLeft]
  have e2 : ((5 : Int32).toBitVec.smod 32) = 5#32 := by decide
  rw [e2, BitVec.shiftLeft_eq', BitVec.toNat_shiftLeft, n32 (by omega)]
  show n <<< 5 % 4294967296 = _
  rw [Nat.shiftLeft_eq]
  omega
theorem mname_or (x c : Int) : (0 ≤ x ∧ x < 33554432 ∧ 1 ≤ c ∧ c ≤ 31 ∧ mior (mishl x 5) c = 32 * x + c) ∨ x < 0 ∨ 33554432 ≤ x ∨ c < 1 ∨ 31 < c := by
  by_cases h : 0 ≤ x ∧ x < 33554432 ∧ 1 ≤ c ∧ c ≤ 31
  · left
    obtain ⟨h0, h1, h2, h3⟩ := h
    refine ⟨h0, h1, h2, h3, ?_⟩
    obtain ⟨n, rfl⟩ := Int.eq_ofNat_of_zero_le h0
    obtain ⟨k, rfl⟩ := Int.eq_ofNat_of_zero_le (show 0 ≤ c by omega)
    have hs : mishl (n : Int) 5 = ((32 * n : Nat) : Int) := by
      unfold mishl mI
      have := mishl5_n (n := n) (by omega)
      rw [i32n (by rw [this]; omega), this]
    rw [hs]
    unfold mior mI
    have hb : (Int32.ofInt ((32 * n : Nat) : Int) ||| Int32.ofInt (k : Int)).toBitVec.toNat = 32 * n + k := by
      rw [Int32.toBitVec_or, BitVec.toNat_or, n32 (by omega), n32 (by omega)]
      have := Nat.shiftLeft_add_eq_or_of_lt (b := k) (i := 5) (by omega) n
      rw [Nat.shiftLeft_eq] at this
      rw [show 32 * n = n * 2 ^ 5 by omega, ← this]
    rw [i32n (by rw [hb]; omega), hb]
    omega
  · omega
theorem mishr6_n : ∀ n : Fin 1000, mishr ((n : Nat) : Int) 6 = ((n.val / 64 : Nat) : Int) := by decide +kernel
theorem mishr6_r (x : Int) : (mishr x 6 = x / 64 ∧ 0 ≤ x ∧ x ≤ 999) ∨ x < 0 ∨ 999 < x := by
  by_cases h : 0 ≤ x ∧ x ≤ 999
  · left
    obtain ⟨n, rfl⟩ := Int.eq_ofNat_of_zero_le h.1
    have := mishr6_n ⟨n, by omega⟩
    have e : (((n / 64 : Nat)) : Int) = (n : Int) / 64 := by omega
    exact ⟨this.trans e, h⟩
  · omega
