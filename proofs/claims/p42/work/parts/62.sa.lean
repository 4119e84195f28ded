/-! ===== pieces of the methods between cuts: printed by a program of mine ===== -/
theorem t_2_0 {E : mO × tW} {K : tK} {d : mD} {x0 x1 : Int}
  (h : (0 ≤ d x0 1 ∧ d x0 1 < 8) ∧ tCall E 59 [.inr (6, x0 + 1 + (1 + 63 * (d x0 1))), .inr (6, x1)] d (tbk E 2 10 [.inr (0, x0), .inr (6, x1)] [] 0 0 K)) :
  tRun E 2 (0, [.inr (0, x0), .inr (6, x1)], [], 0, 0, d) K := tT_run (cut := [0, 13]) 7 _ h
theorem t_2_13 {E : mO × tW} {K : tK} {d : mD} {x0 x1 : Int}
  (h : (0 ≤ (d x0 1) + 1 ∧ (d x0 1) + 1 ≤ 2147483647 ∧ 0 < (8 : Int) ∧ (8 : Int) ≤ 2147483647) ∧ (mInR 8 ∧ mInR (((mset d x0 1 (((d x0 1) + 1) % 8)) x0 2) + 1)) ∧ K (.inl none) (mset (mset d x0 1 (((d x0 1) + 1) % 8)) x0 2 (mmin 8 (((mset d x0 1 (((d x0 1) + 1) % 8)) x0 2) + 1)))) :
  tRun E 2 (13, [.inr (0, x0), .inr (6, x1)], [], 0, 0, d) K := tT_run (cut := [0, 13]) 17 _ h
theorem t_3_0 {E : mO × tW} {K : tK} {d : mD} {x0 x1 : Int}
  (h : (0 ≤ ((d x0 1) + 8) - 1 ∧ ((d x0 1) + 8) - 1 ≤ 2147483647 ∧ 0 < (8 : Int) ∧ (8 : Int) ≤ 2147483647) ∧ (0 ≤ (mset (mset d x0 1 ((((d x0 1) + 8) - 1) % 8)) x0 2 (((mset d x0 1 ((((d x0 1) + 8) - 1) % 8)) x0 2) - 1)) x0 1 ∧ (mset (mset d x0 1 ((((d x0 1) + 8) - 1) % 8)) x0 2 (((mset d x0 1 ((((d x0 1) + 8) - 1) % 8)) x0 2) - 1)) x0 1 < 8) ∧ tCall E 59 [.inr (6, x1), .inr (6, x0 + 1 + (1 + 63 * ((mset (mset d x0 1 ((((d x0 1) + 8) - 1) % 8)) x0 2 (((mset d x0 1 ((((d x0 1) + 8) - 1) % 8)) x0 2) - 1)) x0 1)))] (mset (mset d x0 1 ((((d x0 1) + 8) - 1) % 8)) x0 2 (((mset d x0 1 ((((d x0 1) + 8) - 1) % 8)) x0 2) - 1)) (tbk E 3 36 [.inr (0, x0), .inr (6, x1)] [] 0 0 K)) :
  tRun E 3 (0, [.inr (0, x0), .inr (6, x1)], [], 0, 0, d) K := tT_run (cut := [0, 39]) 23 _ h
theorem t_3_39 {E : mO × tW} {K : tK} {d : mD} {x0 x1 : Int}
  (h : K (.inl none) d) :
  tRun E 3 (39, [.inr (0, x0), .inr (6, x1)], [], 0, 0, d) K := tT_run (cut := [0, 39]) 1 _ h
theorem t_4_0 {E : mO × tW} {K : tK} {d : mD} {x0 : Int}
  (h : K (.inl none) (mset d x0 2 0)) :
  tRun E 4 (0, [.inr (0, x0)], [], 0, 0, d) K := tT_run (cut := [0]) 4 _ h
theorem t_6_0 {E : mO × tW} {K : tK} {d : mD} {x0 x1 : Int}
  (h : mInR x1 ∧ (x1 < 0 → ((0 : Int) = 0 ∨ (0 : Int) = 1) ∧ K (.inl (some (0, 0))) d) ∧ (0 ≤ x1 → (mInR x1 ∧ mInR 999) ∧ (999 < x1 → ((0 : Int) = 0 ∨ (0 : Int) = 1) ∧ K (.inl (some (0, 0))) d) ∧ (x1 ≤ 999 → (0 ≤ mishr x1 6 ∧ mishr x1 6 < 16) ∧ (mInL (mland (mlushr (d (x0 + 1) (mishr x1 6)) (miand x1 63)) 1) ∧ mInL 0) ∧ mInR (mcmp (mland (mlushr (d (x0 + 1) (mishr x1 6)) (miand x1 63)) 1) 0) ∧ (mcmp (mland (mlushr (d (x0 + 1) (mishr x1 6)) (miand x1 63)) 1) 0 = 0 → ((0 : Int) = 0 ∨ (0 : Int) = 1) ∧ K (.inl (some (0, 0))) d) ∧ (¬ mcmp (mland (mlushr (d (x0 + 1) (mishr x1 6)) (miand x1 63)) 1) 0 = 0 → ((1 : Int) = 0 ∨ (1 : Int) = 1) ∧ K (.inl (some (0, 1))) d)))) :
  tRun E 6 (0, [.inr (1, x0), .inl (0, x1)], [], 0, 0, d) K := tT_run (cut := [0]) 23 _ h
theorem t_7_0 {E : mO × tW} {K : tK} {d : mD} {x0 x1 : Int}
  (h : mInR x1 ∧ (x1 < 0 → K (.inl none) d) ∧ (0 ≤ x1 → (mInR x1 ∧ mInR 999) ∧ (999 < x1 → K (.inl none) d) ∧ (x1 ≤ 999 → (0 ≤ mishr x1 6 ∧ mishr x1 6 < 16) ∧ (0 ≤ mishr x1 6 ∧ mishr x1 6 < 16) ∧ K (.inl none) (mset d (x0 + 1) (mishr x1 6) (mlor (d (x0 + 1) (mishr x1 6)) (mlshl 1 (miand x1 63))))))) :
  tRun E 7 (0, [.inr (1, x0), .inl (0, x1)], [], 0, 0, d) K := tT_run (cut := [0]) 20 _ h
theorem t_8_0 {E : mO × tW} {K : tK} {d : mD} {x0 : Int}
  (h : tCall E 300 [.inr (20, x0 + 1), .inl (1, 0)] d (tbk E 8 5 [.inr (1, x0)] [] 0 0 K)) :
  tRun E 8 (0, [.inr (1, x0)], [], 0, 0, d) K := tT_run (cut := [0, 8]) 4 _ h
theorem t_8_8 {E : mO × tW} {K : tK} {d : mD} {x0 : Int}
  (h : K (.inl none) d) :
  tRun E 8 (8, [.inr (1, x0)], [], 0, 0, d) K := tT_run (cut := [0, 8]) 1 _ h
theorem t_9_0 {E : mO × tW} {K : tK} {d : mD} {x0 : Int}
  (h : tRun E 9 (4, [.inr (1, x0), .inl (0, 0), .inl (0, 0)], [], 0, 0, d) K) :
  tRun E 9 (0, [.inr (1, x0), tu, tu], [], 0, 0, d) K := tT_run (cut := [0, 4, 20]) 4 _ h
theorem t_9_4 {E : mO × tW} {K : tK} {d : mD} {x0 x1 x2 : Int}
  (h : (mInR x2 ∧ mInR 16) ∧ (16 ≤ x2 → K (.inl (some (0, x1))) d) ∧ (x2 < 16 → (0 ≤ x2 ∧ x2 < 16) ∧ tCall E 297 [.inl (1, d (x0 + 1) x2)] d (tbk E 9 17 [.inr (1, x0), .inl (0, x1), .inl (0, x2)] [.inl (0, x1)] 0 0 K))) :
  tRun E 9 (4, [.inr (1, x0), .inl (0, x1), .inl (0, x2)], [], 0, 0, d) K := tT_run (cut := [0, 4, 20]) 9 _ h
theorem t_9_20 {E : mO × tW} {K : tK} {d : mD} {x0 x1 x2 y0 y1 : Int}
  (h : tRun E 9 (4, [.inr (1, x0), .inl (0, y0 + y1), .inl (0, x2 + 1)], [], 0, 0, d) K) :
  tRun E 9 (20, [.inr (1, x0), .inl (0, x1), .inl (0, x2)], [.inl (0, y1), .inl (0, y0)], 0, 0, d) K := tT_run (cut := [0, 4, 20]) 4 _ h
theorem t_10_0 {E : mO × tW} {K : tK} {d : mD} {x0 x1 : Int}
  (h : tRun E 10 (4, [.inr (1, x0), .inr (1, x1), .inl (0, 0), .inl (0, 0)], [], 0, 0, d) K) :
  tRun E 10 (0, [.inr (1, x0), .inr (1, x1), tu, tu], [], 0, 0, d) K := tT_run (cut := [0, 4, 31]) 4 _ h
theorem t_10_4 {E : mO × tW} {K : tK} {d : mD} {x0 x1 x2 x3 : Int}
  (h : (mInR x3 ∧ mInR 16) ∧ (16 ≤ x3 → K (.inl (some (0, x2))) d) ∧ (x3 < 16 → (0 ≤ x3 ∧ x3 < 16) ∧ (0 ≤ x3 ∧ x3 < 16) ∧ tCall E 297 [.inl (1, mland (d (x0 + 1) x3) (mlxor (d (x1 + 1) x3) ((-1))))] d (tbk E 10 28 [.inr (1, x0), .inr (1, x1), .inl (0, x2), .inl (0, x3)] [.inl (0, x2)] 0 0 K))) :
  tRun E 10 (4, [.inr (1, x0), .inr (1, x1), .inl (0, x2), .inl (0, x3)], [], 0, 0, d) K := tT_run (cut := [0, 4, 31]) 16 _ h
theorem t_10_31 {E : mO × tW} {K : tK} {d : mD} {x0 x1 x2 x3 y0 y1 : Int}
  (h : tRun E 10 (4, [.inr (1, x0), .inr (1, x1), .inl (0, y0 + y1), .inl (0, x3 + 1)], [], 0, 0, d) K) :
  tRun E 10 (31, [.inr (1, x0), .inr (1, x1), .inl (0, x2), .inl (0, x3)], [.inl (0, y1), .inl (0, y0)], 0, 0, d) K := tT_run (cut := [0, 4, 31]) 4 _ h
theorem t_11_0 {E : mO × tW} {K : tK} {d : mD} {x0 x1 : Int}
  (h : (0 ≤ (0 : Int) ∧ 0 ≤ (0 : Int) ∧ 0 ≤ (16 : Int) ∧ (0 : Int) + (16 : Int) ≤ 16 ∧ (0 : Int) + (16 : Int) ≤ 16) ∧ K (.inl none) (mcopy d (x1 + 1) 0 (x0 + 1) 0 16)) :
  tRun E 11 (0, [.inr (1, x0), .inr (1, x1)], [], 0, 0, d) K := tT_run (cut := [0]) 9 _ h
theorem t_13_0 {E : mO × tW} {K : tK} {d : mD} {x0 : Int}
  (h : tCall E 58 [.inr (6, x0 + 4)] (mset (mset d x0 2 0) x0 3 ((-1))) (tbk E 13 14 [.inr (2, x0)] [] 0 0 K)) :
  tRun E 13 (0, [.inr (2, x0)], [], 0, 0, d) K := tT_run (cut := [0, 17, 24]) 9 _ h
theorem t_13_17 {E : mO × tW} {K : tK} {d : mD} {x0 : Int}
  (h : tCall E 51 [.inr (5, x0 + 1)] d (tbk E 13 21 [.inr (2, x0)] [] 0 0 K)) :
  tRun E 13 (17, [.inr (2, x0)], [], 0, 0, d) K := tT_run (cut := [0, 17, 24]) 3 _ h
theorem t_13_24 {E : mO × tW} {K : tK} {d : mD} {x0 : Int}
  (h : K (.inl none) d) :
  tRun E 13 (24, [.inr (2, x0)], [], 0, 0, d) K := tT_run (cut := [0, 17, 24]) 1 _ h
theorem t_14_0 {E : mO × tW} {K : tK} {d : mD} {x0 : Int}
  (h : tCall E 24 [.inr (2, x0), .inl (5, 0)] d (tbk E 14 3 [.inr (2, x0), tu] [] 0 0 K)) :
  tRun E 14 (0, [.inr (2, x0), tu], [], 0, 0, d) K := tT_run (cut := [0, 6, 13, 32, 63, 83]) 3 _ h
theorem t_14_6 {E : mO × tW} {K : tK} {d : mD} {x0 y0 : Int}
  (h : mInR y0 ∧ (¬ y0 = 0 → tRun E 14 (13, [.inr (2, x0), .inl (0, 0)], [], 0, 0, d) K) ∧ (y0 = 0 → ((0 : Int) = 0 ∨ (0 : Int) = 1) ∧ K (.inl (some (0, 0))) d)) :
  tRun E 14 (6, [.inr (2, x0), tu], [.inl (0, y0)], 0, 0, d) K := tT_run (cut := [0, 6, 13, 32, 63, 83]) 3 _ h
theorem t_14_13 {E : mO × tW} {K : tK} {d : mD} {x0 x1 : Int}
  (h : (mInR x1 ∧ mInR 5) ∧ (5 ≤ x1 → tCall E 25 [.inr (2, x0), .inl (0, 0), .inl (0, 99999)] d (tbk E 14 60 [.inr (2, x0), .inl (0, x1)] [] 0 0 K)) ∧ (x1 < 5 → (0 ≤ x1 ∧ x1 < E.1.1 0) ∧ (0 ≤ x1 ∧ x1 < E.1.1 1) ∧ tCall E 25 [.inr (2, x0), .inl (0, E.1.2 0 x1), .inl (0, E.1.2 1 x1)] d (tbk E 14 29 [.inr (2, x0), .inl (0, x1)] [] 0 0 K))) :
  tRun E 14 (13, [.inr (2, x0), .inl (0, x1)], [], 0, 0, d) K := tT_run (cut := [0, 6, 13, 32, 63, 83]) 11 _ h
theorem t_14_32 {E : mO × tW} {K : tK} {d : mD} {x0 x1 y0 : Int}
  (h : mInR y0 ∧ (¬ y0 = 0 → (0 ≤ x1 ∧ x1 < 5) ∧ tRun E 14 (13, [.inr (2, x0), .inl (0, x1 + 1)], [], 0, 0, mset d (x0 + 4 + 1) x1 (d x0 4)) K) ∧ (y0 = 0 → ((0 : Int) = 0 ∨ (0 : Int) = 1) ∧ K (.inl (some (0, 0))) d)) :
  tRun E 14 (32, [.inr (2, x0), .inl (0, x1)], [.inl (0, y0)], 0, 0, d) K := tT_run (cut := [0, 6, 13, 32, 63, 83]) 10 _ h
theorem t_14_63 {E : mO × tW} {K : tK} {d : mD} {x0 x1 y0 : Int}
  (h : mInR y0 ∧ (¬ y0 = 0 → tCall E 31 [.inr (2, x0)] (mset d (x0 + 4) 1 (d x0 4)) (tbk E 14 80 [.inr (2, x0), .inl (0, x1)] [] 0 0 K)) ∧ (y0 = 0 → ((0 : Int) = 0 ∨ (0 : Int) = 1) ∧ K (.inl (some (0, 0))) d)) :
  tRun E 14 (63, [.inr (2, x0), .inl (0, x1)], [.inl (0, y0)], 0, 0, d) K := tT_run (cut := [0, 6, 13, 32, 63, 83]) 8 _ h
theorem t_14_83 {E : mO × tW} {K : tK} {d : mD} {x0 x1 y0 : Int}
  (h : (y0 = 0 ∨ y0 = 1) ∧ K (.inl (some (0, y0))) d) :
  tRun E 14 (83, [.inr (2, x0), .inl (0, x1)], [.inl (0, y0)], 0, 0, d) K := tT_run (cut := [0, 6, 13, 32, 63, 83]) 1 _ h
theorem t_15_0 {E : mO × tW} {K : tK} {d : mD} {x0 : Int}
  (h : tCall E 55 [.inr (5, x0 + 1), .inl (5, 1)] d (tbk E 15 6 [.inr (2, x0), tu] [] 0 0 K)) :
  tRun E 15 (0, [.inr (2, x0), tu], [], 0, 0, d) K := tT_run (cut := [0, 9, 17, 20, 35, 42]) 4 _ h
theorem t_15_9 {E : mO × tW} {K : tK} {d : mD} {x0 y0 : Int}
  (h : mInR y0 ∧ (¬ y0 = 0 → tRun E 15 (20, [.inr (2, x0), .inl (0, 0)], [], 0, 0, d) K) ∧ (y0 = 0 → tCall E 32 [.inr (2, x0), .inl (0, 1)] d (tbk E 15 14 [.inr (2, x0), tu] [] 0 0 K))) :
  tRun E 15 (9, [.inr (2, x0), tu], [.inl (0, y0)], 0, 0, d) K := tT_run (cut := [0, 9, 17, 20, 35, 42]) 4 _ h
theorem t_15_17 {E : mO × tW} {K : tK} {d : mD} {x0 y0 : Int}
  (h : (y0 = 0 ∨ y0 = 1) ∧ K (.inl (some (0, y0))) d) :
  tRun E 15 (17, [.inr (2, x0), tu], [.inl (0, y0)], 0, 0, d) K := tT_run (cut := [0, 9, 17, 20, 35, 42]) 1 _ h
theorem t_15_20 {E : mO × tW} {K : tK} {d : mD} {x0 x1 : Int}
  (h : (mInR x1 ∧ mInR 6) ∧ (6 < x1 → ((1 : Int) = 0 ∨ (1 : Int) = 1) ∧ K (.inl (some (0, 1))) d) ∧ (x1 ≤ 6 → tCall E 55 [.inr (5, x0 + 1), .inl (5, 1)] d (tbk E 15 32 [.inr (2, x0), .inl (0, x1)] [] 0 0 K))) :
  tRun E 15 (20, [.inr (2, x0), .inl (0, x1)], [], 0, 0, d) K := tT_run (cut := [0, 9, 17, 20, 35, 42]) 7 _ h
theorem t_15_35 {E : mO × tW} {K : tK} {d : mD} {x0 x1 y0 : Int}
  (h : mInR y0 ∧ (y0 = 0 → ((1 : Int) = 0 ∨ (1 : Int) = 1) ∧ K (.inl (some (0, 1))) d) ∧ (¬ y0 = 0 → tCall E 16 [.inr (2, x0)] d (tbk E 15 39 [.inr (2, x0), .inl (0, x1)] [] 0 0 K))) :
  tRun E 15 (35, [.inr (2, x0), .inl (0, x1)], [.inl (0, y0)], 0, 0, d) K := tT_run (cut := [0, 9, 17, 20, 35, 42]) 3 _ h
theorem t_15_42 {E : mO × tW} {K : tK} {d : mD} {x0 x1 y0 : Int}
  (h : mInR y0 ∧ (¬ y0 = 0 → tRun E 15 (20, [.inr (2, x0), .inl (0, x1 + 1)], [], 0, 0, d) K) ∧ (y0 = 0 → ((0 : Int) = 0 ∨ (0 : Int) = 1) ∧ K (.inl (some (0, 0))) d)) :
  tRun E 15 (42, [.inr (2, x0), .inl (0, x1)], [.inl (0, y0)], 0, 0, d) K := tT_run (cut := [0, 9, 17, 20, 35, 42]) 3 _ h
theorem t_16_0 {E : mO × tW} {K : tK} {d : mD} {x0 : Int}
  (h : (mInR (d (x0 + 4 + 2) 0) ∧ mInR 6) ∧ (d (x0 + 4 + 2) 0 < 6 → tCall E 52 [.inr (5, x0 + 1)] d (tbk E 16 27 [.inr (2, x0), .inr (3, x0 + 4 + 2), tu, tu, tu] [] 0 0 K)) ∧ (6 ≤ d (x0 + 4 + 2) 0 → tCall E 32 [.inr (2, x0), .inl (0, 5)] d (tbk E 16 19 [.inr (2, x0), .inr (3, x0 + 4 + 2), tu, tu, tu] [] 0 0 K))) :
  tRun E 16 (0, [.inr (2, x0), tu, tu, tu, tu], [], 0, 0, d) K := tT_run (cut := [0, 22, 30, 37, 49, 52, 61, 66, 82, 99, 117, 124, 141]) 11 _ h
theorem t_16_22 {E : mO × tW} {K : tK} {d : mD} {x0 x1 y0 : Int}
  (h : (y0 = 0 ∨ y0 = 1) ∧ K (.inl (some (0, y0))) d) :
  tRun E 16 (22, [.inr (2, x0), .inr (3, x1), tu, tu, tu], [.inl (0, y0)], 0, 0, d) K := tT_run (cut := [0, 22, 30, 37, 49, 52, 61, 66, 82, 99, 117, 124, 141]) 1 _ h
theorem t_16_30 {E : mO × tW} {K : tK} {d : mD} {x0 x1 : Int}
  (h : tCall E 56 [.inr (5, x0 + 1)] d (tbk E 16 34 [.inr (2, x0), .inr (3, x1), tu, tu, tu] [] 0 0 K)) :
  tRun E 16 (30, [.inr (2, x0), .inr (3, x1), tu, tu, tu], [], 0, 0, d) K := tT_run (cut := [0, 22, 30, 37, 49, 52, 61, 66, 82, 99, 117, 124, 141]) 3 _ h
theorem t_16_37 {E : mO × tW} {K : tK} {d : mD} {x0 x1 y0 : Int}
  (h : (mInR y0 ∧ mInR ((-1))) ∧ (y0 = (-1) → tCall E 26 [.inr (2, x0)] d (tbk E 16 63 [.inr (2, x0), .inr (3, x1), tu, tu, tu] [] 0 0 K)) ∧ (¬ y0 = (-1) → tCall E 56 [.inr (5, x0 + 1)] d (tbk E 16 46 [.inr (2, x0), .inr (3, x1), tu, tu, tu] [.inr (3, x1)] 0 0 K))) :
  tRun E 16 (37, [.inr (2, x0), .inr (3, x1), tu, tu, tu], [.inl (0, y0)], 0, 0, d) K := tT_run (cut := [0, 22, 30, 37, 49, 52, 61, 66, 82, 99, 117, 124, 141]) 6 _ h
theorem t_16_49 {E : mO × tW} {K : tK} {d : mD} {x0 x1 y0 y1 : Int}
  (h : tCall E 36 [.inr (3, y0), .inl (0, y1)] d (tbk E 16 49 [.inr (2, x0), .inr (3, x1), tu, tu, tu] [] 0 0 K)) :
  tRun E 16 (49, [.inr (2, x0), .inr (3, x1), tu, tu, tu], [.inl (0, y1), .inr (3, y0)], 0, 0, d) K := tT_run (cut := [0, 22, 30, 37, 49, 52, 61, 66, 82, 99, 117, 124, 141]) 1 _ h
theorem t_16_52 {E : mO × tW} {K : tK} {d : mD} {x0 x1 y0 : Int}
  (h : (mInR y0 ∧ mInR ((-1))) ∧ (y0 = (-1) → tCall E 26 [.inr (2, x0)] d (tbk E 16 63 [.inr (2, x0), .inr (3, x1), tu, tu, tu] [] 0 0 K)) ∧ (¬ y0 = (-1) → tCall E 32 [.inr (2, x0), .inl (0, 3)] d (tbk E 16 58 [.inr (2, x0), .inr (3, x1), tu, tu, tu] [] 0 0 K))) :
  tRun E 16 (52, [.inr (2, x0), .inr (3, x1), tu, tu, tu], [.inl (0, y0)], 0, 0, d) K := tT_run (cut := [0, 22, 30, 37, 49, 52, 61, 66, 82, 99, 117, 124, 141]) 5 _ h
theorem t_16_61 {E : mO × tW} {K : tK} {d : mD} {x0 x1 y0 : Int}
  (h : (y0 = 0 ∨ y0 = 1) ∧ K (.inl (some (0, y0))) d) :
  tRun E 16 (61, [.inr (2, x0), .inr (3, x1), tu, tu, tu], [.inl (0, y0)], 0, 0, d) K := tT_run (cut := [0, 22, 30, 37, 49, 52, 61, 66, 82, 99, 117, 124, 141]) 1 _ h
theorem t_16_66 {E : mO × tW} {K : tK} {d : mD} {x0 x1 y0 : Int}
  (h : mInR y0 ∧ (¬ y0 = 0 → tCall E 25 [.inr (2, x0), .inl (0, 1), .inl (0, 4)] d (tbk E 16 79 [.inr (2, x0), .inr (3, x1), .inl (0, d x0 5), tu, tu] [] 0 0 K)) ∧ (y0 = 0 → ((0 : Int) = 0 ∨ (0 : Int) = 1) ∧ K (.inl (some (0, 0))) d)) :
  tRun E 16 (66, [.inr (2, x0), .inr (3, x1), tu, tu, tu], [.inl (0, y0)], 0, 0, d) K := tT_run (cut := [0, 22, 30, 37, 49, 52, 61, 66, 82, 99, 117, 124, 141]) 8 _ h
theorem t_16_82 {E : mO × tW} {K : tK} {d : mD} {x0 x1 x2 y0 : Int}
  (h : mInR y0 ∧ (¬ y0 = 0 → tCall E 25 [.inr (2, x0), .inl (0, 1), .inl (0, 6)] d (tbk E 16 96 [.inr (2, x0), .inr (3, x1), .inl (0, x2), .inl (0, d x0 4), tu] [] 0 0 K)) ∧ (y0 = 0 → ((0 : Int) = 0 ∨ (0 : Int) = 1) ∧ K (.inl (some (0, 0))) d)) :
  tRun E 16 (82, [.inr (2, x0), .inr (3, x1), .inl (0, x2), tu, tu], [.inl (0, y0)], 0, 0, d) K := tT_run (cut := [0, 22, 30, 37, 49, 52, 61, 66, 82, 99, 117, 124, 141]) 8 _ h
theorem t_16_99 {E : mO × tW} {K : tK} {d : mD} {x0 x1 x2 x3 y0 : Int}
  (h : mInR y0 ∧ (¬ y0 = 0 → tCall E 25 [.inr (2, x0), .inl (0, 1), .inl (0, 20)] d (tbk E 16 114 [.inr (2, x0), .inr (3, x1), .inl (0, x2), .inl (0, x3), .inl (0, d x0 4)] [] 0 0 K)) ∧ (y0 = 0 → ((0 : Int) = 0 ∨ (0 : Int) = 1) ∧ K (.inl (some (0, 0))) d)) :
  tRun E 16 (99, [.inr (2, x0), .inr (3, x1), .inl (0, x2), .inl (0, x3), tu], [.inl (0, y0)], 0, 0, d) K := tT_run (cut := [0, 22, 30, 37, 49, 52, 61, 66, 82, 99, 117, 124, 141]) 8 _ h
theorem t_16_117 {E : mO × tW} {K : tK} {d : mD} {x0 x1 x2 x3 x4 y0 : Int}
  (h : mInR y0 ∧ (y0 = 0 → ((0 : Int) = 0 ∨ (0 : Int) = 1) ∧ K (.inl (some (0, 0))) d) ∧ (¬ y0 = 0 → tCall E 31 [.inr (2, x0)] d (tbk E 16 121 [.inr (2, x0), .inr (3, x1), .inl (0, x2), .inl (0, x3), .inl (0, x4)] [] 0 0 K))) :
  tRun E 16 (117, [.inr (2, x0), .inr (3, x1), .inl (0, x2), .inl (0, x3), .inl (0, x4)], [.inl (0, y0)], 0, 0, d) K := tT_run (cut := [0, 22, 30, 37, 49, 52, 61, 66, 82, 99, 117, 124, 141]) 3 _ h
theorem t_16_124 {E : mO × tW} {K : tK} {d : mD} {x0 x1 x2 x3 x4 y0 : Int}
  (h : mInR y0 ∧ (¬ y0 = 0 → tCall E 35 [.inr (3, x1), .inl (0, x2), .inl (0, x3), .inl (0, x4), .inl (0, d x0 4)] d (tbk E 16 138 [.inr (2, x0), .inr (3, x1), .inl (0, x2), .inl (0, x3), .inl (0, x4)] [] 0 0 K)) ∧ (y0 = 0 → ((0 : Int) = 0 ∨ (0 : Int) = 1) ∧ K (.inl (some (0, 0))) d)) :
  tRun E 16 (124, [.inr (2, x0), .inr (3, x1), .inl (0, x2), .inl (0, x3), .inl (0, x4)], [.inl (0, y0)], 0, 0, d) K := tT_run (cut := [0, 22, 30, 37, 49, 52, 61, 66, 82, 99, 117, 124, 141]) 8 _ h
theorem t_16_141 {E : mO × tW} {K : tK} {d : mD} {x0 x1 x2 x3 x4 : Int}
  (h : ((1 : Int) = 0 ∨ (1 : Int) = 1) ∧ K (.inl (some (0, 1))) d) :
  tRun E 16 (141, [.inr (2, x0), .inr (3, x1), .inl (0, x2), .inl (0, x3), .inl (0, x4)], [], 0, 0, d) K := tT_run (cut := [0, 22, 30, 37, 49, 52, 61, 66, 82, 99, 117, 124, 141]) 2 _ h
theorem t_17_0 {E : mO × tW} {K : tK} {d : mD} {x0 : Int}
  (h : tRun E 17 (2, [.inr (2, x0), .inl (0, 0)], [], 0, 0, d) K) :
  tRun E 17 (0, [.inr (2, x0), tu], [], 0, 0, d) K := tT_run (cut := [0, 2, 17, 24]) 2 _ h
theorem t_17_2 {E : mO × tW} {K : tK} {d : mD} {x0 x1 : Int}
  (h : (mInR x1 ∧ mInR 16) ∧ (16 < x1 → ((1 : Int) = 0 ∨ (1 : Int) = 1) ∧ K (.inl (some (0, 1))) d) ∧ (x1 ≤ 16 → tCall E 55 [.inr (5, x0 + 1), .inl (5, 2)] d (tbk E 17 14 [.inr (2, x0), .inl (0, x1)] [] 0 0 K))) :
  tRun E 17 (2, [.inr (2, x0), .inl (0, x1)], [], 0, 0, d) K := tT_run (cut := [0, 2, 17, 24]) 7 _ h
theorem t_17_17 {E : mO × tW} {K : tK} {d : mD} {x0 x1 y0 : Int}
  (h : mInR y0 ∧ (y0 = 0 → ((1 : Int) = 0 ∨ (1 : Int) = 1) ∧ K (.inl (some (0, 1))) d) ∧ (¬ y0 = 0 → tCall E 18 [.inr (2, x0)] d (tbk E 17 21 [.inr (2, x0), .inl (0, x1)] [] 0 0 K))) :
  tRun E 17 (17, [.inr (2, x0), .inl (0, x1)], [.inl (0, y0)], 0, 0, d) K := tT_run (cut := [0, 2, 17, 24]) 3 _ h
theorem t_17_24 {E : mO × tW} {K : tK} {d : mD} {x0 x1 y0 : Int}
  (h : mInR y0 ∧ (¬ y0 = 0 → tRun E 17 (2, [.inr (2, x0), .inl (0, x1 + 1)], [], 0, 0, d) K) ∧ (y0 = 0 → ((0 : Int) = 0 ∨ (0 : Int) = 1) ∧ K (.inl (some (0, 0))) d)) :
  tRun E 17 (24, [.inr (2, x0), .inl (0, x1)], [.inl (0, y0)], 0, 0, d) K := tT_run (cut := [0, 2, 17, 24]) 3 _ h
theorem t_18_0 {E : mO × tW} {K : tK} {d : mD} {x0 : Int}
  (h : (mInR (d (x0 + 4 + 10) 0) ∧ mInR 16) ∧ (d (x0 + 4 + 10) 0 < 16 → tCall E 52 [.inr (5, x0 + 1)] d (tbk E 18 25 [.inr (2, x0)] [] 0 0 K)) ∧ (16 ≤ d (x0 + 4 + 10) 0 → tCall E 32 [.inr (2, x0), .inl (0, 5)] d (tbk E 18 17 [.inr (2, x0)] [] 0 0 K))) :
  tRun E 18 (0, [.inr (2, x0)], [], 0, 0, d) K := tT_run (cut := [0, 20, 28, 35, 53, 56, 65, 70, 77, 96]) 9 _ h
theorem t_18_20 {E : mO × tW} {K : tK} {d : mD} {x0 y0 : Int}
  (h : (y0 = 0 ∨ y0 = 1) ∧ K (.inl (some (0, y0))) d) :
  tRun E 18 (20, [.inr (2, x0)], [.inl (0, y0)], 0, 0, d) K := tT_run (cut := [0, 20, 28, 35, 53, 56, 65, 70, 77, 96]) 1 _ h
theorem t_18_28 {E : mO × tW} {K : tK} {d : mD} {x0 : Int}
  (h : tCall E 56 [.inr (5, x0 + 1)] d (tbk E 18 32 [.inr (2, x0)] [] 0 0 K)) :
  tRun E 18 (28, [.inr (2, x0)], [], 0, 0, d) K := tT_run (cut := [0, 20, 28, 35, 53, 56, 65, 70, 77, 96]) 3 _ h
theorem t_18_35 {E : mO × tW} {K : tK} {d : mD} {x0 y0 : Int}
  (h : (mInR y0 ∧ mInR ((-1))) ∧ (y0 = (-1) → tCall E 26 [.inr (2, x0)] d (tbk E 18 67 [.inr (2, x0)] [] 0 0 K)) ∧ (¬ y0 = (-1) → tCall E 56 [.inr (5, x0 + 1)] d (tbk E 18 50 [.inr (2, x0)] [.inr (4, x0 + 4 + 10)] 0 0 K))) :
  tRun E 18 (35, [.inr (2, x0)], [.inl (0, y0)], 0, 0, d) K := tT_run (cut := [0, 20, 28, 35, 53, 56, 65, 70, 77, 96]) 8 _ h
theorem t_18_53 {E : mO × tW} {K : tK} {d : mD} {x0 y0 y1 : Int}
  (h : tCall E 48 [.inr (4, y0), .inl (0, y1)] d (tbk E 18 53 [.inr (2, x0)] [] 0 0 K)) :
  tRun E 18 (53, [.inr (2, x0)], [.inl (0, y1), .inr (4, y0)], 0, 0, d) K := tT_run (cut := [0, 20, 28, 35, 53, 56, 65, 70, 77, 96]) 1 _ h
theorem t_18_56 {E : mO × tW} {K : tK} {d : mD} {x0 y0 : Int}
  (h : (mInR y0 ∧ mInR ((-1))) ∧ (y0 = (-1) → tCall E 26 [.inr (2, x0)] d (tbk E 18 67 [.inr (2, x0)] [] 0 0 K)) ∧ (¬ y0 = (-1) → tCall E 32 [.inr (2, x0), .inl (0, 3)] d (tbk E 18 62 [.inr (2, x0)] [] 0 0 K))) :
  tRun E 18 (56, [.inr (2, x0)], [.inl (0, y0)], 0, 0, d) K := tT_run (cut := [0, 20, 28, 35, 53, 56, 65, 70, 77, 96]) 5 _ h
theorem t_18_65 {E : mO × tW} {K : tK} {d : mD} {x0 y0 : Int}
  (h : (y0 = 0 ∨ y0 = 1) ∧ K (.inl (some (0, y0))) d) :
  tRun E 18 (65, [.inr (2, x0)], [.inl (0, y0)], 0, 0, d) K := tT_run (cut := [0, 20, 28, 35, 53, 56, 65, 70, 77, 96]) 1 _ h
theorem t_18_70 {E : mO × tW} {K : tK} {d : mD} {x0 y0 : Int}
  (h : mInR y0 ∧ (y0 = 0 → ((0 : Int) = 0 ∨ (0 : Int) = 1) ∧ K (.inl (some (0, 0))) d) ∧ (¬ y0 = 0 → tCall E 31 [.inr (2, x0)] d (tbk E 18 74 [.inr (2, x0)] [] 0 0 K))) :
  tRun E 18 (70, [.inr (2, x0)], [.inl (0, y0)], 0, 0, d) K := tT_run (cut := [0, 20, 28, 35, 53, 56, 65, 70, 77, 96]) 3 _ h
theorem t_18_77 {E : mO × tW} {K : tK} {d : mD} {x0 y0 : Int}
  (h : mInR y0 ∧ (¬ y0 = 0 → tCall E 47 [.inr (4, x0 + 4 + 10), .inl (0, d x0 5)] d (tbk E 18 93 [.inr (2, x0)] [] 0 0 K)) ∧ (y0 = 0 → ((0 : Int) = 0 ∨ (0 : Int) = 1) ∧ K (.inl (some (0, 0))) d)) :
  tRun E 18 (77, [.inr (2, x0)], [.inl (0, y0)], 0, 0, d) K := tT_run (cut := [0, 20, 28, 35, 53, 56, 65, 70, 77, 96]) 7 _ h
theorem t_18_96 {E : mO × tW} {K : tK} {d : mD} {x0 : Int}
  (h : ((1 : Int) = 0 ∨ (1 : Int) = 1) ∧ K (.inl (some (0, 1))) d) :
  tRun E 18 (96, [.inr (2, x0)], [], 0, 0, d) K := tT_run (cut := [0, 20, 28, 35, 53, 56, 65, 70, 77, 96]) 2 _ h
theorem t_19_0 {E : mO × tW} {K : tK} {d : mD} {x0 : Int}
  (h : tRun E 19 (4, [.inr (2, x0), .inl (0, 1), .inl (0, 0)], [], 0, 0, d) K) :
  tRun E 19 (0, [.inr (2, x0), tu, tu], [], 0, 0, d) K := tT_run (cut := [0, 4, 35, 42, 55, 62, 75, 82, 95, 102, 111]) 4 _ h
theorem t_19_4 {E : mO × tW} {K : tK} {d : mD} {x0 x1 x2 : Int}
  (h : (mInR x2 ∧ mInR 1000) ∧ (1000 ≤ x2 → (x1 = 0 ∨ x1 = 1) ∧ K (.inl (some (0, x1))) d) ∧ (x2 < 1000 → mInR x1 ∧ (x1 = 0 → (x1 = 0 ∨ x1 = 1) ∧ K (.inl (some (0, x1))) d) ∧ (¬ x1 = 0 → (mInR (d (x0 + 1) 1) ∧ mInR 3) ∧ (d (x0 + 1) 1 = 3 → (x1 = 0 ∨ x1 = 1) ∧ K (.inl (some (0, x1))) d) ∧ (¬ d (x0 + 1) 1 = 3 → tCall E 55 [.inr (5, x0 + 1), .inl (5, 3)] d (tbk E 19 32 [.inr (2, x0), .inl (0, x1), .inl (0, x2)] [] 0 0 K))))) :
  tRun E 19 (4, [.inr (2, x0), .inl (0, x1), .inl (0, x2)], [], 0, 0, d) K := tT_run (cut := [0, 4, 35, 42, 55, 62, 75, 82, 95, 102, 111]) 14 _ h
theorem t_19_35 {E : mO × tW} {K : tK} {d : mD} {x0 x1 x2 y0 : Int}
  (h : mInR y0 ∧ (y0 = 0 → tCall E 55 [.inr (5, x0 + 1), .inl (5, 4)] d (tbk E 19 52 [.inr (2, x0), .inl (0, x1), .inl (0, x2)] [] 0 0 K)) ∧ (¬ y0 = 0 → tCall E 20 [.inr (2, x0)] d (tbk E 19 39 [.inr (2, x0), .inl (0, x1), .inl (0, x2)] [] 0 0 K))) :
  tRun E 19 (35, [.inr (2, x0), .inl (0, x1), .inl (0, x2)], [.inl (0, y0)], 0, 0, d) K := tT_run (cut := [0, 4, 35, 42, 55, 62, 75, 82, 95, 102, 111]) 5 _ h
theorem t_19_42 {E : mO × tW} {K : tK} {d : mD} {x0 x1 x2 y0 : Int}
  (h : tRun E 19 (4, [.inr (2, x0), .inl (0, y0), .inl (0, x2 + 1)], [], 0, 0, d) K) :
  tRun E 19 (42, [.inr (2, x0), .inl (0, x1), .inl (0, x2)], [.inl (0, y0)], 0, 0, d) K := tT_run (cut := [0, 4, 35, 42, 55, 62, 75, 82, 95, 102, 111]) 4 _ h
theorem t_19_55 {E : mO × tW} {K : tK} {d : mD} {x0 x1 x2 y0 : Int}
  (h : mInR y0 ∧ (y0 = 0 → tCall E 55 [.inr (5, x0 + 1), .inl (5, 5)] d (tbk E 19 72 [.inr (2, x0), .inl (0, x1), .inl (0, x2)] [] 0 0 K)) ∧ (¬ y0 = 0 → tCall E 21 [.inr (2, x0)] d (tbk E 19 59 [.inr (2, x0), .inl (0, x1), .inl (0, x2)] [] 0 0 K))) :
  tRun E 19 (55, [.inr (2, x0), .inl (0, x1), .inl (0, x2)], [.inl (0, y0)], 0, 0, d) K := tT_run (cut := [0, 4, 35, 42, 55, 62, 75, 82, 95, 102, 111]) 5 _ h
theorem t_19_62 {E : mO × tW} {K : tK} {d : mD} {x0 x1 x2 y0 : Int}
  (h : tRun E 19 (4, [.inr (2, x0), .inl (0, y0), .inl (0, x2 + 1)], [], 0, 0, d) K) :
  tRun E 19 (62, [.inr (2, x0), .inl (0, x1), .inl (0, x2)], [.inl (0, y0)], 0, 0, d) K := tT_run (cut := [0, 4, 35, 42, 55, 62, 75, 82, 95, 102, 111]) 4 _ h
theorem t_19_75 {E : mO × tW} {K : tK} {d : mD} {x0 x1 x2 y0 : Int}
  (h : mInR y0 ∧ (y0 = 0 → tCall E 55 [.inr (5, x0 + 1), .inl (5, 6)] d (tbk E 19 92 [.inr (2, x0), .inl (0, x1), .inl (0, x2)] [] 0 0 K)) ∧ (¬ y0 = 0 → tCall E 22 [.inr (2, x0)] d (tbk E 19 79 [.inr (2, x0), .inl (0, x1), .inl (0, x2)] [] 0 0 K))) :
  tRun E 19 (75, [.inr (2, x0), .inl (0, x1), .inl (0, x2)], [.inl (0, y0)], 0, 0, d) K := tT_run (cut := [0, 4, 35, 42, 55, 62, 75, 82, 95, 102, 111]) 5 _ h
theorem t_19_82 {E : mO × tW} {K : tK} {d : mD} {x0 x1 x2 y0 : Int}
  (h : tRun E 19 (4, [.inr (2, x0), .inl (0, y0), .inl (0, x2 + 1)], [], 0, 0, d) K) :
  tRun E 19 (82, [.inr (2, x0), .inl (0, x1), .inl (0, x2)], [.inl (0, y0)], 0, 0, d) K := tT_run (cut := [0, 4, 35, 42, 55, 62, 75, 82, 95, 102, 111]) 4 _ h
theorem t_19_95 {E : mO × tW} {K : tK} {d : mD} {x0 x1 x2 y0 : Int}
  (h : mInR y0 ∧ (y0 = 0 → tCall E 32 [.inr (2, x0), .inl (0, 1)] d (tbk E 19 108 [.inr (2, x0), .inl (0, x1), .inl (0, x2)] [] 0 0 K)) ∧ (¬ y0 = 0 → tCall E 23 [.inr (2, x0)] d (tbk E 19 99 [.inr (2, x0), .inl (0, x1), .inl (0, x2)] [] 0 0 K))) :
  tRun E 19 (95, [.inr (2, x0), .inl (0, x1), .inl (0, x2)], [.inl (0, y0)], 0, 0, d) K := tT_run (cut := [0, 4, 35, 42, 55, 62, 75, 82, 95, 102, 111]) 4 _ h
theorem t_19_102 {E : mO × tW} {K : tK} {d : mD} {x0 x1 x2 y0 : Int}
  (h : tRun E 19 (4, [.inr (2, x0), .inl (0, y0), .inl (0, x2 + 1)], [], 0, 0, d) K) :
  tRun E 19 (102, [.inr (2, x0), .inl (0, x1), .inl (0, x2)], [.inl (0, y0)], 0, 0, d) K := tT_run (cut := [0, 4, 35, 42, 55, 62, 75, 82, 95, 102, 111]) 4 _ h
theorem t_19_111 {E : mO × tW} {K : tK} {d : mD} {x0 x1 x2 y0 : Int}
  (h : tRun E 19 (4, [.inr (2, x0), .inl (0, y0), .inl (0, x2 + 1)], [], 0, 0, d) K) :
  tRun E 19 (111, [.inr (2, x0), .inl (0, x1), .inl (0, x2)], [.inl (0, y0)], 0, 0, d) K := tT_run (cut := [0, 4, 35, 42, 55, 62, 75, 82, 95, 102, 111]) 3 _ h
theorem t_20_0 {E : mO × tW} {K : tK} {d : mD} {x0 : Int}
  (h : tCall E 52 [.inr (5, x0 + 1)] d (tbk E 20 4 [.inr (2, x0), tu] [] 0 0 K)) :
  tRun E 20 (0, [.inr (2, x0), tu], [], 0, 0, d) K := tT_run (cut := [0, 7, 11, 25, 32, 49, 58, 71, 76]) 3 _ h
theorem t_20_7 {E : mO × tW} {K : tK} {d : mD} {x0 : Int}
  (h : tCall E 27 [.inr (2, x0)] d (tbk E 20 8 [.inr (2, x0), tu] [] 0 0 K)) :
  tRun E 20 (7, [.inr (2, x0), tu], [], 0, 0, d) K := tT_run (cut := [0, 7, 11, 25, 32, 49, 58, 71, 76]) 2 _ h
theorem t_20_11 {E : mO × tW} {K : tK} {d : mD} {x0 y0 : Int}
  (h : mInR y0 ∧ (¬ y0 = 0 → tCall E 28 [.inr (2, x0)] d (tbk E 20 22 [.inr (2, x0), .inl (0, d x0 6)] [] 0 0 K)) ∧ (y0 = 0 → ((0 : Int) = 0 ∨ (0 : Int) = 1) ∧ K (.inl (some (0, 0))) d)) :
  tRun E 20 (11, [.inr (2, x0), tu], [.inl (0, y0)], 0, 0, d) K := tT_run (cut := [0, 7, 11, 25, 32, 49, 58, 71, 76]) 6 _ h
theorem t_20_25 {E : mO × tW} {K : tK} {d : mD} {x0 x1 y0 : Int}
  (h : mInR y0 ∧ (y0 = 0 → ((0 : Int) = 0 ∨ (0 : Int) = 1) ∧ K (.inl (some (0, 0))) d) ∧ (¬ y0 = 0 → tCall E 30 [.inr (2, x0)] d (tbk E 20 29 [.inr (2, x0), .inl (0, x1)] [] 0 0 K))) :
  tRun E 20 (25, [.inr (2, x0), .inl (0, x1)], [.inl (0, y0)], 0, 0, d) K := tT_run (cut := [0, 7, 11, 25, 32, 49, 58, 71, 76]) 3 _ h
theorem t_20_32 {E : mO × tW} {K : tK} {d : mD} {x0 x1 y0 : Int}
  (h : mInR y0 ∧ (¬ y0 = 0 → tCall E 60 [.inr (6, x0 + 4), .inl (0, x1), .inl (0, d x0 6)] d (tbk E 20 46 [.inr (2, x0), .inl (0, x1)] [] 0 0 K)) ∧ (y0 = 0 → ((0 : Int) = 0 ∨ (0 : Int) = 1) ∧ K (.inl (some (0, 0))) d)) :
  tRun E 20 (32, [.inr (2, x0), .inl (0, x1)], [.inl (0, y0)], 0, 0, d) K := tT_run (cut := [0, 7, 11, 25, 32, 49, 58, 71, 76]) 7 _ h
theorem t_20_49 {E : mO × tW} {K : tK} {d : mD} {x0 x1 y0 : Int}
  (h : mInR y0 ∧ (¬ y0 = 0 → tCall E 61 [.inr (6, x0 + 4), .inl (0, x1), .inl (0, d x0 6)] d (tbk E 20 68 [.inr (2, x0), .inl (0, x1)] [] 0 0 K)) ∧ (y0 = 0 → tCall E 32 [.inr (2, x0), .inl (0, 6)] d (tbk E 20 55 [.inr (2, x0), .inl (0, x1)] [] 0 0 K))) :
  tRun E 20 (49, [.inr (2, x0), .inl (0, x1)], [.inl (0, y0)], 0, 0, d) K := tT_run (cut := [0, 7, 11, 25, 32, 49, 58, 71, 76]) 7 _ h
theorem t_20_58 {E : mO × tW} {K : tK} {d : mD} {x0 x1 y0 : Int}
  (h : (y0 = 0 ∨ y0 = 1) ∧ K (.inl (some (0, y0))) d) :
  tRun E 20 (58, [.inr (2, x0), .inl (0, x1)], [.inl (0, y0)], 0, 0, d) K := tT_run (cut := [0, 7, 11, 25, 32, 49, 58, 71, 76]) 1 _ h
theorem t_20_71 {E : mO × tW} {K : tK} {d : mD} {x0 x1 y0 : Int}
  (h : tCall E 31 [.inr (2, x0)] d (tbk E 20 73 [.inr (2, x0), .inl (0, x1)] [] 0 0 K)) :
  tRun E 20 (71, [.inr (2, x0), .inl (0, x1)], [.inl (0, y0)], 0, 0, d) K := tT_run (cut := [0, 7, 11, 25, 32, 49, 58, 71, 76]) 3 _ h
theorem t_20_76 {E : mO × tW} {K : tK} {d : mD} {x0 x1 y0 : Int}
  (h : (y0 = 0 ∨ y0 = 1) ∧ K (.inl (some (0, y0))) d) :
  tRun E 20 (76, [.inr (2, x0), .inl (0, x1)], [.inl (0, y0)], 0, 0, d) K := tT_run (cut := [0, 7, 11, 25, 32, 49, 58, 71, 76]) 1 _ h
theorem t_21_0 {E : mO × tW} {K : tK} {d : mD} {x0 : Int}
  (h : tCall E 52 [.inr (5, x0 + 1)] d (tbk E 21 4 [.inr (2, x0)] [] 0 0 K)) :
  tRun E 21 (0, [.inr (2, x0)], [], 0, 0, d) K := tT_run (cut := [0, 7, 14, 21, 37, 46, 58, 63]) 3 _ h
theorem t_21_7 {E : mO × tW} {K : tK} {d : mD} {x0 : Int}
  (h : tCall E 25 [.inr (2, x0), .inl (0, 1), .inl (0, 99)] d (tbk E 21 11 [.inr (2, x0)] [] 0 0 K)) :
  tRun E 21 (7, [.inr (2, x0)], [], 0, 0, d) K := tT_run (cut := [0, 7, 14, 21, 37, 46, 58, 63]) 4 _ h
theorem t_21_14 {E : mO × tW} {K : tK} {d : mD} {x0 y0 : Int}
  (h : mInR y0 ∧ (y0 = 0 → ((0 : Int) = 0 ∨ (0 : Int) = 1) ∧ K (.inl (some (0, 0))) d) ∧ (¬ y0 = 0 → tCall E 30 [.inr (2, x0)] d (tbk E 21 18 [.inr (2, x0)] [] 0 0 K))) :
  tRun E 21 (14, [.inr (2, x0)], [.inl (0, y0)], 0, 0, d) K := tT_run (cut := [0, 7, 14, 21, 37, 46, 58, 63]) 3 _ h
theorem t_21_21 {E : mO × tW} {K : tK} {d : mD} {x0 y0 : Int}
  (h : mInR y0 ∧ (¬ y0 = 0 → tCall E 67 [.inr (6, x0 + 4), .inl (0, d x0 4)] d (tbk E 21 34 [.inr (2, x0)] [] 0 0 K)) ∧ (y0 = 0 → ((0 : Int) = 0 ∨ (0 : Int) = 1) ∧ K (.inl (some (0, 0))) d)) :
  tRun E 21 (21, [.inr (2, x0)], [.inl (0, y0)], 0, 0, d) K := tT_run (cut := [0, 7, 14, 21, 37, 46, 58, 63]) 6 _ h
theorem t_21_37 {E : mO × tW} {K : tK} {d : mD} {x0 y0 : Int}
  (h : mInR y0 ∧ (¬ y0 = 0 → tCall E 68 [.inr (6, x0 + 4), .inl (0, d x0 4)] d (tbk E 21 55 [.inr (2, x0)] [] 0 0 K)) ∧ (y0 = 0 → tCall E 32 [.inr (2, x0), .inl (0, 6)] d (tbk E 21 43 [.inr (2, x0)] [] 0 0 K))) :
  tRun E 21 (37, [.inr (2, x0)], [.inl (0, y0)], 0, 0, d) K := tT_run (cut := [0, 7, 14, 21, 37, 46, 58, 63]) 6 _ h
theorem t_21_46 {E : mO × tW} {K : tK} {d : mD} {x0 y0 : Int}
  (h : (y0 = 0 ∨ y0 = 1) ∧ K (.inl (some (0, y0))) d) :
  tRun E 21 (46, [.inr (2, x0)], [.inl (0, y0)], 0, 0, d) K := tT_run (cut := [0, 7, 14, 21, 37, 46, 58, 63]) 1 _ h
theorem t_21_58 {E : mO × tW} {K : tK} {d : mD} {x0 y0 : Int}
  (h : tCall E 31 [.inr (2, x0)] d (tbk E 21 60 [.inr (2, x0)] [] 0 0 K)) :
  tRun E 21 (58, [.inr (2, x0)], [.inl (0, y0)], 0, 0, d) K := tT_run (cut := [0, 7, 14, 21, 37, 46, 58, 63]) 3 _ h
theorem t_21_63 {E : mO × tW} {K : tK} {d : mD} {x0 y0 : Int}
  (h : (y0 = 0 ∨ y0 = 1) ∧ K (.inl (some (0, y0))) d) :
  tRun E 21 (63, [.inr (2, x0)], [.inl (0, y0)], 0, 0, d) K := tT_run (cut := [0, 7, 14, 21, 37, 46, 58, 63]) 1 _ h
theorem t_22_0 {E : mO × tW} {K : tK} {d : mD} {x0 : Int}
  (h : tCall E 52 [.inr (5, x0 + 1)] d (tbk E 22 4 [.inr (2, x0)] [] 0 0 K)) :
  tRun E 22 (0, [.inr (2, x0)], [], 0, 0, d) K := tT_run (cut := [0, 7, 11, 18, 34, 43, 55, 60]) 3 _ h
theorem t_22_7 {E : mO × tW} {K : tK} {d : mD} {x0 : Int}
  (h : tCall E 29 [.inr (2, x0)] d (tbk E 22 8 [.inr (2, x0)] [] 0 0 K)) :
  tRun E 22 (7, [.inr (2, x0)], [], 0, 0, d) K := tT_run (cut := [0, 7, 11, 18, 34, 43, 55, 60]) 2 _ h
theorem t_22_11 {E : mO × tW} {K : tK} {d : mD} {x0 y0 : Int}
  (h : mInR y0 ∧ (y0 = 0 → ((0 : Int) = 0 ∨ (0 : Int) = 1) ∧ K (.inl (some (0, 0))) d) ∧ (¬ y0 = 0 → tCall E 30 [.inr (2, x0)] d (tbk E 22 15 [.inr (2, x0)] [] 0 0 K))) :
  tRun E 22 (11, [.inr (2, x0)], [.inl (0, y0)], 0, 0, d) K := tT_run (cut := [0, 7, 11, 18, 34, 43, 55, 60]) 3 _ h
theorem t_22_18 {E : mO × tW} {K : tK} {d : mD} {x0 y0 : Int}
  (h : mInR y0 ∧ (¬ y0 = 0 → tCall E 73 [.inr (6, x0 + 4), .inl (0, d x0 6)] d (tbk E 22 31 [.inr (2, x0)] [] 0 0 K)) ∧ (y0 = 0 → ((0 : Int) = 0 ∨ (0 : Int) = 1) ∧ K (.inl (some (0, 0))) d)) :
  tRun E 22 (18, [.inr (2, x0)], [.inl (0, y0)], 0, 0, d) K := tT_run (cut := [0, 7, 11, 18, 34, 43, 55, 60]) 6 _ h
theorem t_22_34 {E : mO × tW} {K : tK} {d : mD} {x0 y0 : Int}
  (h : mInR y0 ∧ (¬ y0 = 0 → tCall E 74 [.inr (6, x0 + 4), .inl (0, d x0 6)] d (tbk E 22 52 [.inr (2, x0)] [] 0 0 K)) ∧ (y0 = 0 → tCall E 32 [.inr (2, x0), .inl (0, 6)] d (tbk E 22 40 [.inr (2, x0)] [] 0 0 K))) :
  tRun E 22 (34, [.inr (2, x0)], [.inl (0, y0)], 0, 0, d) K := tT_run (cut := [0, 7, 11, 18, 34, 43, 55, 60]) 6 _ h
theorem t_22_43 {E : mO × tW} {K : tK} {d : mD} {x0 y0 : Int}
  (h : (y0 = 0 ∨ y0 = 1) ∧ K (.inl (some (0, y0))) d) :
  tRun E 22 (43, [.inr (2, x0)], [.inl (0, y0)], 0, 0, d) K := tT_run (cut := [0, 7, 11, 18, 34, 43, 55, 60]) 1 _ h
theorem t_22_55 {E : mO × tW} {K : tK} {d : mD} {x0 y0 : Int}
  (h : tCall E 31 [.inr (2, x0)] d (tbk E 22 57 [.inr (2, x0)] [] 0 0 K)) :
  tRun E 22 (55, [.inr (2, x0)], [.inl (0, y0)], 0, 0, d) K := tT_run (cut := [0, 7, 11, 18, 34, 43, 55, 60]) 3 _ h
theorem t_22_60 {E : mO × tW} {K : tK} {d : mD} {x0 y0 : Int}
  (h : (y0 = 0 ∨ y0 = 1) ∧ K (.inl (some (0, y0))) d) :
  tRun E 22 (60, [.inr (2, x0)], [.inl (0, y0)], 0, 0, d) K := tT_run (cut := [0, 7, 11, 18, 34, 43, 55, 60]) 1 _ h
theorem t_23_0 {E : mO × tW} {K : tK} {d : mD} {x0 : Int}
  (h : tCall E 52 [.inr (5, x0 + 1)] d (tbk E 23 4 [.inr (2, x0), tu] [] 0 0 K)) :
  tRun E 23 (0, [.inr (2, x0), tu], [], 0, 0, d) K := tT_run (cut := [0, 7, 11, 25, 32, 49, 58, 71, 76]) 3 _ h
theorem t_23_7 {E : mO × tW} {K : tK} {d : mD} {x0 : Int}
  (h : tCall E 27 [.inr (2, x0)] d (tbk E 23 8 [.inr (2, x0), tu] [] 0 0 K)) :
  tRun E 23 (7, [.inr (2, x0), tu], [], 0, 0, d) K := tT_run (cut := [0, 7, 11, 25, 32, 49, 58, 71, 76]) 2 _ h
theorem t_23_11 {E : mO × tW} {K : tK} {d : mD} {x0 y0 : Int}
  (h : mInR y0 ∧ (¬ y0 = 0 → tCall E 29 [.inr (2, x0)] d (tbk E 23 22 [.inr (2, x0), .inl (0, d x0 6)] [] 0 0 K)) ∧ (y0 = 0 → ((0 : Int) = 0 ∨ (0 : Int) = 1) ∧ K (.inl (some (0, 0))) d)) :
  tRun E 23 (11, [.inr (2, x0), tu], [.inl (0, y0)], 0, 0, d) K := tT_run (cut := [0, 7, 11, 25, 32, 49, 58, 71, 76]) 6 _ h
theorem t_23_25 {E : mO × tW} {K : tK} {d : mD} {x0 x1 y0 : Int}
  (h : mInR y0 ∧ (y0 = 0 → ((0 : Int) = 0 ∨ (0 : Int) = 1) ∧ K (.inl (some (0, 0))) d) ∧ (¬ y0 = 0 → tCall E 30 [.inr (2, x0)] d (tbk E 23 29 [.inr (2, x0), .inl (0, x1)] [] 0 0 K))) :
  tRun E 23 (25, [.inr (2, x0), .inl (0, x1)], [.inl (0, y0)], 0, 0, d) K := tT_run (cut := [0, 7, 11, 25, 32, 49, 58, 71, 76]) 3 _ h
theorem t_23_32 {E : mO × tW} {K : tK} {d : mD} {x0 x1 y0 : Int}
  (h : mInR y0 ∧ (¬ y0 = 0 → tCall E 77 [.inr (6, x0 + 4), .inl (0, d x0 6), .inl (0, x1)] d (tbk E 23 46 [.inr (2, x0), .inl (0, x1)] [] 0 0 K)) ∧ (y0 = 0 → ((0 : Int) = 0 ∨ (0 : Int) = 1) ∧ K (.inl (some (0, 0))) d)) :
  tRun E 23 (32, [.inr (2, x0), .inl (0, x1)], [.inl (0, y0)], 0, 0, d) K := tT_run (cut := [0, 7, 11, 25, 32, 49, 58, 71, 76]) 7 _ h
theorem t_23_49 {E : mO × tW} {K : tK} {d : mD} {x0 x1 y0 : Int}
  (h : mInR y0 ∧ (y0 = 0 → tCall E 75 [.inr (6, x0 + 4), .inl (0, d x0 6), .inl (0, x1)] d (tbk E 23 68 [.inr (2, x0), .inl (0, x1)] [] 0 0 K)) ∧ (¬ y0 = 0 → tCall E 32 [.inr (2, x0), .inl (0, 6)] d (tbk E 23 55 [.inr (2, x0), .inl (0, x1)] [] 0 0 K))) :
  tRun E 23 (49, [.inr (2, x0), .inl (0, x1)], [.inl (0, y0)], 0, 0, d) K := tT_run (cut := [0, 7, 11, 25, 32, 49, 58, 71, 76]) 7 _ h
theorem t_23_58 {E : mO × tW} {K : tK} {d : mD} {x0 x1 y0 : Int}
  (h : (y0 = 0 ∨ y0 = 1) ∧ K (.inl (some (0, y0))) d) :
  tRun E 23 (58, [.inr (2, x0), .inl (0, x1)], [.inl (0, y0)], 0, 0, d) K := tT_run (cut := [0, 7, 11, 25, 32, 49, 58, 71, 76]) 1 _ h
theorem t_23_71 {E : mO × tW} {K : tK} {d : mD} {x0 x1 y0 : Int}
  (h : tCall E 31 [.inr (2, x0)] d (tbk E 23 73 [.inr (2, x0), .inl (0, x1)] [] 0 0 K)) :
  tRun E 23 (71, [.inr (2, x0), .inl (0, x1)], [.inl (0, y0)], 0, 0, d) K := tT_run (cut := [0, 7, 11, 25, 32, 49, 58, 71, 76]) 3 _ h
theorem t_23_76 {E : mO × tW} {K : tK} {d : mD} {x0 x1 y0 : Int}
  (h : (y0 = 0 ∨ y0 = 1) ∧ K (.inl (some (0, y0))) d) :
  tRun E 23 (76, [.inr (2, x0), .inl (0, x1)], [.inl (0, y0)], 0, 0, d) K := tT_run (cut := [0, 7, 11, 25, 32, 49, 58, 71, 76]) 1 _ h
theorem t_24_0 {E : mO × tW} {K : tK} {d : mD} {x0 x1 : Int}
  (h : tCall E 55 [.inr (5, x0 + 1), .inl (5, x1)] d (tbk E 24 5 [.inr (2, x0), .inl (5, x1)] [] 0 0 K)) :
  tRun E 24 (0, [.inr (2, x0), .inl (5, x1)], [], 0, 0, d) K := tT_run (cut := [0, 8, 16, 24]) 4 _ h
theorem t_24_8 {E : mO × tW} {K : tK} {d : mD} {x0 x1 y0 : Int}
  (h : mInR y0 ∧ (¬ y0 = 0 → tCall E 52 [.inr (5, x0 + 1)] d (tbk E 24 21 [.inr (2, x0), .inl (5, x1)] [] 0 0 K)) ∧ (y0 = 0 → tCall E 32 [.inr (2, x0), .inl (0, 1)] d (tbk E 24 13 [.inr (2, x0), .inl (5, x1)] [] 0 0 K))) :
  tRun E 24 (8, [.inr (2, x0), .inl (5, x1)], [.inl (0, y0)], 0, 0, d) K := tT_run (cut := [0, 8, 16, 24]) 4 _ h
theorem t_24_16 {E : mO × tW} {K : tK} {d : mD} {x0 x1 y0 : Int}
  (h : (y0 = 0 ∨ y0 = 1) ∧ K (.inl (some (0, y0))) d) :
  tRun E 24 (16, [.inr (2, x0), .inl (5, x1)], [.inl (0, y0)], 0, 0, d) K := tT_run (cut := [0, 8, 16, 24]) 1 _ h
theorem t_24_24 {E : mO × tW} {K : tK} {d : mD} {x0 x1 : Int}
  (h : ((1 : Int) = 0 ∨ (1 : Int) = 1) ∧ K (.inl (some (0, 1))) d) :
  tRun E 24 (24, [.inr (2, x0), .inl (5, x1)], [], 0, 0, d) K := tT_run (cut := [0, 8, 16, 24]) 2 _ h
theorem t_25_0 {E : mO × tW} {K : tK} {d : mD} {x0 x1 x2 : Int}
  (h : (mInR (d (x0 + 1) 1) ∧ mInR 1) ∧ (d (x0 + 1) 1 = 1 → (mInR (d (x0 + 1) 4) ∧ mInR x1) ∧ (d (x0 + 1) 4 < x1 → tCall E 32 [.inr (2, x0), .inl (0, 2)] d (tbk E 25 41 [.inr (2, x0), .inl (0, x1), .inl (0, x2)] [] 0 0 K)) ∧ (x1 ≤ d (x0 + 1) 4 → (mInR (d (x0 + 1) 4) ∧ mInR x2) ∧ (d (x0 + 1) 4 ≤ x2 → tCall E 52 [.inr (5, x0 + 1)] (mset d x0 4 (d (x0 + 1) 4)) (tbk E 25 60 [.inr (2, x0), .inl (0, x1), .inl (0, x2)] [] 0 0 K)) ∧ (x2 < d (x0 + 1) 4 → tCall E 32 [.inr (2, x0), .inl (0, 2)] d (tbk E 25 41 [.inr (2, x0), .inl (0, x1), .inl (0, x2)] [] 0 0 K)))) ∧ (¬ d (x0 + 1) 1 = 1 → tCall E 32 [.inr (2, x0), .inl (0, 1)] d (tbk E 25 13 [.inr (2, x0), .inl (0, x1), .inl (0, x2)] [] 0 0 K))) :
  tRun E 25 (0, [.inr (2, x0), .inl (0, x1), .inl (0, x2)], [], 0, 0, d) K := tT_run (cut := [0, 16, 44, 63]) 23 _ h
theorem t_25_16 {E : mO × tW} {K : tK} {d : mD} {x0 x1 x2 y0 : Int}
  (h : (y0 = 0 ∨ y0 = 1) ∧ K (.inl (some (0, y0))) d) :
  tRun E 25 (16, [.inr (2, x0), .inl (0, x1), .inl (0, x2)], [.inl (0, y0)], 0, 0, d) K := tT_run (cut := [0, 16, 44, 63]) 1 _ h
theorem t_25_44 {E : mO × tW} {K : tK} {d : mD} {x0 x1 x2 y0 : Int}
  (h : (y0 = 0 ∨ y0 = 1) ∧ K (.inl (some (0, y0))) d) :
  tRun E 25 (44, [.inr (2, x0), .inl (0, x1), .inl (0, x2)], [.inl (0, y0)], 0, 0, d) K := tT_run (cut := [0, 16, 44, 63]) 1 _ h
theorem t_25_63 {E : mO × tW} {K : tK} {d : mD} {x0 x1 x2 : Int}
  (h : ((1 : Int) = 0 ∨ (1 : Int) = 1) ∧ K (.inl (some (0, 1))) d) :
  tRun E 25 (63, [.inr (2, x0), .inl (0, x1), .inl (0, x2)], [], 0, 0, d) K := tT_run (cut := [0, 16, 44, 63]) 2 _ h
theorem t_26_0 {E : mO × tW} {K : tK} {d : mD} {x0 : Int}
  (h : tCall E 56 [.inr (5, x0 + 1)] d (tbk E 26 5 [.inr (2, x0)] [.inr (2, x0)] 0 0 K)) :
  tRun E 26 (0, [.inr (2, x0)], [], 0, 0, d) K := tT_run (cut := [0, 8, 24, 32]) 4 _ h
theorem t_26_8 {E : mO × tW} {K : tK} {d : mD} {x0 y0 y1 : Int}
  (h : (mInR ((mset d y0 5 y1) x0 5) ∧ mInR ((-1))) ∧ (¬ (mset d y0 5 y1) x0 5 = (-1) → tCall E 52 [.inr (5, x0 + 1)] (mset d y0 5 y1) (tbk E 26 29 [.inr (2, x0)] [] 0 0 K)) ∧ ((mset d y0 5 y1) x0 5 = (-1) → tCall E 32 [.inr (2, x0), .inl (0, 1)] (mset d y0 5 y1) (tbk E 26 21 [.inr (2, x0)] [] 0 0 K))) :
  tRun E 26 (8, [.inr (2, x0)], [.inl (0, y1), .inr (2, y0)], 0, 0, d) K := tT_run (cut := [0, 8, 24, 32]) 8 _ h
theorem t_26_24 {E : mO × tW} {K : tK} {d : mD} {x0 y0 : Int}
  (h : (y0 = 0 ∨ y0 = 1) ∧ K (.inl (some (0, y0))) d) :
  tRun E 26 (24, [.inr (2, x0)], [.inl (0, y0)], 0, 0, d) K := tT_run (cut := [0, 8, 24, 32]) 1 _ h
theorem t_26_32 {E : mO × tW} {K : tK} {d : mD} {x0 : Int}
  (h : ((1 : Int) = 0 ∨ (1 : Int) = 1) ∧ K (.inl (some (0, 1))) d) :
  tRun E 26 (32, [.inr (2, x0)], [], 0, 0, d) K := tT_run (cut := [0, 8, 24, 32]) 2 _ h
theorem t_27_0 {E : mO × tW} {K : tK} {d : mD} {x0 : Int}
  (h : tCall E 56 [.inr (5, x0 + 1)] d (tbk E 27 12 [.inr (2, x0)] [.inr (4, x0 + 4 + 10), .inr (2, x0)] 0 0 K)) :
  tRun E 27 (0, [.inr (2, x0)], [], 0, 0, d) K := tT_run (cut := [0, 15, 18, 28, 45, 50]) 7 _ h
theorem t_27_15 {E : mO × tW} {K : tK} {d : mD} {x0 y0 y1 y2 : Int}
  (h : tCall E 48 [.inr (4, y1), .inl (0, y2)] d (tbk E 27 15 [.inr (2, x0)] [.inr (2, y0)] 0 0 K)) :
  tRun E 27 (15, [.inr (2, x0)], [.inl (0, y2), .inr (4, y1), .inr (2, y0)], 0, 0, d) K := tT_run (cut := [0, 15, 18, 28, 45, 50]) 1 _ h
theorem t_27_18 {E : mO × tW} {K : tK} {d : mD} {x0 y0 y1 : Int}
  (h : tCall E 56 [.inr (5, x0 + 1)] (mset d y0 6 y1) (tbk E 27 25 [.inr (2, x0)] [] 0 0 K)) :
  tRun E 27 (18, [.inr (2, x0)], [.inl (0, y1), .inr (2, y0)], 0, 0, d) K := tT_run (cut := [0, 15, 18, 28, 45, 50]) 4 _ h
theorem t_27_28 {E : mO × tW} {K : tK} {d : mD} {x0 y0 : Int}
  (h : (mInR y0 ∧ mInR ((-1))) ∧ (y0 = (-1) → tCall E 26 [.inr (2, x0)] d (tbk E 27 47 [.inr (2, x0)] [] 0 0 K)) ∧ (¬ y0 = (-1) → (mInR (d x0 6) ∧ mInR ((-1))) ∧ (¬ d x0 6 = (-1) → tCall E 26 [.inr (2, x0)] d (tbk E 27 47 [.inr (2, x0)] [] 0 0 K)) ∧ (d x0 6 = (-1) → tCall E 32 [.inr (2, x0), .inl (0, 4)] d (tbk E 27 42 [.inr (2, x0)] [] 0 0 K)))) :
  tRun E 27 (28, [.inr (2, x0)], [.inl (0, y0)], 0, 0, d) K := tT_run (cut := [0, 15, 18, 28, 45, 50]) 9 _ h
theorem t_27_45 {E : mO × tW} {K : tK} {d : mD} {x0 y0 : Int}
  (h : (y0 = 0 ∨ y0 = 1) ∧ K (.inl (some (0, y0))) d) :
  tRun E 27 (45, [.inr (2, x0)], [.inl (0, y0)], 0, 0, d) K := tT_run (cut := [0, 15, 18, 28, 45, 50]) 1 _ h
theorem t_27_50 {E : mO × tW} {K : tK} {d : mD} {x0 y0 : Int}
  (h : (y0 = 0 ∨ y0 = 1) ∧ K (.inl (some (0, y0))) d) :
  tRun E 27 (50, [.inr (2, x0)], [.inl (0, y0)], 0, 0, d) K := tT_run (cut := [0, 15, 18, 28, 45, 50]) 1 _ h
theorem t_28_0 {E : mO × tW} {K : tK} {d : mD} {x0 : Int}
  (h : tCall E 56 [.inr (5, x0 + 1)] d (tbk E 28 12 [.inr (2, x0)] [.inr (3, x0 + 4 + 2), .inr (2, x0)] 0 0 K)) :
  tRun E 28 (0, [.inr (2, x0)], [], 0, 0, d) K := tT_run (cut := [0, 15, 18, 28, 45, 50]) 7 _ h
theorem t_28_15 {E : mO × tW} {K : tK} {d : mD} {x0 y0 y1 y2 : Int}
  (h : tCall E 36 [.inr (3, y1), .inl (0, y2)] d (tbk E 28 15 [.inr (2, x0)] [.inr (2, y0)] 0 0 K)) :
  tRun E 28 (15, [.inr (2, x0)], [.inl (0, y2), .inr (3, y1), .inr (2, y0)], 0, 0, d) K := tT_run (cut := [0, 15, 18, 28, 45, 50]) 1 _ h
theorem t_28_18 {E : mO × tW} {K : tK} {d : mD} {x0 y0 y1 : Int}
  (h : tCall E 56 [.inr (5, x0 + 1)] (mset d y0 6 y1) (tbk E 28 25 [.inr (2, x0)] [] 0 0 K)) :
  tRun E 28 (18, [.inr (2, x0)], [.inl (0, y1), .inr (2, y0)], 0, 0, d) K := tT_run (cut := [0, 15, 18, 28, 45, 50]) 4 _ h
theorem t_28_28 {E : mO × tW} {K : tK} {d : mD} {x0 y0 : Int}
  (h : (mInR y0 ∧ mInR ((-1))) ∧ (y0 = (-1) → tCall E 26 [.inr (2, x0)] d (tbk E 28 47 [.inr (2, x0)] [] 0 0 K)) ∧ (¬ y0 = (-1) → (mInR (d x0 6) ∧ mInR ((-1))) ∧ (¬ d x0 6 = (-1) → tCall E 26 [.inr (2, x0)] d (tbk E 28 47 [.inr (2, x0)] [] 0 0 K)) ∧ (d x0 6 = (-1) → tCall E 32 [.inr (2, x0), .inl (0, 4)] d (tbk E 28 42 [.inr (2, x0)] [] 0 0 K)))) :
  tRun E 28 (28, [.inr (2, x0)], [.inl (0, y0)], 0, 0, d) K := tT_run (cut := [0, 15, 18, 28, 45, 50]) 9 _ h
theorem t_28_45 {E : mO × tW} {K : tK} {d : mD} {x0 y0 : Int}
  (h : (y0 = 0 ∨ y0 = 1) ∧ K (.inl (some (0, y0))) d) :
  tRun E 28 (45, [.inr (2, x0)], [.inl (0, y0)], 0, 0, d) K := tT_run (cut := [0, 15, 18, 28, 45, 50]) 1 _ h
theorem t_28_50 {E : mO × tW} {K : tK} {d : mD} {x0 y0 : Int}
  (h : (y0 = 0 ∨ y0 = 1) ∧ K (.inl (some (0, y0))) d) :
  tRun E 28 (50, [.inr (2, x0)], [.inl (0, y0)], 0, 0, d) K := tT_run (cut := [0, 15, 18, 28, 45, 50]) 1 _ h
theorem t_29_0 {E : mO × tW} {K : tK} {d : mD} {x0 : Int}
  (h : tCall E 56 [.inr (5, x0 + 1)] d (tbk E 29 11 [.inr (2, x0), tu] [.inr (4, x0 + 4 + 10)] 0 0 K)) :
  tRun E 29 (0, [.inr (2, x0), tu], [], 0, 0, d) K := tT_run (cut := [0, 14, 17, 39, 49, 66, 71]) 6 _ h
theorem t_29_14 {E : mO × tW} {K : tK} {d : mD} {x0 y0 y1 : Int}
  (h : tCall E 48 [.inr (4, y0), .inl (0, y1)] d (tbk E 29 14 [.inr (2, x0), tu] [] 0 0 K)) :
  tRun E 29 (14, [.inr (2, x0), tu], [.inl (0, y1), .inr (4, y0)], 0, 0, d) K := tT_run (cut := [0, 14, 17, 39, 49, 66, 71]) 1 _ h
theorem t_29_17 {E : mO × tW} {K : tK} {d : mD} {x0 y0 : Int}
  (h : (mInR y0 ∧ mInR ((-1))) ∧ (¬ y0 = (-1) → tCall E 100 [.inr (8, x0 + 4 + 49), .inl (0, y0)] d (tbk E 29 36 [.inr (2, x0), .inl (0, y0)] [.inr (2, x0)] 0 0 K)) ∧ (y0 = (-1) → tRun E 29 (39, [.inr (2, x0), .inl (0, y0)], [.inl (0, (-1)), .inr (2, x0)], 0, 0, d) K)) :
  tRun E 29 (17, [.inr (2, x0), tu], [.inl (0, y0)], 0, 0, d) K := tT_run (cut := [0, 14, 17, 39, 49, 66, 71]) 10 _ h
theorem t_29_39 {E : mO × tW} {K : tK} {d : mD} {x0 x1 y0 y1 : Int}
  (h : tCall E 56 [.inr (5, x0 + 1)] (mset d y0 6 y1) (tbk E 29 46 [.inr (2, x0), .inl (0, x1)] [] 0 0 K)) :
  tRun E 29 (39, [.inr (2, x0), .inl (0, x1)], [.inl (0, y1), .inr (2, y0)], 0, 0, d) K := tT_run (cut := [0, 14, 17, 39, 49, 66, 71]) 4 _ h
theorem t_29_49 {E : mO × tW} {K : tK} {d : mD} {x0 x1 y0 : Int}
  (h : (mInR y0 ∧ mInR ((-1))) ∧ (y0 = (-1) → tCall E 26 [.inr (2, x0)] d (tbk E 29 68 [.inr (2, x0), .inl (0, x1)] [] 0 0 K)) ∧ (¬ y0 = (-1) → (mInR (d x0 6) ∧ mInR ((-1))) ∧ (¬ d x0 6 = (-1) → tCall E 26 [.inr (2, x0)] d (tbk E 29 68 [.inr (2, x0), .inl (0, x1)] [] 0 0 K)) ∧ (d x0 6 = (-1) → tCall E 32 [.inr (2, x0), .inl (0, 4)] d (tbk E 29 63 [.inr (2, x0), .inl (0, x1)] [] 0 0 K)))) :
  tRun E 29 (49, [.inr (2, x0), .inl (0, x1)], [.inl (0, y0)], 0, 0, d) K := tT_run (cut := [0, 14, 17, 39, 49, 66, 71]) 9 _ h
theorem t_29_66 {E : mO × tW} {K : tK} {d : mD} {x0 x1 y0 : Int}
  (h : (y0 = 0 ∨ y0 = 1) ∧ K (.inl (some (0, y0))) d) :
  tRun E 29 (66, [.inr (2, x0), .inl (0, x1)], [.inl (0, y0)], 0, 0, d) K := tT_run (cut := [0, 14, 17, 39, 49, 66, 71]) 1 _ h
theorem t_29_71 {E : mO × tW} {K : tK} {d : mD} {x0 x1 y0 : Int}
  (h : (y0 = 0 ∨ y0 = 1) ∧ K (.inl (some (0, y0))) d) :
  tRun E 29 (71, [.inr (2, x0), .inl (0, x1)], [.inl (0, y0)], 0, 0, d) K := tT_run (cut := [0, 14, 17, 39, 49, 66, 71]) 1 _ h
theorem t_30_0 {E : mO × tW} {K : tK} {d : mD} {x0 : Int}
  (h : (mInR (d (x0 + 1) 1) ∧ mInR 2) ∧ (d (x0 + 1) 1 = 2 → ((1 : Int) = 0 ∨ (1 : Int) = 1) ∧ K (.inl (some (0, 1))) d) ∧ (¬ d (x0 + 1) 1 = 2 → tCall E 32 [.inr (2, x0), .inl (0, 1)] d (tbk E 30 13 [.inr (2, x0)] [] 0 0 K))) :
  tRun E 30 (0, [.inr (2, x0)], [], 0, 0, d) K := tT_run (cut := [0, 16]) 8 _ h
theorem t_30_16 {E : mO × tW} {K : tK} {d : mD} {x0 y0 : Int}
  (h : mInR y0 ∧ (y0 = 0 → ((0 : Int) = 0 ∨ (0 : Int) = 1) ∧ K (.inl (some (0, 0))) d) ∧ (¬ y0 = 0 → ((1 : Int) = 0 ∨ (1 : Int) = 1) ∧ K (.inl (some (0, 1))) d)) :
  tRun E 30 (16, [.inr (2, x0)], [.inl (0, y0)], 0, 0, d) K := tT_run (cut := [0, 16]) 4 _ h
theorem t_31_0 {E : mO × tW} {K : tK} {d : mD} {x0 : Int}
  (h : tCall E 30 [.inr (2, x0)] d (tbk E 31 1 [.inr (2, x0)] [] 0 0 K)) :
  tRun E 31 (0, [.inr (2, x0)], [], 0, 0, d) K := tT_run (cut := [0, 4, 16]) 2 _ h
theorem t_31_4 {E : mO × tW} {K : tK} {d : mD} {x0 y0 : Int}
  (h : mInR y0 ∧ (¬ y0 = 0 → tCall E 52 [.inr (5, x0 + 1)] d (tbk E 31 13 [.inr (2, x0)] [] 0 0 K)) ∧ (y0 = 0 → ((0 : Int) = 0 ∨ (0 : Int) = 1) ∧ K (.inl (some (0, 0))) d)) :
  tRun E 31 (4, [.inr (2, x0)], [.inl (0, y0)], 0, 0, d) K := tT_run (cut := [0, 4, 16]) 4 _ h
theorem t_31_16 {E : mO × tW} {K : tK} {d : mD} {x0 : Int}
  (h : ((1 : Int) = 0 ∨ (1 : Int) = 1) ∧ K (.inl (some (0, 1))) d) :
  tRun E 31 (16, [.inr (2, x0)], [], 0, 0, d) K := tT_run (cut := [0, 4, 16]) 2 _ h
theorem t_32_0 {E : mO × tW} {K : tK} {d : mD} {x0 x1 : Int}
  (h : ((0 : Int) = 0 ∨ (0 : Int) = 1) ∧ K (.inl (some (0, 0))) (mset (mset d x0 2 x1) x0 3 ((mset d x0 2 x1) (x0 + 1) 2))) :
  tRun E 32 (0, [.inr (2, x0), .inl (0, x1)], [], 0, 0, d) K := tT_run (cut := [0]) 10 _ h
theorem t_34_0 {E : mO × tW} {K : tK} {d : mD} {x0 x1 : Int}
  (h : (0 ≤ (0 : Int) ∧ 0 ≤ (0 : Int) ∧ 0 ≤ (6 : Int) ∧ (0 : Int) + (6 : Int) ≤ 6 ∧ (0 : Int) + (6 : Int) ≤ 6) ∧ tRun E 34 (23, [.inr (3, x0), .inr (3, x1), tu], [], 0, 0, mcopy (mset d x0 0 (d x1 0)) (x1 + 1) 0 (x0 + 1) 0 6) K) :
  tRun E 34 (0, [.inr (3, x0), .inr (3, x1), tu], [], 0, 0, d) K := tT_run (cut := [0, 23, 38, 53, 68, 83, 98, 100]) 12 _ h
theorem t_34_23 {E : mO × tW} {K : tK} {d : mD} {x0 x1 : Int}
  (h : (0 ≤ (0 : Int) ∧ 0 ≤ (0 : Int) ∧ 0 ≤ (6 : Int) ∧ (0 : Int) + (6 : Int) ≤ 6 ∧ (0 : Int) + (6 : Int) ≤ 6) ∧ tRun E 34 (38, [.inr (3, x0), .inr (3, x1), tu], [], 0, 0, mcopy d (x1 + 2) 0 (x0 + 2) 0 6) K) :
  tRun E 34 (23, [.inr (3, x0), .inr (3, x1), tu], [], 0, 0, d) K := tT_run (cut := [0, 23, 38, 53, 68, 83, 98, 100]) 8 _ h
theorem t_34_38 {E : mO × tW} {K : tK} {d : mD} {x0 x1 : Int}
  (h : (0 ≤ (0 : Int) ∧ 0 ≤ (0 : Int) ∧ 0 ≤ (6 : Int) ∧ (0 : Int) + (6 : Int) ≤ 6 ∧ (0 : Int) + (6 : Int) ≤ 6) ∧ tRun E 34 (53, [.inr (3, x0), .inr (3, x1), tu], [], 0, 0, mcopy d (x1 + 3) 0 (x0 + 3) 0 6) K) :
  tRun E 34 (38, [.inr (3, x0), .inr (3, x1), tu], [], 0, 0, d) K := tT_run (cut := [0, 23, 38, 53, 68, 83, 98, 100]) 8 _ h
theorem t_34_53 {E : mO × tW} {K : tK} {d : mD} {x0 x1 : Int}
  (h : (0 ≤ (0 : Int) ∧ 0 ≤ (0 : Int) ∧ 0 ≤ (6 : Int) ∧ (0 : Int) + (6 : Int) ≤ 6 ∧ (0 : Int) + (6 : Int) ≤ 6) ∧ tRun E 34 (68, [.inr (3, x0), .inr (3, x1), tu], [], 0, 0, mcopy d (x1 + 4) 0 (x0 + 4) 0 6) K) :
  tRun E 34 (53, [.inr (3, x0), .inr (3, x1), tu], [], 0, 0, d) K := tT_run (cut := [0, 23, 38, 53, 68, 83, 98, 100]) 8 _ h
theorem t_34_68 {E : mO × tW} {K : tK} {d : mD} {x0 x1 : Int}
  (h : (0 ≤ (0 : Int) ∧ 0 ≤ (0 : Int) ∧ 0 ≤ (6 : Int) ∧ (0 : Int) + (6 : Int) ≤ 6 ∧ (0 : Int) + (6 : Int) ≤ 6) ∧ tRun E 34 (83, [.inr (3, x0), .inr (3, x1), tu], [], 0, 0, mcopy d (x1 + 6) 0 (x0 + 6) 0 6) K) :
  tRun E 34 (68, [.inr (3, x0), .inr (3, x1), tu], [], 0, 0, d) K := tT_run (cut := [0, 23, 38, 53, 68, 83, 98, 100]) 8 _ h
theorem t_34_83 {E : mO × tW} {K : tK} {d : mD} {x0 x1 : Int}
  (h : (0 ≤ (0 : Int) ∧ 0 ≤ (0 : Int) ∧ 0 ≤ (96 : Int) ∧ (0 : Int) + (96 : Int) ≤ 96 ∧ (0 : Int) + (96 : Int) ≤ 96) ∧ tRun E 34 (98, [.inr (3, x0), .inr (3, x1), tu], [], 0, 0, mcopy d (x1 + 7) 0 (x0 + 7) 0 96) K) :
  tRun E 34 (83, [.inr (3, x0), .inr (3, x1), tu], [], 0, 0, d) K := tT_run (cut := [0, 23, 38, 53, 68, 83, 98, 100]) 8 _ h
theorem t_34_98 {E : mO × tW} {K : tK} {d : mD} {x0 x1 : Int}
  (h : tRun E 34 (100, [.inr (3, x0), .inr (3, x1), .inl (0, 0)], [], 0, 0, d) K) :
  tRun E 34 (98, [.inr (3, x0), .inr (3, x1), tu], [], 0, 0, d) K := tT_run (cut := [0, 23, 38, 53, 68, 83, 98, 100]) 2 _ h
theorem t_34_100 {E : mO × tW} {K : tK} {d : mD} {x0 x1 x2 : Int}
  (h : (mInR x2 ∧ mInR 6) ∧ (6 ≤ x2 → K (.inl none) d) ∧ (x2 < 6 → (0 ≤ x2 ∧ x2 < 6) ∧ ((d (x1 + 5) x2 = 0 ∨ d (x1 + 5) x2 = 1) ∧ 0 ≤ x2 ∧ x2 < 6) ∧ tRun E 34 (100, [.inr (3, x0), .inr (3, x1), .inl (0, x2 + 1)], [], 0, 0, mset d (x0 + 5) x2 (d (x1 + 5) x2)) K)) :
  tRun E 34 (100, [.inr (3, x0), .inr (3, x1), .inl (0, x2)], [], 0, 0, d) K := tT_run (cut := [0, 23, 38, 53, 68, 83, 98, 100]) 13 _ h
theorem t_35_0 {E : mO × tW} {K : tK} {d : mD} {x0 x1 x2 x3 x4 : Int}
  (h : (mInR (d x0 0) ∧ mInR 6) ∧ (d x0 0 < 6 → (0 ≤ d x0 0 ∧ d x0 0 < 6) ∧ tRun E 35 (20, [.inr (3, x0), .inl (0, x1), .inl (0, x2), .inl (0, x3), .inl (0, x4)], [], 0, 0, mset d (x0 + 1) (d x0 0) x1) K) ∧ (6 ≤ d x0 0 → K (.inl none) d)) :
  tRun E 35 (0, [.inr (3, x0), .inl (0, x1), .inl (0, x2), .inl (0, x3), .inl (0, x4)], [], 0, 0, d) K := tT_run (cut := [0, 20, 30, 40, 51, 61, 71]) 10 _ h
theorem t_35_20 {E : mO × tW} {K : tK} {d : mD} {x0 x1 x2 x3 x4 : Int}
  (h : (0 ≤ d x0 0 ∧ d x0 0 < 6) ∧ tRun E 35 (30, [.inr (3, x0), .inl (0, x1), .inl (0, x2), .inl (0, x3), .inl (0, x4)], [], 0, 0, mset d (x0 + 2) (d x0 0) x2) K) :
  tRun E 35 (20, [.inr (3, x0), .inl (0, x1), .inl (0, x2), .inl (0, x3), .inl (0, x4)], [], 0, 0, d) K := tT_run (cut := [0, 20, 30, 40, 51, 61, 71]) 6 _ h
theorem t_35_30 {E : mO × tW} {K : tK} {d : mD} {x0 x1 x2 x3 x4 : Int}
  (h : (0 ≤ d x0 0 ∧ d x0 0 < 6) ∧ tRun E 35 (40, [.inr (3, x0), .inl (0, x1), .inl (0, x2), .inl (0, x3), .inl (0, x4)], [], 0, 0, mset d (x0 + 3) (d x0 0) x3) K) :
  tRun E 35 (30, [.inr (3, x0), .inl (0, x1), .inl (0, x2), .inl (0, x3), .inl (0, x4)], [], 0, 0, d) K := tT_run (cut := [0, 20, 30, 40, 51, 61, 71]) 6 _ h
theorem t_35_40 {E : mO × tW} {K : tK} {d : mD} {x0 x1 x2 x3 x4 : Int}
  (h : (0 ≤ d x0 0 ∧ d x0 0 < 6) ∧ tRun E 35 (51, [.inr (3, x0), .inl (0, x1), .inl (0, x2), .inl (0, x3), .inl (0, x4)], [], 0, 0, mset d (x0 + 4) (d x0 0) x4) K) :
  tRun E 35 (40, [.inr (3, x0), .inl (0, x1), .inl (0, x2), .inl (0, x3), .inl (0, x4)], [], 0, 0, d) K := tT_run (cut := [0, 20, 30, 40, 51, 61, 71]) 6 _ h
theorem t_35_51 {E : mO × tW} {K : tK} {d : mD} {x0 x1 x2 x3 x4 : Int}
  (h : (((1 : Int) = 0 ∨ (1 : Int) = 1) ∧ 0 ≤ d x0 0 ∧ d x0 0 < 6) ∧ tRun E 35 (61, [.inr (3, x0), .inl (0, x1), .inl (0, x2), .inl (0, x3), .inl (0, x4)], [], 0, 0, mset d (x0 + 5) (d x0 0) 1) K) :
  tRun E 35 (51, [.inr (3, x0), .inl (0, x1), .inl (0, x2), .inl (0, x3), .inl (0, x4)], [], 0, 0, d) K := tT_run (cut := [0, 20, 30, 40, 51, 61, 71]) 6 _ h
theorem t_35_61 {E : mO × tW} {K : tK} {d : mD} {x0 x1 x2 x3 x4 : Int}
  (h : (0 ≤ d x0 0 ∧ d x0 0 < 6) ∧ tRun E 35 (71, [.inr (3, x0), .inl (0, x1), .inl (0, x2), .inl (0, x3), .inl (0, x4)], [], 0, 0, mset d (x0 + 6) (d x0 0) 0) K) :
  tRun E 35 (61, [.inr (3, x0), .inl (0, x1), .inl (0, x2), .inl (0, x3), .inl (0, x4)], [], 0, 0, d) K := tT_run (cut := [0, 20, 30, 40, 51, 61, 71]) 6 _ h
theorem t_35_71 {E : mO × tW} {K : tK} {d : mD} {x0 x1 x2 x3 x4 : Int}
  (h : K (.inl none) (mset d x0 0 ((d x0 0) + 1))) :
  tRun E 35 (71, [.inr (3, x0), .inl (0, x1), .inl (0, x2), .inl (0, x3), .inl (0, x4)], [], 0, 0, d) K := tT_run (cut := [0, 20, 30, 40, 51, 61, 71]) 7 _ h
theorem t_36_0 {E : mO × tW} {K : tK} {d : mD} {x0 x1 : Int}
  (h : tRun E 36 (2, [.inr (3, x0), .inl (0, x1), .inl (0, 0)], [], 0, 0, d) K) :
  tRun E 36 (0, [.inr (3, x0), .inl (0, x1), tu], [], 0, 0, d) K := tT_run (cut := [0, 2]) 2 _ h
theorem t_36_2 {E : mO × tW} {K : tK} {d : mD} {x0 x1 x2 : Int}
  (h : (mInR x2 ∧ mInR (d x0 0)) ∧ (d x0 0 ≤ x2 → K (.inl (some (0, (-1)))) d) ∧ (x2 < d x0 0 → (0 ≤ x2 ∧ x2 < 6) ∧ (mInR (d (x0 + 1) x2) ∧ mInR x1) ∧ (¬ d (x0 + 1) x2 = x1 → tRun E 36 (2, [.inr (3, x0), .inl (0, x1), .inl (0, x2 + 1)], [], 0, 0, d) K) ∧ (d (x0 + 1) x2 = x1 → K (.inl (some (0, x2))) d))) :
  tRun E 36 (2, [.inr (3, x0), .inl (0, x1), .inl (0, x2)], [], 0, 0, d) K := tT_run (cut := [0, 2]) 12 _ h
theorem t_37_0 {E : mO × tW} {K : tK} {d : mD} {x0 : Int}
  (h : tRun E 37 (4, [.inr (3, x0), .inl (0, 0), .inl (0, 0)], [], 0, 0, d) K) :
  tRun E 37 (0, [.inr (3, x0), tu, tu], [], 0, 0, d) K := tT_run (cut := [0, 4]) 4 _ h
theorem t_37_4 {E : mO × tW} {K : tK} {d : mD} {x0 x1 x2 : Int}
  (h : (mInR x2 ∧ mInR (d x0 0)) ∧ (d x0 0 ≤ x2 → K (.inl (some (0, x1))) d) ∧ (x2 < d x0 0 → (0 ≤ x2 ∧ x2 < 6) ∧ mInR (d (x0 + 5) x2) ∧ (d (x0 + 5) x2 = 0 → tRun E 37 (4, [.inr (3, x0), .inl (0, x1 + 0), .inl (0, x2 + 1)], [], 0, 0, d) K) ∧ (¬ d (x0 + 5) x2 = 0 → tRun E 37 (4, [.inr (3, x0), .inl (0, x1 + 1), .inl (0, x2 + 1)], [], 0, 0, d) K))) :
  tRun E 37 (4, [.inr (3, x0), .inl (0, x1), .inl (0, x2)], [], 0, 0, d) K := tT_run (cut := [0, 4]) 16 _ h
theorem t_38_0 {E : mO × tW} {K : tK} {d : mD} {x0 x1 x2 : Int}
  (h : (0 ≤ (x1 * 16) + x2 ∧ (x1 * 16) + x2 < 96) ∧ K (.inl (some (0, d (x0 + 7) ((x1 * 16) + x2)))) d) :
  tRun E 38 (0, [.inr (3, x0), .inl (0, x1), .inl (0, x2)], [], 0, 0, d) K := tT_run (cut := [0]) 9 _ h
theorem t_39_0 {E : mO × tW} {K : tK} {d : mD} {x0 x1 x2 : Int}
  (h : tRun E 39 (2, [.inr (3, x0), .inl (0, x1), .inl (0, x2), .inl (0, 0)], [], 0, 0, d) K) :
  tRun E 39 (0, [.inr (3, x0), .inl (0, x1), .inl (0, x2), tu], [], 0, 0, d) K := tT_run (cut := [0, 2, 18]) 2 _ h
theorem t_39_2 {E : mO × tW} {K : tK} {d : mD} {x0 x1 x2 x3 : Int}
  (h : (0 ≤ x1 ∧ x1 < 6) ∧ (mInR x3 ∧ mInR (d (x0 + 6) x1)) ∧ (d (x0 + 6) x1 ≤ x3 → K (.inl (some (0, (-1)))) d) ∧ (x3 < d (x0 + 6) x1 → tCall E 38 [.inr (3, x0), .inl (0, x1), .inl (0, x3)] d (tbk E 39 15 [.inr (3, x0), .inl (0, x1), .inl (0, x2), .inl (0, x3)] [] 0 0 K))) :
  tRun E 39 (2, [.inr (3, x0), .inl (0, x1), .inl (0, x2), .inl (0, x3)], [], 0, 0, d) K := tT_run (cut := [0, 2, 18]) 10 _ h
theorem t_39_18 {E : mO × tW} {K : tK} {d : mD} {x0 x1 x2 x3 y0 : Int}
  (h : (mInR y0 ∧ mInR x2) ∧ (¬ y0 = x2 → tRun E 39 (2, [.inr (3, x0), .inl (0, x1), .inl (0, x2), .inl (0, x3 + 1)], [], 0, 0, d) K) ∧ (y0 = x2 → K (.inl (some (0, x3))) d)) :
  tRun E 39 (18, [.inr (3, x0), .inl (0, x1), .inl (0, x2), .inl (0, x3)], [.inl (0, y0)], 0, 0, d) K := tT_run (cut := [0, 2, 18]) 4 _ h
theorem t_40_0 {E : mO × tW} {K : tK} {d : mD} {x0 x1 x2 x3 : Int}
  (h : mInR x2 ∧ (x2 < 0 → K (.inl none) d) ∧ (0 ≤ x2 → (0 ≤ x1 ∧ x1 < 6) ∧ (mInR x2 ∧ mInR (d (x0 + 6) x1)) ∧ (d (x0 + 6) x1 < x2 → K (.inl none) d) ∧ (x2 ≤ d (x0 + 6) x1 → (0 ≤ x1 ∧ x1 < 6) ∧ (mInR (d (x0 + 6) x1) ∧ mInR 16) ∧ (d (x0 + 6) x1 < 16 → (0 ≤ x1 ∧ x1 < 6) ∧ tRun E 40 (40, [.inr (3, x0), .inl (0, x1), .inl (0, x2), .inl (0, x3), .inl (0, x1 * 16), .inl (0, d (x0 + 6) x1)], [], 0, 0, d) K) ∧ (16 ≤ d (x0 + 6) x1 → K (.inl none) d)))) :
  tRun E 40 (0, [.inr (3, x0), .inl (0, x1), .inl (0, x2), .inl (0, x3), tu, tu], [], 0, 0, d) K := tT_run (cut := [0, 40]) 23 _ h
theorem t_40_40 {E : mO × tW} {K : tK} {d : mD} {x0 x1 x2 x3 x4 x5 : Int}
  (h : (mInR x5 ∧ mInR x2) ∧ (x5 ≤ x2 → (0 ≤ x4 + x2 ∧ x4 + x2 < 96) ∧ (0 ≤ x1 ∧ x1 < 6) ∧ (0 ≤ x1 ∧ x1 < 6) ∧ K (.inl none) (mset (mset d (x0 + 7) (x4 + x2) x3) (x0 + 6) x1 (((mset d (x0 + 7) (x4 + x2) x3) (x0 + 6) x1) + 1))) ∧ (x2 < x5 → (0 ≤ (x4 + x5) - 1 ∧ (x4 + x5) - 1 < 96) ∧ (0 ≤ x4 + x5 ∧ x4 + x5 < 96) ∧ tRun E 40 (40, [.inr (3, x0), .inl (0, x1), .inl (0, x2), .inl (0, x3), .inl (0, x4), .inl (0, x5 + (-1))], [], 0, 0, mset d (x0 + 7) (x4 + x5) (d (x0 + 7) ((x4 + x5) - 1))) K)) :
  tRun E 40 (40, [.inr (3, x0), .inl (0, x1), .inl (0, x2), .inl (0, x3), .inl (0, x4), .inl (0, x5)], [], 0, 0, d) K := tT_run (cut := [0, 40]) 19 _ h
theorem t_41_0 {E : mO × tW} {K : tK} {d : mD} {x0 x1 x2 : Int}
  (h : mInR x2 ∧ (x2 < 0 → K (.inl none) d) ∧ (0 ≤ x2 → (0 ≤ x1 ∧ x1 < 6) ∧ (mInR x2 ∧ mInR (d (x0 + 6) x1)) ∧ (x2 < d (x0 + 6) x1 → tRun E 41 (25, [.inr (3, x0), .inl (0, x1), .inl (0, x2), .inl (0, x1 * 16), .inl (0, x2 + 1)], [], 0, 0, d) K) ∧ (d (x0 + 6) x1 ≤ x2 → K (.inl none) d))) :
  tRun E 41 (0, [.inr (3, x0), .inl (0, x1), .inl (0, x2), tu, tu], [], 0, 0, d) K := tT_run (cut := [0, 25]) 16 _ h
theorem t_41_25 {E : mO × tW} {K : tK} {d : mD} {x0 x1 x2 x3 x4 : Int}
  (h : (0 ≤ x1 ∧ x1 < 6) ∧ (mInR x4 ∧ mInR (d (x0 + 6) x1)) ∧ (d (x0 + 6) x1 ≤ x4 → (0 ≤ x1 ∧ x1 < 6) ∧ (0 ≤ x1 ∧ x1 < 6) ∧ K (.inl none) (mset d (x0 + 6) x1 ((d (x0 + 6) x1) - 1))) ∧ (x4 < d (x0 + 6) x1 → (0 ≤ x3 + x4 ∧ x3 + x4 < 96) ∧ (0 ≤ (x3 + x4) - 1 ∧ (x3 + x4) - 1 < 96) ∧ tRun E 41 (25, [.inr (3, x0), .inl (0, x1), .inl (0, x2), .inl (0, x3), .inl (0, x4 + 1)], [], 0, 0, mset d (x0 + 7) ((x3 + x4) - 1) (d (x0 + 7) (x3 + x4))) K)) :
  tRun E 41 (25, [.inr (3, x0), .inl (0, x1), .inl (0, x2), .inl (0, x3), .inl (0, x4)], [], 0, 0, d) K := tT_run (cut := [0, 25]) 22 _ h
theorem t_42_0 {E : mO × tW} {K : tK} {d : mD} {x0 x1 x2 : Int}
  (h : (0 ≤ x1 ∧ x1 < 6) ∧ mInR (d (x0 + 5) x1) ∧ (d (x0 + 5) x1 = 0 → K (.inl (some (0, 0))) d) ∧ (¬ d (x0 + 5) x1 = 0 → (0 ≤ x1 ∧ x1 < 6) ∧ (mInR 1 ∧ mInR (d (x0 + 3) x1)) ∧ (0 ≤ x2 ∧ x2 ≤ 2147483647 ∧ 0 < mmax 1 (d (x0 + 3) x1) ∧ mmax 1 (d (x0 + 3) x1) ≤ 2147483647) ∧ mInR (x2 % (mmax 1 (d (x0 + 3) x1))) ∧ (x2 % (mmax 1 (d (x0 + 3) x1)) = 0 → (0 ≤ x1 ∧ x1 < 6) ∧ (0 ≤ x1 ∧ x1 < 6) ∧ (mInR (d (x0 + 2) x1) ∧ mInR (d (x0 + 6) x1)) ∧ K (.inl (some (0, mmin (d (x0 + 2) x1) (d (x0 + 6) x1)))) d) ∧ (¬ x2 % (mmax 1 (d (x0 + 3) x1)) = 0 → K (.inl (some (0, 0))) d))) :
  tRun E 42 (0, [.inr (3, x0), .inl (0, x1), .inl (0, x2)], [], 0, 0, d) K := tT_run (cut := [0]) 24 _ h
theorem t_43_0 {E : mO × tW} {K : tK} {d : mD} {x0 x1 x2 x3 : Int}
  (h : (0 ≤ x1 ∧ x1 < 6) ∧ (mInR 1 ∧ mInR (d (x0 + 3) x1)) ∧ (0 ≤ x1 ∧ x1 < 6) ∧ (mInR 1 ∧ mInR (d (x0 + 2) x1)) ∧ (0 ≤ x2 ∧ x2 ≤ 2147483647 ∧ 0 < mmax 1 (d (x0 + 2) x1) ∧ mmax 1 (d (x0 + 2) x1) ≤ 2147483647) ∧ (0 ≤ x3 ∧ x3 ≤ 2147483647 ∧ 0 < mmax 1 (d (x0 + 3) x1) ∧ mmax 1 (d (x0 + 3) x1) ≤ 2147483647) ∧ K (.inl (some (0, (((x3 / (mmax 1 (d (x0 + 3) x1))) + ((x2 / (mmax 1 (d (x0 + 2) x1))) + 1)) * (mmax 1 (d (x0 + 3) x1))) - x3))) d) :
  tRun E 43 (0, [.inr (3, x0), .inl (0, x1), .inl (0, x2), .inl (0, x3), tu, tu], [], 0, 0, d) K := tT_run (cut := [0]) 28 _ h
theorem t_44_0 {E : mO × tW} {K : tK} {d : mD} {x0 x1 x2 x3 : Int}
  (h : (0 ≤ x1 ∧ x1 < 6) ∧ (mInR 1 ∧ mInR (d (x0 + 3) x1)) ∧ (0 ≤ x3 + x2 ∧ x3 + x2 ≤ 2147483647 ∧ 0 < mmax 1 (d (x0 + 3) x1) ∧ mmax 1 (d (x0 + 3) x1) ≤ 2147483647) ∧ (0 ≤ x3 ∧ x3 ≤ 2147483647 ∧ 0 < mmax 1 (d (x0 + 3) x1) ∧ mmax 1 (d (x0 + 3) x1) ≤ 2147483647) ∧ (0 ≤ x1 ∧ x1 < 6) ∧ (0 ≤ x1 ∧ x1 < 6) ∧ (mInR 0 ∧ mInR ((d (x0 + 6) x1) - ((((x3 + x2) / (mmax 1 (d (x0 + 3) x1))) - (x3 / (mmax 1 (d (x0 + 3) x1)))) * (d (x0 + 2) x1)))) ∧ K (.inl (some (0, mmax 0 ((d (x0 + 6) x1) - ((((x3 + x2) / (mmax 1 (d (x0 + 3) x1))) - (x3 / (mmax 1 (d (x0 + 3) x1)))) * (d (x0 + 2) x1)))))) d) :
  tRun E 44 (0, [.inr (3, x0), .inl (0, x1), .inl (0, x2), .inl (0, x3), tu, tu], [], 0, 0, d) K := tT_run (cut := [0]) 31 _ h
theorem t_46_0 {E : mO × tW} {K : tK} {d : mD} {x0 x1 : Int}
  (h : (0 ≤ (0 : Int) ∧ 0 ≤ (0 : Int) ∧ 0 ≤ (16 : Int) ∧ (0 : Int) + (16 : Int) ≤ 16 ∧ (0 : Int) + (16 : Int) ≤ 16) ∧ tRun E 46 (23, [.inr (4, x0), .inr (4, x1), tu], [], 0, 0, mcopy (mset d x0 0 (d x1 0)) (x1 + 1) 0 (x0 + 1) 0 16) K) :
  tRun E 46 (0, [.inr (4, x0), .inr (4, x1), tu], [], 0, 0, d) K := tT_run (cut := [0, 23, 38, 53, 68, 83, 85, 108]) 12 _ h
theorem t_46_23 {E : mO × tW} {K : tK} {d : mD} {x0 x1 : Int}
  (h : (0 ≤ (0 : Int) ∧ 0 ≤ (0 : Int) ∧ 0 ≤ (16 : Int) ∧ (0 : Int) + (16 : Int) ≤ 16 ∧ (0 : Int) + (16 : Int) ≤ 16) ∧ tRun E 46 (38, [.inr (4, x0), .inr (4, x1), tu], [], 0, 0, mcopy d (x1 + 2) 0 (x0 + 2) 0 16) K) :
  tRun E 46 (23, [.inr (4, x0), .inr (4, x1), tu], [], 0, 0, d) K := tT_run (cut := [0, 23, 38, 53, 68, 83, 85, 108]) 8 _ h
theorem t_46_38 {E : mO × tW} {K : tK} {d : mD} {x0 x1 : Int}
  (h : (0 ≤ (0 : Int) ∧ 0 ≤ (0 : Int) ∧ 0 ≤ (16 : Int) ∧ (0 : Int) + (16 : Int) ≤ 16 ∧ (0 : Int) + (16 : Int) ≤ 16) ∧ tRun E 46 (53, [.inr (4, x0), .inr (4, x1), tu], [], 0, 0, mcopy d (x1 + 3) 0 (x0 + 3) 0 16) K) :
  tRun E 46 (38, [.inr (4, x0), .inr (4, x1), tu], [], 0, 0, d) K := tT_run (cut := [0, 23, 38, 53, 68, 83, 85, 108]) 8 _ h
theorem t_46_53 {E : mO × tW} {K : tK} {d : mD} {x0 x1 : Int}
  (h : (0 ≤ (0 : Int) ∧ 0 ≤ (0 : Int) ∧ 0 ≤ (16 : Int) ∧ (0 : Int) + (16 : Int) ≤ 16 ∧ (0 : Int) + (16 : Int) ≤ 16) ∧ tRun E 46 (68, [.inr (4, x0), .inr (4, x1), tu], [], 0, 0, mcopy d (x1 + 4) 0 (x0 + 4) 0 16) K) :
  tRun E 46 (53, [.inr (4, x0), .inr (4, x1), tu], [], 0, 0, d) K := tT_run (cut := [0, 23, 38, 53, 68, 83, 85, 108]) 8 _ h
theorem t_46_68 {E : mO × tW} {K : tK} {d : mD} {x0 x1 : Int}
  (h : (0 ≤ (0 : Int) ∧ 0 ≤ (0 : Int) ∧ 0 ≤ (16 : Int) ∧ (0 : Int) + (16 : Int) ≤ 16 ∧ (0 : Int) + (16 : Int) ≤ 16) ∧ tRun E 46 (83, [.inr (4, x0), .inr (4, x1), tu], [], 0, 0, mcopy d (x1 + 5) 0 (x0 + 5) 0 16) K) :
  tRun E 46 (68, [.inr (4, x0), .inr (4, x1), tu], [], 0, 0, d) K := tT_run (cut := [0, 23, 38, 53, 68, 83, 85, 108]) 8 _ h
theorem t_46_83 {E : mO × tW} {K : tK} {d : mD} {x0 x1 : Int}
  (h : tRun E 46 (85, [.inr (4, x0), .inr (4, x1), .inl (0, 0)], [], 0, 0, d) K) :
  tRun E 46 (83, [.inr (4, x0), .inr (4, x1), tu], [], 0, 0, d) K := tT_run (cut := [0, 23, 38, 53, 68, 83, 85, 108]) 2 _ h
theorem t_46_85 {E : mO × tW} {K : tK} {d : mD} {x0 x1 x2 : Int}
  (h : (mInR x2 ∧ mInR (d x0 0)) ∧ (d x0 0 ≤ x2 → K (.inl none) d) ∧ (x2 < d x0 0 → (0 ≤ x2 ∧ x2 < 16) ∧ (0 ≤ x2 ∧ x2 < 16) ∧ tCall E 11 [.inr (1, x0 + 6 + (1 + 2 * x2)), .inr (1, x1 + 6 + (1 + 2 * x2))] d (tbk E 46 105 [.inr (4, x0), .inr (4, x1), .inl (0, x2)] [] 0 0 K))) :
  tRun E 46 (85, [.inr (4, x0), .inr (4, x1), .inl (0, x2)], [], 0, 0, d) K := tT_run (cut := [0, 23, 38, 53, 68, 83, 85, 108]) 13 _ h
theorem t_46_108 {E : mO × tW} {K : tK} {d : mD} {x0 x1 x2 : Int}
  (h : tRun E 46 (85, [.inr (4, x0), .inr (4, x1), .inl (0, x2 + 1)], [], 0, 0, d) K) :
  tRun E 46 (108, [.inr (4, x0), .inr (4, x1), .inl (0, x2)], [], 0, 0, d) K := tT_run (cut := [0, 23, 38, 53, 68, 83, 85, 108]) 2 _ h
theorem t_47_0 {E : mO × tW} {K : tK} {d : mD} {x0 x1 : Int}
  (h : (mInR (d x0 0) ∧ mInR 16) ∧ (d x0 0 < 16 → (0 ≤ d x0 0 ∧ d x0 0 < 16) ∧ tRun E 47 (20, [.inr (4, x0), .inl (0, x1)], [], 0, 0, mset d (x0 + 1) (d x0 0) x1) K) ∧ (16 ≤ d x0 0 → K (.inl none) d)) :
  tRun E 47 (0, [.inr (4, x0), .inl (0, x1)], [], 0, 0, d) K := tT_run (cut := [0, 20, 30, 40, 50, 60, 72]) 10 _ h
theorem t_47_20 {E : mO × tW} {K : tK} {d : mD} {x0 x1 : Int}
  (h : (0 ≤ d x0 0 ∧ d x0 0 < 16) ∧ tRun E 47 (30, [.inr (4, x0), .inl (0, x1)], [], 0, 0, mset d (x0 + 2) (d x0 0) 0) K) :
  tRun E 47 (20, [.inr (4, x0), .inl (0, x1)], [], 0, 0, d) K := tT_run (cut := [0, 20, 30, 40, 50, 60, 72]) 6 _ h
theorem t_47_30 {E : mO × tW} {K : tK} {d : mD} {x0 x1 : Int}
  (h : (0 ≤ d x0 0 ∧ d x0 0 < 16) ∧ tRun E 47 (40, [.inr (4, x0), .inl (0, x1)], [], 0, 0, mset d (x0 + 3) (d x0 0) 0) K) :
  tRun E 47 (30, [.inr (4, x0), .inl (0, x1)], [], 0, 0, d) K := tT_run (cut := [0, 20, 30, 40, 50, 60, 72]) 6 _ h
theorem t_47_40 {E : mO × tW} {K : tK} {d : mD} {x0 x1 : Int}
  (h : (0 ≤ d x0 0 ∧ d x0 0 < 16) ∧ tRun E 47 (50, [.inr (4, x0), .inl (0, x1)], [], 0, 0, mset d (x0 + 4) (d x0 0) 0) K) :
  tRun E 47 (40, [.inr (4, x0), .inl (0, x1)], [], 0, 0, d) K := tT_run (cut := [0, 20, 30, 40, 50, 60, 72]) 6 _ h
theorem t_47_50 {E : mO × tW} {K : tK} {d : mD} {x0 x1 : Int}
  (h : (0 ≤ d x0 0 ∧ d x0 0 < 16) ∧ tRun E 47 (60, [.inr (4, x0), .inl (0, x1)], [], 0, 0, mset d (x0 + 5) (d x0 0) 0) K) :
  tRun E 47 (50, [.inr (4, x0), .inl (0, x1)], [], 0, 0, d) K := tT_run (cut := [0, 20, 30, 40, 50, 60, 72]) 6 _ h
theorem t_47_60 {E : mO × tW} {K : tK} {d : mD} {x0 x1 : Int}
  (h : (0 ≤ d x0 0 ∧ d x0 0 < 16) ∧ tCall E 8 [.inr (1, x0 + 6 + (1 + 2 * (d x0 0)))] d (tbk E 47 69 [.inr (4, x0), .inl (0, x1)] [] 0 0 K)) :
  tRun E 47 (60, [.inr (4, x0), .inl (0, x1)], [], 0, 0, d) K := tT_run (cut := [0, 20, 30, 40, 50, 60, 72]) 6 _ h
theorem t_47_72 {E : mO × tW} {K : tK} {d : mD} {x0 x1 : Int}
  (h : K (.inl none) (mset d x0 0 ((d x0 0) + 1))) :
  tRun E 47 (72, [.inr (4, x0), .inl (0, x1)], [], 0, 0, d) K := tT_run (cut := [0, 20, 30, 40, 50, 60, 72]) 7 _ h
theorem t_48_0 {E : mO × tW} {K : tK} {d : mD} {x0 x1 : Int}
  (h : tRun E 48 (2, [.inr (4, x0), .inl (0, x1), .inl (0, 0)], [], 0, 0, d) K) :
  tRun E 48 (0, [.inr (4, x0), .inl (0, x1), tu], [], 0, 0, d) K := tT_run (cut := [0, 2]) 2 _ h
theorem t_48_2 {E : mO × tW} {K : tK} {d : mD} {x0 x1 x2 : Int}
  (h : (mInR x2 ∧ mInR (d x0 0)) ∧ (d x0 0 ≤ x2 → K (.inl (some (0, (-1)))) d) ∧ (x2 < d x0 0 → (0 ≤ x2 ∧ x2 < 16) ∧ (mInR (d (x0 + 1) x2) ∧ mInR x1) ∧ (¬ d (x0 + 1) x2 = x1 → tRun E 48 (2, [.inr (4, x0), .inl (0, x1), .inl (0, x2 + 1)], [], 0, 0, d) K) ∧ (d (x0 + 1) x2 = x1 → K (.inl (some (0, x2))) d))) :
  tRun E 48 (2, [.inr (4, x0), .inl (0, x1), .inl (0, x2)], [], 0, 0, d) K := tT_run (cut := [0, 2]) 12 _ h
theorem t_49_0 {E : mO × tW} {K : tK} {d : mD} {x0 : Int}
  (h : tCall E 299 [.inr (18, x0 + 3), .inl (0, 0)] d (tbk E 49 5 [.inr (4, x0)] [] 0 0 K)) :
  tRun E 49 (0, [.inr (4, x0)], [], 0, 0, d) K := tT_run (cut := [0, 8, 16, 24]) 4 _ h
theorem t_49_8 {E : mO × tW} {K : tK} {d : mD} {x0 : Int}
  (h : tCall E 299 [.inr (18, x0 + 4), .inl (0, 0)] d (tbk E 49 13 [.inr (4, x0)] [] 0 0 K)) :
  tRun E 49 (8, [.inr (4, x0)], [], 0, 0, d) K := tT_run (cut := [0, 8, 16, 24]) 4 _ h
theorem t_49_16 {E : mO × tW} {K : tK} {d : mD} {x0 : Int}
  (h : tCall E 299 [.inr (18, x0 + 5), .inl (0, 0)] d (tbk E 49 21 [.inr (4, x0)] [] 0 0 K)) :
  tRun E 49 (16, [.inr (4, x0)], [], 0, 0, d) K := tT_run (cut := [0, 8, 16, 24]) 4 _ h
theorem t_49_24 {E : mO × tW} {K : tK} {d : mD} {x0 : Int}
  (h : K (.inl none) d) :
  tRun E 49 (24, [.inr (4, x0)], [], 0, 0, d) K := tT_run (cut := [0, 8, 16, 24]) 1 _ h
theorem t_51_0 {E : mO × tW} {K : tK} {d : mD} {x0 : Int}
  (h : tCall E 52 [.inr (5, x0)] (mset d x0 3 0) (tbk E 51 6 [.inr (5, x0)] [] 0 0 K)) :
  tRun E 51 (0, [.inr (5, x0)], [], 0, 0, d) K := tT_run (cut := [0, 9]) 5 _ h
theorem t_51_9 {E : mO × tW} {K : tK} {d : mD} {x0 : Int}
  (h : K (.inl none) d) :
  tRun E 51 (9, [.inr (5, x0)], [], 0, 0, d) K := tT_run (cut := [0, 9]) 1 _ h
theorem t_52_0 {E : mO × tW} {K : tK} {d : mD} {x0 : Int}
  (h : tRun E 52 (8, [.inr (5, x0)], [], 0, 0, mset d x0 2 (d x0 3)) K) :
  tRun E 52 (0, [.inr (5, x0)], [], 0, 0, d) K := tT_run (cut := [0, 8, 33, 90, 97, 111, 118]) 4 _ h
theorem t_52_8 {E : mO × tW} {K : tK} {d : mD} {x0 : Int}
  (h : (mInR (d x0 2) ∧ mInR (d (x0 + 1) 1)) ∧ (d (x0 + 1) 1 ≤ d x0 2 → (mInR ((mset d x0 3 (d x0 2)) x0 2) ∧ mInR ((mset d x0 3 (d x0 2)) (x0 + 1) 1)) ∧ ((mset d x0 3 (d x0 2)) x0 2 < (mset d x0 3 (d x0 2)) (x0 + 1) 1 → tCall E 91 [.inr (7, x0 + 1), .inl (0, (mset d x0 3 (d x0 2)) x0 2)] (mset d x0 3 (d x0 2)) (tbk E 52 87 [.inr (5, x0)] [] 0 0 K)) ∧ ((mset d x0 3 (d x0 2)) (x0 + 1) 1 ≤ (mset d x0 3 (d x0 2)) x0 2 → K (.inl none) (mset (mset d x0 3 (d x0 2)) x0 1 3))) ∧ (d x0 2 < d (x0 + 1) 1 → tCall E 90 [.inr (7, x0 + 1), .inl (0, d x0 2)] d (tbk E 52 30 [.inr (5, x0)] [] 0 0 K))) :
  tRun E 52 (8, [.inr (5, x0)], [], 0, 0, d) K := tT_run (cut := [0, 8, 33, 90, 97, 111, 118]) 21 _ h
theorem t_52_33 {E : mO × tW} {K : tK} {d : mD} {x0 y0 : Int}
  (h : mInR y0 ∧ (y0 = 0 → (mInR ((mset d x0 3 (d x0 2)) x0 2) ∧ mInR ((mset d x0 3 (d x0 2)) (x0 + 1) 1)) ∧ ((mset d x0 3 (d x0 2)) x0 2 < (mset d x0 3 (d x0 2)) (x0 + 1) 1 → tCall E 91 [.inr (7, x0 + 1), .inl (0, (mset d x0 3 (d x0 2)) x0 2)] (mset d x0 3 (d x0 2)) (tbk E 52 87 [.inr (5, x0)] [] 0 0 K)) ∧ ((mset d x0 3 (d x0 2)) (x0 + 1) 1 ≤ (mset d x0 3 (d x0 2)) x0 2 → K (.inl none) (mset (mset d x0 3 (d x0 2)) x0 1 3))) ∧ (¬ y0 = 0 → tRun E 52 (8, [.inr (5, x0)], [], 0, 0, mset d x0 2 ((d x0 2) + 1)) K)) :
  tRun E 52 (33, [.inr (5, x0)], [.inl (0, y0)], 0, 0, d) K := tT_run (cut := [0, 8, 33, 90, 97, 111, 118]) 16 _ h
theorem t_52_90 {E : mO × tW} {K : tK} {d : mD} {x0 y0 : Int}
  (h : mInR y0 ∧ (y0 = 0 → tCall E 92 [.inr (7, x0 + 1), .inl (0, d x0 2)] d (tbk E 52 108 [.inr (5, x0)] [] 0 0 K)) ∧ (¬ y0 = 0 → tCall E 53 [.inr (5, x0)] d (tbk E 52 94 [.inr (5, x0)] [] 0 0 K))) :
  tRun E 52 (90, [.inr (5, x0)], [.inl (0, y0)], 0, 0, d) K := tT_run (cut := [0, 8, 33, 90, 97, 111, 118]) 6 _ h
theorem t_52_97 {E : mO × tW} {K : tK} {d : mD} {x0 : Int}
  (h : K (.inl none) d) :
  tRun E 52 (97, [.inr (5, x0)], [], 0, 0, d) K := tT_run (cut := [0, 8, 33, 90, 97, 111, 118]) 2 _ h
theorem t_52_111 {E : mO × tW} {K : tK} {d : mD} {x0 y0 : Int}
  (h : mInR y0 ∧ (y0 = 0 → (0 ≤ d x0 2 ∧ d x0 2 < 1000) ∧ (mInR (d (x0 + 1 + 1) (d x0 2)) ∧ mInR 59) ∧ (¬ d (x0 + 1 + 1) (d x0 2) = 59 → K (.inl none) (mset (mset d x0 1 4) x0 3 (((mset d x0 1 4) x0 3) + 1))) ∧ (d (x0 + 1 + 1) (d x0 2) = 59 → K (.inl none) (mset (mset d x0 1 2) x0 3 (((mset d x0 1 2) x0 3) + 1)))) ∧ (¬ y0 = 0 → tCall E 54 [.inr (5, x0)] d (tbk E 52 115 [.inr (5, x0)] [] 0 0 K))) :
  tRun E 52 (111, [.inr (5, x0)], [.inl (0, y0)], 0, 0, d) K := tT_run (cut := [0, 8, 33, 90, 97, 111, 118]) 20 _ h
theorem t_52_118 {E : mO × tW} {K : tK} {d : mD} {x0 : Int}
  (h : K (.inl none) d) :
  tRun E 52 (118, [.inr (5, x0)], [], 0, 0, d) K := tT_run (cut := [0, 8, 33, 90, 97, 111, 118]) 2 _ h
theorem t_53_0 {E : mO × tW} {K : tK} {d : mD} {x0 : Int}
  (h : (mInR (d x0 3) ∧ mInR (d (x0 + 1) 1)) ∧ (d (x0 + 1) 1 ≤ d x0 3 → K (.inl none) (mset d x0 1 0)) ∧ (d x0 3 < d (x0 + 1) 1 → tCall E 91 [.inr (7, x0 + 1), .inl (0, d x0 3)] d (tbk E 53 22 [.inr (5, x0)] [] 0 0 K))) :
  tRun E 53 (0, [.inr (5, x0)], [], 0, 0, d) K := tT_run (cut := [0, 25]) 11 _ h
theorem t_53_25 {E : mO × tW} {K : tK} {d : mD} {x0 y0 : Int}
  (h : mInR y0 ∧ (y0 = 0 → K (.inl none) (mset d x0 1 0)) ∧ (¬ y0 = 0 → tRun E 53 (0, [.inr (5, x0)], [], 0, 0, mset d x0 3 ((d x0 3) + 1)) K)) :
  tRun E 53 (25, [.inr (5, x0)], [.inl (0, y0)], 0, 0, d) K := tT_run (cut := [0, 25]) 8 _ h
theorem t_54_0 {E : mO × tW} {K : tK} {d : mD} {x0 : Int}
  (h : tRun E 54 (5, [.inr (5, x0)], [], 0, 0, mset d x0 4 0) K) :
  tRun E 54 (0, [.inr (5, x0)], [], 0, 0, d) K := tT_run (cut := [0, 5, 30]) 3 _ h
theorem t_54_5 {E : mO × tW} {K : tK} {d : mD} {x0 : Int}
  (h : (mInR (d x0 3) ∧ mInR (d (x0 + 1) 1)) ∧ (d (x0 + 1) 1 ≤ d x0 3 → (mInR ((d x0 3) - (d x0 2)) ∧ mInR 5) ∧ ((d x0 3) - (d x0 2) ≤ 5 → K (.inl none) (mset d x0 1 1)) ∧ (5 < (d x0 3) - (d x0 2) → K (.inl none) (mset d x0 1 4))) ∧ (d x0 3 < d (x0 + 1) 1 → tCall E 92 [.inr (7, x0 + 1), .inl (0, d x0 3)] d (tbk E 54 27 [.inr (5, x0)] [] 0 0 K))) :
  tRun E 54 (5, [.inr (5, x0)], [], 0, 0, d) K := tT_run (cut := [0, 5, 30]) 18 _ h
theorem t_54_30 {E : mO × tW} {K : tK} {d : mD} {x0 y0 : Int}
  (h : mInR y0 ∧ (y0 = 0 → (mInR ((d x0 3) - (d x0 2)) ∧ mInR 5) ∧ ((d x0 3) - (d x0 2) ≤ 5 → K (.inl none) (mset d x0 1 1)) ∧ (5 < (d x0 3) - (d x0 2) → K (.inl none) (mset d x0 1 4))) ∧ (¬ y0 = 0 → (mInR ((d x0 3) - (d x0 2)) ∧ mInR 5) ∧ (5 ≤ (d x0 3) - (d x0 2) → tRun E 54 (5, [.inr (5, x0)], [], 0, 0, mset d x0 3 ((d x0 3) + 1)) K) ∧ ((d x0 3) - (d x0 2) < 5 → (0 ≤ d x0 3 ∧ d x0 3 < 1000) ∧ tRun E 54 (5, [.inr (5, x0)], [], 0, 0, mset (mset d x0 4 ((((d x0 4) * 10) + (d (x0 + 1 + 1) (d x0 3))) - 48)) x0 3 (((mset d x0 4 ((((d x0 4) * 10) + (d (x0 + 1 + 1) (d x0 3))) - 48)) x0 3) + 1)) K))) :
  tRun E 54 (30, [.inr (5, x0)], [.inl (0, y0)], 0, 0, d) K := tT_run (cut := [0, 5, 30]) 30 _ h
theorem t_55_0 {E : mO × tW} {K : tK} {d : mD} {x0 x1 : Int}
  (h : mInR (d x0 1) ∧ (¬ d x0 1 = 0 → ((0 : Int) = 0 ∨ (0 : Int) = 1) ∧ K (.inl (some (0, 0))) d) ∧ (d x0 1 = 0 → (0 ≤ x1 ∧ x1 < 7) ∧ (mInR ((d x0 3) - (d x0 2)) ∧ mInR (tsl x1)) ∧ ((d x0 3) - (d x0 2) = tsl x1 → tRun E 55 (27, [.inr (5, x0), .inl (5, x1), .inl (0, 0)], [], 0, 0, d) K) ∧ (¬ (d x0 3) - (d x0 2) = tsl x1 → ((0 : Int) = 0 ∨ (0 : Int) = 1) ∧ K (.inl (some (0, 0))) d))) :
  tRun E 55 (0, [.inr (5, x0), .inl (5, x1), tu], [], 0, 0, d) K := tT_run (cut := [0, 27]) 13 _ h
theorem t_55_27 {E : mO × tW} {K : tK} {d : mD} {x0 x1 x2 : Int}
  (h : (0 ≤ x1 ∧ x1 < 7) ∧ (mInR x2 ∧ mInR (tsl x1)) ∧ (tsl x1 ≤ x2 → ((1 : Int) = 0 ∨ (1 : Int) = 1) ∧ K (.inl (some (0, 1))) d) ∧ (x2 < tsl x1 → (0 ≤ (d x0 2) + x2 ∧ (d x0 2) + x2 < 1000) ∧ (0 ≤ x1 ∧ x1 < 7 ∧ 0 ≤ x2 ∧ x2 < tsl x1) ∧ (mInR (d (x0 + 1 + 1) ((d x0 2) + x2)) ∧ mInR (tsc x1 x2)) ∧ (d (x0 + 1 + 1) ((d x0 2) + x2) = tsc x1 x2 → tRun E 55 (27, [.inr (5, x0), .inl (5, x1), .inl (0, x2 + 1)], [], 0, 0, d) K) ∧ (¬ d (x0 + 1 + 1) ((d x0 2) + x2) = tsc x1 x2 → ((0 : Int) = 0 ∨ (0 : Int) = 1) ∧ K (.inl (some (0, 0))) d))) :
  tRun E 55 (27, [.inr (5, x0), .inl (5, x1), .inl (0, x2)], [], 0, 0, d) K := tT_run (cut := [0, 27]) 18 _ h
theorem t_56_0 {E : mO × tW} {K : tK} {d : mD} {x0 : Int}
  (h : mInR (d x0 1) ∧ (¬ d x0 1 = 0 → K (.inl (some (0, (-1)))) d) ∧ (d x0 1 = 0 → tCall E 93 [.inr (7, x0 + 1), .inl (0, d x0 2), .inl (0, d x0 3)] d (tbk E 56 19 [.inr (5, x0)] [] 0 0 K))) :
  tRun E 56 (0, [.inr (5, x0)], [], 0, 0, d) K := tT_run (cut := [0, 22]) 10 _ h
theorem t_56_22 {E : mO × tW} {K : tK} {d : mD} {x0 y0 : Int}
  (h : K (.inl (some (0, y0))) d) :
  tRun E 56 (22, [.inr (5, x0)], [.inl (0, y0)], 0, 0, d) K := tT_run (cut := [0, 22]) 2 _ h
theorem t_58_0 {E : mO × tW} {K : tK} {d : mD} {x0 : Int}
  (h : K (.inl none) (mset (mset (mset (mset (mset (mset (mset d x0 1 0) x0 2 0) (x0 + 2) 0 0) (x0 + 10) 0 0) (x0 + 49) 0 0) (x0 + 57) 0 0) (x0 + 57) 5 0)) :
  tRun E 58 (0, [.inr (6, x0)], [], 0, 0, d) K := tT_run (cut := [0]) 27 _ h
theorem t_59_0 {E : mO × tW} {K : tK} {d : mD} {x0 x1 : Int}
  (h : (0 ≤ (0 : Int) ∧ 0 ≤ (0 : Int) ∧ 0 ≤ (5 : Int) ∧ (0 : Int) + (5 : Int) ≤ 5 ∧ (0 : Int) + (5 : Int) ≤ 5) ∧ tCall E 34 [.inr (3, x0 + 2), .inr (3, x1 + 2)] (mset (mset (mcopy d (x1 + 1) 0 (x0 + 1) 0 5) x0 1 ((mcopy d (x1 + 1) 0 (x0 + 1) 0 5) x1 1)) x0 2 ((mset (mcopy d (x1 + 1) 0 (x0 + 1) 0 5) x0 1 ((mcopy d (x1 + 1) 0 (x0 + 1) 0 5) x1 1)) x1 2)) (tbk E 59 38 [.inr (6, x0), .inr (6, x1)] [] 0 0 K)) :
  tRun E 59 (0, [.inr (6, x0), .inr (6, x1)], [], 0, 0, d) K := tT_run (cut := [0, 41, 52, 63, 74]) 21 _ h
theorem t_59_41 {E : mO × tW} {K : tK} {d : mD} {x0 x1 : Int}
  (h : tCall E 46 [.inr (4, x0 + 10), .inr (4, x1 + 10)] d (tbk E 59 49 [.inr (6, x0), .inr (6, x1)] [] 0 0 K)) :
  tRun E 59 (41, [.inr (6, x0), .inr (6, x1)], [], 0, 0, d) K := tT_run (cut := [0, 41, 52, 63, 74]) 5 _ h
theorem t_59_52 {E : mO × tW} {K : tK} {d : mD} {x0 x1 : Int}
  (h : tCall E 95 [.inr (8, x0 + 49), .inr (8, x1 + 49)] d (tbk E 59 60 [.inr (6, x0), .inr (6, x1)] [] 0 0 K)) :
  tRun E 59 (52, [.inr (6, x0), .inr (6, x1)], [], 0, 0, d) K := tT_run (cut := [0, 41, 52, 63, 74]) 5 _ h
theorem t_59_63 {E : mO × tW} {K : tK} {d : mD} {x0 x1 : Int}
  (h : tCall E 108 [.inr (9, x0 + 57), .inr (9, x1 + 57)] d (tbk E 59 71 [.inr (6, x0), .inr (6, x1)] [] 0 0 K)) :
  tRun E 59 (63, [.inr (6, x0), .inr (6, x1)], [], 0, 0, d) K := tT_run (cut := [0, 41, 52, 63, 74]) 5 _ h
theorem t_59_74 {E : mO × tW} {K : tK} {d : mD} {x0 x1 : Int}
  (h : K (.inl none) d) :
  tRun E 59 (74, [.inr (6, x0), .inr (6, x1)], [], 0, 0, d) K := tT_run (cut := [0, 41, 52, 63, 74]) 1 _ h
theorem t_60_0 {E : mO × tW} {K : tK} {d : mD} {x0 x1 x2 : Int}
  (h : (mInR (d (x0 + 49) 0) ∧ mInR 60) ∧ (60 ≤ d (x0 + 49) 0 → ((0 : Int) = 0 ∨ (0 : Int) = 1) ∧ K (.inl (some (0, 0))) d) ∧ (d (x0 + 49) 0 < 60 → (0 ≤ x2 ∧ x2 < 6) ∧ mInR (d (x0 + 2 + 5) x2) ∧ (d (x0 + 2 + 5) x2 = 0 → ((0 : Int) = 0 ∨ (0 : Int) = 1) ∧ K (.inl (some (0, 0))) d) ∧ (¬ d (x0 + 2 + 5) x2 = 0 → (0 ≤ x2 ∧ x2 < 6) ∧ (0 ≤ x2 ∧ x2 < 6) ∧ (mInR (d (x0 + 2 + 6) x2) ∧ mInR (d (x0 + 2 + 4) x2)) ∧ (d (x0 + 2 + 4) x2 ≤ d (x0 + 2 + 6) x2 → ((0 : Int) = 0 ∨ (0 : Int) = 1) ∧ K (.inl (some (0, 0))) d) ∧ (d (x0 + 2 + 6) x2 < d (x0 + 2 + 4) x2 → tCall E 62 [.inr (6, x0), .inl (0, x2), .inl (0, x1)] d (tbk E 60 48 [.inr (6, x0), .inl (0, x1), .inl (0, x2)] [] 0 0 K))))) :
  tRun E 60 (0, [.inr (6, x0), .inl (0, x1), .inl (0, x2)], [], 0, 0, d) K := tT_run (cut := [0, 51]) 26 _ h
theorem t_60_51 {E : mO × tW} {K : tK} {d : mD} {x0 x1 x2 y0 : Int}
  (h : (mInR y0 ∧ mInR ((-1))) ∧ (¬ y0 = (-1) → ((0 : Int) = 0 ∨ (0 : Int) = 1) ∧ K (.inl (some (0, 0))) d) ∧ (y0 = (-1) → ((1 : Int) = 0 ∨ (1 : Int) = 1) ∧ K (.inl (some (0, 1))) d)) :
  tRun E 60 (51, [.inr (6, x0), .inl (0, x1), .inl (0, x2)], [.inl (0, y0)], 0, 0, d) K := tT_run (cut := [0, 51]) 5 _ h
theorem t_61_0 {E : mO × tW} {K : tK} {d : mD} {x0 x1 x2 : Int}
  (h : tCall E 96 [.inr (8, x0 + 49), .inl (0, x1), .inl (0, x2), .inl (0, d x0 2)] d (tbk E 61 18 [.inr (6, x0), .inl (0, x1), .inl (0, x2), .inl (0, d (x0 + 49) 0)] [] 0 0 K)) :
  tRun E 61 (0, [.inr (6, x0), .inl (0, x1), .inl (0, x2), tu], [], 0, 0, d) K := tT_run (cut := [0, 21, 39]) 11 _ h
theorem t_61_21 {E : mO × tW} {K : tK} {d : mD} {x0 x1 x2 x3 : Int}
  (h : (0 ≤ x2 ∧ x2 < 6) ∧ tCall E 40 [.inr (3, x0 + 2), .inl (0, x2), .inl (0, d (x0 + 2 + 6) x2), .inl (0, x3)] d (tbk E 61 36 [.inr (6, x0), .inl (0, x1), .inl (0, x2), .inl (0, x3)] [] 0 0 K)) :
  tRun E 61 (21, [.inr (6, x0), .inl (0, x1), .inl (0, x2), .inl (0, x3)], [], 0, 0, d) K := tT_run (cut := [0, 21, 39]) 10 _ h
theorem t_61_39 {E : mO × tW} {K : tK} {d : mD} {x0 x1 x2 x3 : Int}
  (h : K (.inl (some (0, x3))) d) :
  tRun E 61 (39, [.inr (6, x0), .inl (0, x1), .inl (0, x2), .inl (0, x3)], [], 0, 0, d) K := tT_run (cut := [0, 21, 39]) 2 _ h
theorem t_62_0 {E : mO × tW} {K : tK} {d : mD} {x0 x1 x2 : Int}
  (h : tRun E 62 (2, [.inr (6, x0), .inl (0, x1), .inl (0, x2), .inl (0, 0)], [], 0, 0, d) K) :
  tRun E 62 (0, [.inr (6, x0), .inl (0, x1), .inl (0, x2), tu], [], 0, 0, d) K := tT_run (cut := [0, 2, 31]) 2 _ h
theorem t_62_2 {E : mO × tW} {K : tK} {d : mD} {x0 x1 x2 x3 : Int}
  (h : (0 ≤ x1 ∧ x1 < 6) ∧ (mInR x3 ∧ mInR (d (x0 + 2 + 6) x1)) ∧ (d (x0 + 2 + 6) x1 ≤ x3 → K (.inl (some (0, (-1)))) d) ∧ (x3 < d (x0 + 2 + 6) x1 → tCall E 38 [.inr (3, x0 + 2), .inl (0, x1), .inl (0, x3)] d (tbk E 62 28 [.inr (6, x0), .inl (0, x1), .inl (0, x2), .inl (0, x3)] [.inr (21, x0 + 49 + 1)] 0 0 K))) :
  tRun E 62 (2, [.inr (6, x0), .inl (0, x1), .inl (0, x2), .inl (0, x3)], [], 0, 0, d) K := tT_run (cut := [0, 2, 31]) 15 _ h
theorem t_62_31 {E : mO × tW} {K : tK} {d : mD} {x0 x1 x2 x3 y0 y1 : Int}
  (h : (0 ≤ y1 ∧ y1 < 60) ∧ (mInR (d y0 y1) ∧ mInR x2) ∧ (¬ d y0 y1 = x2 → tRun E 62 (2, [.inr (6, x0), .inl (0, x1), .inl (0, x2), .inl (0, x3 + 1)], [], 0, 0, d) K) ∧ (d y0 y1 = x2 → K (.inl (some (0, x3))) d)) :
  tRun E 62 (31, [.inr (6, x0), .inl (0, x1), .inl (0, x2), .inl (0, x3)], [.inl (0, y1), .inr (21, y0)], 0, 0, d) K := tT_run (cut := [0, 2, 31]) 5 _ h
