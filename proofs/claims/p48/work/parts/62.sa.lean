/-! ===== pieces of the methods between cuts: printed by a program of mine ===== -/
theorem t_2_0 {E : mO × tW} {K : tK} {d : mD} {x0 x1 : Int}
  (h : (0 ≤ d x0 1 ∧ d x0 1 < 8) ∧ tCall E 59 [.inr (6, x0 + 1 + (1 + 63 * (d x0 1))), .inr (6, x1)] d (tbk E 2 10 [.inr (0, x0), .inr (6, x1)] [] 0 0 K)) :
  tRun E 2 (0, [.inr (0, x0), .inr (6, x1)], [], 0, 0, d) K := tT_run (cut := [0, 13]) 7 _ h
theorem t_2_13 {E : mO × tW} {K : tK} {d : mD} {x0 x1 : Int}
  (h : (0 ≤ (d x0 1) + 1 ∧ (d x0 1) + 1 ≤ 2147483647 ∧ 0 < (8 : Int) ∧ (8 : Int) ≤ 2147483647) ∧ (mInR 8 ∧ mInR (((mset d x0 1 (((d x0 1) + 1) % 8)) x0 2) + 1)) ∧ K (.inl none) (mset (mset d x0 1 (((d x0 1) + 1) % 8)) x0 2 (mmin 8 (((mset d x0 1 (((d x0 1) + 1) % 8)) x0 2) + 1)))) :
  tRun E 2 (13, [.inr (0, x0), .inr (6, x1)], [], 0, 0, d) K := tT_run (cut := [0, 13]) 17 _ h
theorem t_3_0 {E : mO × tW} {K : tK} {d : mD} {x0 x1 : Int}
  (h : (0 ≤ ((d x0 1) + 8) - 1 ∧ ((d x0 1) + 8) - 1 ≤ 2147483647 ∧ 0 < (8 : Int) ∧ (8 : Int) ≤ 2147483647) ∧ (0 ≤ (mset (mset d x0 1 ((((d x0 1) + 8) - 1) % 8)) x0 2 (((mset d x0 1 ((((d x0 1) + 8) - 1) % 8)) x0 2) - 1)) x0 1 ∧ (mset (mset d x0 1 ((((d x0 1) + 8) - 1) % 8)) x0 2 (((mset d x0 1 ((((d x0 1) + 8) - 1) % 8)) x0 2) - 1)) x0 1 < 8) ∧ tCall E 59 [.inr (6, x1), .inr (6, x0 + 1 + (1 + 63 * ((mset (mset d x0 1 ((((d x0 1) + 8) - 1) % 8)) x0 2 (((mset d x0 1 ((((d x0 1) + 8) - 1) % 8)) x0 2) - 1)) x0 1)))] (mset (mset d x0 1 ((((d x0 1) + 8) - 1) % 8)) x0 2 (((mset d x0 1 ((((d x0 1) + 8) - 1) % 8)) x0 2) - 1)) (tbk E 3 36 [.inr (0, x0), .inr (6, x1)] [] 0 0 K)) :
  tRun E 3 (0, [.inr (0, x0), .inr (6, x1)], [], 0, 0, d) K := tT_run (cut := [0, 39]) 23 _ h
theorem t_3_39 {E : mO × tW} {K : tK} {d : mD} {x0 x1 : Int}
  (h : K (.inl none) d) :
  tRun E 3 (39, [.inr (0, x0), .inr (6, x1)], [], 0, 0, d) K := tT_run (cut := [0, 39]) 1 _ h
theorem t_4_0 {E : mO × tW} {K : tK} {d : mD} {x0 : Int}
  (h : K (.inl none) (mset d x0 2 0)) :
  tRun E 4 (0, [.inr (0, x0)], [], 0, 0, d) K := tT_run (cut := [0]) 4 _ h
theorem t_6_0 {E : mO × tW} {K : tK} {d : mD} {x0 x1 : Int}
  (h : mInR x1 ∧ (x1 < 0 → ((0 : Int) = 0 ∨ (0 : Int) = 1) ∧ K (.inl (some (0, 0))) d) ∧ (0 ≤ x1 → (mInR x1 ∧ mInR 999) ∧ (999 < x1 → ((0 : Int) = 0 ∨ (0 : Int) = 1) ∧ K (.inl (some (0, 0))) d) ∧ (x1 ≤ 999 → (0 ≤ mishr x1 6 ∧ mishr x1 6 < 16) ∧ (mInL (mland (mlushr (d (x0 + 1) (mishr x1 6)) (miand x1 63)) 1) ∧ mInL 0) ∧ mInR (mcmp (mland (mlushr (d (x0 + 1) (mishr x1 6)) (miand x1 63)) 1) 0) ∧ (mcmp (mland (mlushr (d (x0 + 1) (mishr x1 6)) (miand x1 63)) 1) 0 = 0 → ((0 : Int) = 0 ∨ (0 : Int) = 1) ∧ K (.inl (some (0, 0))) d) ∧ (¬ mcmp (mland (mlushr (d (x0 + 1) (mishr x1 6)) (miand x1 63)) 1) 0 = 0 → ((1 : Int) = 0 ∨ (1 : Int) = 1) ∧ K (.inl (some (0, 1))) d)))) :
  tRun E 6 (0, [.inr (1, x0), .inl (0, x1)], [], 0, 0, d) K := tT_run (cut := [0]) 23 _ h
theorem t_7_0 {E : mO × tW} {K : tK} {d : mD} {x0 x1 : Int}
  (h : mInR x1 ∧ (x1 < 0 → K (.inl none) d) ∧ (0 ≤ x1 → (mInR x1 ∧ mInR 999) ∧ (999 < x1 → K (.inl none) d) ∧ (x1 ≤ 999 → (0 ≤ mishr x1 6 ∧ mishr x1 6 < 16) ∧ (0 ≤ mishr x1 6 ∧ mishr x1 6 < 16) ∧ K (.inl none) (mset d (x0 + 1) (mishr x1 6) (mlor (d (x0 + 1) (mishr x1 6)) (mlshl 1 (miand x1 63))))))) :
  tRun E 7 (0, [.inr (1, x0), .inl (0, x1)], [], 0, 0, d) K := tT_run (cut := [0]) 20 _ h
theorem t_8_0 {E : mO × tW} {K : tK} {d : mD} {x0 : Int}
  (h : tCall E 300 [.inr (20, x0 + 1), .inl (1, 0)] d (tbk E 8 5 [.inr (1, x0)] [] 0 0 K)) :
  tRun E 8 (0, [.inr (1, x0)], [], 0, 0, d) K := tT_run (cut := [0, 8]) 4 _ h
theorem t_8_8 {E : mO × tW} {K : tK} {d : mD} {x0 : Int}
  (h : K (.inl none) d) :
  tRun E 8 (8, [.inr (1, x0)], [], 0, 0, d) K := tT_run (cut := [0, 8]) 1 _ h
theorem t_9_0 {E : mO × tW} {K : tK} {d : mD} {x0 : Int}
  (h : tRun E 9 (4, [.inr (1, x0), .inl (0, 0), .inl (0, 0)], [], 0, 0, d) K) :
  tRun E 9 (0, [.inr (1, x0), tu, tu], [], 0, 0, d) K := tT_run (cut := [0, 4, 20]) 4 _ h
theorem t_9_4 {E : mO × tW} {K : tK} {d : mD} {x0 x1 x2 : Int}
  (h : (mInR x2 ∧ mInR 16) ∧ (16 ≤ x2 → K (.inl (some (0, x1))) d) ∧ (x2 < 16 → (0 ≤ x2 ∧ x2 < 16) ∧ tCall E 297 [.inl (1, d (x0 + 1) x2)] d (tbk E 9 17 [.inr (1, x0), .inl (0, x1), .inl (0, x2)] [.inl (0, x1)] 0 0 K))) :
  tRun E 9 (4, [.inr (1, x0), .inl (0, x1), .inl (0, x2)], [], 0, 0, d) K := tT_run (cut := [0, 4, 20]) 9 _ h
theorem t_9_20 {E : mO × tW} {K : tK} {d : mD} {x0 x1 x2 y0 y1 : Int}
  (h : tRun E 9 (4, [.inr (1, x0), .inl (0, y0 + y1), .inl (0, x2 + 1)], [], 0, 0, d) K) :
  tRun E 9 (20, [.inr (1, x0), .inl (0, x1), .inl (0, x2)], [.inl (0, y1), .inl (0, y0)], 0, 0, d) K := tT_run (cut := [0, 4, 20]) 4 _ h
theorem t_10_0 {E : mO × tW} {K : tK} {d : mD} {x0 x1 : Int}
  (h : tRun E 10 (4, [.inr (1, x0), .inr (1, x1), .inl (0, 0), .inl (0, 0)], [], 0, 0, d) K) :
  tRun E 10 (0, [.inr (1, x0), .inr (1, x1), tu, tu], [], 0, 0, d) K := tT_run (cut := [0, 4, 31]) 4 _ h
theorem t_10_4 {E : mO × tW} {K : tK} {d : mD} {x0 x1 x2 x3 : Int}
  (h : (mInR x3 ∧ mInR 16) ∧ (16 ≤ x3 → K (.inl (some (0, x2))) d) ∧ (x3 < 16 → (0 ≤ x3 ∧ x3 < 16) ∧ (0 ≤ x3 ∧ x3 < 16) ∧ tCall E 297 [.inl (1, mland (d (x0 + 1) x3) (mlxor (d (x1 + 1) x3) ((-1))))] d (tbk E 10 28 [.inr (1, x0), .inr (1, x1), .inl (0, x2), .inl (0, x3)] [.inl (0, x2)] 0 0 K))) :
  tRun E 10 (4, [.inr (1, x0), .inr (1, x1), .inl (0, x2), .inl (0, x3)], [], 0, 0, d) K := tT_run (cut := [0, 4, 31]) 16 _ h
theorem t_10_31 {E : mO × tW} {K : tK} {d : mD} {x0 x1 x2 x3 y0 y1 : Int}
  (h : tRun E 10 (4, [.inr (1, x0), .inr (1, x1), .inl (0, y0 + y1), .inl (0, x3 + 1)], [], 0, 0, d) K) :
  tRun E 10 (31, [.inr (1, x0), .inr (1, x1), .inl (0, x2), .inl (0, x3)], [.inl (0, y1), .inl (0, y0)], 0, 0, d) K := tT_run (cut := [0, 4, 31]) 4 _ h
theorem t_11_0 {E : mO × tW} {K : tK} {d : mD} {x0 x1 : Int}
  (h : (0 ≤ (0 : Int) ∧ 0 ≤ (0 : Int) ∧ 0 ≤ (16 : Int) ∧ (0 : Int) + (16 : Int) ≤ 16 ∧ (0 : Int) + (16 : Int) ≤ 16) ∧ K (.inl none) (mcopy d (x1 + 1) 0 (x0 + 1) 0 16)) :
  tRun E 11 (0, [.inr (1, x0), .inr (1, x1)], [], 0, 0, d) K := tT_run (cut := [0]) 9 _ h
theorem t_13_0 {E : mO × tW} {K : tK} {d : mD} {x0 : Int}
  (h : tCall E 58 [.inr (6, x0 + 4)] (mset (mset d x0 2 0) x0 3 ((-1))) (tbk E 13 14 [.inr (2, x0)] [] 0 0 K)) :
  tRun E 13 (0, [.inr (2, x0)], [], 0, 0, d) K := tT_run (cut := [0, 17, 24]) 9 _ h
theorem t_13_17 {E : mO × tW} {K : tK} {d : mD} {x0 : Int}
  (h : tCall E 51 [.inr (5, x0 + 1)] d (tbk E 13 21 [.inr (2, x0)] [] 0 0 K)) :
  tRun E 13 (17, [.inr (2, x0)], [], 0, 0, d) K := tT_run (cut := [0, 17, 24]) 3 _ h
theorem t_13_24 {E : mO × tW} {K : tK} {d : mD} {x0 : Int}
  (h : K (.inl none) d) :
  tRun E 13 (24, [.inr (2, x0)], [], 0, 0, d) K := tT_run (cut := [0, 17, 24]) 1 _ h
theorem t_14_0 {E : mO × tW} {K : tK} {d : mD} {x0 : Int}
  (h : tCall E 24 [.inr (2, x0), .inl (5, 0)] d (tbk E 14 3 [.inr (2, x0), tu] [] 0 0 K)) :
  tRun E 14 (0, [.inr (2, x0), tu], [], 0, 0, d) K := tT_run (cut := [0, 6, 13, 32, 63, 83]) 3 _ h
theorem t_14_6 {E : mO × tW} {K : tK} {d : mD} {x0 y0 : Int}
  (h : mInR y0 ∧ (¬ y0 = 0 → tRun E 14 (13, [.inr (2, x0), .inl (0, 0)], [], 0, 0, d) K) ∧ (y0 = 0 → ((0 : Int) = 0 ∨ (0 : Int) = 1) ∧ K (.inl (some (0, 0))) d)) :
  tRun E 14 (6, [.inr (2, x0), tu], [.inl (0, y0)], 0, 0, d) K := tT_run (cut := [0, 6, 13, 32, 63, 83]) 3 _ h
theorem t_14_13 {E : mO × tW} {K : tK} {d : mD} {x0 x1 : Int}
  (h : (mInR x1 ∧ mInR 5) ∧ (5 ≤ x1 → tCall E 25 [.inr (2, x0), .inl (0, 0), .inl (0, 99999)] d (tbk E 14 60 [.inr (2, x0), .inl (0, x1)] [] 0 0 K)) ∧ (x1 < 5 → (0 ≤ x1 ∧ x1 < E.1.1 0) ∧ (0 ≤ x1 ∧ x1 < E.1.1 1) ∧ tCall E 25 [.inr (2, x0), .inl (0, E.1.2 0 x1), .inl (0, E.1.2 1 x1)] d (tbk E 14 29 [.inr (2, x0), .inl (0, x1)] [] 0 0 K))) :
  tRun E 14 (13, [.inr (2, x0), .inl (0, x1)], [], 0, 0, d) K := tT_run (cut := [0, 6, 13, 32, 63, 83]) 11 _ h
theorem t_14_32 {E : mO × tW} {K : tK} {d : mD} {x0 x1 y0 : Int}
  (h : mInR y0 ∧ (¬ y0 = 0 → (0 ≤ x1 ∧ x1 < 5) ∧ tRun E 14 (13, [.inr (2, x0), .inl (0, x1 + 1)], [], 0, 0, mset d (x0 + 4 + 1) x1 (d x0 4)) K) ∧ (y0 = 0 → ((0 : Int) = 0 ∨ (0 : Int) = 1) ∧ K (.inl (some (0, 0))) d)) :
  tRun E 14 (32, [.inr (2, x0), .inl (0, x1)], [.inl (0, y0)], 0, 0, d) K := tT_run (cut := [0, 6, 13, 32, 63, 83]) 10 _ h
theorem t_14_63 {E : mO × tW} {K : tK} {d : mD} {x0 x1 y0 : Int}
  (h : mInR y0 ∧ (¬ y0 = 0 → tCall E 31 [.inr (2, x0)] (mset d (x0 + 4) 1 (d x0 4)) (tbk E 14 80 [.inr (2, x0), .inl (0, x1)] [] 0 0 K)) ∧ (y0 = 0 → ((0 : Int) = 0 ∨ (0 : Int) = 1) ∧ K (.inl (some (0, 0))) d)) :
  tRun E 14 (63, [.inr (2, x0), .inl (0, x1)], [.inl (0, y0)], 0, 0, d) K := tT_run (cut := [0, 6, 13, 32, 63, 83]) 8 _ h
theorem t_14_83 {E : mO × tW} {K : tK} {d : mD} {x0 x1 y0 : Int}
  (h : (y0 = 0 ∨ y0 = 1) ∧ K (.inl (some (0, y0))) d) :
  tRun E 14 (83, [.inr (2, x0), .inl (0, x1)], [.inl (0, y0)], 0, 0, d) K := tT_run (cut := [0, 6, 13, 32, 63, 83]) 1 _ h
theorem t_15_0 {E : mO × tW} {K : tK} {d : mD} {x0 : Int}
  (h : tCall E 55 [.inr (5, x0 + 1), .inl (5, 1)] d (tbk E 15 6 [.inr (2, x0), tu] [] 0 0 K)) :
  tRun E 15 (0, [.inr (2, x0), tu], [], 0, 0, d) K := tT_run (cut := [0, 9, 17, 20, 35, 42]) 4 _ h
theorem t_15_9 {E : mO × tW} {K : tK} {d : mD} {x0 y0 : Int}
  (h : mInR y0 ∧ (¬ y0 = 0 → tRun E 15 (20, [.inr (2, x0), .inl (0, 0)], [], 0, 0, d) K) ∧ (y0 = 0 → tCall E 32 [.inr (2, x0), .inl (0, 1)] d (tbk E 15 14 [.inr (2, x0), tu] [] 0 0 K))) :
  tRun E 15 (9, [.inr (2, x0), tu], [.inl (0, y0)], 0, 0, d) K := tT_run (cut := [0, 9, 17, 20, 35, 42]) 4 _ h
theorem t_15_17 {E : mO × tW} {K : tK} {d : mD} {x0 y0 : Int}
  (h : (y0 = 0 ∨ y0 = 1) ∧ K (.inl (some (0, y0))) d) :
  tRun E 15 (17, [.inr (2, x0), tu], [.inl (0, y0)], 0, 0, d) K := tT_run (cut := [0, 9, 17, 20, 35, 42]) 1 _ h
theorem t_15_20 {E : mO × tW} {K : tK} {d : mD} {x0 x1 : Int}
  (h : (mInR x1 ∧ mInR 6) ∧ (6 < x1 → ((1 : Int) = 0 ∨ (1 : Int) = 1) ∧ K (.inl (some (0, 1))) d) ∧ (x1 ≤ 6 → tCall E 55 [.inr (5, x0 + 1), .inl (5, 1)] d (tbk E 15 32 [.inr (2, x0), .inl (0, x1)] [] 0 0 K))) :
  tRun E 15 (20, [.inr (2, x0), .inl (0, x1)], [], 0, 0, d) K := tT_run (cut := [0, 9, 17, 20, 35, 42]) 7 _ h
theorem t_15_35 {E : mO × tW} {K : tK} {d : mD} {x0 x1 y0 : Int}
  (h : mInR y0 ∧ (y0 = 0 → ((1 : Int) = 0 ∨ (1 : Int) = 1) ∧ K (.inl (some (0, 1))) d) ∧ (¬ y0 = 0 → tCall E 16 [.inr (2, x0)] d (tbk E 15 39 [.inr (2, x0), .inl (0, x1)] [] 0 0 K))) :
  tRun E 15 (35, [.inr (2, x0), .inl (0, x1)], [.inl (0, y0)], 0, 0, d) K := tT_run (cut := [0, 9, 17, 20, 35, 42]) 3 _ h
theorem t_15_42 {E : mO × tW} {K : tK} {d : mD} {x0 x1 y0 : Int}
  (h : mInR y0 ∧ (¬ y0 = 0 → tRun E 15 (20, [.inr (2, x0), .inl (0, x1 + 1)], [], 0, 0, d) K) ∧ (y0 = 0 → ((0 : Int) = 0 ∨ (0 : Int) = 1) ∧ K (.inl (some (0, 0))) d)) :
  tRun E 15 (42, [.inr (2, x0), .inl (0, x1)], [.inl (0, y0)], 0, 0, d) K := tT_run (cut := [0, 9, 17, 20, 35, 42]) 3 _ h
theorem t_16_0 {E : mO × tW} {K : tK} {d : mD} {x0 : Int}
  (h : (mInR (d (x0 + 4 + 2) 0) ∧ mInR 6) ∧ (d (x0 + 4 + 2) 0 < 6 → tCall E 52 [.inr (5, x0 + 1)] d (tbk E 16 27 [.inr (2, x0), .inr (3, x0 + 4 + 2), tu, tu, tu] [] 0 0 K)) ∧ (6 ≤ d (x0 + 4 + 2) 0 → tCall E 32 [.inr (2, x0), .inl (0, 5)] d (tbk E 16 19 [.inr (2, x0), .inr (3, x0 + 4 + 2), tu, tu, tu] [] 0 0 K))) :
  tRun E 16 (0, [.inr (2, x0), tu, tu, tu, tu], [], 0, 0, d) K := tT_run (cut := [0, 22, 30, 37, 49, 52, 61, 66, 82, 99, 117, 124, 141]) 11 _ h
theorem t_16_22 {E : mO × tW} {K : tK} {d : mD} {x0 x1 y0 : Int}
  (h : (y0 = 0 ∨ y0 = 1) ∧ K (.inl (some (0, y0))) d) :
  tRun E 16 (22, [.inr (2, x0), .inr (3, x1), tu, tu, tu], [.inl (0, y0)], 0, 0, d) K := tT_run (cut := [0, 22, 30, 37, 49, 52, 61, 66, 82, 99, 117, 124, 141]) 1 _ h
theorem t_16_30 {E : mO × tW} {K : tK} {d : mD} {x0 x1 : Int}
  (h : tCall E 56 [.inr (5, x0 + 1)] d (tbk E 16 34 [.inr (2, x0), .inr (3, x1), tu, tu, tu] [] 0 0 K)) :
  tRun E 16 (30, [.inr (2, x0), .inr (3, x1), tu, tu, tu], [], 0, 0, d) K := tT_run (cut := [0, 22, 30, 37, 49, 52, 61, 66, 82, 99, 117, 124, 141]) 3 _ h
theorem t_16_37 {E : mO × tW} {K : tK} {d : mD} {x0 x1 y0 : Int}
  (h : (mInR y0 ∧ mInR ((-1))) ∧ (y0 = (-1) → tCall E 26 [.inr (2, x0)] d (tbk E 16 63 [.inr (2, x0), .inr (3, x1), tu, tu, tu] [] 0 0 K)) ∧ (¬ y0 = (-1) → tCall E 56 [.inr (5, x0 + 1)] d (tbk E 16 46 [.inr (2, x0), .inr (3, x1), tu, tu, tu] [.inr (3, x1)] 0 0 K))) :
  tRun E 16 (37, [.inr (2, x0), .inr (3, x1), tu, tu, tu], [.inl (0, y0)], 0, 0, d) K := tT_run (cut := [0, 22, 30, 37, 49, 52, 61, 66, 82, 99, 117, 124, 141]) 6 _ h
theorem t_16_49 {E : mO × tW} {K : tK} {d : mD} {x0 x1 y0 y1 : Int}
  (h : tCall E 36 [.inr (3, y0), .inl (0, y1)] d (tbk E 16 49 [.inr (2, x0), .inr (3, x1), tu, tu, tu] [] 0 0 K)) :
  tRun E 16 (49, [.inr (2, x0), .inr (3, x1), tu, tu, tu], [.inl (0, y1), .inr (3, y0)], 0, 0, d) K := tT_run (cut := [0, 22, 30, 37, 49, 52, 61, 66, 82, 99, 117, 124, 141]) 1 _ h
theorem t_16_52 {E : mO × tW} {K : tK} {d : mD} {x0 x1 y0 : Int}
  (h : (mInR y0 ∧ mInR ((-1))) ∧ (y0 = (-1) → tCall E 26 [.inr (2, x0)] d (tbk E 16 63 [.inr (2, x0), .inr (3, x1), tu, tu, tu] [] 0 0 K)) ∧ (¬ y0 = (-1) → tCall E 32 [.inr (2, x0), .inl (0, 3)] d (tbk E 16 58 [.inr (2, x0), .inr (3, x1), tu, tu, tu] [] 0 0 K))) :
  tRun E 16 (52, [.inr (2, x0), .inr (3, x1), tu, tu, tu], [.inl (0, y0)], 0, 0, d) K := tT_run (cut := [0, 22, 30, 37, 49, 52, 61, 66, 82, 99, 117, 124, 141]) 5 _ h
theorem t_16_61 {E : mO × tW} {K : tK} {d : mD} {x0 x1 y0 : Int}
  (h : (y0 = 0 ∨ y0 = 1) ∧ K (.inl (some (0, y0))) d) :
  tRun E 16 (61, [.inr (2, x0), .inr (3, x1), tu, tu, tu], [.inl (0, y0)], 0, 0, d) K := tT_run (cut := [0, 22, 30, 37, 49, 52, 61, 66, 82, 99, 117, 124, 141]) 1 _ h
theorem t_16_66 {E : mO × tW} {K : tK} {d : mD} {x0 x1 y0 : Int}
  (h : mInR y0 ∧ (¬ y0 = 0 → tCall E 25 [.inr (2, x0), .inl (0, 1), .inl (0, 4)] d (tbk E 16 79 [.inr (2, x0), .inr (3, x1), .inl (0, d x0 5), tu, tu] [] 0 0 K)) ∧ (y0 = 0 → ((0 : Int) = 0 ∨ (0 : Int) = 1) ∧ K (.inl (some (0, 0))) d)) :
  tRun E 16 (66, [.inr (2, x0), .inr (3, x1), tu, tu, tu], [.inl (0, y0)], 0, 0, d) K := tT_run (cut := [0, 22, 30, 37, 49, 52, 61, 66, 82, 99, 117, 124, 141]) 8 _ h
theorem t_16_82 {E : mO × tW} {K : tK} {d : mD} {x0 x1 x2 y0 : Int}
  (h : mInR y0 ∧ (¬ y0 = 0 → tCall E 25 [.inr (2, x0), .inl (0, 1), .inl (0, 6)] d (tbk E 16 96 [.inr (2, x0), .inr (3, x1), .inl (0, x2), .inl (0, d x0 4), tu] [] 0 0 K)) ∧ (y0 = 0 → ((0 : Int) = 0 ∨ (0 : Int) = 1) ∧ K (.inl (some (0, 0))) d)) :
  tRun E 16 (82, [.inr (2, x0), .inr (3, x1), .inl (0, x2), tu, tu], [.inl (0, y0)], 0, 0, d) K := tT_run (cut := [0, 22, 30, 37, 49, 52, 61, 66, 82, 99, 117, 124, 141]) 8 _ h
theorem t_16_99 {E : mO × tW} {K : tK} {d : mD} {x0 x1 x2 x3 y0 : Int}
  (h : mInR y0 ∧ (¬ y0 = 0 → tCall E 25 [.inr (2, x0), .inl (0, 1), .inl (0, 20)] d (tbk E 16 114 [.inr (2, x0), .inr (3, x1), .inl (0, x2), .inl (0, x3), .inl (0, d x0 4)] [] 0 0 K)) ∧ (y0 = 0 → ((0 : Int) = 0 ∨ (0 : Int) = 1) ∧ K (.inl (some (0, 0))) d)) :
  tRun E 16 (99, [.inr (2, x0), .inr (3, x1), .inl (0, x2), .inl (0, x3), tu], [.inl (0, y0)], 0, 0, d) K := tT_run (cut := [0, 22, 30, 37, 49, 52, 61, 66, 82, 99, 117, 124, 141]) 8 _ h
theorem t_16_117 {E : mO × tW} {K : tK} {d : mD} {x0 x1 x2 x3 x4 y0 : Int}
  (h : mInR y0 ∧ (y0 = 0 → ((0 : Int) = 0 ∨ (0 : Int) = 1) ∧ K (.inl (some (0, 0))) d) ∧ (¬ y0 = 0 → tCall E 31 [.inr (2, x0)] d (tbk E 16 121 [.inr (2, x0), .inr (3, x1), .inl (0, x2), .inl (0, x3), .inl (0, x4)] [] 0 0 K))) :
  tRun E 16 (117, [.inr (2, x0), .inr (3, x1), .inl (0, x2), .inl (0, x3), .inl (0, x4)], [.inl (0, y0)], 0, 0, d) K := tT_run (cut := [0, 22, 30, 37, 49, 52, 61, 66, 82, 99, 117, 124, 141]) 3 _ h
theorem t_16_124 {E : mO × tW} {K : tK} {d : mD} {x0 x1 x2 x3 x4 y0 : Int}
  (h : mInR y0 ∧ (¬ y0 = 0 → tCall E 35 [.inr (3, x1), .inl (0, x2), .inl (0, x3), .inl (0, x4), .inl (0, d x0 4)] d (tbk E 16 138 [.inr (2, x0), .inr (3, x1), .inl (0, x2), .inl (0, x3), .inl (0, x4)] [] 0 0 K)) ∧ (y0 = 0 → ((0 : Int) = 0 ∨ (0 : Int) = 1) ∧ K (.inl (some (0, 0))) d)) :
  tRun E 16 (124, [.inr (2, x0), .inr (3, x1), .inl (0, x2), .inl (0, x3), .inl (0, x4)], [.inl (0, y0)], 0, 0, d) K := tT_run (cut := [0, 22, 30, 37, 49, 52, 61, 66, 82, 99, 117, 124, 141]) 8 _ h
theorem t_16_141 {E : mO × tW} {K : tK} {d : mD} {x0 x1 x2 x3 x4 : Int}
  (h : ((1 : Int) = 0 ∨ (1 : Int) = 1) ∧ K (.inl (some (0, 1))) d) :
  tRun E 16 (141, [.inr (2, x0), .inr (3, x1), .inl (0, x2), .inl (0, x3), .inl (0, x4)], [], 0, 0, d) K := tT_run (cut := [0, 22, 30, 37, 49, 52, 61, 66, 82, 99, 117, 124, 141]) 2 _ h
theorem t_17_0 {E : mO × tW} {K : tK} {d : mD} {x0 : Int}
  (h : tRun E 17 (2, [.inr (2, x0), .inl (0, 0)], [], 0, 0, d) K) :
  tRun E 17 (0, [.inr (2, x0), tu], [], 0, 0, d) K := tT_run (cut := [0, 2, 17, 24]) 2 _ h
theorem t_17_2 {E : mO × tW} {K : tK} {d : mD} {x0 x1 : Int}
  (h : (mInR x1 ∧ mInR 16) ∧ (16 < x1 → ((1 : Int) = 0 ∨ (1 : Int) = 1) ∧ K (.inl (some (0, 1))) d) ∧ (x1 ≤ 16 → tCall E 55 [.inr (5, x0 + 1), .inl (5, 2)] d (tbk E 17 14 [.inr (2, x0), .inl (0, x1)] [] 0 0 K))) :
  tRun E 17 (2, [.inr (2, x0), .inl (0, x1)], [], 0, 0, d) K := tT_run (cut := [0, 2, 17, 24]) 7 _ h
theorem t_17_17 {E : mO × tW} {K : tK} {d : mD} {x0 x1 y0 : Int}
  (h : mInR y0 ∧ (y0 = 0 → ((1 : Int) = 0 ∨ (1 : Int) = 1) ∧ K (.inl (some (0, 1))) d) ∧ (¬ y0 = 0 → tCall E 18 [.inr (2, x0)] d (tbk E 17 21 [.inr (2, x0), .inl (0, x1)] [] 0 0 K))) :
  tRun E 17 (17, [.inr (2, x0), .inl (0, x1)], [.inl (0, y0)], 0, 0, d) K := tT_run (cut := [0, 2, 17, 24]) 3 _ h
theorem t_17_24 {E : mO × tW} {K : tK} {d : mD} {x0 x1 y0 : Int}
  (h : mInR y0 ∧ (¬ y0 = 0 → tRun E 17 (2, [.inr (2, x0), .inl (0, x1 + 1)], [], 0, 0, d) K) ∧ (y0 = 0 → ((0 : Int) = 0 ∨ (0 : Int) = 1) ∧ K (.inl (some (0, 0))) d)) :
  tRun E 17 (24, [.inr (2, x0), .inl (0, x1)], [.inl (0, y0)], 0, 0, d) K := tT_run (cut := [0, 2, 17, 24]) 3 _ h
theorem t_18_0 {E : mO × tW} {K : tK} {d : mD} {x0 : Int}
  (h : (mInR (d (x0 + 4 + 10) 0) ∧ mInR 16) ∧ (d (x0 + 4 + 10) 0 < 16 → tCall E 52 [.inr (5, x0 + 1)] d (tbk E 18 25 [.inr (2, x0)] [] 0 0 K)) ∧ (16 ≤ d (x0 + 4 + 10) 0 → tCall E 32 [.inr (2, x0), .inl (0, 5)] d (tbk E 18 17 [.inr (2, x0)] [] 0 0 K))) :
  tRun E 18 (0, [.inr (2, x0)], [], 0, 0, d) K := tT_run (cut := [0, 20, 28, 35, 53, 56, 65, 70, 77, 96]) 9 _ h
theorem t_18_20 {E : mO × tW} {K : tK} {d : mD} {x0 y0 : Int}
  (h : (y0 = 0 ∨ y0 = 1) ∧ K (.inl (some (0, y0))) d) :
  tRun E 18 (20, [.inr (2, x0)], [.inl (0, y0)], 0, 0, d) K := tT_run (cut := [0, 20, 28, 35, 53, 56, 65, 70, 77, 96]) 1 _ h
theorem t_18_28 {E : mO × tW} {K : tK} {d : mD} {x0 : Int}
  (h : tCall E 56 [.inr (5, x0 + 1)] d (tbk E 18 32 [.inr (2, x0)] [] 0 0 K)) :
  tRun E 18 (28, [.inr (2, x0)], [], 0, 0, d) K := tT_run (cut := [0, 20, 28, 35, 53, 56, 65, 70, 77, 96]) 3 _ h
theorem t_18_35 {E : mO × tW} {K : tK} {d : mD} {x0 y0 : Int}
  (h : (mInR y0 ∧ mInR ((-1))) ∧ (y0 = (-1) → tCall E 26 [.inr (2, x0)] d (tbk E 18 67 [.inr (2, x0)] [] 0 0 K)) ∧ (¬ y0 = (-1) → tCall E 56 [.inr (5, x0 + 1)] d (tbk E 18 50 [.inr (2, x0)] [.inr (4, x0 + 4 + 10)] 0 0 K))) :
  tRun E 18 (35, [.inr (2, x0)], [.inl (0, y0)], 0, 0, d) K := tT_run (cut := [0, 20, 28, 35, 53, 56, 65, 70, 77, 96]) 8 _ h
theorem t_18_53 {E : mO × tW} {K : tK} {d : mD} {x0 y0 y1 : Int}
  (h : tCall E 48 [.inr (4, y0), .inl (0, y1)] d (tbk E 18 53 [.inr (2, x0)] [] 0 0 K)) :
  tRun E 18 (53, [.inr (2, x0)], [.inl (0, y1), .inr (4, y0)], 0, 0, d) K := tT_run (cut := [0, 20, 28, 35, 53, 56, 65, 70, 77, 96]) 1 _ h
theorem t_18_56 {E : mO × tW} {K : tK} {d : mD} {x0 y0 : Int}
  (h : (mInR y0 ∧ mInR ((-1))) ∧ (y0 = (-1) → tCall E 26 [.inr (2, x0)] d (tbk E 18 67 [.inr (2, x0)] [] 0 0 K)) ∧ (¬ y0 = (-1) → tCall E 32 [.inr (2, x0), .inl (0, 3)] d (tbk E 18 62 [.inr (2, x0)] [] 0 0 K))) :
  tRun E 18 (56, [.inr (2, x0)], [.inl (0, y0)], 0, 0, d) K := tT_run (cut := [0, 20, 28, 35, 53, 56, 65, 70, 77, 96]) 5 _ h
theorem t_18_65 {E : mO × tW} {K : tK} {d : mD} {x0 y0 : Int}
  (h : (y0 = 0 ∨ y0 = 1) ∧ K (.inl (some (0, y0))) d) :
  tRun E 18 (65, [.inr (2, x0)], [.inl (0, y0)], 0, 0, d) K := tT_run (cut := [0, 20, 28, 35, 53, 56, 65, 70, 77, 96]) 1 _ h
theorem t_18_70 {E : mO × tW} {K : tK} {d : mD} {x0 y0 : Int}
  (h : mInR y0 ∧ (y0 = 0 → ((0 : Int) = 0 ∨ (0 : Int) = 1) ∧ K (.inl (some (0, 0))) d) ∧ (¬ y0 = 0 → tCall E 31 [.inr (2, x0)] d (tbk E 18 74 [.inr (2, x0)] [] 0 0 K))) :
  tRun E 18 (70, [.inr (2, x0)], [.inl (0, y0)], 0, 0, d) K := tT_run (cut := [0, 20, 28, 35, 53, 56, 65, 70, 77, 96]) 3 _ h
theorem t_18_77 {E : mO × tW} {K : tK} {d : mD} {x0 y0 : Int}
  (h : mInR y0 ∧ (¬ y0 = 0 → tCall E 47 [.inr (4, x0 + 4 + 10), .inl (0, d x0 5)] d (tbk E 18 93 [.inr (2, x0)] [] 0 0 K)) ∧ (y0 = 0 → ((0 : Int) = 0 ∨ (0 : Int) = 1) ∧ K (.inl (some (0, 0))) d)) :
  tRun E 18 (77, [.inr (2, x0)], [.inl (0, y0)], 0, 0, d) K := tT_run (cut := [0, 20, 28, 35, 53, 56, 65, 70, 77, 96]) 7 _ h
theorem t_18_96 {E : mO × tW} {K : tK} {d : mD} {x0 : Int}
  (h : ((1 : Int) = 0 ∨ (1 : Int) = 1) ∧ K (.inl (some (0, 1))) d) :
  tRun E 18 (96, [.inr (2, x0)], [], 0, 0, d) K := tT_run (cut := [0, 20, 28, 35, 53, 56, 65, 70, 77, 96]) 2 _ h
theorem t_19_0 {E : mO × tW} {K : tK} {d : mD} {x0 : Int}
  (h : tRun E 19 (4, [.inr (2, x0), .inl (0, 1), .inl (0, 0)], [], 0, 0, d) K) :
  tRun E 19 (0, [.inr (2, x0), tu, tu], [], 0, 0, d) K := tT_run (cut := [0, 4, 35, 42, 55, 62, 75, 82, 95, 102, 111]) 4 _ h
theorem t_19_4 {E : mO × tW} {K : tK} {d : mD} {x0 x1 x2 : Int}
  (h : (mInR x2 ∧ mInR 1000) ∧ (1000 ≤ x2 → (x1 = 0 ∨ x1 = 1) ∧ K (.inl (some (0, x1))) d) ∧ (x2 < 1000 → mInR x1 ∧ (x1 = 0 → (x1 = 0 ∨ x1 = 1) ∧ K (.inl (some (0, x1))) d) ∧ (¬ x1 = 0 → (mInR (d (x0 + 1) 1) ∧ mInR 3) ∧ (d (x0 + 1) 1 = 3 → (x1 = 0 ∨ x1 = 1) ∧ K (.inl (some (0, x1))) d) ∧ (¬ d (x0 + 1) 1 = 3 → tCall E 55 [.inr (5, x0 + 1), .inl (5, 3)] d (tbk E 19 32 [.inr (2, x0), .inl (0, x1), .inl (0, x2)] [] 0 0 K))))) :
  tRun E 19 (4, [.inr (2, x0), .inl (0, x1), .inl (0, x2)], [], 0, 0, d) K := tT_run (cut := [0, 4, 35, 42, 55, 62, 75, 82, 95, 102, 111]) 14 _ h
theorem t_19_35 {E : mO × tW} {K : tK} {d : mD} {x0 x1 x2 y0 : Int}
  (h : mInR y0 ∧ (y0 = 0 → tCall E 55 [.inr (5, x0 + 1), .inl (5, 4)] d (tbk E 19 52 [.inr (2, x0), .inl (0, x1), .inl (0, x2)] [] 0 0 K)) ∧ (¬ y0 = 0 → tCall E 20 [.inr (2, x0)] d (tbk E 19 39 [.inr (2, x0), .inl (0, x1), .inl (0, x2)] [] 0 0 K))) :
  tRun E 19 (35, [.inr (2, x0), .inl (0, x1), .inl (0, x2)], [.inl (0, y0)], 0, 0, d) K := tT_run (cut := [0, 4, 35, 42, 55, 62, 75, 82, 95, 102, 111]) 5 _ h
theorem t_19_42 {E : mO × tW} {K : tK} {d : mD} {x0 x1 x2 y0 : Int}
  (h : tRun E 19 (4, [.inr (2, x0), .inl (0, y0), .inl (0, x2 + 1)], [], 0, 0, d) K) :
  tRun E 19 (42, [.inr (2, x0), .inl (0, x1), .inl (0, x2)], [.inl (0, y0)], 0, 0, d) K := tT_run (cut := [0, 4, 35, 42, 55, 62, 75, 82, 95, 102, 111]) 4 _ h
theorem t_19_55 {E : mO × tW} {K : tK} {d : mD} {x0 x1 x2 y0 : Int}
  (h : mInR y0 ∧ (y0 = 0 → tCall E 55 [.inr (5, x0 + 1), .inl (5, 5)] d (tbk E 19 72 [.inr (2, x0), .inl (0, x1), .inl (0, x2)] [] 0 0 K)) ∧ (¬ y0 = 0 → tCall E 21 [.inr (2, x0)] d (tbk E 19 59 [.inr (2, x0), .inl (0, x1), .inl (0, x2)] [] 0 0 K))) :
  tRun E 19 (55, [.inr (2, x0), .inl (0, x1), .inl (0, x2)], [.inl (0, y0)], 0, 0, d) K := tT_run (cut := [0, 4, 35, 42, 55, 62, 75, 82, 95, 102, 111]) 5 _ h
theorem t_19_62 {E : mO × tW} {K : tK} {d : mD} {x0 x1 x2 y0 : Int}
  (h : tRun E 19 (4, [.inr (2, x0), .inl (0, y0), .inl (0, x2 + 1)], [], 0, 0, d) K) :
  tRun E 19 (62, [.inr (2, x0), .inl (0, x1), .inl (0, x2)], [.inl (0, y0)], 0, 0, d) K := tT_run (cut := [0, 4, 35, 42, 55, 62, 75, 82, 95, 102, 111]) 4 _ h
theorem t_19_75 {E : mO × tW} {K : tK} {d : mD} {x0 x1 x2 y0 : Int}
  (h : mInR y0 ∧ (y0 = 0 → tCall E 55 [.inr (5, x0 + 1), .inl (5, 6)] d (tbk E 19 92 [.inr (2, x0), .inl (0, x1), .inl (0, x2)] [] 0 0 K)) ∧ (¬ y0 = 0 → tCall E 22 [.inr (2, x0)] d (tbk E 19 79 [.inr (2, x0), .inl (0, x1), .inl (0, x2)] [] 0 0 K))) :
  tRun E 19 (75, [.inr (2, x0), .inl (0, x1), .inl (0, x2)], [.inl (0, y0)], 0, 0, d) K := tT_run (cut := [0, 4, 35, 42, 55, 62, 75, 82, 95, 102, 111]) 5 _ h
theorem t_19_82 {E : mO × tW} {K : tK} {d : mD} {x0 x1 x2 y0 : Int}
  (h : tRun E 19 (4, [.inr (2, x0), .inl (0, y0), .inl (0, x2 + 1)], [], 0, 0, d) K) :
  tRun E 19 (82, [.inr (2, x0), .inl (0, x1), .inl (0, x2)], [.inl (0, y0)], 0, 0, d) K := tT_run (cut := [0, 4, 35, 42, 55, 62, 75, 82, 95, 102, 111]) 4 _ h
theorem t_19_95 {E : mO × tW} {K : tK} {d : mD} {x0 x1 x2 y0 : Int}
  (h : mInR y0 ∧ (y0 = 0 → tCall E 32 [.inr (2, x0), .inl (0, 1)] d (tbk E 19 108 [.inr (2, x0), .inl (0, x1), .inl (0, x2)] [] 0 0 K)) ∧ (¬ y0 = 0 → tCall E 23 [.inr (2, x0)] d (tbk E 19 99 [.inr (2, x0), .inl (0, x1), .inl (0, x2)] [] 0 0 K))) :
  tRun E 19 (95, [.inr (2, x0), .inl (0, x1), .inl (0, x2)], [.inl (0, y0)], 0, 0, d) K := tT_run (cut := [0, 4, 35, 42, 55, 62, 75, 82, 95, 102, 111]) 4 _ h
theorem t_19_102 {E : mO × tW} {K : tK} {d : mD} {x0 x1 x2 y0 : Int}
  (h : tRun E 19 (4, [.inr (2, x0), .inl (0, y0), .inl (0, x2 + 1)], [], 0, 0, d) K) :
  tRun E 19 (102, [.inr (2, x0), .inl (0, x1), .inl (0, x2)], [.inl (0, y0)], 0, 0, d) K := tT_run (cut := [0, 4, 35, 42, 55, 62, 75, 82, 95, 102, 111]) 4 _ h
theorem t_19_111 {E : mO × tW} {K : tK} {d : mD} {x0 x1 x2 y0 : Int}
  (h : tRun E 19 (4, [.inr (2, x0), .inl (0, y0), .inl (0, x2 + 1)], [], 0, 0, d) K) :
  tRun E 19 (111, [.inr (2, x0), .inl (0, x1), .inl (0, x2)], [.inl (0, y0)], 0, 0, d) K := tT_run (cut := [0, 4, 35, 42, 55, 62, 75, 82, 95, 102, 111]) 3 _ h
theorem t_20_0 {E : mO × tW} {K : tK} {d : mD} {x0 : Int}
  (h : tCall E 52 [.inr (5, x0 + 1)] d (tbk E 20 4 [.inr (2, x0), tu] [] 0 0 K)) :
  tRun E 20 (0, [.inr (2, x0), tu], [], 0, 0, d) K := tT_run (cut := [0, 7, 11, 25, 32, 49, 58, 71, 76]) 3 _ h
theorem t_20_7 {E : mO × tW} {K : tK} {d : mD} {x0 : Int}
  (h : tCall E 27 [.inr (2, x0)] d (tbk E 20 8 [.inr (2, x0), tu] [] 0 0 K)) :
  tRun E 20 (7, [.inr (2, x0), tu], [], 0, 0, d) K := tT_run (cut := [0, 7, 11, 25, 32, 49, 58, 71, 76]) 2 _ h
theorem t_20_11 {E : mO × tW} {K : tK} {d : mD} {x0 y0 : Int}
  (h : mInR y0 ∧ (¬ y0 = 0 → tCall E 28 [.inr (2, x0)] d (tbk E 20 22 [.inr (2, x0), .inl (0, d x0 6)] [] 0 0 K)) ∧ (y0 = 0 → ((0 : Int) = 0 ∨ (0 : Int) = 1) ∧ K (.inl (some (0, 0))) d)) :
  tRun E 20 (11, [.inr (2, x0), tu], [.inl (0, y0)], 0, 0, d) K := tT_run (cut := [0, 7, 11, 25, 32, 49, 58, 71, 76]) 6 _ h
theorem t_20_25 {E : mO × tW} {K : tK} {d : mD} {x0 x1 y0 : Int}
  (h : mInR y0 ∧ (y0 = 0 → ((0 : Int) = 0 ∨ (0 : Int) = 1) ∧ K (.inl (some (0, 0))) d) ∧ (¬ y0 = 0 → tCall E 30 [.inr (2, x0)] d (tbk E 20 29 [.inr (2, x0), .inl (0, x1)] [] 0 0 K))) :
  tRun E 20 (25, [.inr (2, x0), .inl (0, x1)], [.inl (0, y0)], 0, 0, d) K := tT_run (cut := [0, 7, 11, 25, 32, 49, 58, 71, 76]) 3 _ h
theorem t_20_32 {E : mO × tW} {K : tK} {d : mD} {x0 x1 y0 : Int}
  (h : mInR y0 ∧ (¬ y0 = 0 → tCall E 60 [.inr (6, x0 + 4), .inl (0, x1), .inl (0, d x0 6)] d (tbk E 20 46 [.inr (2, x0), .inl (0, x1)] [] 0 0 K)) ∧ (y0 = 0 → ((0 : Int) = 0 ∨ (0 : Int) = 1) ∧ K (.inl (some (0, 0))) d)) :
  tRun E 20 (32, [.inr (2, x0), .inl (0, x1)], [.inl (0, y0)], 0, 0, d) K := tT_run (cut := [0, 7, 11, 25, 32, 49, 58, 71, 76]) 7 _ h
theorem t_20_49 {E : mO × tW} {K : tK} {d : mD} {x0 x1 y0 : Int}
  (h : mInR y0 ∧ (¬ y0 = 0 → tCall E 61 [.inr (6, x0 + 4), .inl (0, x1), .inl (0, d x0 6)] d (tbk E 20 68 [.inr (2, x0), .inl (0, x1)] [] 0 0 K)) ∧ (y0 = 0 → tCall E 32 [.inr (2, x0), .inl (0, 6)] d (tbk E 20 55 [.inr (2, x0), .inl (0, x1)] [] 0 0 K))) :
  tRun E 20 (49, [.inr (2, x0), .inl (0, x1)], [.inl (0, y0)], 0, 0, d) K := tT_run (cut := [0, 7, 11, 25, 32, 49, 58, 71, 76]) 7 _ h
theorem t_20_58 {E : mO × tW} {K : tK} {d : mD} {x0 x1 y0 : Int}
  (h : (y0 = 0 ∨ y0 = 1) ∧ K (.inl (some (0, y0))) d) :
  tRun E 20 (58, [.inr (2, x0), .inl (0, x1)], [.inl (0, y0)], 0, 0, d) K := tT_run (cut := [0, 7, 11, 25, 32, 49, 58, 71, 76]) 1 _ h
theorem t_20_71 {E : mO × tW} {K : tK} {d : mD} {x0 x1 y0 : Int}
  (h : tCall E 31 [.inr (2, x0)] d (tbk E 20 73 [.inr (2, x0), .inl (0, x1)] [] 0 0 K)) :
  tRun E 20 (71, [.inr (2, x0), .inl (0, x1)], [.inl (0, y0)], 0, 0, d) K := tT_run (cut := [0, 7, 11, 25, 32, 49, 58, 71, 76]) 3 _ h
theorem t_20_76 {E : mO × tW} {K : tK} {d : mD} {x0 x1 y0 : Int}
  (h : (y0 = 0 ∨ y0 = 1) ∧ K (.inl (some (0, y0))) d) :
  tRun E 20 (76, [.inr (2, x0), .inl (0, x1)], [.inl (0, y0)], 0, 0, d) K := tT_run (cut := [0, 7, 11, 25, 32, 49, 58, 71, 76]) 1 _ h
theorem t_21_0 {E : mO × tW} {K : tK} {d : mD} {x0 : Int}
  (h : tCall E 52 [.inr (5, x0 + 1)] d (tbk E 21 4 [.inr (2, x0)] [] 0 0 K)) :
  tRun E 21 (0, [.inr (2, x0)], [], 0, 0, d) K := tT_run (cut := [0, 7, 14, 21, 37, 46, 58, 63]) 3 _ h
theorem t_21_7 {E : mO × tW} {K : tK} {d : mD} {x0 : Int}
  (h : tCall E 25 [.inr (2, x0), .inl (0, 1), .inl (0, 99)] d (tbk E 21 11 [.inr (2, x0)] [] 0 0 K)) :
  tRun E 21 (7, [.inr (2, x0)], [], 0, 0, d) K := tT_run (cut := [0, 7, 14, 21, 37, 46, 58, 63]) 4 _ h
theorem t_21_14 {E : mO × tW} {K : tK} {d : mD} {x0 y0 : Int}
  (h : mInR y0 ∧ (y0 = 0 → ((0 : Int) = 0 ∨ (0 : Int) = 1) ∧ K (.inl (some (0, 0))) d) ∧ (¬ y0 = 0 → tCall E 30 [.inr (2, x0)] d (tbk E 21 18 [.inr (2, x0)] [] 0 0 K))) :
  tRun E 21 (14, [.inr (2, x0)], [.inl (0, y0)], 0, 0, d) K := tT_run (cut := [0, 7, 14, 21, 37, 46, 58, 63]) 3 _ h
theorem t_21_21 {E : mO × tW} {K : tK} {d : mD} {x0 y0 : Int}
  (h : mInR y0 ∧ (¬ y0 = 0 → tCall E 67 [.inr (6, x0 + 4), .inl (0, d x0 4)] d (tbk E 21 34 [.inr (2, x0)] [] 0 0 K)) ∧ (y0 = 0 → ((0 : Int) = 0 ∨ (0 : Int) = 1) ∧ K (.inl (some (0, 0))) d)) :
  tRun E 21 (21, [.inr (2, x0)], [.inl (0, y0)], 0, 0, d) K := tT_run (cut := [0, 7, 14, 21, 37, 46, 58, 63]) 6 _ h
theorem t_21_37 {E : mO × tW} {K : tK} {d : mD} {x0 y0 : Int}
  (h : mInR y0 ∧ (¬ y0 = 0 → tCall E 68 [.inr (6, x0 + 4), .inl (0, d x0 4)] d (tbk E 21 55 [.inr (2, x0)] [] 0 0 K)) ∧ (y0 = 0 → tCall E 32 [.inr (2, x0), .inl (0, 6)] d (tbk E 21 43 [.inr (2, x0)] [] 0 0 K))) :
  tRun E 21 (37, [.inr (2, x0)], [.inl (0, y0)], 0, 0, d) K := tT_run (cut := [0, 7, 14, 21, 37, 46, 58, 63]) 6 _ h
theorem t_21_46 {E : mO × tW} {K : tK} {d : mD} {x0 y0 : Int}
  (h : (y0 = 0 ∨ y0 = 1) ∧ K (.inl (some (0, y0))) d) :
  tRun E 21 (46, [.inr (2, x0)], [.inl (0, y0)], 0, 0, d) K := tT_run (cut := [0, 7, 14, 21, 37, 46, 58, 63]) 1 _ h
theorem t_21_58 {E : mO × tW} {K : tK} {d : mD} {x0 y0 : Int}
  (h : tCall E 31 [.inr (2, x0)] d (tbk E 21 60 [.inr (2, x0)] [] 0 0 K)) :
  tRun E 21 (58, [.inr (2, x0)], [.inl (0, y0)], 0, 0, d) K := tT_run (cut := [0, 7, 14, 21, 37, 46, 58, 63]) 3 _ h
theorem t_21_63 {E : mO × tW} {K : tK} {d : mD} {x0 y0 : Int}
  (h : (y0 = 0 ∨ y0 = 1) ∧ K (.inl (some (0, y0))) d) :
  tRun E 21 (63, [.inr (2, x0)], [.inl (0, y0)], 0, 0, d) K := tT_run (cut := [0, 7, 14, 21, 37, 46, 58, 63]) 1 _ h
theorem t_22_0 {E : mO × tW} {K : tK} {d : mD} {x0 : Int}
  (h : tCall E 52 [.inr (5, x0 + 1)] d (tbk E 22 4 [.inr (2, x0)] [] 0 0 K)) :
  tRun E 22 (0, [.inr (2, x0)], [], 0, 0, d) K := tT_run (cut := [0, 7, 11, 18, 34, 43, 55, 60]) 3 _ h
theorem t_22_7 {E : mO × tW} {K : tK} {d : mD} {x0 : Int}
  (h : tCall E 29 [.inr (2, x0)] d (tbk E 22 8 [.inr (2, x0)] [] 0 0 K)) :
  tRun E 22 (7, [.inr (2, x0)], [], 0, 0, d) K := tT_run (cut := [0, 7, 11, 18, 34, 43, 55, 60]) 2 _ h
theorem t_22_11 {E : mO × tW} {K : tK} {d : mD} {x0 y0 : Int}
  (h : mInR y0 ∧ (y0 = 0 → ((0 : Int) = 0 ∨ (0 : Int) = 1) ∧ K (.inl (some (0, 0))) d) ∧ (¬ y0 = 0 → tCall E 30 [.inr (2, x0)] d (tbk E 22 15 [.inr (2, x0)] [] 0 0 K))) :
  tRun E 22 (11, [.inr (2, x0)], [.inl (0, y0)], 0, 0, d) K := tT_run (cut := [0, 7, 11, 18, 34, 43, 55, 60]) 3 _ h
theorem t_22_18 {E : mO × tW} {K : tK} {d : mD} {x0 y0 : Int}
  (h : mInR y0 ∧ (¬ y0 = 0 → tCall E 73 [.inr (6, x0 + 4), .inl (0, d x0 6)] d (tbk E 22 31 [.inr (2, x0)] [] 0 0 K)) ∧ (y0 = 0 → ((0 : Int) = 0 ∨ (0 : Int) = 1) ∧ K (.inl (some (0, 0))) d)) :
  tRun E 22 (18, [.inr (2, x0)], [.inl (0, y0)], 0, 0, d) K := tT_run (cut := [0, 7, 11, 18, 34, 43, 55, 60]) 6 _ h
theorem t_22_34 {E : mO × tW} {K : tK} {d : mD} {x0 y0 : Int}
  (h : mInR y0 ∧ (¬ y0 = 0 → tCall E 74 [.inr (6, x0 + 4), .inl (0, d x0 6)] d (tbk E 22 52 [.inr (2, x0)] [] 0 0 K)) ∧ (y0 = 0 → tCall E 32 [.inr (2, x0), .inl (0, 6)] d (tbk E 22 40 [.inr (2, x0)] [] 0 0 K))) :
  tRun E 22 (34, [.inr (2, x0)], [.inl (0, y0)], 0, 0, d) K := tT_run (cut := [0, 7, 11, 18, 34, 43, 55, 60]) 6 _ h
theorem t_22_43 {E : mO × tW} {K : tK} {d : mD} {x0 y0 : Int}
  (h : (y0 = 0 ∨ y0 = 1) ∧ K (.inl (some (0, y0))) d) :
  tRun E 22 (43, [.inr (2, x0)], [.inl (0, y0)], 0, 0, d) K := tT_run (cut := [0, 7, 11, 18, 34, 43, 55, 60]) 1 _ h
theorem t_22_55 {E : mO × tW} {K : tK} {d : mD} {x0 y0 : Int}
  (h : tCall E 31 [.inr (2, x0)] d (tbk E 22 57 [.inr (2, x0)] [] 0 0 K)) :
  tRun E 22 (55, [.inr (2, x0)], [.inl (0, y0)], 0, 0, d) K := tT_run (cut := [0, 7, 11, 18, 34, 43, 55, 60]) 3 _ h
theorem t_22_60 {E : mO × tW} {K : tK} {d : mD} {x0 y0 : Int}
  (h : (y0 = 0 ∨ y0 = 1) ∧ K (.inl (some (0, y0))) d) :
  tRun E 22 (60, [.inr (2, x0)], [.inl (0, y0)], 0, 0, d) K := tT_run (cut := [0, 7, 11, 18, 34, 43, 55, 60]) 1 _ h
theorem t_23_0 {E : mO × tW} {K : tK} {d : mD} {x0 : Int}
  (h : tCall E 52 [.inr (5, x0 + 1)] d (tbk E 23 4 [.inr (2, x0), tu] [] 0 0 K)) :
  tRun E 23 (0, [.inr (2, x0), tu], [], 0, 0, d) K := tT_run (cut := [0, 7, 11, 25, 32, 49, 58, 71, 76]) 3 _ h
theorem t_23_7 {E : mO × tW} {K : tK} {d : mD} {x0 : Int}
  (h : tCall E 27 [.inr (2, x0)] d (tbk E 23 8 [.inr (2, x0), tu] [] 0 0 K)) :
  tRun E 23 (7, [.inr (2, x0), tu], [], 0, 0, d) K := tT_run (cut := [0, 7, 11, 25, 32, 49, 58, 71, 76]) 2 _ h
theorem t_23_11 {E : mO × tW} {K : tK} {d : mD} {x0 y0 : Int}
  (h : mInR y0 ∧ (¬ y0 = 0 → tCall E 29 [.inr (2, x0)] d (tbk E 23 22 [.inr (2, x0), .inl (0, d x0 6)] [] 0 0 K)) ∧ (y0 = 0 → ((0 : Int) = 0 ∨ (0 : Int) = 1) ∧ K (.inl (some (0, 0))) d)) :
  tRun E 23 (11, [.inr (2, x0), tu], [.inl (0, y0)], 0, 0, d) K := tT_run (cut := [0, 7, 11, 25, 32, 49, 58, 71, 76]) 6 _ h
theorem t_23_25 {E : mO × tW} {K : tK} {d : mD} {x0 x1 y0 : Int}
  (h : mInR y0 ∧ (y0 = 0 → ((0 : Int) = 0 ∨ (0 : Int) = 1) ∧ K (.inl (some (0, 0))) d) ∧ (¬ y0 = 0 → tCall E 30 [.inr (2, x0)] d (tbk E 23 29 [.inr (2, x0), .inl (0, x1)] [] 0 0 K))) :
  tRun E 23 (25, [.inr (2, x0), .inl (0, x1)], [.inl (0, y0)], 0, 0, d) K := tT_run (cut := [0, 7, 11, 25, 32, 49, 58, 71, 76]) 3 _ h
theorem t_23_32 {E : mO × tW} {K : tK} {d : mD} {x0 x1 y0 : Int}
  (h : mInR y0 ∧ (¬ y0 = 0 → tCall E 77 [.inr (6, x0 + 4), .inl (0, d x0 6), .inl (0, x1)] d (tbk E 23 46 [.inr (2, x0), .inl (0, x1)] [] 0 0 K)) ∧ (y0 = 0 → ((0 : Int) = 0 ∨ (0 : Int) = 1) ∧ K (.inl (some (0, 0))) d)) :
  tRun E 23 (32, [.inr (2, x0), .inl (0, x1)], [.inl (0, y0)], 0, 0, d) K := tT_run (cut := [0, 7, 11, 25, 32, 49, 58, 71, 76]) 7 _ h
theorem t_23_49 {E : mO × tW} {K : tK} {d : mD} {x0 x1 y0 : Int}
  (h : mInR y0 ∧ (y0 = 0 → tCall E 75 [.inr (6, x0 + 4), .inl (0, d x0 6), .inl (0, x1)] d (tbk E 23 68 [.inr (2, x0), .inl (0, x1)] [] 0 0 K)) ∧ (¬ y0 = 0 → tCall E 32 [.inr (2, x0), .inl (0, 6)] d (tbk E 23 55 [.inr (2, x0), .inl (0, x1)] [] 0 0 K))) :
  tRun E 23 (49, [.inr (2, x0), .inl (0, x1)], [.inl (0, y0)], 0, 0, d) K := tT_run (cut := [0, 7, 11, 25, 32, 49, 58, 71, 76]) 7 _ h
theorem t_23_58 {E : mO × tW} {K : tK} {d : mD} {x0 x1 y0 : Int}
  (h : (y0 = 0 ∨ y0 = 1) ∧ K (.inl (some (0, y0))) d) :
  tRun E 23 (58, [.inr (2, x0), .inl (0, x1)], [.inl (0, y0)], 0, 0, d) K := tT_run (cut := [0, 7, 11, 25, 32, 49, 58, 71, 76]) 1 _ h
theorem t_23_71 {E : mO × tW} {K : tK} {d : mD} {x0 x1 y0 : Int}
  (h : tCall E 31 [.inr (2, x0)] d (tbk E 23 73 [.inr (2, x0), .inl (0, x1)] [] 0 0 K)) :
  tRun E 23 (71, [.inr (2, x0), .inl (0, x1)], [.inl (0, y0)], 0, 0, d) K := tT_run (cut := [0, 7, 11, 25, 32, 49, 58, 71, 76]) 3 _ h
theorem t_23_76 {E : mO × tW} {K : tK} {d : mD} {x0 x1 y0 : Int}
  (h : (y0 = 0 ∨ y0 = 1) ∧ K (.inl (some (0, y0))) d) :
  tRun E 23 (76, [.inr (2, x0), .inl (0, x1)], [.inl (0, y0)], 0, 0, d) K := tT_run (cut := [0, 7, 11, 25, 32, 49, 58, 71, 76]) 1 _ h
theorem t_24_0 {E : mO × tW} {K : tK} {d : mD} {x0 x1 : Int}
  (h : tCall E 55 [.inr (5, x0 + 1), .inl (5, x1)] d (tbk E 24 5 [.inr (2, x0), .inl (5, x1)] [] 0 0 K)) :
  tRun E 24 (0, [.inr (2, x0), .inl (5, x1)], [], 0, 0, d) K := tT_run (cut := [0, 8, 16, 24]) 4 _ h
theorem t_24_8 {E : mO × tW} {K : tK} {d : mD} {x0 x1 y0 : Int}
  (h : mInR y0 ∧ (¬ y0 = 0 → tCall E 52 [.inr (5, x0 + 1)] d (tbk E 24 21 [.inr (2, x0), .inl (5, x1)] [] 0 0 K)) ∧ (y0 = 0 → tCall E 32 [.inr (2, x0), .inl (0, 1)] d (tbk E 24 13 [.inr (2, x0), .inl (5, x1)] [] 0 0 K))) :
  tRun E 24 (8, [.inr (2, x0), .inl (5, x1)], [.inl (0, y0)], 0, 0, d) K := tT_run (cut := [0, 8, 16, 24]) 4 _ h
theorem t_24_16 {E : mO × tW} {K : tK} {d : mD} {x0 x1 y0 : Int}
  (h : (y0 = 0 ∨ y0 = 1) ∧ K (.inl (some (0, y0))) d) :
  tRun E 24 (16, [.inr (2, x0), .inl (5, x1)], [.inl (0, y0)], 0, 0, d) K := tT_run (cut := [0, 8, 16, 24]) 1 _ h
theorem t_24_24 {E : mO × tW} {K : tK} {d : mD} {x0 x1 : Int}
  (h : ((1 : Int) = 0 ∨ (1 : Int) = 1) ∧ K (.inl (some (0, 1))) d) :
  tRun E 24 (24, [.inr (2, x0), .inl (5, x1)], [], 0, 0, d) K := tT_run (cut := [0, 8, 16, 24]) 2 _ h
theorem t_25_0 {E : mO × tW} {K : tK} {d : mD} {x0 x1 x2 : Int}
  (h : (mInR (d (x0 + 1) 1) ∧ mInR 1) ∧ (d (x0 + 1) 1 = 1 → (mInR (d (x0 + 1) 4) ∧ mInR x1) ∧ (d (x0 + 1) 4 < x1 → tCall E 32 [.inr (2, x0), .inl (0, 2)] d (tbk E 25 41 [.inr (2, x0), .inl (0, x1), .inl (0, x2)] [] 0 0 K)) ∧ (x1 ≤ d (x0 + 1) 4 → (mInR (d (x0 + 1) 4) ∧ mInR x2) ∧ (d (x0 + 1) 4 ≤ x2 → tCall E 52 [.inr (5, x0 + 1)] (mset d x0 4 (d (x0 + 1) 4)) (tbk E 25 60 [.inr (2, x0), .inl (0, x1), .inl (0, x2)] [] 0 0 K)) ∧ (x2 < d (x0 + 1) 4 → tCall E 32 [.inr (2, x0), .inl (0, 2)] d (tbk E 25 41 [.inr (2, x0), .inl (0, x1), .inl (0, x2)] [] 0 0 K)))) ∧ (¬ d (x0 + 1) 1 = 1 → tCall E 32 [.inr (2, x0), .inl (0, 1)] d (tbk E 25 13 [.inr (2, x0), .inl (0, x1), .inl (0, x2)] [] 0 0 K))) :
  tRun E 25 (0, [.inr (2, x0), .inl (0, x1), .inl (0, x2)], [], 0, 0, d) K := tT_run (cut := [0, 16, 44, 63]) 23 _ h
theorem t_25_16 {E : mO × tW} {K : tK} {d : mD} {x0 x1 x2 y0 : Int}
  (h : (y0 = 0 ∨ y0 = 1) ∧ K (.inl (some (0, y0))) d) :
  tRun E 25 (16, [.inr (2, x0), .inl (0, x1), .inl (0, x2)], [.inl (0, y0)], 0, 0, d) K := tT_run (cut := [0, 16, 44, 63]) 1 _ h
theorem t_25_44 {E : mO × tW} {K : tK} {d : mD} {x0 x1 x2 y0 : Int}
  (h : (y0 = 0 ∨ y0 = 1) ∧ K (.inl (some (0, y0))) d) :
  tRun E 25 (44, [.inr (2, x0), .inl (0, x1), .inl (0, x2)], [.inl (0, y0)], 0, 0, d) K := tT_run (cut := [0, 16, 44, 63]) 1 _ h
theorem t_25_63 {E : mO × tW} {K : tK} {d : mD} {x0 x1 x2 : Int}
  (h : ((1 : Int) = 0 ∨ (1 : Int) = 1) ∧ K (.inl (some (0, 1))) d) :
  tRun E 25 (63, [.inr (2, x0), .inl (0, x1), .inl (0, x2)], [], 0, 0, d) K := tT_run (cut := [0, 16, 44, 63]) 2 _ h
theorem t_26_0 {E : mO × tW} {K : tK} {d : mD} {x0 : Int}
  (h : tCall E 56 [.inr (5, x0 + 1)] d (tbk E 26 5 [.inr (2, x0)] [.inr (2, x0)] 0 0 K)) :
  tRun E 26 (0, [.inr (2, x0)], [], 0, 0, d) K := tT_run (cut := [0, 8, 24, 32]) 4 _ h
theorem t_26_8 {E : mO × tW} {K : tK} {d : mD} {x0 y0 y1 : Int}
  (h : (mInR ((mset d y0 5 y1) x0 5) ∧ mInR ((-1))) ∧ (¬ (mset d y0 5 y1) x0 5 = (-1) → tCall E 52 [.inr (5, x0 + 1)] (mset d y0 5 y1) (tbk E 26 29 [.inr (2, x0)] [] 0 0 K)) ∧ ((mset d y0 5 y1) x0 5 = (-1) → tCall E 32 [.inr (2, x0), .inl (0, 1)] (mset d y0 5 y1) (tbk E 26 21 [.inr (2, x0)] [] 0 0 K))) :
  tRun E 26 (8, [.inr (2, x0)], [.inl (0, y1), .inr (2, y0)], 0, 0, d) K := tT_run (cut := [0, 8, 24, 32]) 8 _ h
theorem t_26_24 {E : mO × tW} {K : tK} {d : mD} {x0 y0 : Int}
  (h : (y0 = 0 ∨ y0 = 1) ∧ K (.inl (some (0, y0))) d) :
  tRun E 26 (24, [.inr (2, x0)], [.inl (0, y0)], 0, 0, d) K := tT_run (cut := [0, 8, 24, 32]) 1 _ h
theorem t_26_32 {E : mO × tW} {K : tK} {d : mD} {x0 : Int}
  (h : ((1 : Int) = 0 ∨ (1 : Int) = 1) ∧ K (.inl (some (0, 1))) d) :
  tRun E 26 (32, [.inr (2, x0)], [], 0, 0, d) K := tT_run (cut := [0, 8, 24, 32]) 2 _ h
theorem t_27_0 {E : mO × tW} {K : tK} {d : mD} {x0 : Int}
  (h : tCall E 56 [.inr (5, x0 + 1)] d (tbk E 27 12 [.inr (2, x0)] [.inr (4, x0 + 4 + 10), .inr (2, x0)] 0 0 K)) :
  tRun E 27 (0, [.inr (2, x0)], [], 0, 0, d) K := tT_run (cut := [0, 15, 18, 28, 45, 50]) 7 _ h
theorem t_27_15 {E : mO × tW} {K : tK} {d : mD} {x0 y0 y1 y2 : Int}
  (h : tCall E 48 [.inr (4, y1), .inl (0, y2)] d (tbk E 27 15 [.inr (2, x0)] [.inr (2, y0)] 0 0 K)) :
  tRun E 27 (15, [.inr (2, x0)], [.inl (0, y2), .inr (4, y1), .inr (2, y0)], 0, 0, d) K := tT_run (cut := [0, 15, 18, 28, 45, 50]) 1 _ h
theorem t_27_18 {E : mO × tW} {K : tK} {d : mD} {x0 y0 y1 : Int}
  (h : tCall E 56 [.inr (5, x0 + 1)] (mset d y0 6 y1) (tbk E 27 25 [.inr (2, x0)] [] 0 0 K)) :
  tRun E 27 (18, [.inr (2, x0)], [.inl (0, y1), .inr (2, y0)], 0, 0, d) K := tT_run (cut := [0, 15, 18, 28, 45, 50]) 4 _ h
theorem t_27_28 {E : mO × tW} {K : tK} {d : mD} {x0 y0 : Int}
  (h : (mInR y0 ∧ mInR ((-1))) ∧ (y0 = (-1) → tCall E 26 [.inr (2, x0)] d (tbk E 27 47 [.inr (2, x0)] [] 0 0 K)) ∧ (¬ y0 = (-1) → (mInR (d x0 6) ∧ mInR ((-1))) ∧ (¬ d x0 6 = (-1) → tCall E 26 [.inr (2, x0)] d (tbk E 27 47 [.inr (2, x0)] [] 0 0 K)) ∧ (d x0 6 = (-1) → tCall E 32 [.inr (2, x0), .inl (0, 4)] d (tbk E 27 42 [.inr (2, x0)] [] 0 0 K)))) :
  tRun E 27 (28, [.inr (2, x0)], [.inl (0, y0)], 0, 0, d) K := tT_run (cut := [0, 15, 18, 28, 45, 50]) 9 _ h
theorem t_27_45 {E : mO × tW} {K : tK} {d : mD} {x0 y0 : Int}
  (h : (y0 = 0 ∨ y0 = 1) ∧ K (.inl (some (0, y0))) d) :
  tRun E 27 (45, [.inr (2, x0)], [.inl (0, y0)], 0, 0, d) K := tT_run (cut := [0, 15, 18, 28, 45, 50]) 1 _ h
theorem t_27_50 {E : mO × tW} {K : tK} {d : mD} {x0 y0 : Int}
  (h : (y0 = 0 ∨ y0 = 1) ∧ K (.inl (some (0, y0))) d) :
  tRun E 27 (50, [.inr (2, x0)], [.inl (0, y0)], 0, 0, d) K := tT_run (cut := [0, 15, 18, 28, 45, 50]) 1 _ h
theorem t_28_0 {E : mO × tW} {K : tK} {d : mD} {x0 : Int}
  (h : tCall E 56 [.inr (5, x0 + 1)] d (tbk E 28 12 [.inr (2, x0)] [.inr (3, x0 + 4 + 2), .inr (2, x0)] 0 0 K)) :
  tRun E 28 (0, [.inr (2, x0)], [], 0, 0, d) K := tT_run (cut := [0, 15, 18, 28, 45, 50]) 7 _ h
theorem t_28_15 {E : mO × tW} {K : tK} {d : mD} {x0 y0 y1 y2 : Int}
  (h : tCall E 36 [.inr (3, y1), .inl (0, y2)] d (tbk E 28 15 [.inr (2, x0)] [.inr (2, y0)] 0 0 K)) :
  tRun E 28 (15, [.inr (2, x0)], [.inl (0, y2), .inr (3, y1), .inr (2, y0)], 0, 0, d) K := tT_run (cut := [0, 15, 18, 28, 45, 50]) 1 _ h
theorem t_28_18 {E : mO × tW} {K : tK} {d : mD} {x0 y0 y1 : Int}
  (h : tCall E 56 [.inr (5, x0 + 1)] (mset d y0 6 y1) (tbk E 28 25 [.inr (2, x0)] [] 0 0 K)) :
  tRun E 28 (18, [.inr (2, x0)], [.inl (0, y1), .inr (2, y0)], 0, 0, d) K := tT_run (cut := [0, 15, 18, 28, 45, 50]) 4 _ h
theorem t_28_28 {E : mO × tW} {K : tK} {d : mD} {x0 y0 : Int}
  (h : (mInR y0 ∧ mInR ((-1))) ∧ (y0 = (-1) → tCall E 26 [.inr (2, x0)] d (tbk E 28 47 [.inr (2, x0)] [] 0 0 K)) ∧ (¬ y0 = (-1) → (mInR (d x0 6) ∧ mInR ((-1))) ∧ (¬ d x0 6 = (-1) → tCall E 26 [.inr (2, x0)] d (tbk E 28 47 [.inr (2, x0)] [] 0 0 K)) ∧ (d x0 6 = (-1) → tCall E 32 [.inr (2, x0), .inl (0, 4)] d (tbk E 28 42 [.inr (2, x0)] [] 0 0 K)))) :
  tRun E 28 (28, [.inr (2, x0)], [.inl (0, y0)], 0, 0, d) K := tT_run (cut := [0, 15, 18, 28, 45, 50]) 9 _ h
theorem t_28_45 {E : mO × tW} {K : tK} {d : mD} {x0 y0 : Int}
  (h : (y0 = 0 ∨ y0 = 1) ∧ K (.inl (some (0, y0))) d) :
  tRun E 28 (45, [.inr (2, x0)], [.inl (0, y0)], 0, 0, d) K := tT_run (cut := [0, 15, 18, 28, 45, 50]) 1 _ h
theorem t_28_50 {E : mO × tW} {K : tK} {d : mD} {x0 y0 : Int}
  (h : (y0 = 0 ∨ y0 = 1) ∧ K (.inl (some (0, y0))) d) :
  tRun E 28 (50, [.inr (2, x0)], [.inl (0, y0)], 0, 0, d) K := tT_run (cut := [0, 15, 18, 28, 45, 50]) 1 _ h
theorem t_29_0 {E : mO × tW} {K : tK} {d : mD} {x0 : Int}
  (h : tCall E 56 [.inr (5, x0 + 1)] d (tbk E 29 11 [.inr (2, x0), tu] [.inr (4, x0 + 4 + 10)] 0 0 K)) :
  tRun E 29 (0, [.inr (2, x0), tu], [], 0, 0, d) K := tT_run (cut := [0, 14, 17, 39, 49, 66, 71]) 6 _ h
theorem t_29_14 {E : mO × tW} {K : tK} {d : mD} {x0 y0 y1 : Int}
  (h : tCall E 48 [.inr (4, y0), .inl (0, y1)] d (tbk E 29 14 [.inr (2, x0), tu] [] 0 0 K)) :
  tRun E 29 (14, [.inr (2, x0), tu], [.inl (0, y1), .inr (4, y0)], 0, 0, d) K := tT_run (cut := [0, 14, 17, 39, 49, 66, 71]) 1 _ h
theorem t_29_17 {E : mO × tW} {K : tK} {d : mD} {x0 y0 : Int}
  (h : (mInR y0 ∧ mInR ((-1))) ∧ (¬ y0 = (-1) → tCall E 100 [.inr (8, x0 + 4 + 49), .inl (0, y0)] d (tbk E 29 36 [.inr (2, x0), .inl (0, y0)] [.inr (2, x0)] 0 0 K)) ∧ (y0 = (-1) → tRun E 29 (39, [.inr (2, x0), .inl (0, y0)], [.inl (0, (-1)), .inr (2, x0)], 0, 0, d) K)) :
  tRun E 29 (17, [.inr (2, x0), tu], [.inl (0, y0)], 0, 0, d) K := tT_run (cut := [0, 14, 17, 39, 49, 66, 71]) 10 _ h
theorem t_29_39 {E : mO × tW} {K : tK} {d : mD} {x0 x1 y0 y1 : Int}
  (h : tCall E 56 [.inr (5, x0 + 1)] (mset d y0 6 y1) (tbk E 29 46 [.inr (2, x0), .inl (0, x1)] [] 0 0 K)) :
  tRun E 29 (39, [.inr (2, x0), .inl (0, x1)], [.inl (0, y1), .inr (2, y0)], 0, 0, d) K := tT_run (cut := [0, 14, 17, 39, 49, 66, 71]) 4 _ h
theorem t_29_49 {E : mO × tW} {K : tK} {d : mD} {x0 x1 y0 : Int}
  (h : (mInR y0 ∧ mInR ((-1))) ∧ (y0 = (-1) → tCall E 26 [.inr (2, x0)] d (tbk E 29 68 [.inr (2, x0), .inl (0, x1)] [] 0 0 K)) ∧ (¬ y0 = (-1) → (mInR (d x0 6) ∧ mInR ((-1))) ∧ (¬ d x0 6 = (-1) → tCall E 26 [.inr (2, x0)] d (tbk E 29 68 [.inr (2, x0), .inl (0, x1)] [] 0 0 K)) ∧ (d x0 6 = (-1) → tCall E 32 [.inr (2, x0), .inl (0, 4)] d (tbk E 29 63 [.inr (2, x0), .inl (0, x1)] [] 0 0 K)))) :
  tRun E 29 (49, [.inr (2, x0), .inl (0, x1)], [.inl (0, y0)], 0, 0, d) K := tT_run (cut := [0, 14, 17, 39, 49, 66, 71]) 9 _ h
theorem t_29_66 {E : mO × tW} {K : tK} {d : mD} {x0 x1 y0 : Int}
  (h : (y0 = 0 ∨ y0 = 1) ∧ K (.inl (some (0, y0))) d) :
  tRun E 29 (66, [.inr (2, x0), .inl (0, x1)], [.inl (0, y0)], 0, 0, d) K := tT_run (cut := [0, 14, 17, 39, 49, 66, 71]) 1 _ h
theorem t_29_71 {E : mO × tW} {K : tK} {d : mD} {x0 x1 y0 : Int}
  (h : (y0 = 0 ∨ y0 = 1) ∧ K (.inl (some (0, y0))) d) :
  tRun E 29 (71, [.inr (2, x0), .inl (0, x1)], [.inl (0, y0)], 0, 0, d) K := tT_run (cut := [0, 14, 17, 39, 49, 66, 71]) 1 _ h
theorem t_30_0 {E : mO × tW} {K : tK} {d : mD} {x0 : Int}
  (h : (mInR (d (x0 + 1) 1) ∧ mInR 2) ∧ (d (x0 + 1) 1 = 2 → ((1 : Int) = 0 ∨ (1 : Int) = 1) ∧ K (.inl (some (0, 1))) d) ∧ (¬ d (x0 + 1) 1 = 2 → tCall E 32 [.inr (2, x0), .inl (0, 1)] d (tbk E 30 13 [.inr (2, x0)] [] 0 0 K))) :
  tRun E 30 (0, [.inr (2, x0)], [], 0, 0, d) K := tT_run (cut := [0, 16]) 8 _ h
theorem t_30_16 {E : mO × tW} {K : tK} {d : mD} {x0 y0 : Int}
  (h : mInR y0 ∧ (y0 = 0 → ((0 : Int) = 0 ∨ (0 : Int) = 1) ∧ K (.inl (some (0, 0))) d) ∧ (¬ y0 = 0 → ((1 : Int) = 0 ∨ (1 : Int) = 1) ∧ K (.inl (some (0, 1))) d)) :
  tRun E 30 (16, [.inr (2, x0)], [.inl (0, y0)], 0, 0, d) K := tT_run (cut := [0, 16]) 4 _ h
theorem t_31_0 {E : mO × tW} {K : tK} {d : mD} {x0 : Int}
  (h : tCall E 30 [.inr (2, x0)] d (tbk E 31 1 [.inr (2, x0)] [] 0 0 K)) :
  tRun E 31 (0, [.inr (2, x0)], [], 0, 0, d) K := tT_run (cut := [0, 4, 16]) 2 _ h
theorem t_31_4 {E : mO × tW} {K : tK} {d : mD} {x0 y0 : Int}
  (h : mInR y0 ∧ (¬ y0 = 0 → tCall E 52 [.inr (5, x0 + 1)] d (tbk E 31 13 [.inr (2, x0)] [] 0 0 K)) ∧ (y0 = 0 → ((0 : Int) = 0 ∨ (0 : Int) = 1) ∧ K (.inl (some (0, 0))) d)) :
  tRun E 31 (4, [.inr (2, x0)], [.inl (0, y0)], 0, 0, d) K := tT_run (cut := [0, 4, 16]) 4 _ h
theorem t_31_16 {E : mO × tW} {K : tK} {d : mD} {x0 : Int}
  (h : ((1 : Int) = 0 ∨ (1 : Int) = 1) ∧ K (.inl (some (0, 1))) d) :
  tRun E 31 (16, [.inr (2, x0)], [], 0, 0, d) K := tT_run (cut := [0, 4, 16]) 2 _ h
theorem t_32_0 {E : mO × tW} {K : tK} {d : mD} {x0 x1 : Int}
  (h : ((0 : Int) = 0 ∨ (0 : Int) = 1) ∧ K (.inl (some (0, 0))) (mset (mset d x0 2 x1) x0 3 ((mset d x0 2 x1) (x0 + 1) 2))) :
  tRun E 32 (0, [.inr (2, x0), .inl (0, x1)], [], 0, 0, d) K := tT_run (cut := [0]) 10 _ h
theorem t_34_0 {E : mO × tW} {K : tK} {d : mD} {x0 x1 : Int}
  (h : (0 ≤ (0 : Int) ∧ 0 ≤ (0 : Int) ∧ 0 ≤ (6 : Int) ∧ (0 : Int) + (6 : Int) ≤ 6 ∧ (0 : Int) + (6 : Int) ≤ 6) ∧ tRun E 34 (23, [.inr (3, x0), .inr (3, x1), tu], [], 0, 0, mcopy (mset d x0 0 (d x1 0)) (x1 + 1) 0 (x0 + 1) 0 6) K) :
  tRun E 34 (0, [.inr (3, x0), .inr (3, x1), tu], [], 0, 0, d) K := tT_run (cut := [0, 23, 38, 53, 68, 83, 98, 100]) 12 _ h
theorem t_34_23 {E : mO × tW} {K : tK} {d : mD} {x0 x1 : Int}
  (h : (0 ≤ (0 : Int) ∧ 0 ≤ (0 : Int) ∧ 0 ≤ (6 : Int) ∧ (0 : Int) + (6 : Int) ≤ 6 ∧ (0 : Int) + (6 : Int) ≤ 6) ∧ tRun E 34 (38, [.inr (3, x0), .inr (3, x1), tu], [], 0, 0, mcopy d (x1 + 2) 0 (x0 + 2) 0 6) K) :
  tRun E 34 (23, [.inr (3, x0), .inr (3, x1), tu], [], 0, 0, d) K := tT_run (cut := [0, 23, 38, 53, 68, 83, 98, 100]) 8 _ h
theorem t_34_38 {E : mO × tW} {K : tK} {d : mD} {x0 x1 : Int}
  (h : (0 ≤ (0 : Int) ∧ 0 ≤ (0 : Int) ∧ 0 ≤ (6 : Int) ∧ (0 : Int) + (6 : Int) ≤ 6 ∧ (0 : Int) + (6 : Int) ≤ 6) ∧ tRun E 34 (53, [.inr (3, x0), .inr (3, x1), tu], [], 0, 0, mcopy d (x1 + 3) 0 (x0 + 3) 0 6) K) :
  tRun E 34 (38, [.inr (3, x0), .inr (3, x1), tu], [], 0, 0, d) K := tT_run (cut := [0, 23, 38, 53, 68, 83, 98, 100]) 8 _ h
theorem t_34_53 {E : mO × tW} {K : tK} {d : mD} {x0 x1 : Int}
  (h : (0 ≤ (0 : Int) ∧ 0 ≤ (0 : Int) ∧ 0 ≤ (6 : Int) ∧ (0 : Int) + (6 : Int) ≤ 6 ∧ (0 : Int) + (6 : Int) ≤ 6) ∧ tRun E 34 (68, [.inr (3, x0), .inr (3, x1), tu], [], 0, 0, mcopy d (x1 + 4) 0 (x0 + 4) 0 6) K) :
  tRun E 34 (53, [.inr (3, x0), .inr (3, x1), tu], [], 0, 0, d) K := tT_run (cut := [0, 23, 38, 53, 68, 83, 98, 100]) 8 _ h
theorem t_34_68 {E : mO × tW} {K : tK} {d : mD} {x0 x1 : Int}
  (h : (0 ≤ (0 : Int) ∧ 0 ≤ (0 : Int) ∧ 0 ≤ (6 : Int) ∧ (0 : Int) + (6 : Int) ≤ 6 ∧ (0 : Int) + (6 : Int) ≤ 6) ∧ tRun E 34 (83, [.inr (3, x0), .inr (3, x1), tu], [], 0, 0, mcopy d (x1 + 6) 0 (x0 + 6) 0 6) K) :
  tRun E 34 (68, [.inr (3, x0), .inr (3, x1), tu], [], 0, 0, d) K := tT_run (cut := [0, 23, 38, 53, 68, 83, 98, 100]) 8 _ h
theorem t_34_83 {E : mO × tW} {K : tK} {d : mD} {x0 x1 : Int}
  (h : (0 ≤ (0 : Int) ∧ 0 ≤ (0 : Int) ∧ 0 ≤ (96 : Int) ∧ (0 : Int) + (96 : Int) ≤ 96 ∧ (0 : Int) + (96 : Int) ≤ 96) ∧ tRun E 34 (98, [.inr (3, x0), .inr (3, x1), tu], [], 0, 0, mcopy d (x1 + 7) 0 (x0 + 7) 0 96) K) :
  tRun E 34 (83, [.inr (3, x0), .inr (3, x1), tu], [], 0, 0, d) K := tT_run (cut := [0, 23, 38, 53, 68, 83, 98, 100]) 8 _ h
theorem t_34_98 {E : mO × tW} {K : tK} {d : mD} {x0 x1 : Int}
  (h : tRun E 34 (100, [.inr (3, x0), .inr (3, x1), .inl (0, 0)], [], 0, 0, d) K) :
  tRun E 34 (98, [.inr (3, x0), .inr (3, x1), tu], [], 0, 0, d) K := tT_run (cut := [0, 23, 38, 53, 68, 83, 98, 100]) 2 _ h
theorem t_34_100 {E : mO × tW} {K : tK} {d : mD} {x0 x1 x2 : Int}
  (h : (mInR x2 ∧ mInR 6) ∧ (6 ≤ x2 → K (.inl none) d) ∧ (x2 < 6 → (0 ≤ x2 ∧ x2 < 6) ∧ ((d (x1 + 5) x2 = 0 ∨ d (x1 + 5) x2 = 1) ∧ 0 ≤ x2 ∧ x2 < 6) ∧ tRun E 34 (100, [.inr (3, x0), .inr (3, x1), .inl (0, x2 + 1)], [], 0, 0, mset d (x0 + 5) x2 (d (x1 + 5) x2)) K)) :
  tRun E 34 (100, [.inr (3, x0), .inr (3, x1), .inl (0, x2)], [], 0, 0, d) K := tT_run (cut := [0, 23, 38, 53, 68, 83, 98, 100]) 13 _ h
theorem t_35_0 {E : mO × tW} {K : tK} {d : mD} {x0 x1 x2 x3 x4 : Int}
  (h : (mInR (d x0 0) ∧ mInR 6) ∧ (d x0 0 < 6 → (0 ≤ d x0 0 ∧ d x0 0 < 6) ∧ tRun E 35 (20, [.inr (3, x0), .inl (0, x1), .inl (0, x2), .inl (0, x3), .inl (0, x4)], [], 0, 0, mset d (x0 + 1) (d x0 0) x1) K) ∧ (6 ≤ d x0 0 → K (.inl none) d)) :
  tRun E 35 (0, [.inr (3, x0), .inl (0, x1), .inl (0, x2), .inl (0, x3), .inl (0, x4)], [], 0, 0, d) K := tT_run (cut := [0, 20, 30, 40, 51, 61, 71]) 10 _ h
theorem t_35_20 {E : mO × tW} {K : tK} {d : mD} {x0 x1 x2 x3 x4 : Int}
  (h : (0 ≤ d x0 0 ∧ d x0 0 < 6) ∧ tRun E 35 (30, [.inr (3, x0), .inl (0, x1), .inl (0, x2), .inl (0, x3), .inl (0, x4)], [], 0, 0, mset d (x0 + 2) (d x0 0) x2) K) :
  tRun E 35 (20, [.inr (3, x0), .inl (0, x1), .inl (0, x2), .inl (0, x3), .inl (0, x4)], [], 0, 0, d) K := tT_run (cut := [0, 20, 30, 40, 51, 61, 71]) 6 _ h
theorem t_35_30 {E : mO × tW} {K : tK} {d : mD} {x0 x1 x2 x3 x4 : Int}
  (h : (0 ≤ d x0 0 ∧ d x0 0 < 6) ∧ tRun E 35 (40, [.inr (3, x0), .inl (0, x1), .inl (0, x2), .inl (0, x3), .inl (0, x4)], [], 0, 0, mset d (x0 + 3) (d x0 0) x3) K) :
  tRun E 35 (30, [.inr (3, x0), .inl (0, x1), .inl (0, x2), .inl (0, x3), .inl (0, x4)], [], 0, 0, d) K := tT_run (cut := [0, 20, 30, 40, 51, 61, 71]) 6 _ h
theorem t_35_40 {E : mO × tW} {K : tK} {d : mD} {x0 x1 x2 x3 x4 : Int}
  (h : (0 ≤ d x0 0 ∧ d x0 0 < 6) ∧ tRun E 35 (51, [.inr (3, x0), .inl (0, x1), .inl (0, x2), .inl (0, x3), .inl (0, x4)], [], 0, 0, mset d (x0 + 4) (d x0 0) x4) K) :
  tRun E 35 (40, [.inr (3, x0), .inl (0, x1), .inl (0, x2), .inl (0, x3), .inl (0, x4)], [], 0, 0, d) K := tT_run (cut := [0, 20, 30, 40, 51, 61, 71]) 6 _ h
theorem t_35_51 {E : mO × tW} {K : tK} {d : mD} {x0 x1 x2 x3 x4 : Int}
  (h : (((1 : Int) = 0 ∨ (1 : Int) = 1) ∧ 0 ≤ d x0 0 ∧ d x0 0 < 6) ∧ tRun E 35 (61, [.inr (3, x0), .inl (0, x1), .inl (0, x2), .inl (0, x3), .inl (0, x4)], [], 0, 0, mset d (x0 + 5) (d x0 0) 1) K) :
  tRun E 35 (51, [.inr (3, x0), .inl (0, x1), .inl (0, x2), .inl (0, x3), .inl (0, x4)], [], 0, 0, d) K := tT_run (cut := [0, 20, 30, 40, 51, 61, 71]) 6 _ h
theorem t_35_61 {E : mO × tW} {K : tK} {d : mD} {x0 x1 x2 x3 x4 : Int}
  (h : (0 ≤ d x0 0 ∧ d x0 0 < 6) ∧ tRun E 35 (71, [.inr (3, x0), .inl (0, x1), .inl (0, x2), .inl (0, x3), .inl (0, x4)], [], 0, 0, mset d (x0 + 6) (d x0 0) 0) K) :
  tRun E 35 (61, [.inr (3, x0), .inl (0, x1), .inl (0, x2), .inl (0, x3), .inl (0, x4)], [], 0, 0, d) K := tT_run (cut := [0, 20, 30, 40, 51, 61, 71]) 6 _ h
theorem t_35_71 {E : mO × tW} {K : tK} {d : mD} {x0 x1 x2 x3 x4 : Int}
  (h : K (.inl none) (mset d x0 0 ((d x0 0) + 1))) :
  tRun E 35 (71, [.inr (3, x0), .inl (0, x1), .inl (0, x2), .inl (0, x3), .inl (0, x4)], [], 0, 0, d) K := tT_run (cut := [0, 20, 30, 40, 51, 61, 71]) 7 _ h
theorem t_36_0 {E : mO × tW} {K : tK} {d : mD} {x0 x1 : Int}
  (h : tRun E 36 (2, [.inr (3, x0), .inl (0, x1), .inl (0, 0)], [], 0, 0, d) K) :
  tRun E 36 (0, [.inr (3, x0), .inl (0, x1), tu], [], 0, 0, d) K := tT_run (cut := [0, 2]) 2 _ h
theorem t_36_2 {E : mO × tW} {K : tK} {d : mD} {x0 x1 x2 : Int}
  (h : (mInR x2 ∧ mInR (d x0 0)) ∧ (d x0 0 ≤ x2 → K (.inl (some (0, (-1)))) d) ∧ (x2 < d x0 0 → (0 ≤ x2 ∧ x2 < 6) ∧ (mInR (d (x0 + 1) x2) ∧ mInR x1) ∧ (¬ d (x0 + 1) x2 = x1 → tRun E 36 (2, [.inr (3, x0), .inl (0, x1), .inl (0, x2 + 1)], [], 0, 0, d) K) ∧ (d (x0 + 1) x2 = x1 → K (.inl (some (0, x2))) d))) :
  tRun E 36 (2, [.inr (3, x0), .inl (0, x1), .inl (0, x2)], [], 0, 0, d) K := tT_run (cut := [0, 2]) 12 _ h
theorem t_37_0 {E : mO × tW} {K : tK} {d : mD} {x0 : Int}
  (h : tRun E 37 (4, [.inr (3, x0), .inl (0, 0), .inl (0, 0)], [], 0, 0, d) K) :
  tRun E 37 (0, [.inr (3, x0), tu, tu], [], 0, 0, d) K := tT_run (cut := [0, 4]) 4 _ h
theorem t_37_4 {E : mO × tW} {K : tK} {d : mD} {x0 x1 x2 : Int}
  (h : (mInR x2 ∧ mInR (d x0 0)) ∧ (d x0 0 ≤ x2 → K (.inl (some (0, x1))) d) ∧ (x2 < d x0 0 → (0 ≤ x2 ∧ x2 < 6) ∧ mInR (d (x0 + 5) x2) ∧ (d (x0 + 5) x2 = 0 → tRun E 37 (4, [.inr (3, x0), .inl (0, x1 + 0), .inl (0, x2 + 1)], [], 0, 0, d) K) ∧ (¬ d (x0 + 5) x2 = 0 → tRun E 37 (4, [.inr (3, x0), .inl (0, x1 + 1), .inl (0, x2 + 1)], [], 0, 0, d) K))) :
  tRun E 37 (4, [.inr (3, x0), .inl (0, x1), .inl (0, x2)], [], 0, 0, d) K := tT_run (cut := [0, 4]) 16 _ h
theorem t_38_0 {E : mO × tW} {K : tK} {d : mD} {x0 x1 x2 : Int}
  (h : (0 ≤ (x1 * 16) + x2 ∧ (x1 * 16) + x2 < 96) ∧ K (.inl (some (0, d (x0 + 7) ((x1 * 16) + x2)))) d) :
  tRun E 38 (0, [.inr (3, x0), .inl (0, x1), .inl (0, x2)], [], 0, 0, d) K := tT_run (cut := [0]) 9 _ h
theorem t_39_0 {E : mO × tW} {K : tK} {d : mD} {x0 x1 x2 : Int}
  (h : tRun E 39 (2, [.inr (3, x0), .inl (0, x1), .inl (0, x2), .inl (0, 0)], [], 0, 0, d) K) :
  tRun E 39 (0, [.inr (3, x0), .inl (0, x1), .inl (0, x2), tu], [], 0, 0, d) K := tT_run (cut := [0, 2, 18]) 2 _ h
theorem t_39_2 {E : mO × tW} {K : tK} {d : mD} {x0 x1 x2 x3 : Int}
  (h : (0 ≤ x1 ∧ x1 < 6) ∧ (mInR x3 ∧ mInR (d (x0 + 6) x1)) ∧ (d (x0 + 6) x1 ≤ x3 → K (.inl (some (0, (-1)))) d) ∧ (x3 < d (x0 + 6) x1 → tCall E 38 [.inr (3, x0), .inl (0, x1), .inl (0, x3)] d (tbk E 39 15 [.inr (3, x0), .inl (0, x1), .inl (0, x2), .inl (0, x3)] [] 0 0 K))) :
  tRun E 39 (2, [.inr (3, x0), .inl (0, x1), .inl (0, x2), .inl (0, x3)], [], 0, 0, d) K := tT_run (cut := [0, 2, 18]) 10 _ h
theorem t_39_18 {E : mO × tW} {K : tK} {d : mD} {x0 x1 x2 x3 y0 : Int}
  (h : (mInR y0 ∧ mInR x2) ∧ (¬ y0 = x2 → tRun E 39 (2, [.inr (3, x0), .inl (0, x1), .inl (0, x2), .inl (0, x3 + 1)], [], 0, 0, d) K) ∧ (y0 = x2 → K (.inl (some (0, x3))) d)) :
  tRun E 39 (18, [.inr (3, x0), .inl (0, x1), .inl (0, x2), .inl (0, x3)], [.inl (0, y0)], 0, 0, d) K := tT_run (cut := [0, 2, 18]) 4 _ h
theorem t_40_0 {E : mO × tW} {K : tK} {d : mD} {x0 x1 x2 x3 : Int}
  (h : mInR x2 ∧ (x2 < 0 → K (.inl none) d) ∧ (0 ≤ x2 → (0 ≤ x1 ∧ x1 < 6) ∧ (mInR x2 ∧ mInR (d (x0 + 6) x1)) ∧ (d (x0 + 6) x1 < x2 → K (.inl none) d) ∧ (x2 ≤ d (x0 + 6) x1 → (0 ≤ x1 ∧ x1 < 6) ∧ (mInR (d (x0 + 6) x1) ∧ mInR 16) ∧ (d (x0 + 6) x1 < 16 → (0 ≤ x1 ∧ x1 < 6) ∧ tRun E 40 (40, [.inr (3, x0), .inl (0, x1), .inl (0, x2), .inl (0, x3), .inl (0, x1 * 16), .inl (0, d (x0 + 6) x1)], [], 0, 0, d) K) ∧ (16 ≤ d (x0 + 6) x1 → K (.inl none) d)))) :
  tRun E 40 (0, [.inr (3, x0), .inl (0, x1), .inl (0, x2), .inl (0, x3), tu, tu], [], 0, 0, d) K := tT_run (cut := [0, 40]) 23 _ h
theorem t_40_40 {E : mO × tW} {K : tK} {d : mD} {x0 x1 x2 x3 x4 x5 : Int}
  (h : (mInR x5 ∧ mInR x2) ∧ (x5 ≤ x2 → (0 ≤ x4 + x2 ∧ x4 + x2 < 96) ∧ (0 ≤ x1 ∧ x1 < 6) ∧ (0 ≤ x1 ∧ x1 < 6) ∧ K (.inl none) (mset (mset d (x0 + 7) (x4 + x2) x3) (x0 + 6) x1 (((mset d (x0 + 7) (x4 + x2) x3) (x0 + 6) x1) + 1))) ∧ (x2 < x5 → (0 ≤ (x4 + x5) - 1 ∧ (x4 + x5) - 1 < 96) ∧ (0 ≤ x4 + x5 ∧ x4 + x5 < 96) ∧ tRun E 40 (40, [.inr (3, x0), .inl (0, x1), .inl (0, x2), .inl (0, x3), .inl (0, x4), .inl (0, x5 + (-1))], [], 0, 0, mset d (x0 + 7) (x4 + x5) (d (x0 + 7) ((x4 + x5) - 1))) K)) :
  tRun E 40 (40, [.inr (3, x0), .inl (0, x1), .inl (0, x2), .inl (0, x3), .inl (0, x4), .inl (0, x5)], [], 0, 0, d) K := tT_run (cut := [0, 40]) 19 _ h
theorem t_41_0 {E : mO × tW} {K : tK} {d : mD} {x0 x1 x2 : Int}
  (h : mInR x2 ∧ (x2 < 0 → K (.inl none) d) ∧ (0 ≤ x2 → (0 ≤ x1 ∧ x1 < 6) ∧ (mInR x2 ∧ mInR (d (x0 + 6) x1)) ∧ (x2 < d (x0 + 6) x1 → tRun E 41 (25, [.inr (3, x0), .inl (0, x1), .inl (0, x2), .inl (0, x1 * 16), .inl (0, x2 + 1)], [], 0, 0, d) K) ∧ (d (x0 + 6) x1 ≤ x2 → K (.inl none) d))) :
  tRun E 41 (0, [.inr (3, x0), .inl (0, x1), .inl (0, x2), tu, tu], [], 0, 0, d) K := tT_run (cut := [0, 25]) 16 _ h
theorem t_41_25 {E : mO × tW} {K : tK} {d : mD} {x0 x1 x2 x3 x4 : Int}
  (h : (0 ≤ x1 ∧ x1 < 6) ∧ (mInR x4 ∧ mInR (d (x0 + 6) x1)) ∧ (d (x0 + 6) x1 ≤ x4 → (0 ≤ x1 ∧ x1 < 6) ∧ (0 ≤ x1 ∧ x1 < 6) ∧ K (.inl none) (mset d (x0 + 6) x1 ((d (x0 + 6) x1) - 1))) ∧ (x4 < d (x0 + 6) x1 → (0 ≤ x3 + x4 ∧ x3 + x4 < 96) ∧ (0 ≤ (x3 + x4) - 1 ∧ (x3 + x4) - 1 < 96) ∧ tRun E 41 (25, [.inr (3, x0), .inl (0, x1), .inl (0, x2), .inl (0, x3), .inl (0, x4 + 1)], [], 0, 0, mset d (x0 + 7) ((x3 + x4) - 1) (d (x0 + 7) (x3 + x4))) K)) :
  tRun E 41 (25, [.inr (3, x0), .inl (0, x1), .inl (0, x2), .inl (0, x3), .inl (0, x4)], [], 0, 0, d) K := tT_run (cut := [0, 25]) 22 _ h
theorem t_42_0 {E : mO × tW} {K : tK} {d : mD} {x0 x1 x2 : Int}
  (h : (0 ≤ x1 ∧ x1 < 6) ∧ mInR (d (x0 + 5) x1) ∧ (d (x0 + 5) x1 = 0 → K (.inl (some (0, 0))) d) ∧ (¬ d (x0 + 5) x1 = 0 → (0 ≤ x1 ∧ x1 < 6) ∧ (mInR 1 ∧ mInR (d (x0 + 3) x1)) ∧ (0 ≤ x2 ∧ x2 ≤ 2147483647 ∧ 0 < mmax 1 (d (x0 + 3) x1) ∧ mmax 1 (d (x0 + 3) x1) ≤ 2147483647) ∧ mInR (x2 % (mmax 1 (d (x0 + 3) x1))) ∧ (x2 % (mmax 1 (d (x0 + 3) x1)) = 0 → (0 ≤ x1 ∧ x1 < 6) ∧ (0 ≤ x1 ∧ x1 < 6) ∧ (mInR (d (x0 + 2) x1) ∧ mInR (d (x0 + 6) x1)) ∧ K (.inl (some (0, mmin (d (x0 + 2) x1) (d (x0 + 6) x1)))) d) ∧ (¬ x2 % (mmax 1 (d (x0 + 3) x1)) = 0 → K (.inl (some (0, 0))) d))) :
  tRun E 42 (0, [.inr (3, x0), .inl (0, x1), .inl (0, x2)], [], 0, 0, d) K := tT_run (cut := [0]) 24 _ h
theorem t_43_0 {E : mO × tW} {K : tK} {d : mD} {x0 x1 x2 x3 : Int}
  (h : (0 ≤ x1 ∧ x1 < 6) ∧ (mInR 1 ∧ mInR (d (x0 + 3) x1)) ∧ (0 ≤ x1 ∧ x1 < 6) ∧ (mInR 1 ∧ mInR (d (x0 + 2) x1)) ∧ (0 ≤ x2 ∧ x2 ≤ 2147483647 ∧ 0 < mmax 1 (d (x0 + 2) x1) ∧ mmax 1 (d (x0 + 2) x1) ≤ 2147483647) ∧ (0 ≤ x3 ∧ x3 ≤ 2147483647 ∧ 0 < mmax 1 (d (x0 + 3) x1) ∧ mmax 1 (d (x0 + 3) x1) ≤ 2147483647) ∧ K (.inl (some (0, (((x3 / (mmax 1 (d (x0 + 3) x1))) + ((x2 / (mmax 1 (d (x0 + 2) x1))) + 1)) * (mmax 1 (d (x0 + 3) x1))) - x3))) d) :
  tRun E 43 (0, [.inr (3, x0), .inl (0, x1), .inl (0, x2), .inl (0, x3), tu, tu], [], 0, 0, d) K := tT_run (cut := [0]) 28 _ h
theorem t_44_0 {E : mO × tW} {K : tK} {d : mD} {x0 x1 x2 x3 : Int}
  (h : (0 ≤ x1 ∧ x1 < 6) ∧ (mInR 1 ∧ mInR (d (x0 + 3) x1)) ∧ (0 ≤ x3 + x2 ∧ x3 + x2 ≤ 2147483647 ∧ 0 < mmax 1 (d (x0 + 3) x1) ∧ mmax 1 (d (x0 + 3) x1) ≤ 2147483647) ∧ (0 ≤ x3 ∧ x3 ≤ 2147483647 ∧ 0 < mmax 1 (d (x0 + 3) x1) ∧ mmax 1 (d (x0 + 3) x1) ≤ 2147483647) ∧ (0 ≤ x1 ∧ x1 < 6) ∧ (0 ≤ x1 ∧ x1 < 6) ∧ (mInR 0 ∧ mInR ((d (x0 + 6) x1) - ((((x3 + x2) / (mmax 1 (d (x0 + 3) x1))) - (x3 / (mmax 1 (d (x0 + 3) x1)))) * (d (x0 + 2) x1)))) ∧ K (.inl (some (0, mmax 0 ((d (x0 + 6) x1) - ((((x3 + x2) / (mmax 1 (d (x0 + 3) x1))) - (x3 / (mmax 1 (d (x0 + 3) x1)))) * (d (x0 + 2) x1)))))) d) :
  tRun E 44 (0, [.inr (3, x0), .inl (0, x1), .inl (0, x2), .inl (0, x3), tu, tu], [], 0, 0, d) K := tT_run (cut := [0]) 31 _ h
theorem t_46_0 {E : mO × tW} {K : tK} {d : mD} {x0 x1 : Int}
  (h : (0 ≤ (0 : Int) ∧ 0 ≤ (0 : Int) ∧ 0 ≤ (16 : Int) ∧ (0 : Int) + (16 : Int) ≤ 16 ∧ (0 : Int) + (16 : Int) ≤ 16) ∧ tRun E 46 (23, [.inr (4, x0), .inr (4, x1), tu], [], 0, 0, mcopy (mset d x0 0 (d x1 0)) (x1 + 1) 0 (x0 + 1) 0 16) K) :
  tRun E 46 (0, [.inr (4, x0), .inr (4, x1), tu], [], 0, 0, d) K := tT_run (cut := [0, 23, 38, 53, 68, 83, 85, 108]) 12 _ h
theorem t_46_23 {E : mO × tW} {K : tK} {d : mD} {x0 x1 : Int}
  (h : (0 ≤ (0 : Int) ∧ 0 ≤ (0 : Int) ∧ 0 ≤ (16 : Int) ∧ (0 : Int) + (16 : Int) ≤ 16 ∧ (0 : Int) + (16 : Int) ≤ 16) ∧ tRun E 46 (38, [.inr (4, x0), .inr (4, x1), tu], [], 0, 0, mcopy d (x1 + 2) 0 (x0 + 2) 0 16) K) :
  tRun E 46 (23, [.inr (4, x0), .inr (4, x1), tu], [], 0, 0, d) K := tT_run (cut := [0, 23, 38, 53, 68, 83, 85, 108]) 8 _ h
theorem t_46_38 {E : mO × tW} {K : tK} {d : mD} {x0 x1 : Int}
  (h : (0 ≤ (0 : Int) ∧ 0 ≤ (0 : Int) ∧ 0 ≤ (16 : Int) ∧ (0 : Int) + (16 : Int) ≤ 16 ∧ (0 : Int) + (16 : Int) ≤ 16) ∧ tRun E 46 (53, [.inr (4, x0), .inr (4, x1), tu], [], 0, 0, mcopy d (x1 + 3) 0 (x0 + 3) 0 16) K) :
  tRun E 46 (38, [.inr (4, x0), .inr (4, x1), tu], [], 0, 0, d) K := tT_run (cut := [0, 23, 38, 53, 68, 83, 85, 108]) 8 _ h
theorem t_46_53 {E : mO × tW} {K : tK} {d : mD} {x0 x1 : Int}
  (h : (0 ≤ (0 : Int) ∧ 0 ≤ (0 : Int) ∧ 0 ≤ (16 : Int) ∧ (0 : Int) + (16 : Int) ≤ 16 ∧ (0 : Int) + (16 : Int) ≤ 16) ∧ tRun E 46 (68, [.inr (4, x0), .inr (4, x1), tu], [], 0, 0, mcopy d (x1 + 4) 0 (x0 + 4) 0 16) K) :
  tRun E 46 (53, [.inr (4, x0), .inr (4, x1), tu], [], 0, 0, d) K := tT_run (cut := [0, 23, 38, 53, 68, 83, 85, 108]) 8 _ h
theorem t_46_68 {E : mO × tW} {K : tK} {d : mD} {x0 x1 : Int}
  (h : (0 ≤ (0 : Int) ∧ 0 ≤ (0 : Int) ∧ 0 ≤ (16 : Int) ∧ (0 : Int) + (16 : Int) ≤ 16 ∧ (0 : Int) + (16 : Int) ≤ 16) ∧ tRun E 46 (83, [.inr (4, x0), .inr (4, x1), tu], [], 0, 0, mcopy d (x1 + 5) 0 (x0 + 5) 0 16) K) :
  tRun E 46 (68, [.inr (4, x0), .inr (4, x1), tu], [], 0, 0, d) K := tT_run (cut := [0, 23, 38, 53, 68, 83, 85, 108]) 8 _ h
theorem t_46_83 {E : mO × tW} {K : tK} {d : mD} {x0 x1 : Int}
  (h : tRun E 46 (85, [.inr (4, x0), .inr (4, x1), .inl (0, 0)], [], 0, 0, d) K) :
  tRun E 46 (83, [.inr (4, x0), .inr (4, x1), tu], [], 0, 0, d) K := tT_run (cut := [0, 23, 38, 53, 68, 83, 85, 108]) 2 _ h
theorem t_46_85 {E : mO × tW} {K : tK} {d : mD} {x0 x1 x2 : Int}
  (h : (mInR x2 ∧ mInR (d x0 0)) ∧ (d x0 0 ≤ x2 → K (.inl none) d) ∧ (x2 < d x0 0 → (0 ≤ x2 ∧ x2 < 16) ∧ (0 ≤ x2 ∧ x2 < 16) ∧ tCall E 11 [.inr (1, x0 + 6 + (1 + 2 * x2)), .inr (1, x1 + 6 + (1 + 2 * x2))] d (tbk E 46 105 [.inr (4, x0), .inr (4, x1), .inl (0, x2)] [] 0 0 K))) :
  tRun E 46 (85, [.inr (4, x0), .inr (4, x1), .inl (0, x2)], [], 0, 0, d) K := tT_run (cut := [0, 23, 38, 53, 68, 83, 85, 108]) 13 _ h
theorem t_46_108 {E : mO × tW} {K : tK} {d : mD} {x0 x1 x2 : Int}
  (h : tRun E 46 (85, [.inr (4, x0), .inr (4, x1), .inl (0, x2 + 1)], [], 0, 0, d) K) :
  tRun E 46 (108, [.inr (4, x0), .inr (4, x1), .inl (0, x2)], [], 0, 0, d) K := tT_run (cut := [0, 23, 38, 53, 68, 83, 85, 108]) 2 _ h
theorem t_47_0 {E : mO × tW} {K : tK} {d : mD} {x0 x1 : Int}
  (h : (mInR (d x0 0) ∧ mInR 16) ∧ (d x0 0 < 16 → (0 ≤ d x0 0 ∧ d x0 0 < 16) ∧ tRun E 47 (20, [.inr (4, x0), .inl (0, x1)], [], 0, 0, mset d (x0 + 1) (d x0 0) x1) K) ∧ (16 ≤ d x0 0 → K (.inl none) d)) :
  tRun E 47 (0, [.inr (4, x0), .inl (0, x1)], [], 0, 0, d) K := tT_run (cut := [0, 20, 30, 40, 50, 60, 72]) 10 _ h
theorem t_47_20 {E : mO × tW} {K : tK} {d : mD} {x0 x1 : Int}
  (h : (0 ≤ d x0 0 ∧ d x0 0 < 16) ∧ tRun E 47 (30, [.inr (4, x0), .inl (0, x1)], [], 0, 0, mset d (x0 + 2) (d x0 0) 0) K) :
  tRun E 47 (20, [.inr (4, x0), .inl (0, x1)], [], 0, 0, d) K := tT_run (cut := [0, 20, 30, 40, 50, 60, 72]) 6 _ h
theorem t_47_30 {E : mO × tW} {K : tK} {d : mD} {x0 x1 : Int}
  (h : (0 ≤ d x0 0 ∧ d x0 0 < 16) ∧ tRun E 47 (40, [.inr (4, x0), .inl (0, x1)], [], 0, 0, mset d (x0 + 3) (d x0 0) 0) K) :
  tRun E 47 (30, [.inr (4, x0), .inl (0, x1)], [], 0, 0, d) K := tT_run (cut := [0, 20, 30, 40, 50, 60, 72]) 6 _ h
theorem t_47_40 {E : mO × tW} {K : tK} {d : mD} {x0 x1 : Int}
  (h : (0 ≤ d x0 0 ∧ d x0 0 < 16) ∧ tRun E 47 (50, [.inr (4, x0), .inl (0, x1)], [], 0, 0, mset d (x0 + 4) (d x0 0) 0) K) :
  tRun E 47 (40, [.inr (4, x0), .inl (0, x1)], [], 0, 0, d) K := tT_run (cut := [0, 20, 30, 40, 50, 60, 72]) 6 _ h
theorem t_47_50 {E : mO × tW} {K : tK} {d : mD} {x0 x1 : Int}
  (h : (0 ≤ d x0 0 ∧ d x0 0 < 16) ∧ tRun E 47 (60, [.inr (4, x0), .inl (0, x1)], [], 0, 0, mset d (x0 + 5) (d x0 0) 0) K) :
  tRun E 47 (50, [.inr (4, x0), .inl (0, x1)], [], 0, 0, d) K := tT_run (cut := [0, 20, 30, 40, 50, 60, 72]) 6 _ h
theorem t_47_60 {E : mO × tW} {K : tK} {d : mD} {x0 x1 : Int}
  (h : (0 ≤ d x0 0 ∧ d x0 0 < 16) ∧ tCall E 8 [.inr (1, x0 + 6 + (1 + 2 * (d x0 0)))] d (tbk E 47 69 [.inr (4, x0), .inl (0, x1)] [] 0 0 K)) :
  tRun E 47 (60, [.inr (4, x0), .inl (0, x1)], [], 0, 0, d) K := tT_run (cut := [0, 20, 30, 40, 50, 60, 72]) 6 _ h
theorem t_47_72 {E : mO × tW} {K : tK} {d : mD} {x0 x1 : Int}
  (h : K (.inl none) (mset d x0 0 ((d x0 0) + 1))) :
  tRun E 47 (72, [.inr (4, x0), .inl (0, x1)], [], 0, 0, d) K := tT_run (cut := [0, 20, 30, 40, 50, 60, 72]) 7 _ h
theorem t_48_0 {E : mO × tW} {K : tK} {d : mD} {x0 x1 : Int}
  (h : tRun E 48 (2, [.inr (4, x0), .inl (0, x1), .inl (0, 0)], [], 0, 0, d) K) :
  tRun E 48 (0, [.inr (4, x0), .inl (0, x1), tu], [], 0, 0, d) K := tT_run (cut := [0, 2]) 2 _ h
theorem t_48_2 {E : mO × tW} {K : tK} {d : mD} {x0 x1 x2 : Int}
  (h : (mInR x2 ∧ mInR (d x0 0)) ∧ (d x0 0 ≤ x2 → K (.inl (some (0, (-1)))) d) ∧ (x2 < d x0 0 → (0 ≤ x2 ∧ x2 < 16) ∧ (mInR (d (x0 + 1) x2) ∧ mInR x1) ∧ (¬ d (x0 + 1) x2 = x1 → tRun E 48 (2, [.inr (4, x0), .inl (0, x1), .inl (0, x2 + 1)], [], 0, 0, d) K) ∧ (d (x0 + 1) x2 = x1 → K (.inl (some (0, x2))) d))) :
  tRun E 48 (2, [.inr (4, x0), .inl (0, x1), .inl (0, x2)], [], 0, 0, d) K := tT_run (cut := [0, 2]) 12 _ h
theorem t_49_0 {E : mO × tW} {K : tK} {d : mD} {x0 : Int}
  (h : tCall E 299 [.inr (18, x0 + 3), .inl (0, 0)] d (tbk E 49 5 [.inr (4, x0)] [] 0 0 K)) :
  tRun E 49 (0, [.inr (4, x0)], [], 0, 0, d) K := tT_run (cut := [0, 8, 16, 24]) 4 _ h
theorem t_49_8 {E : mO × tW} {K : tK} {d : mD} {x0 : Int}
  (h : tCall E 299 [.inr (18, x0 + 4), .inl (0, 0)] d (tbk E 49 13 [.inr (4, x0)] [] 0 0 K)) :
  tRun E 49 (8, [.inr (4, x0)], [], 0, 0, d) K := tT_run (cut := [0, 8, 16, 24]) 4 _ h
theorem t_49_16 {E : mO × tW} {K : tK} {d : mD} {x0 : Int}
  (h : tCall E 299 [.inr (18, x0 + 5), .inl (0, 0)] d (tbk E 49 21 [.inr (4, x0)] [] 0 0 K)) :
  tRun E 49 (16, [.inr (4, x0)], [], 0, 0, d) K := tT_run (cut := [0, 8, 16, 24]) 4 _ h
theorem t_49_24 {E : mO × tW} {K : tK} {d : mD} {x0 : Int}
  (h : K (.inl none) d) :
  tRun E 49 (24, [.inr (4, x0)], [], 0, 0, d) K := tT_run (cut := [0, 8, 16, 24]) 1 _ h
theorem t_51_0 {E : mO × tW} {K : tK} {d : mD} {x0 : Int}
  (h : tCall E 52 [.inr (5, x0)] (mset d x0 3 0) (tbk E 51 6 [.inr (5, x0)] [] 0 0 K)) :
  tRun E 51 (0, [.inr (5, x0)], [], 0, 0, d) K := tT_run (cut := [0, 9]) 5 _ h
theorem t_51_9 {E : mO × tW} {K : tK} {d : mD} {x0 : Int}
  (h : K (.inl none) d) :
  tRun E 51 (9, [.inr (5, x0)], [], 0, 0, d) K := tT_run (cut := [0, 9]) 1 _ h
theorem t_52_0 {E : mO × tW} {K : tK} {d : mD} {x0 : Int}
  (h : tRun E 52 (8, [.inr (5, x0)], [], 0, 0, mset d x0 2 (d x0 3)) K) :
  tRun E 52 (0, [.inr (5, x0)], [], 0, 0, d) K := tT_run (cut := [0, 8, 33, 90, 97, 111, 118]) 4 _ h
theorem t_52_8 {E : mO × tW} {K : tK} {d : mD} {x0 : Int}
  (h : (mInR (d x0 2) ∧ mInR (d (x0 + 1) 1)) ∧ (d (x0 + 1) 1 ≤ d x0 2 → (mInR ((mset d x0 3 (d x0 2)) x0 2) ∧ mInR ((mset d x0 3 (d x0 2)) (x0 + 1) 1)) ∧ ((mset d x0 3 (d x0 2)) x0 2 < (mset d x0 3 (d x0 2)) (x0 + 1) 1 → tCall E 91 [.inr (7, x0 + 1), .inl (0, (mset d x0 3 (d x0 2)) x0 2)] (mset d x0 3 (d x0 2)) (tbk E 52 87 [.inr (5, x0)] [] 0 0 K)) ∧ ((mset d x0 3 (d x0 2)) (x0 + 1) 1 ≤ (mset d x0 3 (d x0 2)) x0 2 → K (.inl none) (mset (mset d x0 3 (d x0 2)) x0 1 3))) ∧ (d x0 2 < d (x0 + 1) 1 → tCall E 90 [.inr (7, x0 + 1), .inl (0, d x0 2)] d (tbk E 52 30 [.inr (5, x0)] [] 0 0 K))) :
  tRun E 52 (8, [.inr (5, x0)], [], 0, 0, d) K := tT_run (cut := [0, 8, 33, 90, 97, 111, 118]) 21 _ h
theorem t_52_33 {E : mO × tW} {K : tK} {d : mD} {x0 y0 : Int}
  (h : mInR y0 ∧ (y0 = 0 → (mInR ((mset d x0 3 (d x0 2)) x0 2) ∧ mInR ((mset d x0 3 (d x0 2)) (x0 + 1) 1)) ∧ ((mset d x0 3 (d x0 2)) x0 2 < (mset d x0 3 (d x0 2)) (x0 + 1) 1 → tCall E 91 [.inr (7, x0 + 1), .inl (0, (mset d x0 3 (d x0 2)) x0 2)] (mset d x0 3 (d x0 2)) (tbk E 52 87 [.inr (5, x0)] [] 0 0 K)) ∧ ((mset d x0 3 (d x0 2)) (x0 + 1) 1 ≤ (mset d x0 3 (d x0 2)) x0 2 → K (.inl none) (mset (mset d x0 3 (d x0 2)) x0 1 3))) ∧ (¬ y0 = 0 → tRun E 52 (8, [.inr (5, x0)], [], 0, 0, mset d x0 2 ((d x0 2) + 1)) K)) :
  tRun E 52 (33, [.inr (5, x0)], [.inl (0, y0)], 0, 0, d) K := tT_run (cut := [0, 8, 33, 90, 97, 111, 118]) 16 _ h
theorem t_52_90 {E : mO × tW} {K : tK} {d : mD} {x0 y0 : Int}
  (h : mInR y0 ∧ (y0 = 0 → tCall E 92 [.inr (7, x0 + 1), .inl (0, d x0 2)] d (tbk E 52 108 [.inr (5, x0)] [] 0 0 K)) ∧ (¬ y0 = 0 → tCall E 53 [.inr (5, x0)] d (tbk E 52 94 [.inr (5, x0)] [] 0 0 K))) :
  tRun E 52 (90, [.inr (5, x0)], [.inl (0, y0)], 0, 0, d) K := tT_run (cut := [0, 8, 33, 90, 97, 111, 118]) 6 _ h
theorem t_52_97 {E : mO × tW} {K : tK} {d : mD} {x0 : Int}
  (h : K (.inl none) d) :
  tRun E 52 (97, [.inr (5, x0)], [], 0, 0, d) K := tT_run (cut := [0, 8, 33, 90, 97, 111, 118]) 2 _ h
theorem t_52_111 {E : mO × tW} {K : tK} {d : mD} {x0 y0 : Int}
  (h : mInR y0 ∧ (y0 = 0 → (0 ≤ d x0 2 ∧ d x0 2 < 1000) ∧ (mInR (d (x0 + 1 + 1) (d x0 2)) ∧ mInR 59) ∧ (¬ d (x0 + 1 + 1) (d x0 2) = 59 → K (.inl none) (mset (mset d x0 1 4) x0 3 (((mset d x0 1 4) x0 3) + 1))) ∧ (d (x0 + 1 + 1) (d x0 2) = 59 → K (.inl none) (mset (mset d x0 1 2) x0 3 (((mset d x0 1 2) x0 3) + 1)))) ∧ (¬ y0 = 0 → tCall E 54 [.inr (5, x0)] d (tbk E 52 115 [.inr (5, x0)] [] 0 0 K))) :
  tRun E 52 (111, [.inr (5, x0)], [.inl (0, y0)], 0, 0, d) K := tT_run (cut := [0, 8, 33, 90, 97, 111, 118]) 20 _ h
theorem t_52_118 {E : mO × tW} {K : tK} {d : mD} {x0 : Int}
  (h : K (.inl none) d) :
  tRun E 52 (118, [.inr (5, x0)], [], 0, 0, d) K := tT_run (cut := [0, 8, 33, 90, 97, 111, 118]) 2 _ h
theorem t_53_0 {E : mO × tW} {K : tK} {d : mD} {x0 : Int}
  (h : (mInR (d x0 3) ∧ mInR (d (x0 + 1) 1)) ∧ (d (x0 + 1) 1 ≤ d x0 3 → K (.inl none) (mset d x0 1 0)) ∧ (d x0 3 < d (x0 + 1) 1 → tCall E 91 [.inr (7, x0 + 1), .inl (0, d x0 3)] d (tbk E 53 22 [.inr (5, x0)] [] 0 0 K))) :
  tRun E 53 (0, [.inr (5, x0)], [], 0, 0, d) K := tT_run (cut := [0, 25]) 11 _ h
theorem t_53_25 {E : mO × tW} {K : tK} {d : mD} {x0 y0 : Int}
  (h : mInR y0 ∧ (y0 = 0 → K (.inl none) (mset d x0 1 0)) ∧ (¬ y0 = 0 → tRun E 53 (0, [.inr (5, x0)], [], 0, 0, mset d x0 3 ((d x0 3) + 1)) K)) :
  tRun E 53 (25, [.inr (5, x0)], [.inl (0, y0)], 0, 0, d) K := tT_run (cut := [0, 25]) 8 _ h
theorem t_54_0 {E : mO × tW} {K : tK} {d : mD} {x0 : Int}
  (h : tRun E 54 (5, [.inr (5, x0)], [], 0, 0, mset d x0 4 0) K) :
  tRun E 54 (0, [.inr (5, x0)], [], 0, 0, d) K := tT_run (cut := [0, 5, 30]) 3 _ h
theorem t_54_5 {E : mO × tW} {K : tK} {d : mD} {x0 : Int}
  (h : (mInR (d x0 3) ∧ mInR (d (x0 + 1) 1)) ∧ (d (x0 + 1) 1 ≤ d x0 3 → (mInR ((d x0 3) - (d x0 2)) ∧ mInR 5) ∧ ((d x0 3) - (d x0 2) ≤ 5 → K (.inl none) (mset d x0 1 1)) ∧ (5 < (d x0 3) - (d x0 2) → K (.inl none) (mset d x0 1 4))) ∧ (d x0 3 < d (x0 + 1) 1 → tCall E 92 [.inr (7, x0 + 1), .inl (0, d x0 3)] d (tbk E 54 27 [.inr (5, x0)] [] 0 0 K))) :
  tRun E 54 (5, [.inr (5, x0)], [], 0, 0, d) K := tT_run (cut := [0, 5, 30]) 18 _ h
theorem t_54_30 {E : mO × tW} {K : tK} {d : mD} {x0 y0 : Int}
  (h : mInR y0 ∧ (y0 = 0 → (mInR ((d x0 3) - (d x0 2)) ∧ mInR 5) ∧ ((d x0 3) - (d x0 2) ≤ 5 → K (.inl none) (mset d x0 1 1)) ∧ (5 < (d x0 3) - (d x0 2) → K (.inl none) (mset d x0 1 4))) ∧ (¬ y0 = 0 → (mInR ((d x0 3) - (d x0 2)) ∧ mInR 5) ∧ (5 ≤ (d x0 3) - (d x0 2) → tRun E 54 (5, [.inr (5, x0)], [], 0, 0, mset d x0 3 ((d x0 3) + 1)) K) ∧ ((d x0 3) - (d x0 2) < 5 → (0 ≤ d x0 3 ∧ d x0 3 < 1000) ∧ tRun E 54 (5, [.inr (5, x0)], [], 0, 0, mset (mset d x0 4 ((((d x0 4) * 10) + (d (x0 + 1 + 1) (d x0 3))) - 48)) x0 3 (((mset d x0 4 ((((d x0 4) * 10) + (d (x0 + 1 + 1) (d x0 3))) - 48)) x0 3) + 1)) K))) :
  tRun E 54 (30, [.inr (5, x0)], [.inl (0, y0)], 0, 0, d) K := tT_run (cut := [0, 5, 30]) 30 _ h
theorem t_55_0 {E : mO × tW} {K : tK} {d : mD} {x0 x1 : Int}
  (h : mInR (d x0 1) ∧ (¬ d x0 1 = 0 → ((0 : Int) = 0 ∨ (0 : Int) = 1) ∧ K (.inl (some (0, 0))) d) ∧ (d x0 1 = 0 → (0 ≤ x1 ∧ x1 < 7) ∧ (mInR ((d x0 3) - (d x0 2)) ∧ mInR (tsl x1)) ∧ ((d x0 3) - (d x0 2) = tsl x1 → tRun E 55 (27, [.inr (5, x0), .inl (5, x1), .inl (0, 0)], [], 0, 0, d) K) ∧ (¬ (d x0 3) - (d x0 2) = tsl x1 → ((0 : Int) = 0 ∨ (0 : Int) = 1) ∧ K (.inl (some (0, 0))) d))) :
  tRun E 55 (0, [.inr (5, x0), .inl (5, x1), tu], [], 0, 0, d) K := tT_run (cut := [0, 27]) 13 _ h
theorem t_55_27 {E : mO × tW} {K : tK} {d : mD} {x0 x1 x2 : Int}
  (h : (0 ≤ x1 ∧ x1 < 7) ∧ (mInR x2 ∧ mInR (tsl x1)) ∧ (tsl x1 ≤ x2 → ((1 : Int) = 0 ∨ (1 : Int) = 1) ∧ K (.inl (some (0, 1))) d) ∧ (x2 < tsl x1 → (0 ≤ (d x0 2) + x2 ∧ (d x0 2) + x2 < 1000) ∧ (0 ≤ x1 ∧ x1 < 7 ∧ 0 ≤ x2 ∧ x2 < tsl x1) ∧ (mInR (d (x0 + 1 + 1) ((d x0 2) + x2)) ∧ mInR (tsc x1 x2)) ∧ (d (x0 + 1 + 1) ((d x0 2) + x2) = tsc x1 x2 → tRun E 55 (27, [.inr (5, x0), .inl (5, x1), .inl (0, x2 + 1)], [], 0, 0, d) K) ∧ (¬ d (x0 + 1 + 1) ((d x0 2) + x2) = tsc x1 x2 → ((0 : Int) = 0 ∨ (0 : Int) = 1) ∧ K (.inl (some (0, 0))) d))) :
  tRun E 55 (27, [.inr (5, x0), .inl (5, x1), .inl (0, x2)], [], 0, 0, d) K := tT_run (cut := [0, 27]) 18 _ h
theorem t_56_0 {E : mO × tW} {K : tK} {d : mD} {x0 : Int}
  (h : mInR (d x0 1) ∧ (¬ d x0 1 = 0 → K (.inl (some (0, (-1)))) d) ∧ (d x0 1 = 0 → tCall E 93 [.inr (7, x0 + 1), .inl (0, d x0 2), .inl (0, d x0 3)] d (tbk E 56 19 [.inr (5, x0)] [] 0 0 K))) :
  tRun E 56 (0, [.inr (5, x0)], [], 0, 0, d) K := tT_run (cut := [0, 22]) 10 _ h
theorem t_56_22 {E : mO × tW} {K : tK} {d : mD} {x0 y0 : Int}
  (h : K (.inl (some (0, y0))) d) :
  tRun E 56 (22, [.inr (5, x0)], [.inl (0, y0)], 0, 0, d) K := tT_run (cut := [0, 22]) 2 _ h
theorem t_58_0 {E : mO × tW} {K : tK} {d : mD} {x0 : Int}
  (h : K (.inl none) (mset (mset (mset (mset (mset (mset (mset d x0 1 0) x0 2 0) (x0 + 2) 0 0) (x0 + 10) 0 0) (x0 + 49) 0 0) (x0 + 57) 0 0) (x0 + 57) 5 0)) :
  tRun E 58 (0, [.inr (6, x0)], [], 0, 0, d) K := tT_run (cut := [0]) 27 _ h
theorem t_59_0 {E : mO × tW} {K : tK} {d : mD} {x0 x1 : Int}
  (h : (0 ≤ (0 : Int) ∧ 0 ≤ (0 : Int) ∧ 0 ≤ (5 : Int) ∧ (0 : Int) + (5 : Int) ≤ 5 ∧ (0 : Int) + (5 : Int) ≤ 5) ∧ tCall E 34 [.inr (3, x0 + 2), .inr (3, x1 + 2)] (mset (mset (mcopy d (x1 + 1) 0 (x0 + 1) 0 5) x0 1 ((mcopy d (x1 + 1) 0 (x0 + 1) 0 5) x1 1)) x0 2 ((mset (mcopy d (x1 + 1) 0 (x0 + 1) 0 5) x0 1 ((mcopy d (x1 + 1) 0 (x0 + 1) 0 5) x1 1)) x1 2)) (tbk E 59 38 [.inr (6, x0), .inr (6, x1)] [] 0 0 K)) :
  tRun E 59 (0, [.inr (6, x0), .inr (6, x1)], [], 0, 0, d) K := tT_run (cut := [0, 41, 52, 63, 74]) 21 _ h
theorem t_59_41 {E : mO × tW} {K : tK} {d : mD} {x0 x1 : Int}
  (h : tCall E 46 [.inr (4, x0 + 10), .inr (4, x1 + 10)] d (tbk E 59 49 [.inr (6, x0), .inr (6, x1)] [] 0 0 K)) :
  tRun E 59 (41, [.inr (6, x0), .inr (6, x1)], [], 0, 0, d) K := tT_run (cut := [0, 41, 52, 63, 74]) 5 _ h
theorem t_59_52 {E : mO × tW} {K : tK} {d : mD} {x0 x1 : Int}
  (h : tCall E 95 [.inr (8, x0 + 49), .inr (8, x1 + 49)] d (tbk E 59 60 [.inr (6, x0), .inr (6, x1)] [] 0 0 K)) :
  tRun E 59 (52, [.inr (6, x0), .inr (6, x1)], [], 0, 0, d) K := tT_run (cut := [0, 41, 52, 63, 74]) 5 _ h
theorem t_59_63 {E : mO × tW} {K : tK} {d : mD} {x0 x1 : Int}
  (h : tCall E 108 [.inr (9, x0 + 57), .inr (9, x1 + 57)] d (tbk E 59 71 [.inr (6, x0), .inr (6, x1)] [] 0 0 K)) :
  tRun E 59 (63, [.inr (6, x0), .inr (6, x1)], [], 0, 0, d) K := tT_run (cut := [0, 41, 52, 63, 74]) 5 _ h
theorem t_59_74 {E : mO × tW} {K : tK} {d : mD} {x0 x1 : Int}
  (h : K (.inl none) d) :
  tRun E 59 (74, [.inr (6, x0), .inr (6, x1)], [], 0, 0, d) K := tT_run (cut := [0, 41, 52, 63, 74]) 1 _ h
theorem t_60_0 {E : mO × tW} {K : tK} {d : mD} {x0 x1 x2 : Int}
  (h : (mInR (d (x0 + 49) 0) ∧ mInR 60) ∧ (60 ≤ d (x0 + 49) 0 → ((0 : Int) = 0 ∨ (0 : Int) = 1) ∧ K (.inl (some (0, 0))) d) ∧ (d (x0 + 49) 0 < 60 → (0 ≤ x2 ∧ x2 < 6) ∧ mInR (d (x0 + 2 + 5) x2) ∧ (d (x0 + 2 + 5) x2 = 0 → ((0 : Int) = 0 ∨ (0 : Int) = 1) ∧ K (.inl (some (0, 0))) d) ∧ (¬ d (x0 + 2 + 5) x2 = 0 → (0 ≤ x2 ∧ x2 < 6) ∧ (0 ≤ x2 ∧ x2 < 6) ∧ (mInR (d (x0 + 2 + 6) x2) ∧ mInR (d (x0 + 2 + 4) x2)) ∧ (d (x0 + 2 + 4) x2 ≤ d (x0 + 2 + 6) x2 → ((0 : Int) = 0 ∨ (0 : Int) = 1) ∧ K (.inl (some (0, 0))) d) ∧ (d (x0 + 2 + 6) x2 < d (x0 + 2 + 4) x2 → tCall E 62 [.inr (6, x0), .inl (0, x2), .inl (0, x1)] d (tbk E 60 48 [.inr (6, x0), .inl (0, x1), .inl (0, x2)] [] 0 0 K))))) :
  tRun E 60 (0, [.inr (6, x0), .inl (0, x1), .inl (0, x2)], [], 0, 0, d) K := tT_run (cut := [0, 51]) 26 _ h
theorem t_60_51 {E : mO × tW} {K : tK} {d : mD} {x0 x1 x2 y0 : Int}
  (h : (mInR y0 ∧ mInR ((-1))) ∧ (¬ y0 = (-1) → ((0 : Int) = 0 ∨ (0 : Int) = 1) ∧ K (.inl (some (0, 0))) d) ∧ (y0 = (-1) → ((1 : Int) = 0 ∨ (1 : Int) = 1) ∧ K (.inl (some (0, 1))) d)) :
  tRun E 60 (51, [.inr (6, x0), .inl (0, x1), .inl (0, x2)], [.inl (0, y0)], 0, 0, d) K := tT_run (cut := [0, 51]) 5 _ h
theorem t_61_0 {E : mO × tW} {K : tK} {d : mD} {x0 x1 x2 : Int}
  (h : tCall E 96 [.inr (8, x0 + 49), .inl (0, x1), .inl (0, x2), .inl (0, d x0 2)] d (tbk E 61 18 [.inr (6, x0), .inl (0, x1), .inl (0, x2), .inl (0, d (x0 + 49) 0)] [] 0 0 K)) :
  tRun E 61 (0, [.inr (6, x0), .inl (0, x1), .inl (0, x2), tu], [], 0, 0, d) K := tT_run (cut := [0, 21, 39]) 11 _ h
theorem t_61_21 {E : mO × tW} {K : tK} {d : mD} {x0 x1 x2 x3 : Int}
  (h : (0 ≤ x2 ∧ x2 < 6) ∧ tCall E 40 [.inr (3, x0 + 2), .inl (0, x2), .inl (0, d (x0 + 2 + 6) x2), .inl (0, x3)] d (tbk E 61 36 [.inr (6, x0), .inl (0, x1), .inl (0, x2), .inl (0, x3)] [] 0 0 K)) :
  tRun E 61 (21, [.inr (6, x0), .inl (0, x1), .inl (0, x2), .inl (0, x3)], [], 0, 0, d) K := tT_run (cut := [0, 21, 39]) 10 _ h
theorem t_61_39 {E : mO × tW} {K : tK} {d : mD} {x0 x1 x2 x3 : Int}
  (h : K (.inl (some (0, x3))) d) :
  tRun E 61 (39, [.inr (6, x0), .inl (0, x1), .inl (0, x2), .inl (0, x3)], [], 0, 0, d) K := tT_run (cut := [0, 21, 39]) 2 _ h
theorem t_62_0 {E : mO × tW} {K : tK} {d : mD} {x0 x1 x2 : Int}
  (h : tRun E 62 (2, [.inr (6, x0), .inl (0, x1), .inl (0, x2), .inl (0, 0)], [], 0, 0, d) K) :
  tRun E 62 (0, [.inr (6, x0), .inl (0, x1), .inl (0, x2), tu], [], 0, 0, d) K := tT_run (cut := [0, 2, 31]) 2 _ h
theorem t_62_2 {E : mO × tW} {K : tK} {d : mD} {x0 x1 x2 x3 : Int}
  (h : (0 ≤ x1 ∧ x1 < 6) ∧ (mInR x3 ∧ mInR (d (x0 + 2 + 6) x1)) ∧ (d (x0 + 2 + 6) x1 ≤ x3 → K (.inl (some (0, (-1)))) d) ∧ (x3 < d (x0 + 2 + 6) x1 → tCall E 38 [.inr (3, x0 + 2), .inl (0, x1), .inl (0, x3)] d (tbk E 62 28 [.inr (6, x0), .inl (0, x1), .inl (0, x2), .inl (0, x3)] [.inr (21, x0 + 49 + 1)] 0 0 K))) :
  tRun E 62 (2, [.inr (6, x0), .inl (0, x1), .inl (0, x2), .inl (0, x3)], [], 0, 0, d) K := tT_run (cut := [0, 2, 31]) 15 _ h
theorem t_62_31 {E : mO × tW} {K : tK} {d : mD} {x0 x1 x2 x3 y0 y1 : Int}
  (h : (0 ≤ y1 ∧ y1 < 60) ∧ (mInR (d y0 y1) ∧ mInR x2) ∧ (¬ d y0 y1 = x2 → tRun E 62 (2, [.inr (6, x0), .inl (0, x1), .inl (0, x2), .inl (0, x3 + 1)], [], 0, 0, d) K) ∧ (d y0 y1 = x2 → K (.inl (some (0, x3))) d)) :
  tRun E 62 (31, [.inr (6, x0), .inl (0, x1), .inl (0, x2), .inl (0, x3)], [.inl (0, y1), .inr (21, y0)], 0, 0, d) K := tT_run (cut := [0, 2, 31]) 5 _ h
/-! ===== pieces of the methods between cuts: printed by a program of mine ===== -/
theorem t_63_0 {E : mO × tW} {K : tK} {d : mD} {x0 x1 x2 : Int}
  (h : tRun E 63 (2, [.inr (6, x0), .inl (0, x1), .inl (0, x2), .inl (0, 0)], [], 0, 0, d) K) :
  tRun E 63 (0, [.inr (6, x0), .inl (0, x1), .inl (0, x2), tu], [], 0, 0, d) K := tT_run (cut := [0, 2, 26, 29]) 2 _ h
theorem t_63_2 {E : mO × tW} {K : tK} {d : mD} {x0 x1 x2 x3 : Int}
  (h : (0 ≤ x1 ∧ x1 < 6) ∧ (mInR x3 ∧ mInR (d (x0 + 2 + 6) x1)) ∧ (d (x0 + 2 + 6) x1 ≤ x3 → (0 ≤ x1 ∧ x1 < 6) ∧ (((0 : Int) = 0 ∨ (0 : Int) = 1) ∧ 0 ≤ x1 ∧ x1 < 6) ∧ K (.inl none) (mset (mset d (x0 + 2 + 6) x1 0) (x0 + 2 + 5) x1 0)) ∧ (x3 < d (x0 + 2 + 6) x1 → tCall E 38 [.inr (3, x0 + 2), .inl (0, x1), .inl (0, x3)] d (tbk E 63 23 [.inr (6, x0), .inl (0, x1), .inl (0, x2), .inl (0, x3)] [.inl (0, x2), .inr (6, x0)] 0 0 K))) :
  tRun E 63 (2, [.inr (6, x0), .inl (0, x1), .inl (0, x2), .inl (0, x3)], [], 0, 0, d) K := tT_run (cut := [0, 2, 26, 29]) 20 _ h
theorem t_63_26 {E : mO × tW} {K : tK} {d : mD} {x0 x1 x2 x3 y0 y1 y2 : Int}
  (h : tCall E 64 [.inr (6, y0), .inl (0, y1), .inl (0, y2)] d (tbk E 63 26 [.inr (6, x0), .inl (0, x1), .inl (0, x2), .inl (0, x3)] [] 0 0 K)) :
  tRun E 63 (26, [.inr (6, x0), .inl (0, x1), .inl (0, x2), .inl (0, x3)], [.inl (0, y2), .inl (0, y1), .inr (6, y0)], 0, 0, d) K := tT_run (cut := [0, 2, 26, 29]) 1 _ h
theorem t_63_29 {E : mO × tW} {K : tK} {d : mD} {x0 x1 x2 x3 : Int}
  (h : tRun E 63 (2, [.inr (6, x0), .inl (0, x1), .inl (0, x2), .inl (0, x3 + 1)], [], 0, 0, d) K) :
  tRun E 63 (29, [.inr (6, x0), .inl (0, x1), .inl (0, x2), .inl (0, x3)], [], 0, 0, d) K := tT_run (cut := [0, 2, 26, 29]) 2 _ h
theorem t_64_0 {E : mO × tW} {K : tK} {d : mD} {x0 x1 x2 : Int}
  (h : (0 ≤ x2 ∧ x2 < 60) ∧ tCall E 65 [.inr (6, x0), .inl (0, x1), .inl (0, d (x0 + 49 + 3) x2)] d (tbk E 64 11 [.inr (6, x0), .inl (0, x1), .inl (0, x2), tu, tu] [] 0 0 K)) :
  tRun E 64 (0, [.inr (6, x0), .inl (0, x1), .inl (0, x2), tu, tu], [], 0, 0, d) K := tT_run (cut := [0, 14, 29, 66, 87, 95, 105, 115]) 8 _ h
theorem t_64_14 {E : mO × tW} {K : tK} {d : mD} {x0 x1 x2 y0 : Int}
  (h : (0 ≤ x2 ∧ x2 < 60) ∧ tCall E 62 [.inr (6, x0), .inl (0, x1), .inl (0, d (x0 + 49 + 1) x2)] d (tbk E 64 26 [.inr (6, x0), .inl (0, x1), .inl (0, x2), .inl (0, y0), tu] [] 0 0 K)) :
  tRun E 64 (14, [.inr (6, x0), .inl (0, x1), .inl (0, x2), tu, tu], [.inl (0, y0)], 0, 0, d) K := tT_run (cut := [0, 14, 29, 66, 87, 95, 105, 115]) 9 _ h
theorem t_64_29 {E : mO × tW} {K : tK} {d : mD} {x0 x1 x2 x3 y0 : Int}
  (h : (0 ≤ x2 ∧ x2 < 60) ∧ (mInR y0 ∧ mInR ((-1))) ∧ (y0 = (-1) → (mInR y0 ∧ mInR ((-1))) ∧ (y0 = (-1) → tRun E 64 (105, [.inr (6, x0), .inl (0, x1), .inl (0, x2), .inl (0, x3), .inl (0, y0)], [], 0, 0, mset d (x0 + 49 + 2) x2 x1) K) ∧ (¬ y0 = (-1) → tCall E 38 [.inr (3, x0 + 2), .inl (0, x1), .inl (0, y0)] (mset d (x0 + 49 + 2) x2 x1) (tbk E 64 84 [.inr (6, x0), .inl (0, x1), .inl (0, x2), .inl (0, x3), .inl (0, y0)] [.inr (8, x0 + 49)] 0 0 K))) ∧ (¬ y0 = (-1) → (mInR y0 ∧ mInR x3) ∧ (x3 ≤ y0 → (mInR y0 ∧ mInR ((-1))) ∧ (y0 = (-1) → tRun E 64 (105, [.inr (6, x0), .inl (0, x1), .inl (0, x2), .inl (0, x3), .inl (0, y0)], [], 0, 0, mset d (x0 + 49 + 2) x2 x1) K) ∧ (¬ y0 = (-1) → tCall E 38 [.inr (3, x0 + 2), .inl (0, x1), .inl (0, y0)] (mset d (x0 + 49 + 2) x2 x1) (tbk E 64 84 [.inr (6, x0), .inl (0, x1), .inl (0, x2), .inl (0, x3), .inl (0, y0)] [.inr (8, x0 + 49)] 0 0 K))) ∧ (y0 < x3 → tCall E 97 [.inr (8, x0 + 49), .inl (0, x2), .inl (0, 2), .inl (0, (mset d (x0 + 49 + 2) x2 x1) x0 2)] (mset d (x0 + 49 + 2) x2 x1) (tbk E 64 63 [.inr (6, x0), .inl (0, x1), .inl (0, x2), .inl (0, x3), .inl (0, y0)] [] 0 0 K)))) :
  tRun E 64 (29, [.inr (6, x0), .inl (0, x1), .inl (0, x2), .inl (0, x3), tu], [.inl (0, y0)], 0, 0, d) K := tT_run (cut := [0, 14, 29, 66, 87, 95, 105, 115]) 23 _ h
theorem t_64_66 {E : mO × tW} {K : tK} {d : mD} {x0 x1 x2 x3 x4 : Int}
  (h : K (.inl none) d) :
  tRun E 64 (66, [.inr (6, x0), .inl (0, x1), .inl (0, x2), .inl (0, x3), .inl (0, x4)], [], 0, 0, d) K := tT_run (cut := [0, 14, 29, 66, 87, 95, 105, 115]) 1 _ h
theorem t_64_87 {E : mO × tW} {K : tK} {d : mD} {x0 x1 x2 x3 x4 y0 y1 : Int}
  (h : tCall E 97 [.inr (8, y0), .inl (0, y1), .inl (0, 2), .inl (0, d x0 2)] d (tbk E 64 92 [.inr (6, x0), .inl (0, x1), .inl (0, x2), .inl (0, x3), .inl (0, x4)] [] 0 0 K)) :
  tRun E 64 (87, [.inr (6, x0), .inl (0, x1), .inl (0, x2), .inl (0, x3), .inl (0, x4)], [.inl (0, y1), .inr (8, y0)], 0, 0, d) K := tT_run (cut := [0, 14, 29, 66, 87, 95, 105, 115]) 4 _ h
theorem t_64_95 {E : mO × tW} {K : tK} {d : mD} {x0 x1 x2 x3 x4 : Int}
  (h : tCall E 41 [.inr (3, x0 + 2), .inl (0, x1), .inl (0, x4)] d (tbk E 64 102 [.inr (6, x0), .inl (0, x1), .inl (0, x2), .inl (0, x3), .inl (0, x4)] [] 0 0 K)) :
  tRun E 64 (95, [.inr (6, x0), .inl (0, x1), .inl (0, x2), .inl (0, x3), .inl (0, x4)], [], 0, 0, d) K := tT_run (cut := [0, 14, 29, 66, 87, 95, 105, 115]) 5 _ h
theorem t_64_105 {E : mO × tW} {K : tK} {d : mD} {x0 x1 x2 x3 x4 : Int}
  (h : tCall E 40 [.inr (3, x0 + 2), .inl (0, x1), .inl (0, x3), .inl (0, x2)] d (tbk E 64 112 [.inr (6, x0), .inl (0, x1), .inl (0, x2), .inl (0, x3), .inl (0, x4)] [] 0 0 K)) :
  tRun E 64 (105, [.inr (6, x0), .inl (0, x1), .inl (0, x2), .inl (0, x3), .inl (0, x4)], [], 0, 0, d) K := tT_run (cut := [0, 14, 29, 66, 87, 95, 105, 115]) 6 _ h
theorem t_64_115 {E : mO × tW} {K : tK} {d : mD} {x0 x1 x2 x3 x4 : Int}
  (h : K (.inl none) d) :
  tRun E 64 (115, [.inr (6, x0), .inl (0, x1), .inl (0, x2), .inl (0, x3), .inl (0, x4)], [], 0, 0, d) K := tT_run (cut := [0, 14, 29, 66, 87, 95, 105, 115]) 1 _ h
theorem t_65_0 {E : mO × tW} {K : tK} {d : mD} {x0 x1 x2 : Int}
  (h : tRun E 65 (2, [.inr (6, x0), .inl (0, x1), .inl (0, x2), .inl (0, 0)], [], 0, 0, d) K) :
  tRun E 65 (0, [.inr (6, x0), .inl (0, x1), .inl (0, x2), tu], [], 0, 0, d) K := tT_run (cut := [0, 2, 31]) 2 _ h
theorem t_65_2 {E : mO × tW} {K : tK} {d : mD} {x0 x1 x2 x3 : Int}
  (h : (0 ≤ x1 ∧ x1 < 6) ∧ (mInR x3 ∧ mInR (d (x0 + 2 + 6) x1)) ∧ (d (x0 + 2 + 6) x1 ≤ x3 → K (.inl (some (0, x3))) d) ∧ (x3 < d (x0 + 2 + 6) x1 → tCall E 38 [.inr (3, x0 + 2), .inl (0, x1), .inl (0, x3)] d (tbk E 65 28 [.inr (6, x0), .inl (0, x1), .inl (0, x2), .inl (0, x3)] [.inr (21, x0 + 49 + 3)] 0 0 K))) :
  tRun E 65 (2, [.inr (6, x0), .inl (0, x1), .inl (0, x2), .inl (0, x3)], [], 0, 0, d) K := tT_run (cut := [0, 2, 31]) 15 _ h
theorem t_65_31 {E : mO × tW} {K : tK} {d : mD} {x0 x1 x2 x3 y0 y1 : Int}
  (h : (0 ≤ y1 ∧ y1 < 60) ∧ (mInR (d y0 y1) ∧ mInR x2) ∧ (x2 < d y0 y1 → K (.inl (some (0, x3))) d) ∧ (d y0 y1 ≤ x2 → tRun E 65 (2, [.inr (6, x0), .inl (0, x1), .inl (0, x2), .inl (0, x3 + 1)], [], 0, 0, d) K)) :
  tRun E 65 (31, [.inr (6, x0), .inl (0, x1), .inl (0, x2), .inl (0, x3)], [.inl (0, y1), .inr (21, y0)], 0, 0, d) K := tT_run (cut := [0, 2, 31]) 5 _ h
theorem t_66_0 {E : mO × tW} {K : tK} {d : mD} {x0 : Int}
  (h : tRun E 66 (4, [.inr (6, x0), .inl (0, 0), .inl (0, 0), tu, tu, tu], [], 0, 0, d) K) :
  tRun E 66 (0, [.inr (6, x0), tu, tu, tu, tu, tu], [], 0, 0, d) K := tT_run (cut := [0, 4, 17, 43, 71]) 4 _ h
theorem t_66_4 {E : mO × tW} {K : tK} {d : mD} {x0 x1 x2 : Int} {v3 v4 v5 : tV}
  (h : (mInR x2 ∧ mInR (d (x0 + 2) 0)) ∧ (d (x0 + 2) 0 ≤ x2 → K (.inl (some (0, x1))) d) ∧ (x2 < d (x0 + 2) 0 → tRun E 66 (17, [.inr (6, x0), .inl (0, x1), .inl (0, x2), .inl (0, 0), v4, v5], [], 0, 0, d) K)) :
  tRun E 66 (4, [.inr (6, x0), .inl (0, x1), .inl (0, x2), v3, v4, v5], [], 0, 0, d) K := tT_run (cut := [0, 4, 17, 43, 71]) 7 _ h
theorem t_66_17 {E : mO × tW} {K : tK} {d : mD} {x0 x1 x2 x3 : Int} {v4 v5 : tV}
  (h : (0 ≤ x2 ∧ x2 < 6) ∧ (mInR x3 ∧ mInR (d (x0 + 2 + 6) x2)) ∧ (d (x0 + 2 + 6) x2 ≤ x3 → tRun E 66 (4, [.inr (6, x0), .inl (0, x1), .inl (0, x2 + 1), .inl (0, x3), v4, v5], [], 0, 0, d) K) ∧ (x3 < d (x0 + 2 + 6) x2 → tCall E 43 [.inr (3, x0 + 2), .inl (0, x2), .inl (0, x3), .inl (0, d x0 2)] d (tbk E 66 40 [.inr (6, x0), .inl (0, x1), .inl (0, x2), .inl (0, x3), v4, v5] [] 0 0 K))) :
  tRun E 66 (17, [.inr (6, x0), .inl (0, x1), .inl (0, x2), .inl (0, x3), v4, v5], [], 0, 0, d) K := tT_run (cut := [0, 4, 17, 43, 71]) 14 _ h
theorem t_66_43 {E : mO × tW} {K : tK} {d : mD} {x0 x1 x2 x3 y0 : Int} {v4 v5 : tV}
  (h : (mInR y0 ∧ mInR 200) ∧ (y0 ≤ 200 → tCall E 38 [.inr (3, x0 + 2), .inl (0, x2), .inl (0, x3)] d (tbk E 66 68 [.inr (6, x0), .inl (0, x1), .inl (0, x2), .inl (0, x3), .inl (0, y0), v5] [.inr (21, x0 + 49 + 3)] 0 0 K)) ∧ (200 < y0 → K (.inl (some (0, (-1)))) d)) :
  tRun E 66 (43, [.inr (6, x0), .inl (0, x1), .inl (0, x2), .inl (0, x3), v4, v5], [.inl (0, y0)], 0, 0, d) K := tT_run (cut := [0, 4, 17, 43, 71]) 12 _ h
theorem t_66_71 {E : mO × tW} {K : tK} {d : mD} {x0 x1 x2 x3 x4 y0 y1 : Int} {v5 : tV}
  (h : (0 ≤ y1 ∧ y1 < 60) ∧ (mInR x1 ∧ mInR (((d x0 2) + x4) - (d y0 y1))) ∧ tRun E 66 (17, [.inr (6, x0), .inl (0, mmax x1 (((d x0 2) + x4) - (d y0 y1))), .inl (0, x2), .inl (0, x3 + 1), .inl (0, x4), .inl (0, d y0 y1)], [], 0, 0, d) K) :
  tRun E 66 (71, [.inr (6, x0), .inl (0, x1), .inl (0, x2), .inl (0, x3), .inl (0, x4), v5], [.inl (0, y1), .inr (21, y0)], 0, 0, d) K := tT_run (cut := [0, 4, 17, 43, 71]) 13 _ h
theorem t_67_0 {E : mO × tW} {K : tK} {d : mD} {x0 x1 : Int}
  (h : (mInR ((d x0 2) + x1) ∧ mInR 999) ∧ (999 < (d x0 2) + x1 → ((0 : Int) = 0 ∨ (0 : Int) = 1) ∧ K (.inl (some (0, 0))) d) ∧ ((d x0 2) + x1 ≤ 999 → ((1 : Int) = 0 ∨ (1 : Int) = 1) ∧ K (.inl (some (0, 1))) d)) :
  tRun E 67 (0, [.inr (6, x0), .inl (0, x1)], [], 0, 0, d) K := tT_run (cut := [0]) 9 _ h
theorem t_68_0 {E : mO × tW} {K : tK} {d : mD} {x0 x1 : Int}
  (h : tRun E 68 (4, [.inr (6, x0), .inl (0, x1), .inl (0, 0), .inl (0, 0), tu], [], 0, 0, d) K) :
  tRun E 68 (0, [.inr (6, x0), .inl (0, x1), tu, tu, tu], [], 0, 0, d) K := tT_run (cut := [0, 4, 22, 41, 63, 67]) 4 _ h
theorem t_68_4 {E : mO × tW} {K : tK} {d : mD} {x0 x1 x2 x3 : Int} {v4 : tV}
  (h : (mInR x3 ∧ mInR x1) ∧ (x1 ≤ x3 → K (.inl (some (0, x2))) d) ∧ (x3 < x1 → tRun E 68 (22, [.inr (6, x0), .inl (0, x1), .inl (0, x2), .inl (0, x3), .inl (0, 0)], [], 0, 0, mset d x0 2 ((d x0 2) + 1)) K)) :
  tRun E 68 (4, [.inr (6, x0), .inl (0, x1), .inl (0, x2), .inl (0, x3), v4], [], 0, 0, d) K := tT_run (cut := [0, 4, 22, 41, 63, 67]) 11 _ h
theorem t_68_22 {E : mO × tW} {K : tK} {d : mD} {x0 x1 x2 x3 x4 : Int}
  (h : (mInR x4 ∧ mInR (d (x0 + 2) 0)) ∧ (d (x0 + 2) 0 ≤ x4 → (0 ≤ d x0 2 ∧ d x0 2 ≤ 2147483647 ∧ 0 < (20 : Int) ∧ (20 : Int) ≤ 2147483647) ∧ mInR ((d x0 2) % 20) ∧ (¬ (d x0 2) % 20 = 0 → tRun E 68 (63, [.inr (6, x0), .inl (0, x1), .inl (0, x2), .inl (0, x3), .inl (0, x4)], [], 0, 0, d) K) ∧ ((d x0 2) % 20 = 0 → tCall E 70 [.inr (6, x0)] d (tbk E 68 60 [.inr (6, x0), .inl (0, x1), .inl (0, x2), .inl (0, x3), .inl (0, x4)] [] 0 0 K))) ∧ (x4 < d (x0 + 2) 0 → tCall E 69 [.inr (6, x0), .inl (0, x4)] d (tbk E 68 38 [.inr (6, x0), .inl (0, x1), .inl (0, x2), .inl (0, x3), .inl (0, x4)] [.inl (0, x2)] 0 0 K))) :
  tRun E 68 (22, [.inr (6, x0), .inl (0, x1), .inl (0, x2), .inl (0, x3), .inl (0, x4)], [], 0, 0, d) K := tT_run (cut := [0, 4, 22, 41, 63, 67]) 12 _ h
theorem t_68_41 {E : mO × tW} {K : tK} {d : mD} {x0 x1 x2 x3 x4 y0 y1 : Int}
  (h : tRun E 68 (22, [.inr (6, x0), .inl (0, x1), .inl (0, y0 + y1), .inl (0, x3), .inl (0, x4 + 1)], [], 0, 0, d) K) :
  tRun E 68 (41, [.inr (6, x0), .inl (0, x1), .inl (0, x2), .inl (0, x3), .inl (0, x4)], [.inl (0, y1), .inl (0, y0)], 0, 0, d) K := tT_run (cut := [0, 4, 22, 41, 63, 67]) 4 _ h
theorem t_68_63 {E : mO × tW} {K : tK} {d : mD} {x0 x1 x2 x3 x4 : Int}
  (h : tCall E 82 [.inr (6, x0)] d (tbk E 68 64 [.inr (6, x0), .inl (0, x1), .inl (0, x2), .inl (0, x3), .inl (0, x4)] [] 0 0 K)) :
  tRun E 68 (63, [.inr (6, x0), .inl (0, x1), .inl (0, x2), .inl (0, x3), .inl (0, x4)], [], 0, 0, d) K := tT_run (cut := [0, 4, 22, 41, 63, 67]) 2 _ h
theorem t_68_67 {E : mO × tW} {K : tK} {d : mD} {x0 x1 x2 x3 x4 y0 : Int}
  (h : tRun E 68 (4, [.inr (6, x0), .inl (0, x1), .inl (0, x2), .inl (0, x3 + 1), .inl (0, x4)], [], 0, 0, d) K) :
  tRun E 68 (67, [.inr (6, x0), .inl (0, x1), .inl (0, x2), .inl (0, x3), .inl (0, x4)], [.inl (0, y0)], 0, 0, d) K := tT_run (cut := [0, 4, 22, 41, 63, 67]) 3 _ h
theorem t_69_0 {E : mO × tW} {K : tK} {d : mD} {x0 x1 : Int}
  (h : tCall E 42 [.inr (3, x0 + 2), .inl (0, x1), .inl (0, d x0 2)] d (tbk E 69 9 [.inr (6, x0), .inl (0, x1), tu, tu] [] 0 0 K)) :
  tRun E 69 (0, [.inr (6, x0), .inl (0, x1), tu, tu], [], 0, 0, d) K := tT_run (cut := [0, 12, 15, 33, 41, 50]) 6 _ h
theorem t_69_12 {E : mO × tW} {K : tK} {d : mD} {x0 x1 y0 : Int}
  (h : tRun E 69 (15, [.inr (6, x0), .inl (0, x1), .inl (0, y0), .inl (0, 0)], [], 0, 0, d) K) :
  tRun E 69 (12, [.inr (6, x0), .inl (0, x1), tu, tu], [.inl (0, y0)], 0, 0, d) K := tT_run (cut := [0, 12, 15, 33, 41, 50]) 3 _ h
theorem t_69_15 {E : mO × tW} {K : tK} {d : mD} {x0 x1 x2 x3 : Int}
  (h : (mInR x3 ∧ mInR x2) ∧ (x2 ≤ x3 → K (.inl (some (0, x2))) d) ∧ (x3 < x2 → tCall E 38 [.inr (3, x0 + 2), .inl (0, x1), .inl (0, 0)] d (tbk E 69 30 [.inr (6, x0), .inl (0, x1), .inl (0, x2), .inl (0, x3)] [.inr (8, x0 + 49)] 0 0 K))) :
  tRun E 69 (15, [.inr (6, x0), .inl (0, x1), .inl (0, x2), .inl (0, x3)], [], 0, 0, d) K := tT_run (cut := [0, 12, 15, 33, 41, 50]) 10 _ h
theorem t_69_33 {E : mO × tW} {K : tK} {d : mD} {x0 x1 x2 x3 y0 y1 : Int}
  (h : tCall E 97 [.inr (8, y0), .inl (0, y1), .inl (0, 1), .inl (0, d x0 2)] d (tbk E 69 38 [.inr (6, x0), .inl (0, x1), .inl (0, x2), .inl (0, x3)] [] 0 0 K)) :
  tRun E 69 (33, [.inr (6, x0), .inl (0, x1), .inl (0, x2), .inl (0, x3)], [.inl (0, y1), .inr (8, y0)], 0, 0, d) K := tT_run (cut := [0, 12, 15, 33, 41, 50]) 4 _ h
theorem t_69_41 {E : mO × tW} {K : tK} {d : mD} {x0 x1 x2 x3 : Int}
  (h : tCall E 41 [.inr (3, x0 + 2), .inl (0, x1), .inl (0, 0)] d (tbk E 69 47 [.inr (6, x0), .inl (0, x1), .inl (0, x2), .inl (0, x3)] [] 0 0 K)) :
  tRun E 69 (41, [.inr (6, x0), .inl (0, x1), .inl (0, x2), .inl (0, x3)], [], 0, 0, d) K := tT_run (cut := [0, 12, 15, 33, 41, 50]) 5 _ h
theorem t_69_50 {E : mO × tW} {K : tK} {d : mD} {x0 x1 x2 x3 : Int}
  (h : tRun E 69 (15, [.inr (6, x0), .inl (0, x1), .inl (0, x2), .inl (0, x3 + 1)], [], 0, 0, d) K) :
  tRun E 69 (50, [.inr (6, x0), .inl (0, x1), .inl (0, x2), .inl (0, x3)], [], 0, 0, d) K := tT_run (cut := [0, 12, 15, 33, 41, 50]) 2 _ h
theorem t_70_0 {E : mO × tW} {K : tK} {d : mD} {x0 : Int}
  (h : tCall E 49 [.inr (4, x0 + 10)] d (tbk E 70 4 [.inr (6, x0), tu] [] 0 0 K)) :
  tRun E 70 (0, [.inr (6, x0), tu], [], 0, 0, d) K := tT_run (cut := [0, 7, 9, 38]) 3 _ h
theorem t_70_7 {E : mO × tW} {K : tK} {d : mD} {x0 : Int}
  (h : tRun E 70 (9, [.inr (6, x0), .inl (0, 0)], [], 0, 0, d) K) :
  tRun E 70 (7, [.inr (6, x0), tu], [], 0, 0, d) K := tT_run (cut := [0, 7, 9, 38]) 2 _ h
theorem t_70_9 {E : mO × tW} {K : tK} {d : mD} {x0 x1 : Int}
  (h : (mInR x1 ∧ mInR (d (x0 + 49) 0)) ∧ (d (x0 + 49) 0 ≤ x1 → K (.inl none) d) ∧ (x1 < d (x0 + 49) 0 → (0 ≤ x1 ∧ x1 < 60) ∧ (mInR (d (x0 + 49 + 6) x1) ∧ mInR 2) ∧ (¬ d (x0 + 49 + 6) x1 = 2 → tRun E 70 (9, [.inr (6, x0), .inl (0, x1 + 1)], [], 0, 0, d) K) ∧ (d (x0 + 49 + 6) x1 = 2 → tCall E 81 [.inr (6, x0), .inl (0, x1)] d (tbk E 70 35 [.inr (6, x0), .inl (0, x1)] [] 0 0 K)))) :
  tRun E 70 (9, [.inr (6, x0), .inl (0, x1)], [], 0, 0, d) K := tT_run (cut := [0, 7, 9, 38]) 15 _ h
theorem t_70_38 {E : mO × tW} {K : tK} {d : mD} {x0 x1 y0 : Int}
  (h : tRun E 70 (9, [.inr (6, x0), .inl (0, x1 + 1)], [], 0, 0, d) K) :
  tRun E 70 (38, [.inr (6, x0), .inl (0, x1)], [.inl (0, y0)], 0, 0, d) K := tT_run (cut := [0, 7, 9, 38]) 3 _ h
theorem t_71_0 {E : mO × tW} {K : tK} {d : mD} {x0 x1 : Int}
  (h : (0 ≤ x1 ∧ x1 < 60) ∧ (0 ≤ (0 : Int) ∧ (0 : Int) < 5) ∧ tCall E 98 [.inr (8, x0 + 49), .inl (0, x1), .inl (0, d x0 2)] d (tbk E 71 27 [.inr (6, x0), .inl (0, x1), .inl (0, (d (x0 + 49 + 3) x1) + (d (x0 + 1) 0))] [.inl (0, 0)] 0 0 K)) :
  tRun E 71 (0, [.inr (6, x0), .inl (0, x1), tu], [], 0, 0, d) K := tT_run (cut := [0, 30]) 18 _ h
theorem t_71_30 {E : mO × tW} {K : tK} {d : mD} {x0 x1 x2 y0 y1 : Int}
  (h : (mInR y0 ∧ mInR (y1 - x2)) ∧ K (.inl (some (0, mmax y0 (y1 - x2)))) d) :
  tRun E 71 (30, [.inr (6, x0), .inl (0, x1), .inl (0, x2)], [.inl (0, y1), .inl (0, y0)], 0, 0, d) K := tT_run (cut := [0, 30]) 4 _ h
theorem t_72_0 {E : mO × tW} {K : tK} {d : mD} {x0 x1 x2 : Int}
  (h : tCall E 8 [.inr (1, x2)] d (tbk E 72 1 [.inr (6, x0), .inl (0, x1), .inr (1, x2), tu, tu, tu] [] 0 0 K)) :
  tRun E 72 (0, [.inr (6, x0), .inl (0, x1), .inr (1, x2), tu, tu, tu], [], 0, 0, d) K := tT_run (cut := [0, 4, 6, 72, 85]) 2 _ h
theorem t_72_4 {E : mO × tW} {K : tK} {d : mD} {x0 x1 x2 : Int}
  (h : tRun E 72 (6, [.inr (6, x0), .inl (0, x1), .inr (1, x2), .inl (0, 0), tu, tu], [], 0, 0, d) K) :
  tRun E 72 (4, [.inr (6, x0), .inl (0, x1), .inr (1, x2), tu, tu, tu], [], 0, 0, d) K := tT_run (cut := [0, 4, 6, 72, 85]) 2 _ h
theorem t_72_6 {E : mO × tW} {K : tK} {d : mD} {x0 x1 x2 x3 : Int} {v4 v5 : tV}
  (h : (mInR x3 ∧ mInR (d (x0 + 49) 0)) ∧ (d (x0 + 49) 0 ≤ x3 → K (.inl none) d) ∧ (x3 < d (x0 + 49) 0 → (0 ≤ x3 ∧ x3 < 60) ∧ (mInR (d (x0 + 49 + 1) x3) ∧ mInR x1) ∧ (¬ d (x0 + 49 + 1) x3 = x1 → tRun E 72 (6, [.inr (6, x0), .inl (0, x1), .inr (1, x2), .inl (0, x3 + 1), v4, v5], [], 0, 0, d) K) ∧ (d (x0 + 49 + 1) x3 = x1 → (0 ≤ x3 ∧ x3 < 60) ∧ (mInR (d (x0 + 49 + 5) x3) ∧ mInR 1) ∧ (¬ d (x0 + 49 + 5) x3 = 1 → tRun E 72 (6, [.inr (6, x0), .inl (0, x1), .inr (1, x2), .inl (0, x3 + 1), v4, v5], [], 0, 0, d) K) ∧ (d (x0 + 49 + 5) x3 = 1 → (0 ≤ x3 ∧ x3 < 60) ∧ (0 ≤ x3 ∧ x3 < 60) ∧ (0 ≤ (0 : Int) ∧ (0 : Int) < 5) ∧ tRun E 72 (72, [.inr (6, x0), .inl (0, x1), .inr (1, x2), .inl (0, x3), .inl (0, d (x0 + 49 + 4) x3), .inl (0, (d (x0 + 49 + 3) x3) + (d (x0 + 1) 0))], [], 0, 0, d) K)))) :
  tRun E 72 (6, [.inr (6, x0), .inl (0, x1), .inr (1, x2), .inl (0, x3), v4, v5], [], 0, 0, d) K := tT_run (cut := [0, 4, 6, 72, 85]) 36 _ h
theorem t_72_72 {E : mO × tW} {K : tK} {d : mD} {x0 x1 x2 x3 x4 x5 : Int}
  (h : (mInR x5 ∧ mInR x4) ∧ (x4 ≤ x5 → tRun E 72 (6, [.inr (6, x0), .inl (0, x1), .inr (1, x2), .inl (0, x3 + 1), .inl (0, x4), .inl (0, x5)], [], 0, 0, d) K) ∧ (x5 < x4 → tCall E 7 [.inr (1, x2), .inl (0, x5)] d (tbk E 72 82 [.inr (6, x0), .inl (0, x1), .inr (1, x2), .inl (0, x3), .inl (0, x4), .inl (0, x5)] [] 0 0 K))) :
  tRun E 72 (72, [.inr (6, x0), .inl (0, x1), .inr (1, x2), .inl (0, x3), .inl (0, x4), .inl (0, x5)], [], 0, 0, d) K := tT_run (cut := [0, 4, 6, 72, 85]) 6 _ h
theorem t_72_85 {E : mO × tW} {K : tK} {d : mD} {x0 x1 x2 x3 x4 x5 : Int}
  (h : tRun E 72 (72, [.inr (6, x0), .inl (0, x1), .inr (1, x2), .inl (0, x3), .inl (0, x4), .inl (0, x5 + 1)], [], 0, 0, d) K) :
  tRun E 72 (85, [.inr (6, x0), .inl (0, x1), .inr (1, x2), .inl (0, x3), .inl (0, x4), .inl (0, x5)], [], 0, 0, d) K := tT_run (cut := [0, 4, 6, 72, 85]) 2 _ h
theorem t_73_0 {E : mO × tW} {K : tK} {d : mD} {x0 x1 : Int}
  (h : (0 ≤ x1 ∧ x1 < 60) ∧ (mInR (d (x0 + 49 + 5) x1) ∧ mInR 1) ∧ (¬ d (x0 + 49 + 5) x1 = 1 → ((0 : Int) = 0 ∨ (0 : Int) = 1) ∧ K (.inl (some (0, 0))) d) ∧ (d (x0 + 49 + 5) x1 = 1 → (0 ≤ x1 ∧ x1 < 60) ∧ mInR (d (x0 + 49 + 6) x1) ∧ (¬ d (x0 + 49 + 6) x1 = 0 → ((0 : Int) = 0 ∨ (0 : Int) = 1) ∧ K (.inl (some (0, 0))) d) ∧ (d (x0 + 49 + 6) x1 = 0 → ((1 : Int) = 0 ∨ (1 : Int) = 1) ∧ K (.inl (some (0, 1))) d))) :
  tRun E 73 (0, [.inr (6, x0), .inl (0, x1)], [], 0, 0, d) K := tT_run (cut := [0]) 16 _ h
theorem t_74_0 {E : mO × tW} {K : tK} {d : mD} {x0 x1 : Int}
  (h : (0 ≤ x1 ∧ x1 < 60) ∧ (0 ≤ (1 : Int) ∧ (1 : Int) < 5) ∧ mInR ((mset d (x0 + 49 + 6) x1 1) (x0 + 1) 1) ∧ (¬ (mset d (x0 + 49 + 6) x1 1) (x0 + 1) 1 = 0 → K (.inl (some (0, 0))) (mset d (x0 + 49 + 6) x1 1)) ∧ ((mset d (x0 + 49 + 6) x1 1) (x0 + 1) 1 = 0 → tCall E 76 [.inr (6, x0), .inl (0, x1)] (mset d (x0 + 49 + 6) x1 1) (tbk E 74 21 [.inr (6, x0), .inl (0, x1)] [] 0 0 K))) :
  tRun E 74 (0, [.inr (6, x0), .inl (0, x1)], [], 0, 0, d) K := tT_run (cut := [0, 24]) 14 _ h
theorem t_74_24 {E : mO × tW} {K : tK} {d : mD} {x0 x1 y0 : Int}
  (h : K (.inl (some (0, y0))) d) :
  tRun E 74 (24, [.inr (6, x0), .inl (0, x1)], [.inl (0, y0)], 0, 0, d) K := tT_run (cut := [0, 24]) 2 _ h
theorem t_75_0 {E : mO × tW} {K : tK} {d : mD} {x0 x1 x2 : Int}
  (h : (0 ≤ x1 ∧ x1 < 60) ∧ (0 ≤ x1 ∧ x1 < 60) ∧ (0 ≤ x2 ∧ x2 < 16) ∧ (0 ≤ x2 ∧ x2 < 16) ∧ (0 ≤ x2 ∧ x2 < 16) ∧ (0 ≤ x1 ∧ x1 < 60) ∧ (0 ≤ x2 ∧ x2 < 16) ∧ (0 ≤ x1 ∧ x1 < 60) ∧ tCall E 298 [.inl (0, (mset (mset (mset d (x0 + 49 + 7) x1 (mior (d (x0 + 49 + 7) x1) (mishl 1 x2))) (x0 + 10 + 4) x2 (((mset d (x0 + 49 + 7) x1 (mior (d (x0 + 49 + 7) x1) (mishl 1 x2))) (x0 + 10 + 4) x2) + 1)) (x0 + 10 + 5) x2 (mior ((mset (mset d (x0 + 49 + 7) x1 (mior (d (x0 + 49 + 7) x1) (mishl 1 x2))) (x0 + 10 + 4) x2 (((mset d (x0 + 49 + 7) x1 (mior (d (x0 + 49 + 7) x1) (mishl 1 x2))) (x0 + 10 + 4) x2) + 1)) (x0 + 10 + 5) x2) (mishl 1 ((mset (mset d (x0 + 49 + 7) x1 (mior (d (x0 + 49 + 7) x1) (mishl 1 x2))) (x0 + 10 + 4) x2 (((mset d (x0 + 49 + 7) x1 (mior (d (x0 + 49 + 7) x1) (mishl 1 x2))) (x0 + 10 + 4) x2) + 1)) (x0 + 49 + 1) x1)))) (x0 + 49 + 7) x1)] (mset (mset (mset d (x0 + 49 + 7) x1 (mior (d (x0 + 49 + 7) x1) (mishl 1 x2))) (x0 + 10 + 4) x2 (((mset d (x0 + 49 + 7) x1 (mior (d (x0 + 49 + 7) x1) (mishl 1 x2))) (x0 + 10 + 4) x2) + 1)) (x0 + 10 + 5) x2 (mior ((mset (mset d (x0 + 49 + 7) x1 (mior (d (x0 + 49 + 7) x1) (mishl 1 x2))) (x0 + 10 + 4) x2 (((mset d (x0 + 49 + 7) x1 (mior (d (x0 + 49 + 7) x1) (mishl 1 x2))) (x0 + 10 + 4) x2) + 1)) (x0 + 10 + 5) x2) (mishl 1 ((mset (mset d (x0 + 49 + 7) x1 (mior (d (x0 + 49 + 7) x1) (mishl 1 x2))) (x0 + 10 + 4) x2 (((mset d (x0 + 49 + 7) x1 (mior (d (x0 + 49 + 7) x1) (mishl 1 x2))) (x0 + 10 + 4) x2) + 1)) (x0 + 49 + 1) x1)))) (tbk E 75 60 [.inr (6, x0), .inl (0, x1), .inl (0, x2)] [] 0 0 K)) :
  tRun E 75 (0, [.inr (6, x0), .inl (0, x1), .inl (0, x2)], [], 0, 0, d) K := tT_run (cut := [0, 63, 77]) 41 _ h
theorem t_75_63 {E : mO × tW} {K : tK} {d : mD} {x0 x1 x2 y0 : Int}
  (h : (0 ≤ (1 : Int) ∧ (1 : Int) < 5) ∧ (mInR y0 ∧ mInR (d (x0 + 1) 1)) ∧ (y0 < d (x0 + 1) 1 → K (.inl (some (0, 0))) d) ∧ (d (x0 + 1) 1 ≤ y0 → tCall E 76 [.inr (6, x0), .inl (0, x1)] d (tbk E 75 74 [.inr (6, x0), .inl (0, x1), .inl (0, x2)] [] 0 0 K))) :
  tRun E 75 (63, [.inr (6, x0), .inl (0, x1), .inl (0, x2)], [.inl (0, y0)], 0, 0, d) K := tT_run (cut := [0, 63, 77]) 8 _ h
theorem t_75_77 {E : mO × tW} {K : tK} {d : mD} {x0 x1 x2 y0 : Int}
  (h : K (.inl (some (0, y0))) d) :
  tRun E 75 (77, [.inr (6, x0), .inl (0, x1), .inl (0, x2)], [.inl (0, y0)], 0, 0, d) K := tT_run (cut := [0, 63, 77]) 2 _ h
theorem t_76_0 {E : mO × tW} {K : tK} {d : mD} {x0 x1 : Int}
  (h : (0 ≤ x1 ∧ x1 < 60) ∧ tCall E 81 [.inr (6, x0), .inl (0, x1)] (mset d (x0 + 49 + 6) x1 2) (tbk E 76 12 [.inr (6, x0), .inl (0, x1)] [] 0 0 K)) :
  tRun E 76 (0, [.inr (6, x0), .inl (0, x1)], [], 0, 0, d) K := tT_run (cut := [0, 15]) 9 _ h
theorem t_76_15 {E : mO × tW} {K : tK} {d : mD} {x0 x1 y0 : Int}
  (h : K (.inl (some (0, y0))) d) :
  tRun E 76 (15, [.inr (6, x0), .inl (0, x1)], [.inl (0, y0)], 0, 0, d) K := tT_run (cut := [0, 15]) 1 _ h
theorem t_77_0 {E : mO × tW} {K : tK} {d : mD} {x0 x1 x2 : Int}
  (h : (0 ≤ x1 ∧ x1 < 60) ∧ (0 ≤ x1 ∧ x1 < 60) ∧ mInR (d (x0 + 49 + 6) x1) ∧ (¬ d (x0 + 49 + 6) x1 = 0 → (0 ≤ x1 ∧ x1 < 60) ∧ (mInR (d (x0 + 49 + 6) x1) ∧ mInR 2) ∧ (¬ d (x0 + 49 + 6) x1 = 2 → (mInR (d (x0 + 49 + 1) x1) ∧ mInR x2) ∧ (¬ d (x0 + 49 + 1) x1 = x2 → tCall E 99 [.inr (8, x0 + 49), .inl (0, x1), .inl (0, x2)] d (tbk E 77 52 [.inr (6, x0), .inl (0, x1), .inl (0, x2), .inl (0, d (x0 + 49 + 1) x1)] [] 0 0 K)) ∧ (d (x0 + 49 + 1) x1 = x2 → K (.inl (some (0, 3))) d)) ∧ (d (x0 + 49 + 6) x1 = 2 → K (.inl (some (0, 2))) d)) ∧ (d (x0 + 49 + 6) x1 = 0 → K (.inl (some (0, 1))) d)) :
  tRun E 77 (0, [.inr (6, x0), .inl (0, x1), .inl (0, x2), tu], [], 0, 0, d) K := tT_run (cut := [0, 55, 66]) 27 _ h
theorem t_77_55 {E : mO × tW} {K : tK} {d : mD} {x0 x1 x2 x3 y0 : Int}
  (h : mInR y0 ∧ (y0 = 0 → tCall E 78 [.inr (6, x0), .inl (0, x1), .inl (0, x2)] d (tbk E 77 63 [.inr (6, x0), .inl (0, x1), .inl (0, x2), .inl (0, x3)] [] 0 0 K)) ∧ (¬ y0 = 0 → K (.inl (some (0, 4))) d)) :
  tRun E 77 (55, [.inr (6, x0), .inl (0, x1), .inl (0, x2), .inl (0, x3)], [.inl (0, y0)], 0, 0, d) K := tT_run (cut := [0, 55, 66]) 5 _ h
theorem t_77_66 {E : mO × tW} {K : tK} {d : mD} {x0 x1 x2 x3 y0 : Int}
  (h : (0 ≤ (2 : Int) ∧ (2 : Int) < 5) ∧ (mInR y0 ∧ mInR (d (x0 + 1) 2)) ∧ (d (x0 + 1) 2 ≤ y0 → (0 ≤ x2 ∧ x2 < 16) ∧ (mInR (d (x0 + 10 + 4) x2) ∧ mInR 3) ∧ (d (x0 + 10 + 4) x2 < 3 → (0 ≤ x3 ∧ x3 < 16) ∧ mInR (miand (mishr (d (x0 + 10 + 5) x3) x2) 1) ∧ (miand (mishr (d (x0 + 10 + 5) x3) x2) 1 = 0 → K (.inl (some (0, 0))) d) ∧ (¬ miand (mishr (d (x0 + 10 + 5) x3) x2) 1 = 0 → K (.inl (some (0, 7))) d)) ∧ (3 ≤ d (x0 + 10 + 4) x2 → K (.inl (some (0, 6))) d)) ∧ (y0 < d (x0 + 1) 2 → K (.inl (some (0, 5))) d)) :
  tRun E 77 (66, [.inr (6, x0), .inl (0, x1), .inl (0, x2), .inl (0, x3)], [.inl (0, y0)], 0, 0, d) K := tT_run (cut := [0, 55, 66]) 25 _ h
theorem t_78_0 {E : mO × tW} {K : tK} {d : mD} {x0 x1 x2 : Int}
  (h : tRun E 78 (5, [.inr (6, x0), .inl (0, x1), .inl (0, x2), .inl (0, 0), .inl (0, 0), tu, tu], [], 0, 0, d) K) :
  tRun E 78 (0, [.inr (6, x0), .inl (0, x1), .inl (0, x2), tu, tu, tu, tu], [], 0, 0, d) K := tT_run (cut := [0, 5, 95, 108]) 4 _ h
theorem t_78_5 {E : mO × tW} {K : tK} {d : mD} {x0 x1 x2 x3 x4 : Int} {v5 v6 : tV}
  (h : (mInR x4 ∧ mInR (d (x0 + 49) 0)) ∧ (d (x0 + 49) 0 ≤ x4 → K (.inl (some (0, x3))) d) ∧ (x4 < d (x0 + 49) 0 → (mInR x4 ∧ mInR x1) ∧ (x4 = x1 → tRun E 78 (5, [.inr (6, x0), .inl (0, x1), .inl (0, x2), .inl (0, x3), .inl (0, x4 + 1), v5, v6], [], 0, 0, d) K) ∧ (¬ x4 = x1 → (0 ≤ x4 ∧ x4 < 60) ∧ (mInR (d (x0 + 49 + 1) x4) ∧ mInR x2) ∧ (¬ d (x0 + 49 + 1) x4 = x2 → tRun E 78 (5, [.inr (6, x0), .inl (0, x1), .inl (0, x2), .inl (0, x3), .inl (0, x4 + 1), v5, v6], [], 0, 0, d) K) ∧ (d (x0 + 49 + 1) x4 = x2 → (0 ≤ x4 ∧ x4 < 60) ∧ (0 ≤ x1 ∧ x1 < 60) ∧ (mInR (d (x0 + 49 + 2) x4) ∧ mInR (d (x0 + 49 + 2) x1)) ∧ (¬ d (x0 + 49 + 2) x4 = d (x0 + 49 + 2) x1 → tRun E 78 (5, [.inr (6, x0), .inl (0, x1), .inl (0, x2), .inl (0, x3), .inl (0, x4 + 1), v5, v6], [], 0, 0, d) K) ∧ (d (x0 + 49 + 2) x4 = d (x0 + 49 + 2) x1 → (0 ≤ x1 ∧ x1 < 60) ∧ (0 ≤ x4 ∧ x4 < 60) ∧ (mInR (d (x0 + 49 + 3) x1) ∧ mInR (d (x0 + 49 + 3) x4)) ∧ tCall E 98 [.inr (8, x0 + 49), .inl (0, x1), .inl (0, d x0 2)] d (tbk E 78 92 [.inr (6, x0), .inl (0, x1), .inl (0, x2), .inl (0, x3), .inl (0, x4), .inl (0, mmax (d (x0 + 49 + 3) x1) (d (x0 + 49 + 3) x4)), v6] [] 0 0 K)))))) :
  tRun E 78 (5, [.inr (6, x0), .inl (0, x1), .inl (0, x2), .inl (0, x3), .inl (0, x4), v5, v6], [], 0, 0, d) K := tT_run (cut := [0, 5, 95, 108]) 44 _ h
theorem t_78_95 {E : mO × tW} {K : tK} {d : mD} {x0 x1 x2 x3 x4 x5 y0 : Int} {v6 : tV}
  (h : tCall E 98 [.inr (8, x0 + 49), .inl (0, x4), .inl (0, d x0 2)] d (tbk E 78 105 [.inr (6, x0), .inl (0, x1), .inl (0, x2), .inl (0, x3), .inl (0, x4), .inl (0, x5), v6] [.inl (0, y0)] 0 0 K)) :
  tRun E 78 (95, [.inr (6, x0), .inl (0, x1), .inl (0, x2), .inl (0, x3), .inl (0, x4), .inl (0, x5), v6], [.inl (0, y0)], 0, 0, d) K := tT_run (cut := [0, 5, 95, 108]) 6 _ h
theorem t_78_108 {E : mO × tW} {K : tK} {d : mD} {x0 x1 x2 x3 x4 x5 y0 y1 : Int} {v6 : tV}
  (h : (mInR y0 ∧ mInR y1) ∧ (mInR x3 ∧ mInR ((mmin y0 y1) - x5)) ∧ tRun E 78 (5, [.inr (6, x0), .inl (0, x1), .inl (0, x2), .inl (0, mmax x3 ((mmin y0 y1) - x5)), .inl (0, x4 + 1), .inl (0, x5), .inl (0, mmin y0 y1)], [], 0, 0, d) K) :
  tRun E 78 (108, [.inr (6, x0), .inl (0, x1), .inl (0, x2), .inl (0, x3), .inl (0, x4), .inl (0, x5), v6], [.inl (0, y1), .inl (0, y0)], 0, 0, d) K := tT_run (cut := [0, 5, 95, 108]) 10 _ h
theorem t_79_0 {E : mO × tW} {K : tK} {d : mD} {x0 x1 : Int}
  (h : (0 ≤ (3 : Int) ∧ (3 : Int) < 5) ∧ (0 ≤ x1 ∧ x1 < 16) ∧ (mInR ((d (x0 + 1) 3) - (d (x0 + 10 + 3) x1)) ∧ mInR (200 - (d (x0 + 57) 0))) ∧ K (.inl (some (0, mmin ((d (x0 + 1) 3) - (d (x0 + 10 + 3) x1)) (200 - (d (x0 + 57) 0))))) d) :
  tRun E 79 (0, [.inr (6, x0), .inl (0, x1)], [], 0, 0, d) K := tT_run (cut := [0]) 17 _ h
theorem t_80_0 {E : mO × tW} {K : tK} {d : mD} {x0 x1 : Int}
  (h : (0 ≤ x1 ∧ x1 < 60) ∧ (0 ≤ x1 ∧ x1 < 60) ∧ (0 ≤ x1 ∧ x1 < 60) ∧ (0 ≤ (0 : Int) ∧ (0 : Int) < 5) ∧ tRun E 80 (41, [.inr (6, x0), .inl (0, x1), .inl (0, d (x0 + 49 + 1) x1), .inl (0, d (x0 + 49 + 4) x1), .inl (0, 0), .inl (0, (d (x0 + 49 + 3) x1) + (d (x0 + 1) 0))], [], 0, 0, d) K) :
  tRun E 80 (0, [.inr (6, x0), .inl (0, x1), tu, tu, tu, tu], [], 0, 0, d) K := tT_run (cut := [0, 41, 63, 88]) 25 _ h
theorem t_80_41 {E : mO × tW} {K : tK} {d : mD} {x0 x1 x2 x3 x4 x5 : Int}
  (h : (mInR x5 ∧ mInR x3) ∧ (x3 ≤ x5 → tCall E 79 [.inr (6, x0), .inl (0, x2)] d (tbk E 80 85 [.inr (6, x0), .inl (0, x1), .inl (0, x2), .inl (0, x3), .inl (0, x4), .inl (0, x5)] [.inl (0, x4), .inl (0, 0)] 0 0 K)) ∧ (x5 < x3 → (0 ≤ x2 ∧ x2 < 16) ∧ tCall E 6 [.inr (1, x0 + 10 + 6 + (1 + 2 * x2)), .inl (0, x5)] d (tbk E 80 60 [.inr (6, x0), .inl (0, x1), .inl (0, x2), .inl (0, x3), .inl (0, x4), .inl (0, x5)] [.inl (0, x4)] 0 0 K))) :
  tRun E 80 (41, [.inr (6, x0), .inl (0, x1), .inl (0, x2), .inl (0, x3), .inl (0, x4), .inl (0, x5)], [], 0, 0, d) K := tT_run (cut := [0, 41, 63, 88]) 11 _ h
theorem t_80_63 {E : mO × tW} {K : tK} {d : mD} {x0 x1 x2 x3 x4 x5 y0 y1 : Int}
  (h : mInR y1 ∧ (y1 = 0 → tRun E 80 (41, [.inr (6, x0), .inl (0, x1), .inl (0, x2), .inl (0, x3), .inl (0, y0 + 1), .inl (0, x5 + 1)], [], 0, 0, d) K) ∧ (¬ y1 = 0 → tRun E 80 (41, [.inr (6, x0), .inl (0, x1), .inl (0, x2), .inl (0, x3), .inl (0, y0 + 0), .inl (0, x5 + 1)], [], 0, 0, d) K)) :
  tRun E 80 (63, [.inr (6, x0), .inl (0, x1), .inl (0, x2), .inl (0, x3), .inl (0, x4), .inl (0, x5)], [.inl (0, y1), .inl (0, y0)], 0, 0, d) K := tT_run (cut := [0, 41, 63, 88]) 7 _ h
theorem t_80_88 {E : mO × tW} {K : tK} {d : mD} {x0 x1 x2 x3 x4 x5 y0 y1 y2 : Int}
  (h : (mInR y1 ∧ mInR y2) ∧ (mInR y0 ∧ mInR (mmin y1 y2)) ∧ K (.inl (some (0, mmax y0 (mmin y1 y2)))) d) :
  tRun E 80 (88, [.inr (6, x0), .inl (0, x1), .inl (0, x2), .inl (0, x3), .inl (0, x4), .inl (0, x5)], [.inl (0, y2), .inl (0, y1), .inl (0, y0)], 0, 0, d) K := tT_run (cut := [0, 41, 63, 88]) 3 _ h
theorem t_81_0 {E : mO × tW} {K : tK} {d : mD} {x0 x1 : Int}
  (h : (0 ≤ x1 ∧ x1 < 60) ∧ (0 ≤ x1 ∧ x1 < 60) ∧ tCall E 79 [.inr (6, x0), .inl (0, d (x0 + 49 + 1) x1)] d (tbk E 81 22 [.inr (6, x0), .inl (0, x1), .inl (0, d (x0 + 49 + 1) x1), .inl (0, d (x0 + 49 + 4) x1), tu, tu, tu] [] 0 0 K)) :
  tRun E 81 (0, [.inr (6, x0), .inl (0, x1), tu, tu, tu, tu, tu], [], 0, 0, d) K := tT_run (cut := [0, 25, 48, 75, 92, 103]) 15 _ h
theorem t_81_25 {E : mO × tW} {K : tK} {d : mD} {x0 x1 x2 x3 y0 : Int}
  (h : (0 ≤ x1 ∧ x1 < 60) ∧ (0 ≤ (0 : Int) ∧ (0 : Int) < 5) ∧ tRun E 81 (48, [.inr (6, x0), .inl (0, x1), .inl (0, x2), .inl (0, x3), .inl (0, y0), .inl (0, 0), .inl (0, (d (x0 + 49 + 3) x1) + (d (x0 + 1) 0))], [], 0, 0, d) K) :
  tRun E 81 (25, [.inr (6, x0), .inl (0, x1), .inl (0, x2), .inl (0, x3), tu, tu, tu], [.inl (0, y0)], 0, 0, d) K := tT_run (cut := [0, 25, 48, 75, 92, 103]) 14 _ h
theorem t_81_48 {E : mO × tW} {K : tK} {d : mD} {x0 x1 x2 x3 x4 x5 x6 : Int}
  (h : (mInR x6 ∧ mInR x3) ∧ (x3 ≤ x6 → (0 ≤ x2 ∧ x2 < 16) ∧ (0 ≤ x2 ∧ x2 < 16) ∧ K (.inl (some (0, x5))) (mset d (x0 + 10 + 3) x2 ((d (x0 + 10 + 3) x2) + x5))) ∧ (x6 < x3 → (mInR x5 ∧ mInR x4) ∧ (x4 ≤ x5 → (0 ≤ x2 ∧ x2 < 16) ∧ (0 ≤ x2 ∧ x2 < 16) ∧ K (.inl (some (0, x5))) (mset d (x0 + 10 + 3) x2 ((d (x0 + 10 + 3) x2) + x5))) ∧ (x5 < x4 → (0 ≤ x2 ∧ x2 < 16) ∧ tCall E 6 [.inr (1, x0 + 10 + 6 + (1 + 2 * x2)), .inl (0, x6)] d (tbk E 81 72 [.inr (6, x0), .inl (0, x1), .inl (0, x2), .inl (0, x3), .inl (0, x4), .inl (0, x5), .inl (0, x6)] [] 0 0 K)))) :
  tRun E 81 (48, [.inr (6, x0), .inl (0, x1), .inl (0, x2), .inl (0, x3), .inl (0, x4), .inl (0, x5), .inl (0, x6)], [], 0, 0, d) K := tT_run (cut := [0, 25, 48, 75, 92, 103]) 17 _ h
theorem t_81_75 {E : mO × tW} {K : tK} {d : mD} {x0 x1 x2 x3 x4 x5 x6 y0 : Int}
  (h : mInR y0 ∧ (¬ y0 = 0 → tRun E 81 (48, [.inr (6, x0), .inl (0, x1), .inl (0, x2), .inl (0, x3), .inl (0, x4), .inl (0, x5), .inl (0, x6 + 1)], [], 0, 0, d) K) ∧ (y0 = 0 → (0 ≤ x2 ∧ x2 < 16) ∧ tCall E 7 [.inr (1, x0 + 10 + 6 + (1 + 2 * x2)), .inl (0, x6)] d (tbk E 81 89 [.inr (6, x0), .inl (0, x1), .inl (0, x2), .inl (0, x3), .inl (0, x4), .inl (0, x5), .inl (0, x6)] [] 0 0 K))) :
  tRun E 81 (75, [.inr (6, x0), .inl (0, x1), .inl (0, x2), .inl (0, x3), .inl (0, x4), .inl (0, x5), .inl (0, x6)], [.inl (0, y0)], 0, 0, d) K := tT_run (cut := [0, 25, 48, 75, 92, 103]) 8 _ h
theorem t_81_92 {E : mO × tW} {K : tK} {d : mD} {x0 x1 x2 x3 x4 x5 x6 : Int}
  (h : tCall E 109 [.inr (9, x0 + 57), .inl (0, x2), .inl (0, x1), .inl (0, x6)] d (tbk E 81 100 [.inr (6, x0), .inl (0, x1), .inl (0, x2), .inl (0, x3), .inl (0, x4), .inl (0, x5), .inl (0, x6)] [] 0 0 K)) :
  tRun E 81 (92, [.inr (6, x0), .inl (0, x1), .inl (0, x2), .inl (0, x3), .inl (0, x4), .inl (0, x5), .inl (0, x6)], [], 0, 0, d) K := tT_run (cut := [0, 25, 48, 75, 92, 103]) 6 _ h
theorem t_81_103 {E : mO × tW} {K : tK} {d : mD} {x0 x1 x2 x3 x4 x5 x6 : Int}
  (h : tRun E 81 (48, [.inr (6, x0), .inl (0, x1), .inl (0, x2), .inl (0, x3), .inl (0, x4), .inl (0, x5 + 1), .inl (0, x6 + 1)], [], 0, 0, d) K) :
  tRun E 81 (103, [.inr (6, x0), .inl (0, x1), .inl (0, x2), .inl (0, x3), .inl (0, x4), .inl (0, x5), .inl (0, x6)], [], 0, 0, d) K := tT_run (cut := [0, 25, 48, 75, 92, 103]) 3 _ h
theorem t_82_0 {E : mO × tW} {K : tK} {d : mD} {x0 : Int}
  (h : (0 ≤ (4 : Int) ∧ (4 : Int) < 5) ∧ tRun E 82 (9, [.inr (6, x0), .inl (0, 0), .inl (0, d (x0 + 1) 4), tu], [], 0, 0, d) K) :
  tRun E 82 (0, [.inr (6, x0), tu, tu, tu], [], 0, 0, d) K := tT_run (cut := [0, 9, 93]) 7 _ h
theorem t_82_9 {E : mO × tW} {K : tK} {d : mD} {x0 x1 x2 : Int} {v3 : tV}
  (h : (mInR x1 ∧ mInR (d (x0 + 57) 5)) ∧ (d (x0 + 57) 5 ≤ x1 → tCall E 116 [.inr (9, x0 + 57), .inl (0, x1)] d (tbk E 82 90 [.inr (6, x0), .inl (0, x1), .inl (0, x2), v3] [] 0 0 K)) ∧ (x1 < d (x0 + 57) 5 → (mInR (d x0 1) ∧ mInR x2) ∧ (d x0 1 < x2 → tCall E 116 [.inr (9, x0 + 57), .inl (0, x1)] d (tbk E 82 90 [.inr (6, x0), .inl (0, x1), .inl (0, x2), v3] [] 0 0 K)) ∧ (x2 ≤ d x0 1 → (0 ≤ x1 ∧ x1 < 200) ∧ (0 ≤ d (x0 + 57 + 5) x1 ∧ d (x0 + 57 + 5) x1 < 200) ∧ (0 ≤ (mset d x0 1 ((d x0 1) - x2)) (x0 + 57 + 1) (d (x0 + 57 + 5) x1) ∧ (mset d x0 1 ((d x0 1) - x2)) (x0 + 57 + 1) (d (x0 + 57 + 5) x1) < 16) ∧ (0 ≤ (mset d x0 1 ((d x0 1) - x2)) (x0 + 57 + 1) (d (x0 + 57 + 5) x1) ∧ (mset d x0 1 ((d x0 1) - x2)) (x0 + 57 + 1) (d (x0 + 57 + 5) x1) < 16) ∧ (0 ≤ d (x0 + 57 + 5) x1 ∧ d (x0 + 57 + 5) x1 < 200) ∧ tRun E 82 (9, [.inr (6, x0), .inl (0, x1 + 1), .inl (0, x2), .inl (0, d (x0 + 57 + 5) x1)], [], 0, 0, mset (mset (mset d x0 1 ((d x0 1) - x2)) (x0 + 10 + 2) ((mset d x0 1 ((d x0 1) - x2)) (x0 + 57 + 1) (d (x0 + 57 + 5) x1)) (((mset d x0 1 ((d x0 1) - x2)) (x0 + 10 + 2) ((mset d x0 1 ((d x0 1) - x2)) (x0 + 57 + 1) (d (x0 + 57 + 5) x1))) + x2)) (x0 + 57 + 4) (d (x0 + 57 + 5) x1) 2) K))) :
  tRun E 82 (9, [.inr (6, x0), .inl (0, x1), .inl (0, x2), v3], [], 0, 0, d) K := tT_run (cut := [0, 9, 93]) 42 _ h
theorem t_82_93 {E : mO × tW} {K : tK} {d : mD} {x0 x1 x2 : Int} {v3 : tV}
  (h : K (.inl (some (0, x1))) d) :
  tRun E 82 (93, [.inr (6, x0), .inl (0, x1), .inl (0, x2), v3], [], 0, 0, d) K := tT_run (cut := [0, 9, 93]) 2 _ h
theorem t_83_0 {E : mO × tW} {K : tK} {d : mD} {x0 x1 : Int}
  (h : tRun E 83 (4, [.inr (6, x0), .inl (0, x1), .inl (0, 0), .inl (0, 0)], [], 0, 0, d) K) :
  tRun E 83 (0, [.inr (6, x0), .inl (0, x1), tu, tu], [], 0, 0, d) K := tT_run (cut := [0, 4]) 4 _ h
theorem t_83_4 {E : mO × tW} {K : tK} {d : mD} {x0 x1 x2 x3 : Int}
  (h : (mInR x3 ∧ mInR (d (x0 + 57) 0)) ∧ (d (x0 + 57) 0 ≤ x3 → K (.inl (some (0, x2))) d) ∧ (x3 < d (x0 + 57) 0 → (0 ≤ x3 ∧ x3 < 200) ∧ (0 ≤ d (x0 + 57 + 2) x3 ∧ d (x0 + 57 + 2) x3 < 60) ∧ (mInR (d (x0 + 49 + 1) (d (x0 + 57 + 2) x3)) ∧ mInR x1) ∧ (¬ d (x0 + 49 + 1) (d (x0 + 57 + 2) x3) = x1 → tRun E 83 (4, [.inr (6, x0), .inl (0, x1), .inl (0, x2 + 0), .inl (0, x3 + 1)], [], 0, 0, d) K) ∧ (d (x0 + 49 + 1) (d (x0 + 57 + 2) x3) = x1 → tRun E 83 (4, [.inr (6, x0), .inl (0, x1), .inl (0, x2 + 1), .inl (0, x3 + 1)], [], 0, 0, d) K))) :
  tRun E 83 (4, [.inr (6, x0), .inl (0, x1), .inl (0, x2), .inl (0, x3)], [], 0, 0, d) K := tT_run (cut := [0, 4]) 23 _ h
theorem t_84_0 {E : mO × tW} {K : tK} {d : mD} {x0 : Int}
  (h : tRun E 84 (4, [.inr (6, x0), .inl (0, 0), .inl (0, 0), tu, tu], [], 0, 0, d) K) :
  tRun E 84 (0, [.inr (6, x0), tu, tu, tu, tu], [], 0, 0, d) K := tT_run (cut := [0, 4, 36]) 4 _ h
theorem t_84_4 {E : mO × tW} {K : tK} {d : mD} {x0 x1 x2 : Int} {v3 v4 : tV}
  (h : (mInR x2 ∧ mInR (d (x0 + 57) 0)) ∧ (d (x0 + 57) 0 ≤ x2 → K (.inl (some (0, x1))) d) ∧ (x2 < d (x0 + 57) 0 → (0 ≤ x2 ∧ x2 < 200) ∧ (0 ≤ d (x0 + 57 + 2) x2 ∧ d (x0 + 57 + 2) x2 < 60) ∧ tRun E 84 (36, [.inr (6, x0), .inl (0, x1), .inl (0, x2), .inl (0, d (x0 + 49 + 1) (d (x0 + 57 + 2) x2)), .inl (0, 0)], [], 0, 0, d) K)) :
  tRun E 84 (4, [.inr (6, x0), .inl (0, x1), .inl (0, x2), v3, v4], [], 0, 0, d) K := tT_run (cut := [0, 4, 36]) 17 _ h
theorem t_84_36 {E : mO × tW} {K : tK} {d : mD} {x0 x1 x2 x3 x4 : Int}
  (h : (mInR x4 ∧ mInR x2) ∧ (x2 ≤ x4 → tRun E 84 (4, [.inr (6, x0), .inl (0, x1), .inl (0, x2 + 1), .inl (0, x3), .inl (0, x4)], [], 0, 0, d) K) ∧ (x4 < x2 → (0 ≤ x4 ∧ x4 < 200) ∧ (0 ≤ x2 ∧ x2 < 200) ∧ (mInR (d (x0 + 57 + 3) x4) ∧ mInR (d (x0 + 57 + 3) x2)) ∧ (¬ d (x0 + 57 + 3) x4 = d (x0 + 57 + 3) x2 → tRun E 84 (36, [.inr (6, x0), .inl (0, x1), .inl (0, x2), .inl (0, x3), .inl (0, x4 + 1)], [], 0, 0, d) K) ∧ (d (x0 + 57 + 3) x4 = d (x0 + 57 + 3) x2 → (0 ≤ x4 ∧ x4 < 200) ∧ (0 ≤ d (x0 + 57 + 2) x4 ∧ d (x0 + 57 + 2) x4 < 60) ∧ (mInR (d (x0 + 49 + 1) (d (x0 + 57 + 2) x4)) ∧ mInR x3) ∧ (¬ d (x0 + 49 + 1) (d (x0 + 57 + 2) x4) = x3 → tRun E 84 (36, [.inr (6, x0), .inl (0, x1), .inl (0, x2), .inl (0, x3), .inl (0, x4 + 1)], [], 0, 0, d) K) ∧ (d (x0 + 49 + 1) (d (x0 + 57 + 2) x4) = x3 → tRun E 84 (36, [.inr (6, x0), .inl (0, x1 + 1), .inl (0, x2), .inl (0, x3), .inl (0, x4 + 1)], [], 0, 0, d) K)))) :
  tRun E 84 (36, [.inr (6, x0), .inl (0, x1), .inl (0, x2), .inl (0, x3), .inl (0, x4)], [], 0, 0, d) K := tT_run (cut := [0, 4, 36]) 28 _ h
theorem t_86_0 {E : mO × tW} {K : tK} {d : mD} {x0 x1 : Int}
  (h : (mInR (d x0 1) ∧ mInR 1000) ∧ (1000 ≤ d x0 1 → K (.inl none) d) ∧ (d x0 1 < 1000 → ((-128 ≤ mi2b x1 ∧ mi2b x1 ≤ 127) ∧ 0 ≤ d x0 1 ∧ d x0 1 < 1000) ∧ K (.inl none) (mset (mset d (x0 + 1) (d x0 1) (mi2b x1)) x0 1 (((mset d (x0 + 1) (d x0 1) (mi2b x1)) x0 1) + 1)))) :
  tRun E 86 (0, [.inr (7, x0), .inl (0, x1)], [], 0, 0, d) K := tT_run (cut := [0]) 18 _ h
theorem t_87_0 {E : mO × tW} {K : tK} {d : mD} {x0 x1 : Int}
  (h : tCall E 86 [.inr (7, x0), .inl (0, miushr x1 24)] d (tbk E 87 5 [.inr (7, x0), .inl (0, x1)] [] 0 0 K)) :
  tRun E 87 (0, [.inr (7, x0), .inl (0, x1)], [], 0, 0, d) K := tT_run (cut := [0, 8, 16, 24, 29]) 5 _ h
theorem t_87_8 {E : mO × tW} {K : tK} {d : mD} {x0 x1 : Int}
  (h : tCall E 86 [.inr (7, x0), .inl (0, miushr x1 16)] d (tbk E 87 13 [.inr (7, x0), .inl (0, x1)] [] 0 0 K)) :
  tRun E 87 (8, [.inr (7, x0), .inl (0, x1)], [], 0, 0, d) K := tT_run (cut := [0, 8, 16, 24, 29]) 5 _ h
theorem t_87_16 {E : mO × tW} {K : tK} {d : mD} {x0 x1 : Int}
  (h : tCall E 86 [.inr (7, x0), .inl (0, miushr x1 8)] d (tbk E 87 21 [.inr (7, x0), .inl (0, x1)] [] 0 0 K)) :
  tRun E 87 (16, [.inr (7, x0), .inl (0, x1)], [], 0, 0, d) K := tT_run (cut := [0, 8, 16, 24, 29]) 5 _ h
theorem t_87_24 {E : mO × tW} {K : tK} {d : mD} {x0 x1 : Int}
  (h : tCall E 86 [.inr (7, x0), .inl (0, x1)] d (tbk E 87 26 [.inr (7, x0), .inl (0, x1)] [] 0 0 K)) :
  tRun E 87 (24, [.inr (7, x0), .inl (0, x1)], [], 0, 0, d) K := tT_run (cut := [0, 8, 16, 24, 29]) 3 _ h
theorem t_87_29 {E : mO × tW} {K : tK} {d : mD} {x0 x1 : Int}
  (h : K (.inl none) d) :
  tRun E 87 (29, [.inr (7, x0), .inl (0, x1)], [], 0, 0, d) K := tT_run (cut := [0, 8, 16, 24, 29]) 1 _ h
theorem t_88_0 {E : mO × tW} {K : tK} {d : mD} {x0 x1 : Int}
  (h : tRun E 88 (3, [.inr (7, x0), .inl (0, x1), .inl (0, 25), tu], [], 0, 0, d) K) :
  tRun E 88 (0, [.inr (7, x0), .inl (0, x1), tu, tu], [], 0, 0, d) K := tT_run (cut := [0, 3, 26]) 2 _ h
theorem t_88_3 {E : mO × tW} {K : tK} {d : mD} {x0 x1 x2 : Int} {v3 : tV}
  (h : mInR x2 ∧ (x2 < 0 → K (.inl none) d) ∧ (0 ≤ x2 → mInR (miand (mishr x1 x2) 31) ∧ (miand (mishr x1 x2) 31 = 0 → tRun E 88 (26, [.inr (7, x0), .inl (0, x1), .inl (0, x2), .inl (0, miand (mishr x1 x2) 31)], [], 0, 0, d) K) ∧ (¬ miand (mishr x1 x2) 31 = 0 → tCall E 86 [.inr (7, x0), .inl (0, (miand (mishr x1 x2) 31) + 96)] d (tbk E 88 23 [.inr (7, x0), .inl (0, x1), .inl (0, x2), .inl (0, miand (mishr x1 x2) 31)] [] 0 0 K)))) :
  tRun E 88 (3, [.inr (7, x0), .inl (0, x1), .inl (0, x2), v3], [], 0, 0, d) K := tT_run (cut := [0, 3, 26]) 15 _ h
theorem t_88_26 {E : mO × tW} {K : tK} {d : mD} {x0 x1 x2 x3 : Int}
  (h : tRun E 88 (3, [.inr (7, x0), .inl (0, x1), .inl (0, x2 + (-5)), .inl (0, x3)], [], 0, 0, d) K) :
  tRun E 88 (26, [.inr (7, x0), .inl (0, x1), .inl (0, x2), .inl (0, x3)], [], 0, 0, d) K := tT_run (cut := [0, 3, 26]) 2 _ h
theorem t_89_0 {E : mO × tW} {K : tK} {d : mD} {x0 x1 : Int}
  (h : tRun E 89 (4, [.inr (7, x0), .inl (0, x1), .inl (0, 1000)], [], 0, 0, d) K) :
  tRun E 89 (0, [.inr (7, x0), .inl (0, x1), tu], [], 0, 0, d) K := tT_run (cut := [0, 4, 31]) 2 _ h
theorem t_89_4 {E : mO × tW} {K : tK} {d : mD} {x0 x1 x2 : Int}
  (h : mInR x2 ∧ (x2 ≤ 0 → K (.inl none) d) ∧ (0 < x2 → (mInR x1 ∧ mInR x2) ∧ (x2 ≤ x1 → (0 ≤ x1 ∧ x1 ≤ 2147483647 ∧ 0 < x2 ∧ x2 ≤ 2147483647) ∧ (0 ≤ x1 / x2 ∧ x1 / x2 ≤ 2147483647 ∧ 0 < (10 : Int) ∧ (10 : Int) ≤ 2147483647) ∧ tCall E 86 [.inr (7, x0), .inl (0, 48 + ((x1 / x2) % 10))] d (tbk E 89 28 [.inr (7, x0), .inl (0, x1), .inl (0, x2)] [] 0 0 K)) ∧ (x1 < x2 → (mInR x2 ∧ mInR 1) ∧ (¬ x2 = 1 → tRun E 89 (31, [.inr (7, x0), .inl (0, x1), .inl (0, x2)], [], 0, 0, d) K) ∧ (x2 = 1 → (0 ≤ x1 ∧ x1 ≤ 2147483647 ∧ 0 < x2 ∧ x2 ≤ 2147483647) ∧ (0 ≤ x1 / x2 ∧ x1 / x2 ≤ 2147483647 ∧ 0 < (10 : Int) ∧ (10 : Int) ≤ 2147483647) ∧ tCall E 86 [.inr (7, x0), .inl (0, 48 + ((x1 / x2) % 10))] d (tbk E 89 28 [.inr (7, x0), .inl (0, x1), .inl (0, x2)] [] 0 0 K))))) :
  tRun E 89 (4, [.inr (7, x0), .inl (0, x1), .inl (0, x2)], [], 0, 0, d) K := tT_run (cut := [0, 4, 31]) 17 _ h
theorem t_89_31 {E : mO × tW} {K : tK} {d : mD} {x0 x1 x2 : Int}
  (h : (0 ≤ x2 ∧ x2 ≤ 2147483647 ∧ 0 < (10 : Int) ∧ (10 : Int) ≤ 2147483647) ∧ tRun E 89 (4, [.inr (7, x0), .inl (0, x1), .inl (0, x2 / 10)], [], 0, 0, d) K) :
  tRun E 89 (31, [.inr (7, x0), .inl (0, x1), .inl (0, x2)], [], 0, 0, d) K := tT_run (cut := [0, 4, 31]) 5 _ h
theorem t_90_0 {E : mO × tW} {K : tK} {d : mD} {x0 x1 : Int}
  (h : (0 ≤ x1 ∧ x1 < 1000) ∧ (mInR (d (x0 + 1) x1) ∧ mInR 32) ∧ (d (x0 + 1) x1 = 32 → ((1 : Int) = 0 ∨ (1 : Int) = 1) ∧ K (.inl (some (0, 1))) d) ∧ (¬ d (x0 + 1) x1 = 32 → (0 ≤ x1 ∧ x1 < 1000) ∧ (mInR (d (x0 + 1) x1) ∧ mInR 10) ∧ (¬ d (x0 + 1) x1 = 10 → ((0 : Int) = 0 ∨ (0 : Int) = 1) ∧ K (.inl (some (0, 0))) d) ∧ (d (x0 + 1) x1 = 10 → ((1 : Int) = 0 ∨ (1 : Int) = 1) ∧ K (.inl (some (0, 1))) d))) :
  tRun E 90 (0, [.inr (7, x0), .inl (0, x1)], [], 0, 0, d) K := tT_run (cut := [0]) 15 _ h
theorem t_91_0 {E : mO × tW} {K : tK} {d : mD} {x0 x1 : Int}
  (h : (0 ≤ x1 ∧ x1 < 1000) ∧ (mInR (d (x0 + 1) x1) ∧ mInR 97) ∧ (d (x0 + 1) x1 < 97 → ((0 : Int) = 0 ∨ (0 : Int) = 1) ∧ K (.inl (some (0, 0))) d) ∧ (97 ≤ d (x0 + 1) x1 → (0 ≤ x1 ∧ x1 < 1000) ∧ (mInR (d (x0 + 1) x1) ∧ mInR 122) ∧ (122 < d (x0 + 1) x1 → ((0 : Int) = 0 ∨ (0 : Int) = 1) ∧ K (.inl (some (0, 0))) d) ∧ (d (x0 + 1) x1 ≤ 122 → ((1 : Int) = 0 ∨ (1 : Int) = 1) ∧ K (.inl (some (0, 1))) d))) :
  tRun E 91 (0, [.inr (7, x0), .inl (0, x1)], [], 0, 0, d) K := tT_run (cut := [0]) 15 _ h
theorem t_92_0 {E : mO × tW} {K : tK} {d : mD} {x0 x1 : Int}
  (h : (0 ≤ x1 ∧ x1 < 1000) ∧ (mInR (d (x0 + 1) x1) ∧ mInR 48) ∧ (d (x0 + 1) x1 < 48 → ((0 : Int) = 0 ∨ (0 : Int) = 1) ∧ K (.inl (some (0, 0))) d) ∧ (48 ≤ d (x0 + 1) x1 → (0 ≤ x1 ∧ x1 < 1000) ∧ (mInR (d (x0 + 1) x1) ∧ mInR 57) ∧ (57 < d (x0 + 1) x1 → ((0 : Int) = 0 ∨ (0 : Int) = 1) ∧ K (.inl (some (0, 0))) d) ∧ (d (x0 + 1) x1 ≤ 57 → ((1 : Int) = 0 ∨ (1 : Int) = 1) ∧ K (.inl (some (0, 1))) d))) :
  tRun E 92 (0, [.inr (7, x0), .inl (0, x1)], [], 0, 0, d) K := tT_run (cut := [0]) 15 _ h
theorem t_93_0 {E : mO × tW} {K : tK} {d : mD} {x0 x1 x2 : Int}
  (h : (mInR x2 ∧ mInR x1) ∧ (x2 ≤ x1 → K (.inl (some (0, (-1)))) d) ∧ (x1 < x2 → (mInR (x2 - x1) ∧ mInR 6) ∧ (x2 - x1 ≤ 6 → tRun E 93 (20, [.inr (7, x0), .inl (0, x1), .inl (0, x2), .inl (0, 0), .inl (0, x1)], [], 0, 0, d) K) ∧ (6 < x2 - x1 → K (.inl (some (0, (-1)))) d))) :
  tRun E 93 (0, [.inr (7, x0), .inl (0, x1), .inl (0, x2), tu, tu], [], 0, 0, d) K := tT_run (cut := [0, 20, 32]) 12 _ h
theorem t_93_20 {E : mO × tW} {K : tK} {d : mD} {x0 x1 x2 x3 x4 : Int}
  (h : (mInR x4 ∧ mInR x2) ∧ (x2 ≤ x4 → K (.inl (some (0, x3))) d) ∧ (x4 < x2 → tCall E 91 [.inr (7, x0), .inl (0, x4)] d (tbk E 93 29 [.inr (7, x0), .inl (0, x1), .inl (0, x2), .inl (0, x3), .inl (0, x4)] [] 0 0 K))) :
  tRun E 93 (20, [.inr (7, x0), .inl (0, x1), .inl (0, x2), .inl (0, x3), .inl (0, x4)], [], 0, 0, d) K := tT_run (cut := [0, 20, 32]) 6 _ h
theorem t_93_32 {E : mO × tW} {K : tK} {d : mD} {x0 x1 x2 x3 x4 y0 : Int}
  (h : mInR y0 ∧ (¬ y0 = 0 → (0 ≤ x4 ∧ x4 < 1000) ∧ tRun E 93 (20, [.inr (7, x0), .inl (0, x1), .inl (0, x2), .inl (0, mior (mishl x3 5) ((d (x0 + 1) x4) - 96)), .inl (0, x4 + 1)], [], 0, 0, d) K) ∧ (y0 = 0 → K (.inl (some (0, (-1)))) d)) :
  tRun E 93 (32, [.inr (7, x0), .inl (0, x1), .inl (0, x2), .inl (0, x3), .inl (0, x4)], [.inl (0, y0)], 0, 0, d) K := tT_run (cut := [0, 20, 32]) 14 _ h
theorem t_95_0 {E : mO × tW} {K : tK} {d : mD} {x0 x1 : Int}
  (h : (0 ≤ (0 : Int) ∧ 0 ≤ (0 : Int) ∧ 0 ≤ (mset d x0 0 (d x1 0)) x0 0 ∧ (0 : Int) + ((mset d x0 0 (d x1 0)) x0 0) ≤ 60 ∧ (0 : Int) + ((mset d x0 0 (d x1 0)) x0 0) ≤ 60) ∧ tRun E 95 (25, [.inr (8, x0), .inr (8, x1)], [], 0, 0, mcopy (mset d x0 0 (d x1 0)) (x1 + 1) 0 (x0 + 1) 0 ((mset d x0 0 (d x1 0)) x0 0)) K) :
  tRun E 95 (0, [.inr (8, x0), .inr (8, x1)], [], 0, 0, d) K := tT_run (cut := [0, 25, 42, 59, 76, 93, 110, 127]) 13 _ h
theorem t_95_25 {E : mO × tW} {K : tK} {d : mD} {x0 x1 : Int}
  (h : (0 ≤ (0 : Int) ∧ 0 ≤ (0 : Int) ∧ 0 ≤ d x0 0 ∧ (0 : Int) + (d x0 0) ≤ 60 ∧ (0 : Int) + (d x0 0) ≤ 60) ∧ tRun E 95 (42, [.inr (8, x0), .inr (8, x1)], [], 0, 0, mcopy d (x1 + 2) 0 (x0 + 2) 0 (d x0 0)) K) :
  tRun E 95 (25, [.inr (8, x0), .inr (8, x1)], [], 0, 0, d) K := tT_run (cut := [0, 25, 42, 59, 76, 93, 110, 127]) 9 _ h
theorem t_95_42 {E : mO × tW} {K : tK} {d : mD} {x0 x1 : Int}
  (h : (0 ≤ (0 : Int) ∧ 0 ≤ (0 : Int) ∧ 0 ≤ d x0 0 ∧ (0 : Int) + (d x0 0) ≤ 60 ∧ (0 : Int) + (d x0 0) ≤ 60) ∧ tRun E 95 (59, [.inr (8, x0), .inr (8, x1)], [], 0, 0, mcopy d (x1 + 3) 0 (x0 + 3) 0 (d x0 0)) K) :
  tRun E 95 (42, [.inr (8, x0), .inr (8, x1)], [], 0, 0, d) K := tT_run (cut := [0, 25, 42, 59, 76, 93, 110, 127]) 9 _ h
theorem t_95_59 {E : mO × tW} {K : tK} {d : mD} {x0 x1 : Int}
  (h : (0 ≤ (0 : Int) ∧ 0 ≤ (0 : Int) ∧ 0 ≤ d x0 0 ∧ (0 : Int) + (d x0 0) ≤ 60 ∧ (0 : Int) + (d x0 0) ≤ 60) ∧ tRun E 95 (76, [.inr (8, x0), .inr (8, x1)], [], 0, 0, mcopy d (x1 + 4) 0 (x0 + 4) 0 (d x0 0)) K) :
  tRun E 95 (59, [.inr (8, x0), .inr (8, x1)], [], 0, 0, d) K := tT_run (cut := [0, 25, 42, 59, 76, 93, 110, 127]) 9 _ h
theorem t_95_76 {E : mO × tW} {K : tK} {d : mD} {x0 x1 : Int}
  (h : (0 ≤ (0 : Int) ∧ 0 ≤ (0 : Int) ∧ 0 ≤ d x0 0 ∧ (0 : Int) + (d x0 0) ≤ 60 ∧ (0 : Int) + (d x0 0) ≤ 60) ∧ tRun E 95 (93, [.inr (8, x0), .inr (8, x1)], [], 0, 0, mcopy d (x1 + 5) 0 (x0 + 5) 0 (d x0 0)) K) :
  tRun E 95 (76, [.inr (8, x0), .inr (8, x1)], [], 0, 0, d) K := tT_run (cut := [0, 25, 42, 59, 76, 93, 110, 127]) 9 _ h
theorem t_95_93 {E : mO × tW} {K : tK} {d : mD} {x0 x1 : Int}
  (h : (0 ≤ (0 : Int) ∧ 0 ≤ (0 : Int) ∧ 0 ≤ d x0 0 ∧ (0 : Int) + (d x0 0) ≤ 60 ∧ (0 : Int) + (d x0 0) ≤ 60) ∧ tRun E 95 (110, [.inr (8, x0), .inr (8, x1)], [], 0, 0, mcopy d (x1 + 6) 0 (x0 + 6) 0 (d x0 0)) K) :
  tRun E 95 (93, [.inr (8, x0), .inr (8, x1)], [], 0, 0, d) K := tT_run (cut := [0, 25, 42, 59, 76, 93, 110, 127]) 9 _ h
theorem t_95_110 {E : mO × tW} {K : tK} {d : mD} {x0 x1 : Int}
  (h : (0 ≤ (0 : Int) ∧ 0 ≤ (0 : Int) ∧ 0 ≤ d x0 0 ∧ (0 : Int) + (d x0 0) ≤ 60 ∧ (0 : Int) + (d x0 0) ≤ 60) ∧ tRun E 95 (127, [.inr (8, x0), .inr (8, x1)], [], 0, 0, mcopy d (x1 + 7) 0 (x0 + 7) 0 (d x0 0)) K) :
  tRun E 95 (110, [.inr (8, x0), .inr (8, x1)], [], 0, 0, d) K := tT_run (cut := [0, 25, 42, 59, 76, 93, 110, 127]) 9 _ h
theorem t_95_127 {E : mO × tW} {K : tK} {d : mD} {x0 x1 : Int}
  (h : K (.inl none) d) :
  tRun E 95 (127, [.inr (8, x0), .inr (8, x1)], [], 0, 0, d) K := tT_run (cut := [0, 25, 42, 59, 76, 93, 110, 127]) 1 _ h
theorem t_96_0 {E : mO × tW} {K : tK} {d : mD} {x0 x1 x2 x3 : Int}
  (h : (mInR (d x0 0) ∧ mInR 60) ∧ (d x0 0 < 60 → (0 ≤ d x0 0 ∧ d x0 0 < 60) ∧ tRun E 96 (20, [.inr (8, x0), .inl (0, x1), .inl (0, x2), .inl (0, x3)], [], 0, 0, mset d (x0 + 1) (d x0 0) x1) K) ∧ (60 ≤ d x0 0 → K (.inl none) d)) :
  tRun E 96 (0, [.inr (8, x0), .inl (0, x1), .inl (0, x2), .inl (0, x3)], [], 0, 0, d) K := tT_run (cut := [0, 20, 30, 40, 50, 60, 70, 80]) 10 _ h
theorem t_96_20 {E : mO × tW} {K : tK} {d : mD} {x0 x1 x2 x3 : Int}
  (h : (0 ≤ d x0 0 ∧ d x0 0 < 60) ∧ tRun E 96 (30, [.inr (8, x0), .inl (0, x1), .inl (0, x2), .inl (0, x3)], [], 0, 0, mset d (x0 + 2) (d x0 0) x2) K) :
  tRun E 96 (20, [.inr (8, x0), .inl (0, x1), .inl (0, x2), .inl (0, x3)], [], 0, 0, d) K := tT_run (cut := [0, 20, 30, 40, 50, 60, 70, 80]) 6 _ h
theorem t_96_30 {E : mO × tW} {K : tK} {d : mD} {x0 x1 x2 x3 : Int}
  (h : (0 ≤ d x0 0 ∧ d x0 0 < 60) ∧ tRun E 96 (40, [.inr (8, x0), .inl (0, x1), .inl (0, x2), .inl (0, x3)], [], 0, 0, mset d (x0 + 3) (d x0 0) x3) K) :
  tRun E 96 (30, [.inr (8, x0), .inl (0, x1), .inl (0, x2), .inl (0, x3)], [], 0, 0, d) K := tT_run (cut := [0, 20, 30, 40, 50, 60, 70, 80]) 6 _ h
theorem t_96_40 {E : mO × tW} {K : tK} {d : mD} {x0 x1 x2 x3 : Int}
  (h : (0 ≤ d x0 0 ∧ d x0 0 < 60) ∧ tRun E 96 (50, [.inr (8, x0), .inl (0, x1), .inl (0, x2), .inl (0, x3)], [], 0, 0, mset d (x0 + 4) (d x0 0) ((-1))) K) :
  tRun E 96 (40, [.inr (8, x0), .inl (0, x1), .inl (0, x2), .inl (0, x3)], [], 0, 0, d) K := tT_run (cut := [0, 20, 30, 40, 50, 60, 70, 80]) 6 _ h
theorem t_96_50 {E : mO × tW} {K : tK} {d : mD} {x0 x1 x2 x3 : Int}
  (h : (0 ≤ d x0 0 ∧ d x0 0 < 60) ∧ tRun E 96 (60, [.inr (8, x0), .inl (0, x1), .inl (0, x2), .inl (0, x3)], [], 0, 0, mset d (x0 + 5) (d x0 0) 0) K) :
  tRun E 96 (50, [.inr (8, x0), .inl (0, x1), .inl (0, x2), .inl (0, x3)], [], 0, 0, d) K := tT_run (cut := [0, 20, 30, 40, 50, 60, 70, 80]) 6 _ h
theorem t_96_60 {E : mO × tW} {K : tK} {d : mD} {x0 x1 x2 x3 : Int}
  (h : (0 ≤ d x0 0 ∧ d x0 0 < 60) ∧ tRun E 96 (70, [.inr (8, x0), .inl (0, x1), .inl (0, x2), .inl (0, x3)], [], 0, 0, mset d (x0 + 6) (d x0 0) 0) K) :
  tRun E 96 (60, [.inr (8, x0), .inl (0, x1), .inl (0, x2), .inl (0, x3)], [], 0, 0, d) K := tT_run (cut := [0, 20, 30, 40, 50, 60, 70, 80]) 6 _ h
theorem t_96_70 {E : mO × tW} {K : tK} {d : mD} {x0 x1 x2 x3 : Int}
  (h : (0 ≤ d x0 0 ∧ d x0 0 < 60) ∧ tRun E 96 (80, [.inr (8, x0), .inl (0, x1), .inl (0, x2), .inl (0, x3)], [], 0, 0, mset d (x0 + 7) (d x0 0) 0) K) :
  tRun E 96 (70, [.inr (8, x0), .inl (0, x1), .inl (0, x2), .inl (0, x3)], [], 0, 0, d) K := tT_run (cut := [0, 20, 30, 40, 50, 60, 70, 80]) 6 _ h
theorem t_96_80 {E : mO × tW} {K : tK} {d : mD} {x0 x1 x2 x3 : Int}
  (h : K (.inl none) (mset d x0 0 ((d x0 0) + 1))) :
  tRun E 96 (80, [.inr (8, x0), .inl (0, x1), .inl (0, x2), .inl (0, x3)], [], 0, 0, d) K := tT_run (cut := [0, 20, 30, 40, 50, 60, 70, 80]) 7 _ h
theorem t_97_0 {E : mO × tW} {K : tK} {d : mD} {x0 x1 x2 x3 : Int}
  (h : (0 ≤ x1 ∧ x1 < 60) ∧ (0 ≤ x1 ∧ x1 < 60) ∧ K (.inl none) (mset (mset d (x0 + 5) x1 x2) (x0 + 4) x1 x3)) :
  tRun E 97 (0, [.inr (8, x0), .inl (0, x1), .inl (0, x2), .inl (0, x3)], [], 0, 0, d) K := tT_run (cut := [0]) 11 _ h
theorem t_98_0 {E : mO × tW} {K : tK} {d : mD} {x0 x1 x2 : Int}
  (h : (0 ≤ x1 ∧ x1 < 60) ∧ (mInR (d (x0 + 4) x1) ∧ mInR ((-1))) ∧ (¬ d (x0 + 4) x1 = (-1) → (0 ≤ x1 ∧ x1 < 60) ∧ K (.inl (some (0, d (x0 + 4) x1))) d) ∧ (d (x0 + 4) x1 = (-1) → K (.inl (some (0, x2))) d)) :
  tRun E 98 (0, [.inr (8, x0), .inl (0, x1), .inl (0, x2)], [], 0, 0, d) K := tT_run (cut := [0]) 11 _ h
theorem t_99_0 {E : mO × tW} {K : tK} {d : mD} {x0 x1 x2 : Int}
  (h : (0 ≤ x1 ∧ x1 < 60) ∧ mInR (miand (mishr (d (x0 + 7) x1) x2) 1) ∧ (miand (mishr (d (x0 + 7) x1) x2) 1 = 0 → ((0 : Int) = 0 ∨ (0 : Int) = 1) ∧ K (.inl (some (0, 0))) d) ∧ (¬ miand (mishr (d (x0 + 7) x1) x2) 1 = 0 → ((1 : Int) = 0 ∨ (1 : Int) = 1) ∧ K (.inl (some (0, 1))) d)) :
  tRun E 99 (0, [.inr (8, x0), .inl (0, x1), .inl (0, x2)], [], 0, 0, d) K := tT_run (cut := [0]) 12 _ h
theorem t_100_0 {E : mO × tW} {K : tK} {d : mD} {x0 x1 : Int}
  (h : tRun E 100 (7, [.inr (8, x0), .inl (0, x1), .inl (0, (d x0 0) - 1)], [], 0, 0, d) K) :
  tRun E 100 (0, [.inr (8, x0), .inl (0, x1), tu], [], 0, 0, d) K := tT_run (cut := [0, 7]) 5 _ h
theorem t_100_7 {E : mO × tW} {K : tK} {d : mD} {x0 x1 x2 : Int}
  (h : mInR x2 ∧ (x2 < 0 → K (.inl (some (0, (-1)))) d) ∧ (0 ≤ x2 → (0 ≤ x2 ∧ x2 < 60) ∧ (mInR (d (x0 + 1) x2) ∧ mInR x1) ∧ (¬ d (x0 + 1) x2 = x1 → tRun E 100 (7, [.inr (8, x0), .inl (0, x1), .inl (0, x2 + (-1))], [], 0, 0, d) K) ∧ (d (x0 + 1) x2 = x1 → K (.inl (some (0, x2))) d))) :
  tRun E 100 (7, [.inr (8, x0), .inl (0, x1), .inl (0, x2)], [], 0, 0, d) K := tT_run (cut := [0, 7]) 10 _ h
theorem t_101_0 {E : mO × tW} {K : tK} {d : mD} {x0 x1 : Int}
  (h : tRun E 101 (4, [.inr (8, x0), .inl (0, x1), .inl (0, 0), .inl (0, 0)], [], 0, 0, d) K) :
  tRun E 101 (0, [.inr (8, x0), .inl (0, x1), tu, tu], [], 0, 0, d) K := tT_run (cut := [0, 4]) 4 _ h
theorem t_101_4 {E : mO × tW} {K : tK} {d : mD} {x0 x1 x2 x3 : Int}
  (h : (mInR x3 ∧ mInR (d x0 0)) ∧ (d x0 0 ≤ x3 → K (.inl (some (0, x2))) d) ∧ (x3 < d x0 0 → (0 ≤ x3 ∧ x3 < 60) ∧ (mInR (d (x0 + 5) x3) ∧ mInR x1) ∧ (¬ d (x0 + 5) x3 = x1 → tRun E 101 (4, [.inr (8, x0), .inl (0, x1), .inl (0, x2 + 0), .inl (0, x3 + 1)], [], 0, 0, d) K) ∧ (d (x0 + 5) x3 = x1 → tRun E 101 (4, [.inr (8, x0), .inl (0, x1), .inl (0, x2 + 1), .inl (0, x3 + 1)], [], 0, 0, d) K))) :
  tRun E 101 (4, [.inr (8, x0), .inl (0, x1), .inl (0, x2), .inl (0, x3)], [], 0, 0, d) K := tT_run (cut := [0, 4]) 17 _ h
theorem t_102_0 {E : mO × tW} {K : tK} {d : mD} {x0 x1 : Int}
  (h : tRun E 102 (4, [.inr (8, x0), .inl (0, x1), .inl (0, 0), .inl (0, 0)], [], 0, 0, d) K) :
  tRun E 102 (0, [.inr (8, x0), .inl (0, x1), tu, tu], [], 0, 0, d) K := tT_run (cut := [0, 4]) 4 _ h
theorem t_102_4 {E : mO × tW} {K : tK} {d : mD} {x0 x1 x2 x3 : Int}
  (h : (mInR x3 ∧ mInR (d x0 0)) ∧ (d x0 0 ≤ x3 → K (.inl (some (0, x2))) d) ∧ (x3 < d x0 0 → (0 ≤ x3 ∧ x3 < 60) ∧ (mInR (d (x0 + 6) x3) ∧ mInR x1) ∧ (¬ d (x0 + 6) x3 = x1 → tRun E 102 (4, [.inr (8, x0), .inl (0, x1), .inl (0, x2 + 0), .inl (0, x3 + 1)], [], 0, 0, d) K) ∧ (d (x0 + 6) x3 = x1 → tRun E 102 (4, [.inr (8, x0), .inl (0, x1), .inl (0, x2 + 1), .inl (0, x3 + 1)], [], 0, 0, d) K))) :
  tRun E 102 (4, [.inr (8, x0), .inl (0, x1), .inl (0, x2), .inl (0, x3)], [], 0, 0, d) K := tT_run (cut := [0, 4]) 17 _ h
theorem t_103_0 {E : mO × tW} {K : tK} {d : mD} {x0 x1 : Int}
  (h : tRun E 103 (4, [.inr (8, x0), .inl (0, x1), .inl (0, 0), .inl (0, 0)], [], 0, 0, d) K) :
  tRun E 103 (0, [.inr (8, x0), .inl (0, x1), tu, tu], [], 0, 0, d) K := tT_run (cut := [0, 4]) 4 _ h
theorem t_103_4 {E : mO × tW} {K : tK} {d : mD} {x0 x1 x2 x3 : Int}
  (h : (mInR x3 ∧ mInR (d x0 0)) ∧ (d x0 0 ≤ x3 → K (.inl (some (0, x2))) d) ∧ (x3 < d x0 0 → (0 ≤ x3 ∧ x3 < 60) ∧ (mInR (d (x0 + 5) x3) ∧ mInR 1) ∧ (¬ d (x0 + 5) x3 = 1 → tRun E 103 (4, [.inr (8, x0), .inl (0, x1), .inl (0, x2 + 0), .inl (0, x3 + 1)], [], 0, 0, d) K) ∧ (d (x0 + 5) x3 = 1 → (0 ≤ x3 ∧ x3 < 60) ∧ (mInR (d (x0 + 2) x3) ∧ mInR x1) ∧ (¬ d (x0 + 2) x3 = x1 → tRun E 103 (4, [.inr (8, x0), .inl (0, x1), .inl (0, x2 + 0), .inl (0, x3 + 1)], [], 0, 0, d) K) ∧ (d (x0 + 2) x3 = x1 → tRun E 103 (4, [.inr (8, x0), .inl (0, x1), .inl (0, x2 + 1), .inl (0, x3 + 1)], [], 0, 0, d) K)))) :
  tRun E 103 (4, [.inr (8, x0), .inl (0, x1), .inl (0, x2), .inl (0, x3)], [], 0, 0, d) K := tT_run (cut := [0, 4]) 23 _ h
theorem t_104_0 {E : mO × tW} {K : tK} {d : mD} {x0 x1 : Int}
  (h : tRun E 104 (4, [.inr (8, x0), .inl (0, x1), .inl (0, 0), .inl (0, 0)], [], 0, 0, d) K) :
  tRun E 104 (0, [.inr (8, x0), .inl (0, x1), tu, tu], [], 0, 0, d) K := tT_run (cut := [0, 4]) 4 _ h
theorem t_104_4 {E : mO × tW} {K : tK} {d : mD} {x0 x1 x2 x3 : Int}
  (h : (mInR x3 ∧ mInR (d x0 0)) ∧ (d x0 0 ≤ x3 → K (.inl (some (0, x2))) d) ∧ (x3 < d x0 0 → (0 ≤ x3 ∧ x3 < 60) ∧ (mInR (d (x0 + 1) x3) ∧ mInR x1) ∧ (¬ d (x0 + 1) x3 = x1 → tRun E 104 (4, [.inr (8, x0), .inl (0, x1), .inl (0, x2 + 0), .inl (0, x3 + 1)], [], 0, 0, d) K) ∧ (d (x0 + 1) x3 = x1 → tRun E 104 (4, [.inr (8, x0), .inl (0, x1), .inl (0, x2 + 1), .inl (0, x3 + 1)], [], 0, 0, d) K))) :
  tRun E 104 (4, [.inr (8, x0), .inl (0, x1), .inl (0, x2), .inl (0, x3)], [], 0, 0, d) K := tT_run (cut := [0, 4]) 17 _ h
theorem t_105_0 {E : mO × tW} {K : tK} {d : mD} {x0 x1 : Int}
  (h : tRun E 105 (4, [.inr (8, x0), .inl (0, x1), .inl (0, 0), .inl (0, 0)], [], 0, 0, d) K) :
  tRun E 105 (0, [.inr (8, x0), .inl (0, x1), tu, tu], [], 0, 0, d) K := tT_run (cut := [0, 4]) 4 _ h
theorem t_105_4 {E : mO × tW} {K : tK} {d : mD} {x0 x1 x2 x3 : Int}
  (h : (mInR x3 ∧ mInR (d x0 0)) ∧ (d x0 0 ≤ x3 → K (.inl (some (0, x2))) d) ∧ (x3 < d x0 0 → (0 ≤ x3 ∧ x3 < 60) ∧ (mInR (d (x0 + 1) x3) ∧ mInR x1) ∧ (¬ d (x0 + 1) x3 = x1 → tRun E 105 (4, [.inr (8, x0), .inl (0, x1), .inl (0, x2 + 0), .inl (0, x3 + 1)], [], 0, 0, d) K) ∧ (d (x0 + 1) x3 = x1 → (0 ≤ x3 ∧ x3 < 60) ∧ mInR (d (x0 + 5) x3) ∧ (¬ d (x0 + 5) x3 = 0 → tRun E 105 (4, [.inr (8, x0), .inl (0, x1), .inl (0, x2 + 0), .inl (0, x3 + 1)], [], 0, 0, d) K) ∧ (d (x0 + 5) x3 = 0 → tRun E 105 (4, [.inr (8, x0), .inl (0, x1), .inl (0, x2 + 1), .inl (0, x3 + 1)], [], 0, 0, d) K)))) :
  tRun E 105 (4, [.inr (8, x0), .inl (0, x1), .inl (0, x2), .inl (0, x3)], [], 0, 0, d) K := tT_run (cut := [0, 4]) 22 _ h
theorem t_106_0 {E : mO × tW} {K : tK} {d : mD} {x0 : Int}
  (h : tRun E 106 (4, [.inr (8, x0), .inl (0, 0), .inl (0, 0)], [], 0, 0, d) K) :
  tRun E 106 (0, [.inr (8, x0), tu, tu], [], 0, 0, d) K := tT_run (cut := [0, 4]) 4 _ h
theorem t_106_4 {E : mO × tW} {K : tK} {d : mD} {x0 x1 x2 : Int}
  (h : (mInR x2 ∧ mInR (d x0 0)) ∧ (d x0 0 ≤ x2 → K (.inl (some (0, x1))) d) ∧ (x2 < d x0 0 → (0 ≤ x2 ∧ x2 < 60) ∧ (mInR (d (x0 + 5) x2) ∧ mInR 1) ∧ (¬ d (x0 + 5) x2 = 1 → tRun E 106 (4, [.inr (8, x0), .inl (0, x1 + 0), .inl (0, x2 + 1)], [], 0, 0, d) K) ∧ (d (x0 + 5) x2 = 1 → (0 ≤ x2 ∧ x2 < 60) ∧ (0 ≤ x2 ∧ x2 < 60) ∧ tRun E 106 (4, [.inr (8, x0), .inl (0, x1 + ((d (x0 + 4) x2) - (d (x0 + 3) x2))), .inl (0, x2 + 1)], [], 0, 0, d) K))) :
  tRun E 106 (4, [.inr (8, x0), .inl (0, x1), .inl (0, x2)], [], 0, 0, d) K := tT_run (cut := [0, 4]) 25 _ h
theorem t_108_0 {E : mO × tW} {K : tK} {d : mD} {x0 x1 : Int}
  (h : (0 ≤ (0 : Int) ∧ 0 ≤ (0 : Int) ∧ 0 ≤ (mset d x0 0 (d x1 0)) x0 0 ∧ (0 : Int) + ((mset d x0 0 (d x1 0)) x0 0) ≤ 200 ∧ (0 : Int) + ((mset d x0 0 (d x1 0)) x0 0) ≤ 200) ∧ tRun E 108 (25, [.inr (9, x0), .inr (9, x1)], [], 0, 0, mcopy (mset d x0 0 (d x1 0)) (x1 + 1) 0 (x0 + 1) 0 ((mset d x0 0 (d x1 0)) x0 0)) K) :
  tRun E 108 (0, [.inr (9, x0), .inr (9, x1)], [], 0, 0, d) K := tT_run (cut := [0, 25, 42, 59, 76, 101]) 13 _ h
theorem t_108_25 {E : mO × tW} {K : tK} {d : mD} {x0 x1 : Int}
  (h : (0 ≤ (0 : Int) ∧ 0 ≤ (0 : Int) ∧ 0 ≤ d x0 0 ∧ (0 : Int) + (d x0 0) ≤ 200 ∧ (0 : Int) + (d x0 0) ≤ 200) ∧ tRun E 108 (42, [.inr (9, x0), .inr (9, x1)], [], 0, 0, mcopy d (x1 + 2) 0 (x0 + 2) 0 (d x0 0)) K) :
  tRun E 108 (25, [.inr (9, x0), .inr (9, x1)], [], 0, 0, d) K := tT_run (cut := [0, 25, 42, 59, 76, 101]) 9 _ h
theorem t_108_42 {E : mO × tW} {K : tK} {d : mD} {x0 x1 : Int}
  (h : (0 ≤ (0 : Int) ∧ 0 ≤ (0 : Int) ∧ 0 ≤ d x0 0 ∧ (0 : Int) + (d x0 0) ≤ 200 ∧ (0 : Int) + (d x0 0) ≤ 200) ∧ tRun E 108 (59, [.inr (9, x0), .inr (9, x1)], [], 0, 0, mcopy d (x1 + 3) 0 (x0 + 3) 0 (d x0 0)) K) :
  tRun E 108 (42, [.inr (9, x0), .inr (9, x1)], [], 0, 0, d) K := tT_run (cut := [0, 25, 42, 59, 76, 101]) 9 _ h
theorem t_108_59 {E : mO × tW} {K : tK} {d : mD} {x0 x1 : Int}
  (h : (0 ≤ (0 : Int) ∧ 0 ≤ (0 : Int) ∧ 0 ≤ d x0 0 ∧ (0 : Int) + (d x0 0) ≤ 200 ∧ (0 : Int) + (d x0 0) ≤ 200) ∧ tRun E 108 (76, [.inr (9, x0), .inr (9, x1)], [], 0, 0, mcopy d (x1 + 4) 0 (x0 + 4) 0 (d x0 0)) K) :
  tRun E 108 (59, [.inr (9, x0), .inr (9, x1)], [], 0, 0, d) K := tT_run (cut := [0, 25, 42, 59, 76, 101]) 9 _ h
theorem t_108_76 {E : mO × tW} {K : tK} {d : mD} {x0 x1 : Int}
  (h : (0 ≤ (0 : Int) ∧ 0 ≤ (0 : Int) ∧ 0 ≤ (mset d x0 5 (d x1 5)) x0 5 ∧ (0 : Int) + ((mset d x0 5 (d x1 5)) x0 5) ≤ 200 ∧ (0 : Int) + ((mset d x0 5 (d x1 5)) x0 5) ≤ 200) ∧ tRun E 108 (101, [.inr (9, x0), .inr (9, x1)], [], 0, 0, mcopy (mset d x0 5 (d x1 5)) (x1 + 5) 0 (x0 + 5) 0 ((mset d x0 5 (d x1 5)) x0 5)) K) :
  tRun E 108 (76, [.inr (9, x0), .inr (9, x1)], [], 0, 0, d) K := tT_run (cut := [0, 25, 42, 59, 76, 101]) 13 _ h
theorem t_108_101 {E : mO × tW} {K : tK} {d : mD} {x0 x1 : Int}
  (h : K (.inl none) d) :
  tRun E 108 (101, [.inr (9, x0), .inr (9, x1)], [], 0, 0, d) K := tT_run (cut := [0, 25, 42, 59, 76, 101]) 1 _ h
theorem t_109_0 {E : mO × tW} {K : tK} {d : mD} {x0 x1 x2 x3 : Int}
  (h : (mInR (d x0 0) ∧ mInR 200) ∧ (d x0 0 < 200 → (0 ≤ d x0 0 ∧ d x0 0 < 200) ∧ (0 ≤ (mset d (x0 + 1) (d x0 0) x1) x0 0 ∧ (mset d (x0 + 1) (d x0 0) x1) x0 0 < 200) ∧ (0 ≤ (mset (mset d (x0 + 1) (d x0 0) x1) (x0 + 2) ((mset d (x0 + 1) (d x0 0) x1) x0 0) x2) x0 0 ∧ (mset (mset d (x0 + 1) (d x0 0) x1) (x0 + 2) ((mset d (x0 + 1) (d x0 0) x1) x0 0) x2) x0 0 < 200) ∧ (0 ≤ (mset (mset (mset d (x0 + 1) (d x0 0) x1) (x0 + 2) ((mset d (x0 + 1) (d x0 0) x1) x0 0) x2) (x0 + 3) ((mset (mset d (x0 + 1) (d x0 0) x1) (x0 + 2) ((mset d (x0 + 1) (d x0 0) x1) x0 0) x2) x0 0) x3) x0 0 ∧ (mset (mset (mset d (x0 + 1) (d x0 0) x1) (x0 + 2) ((mset d (x0 + 1) (d x0 0) x1) x0 0) x2) (x0 + 3) ((mset (mset d (x0 + 1) (d x0 0) x1) (x0 + 2) ((mset d (x0 + 1) (d x0 0) x1) x0 0) x2) x0 0) x3) x0 0 < 200) ∧ K (.inl none) (mset (mset (mset (mset (mset d (x0 + 1) (d x0 0) x1) (x0 + 2) ((mset d (x0 + 1) (d x0 0) x1) x0 0) x2) (x0 + 3) ((mset (mset d (x0 + 1) (d x0 0) x1) (x0 + 2) ((mset d (x0 + 1) (d x0 0) x1) x0 0) x2) x0 0) x3) (x0 + 4) ((mset (mset (mset d (x0 + 1) (d x0 0) x1) (x0 + 2) ((mset d (x0 + 1) (d x0 0) x1) x0 0) x2) (x0 + 3) ((mset (mset d (x0 + 1) (d x0 0) x1) (x0 + 2) ((mset d (x0 + 1) (d x0 0) x1) x0 0) x2) x0 0) x3) x0 0) 0) x0 0 (((mset (mset (mset (mset d (x0 + 1) (d x0 0) x1) (x0 + 2) ((mset d (x0 + 1) (d x0 0) x1) x0 0) x2) (x0 + 3) ((mset (mset d (x0 + 1) (d x0 0) x1) (x0 + 2) ((mset d (x0 + 1) (d x0 0) x1) x0 0) x2) x0 0) x3) (x0 + 4) ((mset (mset (mset d (x0 + 1) (d x0 0) x1) (x0 + 2) ((mset d (x0 + 1) (d x0 0) x1) x0 0) x2) (x0 + 3) ((mset (mset d (x0 + 1) (d x0 0) x1) (x0 + 2) ((mset d (x0 + 1) (d x0 0) x1) x0 0) x2) x0 0) x3) x0 0) 0) x0 0) + 1))) ∧ (200 ≤ d x0 0 → K (.inl none) d)) :
  tRun E 109 (0, [.inr (9, x0), .inl (0, x1), .inl (0, x2), .inl (0, x3)], [], 0, 0, d) K := tT_run (cut := [0]) 35 _ h
theorem t_110_0 {E : mO × tW} {K : tK} {d : mD} {x0 x1 : Int}
  (h : tRun E 110 (4, [.inr (9, x0), .inl (0, x1), .inl (0, 0), .inl (0, 0)], [], 0, 0, d) K) :
  tRun E 110 (0, [.inr (9, x0), .inl (0, x1), tu, tu], [], 0, 0, d) K := tT_run (cut := [0, 4]) 4 _ h
theorem t_110_4 {E : mO × tW} {K : tK} {d : mD} {x0 x1 x2 x3 : Int}
  (h : (mInR x3 ∧ mInR (d x0 0)) ∧ (d x0 0 ≤ x3 → K (.inl (some (0, x2))) d) ∧ (x3 < d x0 0 → (0 ≤ x3 ∧ x3 < 200) ∧ (mInR (d (x0 + 4) x3) ∧ mInR x1) ∧ (¬ d (x0 + 4) x3 = x1 → tRun E 110 (4, [.inr (9, x0), .inl (0, x1), .inl (0, x2 + 0), .inl (0, x3 + 1)], [], 0, 0, d) K) ∧ (d (x0 + 4) x3 = x1 → tRun E 110 (4, [.inr (9, x0), .inl (0, x1), .inl (0, x2 + 1), .inl (0, x3 + 1)], [], 0, 0, d) K))) :
  tRun E 110 (4, [.inr (9, x0), .inl (0, x1), .inl (0, x2), .inl (0, x3)], [], 0, 0, d) K := tT_run (cut := [0, 4]) 17 _ h
theorem t_111_0 {E : mO × tW} {K : tK} {d : mD} {x0 x1 x2 : Int}
  (h : tRun E 111 (5, [.inr (9, x0), .inl (0, x1), .inl (0, x2), .inl (0, 0), .inl (0, 0)], [], 0, 0, d) K) :
  tRun E 111 (0, [.inr (9, x0), .inl (0, x1), .inl (0, x2), tu, tu], [], 0, 0, d) K := tT_run (cut := [0, 5]) 4 _ h
theorem t_111_5 {E : mO × tW} {K : tK} {d : mD} {x0 x1 x2 x3 x4 : Int}
  (h : (mInR x4 ∧ mInR (d x0 0)) ∧ (d x0 0 ≤ x4 → K (.inl (some (0, x3))) d) ∧ (x4 < d x0 0 → (0 ≤ x4 ∧ x4 < 200) ∧ (mInR (d (x0 + 1) x4) ∧ mInR x1) ∧ (¬ d (x0 + 1) x4 = x1 → tRun E 111 (5, [.inr (9, x0), .inl (0, x1), .inl (0, x2), .inl (0, x3 + 0), .inl (0, x4 + 1)], [], 0, 0, d) K) ∧ (d (x0 + 1) x4 = x1 → (0 ≤ x4 ∧ x4 < 200) ∧ (mInR (d (x0 + 4) x4) ∧ mInR x2) ∧ (¬ d (x0 + 4) x4 = x2 → tRun E 111 (5, [.inr (9, x0), .inl (0, x1), .inl (0, x2), .inl (0, x3 + 0), .inl (0, x4 + 1)], [], 0, 0, d) K) ∧ (d (x0 + 4) x4 = x2 → tRun E 111 (5, [.inr (9, x0), .inl (0, x1), .inl (0, x2), .inl (0, x3 + 1), .inl (0, x4 + 1)], [], 0, 0, d) K)))) :
  tRun E 111 (5, [.inr (9, x0), .inl (0, x1), .inl (0, x2), .inl (0, x3), .inl (0, x4)], [], 0, 0, d) K := tT_run (cut := [0, 5]) 23 _ h
theorem t_112_0 {E : mO × tW} {K : tK} {d : mD} {x0 x1 : Int}
  (h : tRun E 112 (4, [.inr (9, x0), .inl (0, x1), .inl (0, 0), .inl (0, 0)], [], 0, 0, d) K) :
  tRun E 112 (0, [.inr (9, x0), .inl (0, x1), tu, tu], [], 0, 0, d) K := tT_run (cut := [0, 4]) 4 _ h
theorem t_112_4 {E : mO × tW} {K : tK} {d : mD} {x0 x1 x2 x3 : Int}
  (h : (mInR x3 ∧ mInR (d x0 0)) ∧ (d x0 0 ≤ x3 → K (.inl (some (0, x2))) d) ∧ (x3 < d x0 0 → (0 ≤ x3 ∧ x3 < 200) ∧ (mInR (d (x0 + 2) x3) ∧ mInR x1) ∧ (¬ d (x0 + 2) x3 = x1 → tRun E 112 (4, [.inr (9, x0), .inl (0, x1), .inl (0, x2 + 0), .inl (0, x3 + 1)], [], 0, 0, d) K) ∧ (d (x0 + 2) x3 = x1 → tRun E 112 (4, [.inr (9, x0), .inl (0, x1), .inl (0, x2 + 1), .inl (0, x3 + 1)], [], 0, 0, d) K))) :
  tRun E 112 (4, [.inr (9, x0), .inl (0, x1), .inl (0, x2), .inl (0, x3)], [], 0, 0, d) K := tT_run (cut := [0, 4]) 17 _ h
theorem t_113_0 {E : mO × tW} {K : tK} {d : mD} {x0 x1 : Int}
  (h : tRun E 113 (2, [.inr (9, x0), .inl (0, x1), .inl (0, 0)], [], 0, 0, d) K) :
  tRun E 113 (0, [.inr (9, x0), .inl (0, x1), tu], [], 0, 0, d) K := tT_run (cut := [0, 2]) 2 _ h
theorem t_113_2 {E : mO × tW} {K : tK} {d : mD} {x0 x1 x2 : Int}
  (h : (mInR x2 ∧ mInR (d x0 5)) ∧ (d x0 5 ≤ x2 → K (.inl (some (0, (-1)))) d) ∧ (x2 < d x0 5 → (0 ≤ x2 ∧ x2 < 200) ∧ (mInR (d (x0 + 5) x2) ∧ mInR x1) ∧ (¬ d (x0 + 5) x2 = x1 → tRun E 113 (2, [.inr (9, x0), .inl (0, x1), .inl (0, x2 + 1)], [], 0, 0, d) K) ∧ (d (x0 + 5) x2 = x1 → K (.inl (some (0, x2))) d))) :
  tRun E 113 (2, [.inr (9, x0), .inl (0, x1), .inl (0, x2)], [], 0, 0, d) K := tT_run (cut := [0, 2]) 12 _ h
theorem t_114_0 {E : mO × tW} {K : tK} {d : mD} {x0 x1 x2 x3 : Int}
  (h : tRun E 114 (6, [.inr (9, x0), .inl (0, x1), .inl (0, x2), .inl (0, x3), .inl (0, x3), .inl (0, 0)], [], 0, 0, d) K) :
  tRun E 114 (0, [.inr (9, x0), .inl (0, x1), .inl (0, x2), .inl (0, x3), tu, tu], [], 0, 0, d) K := tT_run (cut := [0, 6]) 4 _ h
theorem t_114_6 {E : mO × tW} {K : tK} {d : mD} {x0 x1 x2 x3 x4 x5 : Int}
  (h : (mInR x5 ∧ mInR (d x0 0)) ∧ (d x0 0 ≤ x5 → K (.inl none) d) ∧ (x5 < d x0 0 → mInR x4 ∧ (x4 ≤ 0 → K (.inl none) d) ∧ (0 < x4 → (0 ≤ x5 ∧ x5 < 200) ∧ (mInR (d (x0 + 1) x5) ∧ mInR x1) ∧ (¬ d (x0 + 1) x5 = x1 → tRun E 114 (6, [.inr (9, x0), .inl (0, x1), .inl (0, x2), .inl (0, x3), .inl (0, x4), .inl (0, x5 + 1)], [], 0, 0, d) K) ∧ (d (x0 + 1) x5 = x1 → (0 ≤ x5 ∧ x5 < 200) ∧ mInR (d (x0 + 4) x5) ∧ (¬ d (x0 + 4) x5 = 0 → tRun E 114 (6, [.inr (9, x0), .inl (0, x1), .inl (0, x2), .inl (0, x3), .inl (0, x4), .inl (0, x5 + 1)], [], 0, 0, d) K) ∧ (d (x0 + 4) x5 = 0 → (0 ≤ x5 ∧ x5 < 200) ∧ tRun E 114 (6, [.inr (9, x0), .inl (0, x1), .inl (0, x2), .inl (0, x3), .inl (0, x4 + (-1)), .inl (0, x5 + 1)], [], 0, 0, mset d (x0 + 1) x5 x2) K))))) :
  tRun E 114 (6, [.inr (9, x0), .inl (0, x1), .inl (0, x2), .inl (0, x3), .inl (0, x4), .inl (0, x5)], [], 0, 0, d) K := tT_run (cut := [0, 6]) 25 _ h
theorem t_115_0 {E : mO × tW} {K : tK} {d : mD} {x0 x1 x2 : Int}
  (h : tRun E 115 (5, [.inr (9, x0), .inl (0, x1), .inl (0, x2), .inl (0, x2), .inl (0, 0)], [], 0, 0, d) K) :
  tRun E 115 (0, [.inr (9, x0), .inl (0, x1), .inl (0, x2), tu, tu], [], 0, 0, d) K := tT_run (cut := [0, 5]) 4 _ h
theorem t_115_5 {E : mO × tW} {K : tK} {d : mD} {x0 x1 x2 x3 x4 : Int}
  (h : (mInR x4 ∧ mInR (d x0 0)) ∧ (d x0 0 ≤ x4 → K (.inl none) d) ∧ (x4 < d x0 0 → mInR x3 ∧ (x3 ≤ 0 → K (.inl none) d) ∧ (0 < x3 → (mInR (d x0 5) ∧ mInR 200) ∧ (200 ≤ d x0 5 → K (.inl none) d) ∧ (d x0 5 < 200 → (0 ≤ x4 ∧ x4 < 200) ∧ (mInR (d (x0 + 1) x4) ∧ mInR x1) ∧ (¬ d (x0 + 1) x4 = x1 → tRun E 115 (5, [.inr (9, x0), .inl (0, x1), .inl (0, x2), .inl (0, x3), .inl (0, x4 + 1)], [], 0, 0, d) K) ∧ (d (x0 + 1) x4 = x1 → (0 ≤ x4 ∧ x4 < 200) ∧ mInR (d (x0 + 4) x4) ∧ (¬ d (x0 + 4) x4 = 0 → tRun E 115 (5, [.inr (9, x0), .inl (0, x1), .inl (0, x2), .inl (0, x3), .inl (0, x4 + 1)], [], 0, 0, d) K) ∧ (d (x0 + 4) x4 = 0 → (0 ≤ x4 ∧ x4 < 200) ∧ (0 ≤ (mset d (x0 + 4) x4 1) x0 5 ∧ (mset d (x0 + 4) x4 1) x0 5 < 200) ∧ tRun E 115 (5, [.inr (9, x0), .inl (0, x1), .inl (0, x2), .inl (0, x3 + (-1)), .inl (0, x4 + 1)], [], 0, 0, mset (mset (mset d (x0 + 4) x4 1) (x0 + 5) ((mset d (x0 + 4) x4 1) x0 5) x4) x0 5 (((mset (mset d (x0 + 4) x4 1) (x0 + 5) ((mset d (x0 + 4) x4 1) x0 5) x4) x0 5) + 1)) K)))))) :
  tRun E 115 (5, [.inr (9, x0), .inl (0, x1), .inl (0, x2), .inl (0, x3), .inl (0, x4)], [], 0, 0, d) K := tT_run (cut := [0, 5]) 41 _ h
theorem t_116_0 {E : mO × tW} {K : tK} {d : mD} {x0 x1 : Int}
  (h : tRun E 116 (2, [.inr (9, x0), .inl (0, x1), .inl (0, x1)], [], 0, 0, d) K) :
  tRun E 116 (0, [.inr (9, x0), .inl (0, x1), tu], [], 0, 0, d) K := tT_run (cut := [0, 2]) 2 _ h
theorem t_116_2 {E : mO × tW} {K : tK} {d : mD} {x0 x1 x2 : Int}
  (h : (mInR x2 ∧ mInR (d x0 5)) ∧ (d x0 5 ≤ x2 → K (.inl none) (mset d x0 5 ((d x0 5) - x1))) ∧ (x2 < d x0 5 → (0 ≤ x2 ∧ x2 < 200) ∧ (0 ≤ x2 - x1 ∧ x2 - x1 < 200) ∧ tRun E 116 (2, [.inr (9, x0), .inl (0, x1), .inl (0, x2 + 1)], [], 0, 0, mset d (x0 + 5) (x2 - x1) (d (x0 + 5) x2)) K)) :
  tRun E 116 (2, [.inr (9, x0), .inl (0, x1), .inl (0, x2)], [], 0, 0, d) K := tT_run (cut := [0, 2]) 16 _ h
theorem t_118_0 {E : mO × tW} {K : tK} {d : mD} {x0 x1 x2 x3 x4 x5 : Int}
  (h : (mInR ((d (x0 + 578) 1) + 20) ∧ mInR 1000) ∧ ((d (x0 + 578) 1) + 20 ≤ 1000 → tCall E 87 [.inr (7, x0 + 578), .inl (0, x1)] d (tbk E 118 31 [.inr (10, x0), .inl (0, x1), .inl (0, x2), .inl (0, x3), .inl (0, x4), .inl (0, x5)] [] 0 0 K)) ∧ (1000 < (d (x0 + 578) 1) + 20 → K (.inr 0) d)) :
  tRun E 118 (0, [.inr (10, x0), .inl (0, x1), .inl (0, x2), .inl (0, x3), .inl (0, x4), .inl (0, x5)], [], 0, 0, d) K := tT_run (cut := [0, 34, 42, 50, 59, 68]) 11 _ h
theorem t_118_34 {E : mO × tW} {K : tK} {d : mD} {x0 x1 x2 x3 x4 x5 : Int}
  (h : tCall E 87 [.inr (7, x0 + 578), .inl (0, x2)] d (tbk E 118 39 [.inr (10, x0), .inl (0, x1), .inl (0, x2), .inl (0, x3), .inl (0, x4), .inl (0, x5)] [] 0 0 K)) :
  tRun E 118 (34, [.inr (10, x0), .inl (0, x1), .inl (0, x2), .inl (0, x3), .inl (0, x4), .inl (0, x5)], [], 0, 0, d) K := tT_run (cut := [0, 34, 42, 50, 59, 68]) 4 _ h
theorem t_118_42 {E : mO × tW} {K : tK} {d : mD} {x0 x1 x2 x3 x4 x5 : Int}
  (h : tCall E 87 [.inr (7, x0 + 578), .inl (0, x3)] d (tbk E 118 47 [.inr (10, x0), .inl (0, x1), .inl (0, x2), .inl (0, x3), .inl (0, x4), .inl (0, x5)] [] 0 0 K)) :
  tRun E 118 (42, [.inr (10, x0), .inl (0, x1), .inl (0, x2), .inl (0, x3), .inl (0, x4), .inl (0, x5)], [], 0, 0, d) K := tT_run (cut := [0, 34, 42, 50, 59, 68]) 4 _ h
theorem t_118_50 {E : mO × tW} {K : tK} {d : mD} {x0 x1 x2 x3 x4 x5 : Int}
  (h : tCall E 87 [.inr (7, x0 + 578), .inl (0, x4)] d (tbk E 118 56 [.inr (10, x0), .inl (0, x1), .inl (0, x2), .inl (0, x3), .inl (0, x4), .inl (0, x5)] [] 0 0 K)) :
  tRun E 118 (50, [.inr (10, x0), .inl (0, x1), .inl (0, x2), .inl (0, x3), .inl (0, x4), .inl (0, x5)], [], 0, 0, d) K := tT_run (cut := [0, 34, 42, 50, 59, 68]) 4 _ h
theorem t_118_59 {E : mO × tW} {K : tK} {d : mD} {x0 x1 x2 x3 x4 x5 : Int}
  (h : tCall E 87 [.inr (7, x0 + 578), .inl (0, x5)] d (tbk E 118 65 [.inr (10, x0), .inl (0, x1), .inl (0, x2), .inl (0, x3), .inl (0, x4), .inl (0, x5)] [] 0 0 K)) :
  tRun E 118 (59, [.inr (10, x0), .inl (0, x1), .inl (0, x2), .inl (0, x3), .inl (0, x4), .inl (0, x5)], [], 0, 0, d) K := tT_run (cut := [0, 34, 42, 50, 59, 68]) 4 _ h
theorem t_118_68 {E : mO × tW} {K : tK} {d : mD} {x0 x1 x2 x3 x4 x5 : Int}
  (h : K (.inl (some (0, d (x0 + 578) 1))) d) :
  tRun E 118 (68, [.inr (10, x0), .inl (0, x1), .inl (0, x2), .inl (0, x3), .inl (0, x4), .inl (0, x5)], [], 0, 0, d) K := tT_run (cut := [0, 34, 42, 50, 59, 68]) 4 _ h
theorem t_119_0 {E : mO × tW} {K : tK} {d : mD} {x0 x1 : Int}
  (h : mInR x1 ∧ (x1 < 0 → K (.inr 1) d) ∧ (0 ≤ x1 → (mInR x1 ∧ mInR (d (x0 + 578) 1)) ∧ (x1 ≤ d (x0 + 578) 1 → K (.inl (some (0, x1))) (mset d (x0 + 578) 1 x1)) ∧ (d (x0 + 578) 1 < x1 → K (.inr 1) d))) :
  tRun E 119 (0, [.inr (10, x0), .inl (0, x1)], [], 0, 0, d) K := tT_run (cut := [0]) 13 _ h
theorem t_120_0 {E : mO × tW} {K : tK} {d : mD} {x0 : Int}
  (h : tCall E 13 [.inr (2, x0 + 576)] d (tbk E 120 4 [.inr (10, x0), tu, tu] [] 0 0 K)) :
  tRun E 120 (0, [.inr (10, x0), tu, tu], [], 0, 0, d) K := tT_run (cut := [0, 7, 14, 24, 34, 44, 86, 93, 95]) 3 _ h
theorem t_120_7 {E : mO × tW} {K : tK} {d : mD} {x0 : Int}
  (h : tCall E 14 [.inr (2, x0 + 576)] d (tbk E 120 11 [.inr (10, x0), tu, tu] [] 0 0 K)) :
  tRun E 120 (7, [.inr (10, x0), tu, tu], [], 0, 0, d) K := tT_run (cut := [0, 7, 14, 24, 34, 44, 86, 93, 95]) 3 _ h
theorem t_120_14 {E : mO × tW} {K : tK} {d : mD} {x0 y0 : Int}
  (h : mInR y0 ∧ (y0 = 0 → mInR 0 ∧ (¬ (0 : Int) = 0 → tCall E 59 [.inr (6, x0 + 1), .inr (6, x0 + 580)] (mset d (x0 + 578) 1 0) (tbk E 120 83 [.inr (10, x0), .inl (0, 0), tu] [] 0 0 K)) ∧ ((0 : Int) = 0 → K (.inr 2) (mset d (x0 + 578) 1 0))) ∧ (¬ y0 = 0 → tCall E 15 [.inr (2, x0 + 576)] d (tbk E 120 21 [.inr (10, x0), tu, tu] [] 0 0 K))) :
  tRun E 120 (14, [.inr (10, x0), tu, tu], [.inl (0, y0)], 0, 0, d) K := tT_run (cut := [0, 7, 14, 24, 34, 44, 86, 93, 95]) 14 _ h
theorem t_120_24 {E : mO × tW} {K : tK} {d : mD} {x0 y0 : Int}
  (h : mInR y0 ∧ (y0 = 0 → mInR 0 ∧ (¬ (0 : Int) = 0 → tCall E 59 [.inr (6, x0 + 1), .inr (6, x0 + 580)] (mset d (x0 + 578) 1 0) (tbk E 120 83 [.inr (10, x0), .inl (0, 0), tu] [] 0 0 K)) ∧ ((0 : Int) = 0 → K (.inr 2) (mset d (x0 + 578) 1 0))) ∧ (¬ y0 = 0 → tCall E 17 [.inr (2, x0 + 576)] d (tbk E 120 31 [.inr (10, x0), tu, tu] [] 0 0 K))) :
  tRun E 120 (24, [.inr (10, x0), tu, tu], [.inl (0, y0)], 0, 0, d) K := tT_run (cut := [0, 7, 14, 24, 34, 44, 86, 93, 95]) 14 _ h
theorem t_120_34 {E : mO × tW} {K : tK} {d : mD} {x0 y0 : Int}
  (h : mInR y0 ∧ (y0 = 0 → mInR 0 ∧ (¬ (0 : Int) = 0 → tCall E 59 [.inr (6, x0 + 1), .inr (6, x0 + 580)] (mset d (x0 + 578) 1 0) (tbk E 120 83 [.inr (10, x0), .inl (0, 0), tu] [] 0 0 K)) ∧ ((0 : Int) = 0 → K (.inr 2) (mset d (x0 + 578) 1 0))) ∧ (¬ y0 = 0 → tCall E 19 [.inr (2, x0 + 576)] d (tbk E 120 41 [.inr (10, x0), tu, tu] [] 0 0 K))) :
  tRun E 120 (34, [.inr (10, x0), tu, tu], [.inl (0, y0)], 0, 0, d) K := tT_run (cut := [0, 7, 14, 24, 34, 44, 86, 93, 95]) 14 _ h
theorem t_120_44 {E : mO × tW} {K : tK} {d : mD} {x0 y0 : Int}
  (h : mInR y0 ∧ (y0 = 0 → mInR 0 ∧ (¬ (0 : Int) = 0 → tCall E 59 [.inr (6, x0 + 1), .inr (6, x0 + 580)] (mset d (x0 + 578) 1 0) (tbk E 120 83 [.inr (10, x0), .inl (0, 0), tu] [] 0 0 K)) ∧ ((0 : Int) = 0 → K (.inr 2) (mset d (x0 + 578) 1 0))) ∧ (¬ y0 = 0 → mInR 1 ∧ (¬ (1 : Int) = 0 → tCall E 59 [.inr (6, x0 + 1), .inr (6, x0 + 580)] (mset d (x0 + 578) 1 0) (tbk E 120 83 [.inr (10, x0), .inl (0, 1), tu] [] 0 0 K)) ∧ ((1 : Int) = 0 → K (.inr 2) (mset d (x0 + 578) 1 0)))) :
  tRun E 120 (44, [.inr (10, x0), tu, tu], [.inl (0, y0)], 0, 0, d) K := tT_run (cut := [0, 7, 14, 24, 34, 44, 86, 93, 95]) 15 _ h
theorem t_120_86 {E : mO × tW} {K : tK} {d : mD} {x0 x1 : Int}
  (h : tCall E 4 [.inr (0, x0 + 64)] d (tbk E 120 90 [.inr (10, x0), .inl (0, x1), tu] [] 0 0 K)) :
  tRun E 120 (86, [.inr (10, x0), .inl (0, x1), tu], [], 0, 0, d) K := tT_run (cut := [0, 7, 14, 24, 34, 44, 86, 93, 95]) 3 _ h
theorem t_120_93 {E : mO × tW} {K : tK} {d : mD} {x0 x1 : Int}
  (h : tRun E 120 (95, [.inr (10, x0), .inl (0, x1), .inl (0, 0)], [], 0, 0, d) K) :
  tRun E 120 (93, [.inr (10, x0), .inl (0, x1), tu], [], 0, 0, d) K := tT_run (cut := [0, 7, 14, 24, 34, 44, 86, 93, 95]) 2 _ h
theorem t_120_95 {E : mO × tW} {K : tK} {d : mD} {x0 x1 x2 : Int}
  (h : (mInR x2 ∧ mInR 2) ∧ (2 ≤ x2 → K (.inl (some (0, (mset d (x0 + 572) 1 0) (x0 + 1 + 10) 0))) (mset d (x0 + 572) 1 0)) ∧ (x2 < 2 → (((0 : Int) = 0 ∨ (0 : Int) = 1) ∧ 0 ≤ x2 ∧ x2 < 2) ∧ tRun E 120 (95, [.inr (10, x0), .inl (0, x1), .inl (0, x2 + 1)], [], 0, 0, mset d (x0 + 571) x2 0) K)) :
  tRun E 120 (95, [.inr (10, x0), .inl (0, x1), .inl (0, x2)], [], 0, 0, d) K := tT_run (cut := [0, 7, 14, 24, 34, 44, 86, 93, 95]) 12 _ h
theorem t_121_0 {E : mO × tW} {K : tK} {d : mD} {x0 : Int}
  (h : K (.inl (some (0, d (x0 + 576) 2))) d) :
  tRun E 121 (0, [.inr (10, x0)], [], 0, 0, d) K := tT_run (cut := [0]) 4 _ h
theorem t_122_0 {E : mO × tW} {K : tK} {d : mD} {x0 : Int}
  (h : K (.inl (some (0, d (x0 + 576) 3))) d) :
  tRun E 122 (0, [.inr (10, x0)], [], 0, 0, d) K := tT_run (cut := [0]) 4 _ h
theorem t_123_0 {E : mO × tW} {K : tK} {d : mD} {x0 x1 : Int}
  (h : tCall E 93 [.inr (7, x0 + 578), .inl (0, 0), .inl (0, d (x0 + 578) 1)] d (tbk E 123 12 [.inr (10, x0), .inl (0, x1), tu, tu] [] 0 0 K)) :
  tRun E 123 (0, [.inr (10, x0), .inl (0, x1), tu, tu], [], 0, 0, d) K := tT_run (cut := [0, 15, 39, 53]) 7 _ h
theorem t_123_15 {E : mO × tW} {K : tK} {d : mD} {x0 x1 y0 : Int}
  (h : mInR x1 ∧ (x1 = 0 → tCall E 48 [.inr (4, x0 + 1 + 10), .inl (0, y0)] (mset d (x0 + 578) 1 0) (tbk E 123 50 [.inr (10, x0), .inl (0, x1), .inl (0, y0), tu] [] 0 0 K)) ∧ (¬ x1 = 0 → tCall E 36 [.inr (3, x0 + 1 + 2), .inl (0, y0)] (mset d (x0 + 578) 1 0) (tbk E 123 36 [.inr (10, x0), .inl (0, x1), .inl (0, y0), tu] [] 0 0 K))) :
  tRun E 123 (15, [.inr (10, x0), .inl (0, x1), tu, tu], [.inl (0, y0)], 0, 0, d) K := tT_run (cut := [0, 15, 39, 53]) 12 _ h
theorem t_123_39 {E : mO × tW} {K : tK} {d : mD} {x0 x1 x2 y0 : Int}
  (h : tRun E 123 (53, [.inr (10, x0), .inl (0, x1), .inl (0, x2), tu], [.inl (0, y0)], 0, 0, d) K) :
  tRun E 123 (39, [.inr (10, x0), .inl (0, x1), .inl (0, x2), tu], [.inl (0, y0)], 0, 0, d) K := tT_run (cut := [0, 15, 39, 53]) 1 _ h
theorem t_123_53 {E : mO × tW} {K : tK} {d : mD} {x0 x1 x2 y0 : Int}
  (h : (mInR y0 ∧ mInR ((-1))) ∧ (¬ y0 = (-1) → K (.inl (some (0, y0))) d) ∧ (y0 = (-1) → K (.inr 3) d)) :
  tRun E 123 (53, [.inr (10, x0), .inl (0, x1), .inl (0, x2), tu], [.inl (0, y0)], 0, 0, d) K := tT_run (cut := [0, 15, 39, 53]) 6 _ h
theorem t_124_0 {E : mO × tW} {K : tK} {d : mD} {x0 x1 : Int}
  (h : mInR x1 ∧ (x1 = 0 → K (.inl (some (0, d (x0 + 1 + 2) 0))) d) ∧ (x1 = 1 → K (.inl (some (0, d (x0 + 1 + 10) 0))) d) ∧ (x1 = 2 → K (.inl (some (0, d (x0 + 1 + 49) 0))) d) ∧ (x1 = 3 → K (.inl (some (0, d (x0 + 1) 2))) d) ∧ (x1 = 4 → (0 ≤ d (x0 + 1) 2 ∧ d (x0 + 1) 2 ≤ 2147483647 ∧ 0 < (20 : Int) ∧ (20 : Int) ≤ 2147483647) ∧ K (.inl (some (0, 20 - ((d (x0 + 1) 2) % 20)))) d) ∧ (x1 = 5 → tCall E 101 [.inr (8, x0 + 1 + 49), .inl (0, 0)] d (tbk E 124 131 [.inr (10, x0), .inl (0, x1)] [] 0 0 K)) ∧ (x1 = 6 → tCall E 102 [.inr (8, x0 + 1 + 49), .inl (0, 1)] d (tbk E 124 143 [.inr (10, x0), .inl (0, x1)] [] 0 0 K)) ∧ (x1 = 7 → tCall E 102 [.inr (8, x0 + 1 + 49), .inl (0, 2)] d (tbk E 124 155 [.inr (10, x0), .inl (0, x1)] [] 0 0 K)) ∧ (x1 = 8 → K (.inl (some (0, d (x0 + 1 + 57) 0))) d) ∧ (x1 = 9 → tCall E 110 [.inr (9, x0 + 1 + 57), .inl (0, 1)] d (tbk E 124 178 [.inr (10, x0), .inl (0, x1)] [] 0 0 K)) ∧ (x1 = 10 → tCall E 110 [.inr (9, x0 + 1 + 57), .inl (0, 2)] d (tbk E 124 190 [.inr (10, x0), .inl (0, x1)] [] 0 0 K)) ∧ (x1 = 11 → K (.inl (some (0, d (x0 + 1) 1))) d) ∧ (x1 = 12 → K (.inl (some (0, d (x0 + 64) 2))) d) ∧ (x1 < 0 ∨ 12 < x1 → K (.inr 2) d)) :
  tRun E 124 (0, [.inr (10, x0), .inl (0, x1)], [], 0, 0, d) K := tT_run (cut := [0, 134, 146, 158, 181, 193]) 10 _ h
theorem t_124_134 {E : mO × tW} {K : tK} {d : mD} {x0 x1 y0 : Int}
  (h : K (.inl (some (0, y0))) d) :
  tRun E 124 (134, [.inr (10, x0), .inl (0, x1)], [.inl (0, y0)], 0, 0, d) K := tT_run (cut := [0, 134, 146, 158, 181, 193]) 1 _ h
theorem t_124_146 {E : mO × tW} {K : tK} {d : mD} {x0 x1 y0 : Int}
  (h : K (.inl (some (0, y0))) d) :
  tRun E 124 (146, [.inr (10, x0), .inl (0, x1)], [.inl (0, y0)], 0, 0, d) K := tT_run (cut := [0, 134, 146, 158, 181, 193]) 1 _ h
theorem t_124_158 {E : mO × tW} {K : tK} {d : mD} {x0 x1 y0 : Int}
  (h : K (.inl (some (0, y0))) d) :
  tRun E 124 (158, [.inr (10, x0), .inl (0, x1)], [.inl (0, y0)], 0, 0, d) K := tT_run (cut := [0, 134, 146, 158, 181, 193]) 1 _ h
theorem t_124_181 {E : mO × tW} {K : tK} {d : mD} {x0 x1 y0 : Int}
  (h : K (.inl (some (0, y0))) d) :
  tRun E 124 (181, [.inr (10, x0), .inl (0, x1)], [.inl (0, y0)], 0, 0, d) K := tT_run (cut := [0, 134, 146, 158, 181, 193]) 1 _ h
theorem t_124_193 {E : mO × tW} {K : tK} {d : mD} {x0 x1 y0 : Int}
  (h : K (.inl (some (0, y0))) d) :
  tRun E 124 (193, [.inr (10, x0), .inl (0, x1)], [.inl (0, y0)], 0, 0, d) K := tT_run (cut := [0, 134, 146, 158, 181, 193]) 1 _ h
theorem t_125_0 {E : mO × tW} {K : tK} {d : mD} {x0 x1 : Int}
  (h : tCall E 169 [.inr (10, x0), .inl (0, x1)] d (tbk E 125 2 [.inr (10, x0), .inl (0, x1)] [] 1 6 K)) :
  tRun E 125 (0, [.inr (10, x0), .inl (0, x1)], [], 0, 0, d) K := tT_run (cut := [0, 5]) 3 _ h
theorem t_125_5 {E : mO × tW} {K : tK} {d : mD} {x0 x1 : Int}
  (h : (0 ≤ x1 ∧ x1 < 5) ∧ K (.inl (some (0, d (x0 + 1 + 1) x1))) d) :
  tRun E 125 (5, [.inr (10, x0), .inl (0, x1)], [], 1, 6, d) K := tT_run (cut := [0, 5]) 6 _ h
theorem t_126_0 {E : mO × tW} {K : tK} {d : mD} {x0 x1 x2 : Int}
  (h : tCall E 165 [.inr (10, x0), .inl (0, x1)] d (tbk E 126 2 [.inr (10, x0), .inl (0, x1), .inl (0, x2)] [] 1 6 K)) :
  tRun E 126 (0, [.inr (10, x0), .inl (0, x1), .inl (0, x2)], [], 0, 0, d) K := tT_run (cut := [0, 5, 128]) 3 _ h
theorem t_126_5 {E : mO × tW} {K : tK} {d : mD} {x0 x1 x2 : Int}
  (h : mInR x2 ∧ (x2 = 0 → (0 ≤ x1 ∧ x1 < 6) ∧ K (.inl (some (0, d (x0 + 1 + 2 + 2) x1))) d) ∧ (x2 = 1 → (0 ≤ x1 ∧ x1 < 6) ∧ K (.inl (some (0, d (x0 + 1 + 2 + 3) x1))) d) ∧ (x2 = 2 → (0 ≤ x1 ∧ x1 < 6) ∧ K (.inl (some (0, d (x0 + 1 + 2 + 4) x1))) d) ∧ (x2 = 3 → (0 ≤ x1 ∧ x1 < 6) ∧ mInR (d (x0 + 1 + 2 + 5) x1) ∧ (d (x0 + 1 + 2 + 5) x1 = 0 → K (.inl (some (0, 0))) d) ∧ (¬ d (x0 + 1 + 2 + 5) x1 = 0 → K (.inl (some (0, 1))) d)) ∧ (x2 = 4 → (0 ≤ x1 ∧ x1 < 6) ∧ K (.inl (some (0, d (x0 + 1 + 2 + 6) x1))) d) ∧ (x2 = 5 → tCall E 103 [.inr (8, x0 + 1 + 49), .inl (0, x1)] d (tbk E 126 125 [.inr (10, x0), .inl (0, x1), .inl (0, x2)] [] 1 6 K)) ∧ (x2 < 0 ∨ 5 < x2 → K (.inr 2) d)) :
  tRun E 126 (5, [.inr (10, x0), .inl (0, x1), .inl (0, x2)], [], 1, 6, d) K := tT_run (cut := [0, 5, 128]) 12 _ h
theorem t_126_128 {E : mO × tW} {K : tK} {d : mD} {x0 x1 x2 y0 : Int}
  (h : K (.inl (some (0, y0))) d) :
  tRun E 126 (128, [.inr (10, x0), .inl (0, x1), .inl (0, x2)], [.inl (0, y0)], 1, 6, d) K := tT_run (cut := [0, 5, 128]) 1 _ h
theorem t_127_0 {E : mO × tW} {K : tK} {d : mD} {x0 x1 x2 : Int}
  (h : tCall E 165 [.inr (10, x0), .inl (0, x1)] d (tbk E 127 2 [.inr (10, x0), .inl (0, x1), .inl (0, x2)] [] 1 6 K)) :
  tRun E 127 (0, [.inr (10, x0), .inl (0, x1), .inl (0, x2)], [], 0, 0, d) K := tT_run (cut := [0, 5, 47]) 3 _ h
theorem t_127_5 {E : mO × tW} {K : tK} {d : mD} {x0 x1 x2 : Int}
  (h : mInR x2 ∧ (x2 < 0 → K (.inr 1) d) ∧ (0 ≤ x2 → (0 ≤ x1 ∧ x1 < 6) ∧ (mInR x2 ∧ mInR (d (x0 + 1 + 2 + 6) x1)) ∧ (x2 < d (x0 + 1 + 2 + 6) x1 → tCall E 38 [.inr (3, x0 + 1 + 2), .inl (0, x1), .inl (0, x2)] d (tbk E 127 44 [.inr (10, x0), .inl (0, x1), .inl (0, x2)] [] 1 6 K)) ∧ (d (x0 + 1 + 2 + 6) x1 ≤ x2 → K (.inr 1) d))) :
  tRun E 127 (5, [.inr (10, x0), .inl (0, x1), .inl (0, x2)], [], 1, 6, d) K := tT_run (cut := [0, 5, 47]) 16 _ h
theorem t_127_47 {E : mO × tW} {K : tK} {d : mD} {x0 x1 x2 y0 : Int}
  (h : K (.inl (some (0, y0))) d) :
  tRun E 127 (47, [.inr (10, x0), .inl (0, x1), .inl (0, x2)], [.inl (0, y0)], 1, 6, d) K := tT_run (cut := [0, 5, 47]) 1 _ h
theorem t_128_0 {E : mO × tW} {K : tK} {d : mD} {x0 x1 x2 : Int}
  (h : tCall E 166 [.inr (10, x0), .inl (0, x1)] d (tbk E 128 2 [.inr (10, x0), .inl (0, x1), .inl (0, x2)] [] 1 6 K)) :
  tRun E 128 (0, [.inr (10, x0), .inl (0, x1), .inl (0, x2)], [], 0, 0, d) K := tT_run (cut := [0, 5, 84, 96, 109, 122, 135, 144, 183, 202]) 3 _ h
theorem t_128_5 {E : mO × tW} {K : tK} {d : mD} {x0 x1 x2 : Int}
  (h : mInR x2 ∧ (x2 = 0 → (0 ≤ x1 ∧ x1 < 16) ∧ K (.inl (some (0, d (x0 + 1 + 10 + 2) x1))) d) ∧ (x2 = 1 → tCall E 104 [.inr (8, x0 + 1 + 49), .inl (0, x1)] d (tbk E 128 81 [.inr (10, x0), .inl (0, x1), .inl (0, x2)] [] 1 6 K)) ∧ (x2 = 2 → tCall E 105 [.inr (8, x0 + 1 + 49), .inl (0, x1)] d (tbk E 128 93 [.inr (10, x0), .inl (0, x1), .inl (0, x2)] [] 1 6 K)) ∧ (x2 = 3 → tCall E 111 [.inr (9, x0 + 1 + 57), .inl (0, x1), .inl (0, 0)] d (tbk E 128 106 [.inr (10, x0), .inl (0, x1), .inl (0, x2)] [] 1 6 K)) ∧ (x2 = 4 → tCall E 111 [.inr (9, x0 + 1 + 57), .inl (0, x1), .inl (0, 1)] d (tbk E 128 119 [.inr (10, x0), .inl (0, x1), .inl (0, x2)] [] 1 6 K)) ∧ (x2 = 5 → tCall E 111 [.inr (9, x0 + 1 + 57), .inl (0, x1), .inl (0, 2)] d (tbk E 128 132 [.inr (10, x0), .inl (0, x1), .inl (0, x2)] [] 1 6 K)) ∧ (x2 = 6 → tCall E 83 [.inr (6, x0 + 1), .inl (0, x1)] d (tbk E 128 141 [.inr (10, x0), .inl (0, x1), .inl (0, x2)] [] 1 6 K)) ∧ (x2 = 7 → (0 ≤ x1 ∧ x1 < 16) ∧ K (.inl (some (0, d (x0 + 1 + 10 + 3) x1))) d) ∧ (x2 = 8 → (0 ≤ x1 ∧ x1 < 16) ∧ K (.inl (some (0, d (x0 + 1 + 10 + 4) x1))) d) ∧ (x2 = 9 → tCall E 72 [.inr (6, x0 + 1), .inl (0, x1), .inr (1, x0 + 574)] d (tbk E 128 180 [.inr (10, x0), .inl (0, x1), .inl (0, x2)] [] 1 6 K)) ∧ (x2 < 0 ∨ 9 < x2 → K (.inr 2) d)) :
  tRun E 128 (5, [.inr (10, x0), .inl (0, x1), .inl (0, x2)], [], 1, 6, d) K := tT_run (cut := [0, 5, 84, 96, 109, 122, 135, 144, 183, 202]) 9 _ h
theorem t_128_84 {E : mO × tW} {K : tK} {d : mD} {x0 x1 x2 y0 : Int}
  (h : K (.inl (some (0, y0))) d) :
  tRun E 128 (84, [.inr (10, x0), .inl (0, x1), .inl (0, x2)], [.inl (0, y0)], 1, 6, d) K := tT_run (cut := [0, 5, 84, 96, 109, 122, 135, 144, 183, 202]) 1 _ h
theorem t_128_96 {E : mO × tW} {K : tK} {d : mD} {x0 x1 x2 y0 : Int}
  (h : K (.inl (some (0, y0))) d) :
  tRun E 128 (96, [.inr (10, x0), .inl (0, x1), .inl (0, x2)], [.inl (0, y0)], 1, 6, d) K := tT_run (cut := [0, 5, 84, 96, 109, 122, 135, 144, 183, 202]) 1 _ h
theorem t_128_109 {E : mO × tW} {K : tK} {d : mD} {x0 x1 x2 y0 : Int}
  (h : K (.inl (some (0, y0))) d) :
  tRun E 128 (109, [.inr (10, x0), .inl (0, x1), .inl (0, x2)], [.inl (0, y0)], 1, 6, d) K := tT_run (cut := [0, 5, 84, 96, 109, 122, 135, 144, 183, 202]) 1 _ h
theorem t_128_122 {E : mO × tW} {K : tK} {d : mD} {x0 x1 x2 y0 : Int}
  (h : K (.inl (some (0, y0))) d) :
  tRun E 128 (122, [.inr (10, x0), .inl (0, x1), .inl (0, x2)], [.inl (0, y0)], 1, 6, d) K := tT_run (cut := [0, 5, 84, 96, 109, 122, 135, 144, 183, 202]) 1 _ h
theorem t_128_135 {E : mO × tW} {K : tK} {d : mD} {x0 x1 x2 y0 : Int}
  (h : K (.inl (some (0, y0))) d) :
  tRun E 128 (135, [.inr (10, x0), .inl (0, x1), .inl (0, x2)], [.inl (0, y0)], 1, 6, d) K := tT_run (cut := [0, 5, 84, 96, 109, 122, 135, 144, 183, 202]) 1 _ h
theorem t_128_144 {E : mO × tW} {K : tK} {d : mD} {x0 x1 x2 y0 : Int}
  (h : K (.inl (some (0, y0))) d) :
  tRun E 128 (144, [.inr (10, x0), .inl (0, x1), .inl (0, x2)], [.inl (0, y0)], 1, 6, d) K := tT_run (cut := [0, 5, 84, 96, 109, 122, 135, 144, 183, 202]) 1 _ h
theorem t_128_183 {E : mO × tW} {K : tK} {d : mD} {x0 x1 x2 : Int}
  (h : (0 ≤ x1 ∧ x1 < 16) ∧ tCall E 10 [.inr (1, x0 + 574), .inr (1, x0 + 1 + 10 + 6 + (1 + 2 * x1))] d (tbk E 128 199 [.inr (10, x0), .inl (0, x1), .inl (0, x2)] [] 1 6 K)) :
  tRun E 128 (183, [.inr (10, x0), .inl (0, x1), .inl (0, x2)], [], 1, 6, d) K := tT_run (cut := [0, 5, 84, 96, 109, 122, 135, 144, 183, 202]) 9 _ h
theorem t_128_202 {E : mO × tW} {K : tK} {d : mD} {x0 x1 x2 y0 : Int}
  (h : K (.inl (some (0, y0))) d) :
  tRun E 128 (202, [.inr (10, x0), .inl (0, x1), .inl (0, x2)], [.inl (0, y0)], 1, 6, d) K := tT_run (cut := [0, 5, 84, 96, 109, 122, 135, 144, 183, 202]) 1 _ h
theorem t_129_0 {E : mO × tW} {K : tK} {d : mD} {x0 x1 x2 : Int}
  (h : tCall E 167 [.inr (10, x0), .inl (0, x1)] d (tbk E 129 2 [.inr (10, x0), .inl (0, x1), .inl (0, x2), tu] [] 1 6 K)) :
  tRun E 129 (0, [.inr (10, x0), .inl (0, x1), .inl (0, x2), tu], [], 0, 0, d) K := tT_run (cut := [0, 5, 147, 156, 168, 186]) 3 _ h
theorem t_129_5 {E : mO × tW} {K : tK} {d : mD} {x0 x1 x2 : Int}
  (h : mInR x2 ∧ (x2 = 0 → (0 ≤ x1 ∧ x1 < 60) ∧ K (.inl (some (0, d (x0 + 1 + 49 + 1) x1))) d) ∧ (x2 = 1 → (0 ≤ x1 ∧ x1 < 60) ∧ K (.inl (some (0, d (x0 + 1 + 49 + 2) x1))) d) ∧ (x2 = 2 → (0 ≤ x1 ∧ x1 < 60) ∧ K (.inl (some (0, d (x0 + 1 + 49 + 3) x1))) d) ∧ (x2 = 3 → (0 ≤ x1 ∧ x1 < 60) ∧ K (.inl (some (0, d (x0 + 1 + 49 + 4) x1))) d) ∧ (x2 = 4 → (0 ≤ x1 ∧ x1 < 60) ∧ K (.inl (some (0, d (x0 + 1 + 49 + 5) x1))) d) ∧ (x2 = 5 → (0 ≤ x1 ∧ x1 < 60) ∧ mInR (d (x0 + 1 + 49 + 6) x1) ∧ (¬ d (x0 + 1 + 49 + 6) x1 = 0 → K (.inl (some (0, 1))) d) ∧ (d (x0 + 1 + 49 + 6) x1 = 0 → K (.inl (some (0, 0))) d)) ∧ (x2 = 6 → (0 ≤ x1 ∧ x1 < 60) ∧ (mInR (d (x0 + 1 + 49 + 6) x1) ∧ mInR 2) ∧ (¬ d (x0 + 1 + 49 + 6) x1 = 2 → K (.inl (some (0, 0))) d) ∧ (d (x0 + 1 + 49 + 6) x1 = 2 → K (.inl (some (0, 1))) d)) ∧ (x2 = 7 → (0 ≤ x1 ∧ x1 < 60) ∧ tCall E 298 [.inl (0, d (x0 + 1 + 49 + 7) x1)] d (tbk E 129 144 [.inr (10, x0), .inl (0, x1), .inl (0, x2), .inr (8, x0 + 1 + 49)] [] 1 6 K)) ∧ (x2 = 8 → tCall E 71 [.inr (6, x0 + 1), .inl (0, x1)] d (tbk E 129 153 [.inr (10, x0), .inl (0, x1), .inl (0, x2), .inr (8, x0 + 1 + 49)] [] 1 6 K)) ∧ (x2 = 9 → tCall E 112 [.inr (9, x0 + 1 + 57), .inl (0, x1)] d (tbk E 129 165 [.inr (10, x0), .inl (0, x1), .inl (0, x2), .inr (8, x0 + 1 + 49)] [] 1 6 K)) ∧ (x2 = 10 → (0 ≤ x1 ∧ x1 < 60) ∧ tCall E 39 [.inr (3, x0 + 1 + 2), .inl (0, d (x0 + 1 + 49 + 2) x1), .inl (0, x1)] d (tbk E 129 183 [.inr (10, x0), .inl (0, x1), .inl (0, x2), .inr (8, x0 + 1 + 49)] [] 1 6 K)) ∧ (x2 < 0 ∨ 10 < x2 → K (.inr 2) d)) :
  tRun E 129 (5, [.inr (10, x0), .inl (0, x1), .inl (0, x2), tu], [], 1, 6, d) K := tT_run (cut := [0, 5, 147, 156, 168, 186]) 15 _ h
theorem t_129_147 {E : mO × tW} {K : tK} {d : mD} {x0 x1 x2 x3 y0 : Int}
  (h : K (.inl (some (0, y0))) d) :
  tRun E 129 (147, [.inr (10, x0), .inl (0, x1), .inl (0, x2), .inr (8, x3)], [.inl (0, y0)], 1, 6, d) K := tT_run (cut := [0, 5, 147, 156, 168, 186]) 1 _ h
theorem t_129_156 {E : mO × tW} {K : tK} {d : mD} {x0 x1 x2 x3 y0 : Int}
  (h : K (.inl (some (0, y0))) d) :
  tRun E 129 (156, [.inr (10, x0), .inl (0, x1), .inl (0, x2), .inr (8, x3)], [.inl (0, y0)], 1, 6, d) K := tT_run (cut := [0, 5, 147, 156, 168, 186]) 1 _ h
theorem t_129_168 {E : mO × tW} {K : tK} {d : mD} {x0 x1 x2 x3 y0 : Int}
  (h : K (.inl (some (0, y0))) d) :
  tRun E 129 (168, [.inr (10, x0), .inl (0, x1), .inl (0, x2), .inr (8, x3)], [.inl (0, y0)], 1, 6, d) K := tT_run (cut := [0, 5, 147, 156, 168, 186]) 1 _ h
theorem t_129_186 {E : mO × tW} {K : tK} {d : mD} {x0 x1 x2 x3 y0 : Int}
  (h : K (.inl (some (0, y0))) d) :
  tRun E 129 (186, [.inr (10, x0), .inl (0, x1), .inl (0, x2), .inr (8, x3)], [.inl (0, y0)], 1, 6, d) K := tT_run (cut := [0, 5, 147, 156, 168, 186]) 1 _ h
theorem t_130_0 {E : mO × tW} {K : tK} {d : mD} {x0 x1 x2 : Int}
  (h : mInR x1 ∧ (x1 < 0 → K (.inr 1) d) ∧ (0 ≤ x1 → (mInR x1 ∧ mInR (d (x0 + 1 + 57) 0)) ∧ (x1 < d (x0 + 1 + 57) 0 → mInR x2 ∧ (x2 = 0 → (0 ≤ x1 ∧ x1 < 200) ∧ K (.inl (some (0, d (x0 + 1 + 57 + 1) x1))) d) ∧ (x2 = 1 → (0 ≤ x1 ∧ x1 < 200) ∧ K (.inl (some (0, d (x0 + 1 + 57 + 2) x1))) d) ∧ (x2 = 2 → (0 ≤ x1 ∧ x1 < 200) ∧ K (.inl (some (0, d (x0 + 1 + 57 + 3) x1))) d) ∧ (x2 = 3 → (0 ≤ x1 ∧ x1 < 200) ∧ K (.inl (some (0, d (x0 + 1 + 57 + 4) x1))) d) ∧ (x2 = 4 → tCall E 113 [.inr (9, x0 + 1 + 57), .inl (0, x1)] d (tbk E 130 124 [.inr (10, x0), .inl (0, x1), .inl (0, x2)] [] 0 0 K)) ∧ (x2 < 0 ∨ 4 < x2 → K (.inr 2) d)) ∧ (d (x0 + 1 + 57) 0 ≤ x1 → K (.inr 1) d))) :
  tRun E 130 (0, [.inr (10, x0), .inl (0, x1), .inl (0, x2)], [], 0, 0, d) K := tT_run (cut := [0, 127]) 17 _ h
theorem t_130_127 {E : mO × tW} {K : tK} {d : mD} {x0 x1 x2 y0 : Int}
  (h : K (.inl (some (0, y0))) d) :
  tRun E 130 (127, [.inr (10, x0), .inl (0, x1), .inl (0, x2)], [.inl (0, y0)], 0, 0, d) K := tT_run (cut := [0, 127]) 1 _ h
theorem t_131_0 {E : mO × tW} {K : tK} {d : mD} {x0 x1 x2 : Int}
  (h : tCall E 166 [.inr (10, x0), .inl (0, x1)] d (tbk E 131 2 [.inr (10, x0), .inl (0, x1), .inl (0, x2)] [] 1 6 K)) :
  tRun E 131 (0, [.inr (10, x0), .inl (0, x1), .inl (0, x2)], [], 0, 0, d) K := tT_run (cut := [0, 5, 43]) 3 _ h
theorem t_131_5 {E : mO × tW} {K : tK} {d : mD} {x0 x1 x2 : Int}
  (h : mInR x2 ∧ (x2 < 0 → K (.inr 2) d) ∧ (0 ≤ x2 → (mInR x2 ∧ mInR 999) ∧ (x2 ≤ 999 → (0 ≤ x1 ∧ x1 < 16) ∧ tCall E 6 [.inr (1, x0 + 1 + 10 + 6 + (1 + 2 * x1)), .inl (0, x2)] d (tbk E 131 40 [.inr (10, x0), .inl (0, x1), .inl (0, x2)] [] 1 6 K)) ∧ (999 < x2 → K (.inr 2) d))) :
  tRun E 131 (5, [.inr (10, x0), .inl (0, x1), .inl (0, x2)], [], 1, 6, d) K := tT_run (cut := [0, 5, 43]) 13 _ h
theorem t_131_43 {E : mO × tW} {K : tK} {d : mD} {x0 x1 x2 y0 : Int}
  (h : (y0 = 0 ∨ y0 = 1) ∧ K (.inl (some (0, y0))) d) :
  tRun E 131 (43, [.inr (10, x0), .inl (0, x1), .inl (0, x2)], [.inl (0, y0)], 1, 6, d) K := tT_run (cut := [0, 5, 43]) 1 _ h
theorem t_132_0 {E : mO × tW} {K : tK} {d : mD} {x0 x1 x2 : Int}
  (h : tCall E 167 [.inr (10, x0), .inl (0, x1)] d (tbk E 132 2 [.inr (10, x0), .inl (0, x1), .inl (0, x2)] [] 1 6 K)) :
  tRun E 132 (0, [.inr (10, x0), .inl (0, x1), .inl (0, x2)], [], 0, 0, d) K := tT_run (cut := [0, 5, 10, 19]) 3 _ h
theorem t_132_5 {E : mO × tW} {K : tK} {d : mD} {x0 x1 x2 : Int}
  (h : tCall E 166 [.inr (10, x0), .inl (0, x2)] d (tbk E 132 7 [.inr (10, x0), .inl (0, x1), .inl (0, x2)] [] 2 12 K)) :
  tRun E 132 (5, [.inr (10, x0), .inl (0, x1), .inl (0, x2)], [], 1, 6, d) K := tT_run (cut := [0, 5, 10, 19]) 3 _ h
theorem t_132_10 {E : mO × tW} {K : tK} {d : mD} {x0 x1 x2 : Int}
  (h : tCall E 77 [.inr (6, x0 + 1), .inl (0, x1), .inl (0, x2)] d (tbk E 132 16 [.inr (10, x0), .inl (0, x1), .inl (0, x2)] [] 2 12 K)) :
  tRun E 132 (10, [.inr (10, x0), .inl (0, x1), .inl (0, x2)], [], 2, 12, d) K := tT_run (cut := [0, 5, 10, 19]) 5 _ h
theorem t_132_19 {E : mO × tW} {K : tK} {d : mD} {x0 x1 x2 y0 : Int}
  (h : K (.inl (some (0, y0))) d) :
  tRun E 132 (19, [.inr (10, x0), .inl (0, x1), .inl (0, x2)], [.inl (0, y0)], 2, 12, d) K := tT_run (cut := [0, 5, 10, 19]) 1 _ h
theorem t_133_0 {E : mO × tW} {K : tK} {d : mD} {x0 x1 x2 : Int}
  (h : tCall E 167 [.inr (10, x0), .inl (0, x1)] d (tbk E 133 2 [.inr (10, x0), .inl (0, x1), .inl (0, x2)] [] 1 6 K)) :
  tRun E 133 (0, [.inr (10, x0), .inl (0, x1), .inl (0, x2)], [], 0, 0, d) K := tT_run (cut := [0, 5, 10, 19]) 3 _ h
theorem t_133_5 {E : mO × tW} {K : tK} {d : mD} {x0 x1 x2 : Int}
  (h : tCall E 166 [.inr (10, x0), .inl (0, x2)] d (tbk E 133 7 [.inr (10, x0), .inl (0, x1), .inl (0, x2)] [] 2 12 K)) :
  tRun E 133 (5, [.inr (10, x0), .inl (0, x1), .inl (0, x2)], [], 1, 6, d) K := tT_run (cut := [0, 5, 10, 19]) 3 _ h
theorem t_133_10 {E : mO × tW} {K : tK} {d : mD} {x0 x1 x2 : Int}
  (h : tCall E 78 [.inr (6, x0 + 1), .inl (0, x1), .inl (0, x2)] d (tbk E 133 16 [.inr (10, x0), .inl (0, x1), .inl (0, x2)] [] 2 12 K)) :
  tRun E 133 (10, [.inr (10, x0), .inl (0, x1), .inl (0, x2)], [], 2, 12, d) K := tT_run (cut := [0, 5, 10, 19]) 5 _ h
theorem t_133_19 {E : mO × tW} {K : tK} {d : mD} {x0 x1 x2 y0 : Int}
  (h : K (.inl (some (0, y0))) d) :
  tRun E 133 (19, [.inr (10, x0), .inl (0, x1), .inl (0, x2)], [.inl (0, y0)], 2, 12, d) K := tT_run (cut := [0, 5, 10, 19]) 1 _ h
theorem t_134_0 {E : mO × tW} {K : tK} {d : mD} {x0 x1 x2 : Int}
  (h : tCall E 167 [.inr (10, x0), .inl (0, x1)] d (tbk E 134 2 [.inr (10, x0), .inl (0, x1), .inl (0, x2), tu, tu] [] 1 6 K)) :
  tRun E 134 (0, [.inr (10, x0), .inl (0, x1), .inl (0, x2), tu, tu], [], 0, 0, d) K := tT_run (cut := [0, 5, 10, 35]) 3 _ h
theorem t_134_5 {E : mO × tW} {K : tK} {d : mD} {x0 x1 x2 : Int}
  (h : tRun E 134 (10, [.inr (10, x0), .inl (0, x1), .inl (0, x2), .inl (0, 0), .inl (0, 0)], [], 1, 6, d) K) :
  tRun E 134 (5, [.inr (10, x0), .inl (0, x1), .inl (0, x2), tu, tu], [], 1, 6, d) K := tT_run (cut := [0, 5, 10, 35]) 4 _ h
theorem t_134_10 {E : mO × tW} {K : tK} {d : mD} {x0 x1 x2 x3 x4 : Int}
  (h : (mInR x4 ∧ mInR (d (x0 + 1 + 10) 0)) ∧ (d (x0 + 1 + 10) 0 ≤ x4 → K (.inr 3) d) ∧ (x4 < d (x0 + 1 + 10) 0 → tCall E 77 [.inr (6, x0 + 1), .inl (0, x1), .inl (0, x4)] d (tbk E 134 32 [.inr (10, x0), .inl (0, x1), .inl (0, x2), .inl (0, x3), .inl (0, x4)] [] 1 6 K))) :
  tRun E 134 (10, [.inr (10, x0), .inl (0, x1), .inl (0, x2), .inl (0, x3), .inl (0, x4)], [], 1, 6, d) K := tT_run (cut := [0, 5, 10, 35]) 11 _ h
theorem t_134_35 {E : mO × tW} {K : tK} {d : mD} {x0 x1 x2 x3 x4 y0 : Int}
  (h : mInR y0 ∧ (¬ y0 = 0 → tRun E 134 (10, [.inr (10, x0), .inl (0, x1), .inl (0, x2), .inl (0, x3), .inl (0, x4 + 1)], [], 1, 6, d) K) ∧ (y0 = 0 → (mInR x3 ∧ mInR x2) ∧ (¬ x3 = x2 → tRun E 134 (10, [.inr (10, x0), .inl (0, x1), .inl (0, x2), .inl (0, x3 + 1), .inl (0, x4 + 1)], [], 1, 6, d) K) ∧ (x3 = x2 → K (.inl (some (0, x4))) d))) :
  tRun E 134 (35, [.inr (10, x0), .inl (0, x1), .inl (0, x2), .inl (0, x3), .inl (0, x4)], [.inl (0, y0)], 1, 6, d) K := tT_run (cut := [0, 5, 10, 35]) 7 _ h
theorem t_135_0 {E : mO × tW} {K : tK} {d : mD} {x0 x1 x2 : Int}
  (h : tCall E 167 [.inr (10, x0), .inl (0, x1)] d (tbk E 135 2 [.inr (10, x0), .inl (0, x1), .inl (0, x2)] [] 1 6 K)) :
  tRun E 135 (0, [.inr (10, x0), .inl (0, x1), .inl (0, x2)], [], 0, 0, d) K := tT_run (cut := [0, 5, 10, 22]) 3 _ h
theorem t_135_5 {E : mO × tW} {K : tK} {d : mD} {x0 x1 x2 : Int}
  (h : tCall E 166 [.inr (10, x0), .inl (0, x2)] d (tbk E 135 7 [.inr (10, x0), .inl (0, x1), .inl (0, x2)] [] 2 12 K)) :
  tRun E 135 (5, [.inr (10, x0), .inl (0, x1), .inl (0, x2)], [], 1, 6, d) K := tT_run (cut := [0, 5, 10, 22]) 3 _ h
theorem t_135_10 {E : mO × tW} {K : tK} {d : mD} {x0 x1 x2 : Int}
  (h : tCall E 99 [.inr (8, x0 + 1 + 49), .inl (0, x1), .inl (0, x2)] d (tbk E 135 19 [.inr (10, x0), .inl (0, x1), .inl (0, x2)] [] 2 12 K)) :
  tRun E 135 (10, [.inr (10, x0), .inl (0, x1), .inl (0, x2)], [], 2, 12, d) K := tT_run (cut := [0, 5, 10, 22]) 6 _ h
theorem t_135_22 {E : mO × tW} {K : tK} {d : mD} {x0 x1 x2 y0 : Int}
  (h : (y0 = 0 ∨ y0 = 1) ∧ K (.inl (some (0, y0))) d) :
  tRun E 135 (22, [.inr (10, x0), .inl (0, x1), .inl (0, x2)], [.inl (0, y0)], 2, 12, d) K := tT_run (cut := [0, 5, 10, 22]) 1 _ h
/-! ===== pieces of the methods between cuts: printed by a program of mine ===== -/
theorem t_136_0 {E : mO × tW} {K : tK} {d : mD} {x0 x1 : Int}
  (h : tCall E 167 [.inr (10, x0), .inl (0, x1)] d (tbk E 136 2 [.inr (10, x0), .inl (0, x1)] [] 1 6 K)) :
  tRun E 136 (0, [.inr (10, x0), .inl (0, x1)], [], 0, 0, d) K := tT_run (cut := [0, 5, 29]) 3 _ h
theorem t_136_5 {E : mO × tW} {K : tK} {d : mD} {x0 x1 : Int}
  (h : (0 ≤ x1 ∧ x1 < 60) ∧ (mInR (d (x0 + 1 + 49 + 5) x1) ∧ mInR 1) ∧ (¬ d (x0 + 1 + 49 + 5) x1 = 1 → K (.inl (some (0, 0))) d) ∧ (d (x0 + 1 + 49 + 5) x1 = 1 → tCall E 80 [.inr (6, x0 + 1), .inl (0, x1)] d (tbk E 136 26 [.inr (10, x0), .inl (0, x1)] [] 1 6 K))) :
  tRun E 136 (5, [.inr (10, x0), .inl (0, x1)], [], 1, 6, d) K := tT_run (cut := [0, 5, 29]) 12 _ h
theorem t_136_29 {E : mO × tW} {K : tK} {d : mD} {x0 x1 y0 : Int}
  (h : K (.inl (some (0, y0))) d) :
  tRun E 136 (29, [.inr (10, x0), .inl (0, x1)], [.inl (0, y0)], 1, 6, d) K := tT_run (cut := [0, 5, 29]) 2 _ h
theorem t_137_0 {E : mO × tW} {K : tK} {d : mD} {x0 : Int}
  (h : tCall E 110 [.inr (9, x0 + 1 + 57), .inl (0, 2)] d (tbk E 137 18 [.inr (10, x0)] [.inl (0, d (x0 + 1 + 57) 0)] 0 0 K)) :
  tRun E 137 (0, [.inr (10, x0)], [], 0, 0, d) K := tT_run (cut := [0, 21]) 9 _ h
theorem t_137_21 {E : mO × tW} {K : tK} {d : mD} {x0 y0 y1 : Int}
  (h : (0 ≤ (4 : Int) ∧ (4 : Int) < 5) ∧ K (.inl (some (0, (y0 - y1) * (d (x0 + 1 + 1) 4)))) d) :
  tRun E 137 (21, [.inr (10, x0)], [.inl (0, y1), .inl (0, y0)], 0, 0, d) K := tT_run (cut := [0, 21]) 8 _ h
theorem t_138_0 {E : mO × tW} {K : tK} {d : mD} {x0 : Int}
  (h : tCall E 101 [.inr (8, x0 + 1 + 49), .inl (0, 1)] d (tbk E 138 8 [.inr (10, x0), tu] [] 0 0 K)) :
  tRun E 138 (0, [.inr (10, x0), tu], [], 0, 0, d) K := tT_run (cut := [0, 11, 30]) 5 _ h
theorem t_138_11 {E : mO × tW} {K : tK} {d : mD} {x0 y0 : Int}
  (h : mInR y0 ∧ (¬ y0 = 0 → tCall E 106 [.inr (8, x0 + 1 + 49)] d (tbk E 138 27 [.inr (10, x0), .inl (0, y0)] [] 0 0 K)) ∧ (y0 = 0 → K (.inl (some (2, 0))) d)) :
  tRun E 138 (11, [.inr (10, x0), tu], [.inl (0, y0)], 0, 0, d) K := tT_run (cut := [0, 11, 30]) 7 _ h
theorem t_138_30 {E : mO × tW} {K : tK} {d : mD} {x0 x1 y0 : Int}
  (h : vf_n64 (FP.ddiv (mbit (mi2d y0)) (mbit (mi2d x1))) ∧ K (.inl (some (2, mddiv (mi2d y0) (mi2d x1)))) d) :
  tRun E 138 (30, [.inr (10, x0), .inl (0, x1)], [.inl (0, y0)], 0, 0, d) K := tT_run (cut := [0, 11, 30]) 5 _ h
theorem t_139_0 {E : mO × tW} {K : tK} {d : mD} {x0 : Int}
  (h : tRun E 139 (4, [.inr (10, x0), .inl (0, 0), .inl (0, 0)], [], 0, 0, d) K) :
  tRun E 139 (0, [.inr (10, x0), tu, tu], [], 0, 0, d) K := tT_run (cut := [0, 4, 30, 38]) 4 _ h
theorem t_139_4 {E : mO × tW} {K : tK} {d : mD} {x0 x1 x2 : Int}
  (h : (mInR x2 ∧ mInR (d (x0 + 1 + 10) 0)) ∧ (d (x0 + 1 + 10) 0 ≤ x2 → mInR x1 ∧ (¬ x1 = 0 → vf_n64 (FP.ddiv (mbit (mi2d (d (x0 + 1 + 57) 0))) (mbit (mi2d x1))) ∧ K (.inl (some (2, mddiv (mi2d (d (x0 + 1 + 57) 0)) (mi2d x1)))) d) ∧ (x1 = 0 → K (.inl (some (2, 0))) d)) ∧ (x2 < d (x0 + 1 + 10) 0 → tCall E 72 [.inr (6, x0 + 1), .inl (0, x2), .inr (1, x0 + 574)] d (tbk E 139 27 [.inr (10, x0), .inl (0, x1), .inl (0, x2)] [] 0 0 K))) :
  tRun E 139 (4, [.inr (10, x0), .inl (0, x1), .inl (0, x2)], [], 0, 0, d) K := tT_run (cut := [0, 4, 30, 38]) 17 _ h
theorem t_139_30 {E : mO × tW} {K : tK} {d : mD} {x0 x1 x2 : Int}
  (h : tCall E 9 [.inr (1, x0 + 574)] d (tbk E 139 35 [.inr (10, x0), .inl (0, x1), .inl (0, x2)] [.inl (0, x1)] 0 0 K)) :
  tRun E 139 (30, [.inr (10, x0), .inl (0, x1), .inl (0, x2)], [], 0, 0, d) K := tT_run (cut := [0, 4, 30, 38]) 4 _ h
theorem t_139_38 {E : mO × tW} {K : tK} {d : mD} {x0 x1 x2 y0 y1 : Int}
  (h : tRun E 139 (4, [.inr (10, x0), .inl (0, y0 + y1), .inl (0, x2 + 1)], [], 0, 0, d) K) :
  tRun E 139 (38, [.inr (10, x0), .inl (0, x1), .inl (0, x2)], [.inl (0, y1), .inl (0, y0)], 0, 0, d) K := tT_run (cut := [0, 4, 30, 38]) 4 _ h
theorem t_140_0 {E : mO × tW} {K : tK} {d : mD} {x0 : Int}
  (h : tRun E 140 (6, [.inr (10, x0), .inl (0, (-1)), .inl (0, 0), .inl (0, 0), tu], [], 0, 0, d) K) :
  tRun E 140 (0, [.inr (10, x0), tu, tu, tu, tu], [], 0, 0, d) K := tT_run (cut := [0, 6, 32, 39]) 6 _ h
theorem t_140_6 {E : mO × tW} {K : tK} {d : mD} {x0 x1 x2 x3 : Int} {v4 : tV}
  (h : (mInR x3 ∧ mInR (d (x0 + 1 + 10) 0)) ∧ (d (x0 + 1 + 10) 0 ≤ x3 → K (.inl (some (0, x1))) d) ∧ (x3 < d (x0 + 1 + 10) 0 → tCall E 72 [.inr (6, x0 + 1), .inl (0, x3), .inr (1, x0 + 574)] d (tbk E 140 29 [.inr (10, x0), .inl (0, x1), .inl (0, x2), .inl (0, x3), v4] [] 0 0 K))) :
  tRun E 140 (6, [.inr (10, x0), .inl (0, x1), .inl (0, x2), .inl (0, x3), v4], [], 0, 0, d) K := tT_run (cut := [0, 6, 32, 39]) 12 _ h
theorem t_140_32 {E : mO × tW} {K : tK} {d : mD} {x0 x1 x2 x3 : Int} {v4 : tV}
  (h : tCall E 9 [.inr (1, x0 + 574)] d (tbk E 140 36 [.inr (10, x0), .inl (0, x1), .inl (0, x2), .inl (0, x3), v4] [] 0 0 K)) :
  tRun E 140 (32, [.inr (10, x0), .inl (0, x1), .inl (0, x2), .inl (0, x3), v4], [], 0, 0, d) K := tT_run (cut := [0, 6, 32, 39]) 3 _ h
theorem t_140_39 {E : mO × tW} {K : tK} {d : mD} {x0 x1 x2 x3 y0 : Int} {v4 : tV}
  (h : (mInR y0 ∧ mInR x2) ∧ (y0 ≤ x2 → tRun E 140 (6, [.inr (10, x0), .inl (0, x1), .inl (0, x2), .inl (0, x3 + 1), .inl (0, y0)], [], 0, 0, d) K) ∧ (x2 < y0 → tRun E 140 (6, [.inr (10, x0), .inl (0, x3), .inl (0, y0), .inl (0, x3 + 1), .inl (0, y0)], [], 0, 0, d) K)) :
  tRun E 140 (39, [.inr (10, x0), .inl (0, x1), .inl (0, x2), .inl (0, x3), v4], [.inl (0, y0)], 0, 0, d) K := tT_run (cut := [0, 6, 32, 39]) 10 _ h
theorem t_141_0 {E : mO × tW} {K : tK} {d : mD} {x0 : Int}
  (h : tCall E 110 [.inr (9, x0 + 1 + 57), .inl (0, 0)] d (tbk E 141 14 [.inr (10, x0), .inr (9, x0 + 1 + 57), tu] [.inl (0, d (x0 + 1 + 57) 0)] 0 0 K)) :
  tRun E 141 (0, [.inr (10, x0), tu, tu], [], 0, 0, d) K := tT_run (cut := [0, 17, 23, 29, 39]) 9 _ h
theorem t_141_17 {E : mO × tW} {K : tK} {d : mD} {x0 x1 y0 y1 : Int}
  (h : tCall E 110 [.inr (9, x1), .inl (0, 1)] d (tbk E 141 20 [.inr (10, x0), .inr (9, x1), tu] [.inl (0, y0 - y1)] 0 0 K)) :
  tRun E 141 (17, [.inr (10, x0), .inr (9, x1), tu], [.inl (0, y1), .inl (0, y0)], 0, 0, d) K := tT_run (cut := [0, 17, 23, 29, 39]) 4 _ h
theorem t_141_23 {E : mO × tW} {K : tK} {d : mD} {x0 x1 y0 y1 : Int}
  (h : tCall E 110 [.inr (9, x1), .inl (0, 2)] d (tbk E 141 26 [.inr (10, x0), .inr (9, x1), tu] [.inl (0, y0 - y1)] 0 0 K)) :
  tRun E 141 (23, [.inr (10, x0), .inr (9, x1), tu], [.inl (0, y1), .inl (0, y0)], 0, 0, d) K := tT_run (cut := [0, 17, 23, 29, 39]) 4 _ h
theorem t_141_29 {E : mO × tW} {K : tK} {d : mD} {x0 x1 y0 y1 : Int}
  (h : tCall E 84 [.inr (6, x0 + 1)] d (tbk E 141 36 [.inr (10, x0), .inr (9, x1), .inl (0, y0 - y1)] [.inl (0, y0 - y1)] 0 0 K)) :
  tRun E 141 (29, [.inr (10, x0), .inr (9, x1), tu], [.inl (0, y1), .inl (0, y0)], 0, 0, d) K := tT_run (cut := [0, 17, 23, 29, 39]) 6 _ h
theorem t_141_39 {E : mO × tW} {K : tK} {d : mD} {x0 x1 x2 y0 y1 : Int}
  (h : K (.inl (some (0, y0 + y1))) d) :
  tRun E 141 (39, [.inr (10, x0), .inr (9, x1), .inl (0, x2)], [.inl (0, y1), .inl (0, y0)], 0, 0, d) K := tT_run (cut := [0, 17, 23, 29, 39]) 2 _ h
theorem t_142_0 {E : mO × tW} {K : tK} {d : mD} {x0 x1 : Int}
  (h : tCall E 167 [.inr (10, x0), .inl (0, x1)] d (tbk E 142 2 [.inr (10, x0), .inl (0, x1), tu, tu, tu] [] 1 6 K)) :
  tRun E 142 (0, [.inr (10, x0), .inl (0, x1), tu, tu, tu], [], 0, 0, d) K := tT_run (cut := [0, 5, 48, 84]) 3 _ h
theorem t_142_5 {E : mO × tW} {K : tK} {d : mD} {x0 x1 : Int}
  (h : (0 ≤ x1 ∧ x1 < 60) ∧ (mInR (d (x0 + 1 + 49 + 5) x1) ∧ mInR 1) ∧ (¬ d (x0 + 1 + 49 + 5) x1 = 1 → (0 ≤ x1 ∧ x1 < 60) ∧ tCall E 39 [.inr (3, x0 + 1 + 2), .inl (0, d (x0 + 1 + 49 + 2) x1), .inl (0, x1)] d (tbk E 142 45 [.inr (10, x0), .inl (0, x1), .inl (0, d (x0 + 1 + 49 + 2) x1), tu, tu] [] 1 6 K)) ∧ (d (x0 + 1 + 49 + 5) x1 = 1 → K (.inl (some (0, 0))) d)) :
  tRun E 142 (5, [.inr (10, x0), .inl (0, x1), tu, tu, tu], [], 1, 6, d) K := tT_run (cut := [0, 5, 48, 84]) 21 _ h
theorem t_142_48 {E : mO × tW} {K : tK} {d : mD} {x0 x1 x2 y0 : Int}
  (h : (mInR y0 ∧ mInR ((-1))) ∧ (¬ y0 = (-1) → tCall E 43 [.inr (3, x0 + 1 + 2), .inl (0, x2), .inl (0, y0), .inl (0, d (x0 + 1) 2)] d (tbk E 142 81 [.inr (10, x0), .inl (0, x1), .inl (0, x2), .inl (0, y0), tu] [] 1 6 K)) ∧ (y0 = (-1) → K (.inr 3) d)) :
  tRun E 142 (48, [.inr (10, x0), .inl (0, x1), .inl (0, x2), tu, tu], [.inl (0, y0)], 1, 6, d) K := tT_run (cut := [0, 5, 48, 84]) 13 _ h
theorem t_142_84 {E : mO × tW} {K : tK} {d : mD} {x0 x1 x2 x3 y0 : Int}
  (h : (mInR y0 ∧ mInR 200) ∧ (y0 ≤ 200 → K (.inl (some (0, y0))) d) ∧ (200 < y0 → K (.inr 3) d)) :
  tRun E 142 (84, [.inr (10, x0), .inl (0, x1), .inl (0, x2), .inl (0, x3), tu], [.inl (0, y0)], 1, 6, d) K := tT_run (cut := [0, 5, 48, 84]) 6 _ h
theorem t_143_0 {E : mO × tW} {K : tK} {d : mD} {x0 x1 x2 : Int}
  (h : tCall E 165 [.inr (10, x0), .inl (0, x1)] d (tbk E 143 2 [.inr (10, x0), .inl (0, x1), .inl (0, x2)] [] 1 6 K)) :
  tRun E 143 (0, [.inr (10, x0), .inl (0, x1), .inl (0, x2)], [], 0, 0, d) K := tT_run (cut := [0, 5, 10, 29]) 3 _ h
theorem t_143_5 {E : mO × tW} {K : tK} {d : mD} {x0 x1 x2 : Int}
  (h : tCall E 170 [.inr (10, x0), .inl (0, x2)] d (tbk E 143 7 [.inr (10, x0), .inl (0, x1), .inl (0, x2)] [] 2 12 K)) :
  tRun E 143 (5, [.inr (10, x0), .inl (0, x1), .inl (0, x2)], [], 1, 6, d) K := tT_run (cut := [0, 5, 10, 29]) 3 _ h
theorem t_143_10 {E : mO × tW} {K : tK} {d : mD} {x0 x1 x2 : Int}
  (h : tCall E 44 [.inr (3, x0 + 1 + 2), .inl (0, x1), .inl (0, x2), .inl (0, d (x0 + 1) 2)] d (tbk E 143 26 [.inr (10, x0), .inl (0, x1), .inl (0, x2)] [] 2 12 K)) :
  tRun E 143 (10, [.inr (10, x0), .inl (0, x1), .inl (0, x2)], [], 2, 12, d) K := tT_run (cut := [0, 5, 10, 29]) 9 _ h
theorem t_143_29 {E : mO × tW} {K : tK} {d : mD} {x0 x1 x2 y0 : Int}
  (h : K (.inl (some (0, y0))) d) :
  tRun E 143 (29, [.inr (10, x0), .inl (0, x1), .inl (0, x2)], [.inl (0, y0)], 2, 12, d) K := tT_run (cut := [0, 5, 10, 29]) 1 _ h
theorem t_144_0 {E : mO × tW} {K : tK} {d : mD} {x0 x1 : Int}
  (h : tCall E 170 [.inr (10, x0), .inl (0, x1)] d (tbk E 144 2 [.inr (10, x0), .inl (0, x1)] [] 1 6 K)) :
  tRun E 144 (0, [.inr (10, x0), .inl (0, x1)], [], 0, 0, d) K := tT_run (cut := [0, 5, 16, 24]) 3 _ h
theorem t_144_5 {E : mO × tW} {K : tK} {d : mD} {x0 x1 : Int}
  (h : tCall E 59 [.inr (6, x0 + 580), .inr (6, x0 + 1)] d (tbk E 144 13 [.inr (10, x0), .inl (0, x1)] [] 1 6 K)) :
  tRun E 144 (5, [.inr (10, x0), .inl (0, x1)], [], 1, 6, d) K := tT_run (cut := [0, 5, 16, 24]) 5 _ h
theorem t_144_16 {E : mO × tW} {K : tK} {d : mD} {x0 x1 : Int}
  (h : tCall E 68 [.inr (6, x0 + 580), .inl (0, x1)] d (tbk E 144 21 [.inr (10, x0), .inl (0, x1)] [] 1 6 K)) :
  tRun E 144 (16, [.inr (10, x0), .inl (0, x1)], [], 1, 6, d) K := tT_run (cut := [0, 5, 16, 24]) 4 _ h
theorem t_144_24 {E : mO × tW} {K : tK} {d : mD} {x0 x1 y0 : Int}
  (h : K (.inl (some (0, d (x0 + 580 + 57) 0))) d) :
  tRun E 144 (24, [.inr (10, x0), .inl (0, x1)], [.inl (0, y0)], 1, 6, d) K := tT_run (cut := [0, 5, 16, 24]) 6 _ h
theorem t_145_0 {E : mO × tW} {K : tK} {d : mD} {x0 x1 : Int}
  (h : tCall E 165 [.inr (10, x0), .inl (0, x1)] d (tbk E 145 2 [.inr (10, x0), .inl (0, x1), tu] [] 1 6 K)) :
  tRun E 145 (0, [.inr (10, x0), .inl (0, x1), tu], [], 0, 0, d) K := tT_run (cut := [0, 5, 10]) 3 _ h
theorem t_145_5 {E : mO × tW} {K : tK} {d : mD} {x0 x1 : Int}
  (h : tCall E 173 [.inr (10, x0), .inl (0, x1)] d (tbk E 145 7 [.inr (10, x0), .inl (0, x1), tu] [] 1 6 K)) :
  tRun E 145 (5, [.inr (10, x0), .inl (0, x1), tu], [], 1, 6, d) K := tT_run (cut := [0, 5, 10]) 3 _ h
theorem t_145_10 {E : mO × tW} {K : tK} {d : mD} {x0 x1 y0 : Int}
  (h : (mInR y0 ∧ mInR ((-1))) ∧ (¬ y0 = (-1) → K (.inl (some (0, y0))) d) ∧ (y0 = (-1) → K (.inr 3) d)) :
  tRun E 145 (10, [.inr (10, x0), .inl (0, x1), tu], [.inl (0, y0)], 1, 6, d) K := tT_run (cut := [0, 5, 10]) 6 _ h
theorem t_146_0 {E : mO × tW} {K : tK} {d : mD} {x0 : Int}
  (h : tRun E 146 (8, [.inr (10, x0), .inl (0, (-1)), .inl (0, 201), .inl (0, 0), tu], [], 0, 0, d) K) :
  tRun E 146 (0, [.inr (10, x0), tu, tu, tu, tu], [], 0, 0, d) K := tT_run (cut := [0, 8, 27]) 6 _ h
theorem t_146_8 {E : mO × tW} {K : tK} {d : mD} {x0 x1 x2 x3 : Int} {v4 : tV}
  (h : (mInR x3 ∧ mInR (d (x0 + 1 + 2) 0)) ∧ (d (x0 + 1 + 2) 0 ≤ x3 → (mInR x1 ∧ mInR ((-1))) ∧ (¬ x1 = (-1) → K (.inl (some (0, x1))) d) ∧ (x1 = (-1) → K (.inr 3) d)) ∧ (x3 < d (x0 + 1 + 2) 0 → tCall E 173 [.inr (10, x0), .inl (0, x3)] d (tbk E 146 24 [.inr (10, x0), .inl (0, x1), .inl (0, x2), .inl (0, x3), v4] [] 0 0 K))) :
  tRun E 146 (8, [.inr (10, x0), .inl (0, x1), .inl (0, x2), .inl (0, x3), v4], [], 0, 0, d) K := tT_run (cut := [0, 8, 27]) 11 _ h
theorem t_146_27 {E : mO × tW} {K : tK} {d : mD} {x0 x1 x2 x3 y0 : Int} {v4 : tV}
  (h : (mInR y0 ∧ mInR ((-1))) ∧ (y0 = (-1) → tRun E 146 (8, [.inr (10, x0), .inl (0, x1), .inl (0, x2), .inl (0, x3 + 1), .inl (0, y0)], [], 0, 0, d) K) ∧ (¬ y0 = (-1) → (mInR y0 ∧ mInR x2) ∧ (x2 ≤ y0 → tRun E 146 (8, [.inr (10, x0), .inl (0, x1), .inl (0, x2), .inl (0, x3 + 1), .inl (0, y0)], [], 0, 0, d) K) ∧ (y0 < x2 → tRun E 146 (8, [.inr (10, x0), .inl (0, x3), .inl (0, y0), .inl (0, x3 + 1), .inl (0, y0)], [], 0, 0, d) K))) :
  tRun E 146 (27, [.inr (10, x0), .inl (0, x1), .inl (0, x2), .inl (0, x3), v4], [.inl (0, y0)], 0, 0, d) K := tT_run (cut := [0, 8, 27]) 13 _ h
theorem t_147_0 {E : mO × tW} {K : tK} {d : mD} {x0 x1 x2 : Int}
  (h : tCall E 172 [.inr (10, x0), .inl (0, x1), .inl (0, x2)] d (tbk E 147 3 [.inr (10, x0), .inl (0, x1), .inl (0, x2), tu] [] 3 18 K)) :
  tRun E 147 (0, [.inr (10, x0), .inl (0, x1), .inl (0, x2), tu], [], 0, 0, d) K := tT_run (cut := [0, 6, 17, 26, 33]) 4 _ h
theorem t_147_6 {E : mO × tW} {K : tK} {d : mD} {x0 x1 x2 : Int}
  (h : tCall E 59 [.inr (6, x0 + 580), .inr (6, x0 + 1)] d (tbk E 147 14 [.inr (10, x0), .inl (0, x1), .inl (0, x2), tu] [] 3 18 K)) :
  tRun E 147 (6, [.inr (10, x0), .inl (0, x1), .inl (0, x2), tu], [], 3, 18, d) K := tT_run (cut := [0, 6, 17, 26, 33]) 5 _ h
theorem t_147_17 {E : mO × tW} {K : tK} {d : mD} {x0 x1 x2 : Int}
  (h : tCall E 63 [.inr (6, x0 + 580), .inl (0, x1), .inl (0, x2)] d (tbk E 147 23 [.inr (10, x0), .inl (0, x1), .inl (0, x2), tu] [] 3 18 K)) :
  tRun E 147 (17, [.inr (10, x0), .inl (0, x1), .inl (0, x2), tu], [], 3, 18, d) K := tT_run (cut := [0, 6, 17, 26, 33]) 5 _ h
theorem t_147_26 {E : mO × tW} {K : tK} {d : mD} {x0 x1 x2 : Int}
  (h : tCall E 66 [.inr (6, x0 + 580)] d (tbk E 147 30 [.inr (10, x0), .inl (0, x1), .inl (0, x2), tu] [] 3 18 K)) :
  tRun E 147 (26, [.inr (10, x0), .inl (0, x1), .inl (0, x2), tu], [], 3, 18, d) K := tT_run (cut := [0, 6, 17, 26, 33]) 3 _ h
theorem t_147_33 {E : mO × tW} {K : tK} {d : mD} {x0 x1 x2 y0 : Int}
  (h : (mInR y0 ∧ mInR ((-1))) ∧ (¬ y0 = (-1) → K (.inl (some (0, y0))) d) ∧ (y0 = (-1) → K (.inr 3) d)) :
  tRun E 147 (33, [.inr (10, x0), .inl (0, x1), .inl (0, x2), tu], [.inl (0, y0)], 3, 18, d) K := tT_run (cut := [0, 6, 17, 26, 33]) 6 _ h
theorem t_148_0 {E : mO × tW} {K : tK} {d : mD} {x0 x1 : Int}
  (h : tCall E 165 [.inr (10, x0), .inl (0, x1)] d (tbk E 148 2 [.inr (10, x0), .inl (0, x1), tu, tu] [] 1 6 K)) :
  tRun E 148 (0, [.inr (10, x0), .inl (0, x1), tu, tu], [], 0, 0, d) K := tT_run (cut := [0, 5, 15, 43, 57, 87, 96, 115, 145]) 3 _ h
theorem t_148_5 {E : mO × tW} {K : tK} {d : mD} {x0 x1 : Int}
  (h : tRun E 148 (15, [.inr (10, x0), .inl (0, x1), .inl (0, 0), tu], [], 1, 6, mset d (x0 + 572) 1 0) K) :
  tRun E 148 (5, [.inr (10, x0), .inl (0, x1), tu, tu], [], 1, 6, d) K := tT_run (cut := [0, 5, 15, 43, 57, 87, 96, 115, 145]) 6 _ h
theorem t_148_15 {E : mO × tW} {K : tK} {d : mD} {x0 x1 x2 : Int} {v3 : tV}
  (h : (0 ≤ x1 ∧ x1 < 6) ∧ (mInR x2 ∧ mInR (d (x0 + 1 + 2 + 6) x1)) ∧ (d (x0 + 1 + 2 + 6) x1 ≤ x2 → (0 ≤ x1 ∧ x1 < 6) ∧ mInR (d (x0 + 1 + 2 + 5) x1) ∧ (¬ d (x0 + 1 + 2 + 5) x1 = 0 → tRun E 148 (145, [.inr (10, x0), .inl (0, x1), .inl (0, x2), v3], [], 1, 6, d) K) ∧ (d (x0 + 1 + 2 + 5) x1 = 0 → tCall E 86 [.inr (7, x0 + 572), .inl (0, 33)] d (tbk E 148 142 [.inr (10, x0), .inl (0, x1), .inl (0, x2), v3] [] 1 6 K))) ∧ (x2 < d (x0 + 1 + 2 + 6) x1 → tCall E 38 [.inr (3, x0 + 1 + 2), .inl (0, x1), .inl (0, x2)] d (tbk E 148 40 [.inr (10, x0), .inl (0, x1), .inl (0, x2), v3] [] 1 6 K))) :
  tRun E 148 (15, [.inr (10, x0), .inl (0, x1), .inl (0, x2), v3], [], 1, 6, d) K := tT_run (cut := [0, 5, 15, 43, 57, 87, 96, 115, 145]) 19 _ h
theorem t_148_43 {E : mO × tW} {K : tK} {d : mD} {x0 x1 x2 y0 : Int} {v3 : tV}
  (h : mInR x2 ∧ (x2 ≤ 0 → tRun E 148 (57, [.inr (10, x0), .inl (0, x1), .inl (0, x2), .inl (0, y0)], [], 1, 6, d) K) ∧ (0 < x2 → tCall E 86 [.inr (7, x0 + 572), .inl (0, 32)] d (tbk E 148 54 [.inr (10, x0), .inl (0, x1), .inl (0, x2), .inl (0, y0)] [] 1 6 K))) :
  tRun E 148 (43, [.inr (10, x0), .inl (0, x1), .inl (0, x2), v3], [.inl (0, y0)], 1, 6, d) K := tT_run (cut := [0, 5, 15, 43, 57, 87, 96, 115, 145]) 7 _ h
theorem t_148_57 {E : mO × tW} {K : tK} {d : mD} {x0 x1 x2 x3 : Int}
  (h : (0 ≤ x3 ∧ x3 < 60) ∧ (0 ≤ d (x0 + 1 + 49 + 1) x3 ∧ d (x0 + 1 + 49 + 1) x3 < 16) ∧ tCall E 88 [.inr (7, x0 + 572), .inl (0, d (x0 + 1 + 10 + 1) (d (x0 + 1 + 49 + 1) x3))] d (tbk E 148 84 [.inr (10, x0), .inl (0, x1), .inl (0, x2), .inl (0, x3)] [] 1 6 K)) :
  tRun E 148 (57, [.inr (10, x0), .inl (0, x1), .inl (0, x2), .inl (0, x3)], [], 1, 6, d) K := tT_run (cut := [0, 5, 15, 43, 57, 87, 96, 115, 145]) 14 _ h
theorem t_148_87 {E : mO × tW} {K : tK} {d : mD} {x0 x1 x2 x3 : Int}
  (h : tCall E 86 [.inr (7, x0 + 572), .inl (0, 64)] d (tbk E 148 93 [.inr (10, x0), .inl (0, x1), .inl (0, x2), .inl (0, x3)] [] 1 6 K)) :
  tRun E 148 (87, [.inr (10, x0), .inl (0, x1), .inl (0, x2), .inl (0, x3)], [], 1, 6, d) K := tT_run (cut := [0, 5, 15, 43, 57, 87, 96, 115, 145]) 4 _ h
theorem t_148_96 {E : mO × tW} {K : tK} {d : mD} {x0 x1 x2 x3 : Int}
  (h : (0 ≤ x3 ∧ x3 < 60) ∧ tCall E 89 [.inr (7, x0 + 572), .inl (0, d (x0 + 1 + 49 + 3) x3)] d (tbk E 148 112 [.inr (10, x0), .inl (0, x1), .inl (0, x2), .inl (0, x3)] [] 1 6 K)) :
  tRun E 148 (96, [.inr (10, x0), .inl (0, x1), .inl (0, x2), .inl (0, x3)], [], 1, 6, d) K := tT_run (cut := [0, 5, 15, 43, 57, 87, 96, 115, 145]) 9 _ h
theorem t_148_115 {E : mO × tW} {K : tK} {d : mD} {x0 x1 x2 x3 : Int}
  (h : tRun E 148 (15, [.inr (10, x0), .inl (0, x1), .inl (0, x2 + 1), .inl (0, x3)], [], 1, 6, d) K) :
  tRun E 148 (115, [.inr (10, x0), .inl (0, x1), .inl (0, x2), .inl (0, x3)], [], 1, 6, d) K := tT_run (cut := [0, 5, 15, 43, 57, 87, 96, 115, 145]) 2 _ h
theorem t_148_145 {E : mO × tW} {K : tK} {d : mD} {x0 x1 x2 : Int} {v3 : tV}
  (h : K (.inl (some (0, d (x0 + 572) 1))) d) :
  tRun E 148 (145, [.inr (10, x0), .inl (0, x1), .inl (0, x2), v3], [], 1, 6, d) K := tT_run (cut := [0, 5, 15, 43, 57, 87, 96, 115, 145]) 4 _ h
theorem t_149_0 {E : mO × tW} {K : tK} {d : mD} {x0 x1 : Int}
  (h : mInR x1 ∧ (x1 < 0 → K (.inr 1) d) ∧ (0 ≤ x1 → (mInR x1 ∧ mInR (d (x0 + 572) 1)) ∧ (x1 < d (x0 + 572) 1 → (0 ≤ x1 ∧ x1 < 1000) ∧ K (.inl (some (0, d (x0 + 572 + 1) x1))) d) ∧ (d (x0 + 572) 1 ≤ x1 → K (.inr 1) d))) :
  tRun E 149 (0, [.inr (10, x0), .inl (0, x1)], [], 0, 0, d) K := tT_run (cut := [0]) 13 _ h
theorem t_150_0 {E : mO × tW} {K : tK} {d : mD} {x0 x1 x2 : Int}
  (h : tCall E 166 [.inr (10, x0), .inl (0, x1)] d (tbk E 150 2 [.inr (10, x0), .inl (0, x1), .inl (0, x2)] [] 1 6 K)) :
  tRun E 150 (0, [.inr (10, x0), .inl (0, x1), .inl (0, x2)], [], 0, 0, d) K := tT_run (cut := [0, 5, 10, 19, 44, 53]) 3 _ h
theorem t_150_5 {E : mO × tW} {K : tK} {d : mD} {x0 x1 x2 : Int}
  (h : tCall E 165 [.inr (10, x0), .inl (0, x2)] d (tbk E 150 7 [.inr (10, x0), .inl (0, x1), .inl (0, x2)] [] 2 12 K)) :
  tRun E 150 (5, [.inr (10, x0), .inl (0, x1), .inl (0, x2)], [], 1, 6, d) K := tT_run (cut := [0, 5, 10, 19, 44, 53]) 3 _ h
theorem t_150_10 {E : mO × tW} {K : tK} {d : mD} {x0 x1 x2 : Int}
  (h : tCall E 60 [.inr (6, x0 + 1), .inl (0, x1), .inl (0, x2)] d (tbk E 150 16 [.inr (10, x0), .inl (0, x1), .inl (0, x2)] [] 2 12 K)) :
  tRun E 150 (10, [.inr (10, x0), .inl (0, x1), .inl (0, x2)], [], 2, 12, d) K := tT_run (cut := [0, 5, 10, 19, 44, 53]) 5 _ h
theorem t_150_19 {E : mO × tW} {K : tK} {d : mD} {x0 x1 x2 y0 : Int}
  (h : mInR y0 ∧ (¬ y0 = 0 → tCall E 2 [.inr (0, x0 + 64), .inr (6, x0 + 1)] d (tbk E 150 41 [.inr (10, x0), .inl (0, x1), .inl (0, x2)] [] 2 12 K)) ∧ (y0 = 0 → K (.inr 0) d)) :
  tRun E 150 (19, [.inr (10, x0), .inl (0, x1), .inl (0, x2)], [.inl (0, y0)], 2, 12, d) K := tT_run (cut := [0, 5, 10, 19, 44, 53]) 6 _ h
theorem t_150_44 {E : mO × tW} {K : tK} {d : mD} {x0 x1 x2 : Int}
  (h : tCall E 61 [.inr (6, x0 + 1), .inl (0, x1), .inl (0, x2)] d (tbk E 150 50 [.inr (10, x0), .inl (0, x1), .inl (0, x2)] [] 2 12 K)) :
  tRun E 150 (44, [.inr (10, x0), .inl (0, x1), .inl (0, x2)], [], 2, 12, d) K := tT_run (cut := [0, 5, 10, 19, 44, 53]) 5 _ h
theorem t_150_53 {E : mO × tW} {K : tK} {d : mD} {x0 x1 x2 y0 : Int}
  (h : K (.inl (some (0, y0))) d) :
  tRun E 150 (53, [.inr (10, x0), .inl (0, x1), .inl (0, x2)], [.inl (0, y0)], 2, 12, d) K := tT_run (cut := [0, 5, 10, 19, 44, 53]) 1 _ h
theorem t_151_0 {E : mO × tW} {K : tK} {d : mD} {x0 x1 : Int}
  (h : tCall E 167 [.inr (10, x0), .inl (0, x1)] d (tbk E 151 2 [.inr (10, x0), .inl (0, x1), tu] [] 1 6 K)) :
  tRun E 151 (0, [.inr (10, x0), .inl (0, x1), tu], [], 0, 0, d) K := tT_run (cut := [0, 5, 42, 75, 78, 97]) 3 _ h
theorem t_151_5 {E : mO × tW} {K : tK} {d : mD} {x0 x1 : Int}
  (h : (0 ≤ x1 ∧ x1 < 60) ∧ mInR (d (x0 + 1 + 49 + 5) x1) ∧ (d (x0 + 1 + 49 + 5) x1 = 0 → tCall E 2 [.inr (0, x0 + 64), .inr (6, x0 + 1)] d (tbk E 151 39 [.inr (10, x0), .inl (0, x1), tu] [] 1 6 K)) ∧ (¬ d (x0 + 1 + 49 + 5) x1 = 0 → K (.inr 0) d)) :
  tRun E 151 (5, [.inr (10, x0), .inl (0, x1), tu], [], 1, 6, d) K := tT_run (cut := [0, 5, 42, 75, 78, 97]) 12 _ h
theorem t_151_42 {E : mO × tW} {K : tK} {d : mD} {x0 x1 : Int}
  (h : (0 ≤ x1 ∧ x1 < 60) ∧ tCall E 39 [.inr (3, x0 + 1 + 2), .inl (0, d (x0 + 1 + 49 + 2) x1), .inl (0, x1)] d (tbk E 151 72 [.inr (10, x0), .inl (0, x1), .inl (0, d (x0 + 1 + 49 + 2) x1)] [.inl (0, d (x0 + 1 + 49 + 2) x1), .inr (3, x0 + 1 + 2)] 1 6 K)) :
  tRun E 151 (42, [.inr (10, x0), .inl (0, x1), tu], [], 1, 6, d) K := tT_run (cut := [0, 5, 42, 75, 78, 97]) 17 _ h
theorem t_151_75 {E : mO × tW} {K : tK} {d : mD} {x0 x1 x2 y0 y1 y2 : Int}
  (h : tCall E 41 [.inr (3, y0), .inl (0, y1), .inl (0, y2)] d (tbk E 151 75 [.inr (10, x0), .inl (0, x1), .inl (0, x2)] [] 1 6 K)) :
  tRun E 151 (75, [.inr (10, x0), .inl (0, x1), .inl (0, x2)], [.inl (0, y2), .inl (0, y1), .inr (3, y0)], 1, 6, d) K := tT_run (cut := [0, 5, 42, 75, 78, 97]) 1 _ h
theorem t_151_78 {E : mO × tW} {K : tK} {d : mD} {x0 x1 x2 : Int}
  (h : tCall E 97 [.inr (8, x0 + 1 + 49), .inl (0, x1), .inl (0, 2), .inl (0, d (x0 + 1) 2)] d (tbk E 151 94 [.inr (10, x0), .inl (0, x1), .inl (0, x2)] [] 1 6 K)) :
  tRun E 151 (78, [.inr (10, x0), .inl (0, x1), .inl (0, x2)], [], 1, 6, d) K := tT_run (cut := [0, 5, 42, 75, 78, 97]) 9 _ h
theorem t_151_97 {E : mO × tW} {K : tK} {d : mD} {x0 x1 x2 : Int}
  (h : (0 ≤ x1 ∧ x1 < 60) ∧ K (.inl (some (0, (d (x0 + 1) 2) - (d (x0 + 1 + 49 + 3) x1)))) d) :
  tRun E 151 (97, [.inr (10, x0), .inl (0, x1), .inl (0, x2)], [], 1, 6, d) K := tT_run (cut := [0, 5, 42, 75, 78, 97]) 11 _ h
theorem t_152_0 {E : mO × tW} {K : tK} {d : mD} {x0 x1 : Int}
  (h : (mInR x1 ∧ mInR 1) ∧ (x1 < 1 → K (.inr 2) d) ∧ (1 ≤ x1 → (mInR x1 ∧ mInR 99) ∧ (x1 ≤ 99 → tCall E 67 [.inr (6, x0 + 1), .inl (0, x1)] d (tbk E 152 27 [.inr (10, x0), .inl (0, x1)] [] 0 0 K)) ∧ (99 < x1 → K (.inr 2) d))) :
  tRun E 152 (0, [.inr (10, x0), .inl (0, x1)], [], 0, 0, d) K := tT_run (cut := [0, 30, 55, 63]) 10 _ h
theorem t_152_30 {E : mO × tW} {K : tK} {d : mD} {x0 x1 y0 : Int}
  (h : mInR y0 ∧ (¬ y0 = 0 → tCall E 2 [.inr (0, x0 + 64), .inr (6, x0 + 1)] d (tbk E 152 52 [.inr (10, x0), .inl (0, x1)] [] 0 0 K)) ∧ (y0 = 0 → K (.inr 0) d)) :
  tRun E 152 (30, [.inr (10, x0), .inl (0, x1)], [.inl (0, y0)], 0, 0, d) K := tT_run (cut := [0, 30, 55, 63]) 6 _ h
theorem t_152_55 {E : mO × tW} {K : tK} {d : mD} {x0 x1 : Int}
  (h : tCall E 68 [.inr (6, x0 + 1), .inl (0, x1)] d (tbk E 152 60 [.inr (10, x0), .inl (0, x1)] [] 0 0 K)) :
  tRun E 152 (55, [.inr (10, x0), .inl (0, x1)], [], 0, 0, d) K := tT_run (cut := [0, 30, 55, 63]) 4 _ h
theorem t_152_63 {E : mO × tW} {K : tK} {d : mD} {x0 x1 y0 : Int}
  (h : K (.inl (some (0, y0))) d) :
  tRun E 152 (63, [.inr (10, x0), .inl (0, x1)], [.inl (0, y0)], 0, 0, d) K := tT_run (cut := [0, 30, 55, 63]) 1 _ h
theorem t_153_0 {E : mO × tW} {K : tK} {d : mD} {x0 x1 : Int}
  (h : tCall E 167 [.inr (10, x0), .inl (0, x1)] d (tbk E 153 2 [.inr (10, x0), .inl (0, x1)] [] 1 6 K)) :
  tRun E 153 (0, [.inr (10, x0), .inl (0, x1)], [], 0, 0, d) K := tT_run (cut := [0, 5, 13, 38, 46]) 3 _ h
theorem t_153_5 {E : mO × tW} {K : tK} {d : mD} {x0 x1 : Int}
  (h : tCall E 73 [.inr (6, x0 + 1), .inl (0, x1)] d (tbk E 153 10 [.inr (10, x0), .inl (0, x1)] [] 1 6 K)) :
  tRun E 153 (5, [.inr (10, x0), .inl (0, x1)], [], 1, 6, d) K := tT_run (cut := [0, 5, 13, 38, 46]) 4 _ h
theorem t_153_13 {E : mO × tW} {K : tK} {d : mD} {x0 x1 y0 : Int}
  (h : mInR y0 ∧ (¬ y0 = 0 → tCall E 2 [.inr (0, x0 + 64), .inr (6, x0 + 1)] d (tbk E 153 35 [.inr (10, x0), .inl (0, x1)] [] 1 6 K)) ∧ (y0 = 0 → K (.inr 0) d)) :
  tRun E 153 (13, [.inr (10, x0), .inl (0, x1)], [.inl (0, y0)], 1, 6, d) K := tT_run (cut := [0, 5, 13, 38, 46]) 6 _ h
theorem t_153_38 {E : mO × tW} {K : tK} {d : mD} {x0 x1 : Int}
  (h : tCall E 74 [.inr (6, x0 + 1), .inl (0, x1)] d (tbk E 153 43 [.inr (10, x0), .inl (0, x1)] [] 1 6 K)) :
  tRun E 153 (38, [.inr (10, x0), .inl (0, x1)], [], 1, 6, d) K := tT_run (cut := [0, 5, 13, 38, 46]) 4 _ h
theorem t_153_46 {E : mO × tW} {K : tK} {d : mD} {x0 x1 y0 : Int}
  (h : K (.inl (some (0, y0))) d) :
  tRun E 153 (46, [.inr (10, x0), .inl (0, x1)], [.inl (0, y0)], 1, 6, d) K := tT_run (cut := [0, 5, 13, 38, 46]) 1 _ h
theorem t_154_0 {E : mO × tW} {K : tK} {d : mD} {x0 x1 x2 : Int}
  (h : tCall E 167 [.inr (10, x0), .inl (0, x1)] d (tbk E 154 2 [.inr (10, x0), .inl (0, x1), .inl (0, x2)] [] 1 6 K)) :
  tRun E 154 (0, [.inr (10, x0), .inl (0, x1), .inl (0, x2)], [], 0, 0, d) K := tT_run (cut := [0, 5, 10, 19, 44, 53]) 3 _ h
theorem t_154_5 {E : mO × tW} {K : tK} {d : mD} {x0 x1 x2 : Int}
  (h : tCall E 166 [.inr (10, x0), .inl (0, x2)] d (tbk E 154 7 [.inr (10, x0), .inl (0, x1), .inl (0, x2)] [] 2 12 K)) :
  tRun E 154 (5, [.inr (10, x0), .inl (0, x1), .inl (0, x2)], [], 1, 6, d) K := tT_run (cut := [0, 5, 10, 19, 44, 53]) 3 _ h
theorem t_154_10 {E : mO × tW} {K : tK} {d : mD} {x0 x1 x2 : Int}
  (h : tCall E 77 [.inr (6, x0 + 1), .inl (0, x1), .inl (0, x2)] d (tbk E 154 16 [.inr (10, x0), .inl (0, x1), .inl (0, x2)] [] 2 12 K)) :
  tRun E 154 (10, [.inr (10, x0), .inl (0, x1), .inl (0, x2)], [], 2, 12, d) K := tT_run (cut := [0, 5, 10, 19, 44, 53]) 5 _ h
theorem t_154_19 {E : mO × tW} {K : tK} {d : mD} {x0 x1 x2 y0 : Int}
  (h : mInR y0 ∧ (y0 = 0 → tCall E 2 [.inr (0, x0 + 64), .inr (6, x0 + 1)] d (tbk E 154 41 [.inr (10, x0), .inl (0, x1), .inl (0, x2)] [] 2 12 K)) ∧ (¬ y0 = 0 → K (.inr 0) d)) :
  tRun E 154 (19, [.inr (10, x0), .inl (0, x1), .inl (0, x2)], [.inl (0, y0)], 2, 12, d) K := tT_run (cut := [0, 5, 10, 19, 44, 53]) 6 _ h
theorem t_154_44 {E : mO × tW} {K : tK} {d : mD} {x0 x1 x2 : Int}
  (h : tCall E 75 [.inr (6, x0 + 1), .inl (0, x1), .inl (0, x2)] d (tbk E 154 50 [.inr (10, x0), .inl (0, x1), .inl (0, x2)] [] 2 12 K)) :
  tRun E 154 (44, [.inr (10, x0), .inl (0, x1), .inl (0, x2)], [], 2, 12, d) K := tT_run (cut := [0, 5, 10, 19, 44, 53]) 5 _ h
theorem t_154_53 {E : mO × tW} {K : tK} {d : mD} {x0 x1 x2 y0 : Int}
  (h : K (.inl (some (0, y0))) d) :
  tRun E 154 (53, [.inr (10, x0), .inl (0, x1), .inl (0, x2)], [.inl (0, y0)], 2, 12, d) K := tT_run (cut := [0, 5, 10, 19, 44, 53]) 1 _ h
theorem t_155_0 {E : mO × tW} {K : tK} {d : mD} {x0 x1 x2 x3 : Int}
  (h : tCall E 166 [.inr (10, x0), .inl (0, x1)] d (tbk E 155 2 [.inr (10, x0), .inl (0, x1), .inl (0, x2), .inl (0, x3)] [] 1 6 K)) :
  tRun E 155 (0, [.inr (10, x0), .inl (0, x1), .inl (0, x2), .inl (0, x3)], [], 0, 0, d) K := tT_run (cut := [0, 5, 10, 15, 32, 58, 71, 83]) 3 _ h
theorem t_155_5 {E : mO × tW} {K : tK} {d : mD} {x0 x1 x2 x3 : Int}
  (h : tCall E 166 [.inr (10, x0), .inl (0, x2)] d (tbk E 155 7 [.inr (10, x0), .inl (0, x1), .inl (0, x2), .inl (0, x3)] [] 2 12 K)) :
  tRun E 155 (5, [.inr (10, x0), .inl (0, x1), .inl (0, x2), .inl (0, x3)], [], 1, 6, d) K := tT_run (cut := [0, 5, 10, 15, 32, 58, 71, 83]) 3 _ h
theorem t_155_10 {E : mO × tW} {K : tK} {d : mD} {x0 x1 x2 x3 : Int}
  (h : tCall E 171 [.inr (10, x0), .inl (0, x3)] d (tbk E 155 12 [.inr (10, x0), .inl (0, x1), .inl (0, x2), .inl (0, x3)] [] 3 18 K)) :
  tRun E 155 (10, [.inr (10, x0), .inl (0, x1), .inl (0, x2), .inl (0, x3)], [], 2, 12, d) K := tT_run (cut := [0, 5, 10, 15, 32, 58, 71, 83]) 3 _ h
theorem t_155_15 {E : mO × tW} {K : tK} {d : mD} {x0 x1 x2 x3 : Int}
  (h : (mInR x1 ∧ mInR x2) ∧ (x1 = x2 → K (.inr 0) d) ∧ (¬ x1 = x2 → tCall E 111 [.inr (9, x0 + 1 + 57), .inl (0, x1), .inl (0, 0)] d (tbk E 155 29 [.inr (10, x0), .inl (0, x1), .inl (0, x2), .inl (0, x3)] [] 3 18 K))) :
  tRun E 155 (15, [.inr (10, x0), .inl (0, x1), .inl (0, x2), .inl (0, x3)], [], 3, 18, d) K := tT_run (cut := [0, 5, 10, 15, 32, 58, 71, 83]) 9 _ h
theorem t_155_32 {E : mO × tW} {K : tK} {d : mD} {x0 x1 x2 x3 y0 : Int}
  (h : (mInR y0 ∧ mInR x3) ∧ (x3 ≤ y0 → tCall E 2 [.inr (0, x0 + 64), .inr (6, x0 + 1)] d (tbk E 155 55 [.inr (10, x0), .inl (0, x1), .inl (0, x2), .inl (0, x3)] [] 3 18 K)) ∧ (y0 < x3 → K (.inr 0) d)) :
  tRun E 155 (32, [.inr (10, x0), .inl (0, x1), .inl (0, x2), .inl (0, x3)], [.inl (0, y0)], 3, 18, d) K := tT_run (cut := [0, 5, 10, 15, 32, 58, 71, 83]) 7 _ h
theorem t_155_58 {E : mO × tW} {K : tK} {d : mD} {x0 x1 x2 x3 : Int}
  (h : tCall E 114 [.inr (9, x0 + 1 + 57), .inl (0, x1), .inl (0, x2), .inl (0, x3)] d (tbk E 155 68 [.inr (10, x0), .inl (0, x1), .inl (0, x2), .inl (0, x3)] [] 3 18 K)) :
  tRun E 155 (58, [.inr (10, x0), .inl (0, x1), .inl (0, x2), .inl (0, x3)], [], 3, 18, d) K := tT_run (cut := [0, 5, 10, 15, 32, 58, 71, 83]) 7 _ h
theorem t_155_71 {E : mO × tW} {K : tK} {d : mD} {x0 x1 x2 x3 : Int}
  (h : tCall E 111 [.inr (9, x0 + 1 + 57), .inl (0, x2), .inl (0, 0)] d (tbk E 155 80 [.inr (10, x0), .inl (0, x1), .inl (0, x2), .inl (0, x3)] [] 3 18 K)) :
  tRun E 155 (71, [.inr (10, x0), .inl (0, x1), .inl (0, x2), .inl (0, x3)], [], 3, 18, d) K := tT_run (cut := [0, 5, 10, 15, 32, 58, 71, 83]) 6 _ h
theorem t_155_83 {E : mO × tW} {K : tK} {d : mD} {x0 x1 x2 x3 y0 : Int}
  (h : K (.inl (some (0, y0))) d) :
  tRun E 155 (83, [.inr (10, x0), .inl (0, x1), .inl (0, x2), .inl (0, x3)], [.inl (0, y0)], 3, 18, d) K := tT_run (cut := [0, 5, 10, 15, 32, 58, 71, 83]) 1 _ h
theorem t_156_0 {E : mO × tW} {K : tK} {d : mD} {x0 x1 x2 : Int}
  (h : tCall E 166 [.inr (10, x0), .inl (0, x1)] d (tbk E 156 2 [.inr (10, x0), .inl (0, x1), .inl (0, x2)] [] 1 6 K)) :
  tRun E 156 (0, [.inr (10, x0), .inl (0, x1), .inl (0, x2)], [], 0, 0, d) K := tT_run (cut := [0, 5, 10, 22, 48, 60, 67]) 3 _ h
theorem t_156_5 {E : mO × tW} {K : tK} {d : mD} {x0 x1 x2 : Int}
  (h : tCall E 171 [.inr (10, x0), .inl (0, x2)] d (tbk E 156 7 [.inr (10, x0), .inl (0, x1), .inl (0, x2)] [] 2 12 K)) :
  tRun E 156 (5, [.inr (10, x0), .inl (0, x1), .inl (0, x2)], [], 1, 6, d) K := tT_run (cut := [0, 5, 10, 22, 48, 60, 67]) 3 _ h
theorem t_156_10 {E : mO × tW} {K : tK} {d : mD} {x0 x1 x2 : Int}
  (h : tCall E 111 [.inr (9, x0 + 1 + 57), .inl (0, x1), .inl (0, 0)] d (tbk E 156 19 [.inr (10, x0), .inl (0, x1), .inl (0, x2)] [] 2 12 K)) :
  tRun E 156 (10, [.inr (10, x0), .inl (0, x1), .inl (0, x2)], [], 2, 12, d) K := tT_run (cut := [0, 5, 10, 22, 48, 60, 67]) 6 _ h
theorem t_156_22 {E : mO × tW} {K : tK} {d : mD} {x0 x1 x2 y0 : Int}
  (h : (mInR y0 ∧ mInR x2) ∧ (x2 ≤ y0 → tCall E 2 [.inr (0, x0 + 64), .inr (6, x0 + 1)] d (tbk E 156 45 [.inr (10, x0), .inl (0, x1), .inl (0, x2)] [] 2 12 K)) ∧ (y0 < x2 → K (.inr 0) d)) :
  tRun E 156 (22, [.inr (10, x0), .inl (0, x1), .inl (0, x2)], [.inl (0, y0)], 2, 12, d) K := tT_run (cut := [0, 5, 10, 22, 48, 60, 67]) 7 _ h
theorem t_156_48 {E : mO × tW} {K : tK} {d : mD} {x0 x1 x2 : Int}
  (h : tCall E 115 [.inr (9, x0 + 1 + 57), .inl (0, x1), .inl (0, x2)] d (tbk E 156 57 [.inr (10, x0), .inl (0, x1), .inl (0, x2)] [] 2 12 K)) :
  tRun E 156 (48, [.inr (10, x0), .inl (0, x1), .inl (0, x2)], [], 2, 12, d) K := tT_run (cut := [0, 5, 10, 22, 48, 60, 67]) 6 _ h
theorem t_156_60 {E : mO × tW} {K : tK} {d : mD} {x0 x1 x2 : Int}
  (h : tCall E 82 [.inr (6, x0 + 1)] d (tbk E 156 64 [.inr (10, x0), .inl (0, x1), .inl (0, x2)] [] 2 12 K)) :
  tRun E 156 (60, [.inr (10, x0), .inl (0, x1), .inl (0, x2)], [], 2, 12, d) K := tT_run (cut := [0, 5, 10, 22, 48, 60, 67]) 3 _ h
theorem t_156_67 {E : mO × tW} {K : tK} {d : mD} {x0 x1 x2 y0 : Int}
  (h : K (.inl (some (0, y0))) d) :
  tRun E 156 (67, [.inr (10, x0), .inl (0, x1), .inl (0, x2)], [.inl (0, y0)], 2, 12, d) K := tT_run (cut := [0, 5, 10, 22, 48, 60, 67]) 1 _ h
theorem t_157_0 {E : mO × tW} {K : tK} {d : mD} {x0 x1 : Int}
  (h : (mInR x1 ∧ mInR 1) ∧ (x1 < 1 → K (.inr 2) d) ∧ (1 ≤ x1 → (mInR x1 ∧ mInR 9999) ∧ (x1 ≤ 9999 → (mInR ((d (x0 + 1) 1) + x1) ∧ mInR 99999) ∧ ((d (x0 + 1) 1) + x1 ≤ 99999 → tCall E 2 [.inr (0, x0 + 64), .inr (6, x0 + 1)] d (tbk E 157 57 [.inr (10, x0), .inl (0, x1)] [] 0 0 K)) ∧ (99999 < (d (x0 + 1) 1) + x1 → K (.inr 0) d)) ∧ (9999 < x1 → K (.inr 2) d))) :
  tRun E 157 (0, [.inr (10, x0), .inl (0, x1)], [], 0, 0, d) K := tT_run (cut := [0, 60, 80]) 18 _ h
theorem t_157_60 {E : mO × tW} {K : tK} {d : mD} {x0 x1 : Int}
  (h : tCall E 82 [.inr (6, x0 + 1)] (mset d (x0 + 1) 1 ((d (x0 + 1) 1) + x1)) (tbk E 157 77 [.inr (10, x0), .inl (0, x1)] [] 0 0 K)) :
  tRun E 157 (60, [.inr (10, x0), .inl (0, x1)], [], 0, 0, d) K := tT_run (cut := [0, 60, 80]) 10 _ h
theorem t_157_80 {E : mO × tW} {K : tK} {d : mD} {x0 x1 y0 : Int}
  (h : K (.inl (some (0, d (x0 + 1) 1))) d) :
  tRun E 157 (80, [.inr (10, x0), .inl (0, x1)], [.inl (0, y0)], 0, 0, d) K := tT_run (cut := [0, 60, 80]) 5 _ h
theorem t_158_0 {E : mO × tW} {K : tK} {d : mD} {x0 x1 x2 : Int}
  (h : tCall E 172 [.inr (10, x0), .inl (0, x1), .inl (0, x2)] d (tbk E 158 3 [.inr (10, x0), .inl (0, x1), .inl (0, x2)] [] 3 18 K)) :
  tRun E 158 (0, [.inr (10, x0), .inl (0, x1), .inl (0, x2)], [], 0, 0, d) K := tT_run (cut := [0, 6, 17, 26]) 4 _ h
theorem t_158_6 {E : mO × tW} {K : tK} {d : mD} {x0 x1 x2 : Int}
  (h : tCall E 2 [.inr (0, x0 + 64), .inr (6, x0 + 1)] d (tbk E 158 14 [.inr (10, x0), .inl (0, x1), .inl (0, x2)] [] 3 18 K)) :
  tRun E 158 (6, [.inr (10, x0), .inl (0, x1), .inl (0, x2)], [], 3, 18, d) K := tT_run (cut := [0, 6, 17, 26]) 5 _ h
theorem t_158_17 {E : mO × tW} {K : tK} {d : mD} {x0 x1 x2 : Int}
  (h : tCall E 63 [.inr (6, x0 + 1), .inl (0, x1), .inl (0, x2)] d (tbk E 158 23 [.inr (10, x0), .inl (0, x1), .inl (0, x2)] [] 3 18 K)) :
  tRun E 158 (17, [.inr (10, x0), .inl (0, x1), .inl (0, x2)], [], 3, 18, d) K := tT_run (cut := [0, 6, 17, 26]) 5 _ h
theorem t_158_26 {E : mO × tW} {K : tK} {d : mD} {x0 x1 x2 : Int}
  (h : (0 ≤ x2 ∧ x2 < 6) ∧ K (.inl (some (0, d (x0 + 1 + 2 + 6) x2))) d) :
  tRun E 158 (26, [.inr (10, x0), .inl (0, x1), .inl (0, x2)], [], 3, 18, d) K := tT_run (cut := [0, 6, 17, 26]) 7 _ h
theorem t_159_0 {E : mO × tW} {K : tK} {d : mD} {x0 x1 : Int}
  (h : tCall E 165 [.inr (10, x0), .inl (0, x1)] d (tbk E 159 2 [.inr (10, x0), .inl (0, x1)] [] 1 6 K)) :
  tRun E 159 (0, [.inr (10, x0), .inl (0, x1)], [], 0, 0, d) K := tT_run (cut := [0, 5, 42, 65]) 3 _ h
theorem t_159_5 {E : mO × tW} {K : tK} {d : mD} {x0 x1 : Int}
  (h : (0 ≤ x1 ∧ x1 < 6) ∧ mInR (d (x0 + 1 + 2 + 5) x1) ∧ (d (x0 + 1 + 2 + 5) x1 = 0 → tCall E 2 [.inr (0, x0 + 64), .inr (6, x0 + 1)] d (tbk E 159 39 [.inr (10, x0), .inl (0, x1)] [] 1 6 K)) ∧ (¬ d (x0 + 1 + 2 + 5) x1 = 0 → K (.inr 0) d)) :
  tRun E 159 (5, [.inr (10, x0), .inl (0, x1)], [], 1, 6, d) K := tT_run (cut := [0, 5, 42, 65]) 12 _ h
theorem t_159_42 {E : mO × tW} {K : tK} {d : mD} {x0 x1 : Int}
  (h : (((1 : Int) = 0 ∨ (1 : Int) = 1) ∧ 0 ≤ x1 ∧ x1 < 6) ∧ tCall E 37 [.inr (3, x0 + 1 + 2)] (mset d (x0 + 1 + 2 + 5) x1 1) (tbk E 159 62 [.inr (10, x0), .inl (0, x1)] [] 1 6 K)) :
  tRun E 159 (42, [.inr (10, x0), .inl (0, x1)], [], 1, 6, d) K := tT_run (cut := [0, 5, 42, 65]) 11 _ h
theorem t_159_65 {E : mO × tW} {K : tK} {d : mD} {x0 x1 y0 : Int}
  (h : K (.inl (some (0, y0))) d) :
  tRun E 159 (65, [.inr (10, x0), .inl (0, x1)], [.inl (0, y0)], 1, 6, d) K := tT_run (cut := [0, 5, 42, 65]) 1 _ h
theorem t_160_0 {E : mO × tW} {K : tK} {d : mD} {x0 : Int}
  (h : tCall E 93 [.inr (7, x0 + 578), .inl (0, 0), .inl (0, d (x0 + 578) 1)] d (tbk E 160 12 [.inr (10, x0), tu] [] 0 0 K)) :
  tRun E 160 (0, [.inr (10, x0), tu], [], 0, 0, d) K := tT_run (cut := [0, 15, 66, 92, 103]) 7 _ h
theorem t_160_15 {E : mO × tW} {K : tK} {d : mD} {x0 y0 : Int}
  (h : (mInR y0 ∧ mInR ((-1))) ∧ (¬ y0 = (-1) → (mInR ((mset d (x0 + 578) 1 0) (x0 + 1 + 10) 0) ∧ mInR 16) ∧ (16 ≤ (mset d (x0 + 578) 1 0) (x0 + 1 + 10) 0 → K (.inr 0) (mset d (x0 + 578) 1 0)) ∧ ((mset d (x0 + 578) 1 0) (x0 + 1 + 10) 0 < 16 → tCall E 48 [.inr (4, x0 + 1 + 10), .inl (0, y0)] (mset d (x0 + 578) 1 0) (tbk E 160 63 [.inr (10, x0), .inl (0, y0)] [] 0 0 K))) ∧ (y0 = (-1) → K (.inr 2) (mset d (x0 + 578) 1 0))) :
  tRun E 160 (15, [.inr (10, x0), tu], [.inl (0, y0)], 0, 0, d) K := tT_run (cut := [0, 15, 66, 92, 103]) 19 _ h
theorem t_160_66 {E : mO × tW} {K : tK} {d : mD} {x0 x1 y0 : Int}
  (h : (mInR y0 ∧ mInR ((-1))) ∧ (y0 = (-1) → tCall E 2 [.inr (0, x0 + 64), .inr (6, x0 + 1)] d (tbk E 160 89 [.inr (10, x0), .inl (0, x1)] [] 0 0 K)) ∧ (¬ y0 = (-1) → K (.inr 0) d)) :
  tRun E 160 (66, [.inr (10, x0), .inl (0, x1)], [.inl (0, y0)], 0, 0, d) K := tT_run (cut := [0, 15, 66, 92, 103]) 7 _ h
theorem t_160_92 {E : mO × tW} {K : tK} {d : mD} {x0 x1 : Int}
  (h : tCall E 47 [.inr (4, x0 + 1 + 10), .inl (0, x1)] d (tbk E 160 100 [.inr (10, x0), .inl (0, x1)] [] 0 0 K)) :
  tRun E 160 (92, [.inr (10, x0), .inl (0, x1)], [], 0, 0, d) K := tT_run (cut := [0, 15, 66, 92, 103]) 5 _ h
theorem t_160_103 {E : mO × tW} {K : tK} {d : mD} {x0 x1 : Int}
  (h : K (.inl (some (0, (d (x0 + 1 + 10) 0) - 1))) d) :
  tRun E 160 (103, [.inr (10, x0), .inl (0, x1)], [], 0, 0, d) K := tT_run (cut := [0, 15, 66, 92, 103]) 7 _ h
theorem t_161_0 {E : mO × tW} {K : tK} {d : mD} {x0 x1 x2 : Int}
  (h : tCall E 169 [.inr (10, x0), .inl (0, x1)] d (tbk E 161 2 [.inr (10, x0), .inl (0, x1), .inl (0, x2), tu] [] 1 6 K)) :
  tRun E 161 (0, [.inr (10, x0), .inl (0, x1), .inl (0, x2), tu], [], 0, 0, d) K := tT_run (cut := [0, 5, 45]) 3 _ h
theorem t_161_5 {E : mO × tW} {K : tK} {d : mD} {x0 x1 x2 : Int}
  (h : (0 ≤ x1 ∧ x1 < E.1.1 0) ∧ (mInR x2 ∧ mInR (E.1.2 0 x1)) ∧ (x2 < E.1.2 0 x1 → K (.inr 2) d) ∧ (E.1.2 0 x1 ≤ x2 → (0 ≤ x1 ∧ x1 < E.1.1 1) ∧ (mInR x2 ∧ mInR (E.1.2 1 x1)) ∧ (x2 ≤ E.1.2 1 x1 → tCall E 2 [.inr (0, x0 + 64), .inr (6, x0 + 1)] d (tbk E 161 42 [.inr (10, x0), .inl (0, x1), .inl (0, x2), tu] [] 1 6 K)) ∧ (E.1.2 1 x1 < x2 → K (.inr 2) d))) :
  tRun E 161 (5, [.inr (10, x0), .inl (0, x1), .inl (0, x2), tu], [], 1, 6, d) K := tT_run (cut := [0, 5, 45]) 15 _ h
theorem t_161_45 {E : mO × tW} {K : tK} {d : mD} {x0 x1 x2 : Int}
  (h : (0 ≤ x1 ∧ x1 < 5) ∧ (0 ≤ x1 ∧ x1 < 5) ∧ K (.inl (some (0, d (x0 + 1 + 1) x1))) (mset d (x0 + 1 + 1) x1 x2)) :
  tRun E 161 (45, [.inr (10, x0), .inl (0, x1), .inl (0, x2), tu], [], 1, 6, d) K := tT_run (cut := [0, 5, 45]) 14 _ h
theorem t_162_0 {E : mO × tW} {K : tK} {d : mD} {x0 : Int}
  (h : mInR (d (x0 + 64) 2) ∧ (¬ d (x0 + 64) 2 = 0 → tCall E 3 [.inr (0, x0 + 64), .inr (6, x0 + 1)] d (tbk E 162 29 [.inr (10, x0)] [] 0 0 K)) ∧ (d (x0 + 64) 2 = 0 → K (.inr 0) d)) :
  tRun E 162 (0, [.inr (10, x0)], [], 0, 0, d) K := tT_run (cut := [0, 32]) 9 _ h
theorem t_162_32 {E : mO × tW} {K : tK} {d : mD} {x0 : Int}
  (h : K (.inl (some (0, d (x0 + 64) 2))) d) :
  tRun E 162 (32, [.inr (10, x0)], [], 0, 0, d) K := tT_run (cut := [0, 32]) 4 _ h
theorem t_163_0 {E : mO × tW} {K : tK} {d : mD} {x0 x1 : Int}
  (h : tCall E 168 [.inr (10, x0), .inl (0, x1)] d (tbk E 163 2 [.inr (10, x0), .inl (0, x1)] [] 1 6 K)) :
  tRun E 163 (0, [.inr (10, x0), .inl (0, x1)], [], 0, 0, d) K := tT_run (cut := [0, 5, 18]) 3 _ h
theorem t_163_5 {E : mO × tW} {K : tK} {d : mD} {x0 x1 : Int}
  (h : (0 ≤ x1 ∧ x1 < 2) ∧ tCall E 59 [.inr (6, x0 + 570 + (73 + 63 * x1)), .inr (6, x0 + 1)] d (tbk E 163 15 [.inr (10, x0), .inl (0, x1)] [] 1 6 K)) :
  tRun E 163 (5, [.inr (10, x0), .inl (0, x1)], [], 1, 6, d) K := tT_run (cut := [0, 5, 18]) 7 _ h
theorem t_163_18 {E : mO × tW} {K : tK} {d : mD} {x0 x1 : Int}
  (h : (((1 : Int) = 0 ∨ (1 : Int) = 1) ∧ 0 ≤ x1 ∧ x1 < 2) ∧ K (.inl none) (mset d (x0 + 571) x1 1)) :
  tRun E 163 (18, [.inr (10, x0), .inl (0, x1)], [], 1, 6, d) K := tT_run (cut := [0, 5, 18]) 6 _ h
theorem t_164_0 {E : mO × tW} {K : tK} {d : mD} {x0 x1 : Int}
  (h : tCall E 168 [.inr (10, x0), .inl (0, x1)] d (tbk E 164 2 [.inr (10, x0), .inl (0, x1)] [] 1 6 K)) :
  tRun E 164 (0, [.inr (10, x0), .inl (0, x1)], [], 0, 0, d) K := tT_run (cut := [0, 5, 38, 45]) 3 _ h
theorem t_164_5 {E : mO × tW} {K : tK} {d : mD} {x0 x1 : Int}
  (h : (0 ≤ x1 ∧ x1 < 2) ∧ mInR (d (x0 + 571) x1) ∧ (¬ d (x0 + 571) x1 = 0 → (0 ≤ x1 ∧ x1 < 2) ∧ tCall E 59 [.inr (6, x0 + 1), .inr (6, x0 + 570 + (73 + 63 * x1))] d (tbk E 164 35 [.inr (10, x0), .inl (0, x1)] [] 1 6 K)) ∧ (d (x0 + 571) x1 = 0 → K (.inr 3) d)) :
  tRun E 164 (5, [.inr (10, x0), .inl (0, x1)], [], 1, 6, d) K := tT_run (cut := [0, 5, 38, 45]) 12 _ h
theorem t_164_38 {E : mO × tW} {K : tK} {d : mD} {x0 x1 : Int}
  (h : tCall E 4 [.inr (0, x0 + 64)] d (tbk E 164 42 [.inr (10, x0), .inl (0, x1)] [] 1 6 K)) :
  tRun E 164 (38, [.inr (10, x0), .inl (0, x1)], [], 1, 6, d) K := tT_run (cut := [0, 5, 38, 45]) 3 _ h
theorem t_164_45 {E : mO × tW} {K : tK} {d : mD} {x0 x1 : Int}
  (h : K (.inl none) d) :
  tRun E 164 (45, [.inr (10, x0), .inl (0, x1)], [], 1, 6, d) K := tT_run (cut := [0, 5, 38, 45]) 1 _ h
theorem t_165_0 {E : mO × tW} {K : tK} {d : mD} {x0 x1 : Int}
  (h : mInR x1 ∧ (x1 < 0 → K (.inr 1) d) ∧ (0 ≤ x1 → (mInR x1 ∧ mInR (d (x0 + 1 + 2) 0)) ∧ (x1 < d (x0 + 1 + 2) 0 → K (.inl none) d) ∧ (d (x0 + 1 + 2) 0 ≤ x1 → K (.inr 1) d))) :
  tRun E 165 (0, [.inr (10, x0), .inl (0, x1)], [], 0, 0, d) K := tT_run (cut := [0]) 9 _ h
theorem t_166_0 {E : mO × tW} {K : tK} {d : mD} {x0 x1 : Int}
  (h : mInR x1 ∧ (x1 < 0 → K (.inr 1) d) ∧ (0 ≤ x1 → (mInR x1 ∧ mInR (d (x0 + 1 + 10) 0)) ∧ (x1 < d (x0 + 1 + 10) 0 → K (.inl none) d) ∧ (d (x0 + 1 + 10) 0 ≤ x1 → K (.inr 1) d))) :
  tRun E 166 (0, [.inr (10, x0), .inl (0, x1)], [], 0, 0, d) K := tT_run (cut := [0]) 9 _ h
theorem t_167_0 {E : mO × tW} {K : tK} {d : mD} {x0 x1 : Int}
  (h : mInR x1 ∧ (x1 < 0 → K (.inr 1) d) ∧ (0 ≤ x1 → (mInR x1 ∧ mInR (d (x0 + 1 + 49) 0)) ∧ (x1 < d (x0 + 1 + 49) 0 → K (.inl none) d) ∧ (d (x0 + 1 + 49) 0 ≤ x1 → K (.inr 1) d))) :
  tRun E 167 (0, [.inr (10, x0), .inl (0, x1)], [], 0, 0, d) K := tT_run (cut := [0]) 9 _ h
theorem t_168_0 {E : mO × tW} {K : tK} {d : mD} {x0 x1 : Int}
  (h : mInR x1 ∧ (x1 < 0 → K (.inr 1) d) ∧ (0 ≤ x1 → (mInR x1 ∧ mInR 2) ∧ (x1 < 2 → K (.inl none) d) ∧ (2 ≤ x1 → K (.inr 1) d))) :
  tRun E 168 (0, [.inr (10, x0), .inl (0, x1)], [], 0, 0, d) K := tT_run (cut := [0]) 6 _ h
theorem t_169_0 {E : mO × tW} {K : tK} {d : mD} {x0 x1 : Int}
  (h : mInR x1 ∧ (x1 < 0 → K (.inr 2) d) ∧ (0 ≤ x1 → (mInR x1 ∧ mInR 5) ∧ (x1 < 5 → K (.inl none) d) ∧ (5 ≤ x1 → K (.inr 2) d))) :
  tRun E 169 (0, [.inr (10, x0), .inl (0, x1)], [], 0, 0, d) K := tT_run (cut := [0]) 6 _ h
theorem t_170_0 {E : mO × tW} {K : tK} {d : mD} {x0 x1 : Int}
  (h : mInR x1 ∧ (x1 < 0 → K (.inr 2) d) ∧ (0 ≤ x1 → (mInR x1 ∧ mInR 200) ∧ (x1 ≤ 200 → K (.inl none) d) ∧ (200 < x1 → K (.inr 2) d))) :
  tRun E 170 (0, [.inr (10, x0), .inl (0, x1)], [], 0, 0, d) K := tT_run (cut := [0]) 6 _ h
theorem t_171_0 {E : mO × tW} {K : tK} {d : mD} {x0 x1 : Int}
  (h : (mInR x1 ∧ mInR 1) ∧ (x1 < 1 → K (.inr 2) d) ∧ (1 ≤ x1 → (mInR x1 ∧ mInR 200) ∧ (x1 ≤ 200 → K (.inl none) d) ∧ (200 < x1 → K (.inr 2) d))) :
  tRun E 171 (0, [.inr (10, x0), .inl (0, x1)], [], 0, 0, d) K := tT_run (cut := [0]) 7 _ h
theorem t_172_0 {E : mO × tW} {K : tK} {d : mD} {x0 x1 x2 : Int}
  (h : tCall E 165 [.inr (10, x0), .inl (0, x1)] d (tbk E 172 2 [.inr (10, x0), .inl (0, x1), .inl (0, x2)] [] 1 6 K)) :
  tRun E 172 (0, [.inr (10, x0), .inl (0, x1), .inl (0, x2)], [], 0, 0, d) K := tT_run (cut := [0, 5, 10]) 3 _ h
theorem t_172_5 {E : mO × tW} {K : tK} {d : mD} {x0 x1 x2 : Int}
  (h : tCall E 165 [.inr (10, x0), .inl (0, x2)] d (tbk E 172 7 [.inr (10, x0), .inl (0, x1), .inl (0, x2)] [] 2 12 K)) :
  tRun E 172 (5, [.inr (10, x0), .inl (0, x1), .inl (0, x2)], [], 1, 6, d) K := tT_run (cut := [0, 5, 10]) 3 _ h
theorem t_172_10 {E : mO × tW} {K : tK} {d : mD} {x0 x1 x2 : Int}
  (h : (mInR x1 ∧ mInR x2) ∧ (x1 = x2 → K (.inr 0) d) ∧ (¬ x1 = x2 → (0 ≤ x1 ∧ x1 < 6) ∧ mInR (d (x0 + 1 + 2 + 5) x1) ∧ (d (x0 + 1 + 2 + 5) x1 = 0 → K (.inr 0) d) ∧ (¬ d (x0 + 1 + 2 + 5) x1 = 0 → (0 ≤ x2 ∧ x2 < 6) ∧ mInR (d (x0 + 1 + 2 + 5) x2) ∧ (¬ d (x0 + 1 + 2 + 5) x2 = 0 → K (.inl none) d) ∧ (d (x0 + 1 + 2 + 5) x2 = 0 → K (.inr 0) d)))) :
  tRun E 172 (10, [.inr (10, x0), .inl (0, x1), .inl (0, x2)], [], 2, 12, d) K := tT_run (cut := [0, 5, 10]) 18 _ h
theorem t_173_0 {E : mO × tW} {K : tK} {d : mD} {x0 x1 : Int}
  (h : (0 ≤ x1 ∧ x1 < 6) ∧ mInR (d (x0 + 1 + 2 + 5) x1) ∧ (¬ d (x0 + 1 + 2 + 5) x1 = 0 → (0 ≤ x1 ∧ x1 < 6) ∧ tCall E 43 [.inr (3, x0 + 1 + 2), .inl (0, x1), .inl (0, d (x0 + 1 + 2 + 6) x1), .inl (0, d (x0 + 1) 2)] d (tbk E 173 44 [.inr (10, x0), .inl (0, x1), tu] [] 0 0 K)) ∧ (d (x0 + 1 + 2 + 5) x1 = 0 → K (.inl (some (0, (-1)))) d)) :
  tRun E 173 (0, [.inr (10, x0), .inl (0, x1), tu], [], 0, 0, d) K := tT_run (cut := [0, 47]) 21 _ h
theorem t_173_47 {E : mO × tW} {K : tK} {d : mD} {x0 x1 y0 : Int}
  (h : (mInR y0 ∧ mInR 200) ∧ (y0 ≤ 200 → K (.inl (some (0, y0))) d) ∧ (200 < y0 → K (.inl (some (0, (-1)))) d)) :
  tRun E 173 (47, [.inr (10, x0), .inl (0, x1), tu], [.inl (0, y0)], 0, 0, d) K := tT_run (cut := [0, 47]) 7 _ h
theorem t_175_0 {E : mO × tW} {K : tK} {d : mD} {x0 : Int}
  (h : K (.inl (some (0, d x0 0))) d) :
  tRun E 175 (0, [.inr (11, x0)], [], 0, 0, d) K := tT_run (cut := [0]) 3 _ h
theorem t_176_0 {E : mO × tW} {K : tK} {d : mD} {x0 x2 x4 : Int}
  (h : (mInL x0 ∧ mInL x2) ∧ mInR (mcmp x0 x2) ∧ (mcmp x0 x2 < 0 → ((0 : Int) = 0 ∨ (0 : Int) = 1) ∧ K (.inl (some (0, 0))) d) ∧ (0 ≤ mcmp x0 x2 → (mInL x0 ∧ mInL x4) ∧ mInR (mcmp x0 x4) ∧ (0 < mcmp x0 x4 → ((0 : Int) = 0 ∨ (0 : Int) = 1) ∧ K (.inl (some (0, 0))) d) ∧ (mcmp x0 x4 ≤ 0 → ((1 : Int) = 0 ∨ (1 : Int) = 1) ∧ K (.inl (some (0, 1))) d))) :
  tRun E 176 (0, [.inl (1, x0), tu, .inl (1, x2), tu, .inl (1, x4), tu], [], 0, 0, d) K := tT_run (cut := [0]) 11 _ h
theorem t_177_0 {E : mO × tW} {K : tK} {d : mD} {x0 : Int}
  (h : K (.inl (some (0, 12 + (68 * x0)))) d) :
  tRun E 177 (0, [.inl (0, x0)], [], 0, 0, d) K := tT_run (cut := [0]) 6 _ h
theorem t_178_0 {E : mO × tW} {K : tK} {d : mD} {x0 : Int}
  (h : K (.inl (some (0, 420 + (2 * x0)))) d) :
  tRun E 178 (0, [.inl (0, x0)], [], 0, 0, d) K := tT_run (cut := [0]) 6 _ h
theorem t_179_0 {E : mO × tW} {K : tK} {d : mD} {x0 : Int}
  (h : K (.inl (some (0, 452 + (24 * x0)))) d) :
  tRun E 179 (0, [.inl (0, x0)], [], 0, 0, d) K := tT_run (cut := [0]) 6 _ h
theorem t_180_0 {E : mO × tW} {K : tK} {d : mD} {x0 : Int}
  (h : K (.inl (some (0, 1916 + (5 * x0)))) d) :
  tRun E 180 (0, [.inl (0, x0)], [], 0, 0, d) K := tT_run (cut := [0]) 6 _ h
theorem t_181_0 {E : mO × tW} {K : tK} {d : mD} {x0 x1 x2 x3 x4 : Int}
  (h : (0 ≤ (7 : Int) ∧ (7 : Int) < 3116) ∧ tCall E 177 [.inl (0, d (x0 + 1) 7)] d (tbk E 181 7 [.inr (11, x0), .inl (0, x1), .inl (0, x2), .inl (0, x3), .inl (0, x4), tu] [] 0 0 K)) :
  tRun E 181 (0, [.inr (11, x0), .inl (0, x1), .inl (0, x2), .inl (0, x3), .inl (0, x4), tu], [], 0, 0, d) K := tT_run (cut := [0, 10]) 5 _ h
theorem t_181_10 {E : mO × tW} {K : tK} {d : mD} {x0 x1 x2 x3 x4 y0 : Int}
  (h : (0 ≤ y0 + 0 ∧ y0 + 0 < 3116) ∧ (0 ≤ y0 + 1 ∧ y0 + 1 < 3116) ∧ (0 ≤ y0 + 2 ∧ y0 + 2 < 3116) ∧ (0 ≤ y0 + 3 ∧ y0 + 3 < 3116) ∧ (0 ≤ y0 + 4 ∧ y0 + 4 < 3116) ∧ (0 ≤ (7 : Int) ∧ (7 : Int) < 3116) ∧ (0 ≤ (7 : Int) ∧ (7 : Int) < 3116) ∧ K (.inl none) (mset (mset (mset (mset (mset (mset d (x0 + 1) (y0 + 0) x1) (x0 + 1) (y0 + 1) x2) (x0 + 1) (y0 + 2) x3) (x0 + 1) (y0 + 3) x4) (x0 + 1) (y0 + 4) 1) (x0 + 1) 7 (((mset (mset (mset (mset (mset d (x0 + 1) (y0 + 0) x1) (x0 + 1) (y0 + 1) x2) (x0 + 1) (y0 + 2) x3) (x0 + 1) (y0 + 3) x4) (x0 + 1) (y0 + 4) 1) (x0 + 1) 7) + 1))) :
  tRun E 181 (10, [.inr (11, x0), .inl (0, x1), .inl (0, x2), .inl (0, x3), .inl (0, x4), tu], [.inl (0, y0)], 0, 0, d) K := tT_run (cut := [0, 10]) 45 _ h
theorem t_182_0 {E : mO × tW} {K : tK} {d : mD} {x0 x1 : Int}
  (h : (0 ≤ (8 : Int) ∧ (8 : Int) < 3116) ∧ tCall E 178 [.inl (0, d (x0 + 1) 8)] d (tbk E 182 11 [.inr (11, x0), .inl (0, x1)] [.inr (25, x0 + 1)] 0 0 K)) :
  tRun E 182 (0, [.inr (11, x0), .inl (0, x1)], [], 0, 0, d) K := tT_run (cut := [0, 14, 32]) 7 _ h
theorem t_182_14 {E : mO × tW} {K : tK} {d : mD} {x0 x1 y0 y1 : Int}
  (h : (0 ≤ y1 + 0 ∧ y1 + 0 < 3116) ∧ (0 ≤ (8 : Int) ∧ (8 : Int) < 3116) ∧ tCall E 178 [.inl (0, (mset d y0 (y1 + 0) x1) (x0 + 1) 8)] (mset d y0 (y1 + 0) x1) (tbk E 182 29 [.inr (11, x0), .inl (0, x1)] [.inr (25, x0 + 1)] 0 0 K)) :
  tRun E 182 (14, [.inr (11, x0), .inl (0, x1)], [.inl (0, y1), .inr (25, y0)], 0, 0, d) K := tT_run (cut := [0, 14, 32]) 11 _ h
theorem t_182_32 {E : mO × tW} {K : tK} {d : mD} {x0 x1 y0 y1 : Int}
  (h : (0 ≤ y1 + 1 ∧ y1 + 1 < 3116) ∧ (0 ≤ (8 : Int) ∧ (8 : Int) < 3116) ∧ (0 ≤ (8 : Int) ∧ (8 : Int) < 3116) ∧ K (.inl none) (mset (mset d y0 (y1 + 1) 0) (x0 + 1) 8 (((mset d y0 (y1 + 1) 0) (x0 + 1) 8) + 1))) :
  tRun E 182 (32, [.inr (11, x0), .inl (0, x1)], [.inl (0, y1), .inr (25, y0)], 0, 0, d) K := tT_run (cut := [0, 14, 32]) 13 _ h
theorem t_183_0 {E : mO × tW} {K : tK} {d : mD} {x0 x1 : Int}
  (h : tRun E 183 (2, [.inr (11, x0), .inl (0, x1), .inl (0, 0)], [], 0, 0, d) K) :
  tRun E 183 (0, [.inr (11, x0), .inl (0, x1), tu], [], 0, 0, d) K := tT_run (cut := [0, 2, 21]) 2 _ h
theorem t_183_2 {E : mO × tW} {K : tK} {d : mD} {x0 x1 x2 : Int}
  (h : (0 ≤ (8 : Int) ∧ (8 : Int) < 3116) ∧ (mInR x2 ∧ mInR (d (x0 + 1) 8)) ∧ (d (x0 + 1) 8 ≤ x2 → K (.inl (some (0, (-1)))) d) ∧ (x2 < d (x0 + 1) 8 → tCall E 178 [.inl (0, x2)] d (tbk E 183 18 [.inr (11, x0), .inl (0, x1), .inl (0, x2)] [.inr (25, x0 + 1)] 0 0 K))) :
  tRun E 183 (2, [.inr (11, x0), .inl (0, x1), .inl (0, x2)], [], 0, 0, d) K := tT_run (cut := [0, 2, 21]) 10 _ h
theorem t_183_21 {E : mO × tW} {K : tK} {d : mD} {x0 x1 x2 y0 y1 : Int}
  (h : (0 ≤ y1 + 0 ∧ y1 + 0 < 3116) ∧ (mInR (d y0 (y1 + 0)) ∧ mInR x1) ∧ (¬ d y0 (y1 + 0) = x1 → tRun E 183 (2, [.inr (11, x0), .inl (0, x1), .inl (0, x2 + 1)], [], 0, 0, d) K) ∧ (d y0 (y1 + 0) = x1 → K (.inl (some (0, x2))) d)) :
  tRun E 183 (21, [.inr (11, x0), .inl (0, x1), .inl (0, x2)], [.inl (0, y1), .inr (25, y0)], 0, 0, d) K := tT_run (cut := [0, 2, 21]) 7 _ h
theorem t_184_0 {E : mO × tW} {K : tK} {d : mD} {x0 x1 : Int}
  (h : tRun E 184 (2, [.inr (11, x0), .inl (0, x1), .inl (0, 0)], [], 0, 0, d) K) :
  tRun E 184 (0, [.inr (11, x0), .inl (0, x1), tu], [], 0, 0, d) K := tT_run (cut := [0, 2, 21]) 2 _ h
theorem t_184_2 {E : mO × tW} {K : tK} {d : mD} {x0 x1 x2 : Int}
  (h : (0 ≤ (7 : Int) ∧ (7 : Int) < 3116) ∧ (mInR x2 ∧ mInR (d (x0 + 1) 7)) ∧ (d (x0 + 1) 7 ≤ x2 → K (.inl (some (0, (-1)))) d) ∧ (x2 < d (x0 + 1) 7 → tCall E 177 [.inl (0, x2)] d (tbk E 184 18 [.inr (11, x0), .inl (0, x1), .inl (0, x2)] [.inr (25, x0 + 1)] 0 0 K))) :
  tRun E 184 (2, [.inr (11, x0), .inl (0, x1), .inl (0, x2)], [], 0, 0, d) K := tT_run (cut := [0, 2, 21]) 10 _ h
theorem t_184_21 {E : mO × tW} {K : tK} {d : mD} {x0 x1 x2 y0 y1 : Int}
  (h : (0 ≤ y1 + 0 ∧ y1 + 0 < 3116) ∧ (mInR (d y0 (y1 + 0)) ∧ mInR x1) ∧ (¬ d y0 (y1 + 0) = x1 → tRun E 184 (2, [.inr (11, x0), .inl (0, x1), .inl (0, x2 + 1)], [], 0, 0, d) K) ∧ (d y0 (y1 + 0) = x1 → K (.inl (some (0, x2))) d)) :
  tRun E 184 (21, [.inr (11, x0), .inl (0, x1), .inl (0, x2)], [.inl (0, y1), .inr (25, y0)], 0, 0, d) K := tT_run (cut := [0, 2, 21]) 7 _ h
theorem t_185_0 {E : mO × tW} {K : tK} {d : mD} {x0 x1 : Int}
  (h : tRun E 185 (3, [.inr (11, x0), .inl (0, x1), .inl (0, 24)], [], 0, 0, d) K) :
  tRun E 185 (0, [.inr (11, x0), .inl (0, x1), tu], [], 0, 0, d) K := tT_run (cut := [0, 3]) 2 _ h
theorem t_185_3 {E : mO × tW} {K : tK} {d : mD} {x0 x1 x2 : Int}
  (h : mInR x2 ∧ (x2 < 0 → K (.inl none) d) ∧ (0 ≤ x2 → (0 ≤ d x0 9 ∧ d x0 9 < 1000) ∧ tRun E 185 (3, [.inr (11, x0), .inl (0, x1), .inl (0, x2 + (-8))], [], 0, 0, mset (mset d (x0 + 7) (d x0 9) (miand (mishr x1 x2) 255)) x0 9 (((mset d (x0 + 7) (d x0 9) (miand (mishr x1 x2) 255)) x0 9) + 1)) K)) :
  tRun E 185 (3, [.inr (11, x0), .inl (0, x1), .inl (0, x2)], [], 0, 0, d) K := tT_run (cut := [0, 3]) 20 _ h
theorem t_186_0 {E : mO × tW} {K : tK} {d : mD} {x0 x1 x2 x3 x4 x5 : Int}
  (h : (mInR ((d x0 9) + 20) ∧ mInR 1000) ∧ ((d x0 9) + 20 ≤ 1000 → mInR ((mset d x0 0 0) x0 0) ∧ ((mset d x0 0 0) x0 0 ≤ 0 → tCall E 185 [.inr (11, x0), .inl (0, x1)] (mset d x0 0 0) (tbk E 186 33 [.inr (11, x0), .inl (0, x1), .inl (0, x2), .inl (0, x3), .inl (0, x4), .inl (0, x5)] [] 0 0 K)) ∧ (0 < (mset d x0 0 0) x0 0 → K (.inl (some (0, 0))) (mset d x0 0 0))) ∧ (1000 < (d x0 9) + 20 → mInR ((mset d x0 0 1) x0 0) ∧ ((mset d x0 0 1) x0 0 ≤ 0 → tCall E 185 [.inr (11, x0), .inl (0, x1)] (mset d x0 0 1) (tbk E 186 33 [.inr (11, x0), .inl (0, x1), .inl (0, x2), .inl (0, x3), .inl (0, x4), .inl (0, x5)] [] 0 0 K)) ∧ (0 < (mset d x0 0 1) x0 0 → K (.inl (some (0, 0))) (mset d x0 0 1)))) :
  tRun E 186 (0, [.inr (11, x0), .inl (0, x1), .inl (0, x2), .inl (0, x3), .inl (0, x4), .inl (0, x5)], [], 0, 0, d) K := tT_run (cut := [0, 36, 41, 46, 52, 58]) 16 _ h
theorem t_186_36 {E : mO × tW} {K : tK} {d : mD} {x0 x1 x2 x3 x4 x5 : Int}
  (h : tCall E 185 [.inr (11, x0), .inl (0, x2)] d (tbk E 186 38 [.inr (11, x0), .inl (0, x1), .inl (0, x2), .inl (0, x3), .inl (0, x4), .inl (0, x5)] [] 0 0 K)) :
  tRun E 186 (36, [.inr (11, x0), .inl (0, x1), .inl (0, x2), .inl (0, x3), .inl (0, x4), .inl (0, x5)], [], 0, 0, d) K := tT_run (cut := [0, 36, 41, 46, 52, 58]) 3 _ h
theorem t_186_41 {E : mO × tW} {K : tK} {d : mD} {x0 x1 x2 x3 x4 x5 : Int}
  (h : tCall E 185 [.inr (11, x0), .inl (0, x3)] d (tbk E 186 43 [.inr (11, x0), .inl (0, x1), .inl (0, x2), .inl (0, x3), .inl (0, x4), .inl (0, x5)] [] 0 0 K)) :
  tRun E 186 (41, [.inr (11, x0), .inl (0, x1), .inl (0, x2), .inl (0, x3), .inl (0, x4), .inl (0, x5)], [], 0, 0, d) K := tT_run (cut := [0, 36, 41, 46, 52, 58]) 3 _ h
theorem t_186_46 {E : mO × tW} {K : tK} {d : mD} {x0 x1 x2 x3 x4 x5 : Int}
  (h : tCall E 185 [.inr (11, x0), .inl (0, x4)] d (tbk E 186 49 [.inr (11, x0), .inl (0, x1), .inl (0, x2), .inl (0, x3), .inl (0, x4), .inl (0, x5)] [] 0 0 K)) :
  tRun E 186 (46, [.inr (11, x0), .inl (0, x1), .inl (0, x2), .inl (0, x3), .inl (0, x4), .inl (0, x5)], [], 0, 0, d) K := tT_run (cut := [0, 36, 41, 46, 52, 58]) 3 _ h
theorem t_186_52 {E : mO × tW} {K : tK} {d : mD} {x0 x1 x2 x3 x4 x5 : Int}
  (h : tCall E 185 [.inr (11, x0), .inl (0, x5)] d (tbk E 186 55 [.inr (11, x0), .inl (0, x1), .inl (0, x2), .inl (0, x3), .inl (0, x4), .inl (0, x5)] [] 0 0 K)) :
  tRun E 186 (52, [.inr (11, x0), .inl (0, x1), .inl (0, x2), .inl (0, x3), .inl (0, x4), .inl (0, x5)], [], 0, 0, d) K := tT_run (cut := [0, 36, 41, 46, 52, 58]) 3 _ h
theorem t_186_58 {E : mO × tW} {K : tK} {d : mD} {x0 x1 x2 x3 x4 x5 : Int}
  (h : K (.inl (some (0, d x0 9))) d) :
  tRun E 186 (58, [.inr (11, x0), .inl (0, x1), .inl (0, x2), .inl (0, x3), .inl (0, x4), .inl (0, x5)], [], 0, 0, d) K := tT_run (cut := [0, 36, 41, 46, 52, 58]) 3 _ h
theorem t_187_0 {E : mO × tW} {K : tK} {d : mD} {x0 x1 : Int}
  (h : mInR x1 ∧ mInR (d x0 9) ∧ tCall E 176 [.inl (1, x1), .inl (1, 0), .inl (1, d x0 9)] d (tbk E 187 9 [.inr (11, x0), .inl (0, x1)] [.inr (11, x0)] 0 0 K)) :
  tRun E 187 (0, [.inr (11, x0), .inl (0, x1)], [], 0, 0, d) K := tT_run (cut := [0, 12]) 8 _ h
theorem t_187_12 {E : mO × tW} {K : tK} {d : mD} {x0 x1 y0 y1 : Int}
  (h : mInR y1 ∧ (y1 = 0 → mInR ((mset d y0 0 1) x0 0) ∧ ((mset d y0 0 1) x0 0 ≤ 0 → K (.inl (some (0, x1))) (mset (mset d y0 0 1) x0 9 x1)) ∧ (0 < (mset d y0 0 1) x0 0 → K (.inl (some (0, 0))) (mset d y0 0 1))) ∧ (¬ y1 = 0 → mInR ((mset d y0 0 0) x0 0) ∧ ((mset d y0 0 0) x0 0 ≤ 0 → K (.inl (some (0, x1))) (mset (mset d y0 0 0) x0 9 x1)) ∧ (0 < (mset d y0 0 0) x0 0 → K (.inl (some (0, 0))) (mset d y0 0 0)))) :
  tRun E 187 (12, [.inr (11, x0), .inl (0, x1)], [.inl (0, y1), .inr (11, y0)], 0, 0, d) K := tT_run (cut := [0, 12]) 12 _ h
theorem t_188_0 {E : mO × tW} {K : tK} {d : mD} {x0 x1 x2 : Int}
  (h : mInR (d x0 13) ∧ (¬ d x0 13 = 0 → K (.inl none) d) ∧ (d x0 13 = 0 → ((1 : Int) = 0 ∨ (1 : Int) = 1) ∧ K (.inl none) (mset (mset (mset d x0 13 1) x0 11 x1) x0 12 x2))) :
  tRun E 188 (0, [.inr (11, x0), .inl (0, x1), .inl (0, x2)], [], 0, 0, d) K := tT_run (cut := [0]) 13 _ h
theorem t_189_0 {E : mO × tW} {K : tK} {d : mD} {x0 : Int}
  (h : (mInR (d x0 10) ∧ mInR (d x0 9)) ∧ (d x0 9 ≤ d x0 10 → K (.inl none) d) ∧ (d x0 10 < d x0 9 → (0 ≤ d x0 10 ∧ d x0 10 < 1000) ∧ (mInR (d (x0 + 7) (d x0 10)) ∧ mInR 10) ∧ (d (x0 + 7) (d x0 10) = 10 → tRun E 189 (0, [.inr (11, x0)], [], 0, 0, mset d x0 10 ((d x0 10) + 1)) K) ∧ (¬ d (x0 + 7) (d x0 10) = 10 → (0 ≤ d x0 10 ∧ d x0 10 < 1000) ∧ (mInR (d (x0 + 7) (d x0 10)) ∧ mInR 32) ∧ (¬ d (x0 + 7) (d x0 10) = 32 → K (.inl none) d) ∧ (d (x0 + 7) (d x0 10) = 32 → tRun E 189 (0, [.inr (11, x0)], [], 0, 0, mset d x0 10 ((d x0 10) + 1)) K)))) :
  tRun E 189 (0, [.inr (11, x0)], [], 0, 0, d) K := tT_run (cut := [0]) 26 _ h
theorem t_190_0 {E : mO × tW} {K : tK} {d : mD} {x0 x1 : Int}
  (h : (mInR x1 ∧ mInR (d x0 9)) ∧ (d x0 9 ≤ x1 → ((0 : Int) = 0 ∨ (0 : Int) = 1) ∧ K (.inl (some (0, 0))) d) ∧ (x1 < d x0 9 → (0 ≤ x1 ∧ x1 < 1000) ∧ mInR (d (x0 + 7) x1) ∧ tCall E 176 [.inl (1, d (x0 + 7) x1), .inl (1, 97), .inl (1, 122)] d (tbk E 190 21 [.inr (11, x0), .inl (0, x1)] [] 0 0 K))) :
  tRun E 190 (0, [.inr (11, x0), .inl (0, x1)], [], 0, 0, d) K := tT_run (cut := [0, 24]) 12 _ h
theorem t_190_24 {E : mO × tW} {K : tK} {d : mD} {x0 x1 y0 : Int}
  (h : mInR y0 ∧ (y0 = 0 → ((0 : Int) = 0 ∨ (0 : Int) = 1) ∧ K (.inl (some (0, 0))) d) ∧ (¬ y0 = 0 → ((1 : Int) = 0 ∨ (1 : Int) = 1) ∧ K (.inl (some (0, 1))) d)) :
  tRun E 190 (24, [.inr (11, x0), .inl (0, x1)], [.inl (0, y0)], 0, 0, d) K := tT_run (cut := [0, 24]) 4 _ h
theorem t_191_0 {E : mO × tW} {K : tK} {d : mD} {x0 x1 : Int}
  (h : (mInR x1 ∧ mInR (d x0 9)) ∧ (d x0 9 ≤ x1 → ((0 : Int) = 0 ∨ (0 : Int) = 1) ∧ K (.inl (some (0, 0))) d) ∧ (x1 < d x0 9 → (0 ≤ x1 ∧ x1 < 1000) ∧ mInR (d (x0 + 7) x1) ∧ tCall E 176 [.inl (1, d (x0 + 7) x1), .inl (1, 48), .inl (1, 57)] d (tbk E 191 21 [.inr (11, x0), .inl (0, x1)] [] 0 0 K))) :
  tRun E 191 (0, [.inr (11, x0), .inl (0, x1)], [], 0, 0, d) K := tT_run (cut := [0, 24]) 12 _ h
theorem t_191_24 {E : mO × tW} {K : tK} {d : mD} {x0 x1 y0 : Int}
  (h : mInR y0 ∧ (y0 = 0 → ((0 : Int) = 0 ∨ (0 : Int) = 1) ∧ K (.inl (some (0, 0))) d) ∧ (¬ y0 = 0 → ((1 : Int) = 0 ∨ (1 : Int) = 1) ∧ K (.inl (some (0, 1))) d)) :
  tRun E 191 (24, [.inr (11, x0), .inl (0, x1)], [.inl (0, y0)], 0, 0, d) K := tT_run (cut := [0, 24]) 4 _ h
theorem t_192_0 {E : mO × tW} {K : tK} {d : mD} {x0 x1 : Int}
  (h : tCall E 189 [.inr (11, x0)] d (tbk E 192 1 [.inr (11, x0), .inl (0, x1)] [] 0 0 K)) :
  tRun E 192 (0, [.inr (11, x0), .inl (0, x1)], [], 0, 0, d) K := tT_run (cut := [0, 4]) 2 _ h
theorem t_192_4 {E : mO × tW} {K : tK} {d : mD} {x0 x1 : Int}
  (h : (mInR (d x0 10) ∧ mInR (d x0 9)) ∧ (d x0 9 ≤ d x0 10 → ((0 : Int) = 0 ∨ (0 : Int) = 1) ∧ K (.inl (some (0, 0))) d) ∧ (d x0 10 < d x0 9 → (0 ≤ d x0 10 ∧ d x0 10 < 1000) ∧ (mInR (d (x0 + 7) (d x0 10)) ∧ mInR x1) ∧ (¬ d (x0 + 7) (d x0 10) = x1 → ((0 : Int) = 0 ∨ (0 : Int) = 1) ∧ K (.inl (some (0, 0))) d) ∧ (d (x0 + 7) (d x0 10) = x1 → ((1 : Int) = 0 ∨ (1 : Int) = 1) ∧ K (.inl (some (0, 1))) d))) :
  tRun E 192 (4, [.inr (11, x0), .inl (0, x1)], [], 0, 0, d) K := tT_run (cut := [0, 4]) 15 _ h
theorem t_193_0 {E : mO × tW} {K : tK} {d : mD} {x0 x1 : Int}
  (h : tCall E 189 [.inr (11, x0)] d (tbk E 193 1 [.inr (11, x0), .inl (0, x1), tu, tu, tu] [] 0 0 K)) :
  tRun E 193 (0, [.inr (11, x0), .inl (0, x1), tu, tu, tu], [], 0, 0, d) K := tT_run (cut := [0, 4, 17, 25]) 2 _ h
theorem t_193_4 {E : mO × tW} {K : tK} {d : mD} {x0 x1 : Int}
  (h : tRun E 193 (17, [.inr (11, x0), .inl (0, x1), .inl (1, 0), tu, .inl (0, 0)], [], 0, 0, mset d x0 16 (d x0 10)) K) :
  tRun E 193 (4, [.inr (11, x0), .inl (0, x1), tu, tu, tu], [], 0, 0, d) K := tT_run (cut := [0, 4, 17, 25]) 8 _ h
theorem t_193_17 {E : mO × tW} {K : tK} {d : mD} {x0 x1 x2 x4 : Int}
  (h : tCall E 190 [.inr (11, x0), .inl (0, d x0 10)] d (tbk E 193 22 [.inr (11, x0), .inl (0, x1), .inl (1, x2), tu, .inl (0, x4)] [] 0 0 K)) :
  tRun E 193 (17, [.inr (11, x0), .inl (0, x1), .inl (1, x2), tu, .inl (0, x4)], [], 0, 0, d) K := tT_run (cut := [0, 4, 17, 25]) 4 _ h
theorem t_193_25 {E : mO × tW} {K : tK} {d : mD} {x0 x1 x2 x4 y0 : Int}
  (h : mInR y0 ∧ (y0 = 0 → K (.inl (some (1, x2))) d) ∧ (¬ y0 = 0 → (mInR x4 ∧ mInR x1) ∧ (x1 ≤ x4 → tRun E 193 (17, [.inr (11, x0), .inl (0, x1), .inl (1, (-1)), tu, .inl (0, x4 + 1)], [], 0, 0, mset d x0 10 ((d x0 10) + 1)) K) ∧ (x4 < x1 → (0 ≤ d x0 10 ∧ d x0 10 < 1000) ∧ mInR (d (x0 + 7) (d x0 10)) ∧ tRun E 193 (17, [.inr (11, x0), .inl (0, x1), .inl (1, (((27 * x2) + (d (x0 + 7) (d x0 10))) - 97) + 1), tu, .inl (0, x4 + 1)], [], 0, 0, mset d x0 10 ((d x0 10) + 1)) K))) :
  tRun E 193 (25, [.inr (11, x0), .inl (0, x1), .inl (1, x2), tu, .inl (0, x4)], [.inl (0, y0)], 0, 0, d) K := tT_run (cut := [0, 4, 17, 25]) 28 _ h
theorem t_194_0 {E : mO × tW} {K : tK} {d : mD} {x0 x1 : Int}
  (h : tCall E 189 [.inr (11, x0)] d (tbk E 194 1 [.inr (11, x0), .inl (1, x1), tu, tu, tu] [] 0 0 K)) :
  tRun E 194 (0, [.inr (11, x0), .inl (1, x1), tu, tu, tu], [], 0, 0, d) K := tT_run (cut := [0, 4, 22]) 2 _ h
theorem t_194_4 {E : mO × tW} {K : tK} {d : mD} {x0 x1 : Int}
  (h : mInR (d x0 13) ∧ (¬ d x0 13 = 0 → mInR 0 ∧ (¬ (0 : Int) = 0 → ((0 : Int) = 0 ∨ (0 : Int) = 1) ∧ K (.inl (some (0, 0))) d) ∧ ((0 : Int) = 0 → ((0 : Int) = 0 ∨ (0 : Int) = 1) ∧ K (.inl (some (0, 0))) (mset d x0 10 (d x0 10)))) ∧ (d x0 13 = 0 → tCall E 193 [.inr (11, x0), .inl (0, 8)] d (tbk E 194 19 [.inr (11, x0), .inl (1, x1), tu, .inl (0, d x0 10), tu] [] 0 0 K))) :
  tRun E 194 (4, [.inr (11, x0), .inl (1, x1), tu, tu, tu], [], 0, 0, d) K := tT_run (cut := [0, 4, 22]) 15 _ h
theorem t_194_22 {E : mO × tW} {K : tK} {d : mD} {x0 x1 x3 y0 : Int}
  (h : (mInL y0 ∧ mInL x1) ∧ mInR (mcmp y0 x1) ∧ (¬ mcmp y0 x1 = 0 → mInR 0 ∧ (¬ (0 : Int) = 0 → ((0 : Int) = 0 ∨ (0 : Int) = 1) ∧ K (.inl (some (0, 0))) d) ∧ ((0 : Int) = 0 → ((0 : Int) = 0 ∨ (0 : Int) = 1) ∧ K (.inl (some (0, 0))) (mset d x0 10 x3))) ∧ (mcmp y0 x1 = 0 → mInR 1 ∧ (¬ (1 : Int) = 0 → ((1 : Int) = 0 ∨ (1 : Int) = 1) ∧ K (.inl (some (0, 1))) d) ∧ ((1 : Int) = 0 → ((1 : Int) = 0 ∨ (1 : Int) = 1) ∧ K (.inl (some (0, 1))) (mset d x0 10 x3)))) :
  tRun E 194 (22, [.inr (11, x0), .inl (1, x1), tu, .inl (0, x3), tu], [.inl (1, y0)], 0, 0, d) K := tT_run (cut := [0, 4, 22]) 13 _ h
theorem t_195_0 {E : mO × tW} {K : tK} {d : mD} {x0 : Int}
  (h : mInR (d x0 13) ∧ (¬ d x0 13 = 0 → tRun E 195 (38, [.inr (11, x0)], [], 0, 0, d) K) ∧ (d x0 13 = 0 → tCall E 192 [.inr (11, x0), .inl (0, 59)] d (tbk E 195 10 [.inr (11, x0)] [] 0 0 K))) :
  tRun E 195 (0, [.inr (11, x0)], [], 0, 0, d) K := tT_run (cut := [0, 13, 38]) 6 _ h
theorem t_195_13 {E : mO × tW} {K : tK} {d : mD} {x0 y0 : Int}
  (h : mInR y0 ∧ (y0 = 0 → tCall E 188 [.inr (11, x0), .inl (0, 1), .inl (0, d x0 10)] d (tbk E 195 35 [.inr (11, x0)] [] 0 0 K)) ∧ (¬ y0 = 0 → tRun E 195 (38, [.inr (11, x0)], [], 0, 0, mset d x0 10 ((d x0 10) + 1)) K)) :
  tRun E 195 (13, [.inr (11, x0)], [.inl (0, y0)], 0, 0, d) K := tT_run (cut := [0, 13, 38]) 8 _ h
theorem t_195_38 {E : mO × tW} {K : tK} {d : mD} {x0 : Int}
  (h : K (.inl none) d) :
  tRun E 195 (38, [.inr (11, x0)], [], 0, 0, d) K := tT_run (cut := [0, 13, 38]) 1 _ h
theorem t_196_0 {E : mO × tW} {K : tK} {d : mD} {x0 x1 : Int}
  (h : mInR (d x0 13) ∧ (¬ d x0 13 = 0 → tRun E 196 (30, [.inr (11, x0), .inl (0, x1)], [], 0, 0, d) K) ∧ (d x0 13 = 0 → tCall E 192 [.inr (11, x0), .inl (0, 59)] d (tbk E 196 10 [.inr (11, x0), .inl (0, x1)] [] 0 0 K))) :
  tRun E 196 (0, [.inr (11, x0), .inl (0, x1)], [], 0, 0, d) K := tT_run (cut := [0, 13, 30, 34]) 6 _ h
theorem t_196_13 {E : mO × tW} {K : tK} {d : mD} {x0 x1 y0 : Int}
  (h : mInR y0 ∧ (y0 = 0 → tRun E 196 (30, [.inr (11, x0), .inl (0, x1)], [], 0, 0, d) K) ∧ (¬ y0 = 0 → mInR x1 ∧ (¬ x1 = 0 → tRun E 196 (30, [.inr (11, x0), .inl (0, x1)], [], 0, 0, d) K) ∧ (x1 = 0 → tCall E 188 [.inr (11, x0), .inl (0, 6), .inl (0, d x0 10)] d (tbk E 196 27 [.inr (11, x0), .inl (0, x1)] [] 0 0 K)))) :
  tRun E 196 (13, [.inr (11, x0), .inl (0, x1)], [.inl (0, y0)], 0, 0, d) K := tT_run (cut := [0, 13, 30, 34]) 8 _ h
theorem t_196_30 {E : mO × tW} {K : tK} {d : mD} {x0 x1 : Int}
  (h : tCall E 195 [.inr (11, x0)] d (tbk E 196 31 [.inr (11, x0), .inl (0, x1)] [] 0 0 K)) :
  tRun E 196 (30, [.inr (11, x0), .inl (0, x1)], [], 0, 0, d) K := tT_run (cut := [0, 13, 30, 34]) 2 _ h
theorem t_196_34 {E : mO × tW} {K : tK} {d : mD} {x0 x1 : Int}
  (h : mInR (d x0 13) ∧ (¬ d x0 13 = 0 → ((0 : Int) = 0 ∨ (0 : Int) = 1) ∧ K (.inl (some (0, 0))) d) ∧ (d x0 13 = 0 → ((1 : Int) = 0 ∨ (1 : Int) = 1) ∧ K (.inl (some (0, 1))) d)) :
  tRun E 196 (34, [.inr (11, x0), .inl (0, x1)], [], 0, 0, d) K := tT_run (cut := [0, 13, 30, 34]) 6 _ h
theorem t_197_0 {E : mO × tW} {K : tK} {d : mD} {x0 x1 x2 : Int}
  (h : mInR (d x0 13) ∧ (d x0 13 = 0 → tCall E 189 [.inr (11, x0)] d (tbk E 197 10 [.inr (11, x0), .inl (0, x1), .inl (0, x2), tu] [] 0 0 K)) ∧ (¬ d x0 13 = 0 → K (.inl (some (0, 0))) d)) :
  tRun E 197 (0, [.inr (11, x0), .inl (0, x1), .inl (0, x2), tu], [], 0, 0, d) K := tT_run (cut := [0, 13, 28, 36, 109, 124, 136]) 5 _ h
theorem t_197_13 {E : mO × tW} {K : tK} {d : mD} {x0 x1 x2 : Int}
  (h : tRun E 197 (28, [.inr (11, x0), .inl (0, x1), .inl (0, x2), .inl (0, 0)], [], 0, 0, mset (mset d x0 15 (d x0 10)) x0 14 0) K) :
  tRun E 197 (13, [.inr (11, x0), .inl (0, x1), .inl (0, x2), tu], [], 0, 0, d) K := tT_run (cut := [0, 13, 28, 36, 109, 124, 136]) 9 _ h
theorem t_197_28 {E : mO × tW} {K : tK} {d : mD} {x0 x1 x2 x3 : Int}
  (h : tCall E 191 [.inr (11, x0), .inl (0, d x0 10)] d (tbk E 197 33 [.inr (11, x0), .inl (0, x1), .inl (0, x2), .inl (0, x3)] [] 0 0 K)) :
  tRun E 197 (28, [.inr (11, x0), .inl (0, x1), .inl (0, x2), .inl (0, x3)], [], 0, 0, d) K := tT_run (cut := [0, 13, 28, 36, 109, 124, 136]) 4 _ h
theorem t_197_36 {E : mO × tW} {K : tK} {d : mD} {x0 x1 x2 x3 y0 : Int}
  (h : mInR y0 ∧ (y0 = 0 → mInR x3 ∧ (x3 = 0 → tCall E 188 [.inr (11, x0), .inl (0, 1), .inl (0, d x0 15)] d (tbk E 197 106 [.inr (11, x0), .inl (0, x1), .inl (0, x2), .inl (0, x3)] [] 0 0 K)) ∧ (¬ x3 = 0 → (mInR x3 ∧ mInR 5) ∧ (x3 ≤ 5 → mInR (d x0 14) ∧ mInR x1 ∧ mInR x2 ∧ tCall E 176 [.inl (1, d x0 14), .inl (1, x1), .inl (1, x2)] d (tbk E 197 121 [.inr (11, x0), .inl (0, x1), .inl (0, x2), .inl (0, x3)] [] 0 0 K)) ∧ (5 < x3 → tCall E 188 [.inr (11, x0), .inl (0, 1), .inl (0, d x0 15)] d (tbk E 197 106 [.inr (11, x0), .inl (0, x1), .inl (0, x2), .inl (0, x3)] [] 0 0 K)))) ∧ (¬ y0 = 0 → (mInR x3 ∧ mInR 5) ∧ (5 ≤ x3 → tRun E 197 (28, [.inr (11, x0), .inl (0, x1), .inl (0, x2), .inl (0, x3 + 1)], [], 0, 0, mset (mset d x0 14 (d x0 14)) x0 10 (((mset d x0 14 (d x0 14)) x0 10) + 1)) K) ∧ (x3 < 5 → (0 ≤ d x0 10 ∧ d x0 10 < 1000) ∧ tRun E 197 (28, [.inr (11, x0), .inl (0, x1), .inl (0, x2), .inl (0, x3 + 1)], [], 0, 0, mset (mset d x0 14 (((10 * (d x0 14)) + (d (x0 + 7) (d x0 10))) - 48)) x0 10 (((mset d x0 14 (((10 * (d x0 14)) + (d (x0 + 7) (d x0 10))) - 48)) x0 10) + 1)) K))) :
  tRun E 197 (36, [.inr (11, x0), .inl (0, x1), .inl (0, x2), .inl (0, x3)], [.inl (0, y0)], 0, 0, d) K := tT_run (cut := [0, 13, 28, 36, 109, 124, 136]) 27 _ h
theorem t_197_109 {E : mO × tW} {K : tK} {d : mD} {x0 x1 x2 x3 : Int}
  (h : tRun E 197 (136, [.inr (11, x0), .inl (0, x1), .inl (0, x2), .inl (0, x3)], [], 0, 0, d) K) :
  tRun E 197 (109, [.inr (11, x0), .inl (0, x1), .inl (0, x2), .inl (0, x3)], [], 0, 0, d) K := tT_run (cut := [0, 13, 28, 36, 109, 124, 136]) 1 _ h
theorem t_197_124 {E : mO × tW} {K : tK} {d : mD} {x0 x1 x2 x3 y0 : Int}
  (h : mInR y0 ∧ (¬ y0 = 0 → tRun E 197 (136, [.inr (11, x0), .inl (0, x1), .inl (0, x2), .inl (0, x3)], [], 0, 0, d) K) ∧ (y0 = 0 → tCall E 188 [.inr (11, x0), .inl (0, 2), .inl (0, d x0 15)] d (tbk E 197 133 [.inr (11, x0), .inl (0, x1), .inl (0, x2), .inl (0, x3)] [] 0 0 K))) :
  tRun E 197 (124, [.inr (11, x0), .inl (0, x1), .inl (0, x2), .inl (0, x3)], [.inl (0, y0)], 0, 0, d) K := tT_run (cut := [0, 13, 28, 36, 109, 124, 136]) 6 _ h
theorem t_197_136 {E : mO × tW} {K : tK} {d : mD} {x0 x1 x2 x3 : Int}
  (h : mInR (d x0 13) ∧ (d x0 13 = 0 → K (.inl (some (0, d x0 14))) d) ∧ (¬ d x0 13 = 0 → K (.inl (some (0, 0))) d)) :
  tRun E 197 (136, [.inr (11, x0), .inl (0, x1), .inl (0, x2), .inl (0, x3)], [], 0, 0, d) K := tT_run (cut := [0, 13, 28, 36, 109, 124, 136]) 6 _ h
theorem t_198_0 {E : mO × tW} {K : tK} {d : mD} {x0 : Int}
  (h : mInR (d x0 13) ∧ (d x0 13 = 0 → tCall E 193 [.inr (11, x0), .inl (0, 6)] d (tbk E 198 12 [.inr (11, x0), tu, tu] [] 0 0 K)) ∧ (¬ d x0 13 = 0 → K (.inl (some (0, 0))) d)) :
  tRun E 198 (0, [.inr (11, x0), tu, tu], [], 0, 0, d) K := tT_run (cut := [0, 15, 31]) 6 _ h
theorem t_198_15 {E : mO × tW} {K : tK} {d : mD} {x0 y0 : Int}
  (h : (mInL y0 ∧ mInL 0) ∧ mInR (mcmp y0 0) ∧ (0 < mcmp y0 0 → tRun E 198 (31, [.inr (11, x0), .inl (1, y0), tu], [], 0, 0, d) K) ∧ (mcmp y0 0 ≤ 0 → tCall E 188 [.inr (11, x0), .inl (0, 1), .inl (0, d x0 16)] d (tbk E 198 28 [.inr (11, x0), .inl (1, y0), tu] [] 0 0 K))) :
  tRun E 198 (15, [.inr (11, x0), tu, tu], [.inl (1, y0)], 0, 0, d) K := tT_run (cut := [0, 15, 31]) 10 _ h
theorem t_198_31 {E : mO × tW} {K : tK} {d : mD} {x0 x1 : Int}
  (h : mInR (d x0 13) ∧ (d x0 13 = 0 → K (.inl (some (0, x1))) d) ∧ (¬ d x0 13 = 0 → K (.inl (some (0, 0))) d)) :
  tRun E 198 (31, [.inr (11, x0), .inl (1, x1), tu], [], 0, 0, d) K := tT_run (cut := [0, 15, 31]) 6 _ h
theorem t_199_0 {E : mO × tW} {K : tK} {d : mD} {x0 x1 : Int}
  (h : tCall E 198 [.inr (11, x0)] d (tbk E 199 2 [.inr (11, x0), .inl (0, x1), tu] [.inr (11, x0)] 0 0 K)) :
  tRun E 199 (0, [.inr (11, x0), .inl (0, x1), tu], [], 0, 0, d) K := tT_run (cut := [0, 5, 8, 23, 36]) 3 _ h
theorem t_199_5 {E : mO × tW} {K : tK} {d : mD} {x0 x1 y0 y1 : Int}
  (h : tCall E 183 [.inr (11, y0), .inl (0, y1)] d (tbk E 199 5 [.inr (11, x0), .inl (0, x1), tu] [] 0 0 K)) :
  tRun E 199 (5, [.inr (11, x0), .inl (0, x1), tu], [.inl (0, y1), .inr (11, y0)], 0, 0, d) K := tT_run (cut := [0, 5, 8, 23, 36]) 1 _ h
theorem t_199_8 {E : mO × tW} {K : tK} {d : mD} {x0 x1 y0 : Int}
  (h : (mInR y0 ∧ mInR ((-1))) ∧ (y0 = (-1) → tCall E 188 [.inr (11, x0), .inl (0, 4), .inl (0, d x0 16)] d (tbk E 199 33 [.inr (11, x0), .inl (0, x1), .inl (0, y0)] [] 0 0 K)) ∧ (¬ y0 = (-1) → mInR x1 ∧ (x1 = 0 → tRun E 199 (36, [.inr (11, x0), .inl (0, x1), .inl (0, y0)], [], 0, 0, d) K) ∧ (¬ x1 = 0 → tCall E 201 [.inr (11, x0), .inl (0, y0)] d (tbk E 199 20 [.inr (11, x0), .inl (0, x1), .inl (0, y0)] [] 0 0 K)))) :
  tRun E 199 (8, [.inr (11, x0), .inl (0, x1), tu], [.inl (0, y0)], 0, 0, d) K := tT_run (cut := [0, 5, 8, 23, 36]) 9 _ h
theorem t_199_23 {E : mO × tW} {K : tK} {d : mD} {x0 x1 x2 y0 : Int}
  (h : (mInR y0 ∧ mInR ((-1))) ∧ (¬ y0 = (-1) → tRun E 199 (36, [.inr (11, x0), .inl (0, x1), .inl (0, x2)], [], 0, 0, d) K) ∧ (y0 = (-1) → tCall E 188 [.inr (11, x0), .inl (0, 4), .inl (0, d x0 16)] d (tbk E 199 33 [.inr (11, x0), .inl (0, x1), .inl (0, x2)] [] 0 0 K))) :
  tRun E 199 (23, [.inr (11, x0), .inl (0, x1), .inl (0, x2)], [.inl (0, y0)], 0, 0, d) K := tT_run (cut := [0, 5, 8, 23, 36]) 7 _ h
theorem t_199_36 {E : mO × tW} {K : tK} {d : mD} {x0 x1 x2 : Int}
  (h : mInR (d x0 13) ∧ (d x0 13 = 0 → K (.inl (some (0, x2))) d) ∧ (¬ d x0 13 = 0 → K (.inl (some (0, 0))) d)) :
  tRun E 199 (36, [.inr (11, x0), .inl (0, x1), .inl (0, x2)], [], 0, 0, d) K := tT_run (cut := [0, 5, 8, 23, 36]) 6 _ h
theorem t_200_0 {E : mO × tW} {K : tK} {d : mD} {x0 : Int}
  (h : tCall E 198 [.inr (11, x0)] d (tbk E 200 2 [.inr (11, x0), tu] [.inr (11, x0)] 0 0 K)) :
  tRun E 200 (0, [.inr (11, x0), tu], [], 0, 0, d) K := tT_run (cut := [0, 5, 8, 23]) 3 _ h
theorem t_200_5 {E : mO × tW} {K : tK} {d : mD} {x0 y0 y1 : Int}
  (h : tCall E 184 [.inr (11, y0), .inl (0, y1)] d (tbk E 200 5 [.inr (11, x0), tu] [] 0 0 K)) :
  tRun E 200 (5, [.inr (11, x0), tu], [.inl (0, y1), .inr (11, y0)], 0, 0, d) K := tT_run (cut := [0, 5, 8, 23]) 1 _ h
theorem t_200_8 {E : mO × tW} {K : tK} {d : mD} {x0 y0 : Int}
  (h : (mInR y0 ∧ mInR ((-1))) ∧ (¬ y0 = (-1) → tRun E 200 (23, [.inr (11, x0), .inl (0, y0)], [], 0, 0, d) K) ∧ (y0 = (-1) → tCall E 188 [.inr (11, x0), .inl (0, 4), .inl (0, d x0 16)] d (tbk E 200 20 [.inr (11, x0), .inl (0, y0)] [] 0 0 K))) :
  tRun E 200 (8, [.inr (11, x0), tu], [.inl (0, y0)], 0, 0, d) K := tT_run (cut := [0, 5, 8, 23]) 9 _ h
theorem t_200_23 {E : mO × tW} {K : tK} {d : mD} {x0 x1 : Int}
  (h : mInR (d x0 13) ∧ (d x0 13 = 0 → K (.inl (some (0, x1))) d) ∧ (¬ d x0 13 = 0 → K (.inl (some (0, 0))) d)) :
  tRun E 200 (23, [.inr (11, x0), .inl (0, x1)], [], 0, 0, d) K := tT_run (cut := [0, 5, 8, 23]) 6 _ h
theorem t_201_0 {E : mO × tW} {K : tK} {d : mD} {x0 x1 : Int}
  (h : (0 ≤ (9 : Int) ∧ (9 : Int) < 3116) ∧ tRun E 201 (10, [.inr (11, x0), .inl (0, x1), .inl (0, (d (x0 + 1) 9) - 1)], [], 0, 0, d) K) :
  tRun E 201 (0, [.inr (11, x0), .inl (0, x1), tu], [], 0, 0, d) K := tT_run (cut := [0, 10, 22]) 7 _ h
theorem t_201_10 {E : mO × tW} {K : tK} {d : mD} {x0 x1 x2 : Int}
  (h : mInR x2 ∧ (x2 < 0 → K (.inl (some (0, (-1)))) d) ∧ (0 ≤ x2 → tCall E 179 [.inl (0, x2)] d (tbk E 201 19 [.inr (11, x0), .inl (0, x1), .inl (0, x2)] [.inr (25, x0 + 1)] 0 0 K))) :
  tRun E 201 (10, [.inr (11, x0), .inl (0, x1), .inl (0, x2)], [], 0, 0, d) K := tT_run (cut := [0, 10, 22]) 6 _ h
theorem t_201_22 {E : mO × tW} {K : tK} {d : mD} {x0 x1 x2 y0 y1 : Int}
  (h : (0 ≤ y1 + 0 ∧ y1 + 0 < 3116) ∧ (mInR (d y0 (y1 + 0)) ∧ mInR x1) ∧ (¬ d y0 (y1 + 0) = x1 → tRun E 201 (10, [.inr (11, x0), .inl (0, x1), .inl (0, x2 + (-1))], [], 0, 0, d) K) ∧ (d y0 (y1 + 0) = x1 → K (.inl (some (0, x2))) d)) :
  tRun E 201 (22, [.inr (11, x0), .inl (0, x1), .inl (0, x2)], [.inl (0, y1), .inr (25, y0)], 0, 0, d) K := tT_run (cut := [0, 10, 22]) 7 _ h
theorem t_202_0 {E : mO × tW} {K : tK} {d : mD} {x0 : Int}
  (h : tCall E 198 [.inr (11, x0)] d (tbk E 202 1 [.inr (11, x0), tu, tu, tu, tu] [] 0 0 K)) :
  tRun E 202 (0, [.inr (11, x0), tu, tu, tu, tu], [], 0, 0, d) K := tT_run (cut := [0, 4, 17, 30, 36, 44, 52, 58, 74]) 2 _ h
theorem t_202_4 {E : mO × tW} {K : tK} {d : mD} {x0 y0 : Int}
  (h : mInR (d x0 13) ∧ (¬ d x0 13 = 0 → tRun E 202 (30, [.inr (11, x0), .inl (0, y0), tu, tu, tu], [], 0, 0, d) K) ∧ (d x0 13 = 0 → tCall E 184 [.inr (11, x0), .inl (0, y0)] d (tbk E 202 14 [.inr (11, x0), .inl (0, y0), tu, tu, tu] [] 0 0 K))) :
  tRun E 202 (4, [.inr (11, x0), tu, tu, tu, tu], [.inl (0, y0)], 0, 0, d) K := tT_run (cut := [0, 4, 17, 30, 36, 44, 52, 58, 74]) 7 _ h
theorem t_202_17 {E : mO × tW} {K : tK} {d : mD} {x0 x1 y0 : Int}
  (h : (mInR y0 ∧ mInR ((-1))) ∧ (y0 = (-1) → tRun E 202 (30, [.inr (11, x0), .inl (0, x1), tu, tu, tu], [], 0, 0, d) K) ∧ (¬ y0 = (-1) → tCall E 188 [.inr (11, x0), .inl (0, 3), .inl (0, d x0 16)] d (tbk E 202 27 [.inr (11, x0), .inl (0, x1), tu, tu, tu] [] 0 0 K))) :
  tRun E 202 (17, [.inr (11, x0), .inl (0, x1), tu, tu, tu], [.inl (0, y0)], 0, 0, d) K := tT_run (cut := [0, 4, 17, 30, 36, 44, 52, 58, 74]) 7 _ h
theorem t_202_30 {E : mO × tW} {K : tK} {d : mD} {x0 x1 : Int}
  (h : tCall E 197 [.inr (11, x0), .inl (0, 1), .inl (0, 4)] d (tbk E 202 33 [.inr (11, x0), .inl (0, x1), tu, tu, tu] [] 0 0 K)) :
  tRun E 202 (30, [.inr (11, x0), .inl (0, x1), tu, tu, tu], [], 0, 0, d) K := tT_run (cut := [0, 4, 17, 30, 36, 44, 52, 58, 74]) 4 _ h
theorem t_202_36 {E : mO × tW} {K : tK} {d : mD} {x0 x1 y0 : Int}
  (h : tCall E 197 [.inr (11, x0), .inl (0, 1), .inl (0, 6)] d (tbk E 202 41 [.inr (11, x0), .inl (0, x1), .inl (0, y0), tu, tu] [] 0 0 K)) :
  tRun E 202 (36, [.inr (11, x0), .inl (0, x1), tu, tu, tu], [.inl (0, y0)], 0, 0, d) K := tT_run (cut := [0, 4, 17, 30, 36, 44, 52, 58, 74]) 5 _ h
theorem t_202_44 {E : mO × tW} {K : tK} {d : mD} {x0 x1 x2 y0 : Int}
  (h : tCall E 197 [.inr (11, x0), .inl (0, 1), .inl (0, 20)] d (tbk E 202 49 [.inr (11, x0), .inl (0, x1), .inl (0, x2), .inl (0, y0), tu] [] 0 0 K)) :
  tRun E 202 (44, [.inr (11, x0), .inl (0, x1), .inl (0, x2), tu, tu], [.inl (0, y0)], 0, 0, d) K := tT_run (cut := [0, 4, 17, 30, 36, 44, 52, 58, 74]) 5 _ h
theorem t_202_52 {E : mO × tW} {K : tK} {d : mD} {x0 x1 x2 x3 y0 : Int}
  (h : tCall E 195 [.inr (11, x0)] d (tbk E 202 55 [.inr (11, x0), .inl (0, x1), .inl (0, x2), .inl (0, x3), .inl (0, y0)] [] 0 0 K)) :
  tRun E 202 (52, [.inr (11, x0), .inl (0, x1), .inl (0, x2), .inl (0, x3), tu], [.inl (0, y0)], 0, 0, d) K := tT_run (cut := [0, 4, 17, 30, 36, 44, 52, 58, 74]) 3 _ h
theorem t_202_58 {E : mO × tW} {K : tK} {d : mD} {x0 x1 x2 x3 x4 : Int}
  (h : mInR (d x0 13) ∧ (¬ d x0 13 = 0 → tRun E 202 (74, [.inr (11, x0), .inl (0, x1), .inl (0, x2), .inl (0, x3), .inl (0, x4)], [], 0, 0, d) K) ∧ (d x0 13 = 0 → tCall E 181 [.inr (11, x0), .inl (0, x1), .inl (0, x2), .inl (0, x3), .inl (0, x4)] d (tbk E 202 71 [.inr (11, x0), .inl (0, x1), .inl (0, x2), .inl (0, x3), .inl (0, x4)] [] 0 0 K))) :
  tRun E 202 (58, [.inr (11, x0), .inl (0, x1), .inl (0, x2), .inl (0, x3), .inl (0, x4)], [], 0, 0, d) K := tT_run (cut := [0, 4, 17, 30, 36, 44, 52, 58, 74]) 9 _ h
theorem t_202_74 {E : mO × tW} {K : tK} {d : mD} {x0 x1 x2 x3 x4 : Int}
  (h : K (.inl none) d) :
  tRun E 202 (74, [.inr (11, x0), .inl (0, x1), .inl (0, x2), .inl (0, x3), .inl (0, x4)], [], 0, 0, d) K := tT_run (cut := [0, 4, 17, 30, 36, 44, 52, 58, 74]) 1 _ h
theorem t_203_0 {E : mO × tW} {K : tK} {d : mD} {x0 : Int}
  (h : tCall E 198 [.inr (11, x0)] d (tbk E 203 1 [.inr (11, x0), tu] [] 0 0 K)) :
  tRun E 203 (0, [.inr (11, x0), tu], [], 0, 0, d) K := tT_run (cut := [0, 4, 17, 30, 34, 46]) 2 _ h
theorem t_203_4 {E : mO × tW} {K : tK} {d : mD} {x0 y0 : Int}
  (h : mInR (d x0 13) ∧ (¬ d x0 13 = 0 → tRun E 203 (30, [.inr (11, x0), .inl (0, y0)], [], 0, 0, d) K) ∧ (d x0 13 = 0 → tCall E 183 [.inr (11, x0), .inl (0, y0)] d (tbk E 203 14 [.inr (11, x0), .inl (0, y0)] [] 0 0 K))) :
  tRun E 203 (4, [.inr (11, x0), tu], [.inl (0, y0)], 0, 0, d) K := tT_run (cut := [0, 4, 17, 30, 34, 46]) 7 _ h
theorem t_203_17 {E : mO × tW} {K : tK} {d : mD} {x0 x1 y0 : Int}
  (h : (mInR y0 ∧ mInR ((-1))) ∧ (y0 = (-1) → tRun E 203 (30, [.inr (11, x0), .inl (0, x1)], [], 0, 0, d) K) ∧ (¬ y0 = (-1) → tCall E 188 [.inr (11, x0), .inl (0, 3), .inl (0, d x0 16)] d (tbk E 203 27 [.inr (11, x0), .inl (0, x1)] [] 0 0 K))) :
  tRun E 203 (17, [.inr (11, x0), .inl (0, x1)], [.inl (0, y0)], 0, 0, d) K := tT_run (cut := [0, 4, 17, 30, 34, 46]) 7 _ h
theorem t_203_30 {E : mO × tW} {K : tK} {d : mD} {x0 x1 : Int}
  (h : tCall E 195 [.inr (11, x0)] d (tbk E 203 31 [.inr (11, x0), .inl (0, x1)] [] 0 0 K)) :
  tRun E 203 (30, [.inr (11, x0), .inl (0, x1)], [], 0, 0, d) K := tT_run (cut := [0, 4, 17, 30, 34, 46]) 2 _ h
theorem t_203_34 {E : mO × tW} {K : tK} {d : mD} {x0 x1 : Int}
  (h : mInR (d x0 13) ∧ (¬ d x0 13 = 0 → tRun E 203 (46, [.inr (11, x0), .inl (0, x1)], [], 0, 0, d) K) ∧ (d x0 13 = 0 → tCall E 182 [.inr (11, x0), .inl (0, x1)] d (tbk E 203 43 [.inr (11, x0), .inl (0, x1)] [] 0 0 K))) :
  tRun E 203 (34, [.inr (11, x0), .inl (0, x1)], [], 0, 0, d) K := tT_run (cut := [0, 4, 17, 30, 34, 46]) 6 _ h
theorem t_203_46 {E : mO × tW} {K : tK} {d : mD} {x0 x1 : Int}
  (h : K (.inl none) d) :
  tRun E 203 (46, [.inr (11, x0), .inl (0, x1)], [], 0, 0, d) K := tT_run (cut := [0, 4, 17, 30, 34, 46]) 1 _ h
