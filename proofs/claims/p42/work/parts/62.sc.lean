/-! ===== pieces of the methods between cuts: printed by a program of mine ===== -/
theorem t_136_0 {E : mO × tW} {K : tK} {d : mD} {x0 x1 : Int}
  (h : tCall E 167 [.inr (10, x0), .inl (0, x1)] d (tbk E 136 2 [.inr (10, x0), .inl (0, x1)] [] 1 6 K)) :
  tRun E 136 (0, [.inr (10, x0), .inl (0, x1)], [], 0, 0, d) K := tT_run (cut := [0, 5, 29]) 3 _ h
theorem t_136_5 {E : mO × tW} {K : tK} {d : mD} {x0 x1 : Int}
  (h : (0 ≤ x1 ∧ x1 < 60) ∧ (mInR (d (x0 + 1 + 49 + 5) x1) ∧ mInR 1) ∧ (¬ d (x0 + 1 + 49 + 5) x1 = 1 → K (.inl (some (0, 0))) d) ∧ (d (x0 + 1 + 49 + 5) x1 = 1 → tCall E 80 [.inr (6, x0 + 1), .inl (0, x1)] d (tbk E 136 26 [.inr (10, x0), .inl (0, x1)] [] 1 6 K))) :
  tRun E 136 (5, [.inr (10, x0), .inl (0, x1)], [], 1, 6, d) K := tT_run (cut := [0, 5, 29]) 12 _ h
theorem t_136_29 {E : mO × tW} {K : tK} {d : mD} {x0 x1 y0 : Int}
  (h : K (.inl (some (0, y0))) d) :
  tRun E 136 (29, [.inr (10, x0), .inl (0, x1)], [.inl (0, y0)], 1, 6, d) K := tT_run (cut := [0, 5, 29]) 2 _ h
theorem t_137_0 {E : mO × tW} {K : tK} {d : mD} {x0 : Int}
  (h : tCall E 110 [.inr (9, x0 + 1 + 57), .inl (0, 2)] d (tbk E 137 18 [.inr (10, x0)] [.inl (0, d (x0 + 1 + 57) 0)] 0 0 K)) :
  tRun E 137 (0, [.inr (10, x0)], [], 0, 0, d) K := tT_run (cut := [0, 21]) 9 _ h
theorem t_137_21 {E : mO × tW} {K : tK} {d : mD} {x0 y0 y1 : Int}
  (h : (0 ≤ (4 : Int) ∧ (4 : Int) < 5) ∧ K (.inl (some (0, (y0 - y1) * (d (x0 + 1 + 1) 4)))) d) :
  tRun E 137 (21, [.inr (10, x0)], [.inl (0, y1), .inl (0, y0)], 0, 0, d) K := tT_run (cut := [0, 21]) 8 _ h
theorem t_138_0 {E : mO × tW} {K : tK} {d : mD} {x0 : Int}
  (h : tCall E 101 [.inr (8, x0 + 1 + 49), .inl (0, 1)] d (tbk E 138 8 [.inr (10, x0), tu] [] 0 0 K)) :
  tRun E 138 (0, [.inr (10, x0), tu], [], 0, 0, d) K := tT_run (cut := [0, 11, 30]) 5 _ h
theorem t_138_11 {E : mO × tW} {K : tK} {d : mD} {x0 y0 : Int}
  (h : mInR y0 ∧ (¬ y0 = 0 → tCall E 106 [.inr (8, x0 + 1 + 49)] d (tbk E 138 27 [.inr (10, x0), .inl (0, y0)] [] 0 0 K)) ∧ (y0 = 0 → K (.inl (some (2, 0))) d)) :
  tRun E 138 (11, [.inr (10, x0), tu], [.inl (0, y0)], 0, 0, d) K := tT_run (cut := [0, 11, 30]) 7 _ h
theorem t_138_30 {E : mO × tW} {K : tK} {d : mD} {x0 x1 y0 : Int}
  (h : vf_n64 (FP.ddiv (mbit (mi2d y0)) (mbit (mi2d x1))) ∧ K (.inl (some (2, mddiv (mi2d y0) (mi2d x1)))) d) :
  tRun E 138 (30, [.inr (10, x0), .inl (0, x1)], [.inl (0, y0)], 0, 0, d) K := tT_run (cut := [0, 11, 30]) 5 _ h
theorem t_139_0 {E : mO × tW} {K : tK} {d : mD} {x0 : Int}
  (h : tRun E 139 (4, [.inr (10, x0), .inl (0, 0), .inl (0, 0)], [], 0, 0, d) K) :
  tRun E 139 (0, [.inr (10, x0), tu, tu], [], 0, 0, d) K := tT_run (cut := [0, 4, 30, 38]) 4 _ h
theorem t_139_4 {E : mO × tW} {K : tK} {d : mD} {x0 x1 x2 : Int}
  (h : (mInR x2 ∧ mInR (d (x0 + 1 + 10) 0)) ∧ (d (x0 + 1 + 10) 0 ≤ x2 → mInR x1 ∧ (¬ x1 = 0 → vf_n64 (FP.ddiv (mbit (mi2d (d (x0 + 1 + 57) 0))) (mbit (mi2d x1))) ∧ K (.inl (some (2, mddiv (mi2d (d (x0 + 1 + 57) 0)) (mi2d x1)))) d) ∧ (x1 = 0 → K (.inl (some (2, 0))) d)) ∧ (x2 < d (x0 + 1 + 10) 0 → tCall E 72 [.inr (6, x0 + 1), .inl (0, x2), .inr (1, x0 + 574)] d (tbk E 139 27 [.inr (10, x0), .inl (0, x1), .inl (0, x2)] [] 0 0 K))) :
  tRun E 139 (4, [.inr (10, x0), .inl (0, x1), .inl (0, x2)], [], 0, 0, d) K := tT_run (cut := [0, 4, 30, 38]) 17 _ h
theorem t_139_30 {E : mO × tW} {K : tK} {d : mD} {x0 x1 x2 : Int}
  (h : tCall E 9 [.inr (1, x0 + 574)] d (tbk E 139 35 [.inr (10, x0), .inl (0, x1), .inl (0, x2)] [.inl (0, x1)] 0 0 K)) :
  tRun E 139 (30, [.inr (10, x0), .inl (0, x1), .inl (0, x2)], [], 0, 0, d) K := tT_run (cut := [0, 4, 30, 38]) 4 _ h
theorem t_139_38 {E : mO × tW} {K : tK} {d : mD} {x0 x1 x2 y0 y1 : Int}
  (h : tRun E 139 (4, [.inr (10, x0), .inl (0, y0 + y1), .inl (0, x2 + 1)], [], 0, 0, d) K) :
  tRun E 139 (38, [.inr (10, x0), .inl (0, x1), .inl (0, x2)], [.inl (0, y1), .inl (0, y0)], 0, 0, d) K := tT_run (cut := [0, 4, 30, 38]) 4 _ h
theorem t_140_0 {E : mO × tW} {K : tK} {d : mD} {x0 : Int}
  (h : tRun E 140 (6, [.inr (10, x0), .inl (0, (-1)), .inl (0, 0), .inl (0, 0), tu], [], 0, 0, d) K) :
  tRun E 140 (0, [.inr (10, x0), tu, tu, tu, tu], [], 0, 0, d) K := tT_run (cut := [0, 6, 32, 39]) 6 _ h
theorem t_140_6 {E : mO × tW} {K : tK} {d : mD} {x0 x1 x2 x3 : Int} {v4 : tV}
  (h : (mInR x3 ∧ mInR (d (x0 + 1 + 10) 0)) ∧ (d (x0 + 1 + 10) 0 ≤ x3 → K (.inl (some (0, x1))) d) ∧ (x3 < d (x0 + 1 + 10) 0 → tCall E 72 [.inr (6, x0 + 1), .inl (0, x3), .inr (1, x0 + 574)] d (tbk E 140 29 [.inr (10, x0), .inl (0, x1), .inl (0, x2), .inl (0, x3), v4] [] 0 0 K))) :
  tRun E 140 (6, [.inr (10, x0), .inl (0, x1), .inl (0, x2), .inl (0, x3), v4], [], 0, 0, d) K := tT_run (cut := [0, 6, 32, 39]) 12 _ h
theorem t_140_32 {E : mO × tW} {K : tK} {d : mD} {x0 x1 x2 x3 : Int} {v4 : tV}
  (h : tCall E 9 [.inr (1, x0 + 574)] d (tbk E 140 36 [.inr (10, x0), .inl (0, x1), .inl (0, x2), .inl (0, x3), v4] [] 0 0 K)) :
  tRun E 140 (32, [.inr (10, x0), .inl (0, x1), .inl (0, x2), .inl (0, x3), v4], [], 0, 0, d) K := tT_run (cut := [0, 6, 32, 39]) 3 _ h
theorem t_140_39 {E : mO × tW} {K : tK} {d : mD} {x0 x1 x2 x3 y0 : Int} {v4 : tV}
  (h : (mInR y0 ∧ mInR x2) ∧ (y0 ≤ x2 → tRun E 140 (6, [.inr (10, x0), .inl (0, x1), .inl (0, x2), .inl (0, x3 + 1), .inl (0, y0)], [], 0, 0, d) K) ∧ (x2 < y0 → tRun E 140 (6, [.inr (10, x0), .inl (0, x3), .inl (0, y0), .inl (0, x3 + 1), .inl (0, y0)], [], 0, 0, d) K)) :
  tRun E 140 (39, [.inr (10, x0), .inl (0, x1), .inl (0, x2), .inl (0, x3), v4], [.inl (0, y0)], 0, 0, d) K := tT_run (cut := [0, 6, 32, 39]) 10 _ h
theorem t_141_0 {E : mO × tW} {K : tK} {d : mD} {x0 : Int}
  (h : tCall E 110 [.inr (9, x0 + 1 + 57), .inl (0, 0)] d (tbk E 141 14 [.inr (10, x0), .inr (9, x0 + 1 + 57), tu] [.inl (0, d (x0 + 1 + 57) 0)] 0 0 K)) :
  tRun E 141 (0, [.inr (10, x0), tu, tu], [], 0, 0, d) K := tT_run (cut := [0, 17, 23, 29, 39]) 9 _ h
theorem t_141_17 {E : mO × tW} {K : tK} {d : mD} {x0 x1 y0 y1 : Int}
  (h : tCall E 110 [.inr (9, x1), .inl (0, 1)] d (tbk E 141 20 [.inr (10, x0), .inr (9, x1), tu] [.inl (0, y0 - y1)] 0 0 K)) :
  tRun E 141 (17, [.inr (10, x0), .inr (9, x1), tu], [.inl (0, y1), .inl (0, y0)], 0, 0, d) K := tT_run (cut := [0, 17, 23, 29, 39]) 4 _ h
theorem t_141_23 {E : mO × tW} {K : tK} {d : mD} {x0 x1 y0 y1 : Int}
  (h : tCall E 110 [.inr (9, x1), .inl (0, 2)] d (tbk E 141 26 [.inr (10, x0), .inr (9, x1), tu] [.inl (0, y0 - y1)] 0 0 K)) :
  tRun E 141 (23, [.inr (10, x0), .inr (9, x1), tu], [.inl (0, y1), .inl (0, y0)], 0, 0, d) K := tT_run (cut := [0, 17, 23, 29, 39]) 4 _ h
theorem t_141_29 {E : mO × tW} {K : tK} {d : mD} {x0 x1 y0 y1 : Int}
  (h : tCall E 84 [.inr (6, x0 + 1)] d (tbk E 141 36 [.inr (10, x0), .inr (9, x1), .inl (0, y0 - y1)] [.inl (0, y0 - y1)] 0 0 K)) :
  tRun E 141 (29, [.inr (10, x0), .inr (9, x1), tu], [.inl (0, y1), .inl (0, y0)], 0, 0, d) K := tT_run (cut := [0, 17, 23, 29, 39]) 6 _ h
theorem t_141_39 {E : mO × tW} {K : tK} {d : mD} {x0 x1 x2 y0 y1 : Int}
  (h : K (.inl (some (0, y0 + y1))) d) :
  tRun E 141 (39, [.inr (10, x0), .inr (9, x1), .inl (0, x2)], [.inl (0, y1), .inl (0, y0)], 0, 0, d) K := tT_run (cut := [0, 17, 23, 29, 39]) 2 _ h
theorem t_142_0 {E : mO × tW} {K : tK} {d : mD} {x0 x1 : Int}
  (h : tCall E 167 [.inr (10, x0), .inl (0, x1)] d (tbk E 142 2 [.inr (10, x0), .inl (0, x1), tu, tu, tu] [] 1 6 K)) :
  tRun E 142 (0, [.inr (10, x0), .inl (0, x1), tu, tu, tu], [], 0, 0, d) K := tT_run (cut := [0, 5, 48, 84]) 3 _ h
theorem t_142_5 {E : mO × tW} {K : tK} {d : mD} {x0 x1 : Int}
  (h : (0 ≤ x1 ∧ x1 < 60) ∧ (mInR (d (x0 + 1 + 49 + 5) x1) ∧ mInR 1) ∧ (¬ d (x0 + 1 + 49 + 5) x1 = 1 → (0 ≤ x1 ∧ x1 < 60) ∧ tCall E 39 [.inr (3, x0 + 1 + 2), .inl (0, d (x0 + 1 + 49 + 2) x1), .inl (0, x1)] d (tbk E 142 45 [.inr (10, x0), .inl (0, x1), .inl (0, d (x0 + 1 + 49 + 2) x1), tu, tu] [] 1 6 K)) ∧ (d (x0 + 1 + 49 + 5) x1 = 1 → K (.inl (some (0, 0))) d)) :
  tRun E 142 (5, [.inr (10, x0), .inl (0, x1), tu, tu, tu], [], 1, 6, d) K := tT_run (cut := [0, 5, 48, 84]) 21 _ h
theorem t_142_48 {E : mO × tW} {K : tK} {d : mD} {x0 x1 x2 y0 : Int}
  (h : (mInR y0 ∧ mInR ((-1))) ∧ (¬ y0 = (-1) → tCall E 43 [.inr (3, x0 + 1 + 2), .inl (0, x2), .inl (0, y0), .inl (0, d (x0 + 1) 2)] d (tbk E 142 81 [.inr (10, x0), .inl (0, x1), .inl (0, x2), .inl (0, y0), tu] [] 1 6 K)) ∧ (y0 = (-1) → K (.inr 3) d)) :
  tRun E 142 (48, [.inr (10, x0), .inl (0, x1), .inl (0, x2), tu, tu], [.inl (0, y0)], 1, 6, d) K := tT_run (cut := [0, 5, 48, 84]) 13 _ h
theorem t_142_84 {E : mO × tW} {K : tK} {d : mD} {x0 x1 x2 x3 y0 : Int}
  (h : (mInR y0 ∧ mInR 200) ∧ (y0 ≤ 200 → K (.inl (some (0, y0))) d) ∧ (200 < y0 → K (.inr 3) d)) :
  tRun E 142 (84, [.inr (10, x0), .inl (0, x1), .inl (0, x2), .inl (0, x3), tu], [.inl (0, y0)], 1, 6, d) K := tT_run (cut := [0, 5, 48, 84]) 6 _ h
theorem t_143_0 {E : mO × tW} {K : tK} {d : mD} {x0 x1 x2 : Int}
  (h : tCall E 165 [.inr (10, x0), .inl (0, x1)] d (tbk E 143 2 [.inr (10, x0), .inl (0, x1), .inl (0, x2)] [] 1 6 K)) :
  tRun E 143 (0, [.inr (10, x0), .inl (0, x1), .inl (0, x2)], [], 0, 0, d) K := tT_run (cut := [0, 5, 10, 29]) 3 _ h
theorem t_143_5 {E : mO × tW} {K : tK} {d : mD} {x0 x1 x2 : Int}
  (h : tCall E 170 [.inr (10, x0), .inl (0, x2)] d (tbk E 143 7 [.inr (10, x0), .inl (0, x1), .inl (0, x2)] [] 2 12 K)) :
  tRun E 143 (5, [.inr (10, x0), .inl (0, x1), .inl (0, x2)], [], 1, 6, d) K := tT_run (cut := [0, 5, 10, 29]) 3 _ h
theorem t_143_10 {E : mO × tW} {K : tK} {d : mD} {x0 x1 x2 : Int}
  (h : tCall E 44 [.inr (3, x0 + 1 + 2), .inl (0, x1), .inl (0, x2), .inl (0, d (x0 + 1) 2)] d (tbk E 143 26 [.inr (10, x0), .inl (0, x1), .inl (0, x2)] [] 2 12 K)) :
  tRun E 143 (10, [.inr (10, x0), .inl (0, x1), .inl (0, x2)], [], 2, 12, d) K := tT_run (cut := [0, 5, 10, 29]) 9 _ h
theorem t_143_29 {E : mO × tW} {K : tK} {d : mD} {x0 x1 x2 y0 : Int}
  (h : K (.inl (some (0, y0))) d) :
  tRun E 143 (29, [.inr (10, x0), .inl (0, x1), .inl (0, x2)], [.inl (0, y0)], 2, 12, d) K := tT_run (cut := [0, 5, 10, 29]) 1 _ h
theorem t_144_0 {E : mO × tW} {K : tK} {d : mD} {x0 x1 : Int}
  (h : tCall E 170 [.inr (10, x0), .inl (0, x1)] d (tbk E 144 2 [.inr (10, x0), .inl (0, x1)] [] 1 6 K)) :
  tRun E 144 (0, [.inr (10, x0), .inl (0, x1)], [], 0, 0, d) K := tT_run (cut := [0, 5, 16, 24]) 3 _ h
theorem t_144_5 {E : mO × tW} {K : tK} {d : mD} {x0 x1 : Int}
  (h : tCall E 59 [.inr (6, x0 + 580), .inr (6, x0 + 1)] d (tbk E 144 13 [.inr (10, x0), .inl (0, x1)] [] 1 6 K)) :
  tRun E 144 (5, [.inr (10, x0), .inl (0, x1)], [], 1, 6, d) K := tT_run (cut := [0, 5, 16, 24]) 5 _ h
theorem t_144_16 {E : mO × tW} {K : tK} {d : mD} {x0 x1 : Int}
  (h : tCall E 68 [.inr (6, x0 + 580), .inl (0, x1)] d (tbk E 144 21 [.inr (10, x0), .inl (0, x1)] [] 1 6 K)) :
  tRun E 144 (16, [.inr (10, x0), .inl (0, x1)], [], 1, 6, d) K := tT_run (cut := [0, 5, 16, 24]) 4 _ h
theorem t_144_24 {E : mO × tW} {K : tK} {d : mD} {x0 x1 y0 : Int}
  (h : K (.inl (some (0, d (x0 + 580 + 57) 0))) d) :
  tRun E 144 (24, [.inr (10, x0), .inl (0, x1)], [.inl (0, y0)], 1, 6, d) K := tT_run (cut := [0, 5, 16, 24]) 6 _ h
theorem t_145_0 {E : mO × tW} {K : tK} {d : mD} {x0 x1 : Int}
  (h : tCall E 165 [.inr (10, x0), .inl (0, x1)] d (tbk E 145 2 [.inr (10, x0), .inl (0, x1), tu] [] 1 6 K)) :
  tRun E 145 (0, [.inr (10, x0), .inl (0, x1), tu], [], 0, 0, d) K := tT_run (cut := [0, 5, 10]) 3 _ h
theorem t_145_5 {E : mO × tW} {K : tK} {d : mD} {x0 x1 : Int}
  (h : tCall E 173 [.inr (10, x0), .inl (0, x1)] d (tbk E 145 7 [.inr (10, x0), .inl (0, x1), tu] [] 1 6 K)) :
  tRun E 145 (5, [.inr (10, x0), .inl (0, x1), tu], [], 1, 6, d) K := tT_run (cut := [0, 5, 10]) 3 _ h
theorem t_145_10 {E : mO × tW} {K : tK} {d : mD} {x0 x1 y0 : Int}
  (h : (mInR y0 ∧ mInR ((-1))) ∧ (¬ y0 = (-1) → K (.inl (some (0, y0))) d) ∧ (y0 = (-1) → K (.inr 3) d)) :
  tRun E 145 (10, [.inr (10, x0), .inl (0, x1), tu], [.inl (0, y0)], 1, 6, d) K := tT_run (cut := [0, 5, 10]) 6 _ h
theorem t_146_0 {E : mO × tW} {K : tK} {d : mD} {x0 : Int}
  (h : tRun E 146 (8, [.inr (10, x0), .inl (0, (-1)), .inl (0, 201), .inl (0, 0), tu], [], 0, 0, d) K) :
  tRun E 146 (0, [.inr (10, x0), tu, tu, tu, tu], [], 0, 0, d) K := tT_run (cut := [0, 8, 27]) 6 _ h
theorem t_146_8 {E : mO × tW} {K : tK} {d : mD} {x0 x1 x2 x3 : Int} {v4 : tV}
  (h : (mInR x3 ∧ mInR (d (x0 + 1 + 2) 0)) ∧ (d (x0 + 1 + 2) 0 ≤ x3 → (mInR x1 ∧ mInR ((-1))) ∧ (¬ x1 = (-1) → K (.inl (some (0, x1))) d) ∧ (x1 = (-1) → K (.inr 3) d)) ∧ (x3 < d (x0 + 1 + 2) 0 → tCall E 173 [.inr (10, x0), .inl (0, x3)] d (tbk E 146 24 [.inr (10, x0), .inl (0, x1), .inl (0, x2), .inl (0, x3), v4] [] 0 0 K))) :
  tRun E 146 (8, [.inr (10, x0), .inl (0, x1), .inl (0, x2), .inl (0, x3), v4], [], 0, 0, d) K := tT_run (cut := [0, 8, 27]) 11 _ h
theorem t_146_27 {E : mO × tW} {K : tK} {d : mD} {x0 x1 x2 x3 y0 : Int} {v4 : tV}
  (h : (mInR y0 ∧ mInR ((-1))) ∧ (y0 = (-1) → tRun E 146 (8, [.inr (10, x0), .inl (0, x1), .inl (0, x2), .inl (0, x3 + 1), .inl (0, y0)], [], 0, 0, d) K) ∧ (¬ y0 = (-1) → (mInR y0 ∧ mInR x2) ∧ (x2 ≤ y0 → tRun E 146 (8, [.inr (10, x0), .inl (0, x1), .inl (0, x2), .inl (0, x3 + 1), .inl (0, y0)], [], 0, 0, d) K) ∧ (y0 < x2 → tRun E 146 (8, [.inr (10, x0), .inl (0, x3), .inl (0, y0), .inl (0, x3 + 1), .inl (0, y0)], [], 0, 0, d) K))) :
  tRun E 146 (27, [.inr (10, x0), .inl (0, x1), .inl (0, x2), .inl (0, x3), v4], [.inl (0, y0)], 0, 0, d) K := tT_run (cut := [0, 8, 27]) 13 _ h
theorem t_147_0 {E : mO × tW} {K : tK} {d : mD} {x0 x1 x2 : Int}
  (h : tCall E 172 [.inr (10, x0), .inl (0, x1), .inl (0, x2)] d (tbk E 147 3 [.inr (10, x0), .inl (0, x1), .inl (0, x2), tu] [] 3 18 K)) :
  tRun E 147 (0, [.inr (10, x0), .inl (0, x1), .inl (0, x2), tu], [], 0, 0, d) K := tT_run (cut := [0, 6, 17, 26, 33]) 4 _ h
theorem t_147_6 {E : mO × tW} {K : tK} {d : mD} {x0 x1 x2 : Int}
  (h : tCall E 59 [.inr (6, x0 + 580), .inr (6, x0 + 1)] d (tbk E 147 14 [.inr (10, x0), .inl (0, x1), .inl (0, x2), tu] [] 3 18 K)) :
  tRun E 147 (6, [.inr (10, x0), .inl (0, x1), .inl (0, x2), tu], [], 3, 18, d) K := tT_run (cut := [0, 6, 17, 26, 33]) 5 _ h
theorem t_147_17 {E : mO × tW} {K : tK} {d : mD} {x0 x1 x2 : Int}
  (h : tCall E 63 [.inr (6, x0 + 580), .inl (0, x1), .inl (0, x2)] d (tbk E 147 23 [.inr (10, x0), .inl (0, x1), .inl (0, x2), tu] [] 3 18 K)) :
  tRun E 147 (17, [.inr (10, x0), .inl (0, x1), .inl (0, x2), tu], [], 3, 18, d) K := tT_run (cut := [0, 6, 17, 26, 33]) 5 _ h
theorem t_147_26 {E : mO × tW} {K : tK} {d : mD} {x0 x1 x2 : Int}
  (h : tCall E 66 [.inr (6, x0 + 580)] d (tbk E 147 30 [.inr (10, x0), .inl (0, x1), .inl (0, x2), tu] [] 3 18 K)) :
  tRun E 147 (26, [.inr (10, x0), .inl (0, x1), .inl (0, x2), tu], [], 3, 18, d) K := tT_run (cut := [0, 6, 17, 26, 33]) 3 _ h
theorem t_147_33 {E : mO × tW} {K : tK} {d : mD} {x0 x1 x2 y0 : Int}
  (h : (mInR y0 ∧ mInR ((-1))) ∧ (¬ y0 = (-1) → K (.inl (some (0, y0))) d) ∧ (y0 = (-1) → K (.inr 3) d)) :
  tRun E 147 (33, [.inr (10, x0), .inl (0, x1), .inl (0, x2), tu], [.inl (0, y0)], 3, 18, d) K := tT_run (cut := [0, 6, 17, 26, 33]) 6 _ h
theorem t_148_0 {E : mO × tW} {K : tK} {d : mD} {x0 x1 : Int}
  (h : tCall E 165 [.inr (10, x0), .inl (0, x1)] d (tbk E 148 2 [.inr (10, x0), .inl (0, x1), tu, tu] [] 1 6 K)) :
  tRun E 148 (0, [.inr (10, x0), .inl (0, x1), tu, tu], [], 0, 0, d) K := tT_run (cut := [0, 5, 15, 43, 57, 87, 96, 115, 145]) 3 _ h
theorem t_148_5 {E : mO × tW} {K : tK} {d : mD} {x0 x1 : Int}
  (h : tRun E 148 (15, [.inr (10, x0), .inl (0, x1), .inl (0, 0), tu], [], 1, 6, mset d (x0 + 572) 1 0) K) :
  tRun E 148 (5, [.inr (10, x0), .inl (0, x1), tu, tu], [], 1, 6, d) K := tT_run (cut := [0, 5, 15, 43, 57, 87, 96, 115, 145]) 6 _ h
theorem t_148_15 {E : mO × tW} {K : tK} {d : mD} {x0 x1 x2 : Int} {v3 : tV}
  (h : (0 ≤ x1 ∧ x1 < 6) ∧ (mInR x2 ∧ mInR (d (x0 + 1 + 2 + 6) x1)) ∧ (d (x0 + 1 + 2 + 6) x1 ≤ x2 → (0 ≤ x1 ∧ x1 < 6) ∧ mInR (d (x0 + 1 + 2 + 5) x1) ∧ (¬ d (x0 + 1 + 2 + 5) x1 = 0 → tRun E 148 (145, [.inr (10, x0), .inl (0, x1), .inl (0, x2), v3], [], 1, 6, d) K) ∧ (d (x0 + 1 + 2 + 5) x1 = 0 → tCall E 86 [.inr (7, x0 + 572), .inl (0, 33)] d (tbk E 148 142 [.inr (10, x0), .inl (0, x1), .inl (0, x2), v3] [] 1 6 K))) ∧ (x2 < d (x0 + 1 + 2 + 6) x1 → tCall E 38 [.inr (3, x0 + 1 + 2), .inl (0, x1), .inl (0, x2)] d (tbk E 148 40 [.inr (10, x0), .inl (0, x1), .inl (0, x2), v3] [] 1 6 K))) :
  tRun E 148 (15, [.inr (10, x0), .inl (0, x1), .inl (0, x2), v3], [], 1, 6, d) K := tT_run (cut := [0, 5, 15, 43, 57, 87, 96, 115, 145]) 19 _ h
theorem t_148_43 {E : mO × tW} {K : tK} {d : mD} {x0 x1 x2 y0 : Int} {v3 : tV}
  (h : mInR x2 ∧ (x2 ≤ 0 → tRun E 148 (57, [.inr (10, x0), .inl (0, x1), .inl (0, x2), .inl (0, y0)], [], 1, 6, d) K) ∧ (0 < x2 → tCall E 86 [.inr (7, x0 + 572), .inl (0, 32)] d (tbk E 148 54 [.inr (10, x0), .inl (0, x1), .inl (0, x2), .inl (0, y0)] [] 1 6 K))) :
  tRun E 148 (43, [.inr (10, x0), .inl (0, x1), .inl (0, x2), v3], [.inl (0, y0)], 1, 6, d) K := tT_run (cut := [0, 5, 15, 43, 57, 87, 96, 115, 145]) 7 _ h
theorem t_148_57 {E : mO × tW} {K : tK} {d : mD} {x0 x1 x2 x3 : Int}
  (h : (0 ≤ x3 ∧ x3 < 60) ∧ (0 ≤ d (x0 + 1 + 49 + 1) x3 ∧ d (x0 + 1 + 49 + 1) x3 < 16) ∧ tCall E 88 [.inr (7, x0 + 572), .inl (0, d (x0 + 1 + 10 + 1) (d (x0 + 1 + 49 + 1) x3))] d (tbk E 148 84 [.inr (10, x0), .inl (0, x1), .inl (0, x2), .inl (0, x3)] [] 1 6 K)) :
  tRun E 148 (57, [.inr (10, x0), .inl (0, x1), .inl (0, x2), .inl (0, x3)], [], 1, 6, d) K := tT_run (cut := [0, 5, 15, 43, 57, 87, 96, 115, 145]) 14 _ h
theorem t_148_87 {E : mO × tW} {K : tK} {d : mD} {x0 x1 x2 x3 : Int}
  (h : tCall E 86 [.inr (7, x0 + 572), .inl (0, 64)] d (tbk E 148 93 [.inr (10, x0), .inl (0, x1), .inl (0, x2), .inl (0, x3)] [] 1 6 K)) :
  tRun E 148 (87, [.inr (10, x0), .inl (0, x1), .inl (0, x2), .inl (0, x3)], [], 1, 6, d) K := tT_run (cut := [0, 5, 15, 43, 57, 87, 96, 115, 145]) 4 _ h
theorem t_148_96 {E : mO × tW} {K : tK} {d : mD} {x0 x1 x2 x3 : Int}
  (h : (0 ≤ x3 ∧ x3 < 60) ∧ tCall E 89 [.inr (7, x0 + 572), .inl (0, d (x0 + 1 + 49 + 3) x3)] d (tbk E 148 112 [.inr (10, x0), .inl (0, x1), .inl (0, x2), .inl (0, x3)] [] 1 6 K)) :
  tRun E 148 (96, [.inr (10, x0), .inl (0, x1), .inl (0, x2), .inl (0, x3)], [], 1, 6, d) K := tT_run (cut := [0, 5, 15, 43, 57, 87, 96, 115, 145]) 9 _ h
theorem t_148_115 {E : mO × tW} {K : tK} {d : mD} {x0 x1 x2 x3 : Int}
  (h : tRun E 148 (15, [.inr (10, x0), .inl (0, x1), .inl (0, x2 + 1), .inl (0, x3)], [], 1, 6, d) K) :
  tRun E 148 (115, [.inr (10, x0), .inl (0, x1), .inl (0, x2), .inl (0, x3)], [], 1, 6, d) K := tT_run (cut := [0, 5, 15, 43, 57, 87, 96, 115, 145]) 2 _ h
theorem t_148_145 {E : mO × tW} {K : tK} {d : mD} {x0 x1 x2 : Int} {v3 : tV}
  (h : K (.inl (some (0, d (x0 + 572) 1))) d) :
  tRun E 148 (145, [.inr (10, x0), .inl (0, x1), .inl (0, x2), v3], [], 1, 6, d) K := tT_run (cut := [0, 5, 15, 43, 57, 87, 96, 115, 145]) 4 _ h
theorem t_149_0 {E : mO × tW} {K : tK} {d : mD} {x0 x1 : Int}
  (h : mInR x1 ∧ (x1 < 0 → K (.inr 1) d) ∧ (0 ≤ x1 → (mInR x1 ∧ mInR (d (x0 + 572) 1)) ∧ (x1 < d (x0 + 572) 1 → (0 ≤ x1 ∧ x1 < 1000) ∧ K (.inl (some (0, d (x0 + 572 + 1) x1))) d) ∧ (d (x0 + 572) 1 ≤ x1 → K (.inr 1) d))) :
  tRun E 149 (0, [.inr (10, x0), .inl (0, x1)], [], 0, 0, d) K := tT_run (cut := [0]) 13 _ h
theorem t_150_0 {E : mO × tW} {K : tK} {d : mD} {x0 x1 x2 : Int}
  (h : tCall E 166 [.inr (10, x0), .inl (0, x1)] d (tbk E 150 2 [.inr (10, x0), .inl (0, x1), .inl (0, x2)] [] 1 6 K)) :
  tRun E 150 (0, [.inr (10, x0), .inl (0, x1), .inl (0, x2)], [], 0, 0, d) K := tT_run (cut := [0, 5, 10, 19, 44, 53]) 3 _ h
theorem t_150_5 {E : mO × tW} {K : tK} {d : mD} {x0 x1 x2 : Int}
  (h : tCall E 165 [.inr (10, x0), .inl (0, x2)] d (tbk E 150 7 [.inr (10, x0), .inl (0, x1), .inl (0, x2)] [] 2 12 K)) :
  tRun E 150 (5, [.inr (10, x0), .inl (0, x1), .inl (0, x2)], [], 1, 6, d) K := tT_run (cut := [0, 5, 10, 19, 44, 53]) 3 _ h
theorem t_150_10 {E : mO × tW} {K : tK} {d : mD} {x0 x1 x2 : Int}
  (h : tCall E 60 [.inr (6, x0 + 1), .inl (0, x1), .inl (0, x2)] d (tbk E 150 16 [.inr (10, x0), .inl (0, x1), .inl (0, x2)] [] 2 12 K)) :
  tRun E 150 (10, [.inr (10, x0), .inl (0, x1), .inl (0, x2)], [], 2, 12, d) K := tT_run (cut := [0, 5, 10, 19, 44, 53]) 5 _ h
theorem t_150_19 {E : mO × tW} {K : tK} {d : mD} {x0 x1 x2 y0 : Int}
  (h : mInR y0 ∧ (¬ y0 = 0 → tCall E 2 [.inr (0, x0 + 64), .inr (6, x0 + 1)] d (tbk E 150 41 [.inr (10, x0), .inl (0, x1), .inl (0, x2)] [] 2 12 K)) ∧ (y0 = 0 → K (.inr 0) d)) :
  tRun E 150 (19, [.inr (10, x0), .inl (0, x1), .inl (0, x2)], [.inl (0, y0)], 2, 12, d) K := tT_run (cut := [0, 5, 10, 19, 44, 53]) 6 _ h
theorem t_150_44 {E : mO × tW} {K : tK} {d : mD} {x0 x1 x2 : Int}
  (h : tCall E 61 [.inr (6, x0 + 1), .inl (0, x1), .inl (0, x2)] d (tbk E 150 50 [.inr (10, x0), .inl (0, x1), .inl (0, x2)] [] 2 12 K)) :
  tRun E 150 (44, [.inr (10, x0), .inl (0, x1), .inl (0, x2)], [], 2, 12, d) K := tT_run (cut := [0, 5, 10, 19, 44, 53]) 5 _ h
theorem t_150_53 {E : mO × tW} {K : tK} {d : mD} {x0 x1 x2 y0 : Int}
  (h : K (.inl (some (0, y0))) d) :
  tRun E 150 (53, [.inr (10, x0), .inl (0, x1), .inl (0, x2)], [.inl (0, y0)], 2, 12, d) K := tT_run (cut := [0, 5, 10, 19, 44, 53]) 1 _ h
theorem t_151_0 {E : mO × tW} {K : tK} {d : mD} {x0 x1 : Int}
  (h : tCall E 167 [.inr (10, x0), .inl (0, x1)] d (tbk E 151 2 [.inr (10, x0), .inl (0, x1), tu] [] 1 6 K)) :
  tRun E 151 (0, [.inr (10, x0), .inl (0, x1), tu], [], 0, 0, d) K := tT_run (cut := [0, 5, 42, 75, 78, 97]) 3 _ h
theorem t_151_5 {E : mO × tW} {K : tK} {d : mD} {x0 x1 : Int}
  (h : (0 ≤ x1 ∧ x1 < 60) ∧ mInR (d (x0 + 1 + 49 + 5) x1) ∧ (d (x0 + 1 + 49 + 5) x1 = 0 → tCall E 2 [.inr (0, x0 + 64), .inr (6, x0 + 1)] d (tbk E 151 39 [.inr (10, x0), .inl (0, x1), tu] [] 1 6 K)) ∧ (¬ d (x0 + 1 + 49 + 5) x1 = 0 → K (.inr 0) d)) :
  tRun E 151 (5, [.inr (10, x0), .inl (0, x1), tu], [], 1, 6, d) K := tT_run (cut := [0, 5, 42, 75, 78, 97]) 12 _ h
theorem t_151_42 {E : mO × tW} {K : tK} {d : mD} {x0 x1 : Int}
  (h : (0 ≤ x1 ∧ x1 < 60) ∧ tCall E 39 [.inr (3, x0 + 1 + 2), .inl (0, d (x0 + 1 + 49 + 2) x1), .inl (0, x1)] d (tbk E 151 72 [.inr (10, x0), .inl (0, x1), .inl (0, d (x0 + 1 + 49 + 2) x1)] [.inl (0, d (x0 + 1 + 49 + 2) x1), .inr (3, x0 + 1 + 2)] 1 6 K)) :
  tRun E 151 (42, [.inr (10, x0), .inl (0, x1), tu], [], 1, 6, d) K := tT_run (cut := [0, 5, 42, 75, 78, 97]) 17 _ h
theorem t_151_75 {E : mO × tW} {K : tK} {d : mD} {x0 x1 x2 y0 y1 y2 : Int}
  (h : tCall E 41 [.inr (3, y0), .inl (0, y1), .inl (0, y2)] d (tbk E 151 75 [.inr (10, x0), .inl (0, x1), .inl (0, x2)] [] 1 6 K)) :
  tRun E 151 (75, [.inr (10, x0), .inl (0, x1), .inl (0, x2)], [.inl (0, y2), .inl (0, y1), .inr (3, y0)], 1, 6, d) K := tT_run (cut := [0, 5, 42, 75, 78, 97]) 1 _ h
theorem t_151_78 {E : mO × tW} {K : tK} {d : mD} {x0 x1 x2 : Int}
  (h : tCall E 97 [.inr (8, x0 + 1 + 49), .inl (0, x1), .inl (0, 2), .inl (0, d (x0 + 1) 2)] d (tbk E 151 94 [.inr (10, x0), .inl (0, x1), .inl (0, x2)] [] 1 6 K)) :
  tRun E 151 (78, [.inr (10, x0), .inl (0, x1), .inl (0, x2)], [], 1, 6, d) K := tT_run (cut := [0, 5, 42, 75, 78, 97]) 9 _ h
theorem t_151_97 {E : mO × tW} {K : tK} {d : mD} {x0 x1 x2 : Int}
  (h : (0 ≤ x1 ∧ x1 < 60) ∧ K (.inl (some (0, (d (x0 + 1) 2) - (d (x0 + 1 + 49 + 3) x1)))) d) :
  tRun E 151 (97, [.inr (10, x0), .inl (0, x1), .inl (0, x2)], [], 1, 6, d) K := tT_run (cut := [0, 5, 42, 75, 78, 97]) 11 _ h
theorem t_152_0 {E : mO × tW} {K : tK} {d : mD} {x0 x1 : Int}
  (h : (mInR x1 ∧ mInR 1) ∧ (x1 < 1 → K (.inr 2) d) ∧ (1 ≤ x1 → (mInR x1 ∧ mInR 99) ∧ (x1 ≤ 99 → tCall E 67 [.inr (6, x0 + 1), .inl (0, x1)] d (tbk E 152 27 [.inr (10, x0), .inl (0, x1)] [] 0 0 K)) ∧ (99 < x1 → K (.inr 2) d))) :
  tRun E 152 (0, [.inr (10, x0), .inl (0, x1)], [], 0, 0, d) K := tT_run (cut := [0, 30, 55, 63]) 10 _ h
theorem t_152_30 {E : mO × tW} {K : tK} {d : mD} {x0 x1 y0 : Int}
  (h : mInR y0 ∧ (¬ y0 = 0 → tCall E 2 [.inr (0, x0 + 64), .inr (6, x0 + 1)] d (tbk E 152 52 [.inr (10, x0), .inl (0, x1)] [] 0 0 K)) ∧ (y0 = 0 → K (.inr 0) d)) :
  tRun E 152 (30, [.inr (10, x0), .inl (0, x1)], [.inl (0, y0)], 0, 0, d) K := tT_run (cut := [0, 30, 55, 63]) 6 _ h
theorem t_152_55 {E : mO × tW} {K : tK} {d : mD} {x0 x1 : Int}
  (h : tCall E 68 [.inr (6, x0 + 1), .inl (0, x1)] d (tbk E 152 60 [.inr (10, x0), .inl (0, x1)] [] 0 0 K)) :
  tRun E 152 (55, [.inr (10, x0), .inl (0, x1)], [], 0, 0, d) K := tT_run (cut := [0, 30, 55, 63]) 4 _ h
theorem t_152_63 {E : mO × tW} {K : tK} {d : mD} {x0 x1 y0 : Int}
  (h : K (.inl (some (0, y0))) d) :
  tRun E 152 (63, [.inr (10, x0), .inl (0, x1)], [.inl (0, y0)], 0, 0, d) K := tT_run (cut := [0, 30, 55, 63]) 1 _ h
theorem t_153_0 {E : mO × tW} {K : tK} {d : mD} {x0 x1 : Int}
  (h : tCall E 167 [.inr (10, x0), .inl (0, x1)] d (tbk E 153 2 [.inr (10, x0), .inl (0, x1)] [] 1 6 K)) :
  tRun E 153 (0, [.inr (10, x0), .inl (0, x1)], [], 0, 0, d) K := tT_run (cut := [0, 5, 13, 38, 46]) 3 _ h
theorem t_153_5 {E : mO × tW} {K : tK} {d : mD} {x0 x1 : Int}
  (h : tCall E 73 [.inr (6, x0 + 1), .inl (0, x1)] d (tbk E 153 10 [.inr (10, x0), .inl (0, x1)] [] 1 6 K)) :
  tRun E 153 (5, [.inr (10, x0), .inl (0, x1)], [], 1, 6, d) K := tT_run (cut := [0, 5, 13, 38, 46]) 4 _ h
theorem t_153_13 {E : mO × tW} {K : tK} {d : mD} {x0 x1 y0 : Int}
  (h : mInR y0 ∧ (¬ y0 = 0 → tCall E 2 [.inr (0, x0 + 64), .inr (6, x0 + 1)] d (tbk E 153 35 [.inr (10, x0), .inl (0, x1)] [] 1 6 K)) ∧ (y0 = 0 → K (.inr 0) d)) :
  tRun E 153 (13, [.inr (10, x0), .inl (0, x1)], [.inl (0, y0)], 1, 6, d) K := tT_run (cut := [0, 5, 13, 38, 46]) 6 _ h
theorem t_153_38 {E : mO × tW} {K : tK} {d : mD} {x0 x1 : Int}
  (h : tCall E 74 [.inr (6, x0 + 1), .inl (0, x1)] d (tbk E 153 43 [.inr (10, x0), .inl (0, x1)] [] 1 6 K)) :
  tRun E 153 (38, [.inr (10, x0), .inl (0, x1)], [], 1, 6, d) K := tT_run (cut := [0, 5, 13, 38, 46]) 4 _ h
theorem t_153_46 {E : mO × tW} {K : tK} {d : mD} {x0 x1 y0 : Int}
  (h : K (.inl (some (0, y0))) d) :
  tRun E 153 (46, [.inr (10, x0), .inl (0, x1)], [.inl (0, y0)], 1, 6, d) K := tT_run (cut := [0, 5, 13, 38, 46]) 1 _ h
theorem t_154_0 {E : mO × tW} {K : tK} {d : mD} {x0 x1 x2 : Int}
  (h : tCall E 167 [.inr (10, x0), .inl (0, x1)] d (tbk E 154 2 [.inr (10, x0), .inl (0, x1), .inl (0, x2)] [] 1 6 K)) :
  tRun E 154 (0, [.inr (10, x0), .inl (0, x1), .inl (0, x2)], [], 0, 0, d) K := tT_run (cut := [0, 5, 10, 19, 44, 53]) 3 _ h
theorem t_154_5 {E : mO × tW} {K : tK} {d : mD} {x0 x1 x2 : Int}
  (h : tCall E 166 [.inr (10, x0), .inl (0, x2)] d (tbk E 154 7 [.inr (10, x0), .inl (0, x1), .inl (0, x2)] [] 2 12 K)) :
  tRun E 154 (5, [.inr (10, x0), .inl (0, x1), .inl (0, x2)], [], 1, 6, d) K := tT_run (cut := [0, 5, 10, 19, 44, 53]) 3 _ h
theorem t_154_10 {E : mO × tW} {K : tK} {d : mD} {x0 x1 x2 : Int}
  (h : tCall E 77 [.inr (6, x0 + 1), .inl (0, x1), .inl (0, x2)] d (tbk E 154 16 [.inr (10, x0), .inl (0, x1), .inl (0, x2)] [] 2 12 K)) :
  tRun E 154 (10, [.inr (10, x0), .inl (0, x1), .inl (0, x2)], [], 2, 12, d) K := tT_run (cut := [0, 5, 10, 19, 44, 53]) 5 _ h
theorem t_154_19 {E : mO × tW} {K : tK} {d : mD} {x0 x1 x2 y0 : Int}
  (h : mInR y0 ∧ (y0 = 0 → tCall E 2 [.inr (0, x0 + 64), .inr (6, x0 + 1)] d (tbk E 154 41 [.inr (10, x0), .inl (0, x1), .inl (0, x2)] [] 2 12 K)) ∧ (¬ y0 = 0 → K (.inr 0) d)) :
  tRun E 154 (19, [.inr (10, x0), .inl (0, x1), .inl (0, x2)], [.inl (0, y0)], 2, 12, d) K := tT_run (cut := [0, 5, 10, 19, 44, 53]) 6 _ h
theorem t_154_44 {E : mO × tW} {K : tK} {d : mD} {x0 x1 x2 : Int}
  (h : tCall E 75 [.inr (6, x0 + 1), .inl (0, x1), .inl (0, x2)] d (tbk E 154 50 [.inr (10, x0), .inl (0, x1), .inl (0, x2)] [] 2 12 K)) :
  tRun E 154 (44, [.inr (10, x0), .inl (0, x1), .inl (0, x2)], [], 2, 12, d) K := tT_run (cut := [0, 5, 10, 19, 44, 53]) 5 _ h
theorem t_154_53 {E : mO × tW} {K : tK} {d : mD} {x0 x1 x2 y0 : Int}
  (h : K (.inl (some (0, y0))) d) :
  tRun E 154 (53, [.inr (10, x0), .inl (0, x1), .inl (0, x2)], [.inl (0, y0)], 2, 12, d) K := tT_run (cut := [0, 5, 10, 19, 44, 53]) 1 _ h
theorem t_155_0 {E : mO × tW} {K : tK} {d : mD} {x0 x1 x2 x3 : Int}
  (h : tCall E 166 [.inr (10, x0), .inl (0, x1)] d (tbk E 155 2 [.inr (10, x0), .inl (0, x1), .inl (0, x2), .inl (0, x3)] [] 1 6 K)) :
  tRun E 155 (0, [.inr (10, x0), .inl (0, x1), .inl (0, x2), .inl (0, x3)], [], 0, 0, d) K := tT_run (cut := [0, 5, 10, 15, 32, 58, 71, 83]) 3 _ h
theorem t_155_5 {E : mO × tW} {K : tK} {d : mD} {x0 x1 x2 x3 : Int}
  (h : tCall E 166 [.inr (10, x0), .inl (0, x2)] d (tbk E 155 7 [.inr (10, x0), .inl (0, x1), .inl (0, x2), .inl (0, x3)] [] 2 12 K)) :
  tRun E 155 (5, [.inr (10, x0), .inl (0, x1), .inl (0, x2), .inl (0, x3)], [], 1, 6, d) K := tT_run (cut := [0, 5, 10, 15, 32, 58, 71, 83]) 3 _ h
theorem t_155_10 {E : mO × tW} {K : tK} {d : mD} {x0 x1 x2 x3 : Int}
  (h : tCall E 171 [.inr (10, x0), .inl (0, x3)] d (tbk E 155 12 [.inr (10, x0), .inl (0, x1), .inl (0, x2), .inl (0, x3)] [] 3 18 K)) :
  tRun E 155 (10, [.inr (10, x0), .inl (0, x1), .inl (0, x2), .inl (0, x3)], [], 2, 12, d) K := tT_run (cut := [0, 5, 10, 15, 32, 58, 71, 83]) 3 _ h
theorem t_155_15 {E : mO × tW} {K : tK} {d : mD} {x0 x1 x2 x3 : Int}
  (h : (mInR x1 ∧ mInR x2) ∧ (x1 = x2 → K (.inr 0) d) ∧ (¬ x1 = x2 → tCall E 111 [.inr (9, x0 + 1 + 57), .inl (0, x1), .inl (0, 0)] d (tbk E 155 29 [.inr (10, x0), .inl (0, x1), .inl (0, x2), .inl (0, x3)] [] 3 18 K))) :
  tRun E 155 (15, [.inr (10, x0), .inl (0, x1), .inl (0, x2), .inl (0, x3)], [], 3, 18, d) K := tT_run (cut := [0, 5, 10, 15, 32, 58, 71, 83]) 9 _ h
theorem t_155_32 {E : mO × tW} {K : tK} {d : mD} {x0 x1 x2 x3 y0 : Int}
  (h : (mInR y0 ∧ mInR x3) ∧ (x3 ≤ y0 → tCall E 2 [.inr (0, x0 + 64), .inr (6, x0 + 1)] d (tbk E 155 55 [.inr (10, x0), .inl (0, x1), .inl (0, x2), .inl (0, x3)] [] 3 18 K)) ∧ (y0 < x3 → K (.inr 0) d)) :
  tRun E 155 (32, [.inr (10, x0), .inl (0, x1), .inl (0, x2), .inl (0, x3)], [.inl (0, y0)], 3, 18, d) K := tT_run (cut := [0, 5, 10, 15, 32, 58, 71, 83]) 7 _ h
theorem t_155_58 {E : mO × tW} {K : tK} {d : mD} {x0 x1 x2 x3 : Int}
  (h : tCall E 114 [.inr (9, x0 + 1 + 57), .inl (0, x1), .inl (0, x2), .inl (0, x3)] d (tbk E 155 68 [.inr (10, x0), .inl (0, x1), .inl (0, x2), .inl (0, x3)] [] 3 18 K)) :
  tRun E 155 (58, [.inr (10, x0), .inl (0, x1), .inl (0, x2), .inl (0, x3)], [], 3, 18, d) K := tT_run (cut := [0, 5, 10, 15, 32, 58, 71, 83]) 7 _ h
theorem t_155_71 {E : mO × tW} {K : tK} {d : mD} {x0 x1 x2 x3 : Int}
  (h : tCall E 111 [.inr (9, x0 + 1 + 57), .inl (0, x2), .inl (0, 0)] d (tbk E 155 80 [.inr (10, x0), .inl (0, x1), .inl (0, x2), .inl (0, x3)] [] 3 18 K)) :
  tRun E 155 (71, [.inr (10, x0), .inl (0, x1), .inl (0, x2), .inl (0, x3)], [], 3, 18, d) K := tT_run (cut := [0, 5, 10, 15, 32, 58, 71, 83]) 6 _ h
theorem t_155_83 {E : mO × tW} {K : tK} {d : mD} {x0 x1 x2 x3 y0 : Int}
  (h : K (.inl (some (0, y0))) d) :
  tRun E 155 (83, [.inr (10, x0), .inl (0, x1), .inl (0, x2), .inl (0, x3)], [.inl (0, y0)], 3, 18, d) K := tT_run (cut := [0, 5, 10, 15, 32, 58, 71, 83]) 1 _ h
theorem t_156_0 {E : mO × tW} {K : tK} {d : mD} {x0 x1 x2 : Int}
  (h : tCall E 166 [.inr (10, x0), .inl (0, x1)] d (tbk E 156 2 [.inr (10, x0), .inl (0, x1), .inl (0, x2)] [] 1 6 K)) :
  tRun E 156 (0, [.inr (10, x0), .inl (0, x1), .inl (0, x2)], [], 0, 0, d) K := tT_run (cut := [0, 5, 10, 22, 48, 60, 67]) 3 _ h
theorem t_156_5 {E : mO × tW} {K : tK} {d : mD} {x0 x1 x2 : Int}
  (h : tCall E 171 [.inr (10, x0), .inl (0, x2)] d (tbk E 156 7 [.inr (10, x0), .inl (0, x1), .inl (0, x2)] [] 2 12 K)) :
  tRun E 156 (5, [.inr (10, x0), .inl (0, x1), .inl (0, x2)], [], 1, 6, d) K := tT_run (cut := [0, 5, 10, 22, 48, 60, 67]) 3 _ h
theorem t_156_10 {E : mO × tW} {K : tK} {d : mD} {x0 x1 x2 : Int}
  (h : tCall E 111 [.inr (9, x0 + 1 + 57), .inl (0, x1), .inl (0, 0)] d (tbk E 156 19 [.inr (10, x0), .inl (0, x1), .inl (0, x2)] [] 2 12 K)) :
  tRun E 156 (10, [.inr (10, x0), .inl (0, x1), .inl (0, x2)], [], 2, 12, d) K := tT_run (cut := [0, 5, 10, 22, 48, 60, 67]) 6 _ h
theorem t_156_22 {E : mO × tW} {K : tK} {d : mD} {x0 x1 x2 y0 : Int}
  (h : (mInR y0 ∧ mInR x2) ∧ (x2 ≤ y0 → tCall E 2 [.inr (0, x0 + 64), .inr (6, x0 + 1)] d (tbk E 156 45 [.inr (10, x0), .inl (0, x1), .inl (0, x2)] [] 2 12 K)) ∧ (y0 < x2 → K (.inr 0) d)) :
  tRun E 156 (22, [.inr (10, x0), .inl (0, x1), .inl (0, x2)], [.inl (0, y0)], 2, 12, d) K := tT_run (cut := [0, 5, 10, 22, 48, 60, 67]) 7 _ h
theorem t_156_48 {E : mO × tW} {K : tK} {d : mD} {x0 x1 x2 : Int}
  (h : tCall E 115 [.inr (9, x0 + 1 + 57), .inl (0, x1), .inl (0, x2)] d (tbk E 156 57 [.inr (10, x0), .inl (0, x1), .inl (0, x2)] [] 2 12 K)) :
  tRun E 156 (48, [.inr (10, x0), .inl (0, x1), .inl (0, x2)], [], 2, 12, d) K := tT_run (cut := [0, 5, 10, 22, 48, 60, 67]) 6 _ h
theorem t_156_60 {E : mO × tW} {K : tK} {d : mD} {x0 x1 x2 : Int}
  (h : tCall E 82 [.inr (6, x0 + 1)] d (tbk E 156 64 [.inr (10, x0), .inl (0, x1), .inl (0, x2)] [] 2 12 K)) :
  tRun E 156 (60, [.inr (10, x0), .inl (0, x1), .inl (0, x2)], [], 2, 12, d) K := tT_run (cut := [0, 5, 10, 22, 48, 60, 67]) 3 _ h
theorem t_156_67 {E : mO × tW} {K : tK} {d : mD} {x0 x1 x2 y0 : Int}
  (h : K (.inl (some (0, y0))) d) :
  tRun E 156 (67, [.inr (10, x0), .inl (0, x1), .inl (0, x2)], [.inl (0, y0)], 2, 12, d) K := tT_run (cut := [0, 5, 10, 22, 48, 60, 67]) 1 _ h
theorem t_157_0 {E : mO × tW} {K : tK} {d : mD} {x0 x1 : Int}
  (h : (mInR x1 ∧ mInR 1) ∧ (x1 < 1 → K (.inr 2) d) ∧ (1 ≤ x1 → (mInR x1 ∧ mInR 9999) ∧ (x1 ≤ 9999 → (mInR ((d (x0 + 1) 1) + x1) ∧ mInR 99999) ∧ ((d (x0 + 1) 1) + x1 ≤ 99999 → tCall E 2 [.inr (0, x0 + 64), .inr (6, x0 + 1)] d (tbk E 157 57 [.inr (10, x0), .inl (0, x1)] [] 0 0 K)) ∧ (99999 < (d (x0 + 1) 1) + x1 → K (.inr 0) d)) ∧ (9999 < x1 → K (.inr 2) d))) :
  tRun E 157 (0, [.inr (10, x0), .inl (0, x1)], [], 0, 0, d) K := tT_run (cut := [0, 60, 80]) 18 _ h
theorem t_157_60 {E : mO × tW} {K : tK} {d : mD} {x0 x1 : Int}
  (h : tCall E 82 [.inr (6, x0 + 1)] (mset d (x0 + 1) 1 ((d (x0 + 1) 1) + x1)) (tbk E 157 77 [.inr (10, x0), .inl (0, x1)] [] 0 0 K)) :
  tRun E 157 (60, [.inr (10, x0), .inl (0, x1)], [], 0, 0, d) K := tT_run (cut := [0, 60, 80]) 10 _ h
theorem t_157_80 {E : mO × tW} {K : tK} {d : mD} {x0 x1 y0 : Int}
  (h : K (.inl (some (0, d (x0 + 1) 1))) d) :
  tRun E 157 (80, [.inr (10, x0), .inl (0, x1)], [.inl (0, y0)], 0, 0, d) K := tT_run (cut := [0, 60, 80]) 5 _ h
theorem t_158_0 {E : mO × tW} {K : tK} {d : mD} {x0 x1 x2 : Int}
  (h : tCall E 172 [.inr (10, x0), .inl (0, x1), .inl (0, x2)] d (tbk E 158 3 [.inr (10, x0), .inl (0, x1), .inl (0, x2)] [] 3 18 K)) :
  tRun E 158 (0, [.inr (10, x0), .inl (0, x1), .inl (0, x2)], [], 0, 0, d) K := tT_run (cut := [0, 6, 17, 26]) 4 _ h
theorem t_158_6 {E : mO × tW} {K : tK} {d : mD} {x0 x1 x2 : Int}
  (h : tCall E 2 [.inr (0, x0 + 64), .inr (6, x0 + 1)] d (tbk E 158 14 [.inr (10, x0), .inl (0, x1), .inl (0, x2)] [] 3 18 K)) :
  tRun E 158 (6, [.inr (10, x0), .inl (0, x1), .inl (0, x2)], [], 3, 18, d) K := tT_run (cut := [0, 6, 17, 26]) 5 _ h
theorem t_158_17 {E : mO × tW} {K : tK} {d : mD} {x0 x1 x2 : Int}
  (h : tCall E 63 [.inr (6, x0 + 1), .inl (0, x1), .inl (0, x2)] d (tbk E 158 23 [.inr (10, x0), .inl (0, x1), .inl (0, x2)] [] 3 18 K)) :
  tRun E 158 (17, [.inr (10, x0), .inl (0, x1), .inl (0, x2)], [], 3, 18, d) K := tT_run (cut := [0, 6, 17, 26]) 5 _ h
theorem t_158_26 {E : mO × tW} {K : tK} {d : mD} {x0 x1 x2 : Int}
  (h : (0 ≤ x2 ∧ x2 < 6) ∧ K (.inl (some (0, d (x0 + 1 + 2 + 6) x2))) d) :
  tRun E 158 (26, [.inr (10, x0), .inl (0, x1), .inl (0, x2)], [], 3, 18, d) K := tT_run (cut := [0, 6, 17, 26]) 7 _ h
theorem t_159_0 {E : mO × tW} {K : tK} {d : mD} {x0 x1 : Int}
  (h : tCall E 165 [.inr (10, x0), .inl (0, x1)] d (tbk E 159 2 [.inr (10, x0), .inl (0, x1)] [] 1 6 K)) :
  tRun E 159 (0, [.inr (10, x0), .inl (0, x1)], [], 0, 0, d) K := tT_run (cut := [0, 5, 42, 65]) 3 _ h
theorem t_159_5 {E : mO × tW} {K : tK} {d : mD} {x0 x1 : Int}
  (h : (0 ≤ x1 ∧ x1 < 6) ∧ mInR (d (x0 + 1 + 2 + 5) x1) ∧ (d (x0 + 1 + 2 + 5) x1 = 0 → tCall E 2 [.inr (0, x0 + 64), .inr (6, x0 + 1)] d (tbk E 159 39 [.inr (10, x0), .inl (0, x1)] [] 1 6 K)) ∧ (¬ d (x0 + 1 + 2 + 5) x1 = 0 → K (.inr 0) d)) :
  tRun E 159 (5, [.inr (10, x0), .inl (0, x1)], [], 1, 6, d) K := tT_run (cut := [0, 5, 42, 65]) 12 _ h
theorem t_159_42 {E : mO × tW} {K : tK} {d : mD} {x0 x1 : Int}
  (h : (((1 : Int) = 0 ∨ (1 : Int) = 1) ∧ 0 ≤ x1 ∧ x1 < 6) ∧ tCall E 37 [.inr (3, x0 + 1 + 2)] (mset d (x0 + 1 + 2 + 5) x1 1) (tbk E 159 62 [.inr (10, x0), .inl (0, x1)] [] 1 6 K)) :
  tRun E 159 (42, [.inr (10, x0), .inl (0, x1)], [], 1, 6, d) K := tT_run (cut := [0, 5, 42, 65]) 11 _ h
theorem t_159_65 {E : mO × tW} {K : tK} {d : mD} {x0 x1 y0 : Int}
  (h : K (.inl (some (0, y0))) d) :
  tRun E 159 (65, [.inr (10, x0), .inl (0, x1)], [.inl (0, y0)], 1, 6, d) K := tT_run (cut := [0, 5, 42, 65]) 1 _ h
theorem t_160_0 {E : mO × tW} {K : tK} {d : mD} {x0 : Int}
  (h : tCall E 93 [.inr (7, x0 + 578), .inl (0, 0), .inl (0, d (x0 + 578) 1)] d (tbk E 160 12 [.inr (10, x0), tu] [] 0 0 K)) :
  tRun E 160 (0, [.inr (10, x0), tu], [], 0, 0, d) K := tT_run (cut := [0, 15, 66, 92, 103]) 7 _ h
theorem t_160_15 {E : mO × tW} {K : tK} {d : mD} {x0 y0 : Int}
  (h : (mInR y0 ∧ mInR ((-1))) ∧ (¬ y0 = (-1) → (mInR ((mset d (x0 + 578) 1 0) (x0 + 1 + 10) 0) ∧ mInR 16) ∧ (16 ≤ (mset d (x0 + 578) 1 0) (x0 + 1 + 10) 0 → K (.inr 0) (mset d (x0 + 578) 1 0)) ∧ ((mset d (x0 + 578) 1 0) (x0 + 1 + 10) 0 < 16 → tCall E 48 [.inr (4, x0 + 1 + 10), .inl (0, y0)] (mset d (x0 + 578) 1 0) (tbk E 160 63 [.inr (10, x0), .inl (0, y0)] [] 0 0 K))) ∧ (y0 = (-1) → K (.inr 2) (mset d (x0 + 578) 1 0))) :
  tRun E 160 (15, [.inr (10, x0), tu], [.inl (0, y0)], 0, 0, d) K := tT_run (cut := [0, 15, 66, 92, 103]) 19 _ h
theorem t_160_66 {E : mO × tW} {K : tK} {d : mD} {x0 x1 y0 : Int}
  (h : (mInR y0 ∧ mInR ((-1))) ∧ (y0 = (-1) → tCall E 2 [.inr (0, x0 + 64), .inr (6, x0 + 1)] d (tbk E 160 89 [.inr (10, x0), .inl (0, x1)] [] 0 0 K)) ∧ (¬ y0 = (-1) → K (.inr 0) d)) :
  tRun E 160 (66, [.inr (10, x0), .inl (0, x1)], [.inl (0, y0)], 0, 0, d) K := tT_run (cut := [0, 15, 66, 92, 103]) 7 _ h
theorem t_160_92 {E : mO × tW} {K : tK} {d : mD} {x0 x1 : Int}
  (h : tCall E 47 [.inr (4, x0 + 1 + 10), .inl (0, x1)] d (tbk E 160 100 [.inr (10, x0), .inl (0, x1)] [] 0 0 K)) :
  tRun E 160 (92, [.inr (10, x0), .inl (0, x1)], [], 0, 0, d) K := tT_run (cut := [0, 15, 66, 92, 103]) 5 _ h
theorem t_160_103 {E : mO × tW} {K : tK} {d : mD} {x0 x1 : Int}
  (h : K (.inl (some (0, (d (x0 + 1 + 10) 0) - 1))) d) :
  tRun E 160 (103, [.inr (10, x0), .inl (0, x1)], [], 0, 0, d) K := tT_run (cut := [0, 15, 66, 92, 103]) 7 _ h
theorem t_161_0 {E : mO × tW} {K : tK} {d : mD} {x0 x1 x2 : Int}
  (h : tCall E 169 [.inr (10, x0), .inl (0, x1)] d (tbk E 161 2 [.inr (10, x0), .inl (0, x1), .inl (0, x2), tu] [] 1 6 K)) :
  tRun E 161 (0, [.inr (10, x0), .inl (0, x1), .inl (0, x2), tu], [], 0, 0, d) K := tT_run (cut := [0, 5, 45]) 3 _ h
theorem t_161_5 {E : mO × tW} {K : tK} {d : mD} {x0 x1 x2 : Int}
  (h : (0 ≤ x1 ∧ x1 < E.1.1 0) ∧ (mInR x2 ∧ mInR (E.1.2 0 x1)) ∧ (x2 < E.1.2 0 x1 → K (.inr 2) d) ∧ (E.1.2 0 x1 ≤ x2 → (0 ≤ x1 ∧ x1 < E.1.1 1) ∧ (mInR x2 ∧ mInR (E.1.2 1 x1)) ∧ (x2 ≤ E.1.2 1 x1 → tCall E 2 [.inr (0, x0 + 64), .inr (6, x0 + 1)] d (tbk E 161 42 [.inr (10, x0), .inl (0, x1), .inl (0, x2), tu] [] 1 6 K)) ∧ (E.1.2 1 x1 < x2 → K (.inr 2) d))) :
  tRun E 161 (5, [.inr (10, x0), .inl (0, x1), .inl (0, x2), tu], [], 1, 6, d) K := tT_run (cut := [0, 5, 45]) 15 _ h
theorem t_161_45 {E : mO × tW} {K : tK} {d : mD} {x0 x1 x2 : Int}
  (h : (0 ≤ x1 ∧ x1 < 5) ∧ (0 ≤ x1 ∧ x1 < 5) ∧ K (.inl (some (0, d (x0 + 1 + 1) x1))) (mset d (x0 + 1 + 1) x1 x2)) :
  tRun E 161 (45, [.inr (10, x0), .inl (0, x1), .inl (0, x2), tu], [], 1, 6, d) K := tT_run (cut := [0, 5, 45]) 14 _ h
theorem t_162_0 {E : mO × tW} {K : tK} {d : mD} {x0 : Int}
  (h : mInR (d (x0 + 64) 2) ∧ (¬ d (x0 + 64) 2 = 0 → tCall E 3 [.inr (0, x0 + 64), .inr (6, x0 + 1)] d (tbk E 162 29 [.inr (10, x0)] [] 0 0 K)) ∧ (d (x0 + 64) 2 = 0 → K (.inr 0) d)) :
  tRun E 162 (0, [.inr (10, x0)], [], 0, 0, d) K := tT_run (cut := [0, 32]) 9 _ h
theorem t_162_32 {E : mO × tW} {K : tK} {d : mD} {x0 : Int}
  (h : K (.inl (some (0, d (x0 + 64) 2))) d) :
  tRun E 162 (32, [.inr (10, x0)], [], 0, 0, d) K := tT_run (cut := [0, 32]) 4 _ h
theorem t_163_0 {E : mO × tW} {K : tK} {d : mD} {x0 x1 : Int}
  (h : tCall E 168 [.inr (10, x0), .inl (0, x1)] d (tbk E 163 2 [.inr (10, x0), .inl (0, x1)] [] 1 6 K)) :
  tRun E 163 (0, [.inr (10, x0), .inl (0, x1)], [], 0, 0, d) K := tT_run (cut := [0, 5, 18]) 3 _ h
theorem t_163_5 {E : mO × tW} {K : tK} {d : mD} {x0 x1 : Int}
  (h : (0 ≤ x1 ∧ x1 < 2) ∧ tCall E 59 [.inr (6, x0 + 570 + (73 + 63 * x1)), .inr (6, x0 + 1)] d (tbk E 163 15 [.inr (10, x0), .inl (0, x1)] [] 1 6 K)) :
  tRun E 163 (5, [.inr (10, x0), .inl (0, x1)], [], 1, 6, d) K := tT_run (cut := [0, 5, 18]) 7 _ h
theorem t_163_18 {E : mO × tW} {K : tK} {d : mD} {x0 x1 : Int}
  (h : (((1 : Int) = 0 ∨ (1 : Int) = 1) ∧ 0 ≤ x1 ∧ x1 < 2) ∧ K (.inl none) (mset d (x0 + 571) x1 1)) :
  tRun E 163 (18, [.inr (10, x0), .inl (0, x1)], [], 1, 6, d) K := tT_run (cut := [0, 5, 18]) 6 _ h
theorem t_164_0 {E : mO × tW} {K : tK} {d : mD} {x0 x1 : Int}
  (h : tCall E 168 [.inr (10, x0), .inl (0, x1)] d (tbk E 164 2 [.inr (10, x0), .inl (0, x1)] [] 1 6 K)) :
  tRun E 164 (0, [.inr (10, x0), .inl (0, x1)], [], 0, 0, d) K := tT_run (cut := [0, 5, 38, 45]) 3 _ h
theorem t_164_5 {E : mO × tW} {K : tK} {d : mD} {x0 x1 : Int}
  (h : (0 ≤ x1 ∧ x1 < 2) ∧ mInR (d (x0 + 571) x1) ∧ (¬ d (x0 + 571) x1 = 0 → (0 ≤ x1 ∧ x1 < 2) ∧ tCall E 59 [.inr (6, x0 + 1), .inr (6, x0 + 570 + (73 + 63 * x1))] d (tbk E 164 35 [.inr (10, x0), .inl (0, x1)] [] 1 6 K)) ∧ (d (x0 + 571) x1 = 0 → K (.inr 3) d)) :
  tRun E 164 (5, [.inr (10, x0), .inl (0, x1)], [], 1, 6, d) K := tT_run (cut := [0, 5, 38, 45]) 12 _ h
theorem t_164_38 {E : mO × tW} {K : tK} {d : mD} {x0 x1 : Int}
  (h : tCall E 4 [.inr (0, x0 + 64)] d (tbk E 164 42 [.inr (10, x0), .inl (0, x1)] [] 1 6 K)) :
  tRun E 164 (38, [.inr (10, x0), .inl (0, x1)], [], 1, 6, d) K := tT_run (cut := [0, 5, 38, 45]) 3 _ h
theorem t_164_45 {E : mO × tW} {K : tK} {d : mD} {x0 x1 : Int}
  (h : K (.inl none) d) :
  tRun E 164 (45, [.inr (10, x0), .inl (0, x1)], [], 1, 6, d) K := tT_run (cut := [0, 5, 38, 45]) 1 _ h
theorem t_165_0 {E : mO × tW} {K : tK} {d : mD} {x0 x1 : Int}
  (h : mInR x1 ∧ (x1 < 0 → K (.inr 1) d) ∧ (0 ≤ x1 → (mInR x1 ∧ mInR (d (x0 + 1 + 2) 0)) ∧ (x1 < d (x0 + 1 + 2) 0 → K (.inl none) d) ∧ (d (x0 + 1 + 2) 0 ≤ x1 → K (.inr 1) d))) :
  tRun E 165 (0, [.inr (10, x0), .inl (0, x1)], [], 0, 0, d) K := tT_run (cut := [0]) 9 _ h
theorem t_166_0 {E : mO × tW} {K : tK} {d : mD} {x0 x1 : Int}
  (h : mInR x1 ∧ (x1 < 0 → K (.inr 1) d) ∧ (0 ≤ x1 → (mInR x1 ∧ mInR (d (x0 + 1 + 10) 0)) ∧ (x1 < d (x0 + 1 + 10) 0 → K (.inl none) d) ∧ (d (x0 + 1 + 10) 0 ≤ x1 → K (.inr 1) d))) :
  tRun E 166 (0, [.inr (10, x0), .inl (0, x1)], [], 0, 0, d) K := tT_run (cut := [0]) 9 _ h
theorem t_167_0 {E : mO × tW} {K : tK} {d : mD} {x0 x1 : Int}
  (h : mInR x1 ∧ (x1 < 0 → K (.inr 1) d) ∧ (0 ≤ x1 → (mInR x1 ∧ mInR (d (x0 + 1 + 49) 0)) ∧ (x1 < d (x0 + 1 + 49) 0 → K (.inl none) d) ∧ (d (x0 + 1 + 49) 0 ≤ x1 → K (.inr 1) d))) :
  tRun E 167 (0, [.inr (10, x0), .inl (0, x1)], [], 0, 0, d) K := tT_run (cut := [0]) 9 _ h
theorem t_168_0 {E : mO × tW} {K : tK} {d : mD} {x0 x1 : Int}
  (h : mInR x1 ∧ (x1 < 0 → K (.inr 1) d) ∧ (0 ≤ x1 → (mInR x1 ∧ mInR 2) ∧ (x1 < 2 → K (.inl none) d) ∧ (2 ≤ x1 → K (.inr 1) d))) :
  tRun E 168 (0, [.inr (10, x0), .inl (0, x1)], [], 0, 0, d) K := tT_run (cut := [0]) 6 _ h
theorem t_169_0 {E : mO × tW} {K : tK} {d : mD} {x0 x1 : Int}
  (h : mInR x1 ∧ (x1 < 0 → K (.inr 2) d) ∧ (0 ≤ x1 → (mInR x1 ∧ mInR 5) ∧ (x1 < 5 → K (.inl none) d) ∧ (5 ≤ x1 → K (.inr 2) d))) :
  tRun E 169 (0, [.inr (10, x0), .inl (0, x1)], [], 0, 0, d) K := tT_run (cut := [0]) 6 _ h
theorem t_170_0 {E : mO × tW} {K : tK} {d : mD} {x0 x1 : Int}
  (h : mInR x1 ∧ (x1 < 0 → K (.inr 2) d) ∧ (0 ≤ x1 → (mInR x1 ∧ mInR 200) ∧ (x1 ≤ 200 → K (.inl none) d) ∧ (200 < x1 → K (.inr 2) d))) :
  tRun E 170 (0, [.inr (10, x0), .inl (0, x1)], [], 0, 0, d) K := tT_run (cut := [0]) 6 _ h
theorem t_171_0 {E : mO × tW} {K : tK} {d : mD} {x0 x1 : Int}
  (h : (mInR x1 ∧ mInR 1) ∧ (x1 < 1 → K (.inr 2) d) ∧ (1 ≤ x1 → (mInR x1 ∧ mInR 200) ∧ (x1 ≤ 200 → K (.inl none) d) ∧ (200 < x1 → K (.inr 2) d))) :
  tRun E 171 (0, [.inr (10, x0), .inl (0, x1)], [], 0, 0, d) K := tT_run (cut := [0]) 7 _ h
theorem t_172_0 {E : mO × tW} {K : tK} {d : mD} {x0 x1 x2 : Int}
  (h : tCall E 165 [.inr (10, x0), .inl (0, x1)] d (tbk E 172 2 [.inr (10, x0), .inl (0, x1), .inl (0, x2)] [] 1 6 K)) :
  tRun E 172 (0, [.inr (10, x0), .inl (0, x1), .inl (0, x2)], [], 0, 0, d) K := tT_run (cut := [0, 5, 10]) 3 _ h
theorem t_172_5 {E : mO × tW} {K : tK} {d : mD} {x0 x1 x2 : Int}
  (h : tCall E 165 [.inr (10, x0), .inl (0, x2)] d (tbk E 172 7 [.inr (10, x0), .inl (0, x1), .inl (0, x2)] [] 2 12 K)) :
  tRun E 172 (5, [.inr (10, x0), .inl (0, x1), .inl (0, x2)], [], 1, 6, d) K := tT_run (cut := [0, 5, 10]) 3 _ h
theorem t_172_10 {E : mO × tW} {K : tK} {d : mD} {x0 x1 x2 : Int}
  (h : (mInR x1 ∧ mInR x2) ∧ (x1 = x2 → K (.inr 0) d) ∧ (¬ x1 = x2 → (0 ≤ x1 ∧ x1 < 6) ∧ mInR (d (x0 + 1 + 2 + 5) x1) ∧ (d (x0 + 1 + 2 + 5) x1 = 0 → K (.inr 0) d) ∧ (¬ d (x0 + 1 + 2 + 5) x1 = 0 → (0 ≤ x2 ∧ x2 < 6) ∧ mInR (d (x0 + 1 + 2 + 5) x2) ∧ (¬ d (x0 + 1 + 2 + 5) x2 = 0 → K (.inl none) d) ∧ (d (x0 + 1 + 2 + 5) x2 = 0 → K (.inr 0) d)))) :
  tRun E 172 (10, [.inr (10, x0), .inl (0, x1), .inl (0, x2)], [], 2, 12, d) K := tT_run (cut := [0, 5, 10]) 18 _ h
theorem t_173_0 {E : mO × tW} {K : tK} {d : mD} {x0 x1 : Int}
  (h : (0 ≤ x1 ∧ x1 < 6) ∧ mInR (d (x0 + 1 + 2 + 5) x1) ∧ (¬ d (x0 + 1 + 2 + 5) x1 = 0 → (0 ≤ x1 ∧ x1 < 6) ∧ tCall E 43 [.inr (3, x0 + 1 + 2), .inl (0, x1), .inl (0, d (x0 + 1 + 2 + 6) x1), .inl (0, d (x0 + 1) 2)] d (tbk E 173 44 [.inr (10, x0), .inl (0, x1), tu] [] 0 0 K)) ∧ (d (x0 + 1 + 2 + 5) x1 = 0 → K (.inl (some (0, (-1)))) d)) :
  tRun E 173 (0, [.inr (10, x0), .inl (0, x1), tu], [], 0, 0, d) K := tT_run (cut := [0, 47]) 21 _ h
theorem t_173_47 {E : mO × tW} {K : tK} {d : mD} {x0 x1 y0 : Int}
  (h : (mInR y0 ∧ mInR 200) ∧ (y0 ≤ 200 → K (.inl (some (0, y0))) d) ∧ (200 < y0 → K (.inl (some (0, (-1)))) d)) :
  tRun E 173 (47, [.inr (10, x0), .inl (0, x1), tu], [.inl (0, y0)], 0, 0, d) K := tT_run (cut := [0, 47]) 7 _ h
theorem t_175_0 {E : mO × tW} {K : tK} {d : mD} {x0 : Int}
  (h : K (.inl (some (0, d x0 0))) d) :
  tRun E 175 (0, [.inr (11, x0)], [], 0, 0, d) K := tT_run (cut := [0]) 3 _ h
theorem t_176_0 {E : mO × tW} {K : tK} {d : mD} {x0 x2 x4 : Int}
  (h : (mInL x0 ∧ mInL x2) ∧ mInR (mcmp x0 x2) ∧ (mcmp x0 x2 < 0 → ((0 : Int) = 0 ∨ (0 : Int) = 1) ∧ K (.inl (some (0, 0))) d) ∧ (0 ≤ mcmp x0 x2 → (mInL x0 ∧ mInL x4) ∧ mInR (mcmp x0 x4) ∧ (0 < mcmp x0 x4 → ((0 : Int) = 0 ∨ (0 : Int) = 1) ∧ K (.inl (some (0, 0))) d) ∧ (mcmp x0 x4 ≤ 0 → ((1 : Int) = 0 ∨ (1 : Int) = 1) ∧ K (.inl (some (0, 1))) d))) :
  tRun E 176 (0, [.inl (1, x0), tu, .inl (1, x2), tu, .inl (1, x4), tu], [], 0, 0, d) K := tT_run (cut := [0]) 11 _ h
theorem t_177_0 {E : mO × tW} {K : tK} {d : mD} {x0 : Int}
  (h : K (.inl (some (0, 12 + (68 * x0)))) d) :
  tRun E 177 (0, [.inl (0, x0)], [], 0, 0, d) K := tT_run (cut := [0]) 6 _ h
theorem t_178_0 {E : mO × tW} {K : tK} {d : mD} {x0 : Int}
  (h : K (.inl (some (0, 420 + (2 * x0)))) d) :
  tRun E 178 (0, [.inl (0, x0)], [], 0, 0, d) K := tT_run (cut := [0]) 6 _ h
theorem t_179_0 {E : mO × tW} {K : tK} {d : mD} {x0 : Int}
  (h : K (.inl (some (0, 452 + (24 * x0)))) d) :
  tRun E 179 (0, [.inl (0, x0)], [], 0, 0, d) K := tT_run (cut := [0]) 6 _ h
theorem t_180_0 {E : mO × tW} {K : tK} {d : mD} {x0 : Int}
  (h : K (.inl (some (0, 1916 + (5 * x0)))) d) :
  tRun E 180 (0, [.inl (0, x0)], [], 0, 0, d) K := tT_run (cut := [0]) 6 _ h
theorem t_181_0 {E : mO × tW} {K : tK} {d : mD} {x0 x1 x2 x3 x4 : Int}
  (h : (0 ≤ (7 : Int) ∧ (7 : Int) < 3116) ∧ tCall E 177 [.inl (0, d (x0 + 1) 7)] d (tbk E 181 7 [.inr (11, x0), .inl (0, x1), .inl (0, x2), .inl (0, x3), .inl (0, x4), tu] [] 0 0 K)) :
  tRun E 181 (0, [.inr (11, x0), .inl (0, x1), .inl (0, x2), .inl (0, x3), .inl (0, x4), tu], [], 0, 0, d) K := tT_run (cut := [0, 10]) 5 _ h
theorem t_181_10 {E : mO × tW} {K : tK} {d : mD} {x0 x1 x2 x3 x4 y0 : Int}
  (h : (0 ≤ y0 + 0 ∧ y0 + 0 < 3116) ∧ (0 ≤ y0 + 1 ∧ y0 + 1 < 3116) ∧ (0 ≤ y0 + 2 ∧ y0 + 2 < 3116) ∧ (0 ≤ y0 + 3 ∧ y0 + 3 < 3116) ∧ (0 ≤ y0 + 4 ∧ y0 + 4 < 3116) ∧ (0 ≤ (7 : Int) ∧ (7 : Int) < 3116) ∧ (0 ≤ (7 : Int) ∧ (7 : Int) < 3116) ∧ K (.inl none) (mset (mset (mset (mset (mset (mset d (x0 + 1) (y0 + 0) x1) (x0 + 1) (y0 + 1) x2) (x0 + 1) (y0 + 2) x3) (x0 + 1) (y0 + 3) x4) (x0 + 1) (y0 + 4) 1) (x0 + 1) 7 (((mset (mset (mset (mset (mset d (x0 + 1) (y0 + 0) x1) (x0 + 1) (y0 + 1) x2) (x0 + 1) (y0 + 2) x3) (x0 + 1) (y0 + 3) x4) (x0 + 1) (y0 + 4) 1) (x0 + 1) 7) + 1))) :
  tRun E 181 (10, [.inr (11, x0), .inl (0, x1), .inl (0, x2), .inl (0, x3), .inl (0, x4), tu], [.inl (0, y0)], 0, 0, d) K := tT_run (cut := [0, 10]) 45 _ h
theorem t_182_0 {E : mO × tW} {K : tK} {d : mD} {x0 x1 : Int}
  (h : (0 ≤ (8 : Int) ∧ (8 : Int) < 3116) ∧ tCall E 178 [.inl (0, d (x0 + 1) 8)] d (tbk E 182 11 [.inr (11, x0), .inl (0, x1)] [.inr (25, x0 + 1)] 0 0 K)) :
  tRun E 182 (0, [.inr (11, x0), .inl (0, x1)], [], 0, 0, d) K := tT_run (cut := [0, 14, 32]) 7 _ h
theorem t_182_14 {E : mO × tW} {K : tK} {d : mD} {x0 x1 y0 y1 : Int}
  (h : (0 ≤ y1 + 0 ∧ y1 + 0 < 3116) ∧ (0 ≤ (8 : Int) ∧ (8 : Int) < 3116) ∧ tCall E 178 [.inl (0, (mset d y0 (y1 + 0) x1) (x0 + 1) 8)] (mset d y0 (y1 + 0) x1) (tbk E 182 29 [.inr (11, x0), .inl (0, x1)] [.inr (25, x0 + 1)] 0 0 K)) :
  tRun E 182 (14, [.inr (11, x0), .inl (0, x1)], [.inl (0, y1), .inr (25, y0)], 0, 0, d) K := tT_run (cut := [0, 14, 32]) 11 _ h
theorem t_182_32 {E : mO × tW} {K : tK} {d : mD} {x0 x1 y0 y1 : Int}
  (h : (0 ≤ y1 + 1 ∧ y1 + 1 < 3116) ∧ (0 ≤ (8 : Int) ∧ (8 : Int) < 3116) ∧ (0 ≤ (8 : Int) ∧ (8 : Int) < 3116) ∧ K (.inl none) (mset (mset d y0 (y1 + 1) 0) (x0 + 1) 8 (((mset d y0 (y1 + 1) 0) (x0 + 1) 8) + 1))) :
  tRun E 182 (32, [.inr (11, x0), .inl (0, x1)], [.inl (0, y1), .inr (25, y0)], 0, 0, d) K := tT_run (cut := [0, 14, 32]) 13 _ h
theorem t_183_0 {E : mO × tW} {K : tK} {d : mD} {x0 x1 : Int}
  (h : tRun E 183 (2, [.inr (11, x0), .inl (0, x1), .inl (0, 0)], [], 0, 0, d) K) :
  tRun E 183 (0, [.inr (11, x0), .inl (0, x1), tu], [], 0, 0, d) K := tT_run (cut := [0, 2, 21]) 2 _ h
theorem t_183_2 {E : mO × tW} {K : tK} {d : mD} {x0 x1 x2 : Int}
  (h : (0 ≤ (8 : Int) ∧ (8 : Int) < 3116) ∧ (mInR x2 ∧ mInR (d (x0 + 1) 8)) ∧ (d (x0 + 1) 8 ≤ x2 → K (.inl (some (0, (-1)))) d) ∧ (x2 < d (x0 + 1) 8 → tCall E 178 [.inl (0, x2)] d (tbk E 183 18 [.inr (11, x0), .inl (0, x1), .inl (0, x2)] [.inr (25, x0 + 1)] 0 0 K))) :
  tRun E 183 (2, [.inr (11, x0), .inl (0, x1), .inl (0, x2)], [], 0, 0, d) K := tT_run (cut := [0, 2, 21]) 10 _ h
theorem t_183_21 {E : mO × tW} {K : tK} {d : mD} {x0 x1 x2 y0 y1 : Int}
  (h : (0 ≤ y1 + 0 ∧ y1 + 0 < 3116) ∧ (mInR (d y0 (y1 + 0)) ∧ mInR x1) ∧ (¬ d y0 (y1 + 0) = x1 → tRun E 183 (2, [.inr (11, x0), .inl (0, x1), .inl (0, x2 + 1)], [], 0, 0, d) K) ∧ (d y0 (y1 + 0) = x1 → K (.inl (some (0, x2))) d)) :
  tRun E 183 (21, [.inr (11, x0), .inl (0, x1), .inl (0, x2)], [.inl (0, y1), .inr (25, y0)], 0, 0, d) K := tT_run (cut := [0, 2, 21]) 7 _ h
theorem t_184_0 {E : mO × tW} {K : tK} {d : mD} {x0 x1 : Int}
  (h : tRun E 184 (2, [.inr (11, x0), .inl (0, x1), .inl (0, 0)], [], 0, 0, d) K) :
  tRun E 184 (0, [.inr (11, x0), .inl (0, x1), tu], [], 0, 0, d) K := tT_run (cut := [0, 2, 21]) 2 _ h
theorem t_184_2 {E : mO × tW} {K : tK} {d : mD} {x0 x1 x2 : Int}
  (h : (0 ≤ (7 : Int) ∧ (7 : Int) < 3116) ∧ (mInR x2 ∧ mInR (d (x0 + 1) 7)) ∧ (d (x0 + 1) 7 ≤ x2 → K (.inl (some (0, (-1)))) d) ∧ (x2 < d (x0 + 1) 7 → tCall E 177 [.inl (0, x2)] d (tbk E 184 18 [.inr (11, x0), .inl (0, x1), .inl (0, x2)] [.inr (25, x0 + 1)] 0 0 K))) :
  tRun E 184 (2, [.inr (11, x0), .inl (0, x1), .inl (0, x2)], [], 0, 0, d) K := tT_run (cut := [0, 2, 21]) 10 _ h
theorem t_184_21 {E : mO × tW} {K : tK} {d : mD} {x0 x1 x2 y0 y1 : Int}
  (h : (0 ≤ y1 + 0 ∧ y1 + 0 < 3116) ∧ (mInR (d y0 (y1 + 0)) ∧ mInR x1) ∧ (¬ d y0 (y1 + 0) = x1 → tRun E 184 (2, [.inr (11, x0), .inl (0, x1), .inl (0, x2 + 1)], [], 0, 0, d) K) ∧ (d y0 (y1 + 0) = x1 → K (.inl (some (0, x2))) d)) :
  tRun E 184 (21, [.inr (11, x0), .inl (0, x1), .inl (0, x2)], [.inl (0, y1), .inr (25, y0)], 0, 0, d) K := tT_run (cut := [0, 2, 21]) 7 _ h
theorem t_185_0 {E : mO × tW} {K : tK} {d : mD} {x0 x1 : Int}
  (h : tRun E 185 (3, [.inr (11, x0), .inl (0, x1), .inl (0, 24)], [], 0, 0, d) K) :
  tRun E 185 (0, [.inr (11, x0), .inl (0, x1), tu], [], 0, 0, d) K := tT_run (cut := [0, 3]) 2 _ h
theorem t_185_3 {E : mO × tW} {K : tK} {d : mD} {x0 x1 x2 : Int}
  (h : mInR x2 ∧ (x2 < 0 → K (.inl none) d) ∧ (0 ≤ x2 → (0 ≤ d x0 9 ∧ d x0 9 < 1000) ∧ tRun E 185 (3, [.inr (11, x0), .inl (0, x1), .inl (0, x2 + (-8))], [], 0, 0, mset (mset d (x0 + 7) (d x0 9) (miand (mishr x1 x2) 255)) x0 9 (((mset d (x0 + 7) (d x0 9) (miand (mishr x1 x2) 255)) x0 9) + 1)) K)) :
  tRun E 185 (3, [.inr (11, x0), .inl (0, x1), .inl (0, x2)], [], 0, 0, d) K := tT_run (cut := [0, 3]) 20 _ h
theorem t_186_0 {E : mO × tW} {K : tK} {d : mD} {x0 x1 x2 x3 x4 x5 : Int}
  (h : (mInR ((d x0 9) + 20) ∧ mInR 1000) ∧ ((d x0 9) + 20 ≤ 1000 → mInR ((mset d x0 0 0) x0 0) ∧ ((mset d x0 0 0) x0 0 ≤ 0 → tCall E 185 [.inr (11, x0), .inl (0, x1)] (mset d x0 0 0) (tbk E 186 33 [.inr (11, x0), .inl (0, x1), .inl (0, x2), .inl (0, x3), .inl (0, x4), .inl (0, x5)] [] 0 0 K)) ∧ (0 < (mset d x0 0 0) x0 0 → K (.inl (some (0, 0))) (mset d x0 0 0))) ∧ (1000 < (d x0 9) + 20 → mInR ((mset d x0 0 1) x0 0) ∧ ((mset d x0 0 1) x0 0 ≤ 0 → tCall E 185 [.inr (11, x0), .inl (0, x1)] (mset d x0 0 1) (tbk E 186 33 [.inr (11, x0), .inl (0, x1), .inl (0, x2), .inl (0, x3), .inl (0, x4), .inl (0, x5)] [] 0 0 K)) ∧ (0 < (mset d x0 0 1) x0 0 → K (.inl (some (0, 0))) (mset d x0 0 1)))) :
  tRun E 186 (0, [.inr (11, x0), .inl (0, x1), .inl (0, x2), .inl (0, x3), .inl (0, x4), .inl (0, x5)], [], 0, 0, d) K := tT_run (cut := [0, 36, 41, 46, 52, 58]) 16 _ h
theorem t_186_36 {E : mO × tW} {K : tK} {d : mD} {x0 x1 x2 x3 x4 x5 : Int}
  (h : tCall E 185 [.inr (11, x0), .inl (0, x2)] d (tbk E 186 38 [.inr (11, x0), .inl (0, x1), .inl (0, x2), .inl (0, x3), .inl (0, x4), .inl (0, x5)] [] 0 0 K)) :
  tRun E 186 (36, [.inr (11, x0), .inl (0, x1), .inl (0, x2), .inl (0, x3), .inl (0, x4), .inl (0, x5)], [], 0, 0, d) K := tT_run (cut := [0, 36, 41, 46, 52, 58]) 3 _ h
theorem t_186_41 {E : mO × tW} {K : tK} {d : mD} {x0 x1 x2 x3 x4 x5 : Int}
  (h : tCall E 185 [.inr (11, x0), .inl (0, x3)] d (tbk E 186 43 [.inr (11, x0), .inl (0, x1), .inl (0, x2), .inl (0, x3), .inl (0, x4), .inl (0, x5)] [] 0 0 K)) :
  tRun E 186 (41, [.inr (11, x0), .inl (0, x1), .inl (0, x2), .inl (0, x3), .inl (0, x4), .inl (0, x5)], [], 0, 0, d) K := tT_run (cut := [0, 36, 41, 46, 52, 58]) 3 _ h
theorem t_186_46 {E : mO × tW} {K : tK} {d : mD} {x0 x1 x2 x3 x4 x5 : Int}
  (h : tCall E 185 [.inr (11, x0), .inl (0, x4)] d (tbk E 186 49 [.inr (11, x0), .inl (0, x1), .inl (0, x2), .inl (0, x3), .inl (0, x4), .inl (0, x5)] [] 0 0 K)) :
  tRun E 186 (46, [.inr (11, x0), .inl (0, x1), .inl (0, x2), .inl (0, x3), .inl (0, x4), .inl (0, x5)], [], 0, 0, d) K := tT_run (cut := [0, 36, 41, 46, 52, 58]) 3 _ h
theorem t_186_52 {E : mO × tW} {K : tK} {d : mD} {x0 x1 x2 x3 x4 x5 : Int}
  (h : tCall E 185 [.inr (11, x0), .inl (0, x5)] d (tbk E 186 55 [.inr (11, x0), .inl (0, x1), .inl (0, x2), .inl (0, x3), .inl (0, x4), .inl (0, x5)] [] 0 0 K)) :
  tRun E 186 (52, [.inr (11, x0), .inl (0, x1), .inl (0, x2), .inl (0, x3), .inl (0, x4), .inl (0, x5)], [], 0, 0, d) K := tT_run (cut := [0, 36, 41, 46, 52, 58]) 3 _ h
theorem t_186_58 {E : mO × tW} {K : tK} {d : mD} {x0 x1 x2 x3 x4 x5 : Int}
  (h : K (.inl (some (0, d x0 9))) d) :
  tRun E 186 (58, [.inr (11, x0), .inl (0, x1), .inl (0, x2), .inl (0, x3), .inl (0, x4), .inl (0, x5)], [], 0, 0, d) K := tT_run (cut := [0, 36, 41, 46, 52, 58]) 3 _ h
theorem t_187_0 {E : mO × tW} {K : tK} {d : mD} {x0 x1 : Int}
  (h : mInR x1 ∧ mInR (d x0 9) ∧ tCall E 176 [.inl (1, x1), .inl (1, 0), .inl (1, d x0 9)] d (tbk E 187 9 [.inr (11, x0), .inl (0, x1)] [.inr (11, x0)] 0 0 K)) :
  tRun E 187 (0, [.inr (11, x0), .inl (0, x1)], [], 0, 0, d) K := tT_run (cut := [0, 12]) 8 _ h
theorem t_187_12 {E : mO × tW} {K : tK} {d : mD} {x0 x1 y0 y1 : Int}
  (h : mInR y1 ∧ (y1 = 0 → mInR ((mset d y0 0 1) x0 0) ∧ ((mset d y0 0 1) x0 0 ≤ 0 → K (.inl (some (0, x1))) (mset (mset d y0 0 1) x0 9 x1)) ∧ (0 < (mset d y0 0 1) x0 0 → K (.inl (some (0, 0))) (mset d y0 0 1))) ∧ (¬ y1 = 0 → mInR ((mset d y0 0 0) x0 0) ∧ ((mset d y0 0 0) x0 0 ≤ 0 → K (.inl (some (0, x1))) (mset (mset d y0 0 0) x0 9 x1)) ∧ (0 < (mset d y0 0 0) x0 0 → K (.inl (some (0, 0))) (mset d y0 0 0)))) :
  tRun E 187 (12, [.inr (11, x0), .inl (0, x1)], [.inl (0, y1), .inr (11, y0)], 0, 0, d) K := tT_run (cut := [0, 12]) 12 _ h
theorem t_188_0 {E : mO × tW} {K : tK} {d : mD} {x0 x1 x2 : Int}
  (h : mInR (d x0 13) ∧ (¬ d x0 13 = 0 → K (.inl none) d) ∧ (d x0 13 = 0 → ((1 : Int) = 0 ∨ (1 : Int) = 1) ∧ K (.inl none) (mset (mset (mset d x0 13 1) x0 11 x1) x0 12 x2))) :
  tRun E 188 (0, [.inr (11, x0), .inl (0, x1), .inl (0, x2)], [], 0, 0, d) K := tT_run (cut := [0]) 13 _ h
theorem t_189_0 {E : mO × tW} {K : tK} {d : mD} {x0 : Int}
  (h : (mInR (d x0 10) ∧ mInR (d x0 9)) ∧ (d x0 9 ≤ d x0 10 → K (.inl none) d) ∧ (d x0 10 < d x0 9 → (0 ≤ d x0 10 ∧ d x0 10 < 1000) ∧ (mInR (d (x0 + 7) (d x0 10)) ∧ mInR 10) ∧ (d (x0 + 7) (d x0 10) = 10 → tRun E 189 (0, [.inr (11, x0)], [], 0, 0, mset d x0 10 ((d x0 10) + 1)) K) ∧ (¬ d (x0 + 7) (d x0 10) = 10 → (0 ≤ d x0 10 ∧ d x0 10 < 1000) ∧ (mInR (d (x0 + 7) (d x0 10)) ∧ mInR 32) ∧ (¬ d (x0 + 7) (d x0 10) = 32 → K (.inl none) d) ∧ (d (x0 + 7) (d x0 10) = 32 → tRun E 189 (0, [.inr (11, x0)], [], 0, 0, mset d x0 10 ((d x0 10) + 1)) K)))) :
  tRun E 189 (0, [.inr (11, x0)], [], 0, 0, d) K := tT_run (cut := [0]) 26 _ h
theorem t_190_0 {E : mO × tW} {K : tK} {d : mD} {x0 x1 : Int}
  (h : (mInR x1 ∧ mInR (d x0 9)) ∧ (d x0 9 ≤ x1 → ((0 : Int) = 0 ∨ (0 : Int) = 1) ∧ K (.inl (some (0, 0))) d) ∧ (x1 < d x0 9 → (0 ≤ x1 ∧ x1 < 1000) ∧ mInR (d (x0 + 7) x1) ∧ tCall E 176 [.inl (1, d (x0 + 7) x1), .inl (1, 97), .inl (1, 122)] d (tbk E 190 21 [.inr (11, x0), .inl (0, x1)] [] 0 0 K))) :
  tRun E 190 (0, [.inr (11, x0), .inl (0, x1)], [], 0, 0, d) K := tT_run (cut := [0, 24]) 12 _ h
theorem t_190_24 {E : mO × tW} {K : tK} {d : mD} {x0 x1 y0 : Int}
  (h : mInR y0 ∧ (y0 = 0 → ((0 : Int) = 0 ∨ (0 : Int) = 1) ∧ K (.inl (some (0, 0))) d) ∧ (¬ y0 = 0 → ((1 : Int) = 0 ∨ (1 : Int) = 1) ∧ K (.inl (some (0, 1))) d)) :
  tRun E 190 (24, [.inr (11, x0), .inl (0, x1)], [.inl (0, y0)], 0, 0, d) K := tT_run (cut := [0, 24]) 4 _ h
theorem t_191_0 {E : mO × tW} {K : tK} {d : mD} {x0 x1 : Int}
  (h : (mInR x1 ∧ mInR (d x0 9)) ∧ (d x0 9 ≤ x1 → ((0 : Int) = 0 ∨ (0 : Int) = 1) ∧ K (.inl (some (0, 0))) d) ∧ (x1 < d x0 9 → (0 ≤ x1 ∧ x1 < 1000) ∧ mInR (d (x0 + 7) x1) ∧ tCall E 176 [.inl (1, d (x0 + 7) x1), .inl (1, 48), .inl (1, 57)] d (tbk E 191 21 [.inr (11, x0), .inl (0, x1)] [] 0 0 K))) :
  tRun E 191 (0, [.inr (11, x0), .inl (0, x1)], [], 0, 0, d) K := tT_run (cut := [0, 24]) 12 _ h
theorem t_191_24 {E : mO × tW} {K : tK} {d : mD} {x0 x1 y0 : Int}
  (h : mInR y0 ∧ (y0 = 0 → ((0 : Int) = 0 ∨ (0 : Int) = 1) ∧ K (.inl (some (0, 0))) d) ∧ (¬ y0 = 0 → ((1 : Int) = 0 ∨ (1 : Int) = 1) ∧ K (.inl (some (0, 1))) d)) :
  tRun E 191 (24, [.inr (11, x0), .inl (0, x1)], [.inl (0, y0)], 0, 0, d) K := tT_run (cut := [0, 24]) 4 _ h
theorem t_192_0 {E : mO × tW} {K : tK} {d : mD} {x0 x1 : Int}
  (h : tCall E 189 [.inr (11, x0)] d (tbk E 192 1 [.inr (11, x0), .inl (0, x1)] [] 0 0 K)) :
  tRun E 192 (0, [.inr (11, x0), .inl (0, x1)], [], 0, 0, d) K := tT_run (cut := [0, 4]) 2 _ h
theorem t_192_4 {E : mO × tW} {K : tK} {d : mD} {x0 x1 : Int}
  (h : (mInR (d x0 10) ∧ mInR (d x0 9)) ∧ (d x0 9 ≤ d x0 10 → ((0 : Int) = 0 ∨ (0 : Int) = 1) ∧ K (.inl (some (0, 0))) d) ∧ (d x0 10 < d x0 9 → (0 ≤ d x0 10 ∧ d x0 10 < 1000) ∧ (mInR (d (x0 + 7) (d x0 10)) ∧ mInR x1) ∧ (¬ d (x0 + 7) (d x0 10) = x1 → ((0 : Int) = 0 ∨ (0 : Int) = 1) ∧ K (.inl (some (0, 0))) d) ∧ (d (x0 + 7) (d x0 10) = x1 → ((1 : Int) = 0 ∨ (1 : Int) = 1) ∧ K (.inl (some (0, 1))) d))) :
  tRun E 192 (4, [.inr (11, x0), .inl (0, x1)], [], 0, 0, d) K := tT_run (cut := [0, 4]) 15 _ h
theorem t_193_0 {E : mO × tW} {K : tK} {d : mD} {x0 x1 : Int}
  (h : tCall E 189 [.inr (11, x0)] d (tbk E 193 1 [.inr (11, x0), .inl (0, x1), tu, tu, tu] [] 0 0 K)) :
  tRun E 193 (0, [.inr (11, x0), .inl (0, x1), tu, tu, tu], [], 0, 0, d) K := tT_run (cut := [0, 4, 17, 25]) 2 _ h
theorem t_193_4 {E : mO × tW} {K : tK} {d : mD} {x0 x1 : Int}
  (h : tRun E 193 (17, [.inr (11, x0), .inl (0, x1), .inl (1, 0), tu, .inl (0, 0)], [], 0, 0, mset d x0 16 (d x0 10)) K) :
  tRun E 193 (4, [.inr (11, x0), .inl (0, x1), tu, tu, tu], [], 0, 0, d) K := tT_run (cut := [0, 4, 17, 25]) 8 _ h
theorem t_193_17 {E : mO × tW} {K : tK} {d : mD} {x0 x1 x2 x4 : Int}
  (h : tCall E 190 [.inr (11, x0), .inl (0, d x0 10)] d (tbk E 193 22 [.inr (11, x0), .inl (0, x1), .inl (1, x2), tu, .inl (0, x4)] [] 0 0 K)) :
  tRun E 193 (17, [.inr (11, x0), .inl (0, x1), .inl (1, x2), tu, .inl (0, x4)], [], 0, 0, d) K := tT_run (cut := [0, 4, 17, 25]) 4 _ h
theorem t_193_25 {E : mO × tW} {K : tK} {d : mD} {x0 x1 x2 x4 y0 : Int}
  (h : mInR y0 ∧ (y0 = 0 → K (.inl (some (1, x2))) d) ∧ (¬ y0 = 0 → (mInR x4 ∧ mInR x1) ∧ (x1 ≤ x4 → tRun E 193 (17, [.inr (11, x0), .inl (0, x1), .inl (1, (-1)), tu, .inl (0, x4 + 1)], [], 0, 0, mset d x0 10 ((d x0 10) + 1)) K) ∧ (x4 < x1 → (0 ≤ d x0 10 ∧ d x0 10 < 1000) ∧ mInR (d (x0 + 7) (d x0 10)) ∧ tRun E 193 (17, [.inr (11, x0), .inl (0, x1), .inl (1, (((27 * x2) + (d (x0 + 7) (d x0 10))) - 97) + 1), tu, .inl (0, x4 + 1)], [], 0, 0, mset d x0 10 ((d x0 10) + 1)) K))) :
  tRun E 193 (25, [.inr (11, x0), .inl (0, x1), .inl (1, x2), tu, .inl (0, x4)], [.inl (0, y0)], 0, 0, d) K := tT_run (cut := [0, 4, 17, 25]) 28 _ h
theorem t_194_0 {E : mO × tW} {K : tK} {d : mD} {x0 x1 : Int}
  (h : tCall E 189 [.inr (11, x0)] d (tbk E 194 1 [.inr (11, x0), .inl (1, x1), tu, tu, tu] [] 0 0 K)) :
  tRun E 194 (0, [.inr (11, x0), .inl (1, x1), tu, tu, tu], [], 0, 0, d) K := tT_run (cut := [0, 4, 22]) 2 _ h
theorem t_194_4 {E : mO × tW} {K : tK} {d : mD} {x0 x1 : Int}
  (h : mInR (d x0 13) ∧ (¬ d x0 13 = 0 → mInR 0 ∧ (¬ (0 : Int) = 0 → ((0 : Int) = 0 ∨ (0 : Int) = 1) ∧ K (.inl (some (0, 0))) d) ∧ ((0 : Int) = 0 → ((0 : Int) = 0 ∨ (0 : Int) = 1) ∧ K (.inl (some (0, 0))) (mset d x0 10 (d x0 10)))) ∧ (d x0 13 = 0 → tCall E 193 [.inr (11, x0), .inl (0, 8)] d (tbk E 194 19 [.inr (11, x0), .inl (1, x1), tu, .inl (0, d x0 10), tu] [] 0 0 K))) :
  tRun E 194 (4, [.inr (11, x0), .inl (1, x1), tu, tu, tu], [], 0, 0, d) K := tT_run (cut := [0, 4, 22]) 15 _ h
theorem t_194_22 {E : mO × tW} {K : tK} {d : mD} {x0 x1 x3 y0 : Int}
  (h : (mInL y0 ∧ mInL x1) ∧ mInR (mcmp y0 x1) ∧ (¬ mcmp y0 x1 = 0 → mInR 0 ∧ (¬ (0 : Int) = 0 → ((0 : Int) = 0 ∨ (0 : Int) = 1) ∧ K (.inl (some (0, 0))) d) ∧ ((0 : Int) = 0 → ((0 : Int) = 0 ∨ (0 : Int) = 1) ∧ K (.inl (some (0, 0))) (mset d x0 10 x3))) ∧ (mcmp y0 x1 = 0 → mInR 1 ∧ (¬ (1 : Int) = 0 → ((1 : Int) = 0 ∨ (1 : Int) = 1) ∧ K (.inl (some (0, 1))) d) ∧ ((1 : Int) = 0 → ((1 : Int) = 0 ∨ (1 : Int) = 1) ∧ K (.inl (some (0, 1))) (mset d x0 10 x3)))) :
  tRun E 194 (22, [.inr (11, x0), .inl (1, x1), tu, .inl (0, x3), tu], [.inl (1, y0)], 0, 0, d) K := tT_run (cut := [0, 4, 22]) 13 _ h
theorem t_195_0 {E : mO × tW} {K : tK} {d : mD} {x0 : Int}
  (h : mInR (d x0 13) ∧ (¬ d x0 13 = 0 → tRun E 195 (38, [.inr (11, x0)], [], 0, 0, d) K) ∧ (d x0 13 = 0 → tCall E 192 [.inr (11, x0), .inl (0, 59)] d (tbk E 195 10 [.inr (11, x0)] [] 0 0 K))) :
  tRun E 195 (0, [.inr (11, x0)], [], 0, 0, d) K := tT_run (cut := [0, 13, 38]) 6 _ h
theorem t_195_13 {E : mO × tW} {K : tK} {d : mD} {x0 y0 : Int}
  (h : mInR y0 ∧ (y0 = 0 → tCall E 188 [.inr (11, x0), .inl (0, 1), .inl (0, d x0 10)] d (tbk E 195 35 [.inr (11, x0)] [] 0 0 K)) ∧ (¬ y0 = 0 → tRun E 195 (38, [.inr (11, x0)], [], 0, 0, mset d x0 10 ((d x0 10) + 1)) K)) :
  tRun E 195 (13, [.inr (11, x0)], [.inl (0, y0)], 0, 0, d) K := tT_run (cut := [0, 13, 38]) 8 _ h
theorem t_195_38 {E : mO × tW} {K : tK} {d : mD} {x0 : Int}
  (h : K (.inl none) d) :
  tRun E 195 (38, [.inr (11, x0)], [], 0, 0, d) K := tT_run (cut := [0, 13, 38]) 1 _ h
theorem t_196_0 {E : mO × tW} {K : tK} {d : mD} {x0 x1 : Int}
  (h : mInR (d x0 13) ∧ (¬ d x0 13 = 0 → tRun E 196 (30, [.inr (11, x0), .inl (0, x1)], [], 0, 0, d) K) ∧ (d x0 13 = 0 → tCall E 192 [.inr (11, x0), .inl (0, 59)] d (tbk E 196 10 [.inr (11, x0), .inl (0, x1)] [] 0 0 K))) :
  tRun E 196 (0, [.inr (11, x0), .inl (0, x1)], [], 0, 0, d) K := tT_run (cut := [0, 13, 30, 34]) 6 _ h
theorem t_196_13 {E : mO × tW} {K : tK} {d : mD} {x0 x1 y0 : Int}
  (h : mInR y0 ∧ (y0 = 0 → tRun E 196 (30, [.inr (11, x0), .inl (0, x1)], [], 0, 0, d) K) ∧ (¬ y0 = 0 → mInR x1 ∧ (¬ x1 = 0 → tRun E 196 (30, [.inr (11, x0), .inl (0, x1)], [], 0, 0, d) K) ∧ (x1 = 0 → tCall E 188 [.inr (11, x0), .inl (0, 6), .inl (0, d x0 10)] d (tbk E 196 27 [.inr (11, x0), .inl (0, x1)] [] 0 0 K)))) :
  tRun E 196 (13, [.inr (11, x0), .inl (0, x1)], [.inl (0, y0)], 0, 0, d) K := tT_run (cut := [0, 13, 30, 34]) 8 _ h
theorem t_196_30 {E : mO × tW} {K : tK} {d : mD} {x0 x1 : Int}
  (h : tCall E 195 [.inr (11, x0)] d (tbk E 196 31 [.inr (11, x0), .inl (0, x1)] [] 0 0 K)) :
  tRun E 196 (30, [.inr (11, x0), .inl (0, x1)], [], 0, 0, d) K := tT_run (cut := [0, 13, 30, 34]) 2 _ h
theorem t_196_34 {E : mO × tW} {K : tK} {d : mD} {x0 x1 : Int}
  (h : mInR (d x0 13) ∧ (¬ d x0 13 = 0 → ((0 : Int) = 0 ∨ (0 : Int) = 1) ∧ K (.inl (some (0, 0))) d) ∧ (d x0 13 = 0 → ((1 : Int) = 0 ∨ (1 : Int) = 1) ∧ K (.inl (some (0, 1))) d)) :
  tRun E 196 (34, [.inr (11, x0), .inl (0, x1)], [], 0, 0, d) K := tT_run (cut := [0, 13, 30, 34]) 6 _ h
theorem t_197_0 {E : mO × tW} {K : tK} {d : mD} {x0 x1 x2 : Int}
  (h : mInR (d x0 13) ∧ (d x0 13 = 0 → tCall E 189 [.inr (11, x0)] d (tbk E 197 10 [.inr (11, x0), .inl (0, x1), .inl (0, x2), tu] [] 0 0 K)) ∧ (¬ d x0 13 = 0 → K (.inl (some (0, 0))) d)) :
  tRun E 197 (0, [.inr (11, x0), .inl (0, x1), .inl (0, x2), tu], [], 0, 0, d) K := tT_run (cut := [0, 13, 28, 36, 109, 124, 136]) 5 _ h
theorem t_197_13 {E : mO × tW} {K : tK} {d : mD} {x0 x1 x2 : Int}
  (h : tRun E 197 (28, [.inr (11, x0), .inl (0, x1), .inl (0, x2), .inl (0, 0)], [], 0, 0, mset (mset d x0 15 (d x0 10)) x0 14 0) K) :
  tRun E 197 (13, [.inr (11, x0), .inl (0, x1), .inl (0, x2), tu], [], 0, 0, d) K := tT_run (cut := [0, 13, 28, 36, 109, 124, 136]) 9 _ h
theorem t_197_28 {E : mO × tW} {K : tK} {d : mD} {x0 x1 x2 x3 : Int}
  (h : tCall E 191 [.inr (11, x0), .inl (0, d x0 10)] d (tbk E 197 33 [.inr (11, x0), .inl (0, x1), .inl (0, x2), .inl (0, x3)] [] 0 0 K)) :
  tRun E 197 (28, [.inr (11, x0), .inl (0, x1), .inl (0, x2), .inl (0, x3)], [], 0, 0, d) K := tT_run (cut := [0, 13, 28, 36, 109, 124, 136]) 4 _ h
theorem t_197_36 {E : mO × tW} {K : tK} {d : mD} {x0 x1 x2 x3 y0 : Int}
  (h : mInR y0 ∧ (y0 = 0 → mInR x3 ∧ (x3 = 0 → tCall E 188 [.inr (11, x0), .inl (0, 1), .inl (0, d x0 15)] d (tbk E 197 106 [.inr (11, x0), .inl (0, x1), .inl (0, x2), .inl (0, x3)] [] 0 0 K)) ∧ (¬ x3 = 0 → (mInR x3 ∧ mInR 5) ∧ (x3 ≤ 5 → mInR (d x0 14) ∧ mInR x1 ∧ mInR x2 ∧ tCall E 176 [.inl (1, d x0 14), .inl (1, x1), .inl (1, x2)] d (tbk E 197 121 [.inr (11, x0), .inl (0, x1), .inl (0, x2), .inl (0, x3)] [] 0 0 K)) ∧ (5 < x3 → tCall E 188 [.inr (11, x0), .inl (0, 1), .inl (0, d x0 15)] d (tbk E 197 106 [.inr (11, x0), .inl (0, x1), .inl (0, x2), .inl (0, x3)] [] 0 0 K)))) ∧ (¬ y0 = 0 → (mInR x3 ∧ mInR 5) ∧ (5 ≤ x3 → tRun E 197 (28, [.inr (11, x0), .inl (0, x1), .inl (0, x2), .inl (0, x3 + 1)], [], 0, 0, mset (mset d x0 14 (d x0 14)) x0 10 (((mset d x0 14 (d x0 14)) x0 10) + 1)) K) ∧ (x3 < 5 → (0 ≤ d x0 10 ∧ d x0 10 < 1000) ∧ tRun E 197 (28, [.inr (11, x0), .inl (0, x1), .inl (0, x2), .inl (0, x3 + 1)], [], 0, 0, mset (mset d x0 14 (((10 * (d x0 14)) + (d (x0 + 7) (d x0 10))) - 48)) x0 10 (((mset d x0 14 (((10 * (d x0 14)) + (d (x0 + 7) (d x0 10))) - 48)) x0 10) + 1)) K))) :
  tRun E 197 (36, [.inr (11, x0), .inl (0, x1), .inl (0, x2), .inl (0, x3)], [.inl (0, y0)], 0, 0, d) K := tT_run (cut := [0, 13, 28, 36, 109, 124, 136]) 27 _ h
theorem t_197_109 {E : mO × tW} {K : tK} {d : mD} {x0 x1 x2 x3 : Int}
  (h : tRun E 197 (136, [.inr (11, x0), .inl (0, x1), .inl (0, x2), .inl (0, x3)], [], 0, 0, d) K) :
  tRun E 197 (109, [.inr (11, x0), .inl (0, x1), .inl (0, x2), .inl (0, x3)], [], 0, 0, d) K := tT_run (cut := [0, 13, 28, 36, 109, 124, 136]) 1 _ h
theorem t_197_124 {E : mO × tW} {K : tK} {d : mD} {x0 x1 x2 x3 y0 : Int}
  (h : mInR y0 ∧ (¬ y0 = 0 → tRun E 197 (136, [.inr (11, x0), .inl (0, x1), .inl (0, x2), .inl (0, x3)], [], 0, 0, d) K) ∧ (y0 = 0 → tCall E 188 [.inr (11, x0), .inl (0, 2), .inl (0, d x0 15)] d (tbk E 197 133 [.inr (11, x0), .inl (0, x1), .inl (0, x2), .inl (0, x3)] [] 0 0 K))) :
  tRun E 197 (124, [.inr (11, x0), .inl (0, x1), .inl (0, x2), .inl (0, x3)], [.inl (0, y0)], 0, 0, d) K := tT_run (cut := [0, 13, 28, 36, 109, 124, 136]) 6 _ h
theorem t_197_136 {E : mO × tW} {K : tK} {d : mD} {x0 x1 x2 x3 : Int}
  (h : mInR (d x0 13) ∧ (d x0 13 = 0 → K (.inl (some (0, d x0 14))) d) ∧ (¬ d x0 13 = 0 → K (.inl (some (0, 0))) d)) :
  tRun E 197 (136, [.inr (11, x0), .inl (0, x1), .inl (0, x2), .inl (0, x3)], [], 0, 0, d) K := tT_run (cut := [0, 13, 28, 36, 109, 124, 136]) 6 _ h
theorem t_198_0 {E : mO × tW} {K : tK} {d : mD} {x0 : Int}
  (h : mInR (d x0 13) ∧ (d x0 13 = 0 → tCall E 193 [.inr (11, x0), .inl (0, 6)] d (tbk E 198 12 [.inr (11, x0), tu, tu] [] 0 0 K)) ∧ (¬ d x0 13 = 0 → K (.inl (some (0, 0))) d)) :
  tRun E 198 (0, [.inr (11, x0), tu, tu], [], 0, 0, d) K := tT_run (cut := [0, 15, 31]) 6 _ h
theorem t_198_15 {E : mO × tW} {K : tK} {d : mD} {x0 y0 : Int}
  (h : (mInL y0 ∧ mInL 0) ∧ mInR (mcmp y0 0) ∧ (0 < mcmp y0 0 → tRun E 198 (31, [.inr (11, x0), .inl (1, y0), tu], [], 0, 0, d) K) ∧ (mcmp y0 0 ≤ 0 → tCall E 188 [.inr (11, x0), .inl (0, 1), .inl (0, d x0 16)] d (tbk E 198 28 [.inr (11, x0), .inl (1, y0), tu] [] 0 0 K))) :
  tRun E 198 (15, [.inr (11, x0), tu, tu], [.inl (1, y0)], 0, 0, d) K := tT_run (cut := [0, 15, 31]) 10 _ h
theorem t_198_31 {E : mO × tW} {K : tK} {d : mD} {x0 x1 : Int}
  (h : mInR (d x0 13) ∧ (d x0 13 = 0 → K (.inl (some (0, x1))) d) ∧ (¬ d x0 13 = 0 → K (.inl (some (0, 0))) d)) :
  tRun E 198 (31, [.inr (11, x0), .inl (1, x1), tu], [], 0, 0, d) K := tT_run (cut := [0, 15, 31]) 6 _ h
theorem t_199_0 {E : mO × tW} {K : tK} {d : mD} {x0 x1 : Int}
  (h : tCall E 198 [.inr (11, x0)] d (tbk E 199 2 [.inr (11, x0), .inl (0, x1), tu] [.inr (11, x0)] 0 0 K)) :
  tRun E 199 (0, [.inr (11, x0), .inl (0, x1), tu], [], 0, 0, d) K := tT_run (cut := [0, 5, 8, 23, 36]) 3 _ h
theorem t_199_5 {E : mO × tW} {K : tK} {d : mD} {x0 x1 y0 y1 : Int}
  (h : tCall E 183 [.inr (11, y0), .inl (0, y1)] d (tbk E 199 5 [.inr (11, x0), .inl (0, x1), tu] [] 0 0 K)) :
  tRun E 199 (5, [.inr (11, x0), .inl (0, x1), tu], [.inl (0, y1), .inr (11, y0)], 0, 0, d) K := tT_run (cut := [0, 5, 8, 23, 36]) 1 _ h
theorem t_199_8 {E : mO × tW} {K : tK} {d : mD} {x0 x1 y0 : Int}
  (h : (mInR y0 ∧ mInR ((-1))) ∧ (y0 = (-1) → tCall E 188 [.inr (11, x0), .inl (0, 4), .inl (0, d x0 16)] d (tbk E 199 33 [.inr (11, x0), .inl (0, x1), .inl (0, y0)] [] 0 0 K)) ∧ (¬ y0 = (-1) → mInR x1 ∧ (x1 = 0 → tRun E 199 (36, [.inr (11, x0), .inl (0, x1), .inl (0, y0)], [], 0, 0, d) K) ∧ (¬ x1 = 0 → tCall E 201 [.inr (11, x0), .inl (0, y0)] d (tbk E 199 20 [.inr (11, x0), .inl (0, x1), .inl (0, y0)] [] 0 0 K)))) :
  tRun E 199 (8, [.inr (11, x0), .inl (0, x1), tu], [.inl (0, y0)], 0, 0, d) K := tT_run (cut := [0, 5, 8, 23, 36]) 9 _ h
theorem t_199_23 {E : mO × tW} {K : tK} {d : mD} {x0 x1 x2 y0 : Int}
  (h : (mInR y0 ∧ mInR ((-1))) ∧ (¬ y0 = (-1) → tRun E 199 (36, [.inr (11, x0), .inl (0, x1), .inl (0, x2)], [], 0, 0, d) K) ∧ (y0 = (-1) → tCall E 188 [.inr (11, x0), .inl (0, 4), .inl (0, d x0 16)] d (tbk E 199 33 [.inr (11, x0), .inl (0, x1), .inl (0, x2)] [] 0 0 K))) :
  tRun E 199 (23, [.inr (11, x0), .inl (0, x1), .inl (0, x2)], [.inl (0, y0)], 0, 0, d) K := tT_run (cut := [0, 5, 8, 23, 36]) 7 _ h
theorem t_199_36 {E : mO × tW} {K : tK} {d : mD} {x0 x1 x2 : Int}
  (h : mInR (d x0 13) ∧ (d x0 13 = 0 → K (.inl (some (0, x2))) d) ∧ (¬ d x0 13 = 0 → K (.inl (some (0, 0))) d)) :
  tRun E 199 (36, [.inr (11, x0), .inl (0, x1), .inl (0, x2)], [], 0, 0, d) K := tT_run (cut := [0, 5, 8, 23, 36]) 6 _ h
theorem t_200_0 {E : mO × tW} {K : tK} {d : mD} {x0 : Int}
  (h : tCall E 198 [.inr (11, x0)] d (tbk E 200 2 [.inr (11, x0), tu] [.inr (11, x0)] 0 0 K)) :
  tRun E 200 (0, [.inr (11, x0), tu], [], 0, 0, d) K := tT_run (cut := [0, 5, 8, 23]) 3 _ h
theorem t_200_5 {E : mO × tW} {K : tK} {d : mD} {x0 y0 y1 : Int}
  (h : tCall E 184 [.inr (11, y0), .inl (0, y1)] d (tbk E 200 5 [.inr (11, x0), tu] [] 0 0 K)) :
  tRun E 200 (5, [.inr (11, x0), tu], [.inl (0, y1), .inr (11, y0)], 0, 0, d) K := tT_run (cut := [0, 5, 8, 23]) 1 _ h
theorem t_200_8 {E : mO × tW} {K : tK} {d : mD} {x0 y0 : Int}
  (h : (mInR y0 ∧ mInR ((-1))) ∧ (¬ y0 = (-1) → tRun E 200 (23, [.inr (11, x0), .inl (0, y0)], [], 0, 0, d) K) ∧ (y0 = (-1) → tCall E 188 [.inr (11, x0), .inl (0, 4), .inl (0, d x0 16)] d (tbk E 200 20 [.inr (11, x0), .inl (0, y0)] [] 0 0 K))) :
  tRun E 200 (8, [.inr (11, x0), tu], [.inl (0, y0)], 0, 0, d) K := tT_run (cut := [0, 5, 8, 23]) 9 _ h
theorem t_200_23 {E : mO × tW} {K : tK} {d : mD} {x0 x1 : Int}
  (h : mInR (d x0 13) ∧ (d x0 13 = 0 → K (.inl (some (0, x1))) d) ∧ (¬ d x0 13 = 0 → K (.inl (some (0, 0))) d)) :
  tRun E 200 (23, [.inr (11, x0), .inl (0, x1)], [], 0, 0, d) K := tT_run (cut := [0, 5, 8, 23]) 6 _ h
theorem t_201_0 {E : mO × tW} {K : tK} {d : mD} {x0 x1 : Int}
  (h : (0 ≤ (9 : Int) ∧ (9 : Int) < 3116) ∧ tRun E 201 (10, [.inr (11, x0), .inl (0, x1), .inl (0, (d (x0 + 1) 9) - 1)], [], 0, 0, d) K) :
  tRun E 201 (0, [.inr (11, x0), .inl (0, x1), tu], [], 0, 0, d) K := tT_run (cut := [0, 10, 22]) 7 _ h
theorem t_201_10 {E : mO × tW} {K : tK} {d : mD} {x0 x1 x2 : Int}
  (h : mInR x2 ∧ (x2 < 0 → K (.inl (some (0, (-1)))) d) ∧ (0 ≤ x2 → tCall E 179 [.inl (0, x2)] d (tbk E 201 19 [.inr (11, x0), .inl (0, x1), .inl (0, x2)] [.inr (25, x0 + 1)] 0 0 K))) :
  tRun E 201 (10, [.inr (11, x0), .inl (0, x1), .inl (0, x2)], [], 0, 0, d) K := tT_run (cut := [0, 10, 22]) 6 _ h
theorem t_201_22 {E : mO × tW} {K : tK} {d : mD} {x0 x1 x2 y0 y1 : Int}
  (h : (0 ≤ y1 + 0 ∧ y1 + 0 < 3116) ∧ (mInR (d y0 (y1 + 0)) ∧ mInR x1) ∧ (¬ d y0 (y1 + 0) = x1 → tRun E 201 (10, [.inr (11, x0), .inl (0, x1), .inl (0, x2 + (-1))], [], 0, 0, d) K) ∧ (d y0 (y1 + 0) = x1 → K (.inl (some (0, x2))) d)) :
  tRun E 201 (22, [.inr (11, x0), .inl (0, x1), .inl (0, x2)], [.inl (0, y1), .inr (25, y0)], 0, 0, d) K := tT_run (cut := [0, 10, 22]) 7 _ h
theorem t_202_0 {E : mO × tW} {K : tK} {d : mD} {x0 : Int}
  (h : tCall E 198 [.inr (11, x0)] d (tbk E 202 1 [.inr (11, x0), tu, tu, tu, tu] [] 0 0 K)) :
  tRun E 202 (0, [.inr (11, x0), tu, tu, tu, tu], [], 0, 0, d) K := tT_run (cut := [0, 4, 17, 30, 36, 44, 52, 58, 74]) 2 _ h
theorem t_202_4 {E : mO × tW} {K : tK} {d : mD} {x0 y0 : Int}
  (h : mInR (d x0 13) ∧ (¬ d x0 13 = 0 → tRun E 202 (30, [.inr (11, x0), .inl (0, y0), tu, tu, tu], [], 0, 0, d) K) ∧ (d x0 13 = 0 → tCall E 184 [.inr (11, x0), .inl (0, y0)] d (tbk E 202 14 [.inr (11, x0), .inl (0, y0), tu, tu, tu] [] 0 0 K))) :
  tRun E 202 (4, [.inr (11, x0), tu, tu, tu, tu], [.inl (0, y0)], 0, 0, d) K := tT_run (cut := [0, 4, 17, 30, 36, 44, 52, 58, 74]) 7 _ h
theorem t_202_17 {E : mO × tW} {K : tK} {d : mD} {x0 x1 y0 : Int}
  (h : (mInR y0 ∧ mInR ((-1))) ∧ (y0 = (-1) → tRun E 202 (30, [.inr (11, x0), .inl (0, x1), tu, tu, tu], [], 0, 0, d) K) ∧ (¬ y0 = (-1) → tCall E 188 [.inr (11, x0), .inl (0, 3), .inl (0, d x0 16)] d (tbk E 202 27 [.inr (11, x0), .inl (0, x1), tu, tu, tu] [] 0 0 K))) :
  tRun E 202 (17, [.inr (11, x0), .inl (0, x1), tu, tu, tu], [.inl (0, y0)], 0, 0, d) K := tT_run (cut := [0, 4, 17, 30, 36, 44, 52, 58, 74]) 7 _ h
theorem t_202_30 {E : mO × tW} {K : tK} {d : mD} {x0 x1 : Int}
  (h : tCall E 197 [.inr (11, x0), .inl (0, 1), .inl (0, 4)] d (tbk E 202 33 [.inr (11, x0), .inl (0, x1), tu, tu, tu] [] 0 0 K)) :
  tRun E 202 (30, [.inr (11, x0), .inl (0, x1), tu, tu, tu], [], 0, 0, d) K := tT_run (cut := [0, 4, 17, 30, 36, 44, 52, 58, 74]) 4 _ h
theorem t_202_36 {E : mO × tW} {K : tK} {d : mD} {x0 x1 y0 : Int}
  (h : tCall E 197 [.inr (11, x0), .inl (0, 1), .inl (0, 6)] d (tbk E 202 41 [.inr (11, x0), .inl (0, x1), .inl (0, y0), tu, tu] [] 0 0 K)) :
  tRun E 202 (36, [.inr (11, x0), .inl (0, x1), tu, tu, tu], [.inl (0, y0)], 0, 0, d) K := tT_run (cut := [0, 4, 17, 30, 36, 44, 52, 58, 74]) 5 _ h
theorem t_202_44 {E : mO × tW} {K : tK} {d : mD} {x0 x1 x2 y0 : Int}
  (h : tCall E 197 [.inr (11, x0), .inl (0, 1), .inl (0, 20)] d (tbk E 202 49 [.inr (11, x0), .inl (0, x1), .inl (0, x2), .inl (0, y0), tu] [] 0 0 K)) :
  tRun E 202 (44, [.inr (11, x0), .inl (0, x1), .inl (0, x2), tu, tu], [.inl (0, y0)], 0, 0, d) K := tT_run (cut := [0, 4, 17, 30, 36, 44, 52, 58, 74]) 5 _ h
theorem t_202_52 {E : mO × tW} {K : tK} {d : mD} {x0 x1 x2 x3 y0 : Int}
  (h : tCall E 195 [.inr (11, x0)] d (tbk E 202 55 [.inr (11, x0), .inl (0, x1), .inl (0, x2), .inl (0, x3), .inl (0, y0)] [] 0 0 K)) :
  tRun E 202 (52, [.inr (11, x0), .inl (0, x1), .inl (0, x2), .inl (0, x3), tu], [.inl (0, y0)], 0, 0, d) K := tT_run (cut := [0, 4, 17, 30, 36, 44, 52, 58, 74]) 3 _ h
theorem t_202_58 {E : mO × tW} {K : tK} {d : mD} {x0 x1 x2 x3 x4 : Int}
  (h : mInR (d x0 13) ∧ (¬ d x0 13 = 0 → tRun E 202 (74, [.inr (11, x0), .inl (0, x1), .inl (0, x2), .inl (0, x3), .inl (0, x4)], [], 0, 0, d) K) ∧ (d x0 13 = 0 → tCall E 181 [.inr (11, x0), .inl (0, x1), .inl (0, x2), .inl (0, x3), .inl (0, x4)] d (tbk E 202 71 [.inr (11, x0), .inl (0, x1), .inl (0, x2), .inl (0, x3), .inl (0, x4)] [] 0 0 K))) :
  tRun E 202 (58, [.inr (11, x0), .inl (0, x1), .inl (0, x2), .inl (0, x3), .inl (0, x4)], [], 0, 0, d) K := tT_run (cut := [0, 4, 17, 30, 36, 44, 52, 58, 74]) 9 _ h
theorem t_202_74 {E : mO × tW} {K : tK} {d : mD} {x0 x1 x2 x3 x4 : Int}
  (h : K (.inl none) d) :
  tRun E 202 (74, [.inr (11, x0), .inl (0, x1), .inl (0, x2), .inl (0, x3), .inl (0, x4)], [], 0, 0, d) K := tT_run (cut := [0, 4, 17, 30, 36, 44, 52, 58, 74]) 1 _ h
theorem t_203_0 {E : mO × tW} {K : tK} {d : mD} {x0 : Int}
  (h : tCall E 198 [.inr (11, x0)] d (tbk E 203 1 [.inr (11, x0), tu] [] 0 0 K)) :
  tRun E 203 (0, [.inr (11, x0), tu], [], 0, 0, d) K := tT_run (cut := [0, 4, 17, 30, 34, 46]) 2 _ h
theorem t_203_4 {E : mO × tW} {K : tK} {d : mD} {x0 y0 : Int}
  (h : mInR (d x0 13) ∧ (¬ d x0 13 = 0 → tRun E 203 (30, [.inr (11, x0), .inl (0, y0)], [], 0, 0, d) K) ∧ (d x0 13 = 0 → tCall E 183 [.inr (11, x0), .inl (0, y0)] d (tbk E 203 14 [.inr (11, x0), .inl (0, y0)] [] 0 0 K))) :
  tRun E 203 (4, [.inr (11, x0), tu], [.inl (0, y0)], 0, 0, d) K := tT_run (cut := [0, 4, 17, 30, 34, 46]) 7 _ h
theorem t_203_17 {E : mO × tW} {K : tK} {d : mD} {x0 x1 y0 : Int}
  (h : (mInR y0 ∧ mInR ((-1))) ∧ (y0 = (-1) → tRun E 203 (30, [.inr (11, x0), .inl (0, x1)], [], 0, 0, d) K) ∧ (¬ y0 = (-1) → tCall E 188 [.inr (11, x0), .inl (0, 3), .inl (0, d x0 16)] d (tbk E 203 27 [.inr (11, x0), .inl (0, x1)] [] 0 0 K))) :
  tRun E 203 (17, [.inr (11, x0), .inl (0, x1)], [.inl (0, y0)], 0, 0, d) K := tT_run (cut := [0, 4, 17, 30, 34, 46]) 7 _ h
theorem t_203_30 {E : mO × tW} {K : tK} {d : mD} {x0 x1 : Int}
  (h : tCall E 195 [.inr (11, x0)] d (tbk E 203 31 [.inr (11, x0), .inl (0, x1)] [] 0 0 K)) :
  tRun E 203 (30, [.inr (11, x0), .inl (0, x1)], [], 0, 0, d) K := tT_run (cut := [0, 4, 17, 30, 34, 46]) 2 _ h
theorem t_203_34 {E : mO × tW} {K : tK} {d : mD} {x0 x1 : Int}
  (h : mInR (d x0 13) ∧ (¬ d x0 13 = 0 → tRun E 203 (46, [.inr (11, x0), .inl (0, x1)], [], 0, 0, d) K) ∧ (d x0 13 = 0 → tCall E 182 [.inr (11, x0), .inl (0, x1)] d (tbk E 203 43 [.inr (11, x0), .inl (0, x1)] [] 0 0 K))) :
  tRun E 203 (34, [.inr (11, x0), .inl (0, x1)], [], 0, 0, d) K := tT_run (cut := [0, 4, 17, 30, 34, 46]) 6 _ h
theorem t_203_46 {E : mO × tW} {K : tK} {d : mD} {x0 x1 : Int}
  (h : K (.inl none) d) :
  tRun E 203 (46, [.inr (11, x0), .inl (0, x1)], [], 0, 0, d) K := tT_run (cut := [0, 4, 17, 30, 34, 46]) 1 _ h
