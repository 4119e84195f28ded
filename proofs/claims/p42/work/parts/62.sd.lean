/-! ===== pieces of the methods between cuts: printed by a program of mine ===== -/
theorem t_204_0 {E : mO × tW} {K : tK} {d : mD} {x0 x1 : Int}
  (h : mInR (d x0 13) ∧ (¬ d x0 13 = 0 → tRun E 204 (13, [.inr (11, x0), .inl (0, x1), .inl (0, 0), tu], [], 0, 0, d) K) ∧ (d x0 13 = 0 → tRun E 204 (13, [.inr (11, x0), .inl (0, x1), .inl (0, 1), tu], [], 0, 0, d) K)) :
  tRun E 204 (0, [.inr (11, x0), .inl (0, x1), tu, tu], [], 0, 0, d) K := tT_run (cut := [0, 13, 21, 43, 79, 85, 88, 100, 111, 134]) 6 _ h
theorem t_204_13 {E : mO × tW} {K : tK} {d : mD} {x0 x1 x2 : Int} {v3 : tV}
  (h : mInR x2 ∧ (x2 = 0 → K (.inl none) d) ∧ (¬ x2 = 0 → tCall E 189 [.inr (11, x0)] d (tbk E 204 18 [.inr (11, x0), .inl (0, x1), .inl (0, x2), v3] [] 0 0 K))) :
  tRun E 204 (13, [.inr (11, x0), .inl (0, x1), .inl (0, x2), v3], [], 0, 0, d) K := tT_run (cut := [0, 13, 21, 43, 79, 85, 88, 100, 111, 134]) 4 _ h
theorem t_204_21 {E : mO × tW} {K : tK} {d : mD} {x0 x1 x2 : Int} {v3 : tV}
  (h : mInR x1 ∧ (x1 = 0 → tCall E 194 [.inr (11, x0), .inl (1, 232608281)] d (tbk E 204 40 [.inr (11, x0), .inl (0, x1), .inl (0, x2), .inl (0, d x0 10)] [] 0 0 K)) ∧ (¬ x1 = 0 → tCall E 194 [.inr (11, x0), .inl (1, 218546996)] d (tbk E 204 40 [.inr (11, x0), .inl (0, x1), .inl (0, x2), .inl (0, d x0 10)] [] 0 0 K))) :
  tRun E 204 (21, [.inr (11, x0), .inl (0, x1), .inl (0, x2), v3], [], 0, 0, d) K := tT_run (cut := [0, 13, 21, 43, 79, 85, 88, 100, 111, 134]) 9 _ h
theorem t_204_43 {E : mO × tW} {K : tK} {d : mD} {x0 x1 x2 x3 y0 : Int}
  (h : mInR y0 ∧ (y0 = 0 → tRun E 204 (88, [.inr (11, x0), .inl (0, x1), .inl (0, y0), .inl (0, x3)], [], 0, 0, d) K) ∧ (¬ y0 = 0 → mInR x1 ∧ (x1 = 0 → (0 ≤ (8 : Int) ∧ (8 : Int) < 3116) ∧ (mInR (d (x0 + 1) 8) ∧ mInR 16) ∧ (¬ d (x0 + 1) 8 = 16 → tRun E 204 (88, [.inr (11, x0), .inl (0, x1), .inl (0, y0), .inl (0, x3)], [], 0, 0, d) K) ∧ (d (x0 + 1) 8 = 16 → tRun E 204 (79, [.inr (11, x0), .inl (0, x1), .inl (0, y0), .inl (0, x3)], [], 0, 0, d) K)) ∧ (¬ x1 = 0 → (0 ≤ (7 : Int) ∧ (7 : Int) < 3116) ∧ (mInR (d (x0 + 1) 7) ∧ mInR 6) ∧ (¬ d (x0 + 1) 7 = 6 → tRun E 204 (88, [.inr (11, x0), .inl (0, x1), .inl (0, y0), .inl (0, x3)], [], 0, 0, d) K) ∧ (d (x0 + 1) 7 = 6 → tRun E 204 (79, [.inr (11, x0), .inl (0, x1), .inl (0, y0), .inl (0, x3)], [], 0, 0, d) K)))) :
  tRun E 204 (43, [.inr (11, x0), .inl (0, x1), .inl (0, x2), .inl (0, x3)], [.inl (0, y0)], 0, 0, d) K := tT_run (cut := [0, 13, 21, 43, 79, 85, 88, 100, 111, 134]) 12 _ h
theorem t_204_79 {E : mO × tW} {K : tK} {d : mD} {x0 x1 x2 x3 : Int}
  (h : tCall E 188 [.inr (11, x0), .inl (0, 5), .inl (0, x3)] d (tbk E 204 82 [.inr (11, x0), .inl (0, x1), .inl (0, x2), .inl (0, x3)] [] 0 0 K)) :
  tRun E 204 (79, [.inr (11, x0), .inl (0, x1), .inl (0, x2), .inl (0, x3)], [], 0, 0, d) K := tT_run (cut := [0, 13, 21, 43, 79, 85, 88, 100, 111, 134]) 4 _ h
theorem t_204_85 {E : mO × tW} {K : tK} {d : mD} {x0 x1 x2 x3 : Int}
  (h : tRun E 204 (134, [.inr (11, x0), .inl (0, x1), .inl (0, x2), .inl (0, x3)], [], 0, 0, d) K) :
  tRun E 204 (85, [.inr (11, x0), .inl (0, x1), .inl (0, x2), .inl (0, x3)], [], 0, 0, d) K := tT_run (cut := [0, 13, 21, 43, 79, 85, 88, 100, 111, 134]) 1 _ h
theorem t_204_88 {E : mO × tW} {K : tK} {d : mD} {x0 x1 x2 x3 : Int}
  (h : mInR x2 ∧ (x2 = 0 → mInR x2 ∧ (x2 = 0 → mInR x1 ∧ (x1 = 0 → tRun E 204 (134, [.inr (11, x0), .inl (0, x1), .inl (0, x2), .inl (0, x3)], [], 0, 0, d) K) ∧ (¬ x1 = 0 → (0 ≤ (7 : Int) ∧ (7 : Int) < 3116) ∧ mInR (d (x0 + 1) 7) ∧ (¬ d (x0 + 1) 7 = 0 → tRun E 204 (134, [.inr (11, x0), .inl (0, x1), .inl (0, x2), .inl (0, x3)], [], 0, 0, d) K) ∧ (d (x0 + 1) 7 = 0 → tCall E 188 [.inr (11, x0), .inl (0, 1), .inl (0, x3)] d (tbk E 204 131 [.inr (11, x0), .inl (0, x1), .inl (0, x2), .inl (0, x3)] [] 0 0 K)))) ∧ (¬ x2 = 0 → tCall E 203 [.inr (11, x0)] d (tbk E 204 108 [.inr (11, x0), .inl (0, x1), .inl (0, x2), .inl (0, x3)] [] 0 0 K))) ∧ (¬ x2 = 0 → mInR x1 ∧ (x1 = 0 → mInR x2 ∧ (x2 = 0 → mInR x1 ∧ (x1 = 0 → tRun E 204 (134, [.inr (11, x0), .inl (0, x1), .inl (0, x2), .inl (0, x3)], [], 0, 0, d) K) ∧ (¬ x1 = 0 → (0 ≤ (7 : Int) ∧ (7 : Int) < 3116) ∧ mInR (d (x0 + 1) 7) ∧ (¬ d (x0 + 1) 7 = 0 → tRun E 204 (134, [.inr (11, x0), .inl (0, x1), .inl (0, x2), .inl (0, x3)], [], 0, 0, d) K) ∧ (d (x0 + 1) 7 = 0 → tCall E 188 [.inr (11, x0), .inl (0, 1), .inl (0, x3)] d (tbk E 204 131 [.inr (11, x0), .inl (0, x1), .inl (0, x2), .inl (0, x3)] [] 0 0 K)))) ∧ (¬ x2 = 0 → tCall E 203 [.inr (11, x0)] d (tbk E 204 108 [.inr (11, x0), .inl (0, x1), .inl (0, x2), .inl (0, x3)] [] 0 0 K))) ∧ (¬ x1 = 0 → tCall E 202 [.inr (11, x0)] d (tbk E 204 97 [.inr (11, x0), .inl (0, x1), .inl (0, x2), .inl (0, x3)] [] 0 0 K)))) :
  tRun E 204 (88, [.inr (11, x0), .inl (0, x1), .inl (0, x2), .inl (0, x3)], [], 0, 0, d) K := tT_run (cut := [0, 13, 21, 43, 79, 85, 88, 100, 111, 134]) 17 _ h
theorem t_204_100 {E : mO × tW} {K : tK} {d : mD} {x0 x1 x2 x3 : Int}
  (h : tRun E 204 (134, [.inr (11, x0), .inl (0, x1), .inl (0, x2), .inl (0, x3)], [], 0, 0, d) K) :
  tRun E 204 (100, [.inr (11, x0), .inl (0, x1), .inl (0, x2), .inl (0, x3)], [], 0, 0, d) K := tT_run (cut := [0, 13, 21, 43, 79, 85, 88, 100, 111, 134]) 1 _ h
theorem t_204_111 {E : mO × tW} {K : tK} {d : mD} {x0 x1 x2 x3 : Int}
  (h : tRun E 204 (134, [.inr (11, x0), .inl (0, x1), .inl (0, x2), .inl (0, x3)], [], 0, 0, d) K) :
  tRun E 204 (111, [.inr (11, x0), .inl (0, x1), .inl (0, x2), .inl (0, x3)], [], 0, 0, d) K := tT_run (cut := [0, 13, 21, 43, 79, 85, 88, 100, 111, 134]) 1 _ h
theorem t_204_134 {E : mO × tW} {K : tK} {d : mD} {x0 x1 x2 x3 : Int}
  (h : mInR (d x0 13) ∧ (¬ d x0 13 = 0 → tRun E 204 (13, [.inr (11, x0), .inl (0, x1), .inl (0, miand x2 0), .inl (0, x3)], [], 0, 0, d) K) ∧ (d x0 13 = 0 → tRun E 204 (13, [.inr (11, x0), .inl (0, x1), .inl (0, miand x2 1), .inl (0, x3)], [], 0, 0, d) K)) :
  tRun E 204 (134, [.inr (11, x0), .inl (0, x1), .inl (0, x2), .inl (0, x3)], [], 0, 0, d) K := tT_run (cut := [0, 13, 21, 43, 79, 85, 88, 100, 111, 134]) 9 _ h
theorem t_205_0 {E : mO × tW} {K : tK} {d : mD} {x0 : Int}
  (h : mInR (d x0 13) ∧ (¬ d x0 13 = 0 → tRun E 205 (13, [.inr (11, x0), .inl (0, 0), tu, tu, tu], [], 0, 0, d) K) ∧ (d x0 13 = 0 → tRun E 205 (13, [.inr (11, x0), .inl (0, 1), tu, tu, tu], [], 0, 0, d) K)) :
  tRun E 205 (0, [.inr (11, x0), tu, tu, tu, tu], [], 0, 0, d) K := tT_run (cut := [0, 13, 24, 32, 37, 52, 63, 72, 84, 94, 118, 123, 132, 148, 157, 160, 174, 185, 193, 204, 212, 219, 222, 237, 248, 257]) 6 _ h
theorem t_205_13 {E : mO × tW} {K : tK} {d : mD} {x0 x1 : Int} {v2 v3 v4 : tV}
  (h : mInR x1 ∧ (x1 = 0 → K (.inl none) d) ∧ (¬ x1 = 0 → tCall E 194 [.inr (11, x0), .inl (1, 208022)] d (tbk E 205 21 [.inr (11, x0), .inl (0, x1), v2, v3, v4] [] 0 0 K))) :
  tRun E 205 (13, [.inr (11, x0), .inl (0, x1), v2, v3, v4], [], 0, 0, d) K := tT_run (cut := [0, 13, 24, 32, 37, 52, 63, 72, 84, 94, 118, 123, 132, 148, 157, 160, 174, 185, 193, 204, 212, 219, 222, 237, 248, 257]) 5 _ h
theorem t_205_24 {E : mO × tW} {K : tK} {d : mD} {x0 x1 y0 : Int} {v2 v3 v4 : tV}
  (h : mInR y0 ∧ (y0 = 0 → tCall E 194 [.inr (11, x0), .inl (1, 316189)] d (tbk E 205 81 [.inr (11, x0), .inl (0, x1), v2, v3, v4] [] 0 0 K)) ∧ (¬ y0 = 0 → tCall E 199 [.inr (11, x0), .inl (0, 0)] d (tbk E 205 29 [.inr (11, x0), .inl (0, x1), v2, v3, v4] [] 0 0 K))) :
  tRun E 205 (24, [.inr (11, x0), .inl (0, x1), v2, v3, v4], [.inl (0, y0)], 0, 0, d) K := tT_run (cut := [0, 13, 24, 32, 37, 52, 63, 72, 84, 94, 118, 123, 132, 148, 157, 160, 174, 185, 193, 204, 212, 219, 222, 237, 248, 257]) 4 _ h
theorem t_205_32 {E : mO × tW} {K : tK} {d : mD} {x0 x1 y0 : Int} {v2 v3 v4 : tV}
  (h : tCall E 200 [.inr (11, x0)] d (tbk E 205 34 [.inr (11, x0), .inl (0, x1), .inl (0, y0), v3, v4] [] 0 0 K)) :
  tRun E 205 (32, [.inr (11, x0), .inl (0, x1), v2, v3, v4], [.inl (0, y0)], 0, 0, d) K := tT_run (cut := [0, 13, 24, 32, 37, 52, 63, 72, 84, 94, 118, 123, 132, 148, 157, 160, 174, 185, 193, 204, 212, 219, 222, 237, 248, 257]) 3 _ h
theorem t_205_37 {E : mO × tW} {K : tK} {d : mD} {x0 x1 x2 y0 : Int} {v3 v4 : tV}
  (h : mInR (d x0 13) ∧ (¬ d x0 13 = 0 → tCall E 196 [.inr (11, x0), .inl (0, 0)] d (tbk E 205 60 [.inr (11, x0), .inl (0, x1), .inl (0, x2), .inl (0, y0), v4] [] 0 0 K)) ∧ (d x0 13 = 0 → tCall E 225 [.inr (11, x0), .inl (0, x2), .inl (0, y0)] d (tbk E 205 49 [.inr (11, x0), .inl (0, x1), .inl (0, x2), .inl (0, y0), v4] [.inr (11, x0)] 0 0 K))) :
  tRun E 205 (37, [.inr (11, x0), .inl (0, x1), .inl (0, x2), v3, v4], [.inl (0, y0)], 0, 0, d) K := tT_run (cut := [0, 13, 24, 32, 37, 52, 63, 72, 84, 94, 118, 123, 132, 148, 157, 160, 174, 185, 193, 204, 212, 219, 222, 237, 248, 257]) 9 _ h
theorem t_205_52 {E : mO × tW} {K : tK} {d : mD} {x0 x1 x2 x3 y0 y1 : Int} {v4 : tV}
  (h : mInR y1 ∧ (y1 = 0 → tCall E 196 [.inr (11, y0), .inl (0, 0)] d (tbk E 205 60 [.inr (11, x0), .inl (0, x1), .inl (0, x2), .inl (0, x3), v4] [] 0 0 K)) ∧ (¬ y1 = 0 → tCall E 196 [.inr (11, y0), .inl (0, 1)] d (tbk E 205 60 [.inr (11, x0), .inl (0, x1), .inl (0, x2), .inl (0, x3), v4] [] 0 0 K))) :
  tRun E 205 (52, [.inr (11, x0), .inl (0, x1), .inl (0, x2), .inl (0, x3), v4], [.inl (0, y1), .inr (11, y0)], 0, 0, d) K := tT_run (cut := [0, 13, 24, 32, 37, 52, 63, 72, 84, 94, 118, 123, 132, 148, 157, 160, 174, 185, 193, 204, 212, 219, 222, 237, 248, 257]) 4 _ h
theorem t_205_63 {E : mO × tW} {K : tK} {d : mD} {x0 x1 x2 x3 y0 : Int} {v4 : tV}
  (h : mInR y0 ∧ (y0 = 0 → mInR (d x0 13) ∧ (¬ d x0 13 = 0 → tRun E 205 (13, [.inr (11, x0), .inl (0, miand x1 0), .inl (0, x2), .inl (0, x3), v4], [], 0, 0, d) K) ∧ (d x0 13 = 0 → tRun E 205 (13, [.inr (11, x0), .inl (0, miand x1 1), .inl (0, x2), .inl (0, x3), v4], [], 0, 0, d) K)) ∧ (¬ y0 = 0 → tCall E 226 [.inr (11, x0), .inl (0, x2), .inl (0, x3)] d (tbk E 205 69 [.inr (11, x0), .inl (0, x1), .inl (0, x2), .inl (0, x3), v4] [] 0 0 K))) :
  tRun E 205 (63, [.inr (11, x0), .inl (0, x1), .inl (0, x2), .inl (0, x3), v4], [.inl (0, y0)], 0, 0, d) K := tT_run (cut := [0, 13, 24, 32, 37, 52, 63, 72, 84, 94, 118, 123, 132, 148, 157, 160, 174, 185, 193, 204, 212, 219, 222, 237, 248, 257]) 11 _ h
theorem t_205_72 {E : mO × tW} {K : tK} {d : mD} {x0 x1 x2 x3 y0 : Int} {v4 : tV}
  (h : mInR (d x0 13) ∧ (¬ d x0 13 = 0 → tRun E 205 (13, [.inr (11, x0), .inl (0, miand x1 0), .inl (0, x2), .inl (0, x3), .inl (0, y0)], [], 0, 0, d) K) ∧ (d x0 13 = 0 → tRun E 205 (13, [.inr (11, x0), .inl (0, miand x1 1), .inl (0, x2), .inl (0, x3), .inl (0, y0)], [], 0, 0, d) K)) :
  tRun E 205 (72, [.inr (11, x0), .inl (0, x1), .inl (0, x2), .inl (0, x3), v4], [.inl (0, y0)], 0, 0, d) K := tT_run (cut := [0, 13, 24, 32, 37, 52, 63, 72, 84, 94, 118, 123, 132, 148, 157, 160, 174, 185, 193, 204, 212, 219, 222, 237, 248, 257]) 11 _ h
theorem t_205_84 {E : mO × tW} {K : tK} {d : mD} {x0 x1 y0 : Int} {v2 v3 v4 : tV}
  (h : mInR y0 ∧ (y0 = 0 → tCall E 194 [.inr (11, x0), .inl (1, 1831504)] d (tbk E 205 145 [.inr (11, x0), .inl (0, x1), v2, v3, v4] [] 0 0 K)) ∧ (¬ y0 = 0 → tCall E 197 [.inr (11, x0), .inl (0, 1), .inl (0, 99)] d (tbk E 205 91 [.inr (11, x0), .inl (0, x1), v2, v3, v4] [] 0 0 K))) :
  tRun E 205 (84, [.inr (11, x0), .inl (0, x1), v2, v3, v4], [.inl (0, y0)], 0, 0, d) K := tT_run (cut := [0, 13, 24, 32, 37, 52, 63, 72, 84, 94, 118, 123, 132, 148, 157, 160, 174, 185, 193, 204, 212, 219, 222, 237, 248, 257]) 5 _ h
theorem t_205_94 {E : mO × tW} {K : tK} {d : mD} {x0 x1 y0 : Int} {v2 v3 v4 : tV}
  (h : (0 ≤ (0 : Int) ∧ (0 : Int) < 3116) ∧ (mInR ((d (x0 + 1) 0) + y0) ∧ mInR 999) ∧ (999 < (d (x0 + 1) 0) + y0 → tCall E 196 [.inr (11, x0), .inl (0, 0)] d (tbk E 205 115 [.inr (11, x0), .inl (0, x1), .inl (0, y0), v3, v4] [] 0 0 K)) ∧ ((d (x0 + 1) 0) + y0 ≤ 999 → tCall E 196 [.inr (11, x0), .inl (0, 1)] d (tbk E 205 115 [.inr (11, x0), .inl (0, x1), .inl (0, y0), v3, v4] [] 0 0 K))) :
  tRun E 205 (94, [.inr (11, x0), .inl (0, x1), v2, v3, v4], [.inl (0, y0)], 0, 0, d) K := tT_run (cut := [0, 13, 24, 32, 37, 52, 63, 72, 84, 94, 118, 123, 132, 148, 157, 160, 174, 185, 193, 204, 212, 219, 222, 237, 248, 257]) 13 _ h
theorem t_205_118 {E : mO × tW} {K : tK} {d : mD} {x0 x1 x2 y0 : Int} {v3 v4 : tV}
  (h : mInR y0 ∧ (y0 = 0 → mInR (d x0 13) ∧ (¬ d x0 13 = 0 → tRun E 205 (13, [.inr (11, x0), .inl (0, miand x1 0), .inl (0, x2), v3, v4], [], 0, 0, d) K) ∧ (d x0 13 = 0 → tRun E 205 (13, [.inr (11, x0), .inl (0, miand x1 1), .inl (0, x2), v3, v4], [], 0, 0, d) K)) ∧ (¬ y0 = 0 → tRun E 205 (123, [.inr (11, x0), .inl (0, x1), .inl (0, x2), .inl (0, 0), v4], [], 0, 0, d) K)) :
  tRun E 205 (118, [.inr (11, x0), .inl (0, x1), .inl (0, x2), v3, v4], [.inl (0, y0)], 0, 0, d) K := tT_run (cut := [0, 13, 24, 32, 37, 52, 63, 72, 84, 94, 118, 123, 132, 148, 157, 160, 174, 185, 193, 204, 212, 219, 222, 237, 248, 257]) 11 _ h
theorem t_205_123 {E : mO × tW} {K : tK} {d : mD} {x0 x1 x2 x3 : Int} {v4 : tV}
  (h : (mInR x3 ∧ mInR x2) ∧ (x2 ≤ x3 → mInR (d x0 13) ∧ (¬ d x0 13 = 0 → tRun E 205 (13, [.inr (11, x0), .inl (0, miand x1 0), .inl (0, x2), .inl (0, x3), v4], [], 0, 0, d) K) ∧ (d x0 13 = 0 → tRun E 205 (13, [.inr (11, x0), .inl (0, miand x1 1), .inl (0, x2), .inl (0, x3), v4], [], 0, 0, d) K)) ∧ (x3 < x2 → tCall E 223 [.inr (11, x0)] d (tbk E 205 129 [.inr (11, x0), .inl (0, x1), .inl (0, x2), .inl (0, x3), v4] [] 0 0 K))) :
  tRun E 205 (123, [.inr (11, x0), .inl (0, x1), .inl (0, x2), .inl (0, x3), v4], [], 0, 0, d) K := tT_run (cut := [0, 13, 24, 32, 37, 52, 63, 72, 84, 94, 118, 123, 132, 148, 157, 160, 174, 185, 193, 204, 212, 219, 222, 237, 248, 257]) 13 _ h
theorem t_205_132 {E : mO × tW} {K : tK} {d : mD} {x0 x1 x2 x3 : Int} {v4 : tV}
  (h : tRun E 205 (123, [.inr (11, x0), .inl (0, x1), .inl (0, x2), .inl (0, x3 + 1), v4], [], 0, 0, d) K) :
  tRun E 205 (132, [.inr (11, x0), .inl (0, x1), .inl (0, x2), .inl (0, x3), v4], [], 0, 0, d) K := tT_run (cut := [0, 13, 24, 32, 37, 52, 63, 72, 84, 94, 118, 123, 132, 148, 157, 160, 174, 185, 193, 204, 212, 219, 222, 237, 248, 257]) 2 _ h
theorem t_205_148 {E : mO × tW} {K : tK} {d : mD} {x0 x1 y0 : Int} {v2 v3 v4 : tV}
  (h : mInR y0 ∧ (y0 = 0 → tCall E 194 [.inr (11, x0), .inl (1, 9050719969)] d (tbk E 205 201 [.inr (11, x0), .inl (0, x1), v2, v3, v4] [] 0 0 K)) ∧ (¬ y0 = 0 → tCall E 199 [.inr (11, x0), .inl (0, 1)] d (tbk E 205 154 [.inr (11, x0), .inl (0, x1), v2, v3, v4] [.inr (11, x0)] 0 0 K))) :
  tRun E 205 (148, [.inr (11, x0), .inl (0, x1), v2, v3, v4], [.inl (0, y0)], 0, 0, d) K := tT_run (cut := [0, 13, 24, 32, 37, 52, 63, 72, 84, 94, 118, 123, 132, 148, 157, 160, 174, 185, 193, 204, 212, 219, 222, 237, 248, 257]) 5 _ h
theorem t_205_157 {E : mO × tW} {K : tK} {d : mD} {x0 x1 y0 y1 : Int} {v2 v3 v4 : tV}
  (h : tCall E 201 [.inr (11, y0), .inl (0, y1)] d (tbk E 205 157 [.inr (11, x0), .inl (0, x1), v2, v3, v4] [] 0 0 K)) :
  tRun E 205 (157, [.inr (11, x0), .inl (0, x1), v2, v3, v4], [.inl (0, y1), .inr (11, y0)], 0, 0, d) K := tT_run (cut := [0, 13, 24, 32, 37, 52, 63, 72, 84, 94, 118, 123, 132, 148, 157, 160, 174, 185, 193, 204, 212, 219, 222, 237, 248, 257]) 1 _ h
theorem t_205_160 {E : mO × tW} {K : tK} {d : mD} {x0 x1 y0 : Int} {v2 v3 v4 : tV}
  (h : mInR (d x0 13) ∧ (¬ d x0 13 = 0 → tCall E 196 [.inr (11, x0), .inl (0, 0)] d (tbk E 205 182 [.inr (11, x0), .inl (0, x1), .inl (0, y0), v3, v4] [] 0 0 K)) ∧ (d x0 13 = 0 → tCall E 227 [.inr (11, x0), .inl (0, y0)] d (tbk E 205 171 [.inr (11, x0), .inl (0, x1), .inl (0, y0), v3, v4] [.inr (11, x0)] 0 0 K))) :
  tRun E 205 (160, [.inr (11, x0), .inl (0, x1), v2, v3, v4], [.inl (0, y0)], 0, 0, d) K := tT_run (cut := [0, 13, 24, 32, 37, 52, 63, 72, 84, 94, 118, 123, 132, 148, 157, 160, 174, 185, 193, 204, 212, 219, 222, 237, 248, 257]) 8 _ h
theorem t_205_174 {E : mO × tW} {K : tK} {d : mD} {x0 x1 x2 y0 y1 : Int} {v3 v4 : tV}
  (h : mInR y1 ∧ (y1 = 0 → tCall E 196 [.inr (11, y0), .inl (0, 0)] d (tbk E 205 182 [.inr (11, x0), .inl (0, x1), .inl (0, x2), v3, v4] [] 0 0 K)) ∧ (¬ y1 = 0 → tCall E 196 [.inr (11, y0), .inl (0, 1)] d (tbk E 205 182 [.inr (11, x0), .inl (0, x1), .inl (0, x2), v3, v4] [] 0 0 K))) :
  tRun E 205 (174, [.inr (11, x0), .inl (0, x1), .inl (0, x2), v3, v4], [.inl (0, y1), .inr (11, y0)], 0, 0, d) K := tT_run (cut := [0, 13, 24, 32, 37, 52, 63, 72, 84, 94, 118, 123, 132, 148, 157, 160, 174, 185, 193, 204, 212, 219, 222, 237, 248, 257]) 4 _ h
theorem t_205_185 {E : mO × tW} {K : tK} {d : mD} {x0 x1 x2 y0 : Int} {v3 v4 : tV}
  (h : mInR y0 ∧ (y0 = 0 → mInR (d x0 13) ∧ (¬ d x0 13 = 0 → tRun E 205 (13, [.inr (11, x0), .inl (0, miand x1 0), .inl (0, x2), v3, v4], [], 0, 0, d) K) ∧ (d x0 13 = 0 → tRun E 205 (13, [.inr (11, x0), .inl (0, miand x1 1), .inl (0, x2), v3, v4], [], 0, 0, d) K)) ∧ (¬ y0 = 0 → tCall E 228 [.inr (11, x0), .inl (0, x2)] d (tbk E 205 190 [.inr (11, x0), .inl (0, x1), .inl (0, x2), v3, v4] [] 0 0 K))) :
  tRun E 205 (185, [.inr (11, x0), .inl (0, x1), .inl (0, x2), v3, v4], [.inl (0, y0)], 0, 0, d) K := tT_run (cut := [0, 13, 24, 32, 37, 52, 63, 72, 84, 94, 118, 123, 132, 148, 157, 160, 174, 185, 193, 204, 212, 219, 222, 237, 248, 257]) 11 _ h
theorem t_205_193 {E : mO × tW} {K : tK} {d : mD} {x0 x1 x2 y0 : Int} {v3 v4 : tV}
  (h : mInR (d x0 13) ∧ (¬ d x0 13 = 0 → tRun E 205 (13, [.inr (11, x0), .inl (0, miand x1 0), .inl (0, x2), .inl (0, y0), v4], [], 0, 0, d) K) ∧ (d x0 13 = 0 → tRun E 205 (13, [.inr (11, x0), .inl (0, miand x1 1), .inl (0, x2), .inl (0, y0), v4], [], 0, 0, d) K)) :
  tRun E 205 (193, [.inr (11, x0), .inl (0, x1), .inl (0, x2), v3, v4], [.inl (0, y0)], 0, 0, d) K := tT_run (cut := [0, 13, 24, 32, 37, 52, 63, 72, 84, 94, 118, 123, 132, 148, 157, 160, 174, 185, 193, 204, 212, 219, 222, 237, 248, 257]) 11 _ h
theorem t_205_204 {E : mO × tW} {K : tK} {d : mD} {x0 x1 y0 : Int} {v2 v3 v4 : tV}
  (h : mInR y0 ∧ (y0 = 0 → mInR (d x0 13) ∧ (¬ d x0 13 = 0 → tRun E 205 (13, [.inr (11, x0), .inl (0, miand 0 0), v2, v3, v4], [], 0, 0, d) K) ∧ (d x0 13 = 0 → tRun E 205 (13, [.inr (11, x0), .inl (0, miand 0 1), v2, v3, v4], [], 0, 0, d) K)) ∧ (¬ y0 = 0 → tCall E 199 [.inr (11, x0), .inl (0, 0)] d (tbk E 205 209 [.inr (11, x0), .inl (0, x1), v2, v3, v4] [] 0 0 K))) :
  tRun E 205 (204, [.inr (11, x0), .inl (0, x1), v2, v3, v4], [.inl (0, y0)], 0, 0, d) K := tT_run (cut := [0, 13, 24, 32, 37, 52, 63, 72, 84, 94, 118, 123, 132, 148, 157, 160, 174, 185, 193, 204, 212, 219, 222, 237, 248, 257]) 12 _ h
theorem t_205_212 {E : mO × tW} {K : tK} {d : mD} {x0 x1 y0 : Int} {v2 v3 v4 : tV}
  (h : tCall E 199 [.inr (11, x0), .inl (0, 1)] d (tbk E 205 216 [.inr (11, x0), .inl (0, x1), .inl (0, y0), v3, v4] [.inr (11, x0)] 0 0 K)) :
  tRun E 205 (212, [.inr (11, x0), .inl (0, x1), v2, v3, v4], [.inl (0, y0)], 0, 0, d) K := tT_run (cut := [0, 13, 24, 32, 37, 52, 63, 72, 84, 94, 118, 123, 132, 148, 157, 160, 174, 185, 193, 204, 212, 219, 222, 237, 248, 257]) 5 _ h
theorem t_205_219 {E : mO × tW} {K : tK} {d : mD} {x0 x1 x2 y0 y1 : Int} {v3 v4 : tV}
  (h : tCall E 201 [.inr (11, y0), .inl (0, y1)] d (tbk E 205 219 [.inr (11, x0), .inl (0, x1), .inl (0, x2), v3, v4] [] 0 0 K)) :
  tRun E 205 (219, [.inr (11, x0), .inl (0, x1), .inl (0, x2), v3, v4], [.inl (0, y1), .inr (11, y0)], 0, 0, d) K := tT_run (cut := [0, 13, 24, 32, 37, 52, 63, 72, 84, 94, 118, 123, 132, 148, 157, 160, 174, 185, 193, 204, 212, 219, 222, 237, 248, 257]) 1 _ h
theorem t_205_222 {E : mO × tW} {K : tK} {d : mD} {x0 x1 x2 y0 : Int} {v3 v4 : tV}
  (h : mInR (d x0 13) ∧ (¬ d x0 13 = 0 → tCall E 196 [.inr (11, x0), .inl (0, 0)] d (tbk E 205 245 [.inr (11, x0), .inl (0, x1), .inl (0, x2), .inl (0, y0), v4] [] 0 0 K)) ∧ (d x0 13 = 0 → tCall E 234 [.inr (11, x0), .inl (0, y0), .inl (0, x2)] d (tbk E 205 234 [.inr (11, x0), .inl (0, x1), .inl (0, x2), .inl (0, y0), v4] [.inr (11, x0)] 0 0 K))) :
  tRun E 205 (222, [.inr (11, x0), .inl (0, x1), .inl (0, x2), v3, v4], [.inl (0, y0)], 0, 0, d) K := tT_run (cut := [0, 13, 24, 32, 37, 52, 63, 72, 84, 94, 118, 123, 132, 148, 157, 160, 174, 185, 193, 204, 212, 219, 222, 237, 248, 257]) 9 _ h
theorem t_205_237 {E : mO × tW} {K : tK} {d : mD} {x0 x1 x2 x3 y0 y1 : Int} {v4 : tV}
  (h : mInR y1 ∧ (¬ y1 = 0 → tCall E 196 [.inr (11, y0), .inl (0, 0)] d (tbk E 205 245 [.inr (11, x0), .inl (0, x1), .inl (0, x2), .inl (0, x3), v4] [] 0 0 K)) ∧ (y1 = 0 → tCall E 196 [.inr (11, y0), .inl (0, 1)] d (tbk E 205 245 [.inr (11, x0), .inl (0, x1), .inl (0, x2), .inl (0, x3), v4] [] 0 0 K))) :
  tRun E 205 (237, [.inr (11, x0), .inl (0, x1), .inl (0, x2), .inl (0, x3), v4], [.inl (0, y1), .inr (11, y0)], 0, 0, d) K := tT_run (cut := [0, 13, 24, 32, 37, 52, 63, 72, 84, 94, 118, 123, 132, 148, 157, 160, 174, 185, 193, 204, 212, 219, 222, 237, 248, 257]) 4 _ h
theorem t_205_248 {E : mO × tW} {K : tK} {d : mD} {x0 x1 x2 x3 y0 : Int} {v4 : tV}
  (h : mInR y0 ∧ (y0 = 0 → mInR (d x0 13) ∧ (¬ d x0 13 = 0 → tRun E 205 (13, [.inr (11, x0), .inl (0, miand x1 0), .inl (0, x2), .inl (0, x3), v4], [], 0, 0, d) K) ∧ (d x0 13 = 0 → tRun E 205 (13, [.inr (11, x0), .inl (0, miand x1 1), .inl (0, x2), .inl (0, x3), v4], [], 0, 0, d) K)) ∧ (¬ y0 = 0 → tCall E 235 [.inr (11, x0), .inl (0, x3), .inl (0, x2)] d (tbk E 205 254 [.inr (11, x0), .inl (0, x1), .inl (0, x2), .inl (0, x3), v4] [] 0 0 K))) :
  tRun E 205 (248, [.inr (11, x0), .inl (0, x1), .inl (0, x2), .inl (0, x3), v4], [.inl (0, y0)], 0, 0, d) K := tT_run (cut := [0, 13, 24, 32, 37, 52, 63, 72, 84, 94, 118, 123, 132, 148, 157, 160, 174, 185, 193, 204, 212, 219, 222, 237, 248, 257]) 11 _ h
theorem t_205_257 {E : mO × tW} {K : tK} {d : mD} {x0 x1 x2 x3 y0 : Int} {v4 : tV}
  (h : mInR (d x0 13) ∧ (¬ d x0 13 = 0 → tRun E 205 (13, [.inr (11, x0), .inl (0, miand x1 0), .inl (0, x2), .inl (0, x3), .inl (0, y0)], [], 0, 0, d) K) ∧ (d x0 13 = 0 → tRun E 205 (13, [.inr (11, x0), .inl (0, miand x1 1), .inl (0, x2), .inl (0, x3), .inl (0, y0)], [], 0, 0, d) K)) :
  tRun E 205 (257, [.inr (11, x0), .inl (0, x1), .inl (0, x2), .inl (0, x3), v4], [.inl (0, y0)], 0, 0, d) K := tT_run (cut := [0, 13, 24, 32, 37, 52, 63, 72, 84, 94, 118, 123, 132, 148, 157, 160, 174, 185, 193, 204, 212, 219, 222, 237, 248, 257]) 11 _ h
theorem t_206_0 {E : mO × tW} {K : tK} {d : mD} {x0 : Int}
  (h : ((0 : Int) = 0 ∨ (0 : Int) = 1) ∧ tRun E 206 (12, [.inr (11, x0), .inl (0, 0)], [], 0, 0, mset (mset d x0 10 0) x0 13 0) K) :
  tRun E 206 (0, [.inr (11, x0), tu], [], 0, 0, d) K := tT_run (cut := [0, 12, 39, 51, 53, 70, 74, 77, 96, 101, 106, 111, 115, 126, 146]) 8 _ h
theorem t_206_12 {E : mO × tW} {K : tK} {d : mD} {x0 x1 : Int}
  (h : (mInR x1 ∧ mInR 3116) ∧ (3116 ≤ x1 → tCall E 194 [.inr (11, x0), .inl (1, 40216062)] d (tbk E 206 36 [.inr (11, x0), .inl (0, x1)] [] 0 0 K)) ∧ (x1 < 3116 → (0 ≤ x1 ∧ x1 < 3116) ∧ tRun E 206 (12, [.inr (11, x0), .inl (0, x1 + 1)], [], 0, 0, mset d (x0 + 1) x1 0) K)) :
  tRun E 206 (12, [.inr (11, x0), .inl (0, x1)], [], 0, 0, d) K := tT_run (cut := [0, 12, 39, 51, 53, 70, 74, 77, 96, 101, 106, 111, 115, 126, 146]) 10 _ h
theorem t_206_39 {E : mO × tW} {K : tK} {d : mD} {x0 x1 y0 : Int}
  (h : mInR y0 ∧ (¬ y0 = 0 → tRun E 206 (51, [.inr (11, x0), .inl (0, x1)], [], 0, 0, d) K) ∧ (y0 = 0 → tCall E 188 [.inr (11, x0), .inl (0, 1), .inl (0, d x0 10)] d (tbk E 206 48 [.inr (11, x0), .inl (0, x1)] [] 0 0 K))) :
  tRun E 206 (39, [.inr (11, x0), .inl (0, x1)], [.inl (0, y0)], 0, 0, d) K := tT_run (cut := [0, 12, 39, 51, 53, 70, 74, 77, 96, 101, 106, 111, 115, 126, 146]) 6 _ h
theorem t_206_51 {E : mO × tW} {K : tK} {d : mD} {x0 x1 : Int}
  (h : tRun E 206 (53, [.inr (11, x0), .inl (0, 0)], [], 0, 0, d) K) :
  tRun E 206 (51, [.inr (11, x0), .inl (0, x1)], [], 0, 0, d) K := tT_run (cut := [0, 12, 39, 51, 53, 70, 74, 77, 96, 101, 106, 111, 115, 126, 146]) 2 _ h
theorem t_206_53 {E : mO × tW} {K : tK} {d : mD} {x0 x1 : Int}
  (h : (mInR x1 ∧ mInR 5) ∧ (5 ≤ x1 → tCall E 197 [.inr (11, x0), .inl (0, 0), .inl (0, 99999)] d (tbk E 206 93 [.inr (11, x0), .inl (0, x1)] [.inl (0, 1), .inr (25, x0 + 1)] 0 0 K)) ∧ (x1 < 5 → tCall E 291 [.inl (0, x1)] d (tbk E 206 67 [.inr (11, x0), .inl (0, x1)] [.inr (11, x0), .inl (0, 2 + x1), .inr (25, x0 + 1)] 0 0 K))) :
  tRun E 206 (53, [.inr (11, x0), .inl (0, x1)], [], 0, 0, d) K := tT_run (cut := [0, 12, 39, 51, 53, 70, 74, 77, 96, 101, 106, 111, 115, 126, 146]) 11 _ h
theorem t_206_70 {E : mO × tW} {K : tK} {d : mD} {x0 x1 y0 y1 y2 y3 : Int}
  (h : tCall E 292 [.inl (0, x1)] d (tbk E 206 71 [.inr (11, x0), .inl (0, x1)] [.inl (0, y3), .inr (11, y2), .inl (0, y1), .inr (25, y0)] 0 0 K)) :
  tRun E 206 (70, [.inr (11, x0), .inl (0, x1)], [.inl (0, y3), .inr (11, y2), .inl (0, y1), .inr (25, y0)], 0, 0, d) K := tT_run (cut := [0, 12, 39, 51, 53, 70, 74, 77, 96, 101, 106, 111, 115, 126, 146]) 2 _ h
theorem t_206_74 {E : mO × tW} {K : tK} {d : mD} {x0 x1 y0 y1 y2 y3 y4 : Int}
  (h : tCall E 197 [.inr (11, y2), .inl (0, y3), .inl (0, y4)] d (tbk E 206 74 [.inr (11, x0), .inl (0, x1)] [.inl (0, y1), .inr (25, y0)] 0 0 K)) :
  tRun E 206 (74, [.inr (11, x0), .inl (0, x1)], [.inl (0, y4), .inl (0, y3), .inr (11, y2), .inl (0, y1), .inr (25, y0)], 0, 0, d) K := tT_run (cut := [0, 12, 39, 51, 53, 70, 74, 77, 96, 101, 106, 111, 115, 126, 146]) 1 _ h
theorem t_206_77 {E : mO × tW} {K : tK} {d : mD} {x0 x1 y0 y1 y2 : Int}
  (h : (0 ≤ y1 ∧ y1 < 3116) ∧ tRun E 206 (53, [.inr (11, x0), .inl (0, x1 + 1)], [], 0, 0, mset d y0 y1 y2) K) :
  tRun E 206 (77, [.inr (11, x0), .inl (0, x1)], [.inl (0, y2), .inl (0, y1), .inr (25, y0)], 0, 0, d) K := tT_run (cut := [0, 12, 39, 51, 53, 70, 74, 77, 96, 101, 106, 111, 115, 126, 146]) 3 _ h
theorem t_206_96 {E : mO × tW} {K : tK} {d : mD} {x0 x1 y0 y1 y2 : Int}
  (h : (0 ≤ y1 ∧ y1 < 3116) ∧ tCall E 195 [.inr (11, x0)] (mset d y0 y1 y2) (tbk E 206 98 [.inr (11, x0), .inl (0, x1)] [] 0 0 K)) :
  tRun E 206 (96, [.inr (11, x0), .inl (0, x1)], [.inl (0, y2), .inl (0, y1), .inr (25, y0)], 0, 0, d) K := tT_run (cut := [0, 12, 39, 51, 53, 70, 74, 77, 96, 101, 106, 111, 115, 126, 146]) 3 _ h
theorem t_206_101 {E : mO × tW} {K : tK} {d : mD} {x0 x1 : Int}
  (h : tCall E 204 [.inr (11, x0), .inl (0, 1)] d (tbk E 206 103 [.inr (11, x0), .inl (0, x1)] [] 0 0 K)) :
  tRun E 206 (101, [.inr (11, x0), .inl (0, x1)], [], 0, 0, d) K := tT_run (cut := [0, 12, 39, 51, 53, 70, 74, 77, 96, 101, 106, 111, 115, 126, 146]) 3 _ h
theorem t_206_106 {E : mO × tW} {K : tK} {d : mD} {x0 x1 : Int}
  (h : tCall E 204 [.inr (11, x0), .inl (0, 0)] d (tbk E 206 108 [.inr (11, x0), .inl (0, x1)] [] 0 0 K)) :
  tRun E 206 (106, [.inr (11, x0), .inl (0, x1)], [], 0, 0, d) K := tT_run (cut := [0, 12, 39, 51, 53, 70, 74, 77, 96, 101, 106, 111, 115, 126, 146]) 3 _ h
theorem t_206_111 {E : mO × tW} {K : tK} {d : mD} {x0 x1 : Int}
  (h : tCall E 205 [.inr (11, x0)] d (tbk E 206 112 [.inr (11, x0), .inl (0, x1)] [] 0 0 K)) :
  tRun E 206 (111, [.inr (11, x0), .inl (0, x1)], [], 0, 0, d) K := tT_run (cut := [0, 12, 39, 51, 53, 70, 74, 77, 96, 101, 106, 111, 115, 126, 146]) 2 _ h
theorem t_206_115 {E : mO × tW} {K : tK} {d : mD} {x0 x1 : Int}
  (h : mInR (d x0 13) ∧ (¬ d x0 13 = 0 → tRun E 206 (146, [.inr (11, x0), .inl (0, x1)], [], 0, 0, d) K) ∧ (d x0 13 = 0 → tCall E 189 [.inr (11, x0)] d (tbk E 206 123 [.inr (11, x0), .inl (0, x1)] [] 0 0 K))) :
  tRun E 206 (115, [.inr (11, x0), .inl (0, x1)], [], 0, 0, d) K := tT_run (cut := [0, 12, 39, 51, 53, 70, 74, 77, 96, 101, 106, 111, 115, 126, 146]) 5 _ h
theorem t_206_126 {E : mO × tW} {K : tK} {d : mD} {x0 x1 : Int}
  (h : (mInR (d x0 10) ∧ mInR (d x0 9)) ∧ (d x0 9 ≤ d x0 10 → tRun E 206 (146, [.inr (11, x0), .inl (0, x1)], [], 0, 0, d) K) ∧ (d x0 10 < d x0 9 → tCall E 188 [.inr (11, x0), .inl (0, 1), .inl (0, d x0 10)] d (tbk E 206 143 [.inr (11, x0), .inl (0, x1)] [] 0 0 K))) :
  tRun E 206 (126, [.inr (11, x0), .inl (0, x1)], [], 0, 0, d) K := tT_run (cut := [0, 12, 39, 51, 53, 70, 74, 77, 96, 101, 106, 111, 115, 126, 146]) 10 _ h
theorem t_206_146 {E : mO × tW} {K : tK} {d : mD} {x0 x1 : Int}
  (h : K (.inl none) d) :
  tRun E 206 (146, [.inr (11, x0), .inl (0, x1)], [], 0, 0, d) K := tT_run (cut := [0, 12, 39, 51, 53, 70, 74, 77, 96, 101, 106, 111, 115, 126, 146]) 1 _ h
theorem t_207_0 {E : mO × tW} {K : tK} {d : mD} {x0 : Int}
  (h : tRun E 207 (12, [.inr (11, x0), .inl (0, 0)], [], 0, 0, mset (mset d x0 11 0) x0 12 ((-1))) K) :
  tRun E 207 (0, [.inr (11, x0), tu], [], 0, 0, d) K := tT_run (cut := [0, 12, 41, 71]) 8 _ h
theorem t_207_12 {E : mO × tW} {K : tK} {d : mD} {x0 x1 : Int}
  (h : (mInR x1 ∧ mInR 3116) ∧ (3116 ≤ x1 → tCall E 206 [.inr (11, x0)] d (tbk E 207 38 [.inr (11, x0), .inl (0, x1)] [] 0 0 K)) ∧ (x1 < 3116 → (0 ≤ x1 ∧ x1 < 3116) ∧ (0 ≤ x1 ∧ x1 < 3116) ∧ tRun E 207 (12, [.inr (11, x0), .inl (0, x1 + 1)], [], 0, 0, mset d (x0 + 5) x1 (d (x0 + 1) x1)) K)) :
  tRun E 207 (12, [.inr (11, x0), .inl (0, x1)], [], 0, 0, d) K := tT_run (cut := [0, 12, 41, 71]) 13 _ h
theorem t_207_41 {E : mO × tW} {K : tK} {d : mD} {x0 x1 : Int}
  (h : mInR ((mset d x0 9 0) x0 13) ∧ ((mset d x0 9 0) x0 13 = 0 → mInR ((mset (mset d x0 9 0) x0 0 0) x0 0) ∧ ((mset (mset d x0 9 0) x0 0 0) x0 0 ≤ 0 → (((0 : Int) = 0 ∨ (0 : Int) = 1) ∧ 0 ≤ (0 : Int) ∧ (0 : Int) < 2) ∧ (((0 : Int) = 0 ∨ (0 : Int) = 1) ∧ 0 ≤ (1 : Int) ∧ (1 : Int) < 2) ∧ (0 ≤ (8 : Int) ∧ (8 : Int) < 3116) ∧ K (.inl (some (0, (mset (mset (mset (mset (mset d x0 9 0) x0 0 0) x0 7 0) (x0 + 6) 0 0) (x0 + 6) 1 0) (x0 + 1) 8))) (mset (mset (mset (mset (mset d x0 9 0) x0 0 0) x0 7 0) (x0 + 6) 0 0) (x0 + 6) 1 0)) ∧ (0 < (mset (mset d x0 9 0) x0 0 0) x0 0 → tRun E 207 (71, [.inr (11, x0), .inl (0, 0)], [], 0, 0, mset (mset d x0 9 0) x0 0 0) K)) ∧ (¬ (mset d x0 9 0) x0 13 = 0 → mInR ((mset (mset d x0 9 0) x0 0 1) x0 0) ∧ ((mset (mset d x0 9 0) x0 0 1) x0 0 ≤ 0 → (((0 : Int) = 0 ∨ (0 : Int) = 1) ∧ 0 ≤ (0 : Int) ∧ (0 : Int) < 2) ∧ (((0 : Int) = 0 ∨ (0 : Int) = 1) ∧ 0 ≤ (1 : Int) ∧ (1 : Int) < 2) ∧ (0 ≤ (8 : Int) ∧ (8 : Int) < 3116) ∧ K (.inl (some (0, (mset (mset (mset (mset (mset d x0 9 0) x0 0 1) x0 7 0) (x0 + 6) 0 0) (x0 + 6) 1 0) (x0 + 1) 8))) (mset (mset (mset (mset (mset d x0 9 0) x0 0 1) x0 7 0) (x0 + 6) 0 0) (x0 + 6) 1 0)) ∧ (0 < (mset (mset d x0 9 0) x0 0 1) x0 0 → tRun E 207 (71, [.inr (11, x0), .inl (0, 0)], [], 0, 0, mset (mset d x0 9 0) x0 0 1) K))) :
  tRun E 207 (41, [.inr (11, x0), .inl (0, x1)], [], 0, 0, d) K := tT_run (cut := [0, 12, 41, 71]) 31 _ h
theorem t_207_71 {E : mO × tW} {K : tK} {d : mD} {x0 x1 : Int}
  (h : (mInR x1 ∧ mInR 3116) ∧ (3116 ≤ x1 → K (.inl (some (0, 0))) d) ∧ (x1 < 3116 → (0 ≤ x1 ∧ x1 < 3116) ∧ (0 ≤ x1 ∧ x1 < 3116) ∧ tRun E 207 (71, [.inr (11, x0), .inl (0, x1 + 1)], [], 0, 0, mset d (x0 + 1) x1 (d (x0 + 5) x1)) K)) :
  tRun E 207 (71, [.inr (11, x0), .inl (0, x1)], [], 0, 0, d) K := tT_run (cut := [0, 12, 41, 71]) 13 _ h
theorem t_208_0 {E : mO × tW} {K : tK} {d : mD} {x0 : Int}
  (h : K (.inl (some (0, (mset d x0 0 0) x0 11))) (mset d x0 0 0)) :
  tRun E 208 (0, [.inr (11, x0)], [], 0, 0, d) K := tT_run (cut := [0]) 6 _ h
theorem t_209_0 {E : mO × tW} {K : tK} {d : mD} {x0 : Int}
  (h : K (.inl (some (0, (mset d x0 0 0) x0 12))) (mset d x0 0 0)) :
  tRun E 209 (0, [.inr (11, x0)], [], 0, 0, d) K := tT_run (cut := [0]) 6 _ h
theorem t_210_0 {E : mO × tW} {K : tK} {d : mD} {x0 : Int}
  (h : tRun E 210 (4, [.inr (11, x0), .inl (0, 0), .inl (0, 0)], [], 0, 0, d) K) :
  tRun E 210 (0, [.inr (11, x0), tu, tu], [], 0, 0, d) K := tT_run (cut := [0, 4, 17]) 4 _ h
theorem t_210_4 {E : mO × tW} {K : tK} {d : mD} {x0 x1 x2 : Int}
  (h : (mInR x2 ∧ mInR (d x0 9)) ∧ (d x0 9 ≤ x2 → mInR x1 ∧ (0 ≤ x1 → K (.inl (some (0, x1))) (mset d x0 9 0)) ∧ (x1 < 0 → K (.inl (some (0, 0))) (mset d x0 9 0))) ∧ (x2 < d x0 9 → tCall E 190 [.inr (11, x0), .inl (0, x2)] d (tbk E 210 14 [.inr (11, x0), .inl (0, x1), .inl (0, x2)] [] 0 0 K))) :
  tRun E 210 (4, [.inr (11, x0), .inl (0, x1), .inl (0, x2)], [], 0, 0, d) K := tT_run (cut := [0, 4, 17]) 12 _ h
theorem t_210_17 {E : mO × tW} {K : tK} {d : mD} {x0 x1 x2 y0 : Int}
  (h : mInR y0 ∧ (y0 = 0 → tRun E 210 (4, [.inr (11, x0), .inl (0, (-1)), .inl (0, x2 + 1)], [], 0, 0, d) K) ∧ (¬ y0 = 0 → (mInR x2 ∧ mInR 6) ∧ (6 ≤ x2 → tRun E 210 (4, [.inr (11, x0), .inl (0, (-1)), .inl (0, x2 + 1)], [], 0, 0, d) K) ∧ (x2 < 6 → mInR x1 ∧ (x1 < 0 → tRun E 210 (4, [.inr (11, x0), .inl (0, (-1)), .inl (0, x2 + 1)], [], 0, 0, d) K) ∧ (0 ≤ x1 → (0 ≤ x2 ∧ x2 < 1000) ∧ tRun E 210 (4, [.inr (11, x0), .inl (0, (((27 * x1) + (d (x0 + 7) x2)) - 97) + 1), .inl (0, x2 + 1)], [], 0, 0, d) K)))) :
  tRun E 210 (17, [.inr (11, x0), .inl (0, x1), .inl (0, x2)], [.inl (0, y0)], 0, 0, d) K := tT_run (cut := [0, 4, 17]) 22 _ h
theorem t_211_0 {E : mO × tW} {K : tK} {d : mD} {x0 x1 : Int}
  (h : tCall E 210 [.inr (11, x0)] d (tbk E 211 1 [.inr (11, x0), .inl (0, x1), tu, tu] [] 0 0 K)) :
  tRun E 211 (0, [.inr (11, x0), .inl (0, x1), tu, tu], [], 0, 0, d) K := tT_run (cut := [0, 4, 14, 22]) 2 _ h
theorem t_211_4 {E : mO × tW} {K : tK} {d : mD} {x0 x1 y0 : Int}
  (h : mInR x1 ∧ (x1 = 0 → tCall E 183 [.inr (11, x0), .inl (0, y0)] d (tbk E 211 19 [.inr (11, x0), .inl (0, x1), .inl (0, y0), tu] [] 0 0 K)) ∧ (¬ x1 = 0 → tCall E 184 [.inr (11, x0), .inl (0, y0)] d (tbk E 211 11 [.inr (11, x0), .inl (0, x1), .inl (0, y0), tu] [] 0 0 K))) :
  tRun E 211 (4, [.inr (11, x0), .inl (0, x1), tu, tu], [.inl (0, y0)], 0, 0, d) K := tT_run (cut := [0, 4, 14, 22]) 6 _ h
theorem t_211_14 {E : mO × tW} {K : tK} {d : mD} {x0 x1 x2 y0 : Int}
  (h : tRun E 211 (22, [.inr (11, x0), .inl (0, x1), .inl (0, x2), tu], [.inl (0, y0)], 0, 0, d) K) :
  tRun E 211 (14, [.inr (11, x0), .inl (0, x1), .inl (0, x2), tu], [.inl (0, y0)], 0, 0, d) K := tT_run (cut := [0, 4, 14, 22]) 1 _ h
theorem t_211_22 {E : mO × tW} {K : tK} {d : mD} {x0 x1 x2 y0 : Int}
  (h : (mInR y0 ∧ mInR ((-1))) ∧ (¬ y0 = (-1) → mInR ((mset d x0 0 0) x0 0) ∧ ((mset d x0 0 0) x0 0 ≤ 0 → K (.inl (some (0, y0))) (mset d x0 0 0)) ∧ (0 < (mset d x0 0 0) x0 0 → K (.inl (some (0, 0))) (mset d x0 0 0))) ∧ (y0 = (-1) → mInR ((mset d x0 0 1) x0 0) ∧ ((mset d x0 0 1) x0 0 ≤ 0 → K (.inl (some (0, y0))) (mset d x0 0 1)) ∧ (0 < (mset d x0 0 1) x0 0 → K (.inl (some (0, 0))) (mset d x0 0 1)))) :
  tRun E 211 (22, [.inr (11, x0), .inl (0, x1), .inl (0, x2), tu], [.inl (0, y0)], 0, 0, d) K := tT_run (cut := [0, 4, 14, 22]) 14 _ h
theorem t_212_0 {E : mO × tW} {K : tK} {d : mD} {x0 x1 : Int}
  (h : tCall E 179 [.inl (0, x1)] d (tbk E 212 5 [.inr (11, x0), .inl (0, x1), tu] [.inr (25, x0 + 1)] 0 0 K)) :
  tRun E 212 (0, [.inr (11, x0), .inl (0, x1), tu], [], 0, 0, d) K := tT_run (cut := [0, 8]) 4 _ h
theorem t_212_8 {E : mO × tW} {K : tK} {d : mD} {x0 x1 y0 y1 : Int}
  (h : (0 ≤ y1 + 3 ∧ y1 + 3 < 3116) ∧ (mInR (d y0 (y1 + 3)) ∧ mInR ((-1))) ∧ (¬ d y0 (y1 + 3) = (-1) → K (.inl (some (0, d y0 (y1 + 3)))) d) ∧ (d y0 (y1 + 3) = (-1) → (0 ≤ (0 : Int) ∧ (0 : Int) < 3116) ∧ K (.inl (some (0, d (x0 + 1) 0))) d)) :
  tRun E 212 (8, [.inr (11, x0), .inl (0, x1), tu], [.inl (0, y1), .inr (25, y0)], 0, 0, d) K := tT_run (cut := [0, 8]) 13 _ h
theorem t_213_0 {E : mO × tW} {K : tK} {d : mD} {x0 x1 : Int}
  (h : tCall E 212 [.inr (11, x0), .inl (0, x1)] d (tbk E 213 2 [.inr (11, x0), .inl (0, x1), tu] [] 0 0 K)) :
  tRun E 213 (0, [.inr (11, x0), .inl (0, x1), tu], [], 0, 0, d) K := tT_run (cut := [0, 5, 13]) 3 _ h
theorem t_213_5 {E : mO × tW} {K : tK} {d : mD} {x0 x1 y0 : Int}
  (h : tCall E 179 [.inl (0, x1)] d (tbk E 213 10 [.inr (11, x0), .inl (0, x1), tu] [.inr (25, x0 + 1), .inl (0, y0)] 0 0 K)) :
  tRun E 213 (5, [.inr (11, x0), .inl (0, x1), tu], [.inl (0, y0)], 0, 0, d) K := tT_run (cut := [0, 5, 13]) 4 _ h
theorem t_213_13 {E : mO × tW} {K : tK} {d : mD} {x0 x1 y0 y1 y2 : Int}
  (h : (0 ≤ y2 + 2 ∧ y2 + 2 < 3116) ∧ (0 ≤ (2 : Int) ∧ (2 : Int) < 3116) ∧ mInR ((y0 - (d y1 (y2 + 2))) - (d (x0 + 1) 2)) ∧ (0 ≤ (y0 - (d y1 (y2 + 2))) - (d (x0 + 1) 2) → K (.inl (some (0, (y0 - (d y1 (y2 + 2))) - (d (x0 + 1) 2)))) d) ∧ ((y0 - (d y1 (y2 + 2))) - (d (x0 + 1) 2) < 0 → K (.inl (some (0, 0))) d)) :
  tRun E 213 (13, [.inr (11, x0), .inl (0, x1), tu], [.inl (0, y2), .inr (25, y1), .inl (0, y0)], 0, 0, d) K := tT_run (cut := [0, 5, 13]) 15 _ h
theorem t_214_0 {E : mO × tW} {K : tK} {d : mD} {x0 x1 x2 : Int}
  (h : tCall E 179 [.inl (0, x1)] d (tbk E 214 6 [.inr (11, x0), .inl (0, x1), .inl (0, x2)] [.inr (25, x0 + 1), .inl (0, x2)] 0 0 K)) :
  tRun E 214 (0, [.inr (11, x0), .inl (0, x1), .inl (0, x2)], [], 0, 0, d) K := tT_run (cut := [0, 9, 28]) 5 _ h
theorem t_214_9 {E : mO × tW} {K : tK} {d : mD} {x0 x1 x2 y0 y1 y2 : Int}
  (h : (0 ≤ y2 + 2 ∧ y2 + 2 < 3116) ∧ (0 ≤ (2 : Int) ∧ (2 : Int) < 3116) ∧ (mInR y0 ∧ mInR ((d y1 (y2 + 2)) + (d (x0 + 1) 2))) ∧ (y0 < (d y1 (y2 + 2)) + (d (x0 + 1) 2) → ((0 : Int) = 0 ∨ (0 : Int) = 1) ∧ K (.inl (some (0, 0))) d) ∧ ((d y1 (y2 + 2)) + (d (x0 + 1) 2) ≤ y0 → tCall E 212 [.inr (11, x0), .inl (0, x1)] d (tbk E 214 25 [.inr (11, x0), .inl (0, x1), .inl (0, x2)] [.inl (0, x2)] 0 0 K))) :
  tRun E 214 (9, [.inr (11, x0), .inl (0, x1), .inl (0, x2)], [.inl (0, y2), .inr (25, y1), .inl (0, y0)], 0, 0, d) K := tT_run (cut := [0, 9, 28]) 13 _ h
theorem t_214_28 {E : mO × tW} {K : tK} {d : mD} {x0 x1 x2 y0 y1 : Int}
  (h : (mInR y0 ∧ mInR y1) ∧ (y1 ≤ y0 → ((0 : Int) = 0 ∨ (0 : Int) = 1) ∧ K (.inl (some (0, 0))) d) ∧ (y0 < y1 → ((1 : Int) = 0 ∨ (1 : Int) = 1) ∧ K (.inl (some (0, 1))) d)) :
  tRun E 214 (28, [.inr (11, x0), .inl (0, x1), .inl (0, x2)], [.inl (0, y1), .inl (0, y0)], 0, 0, d) K := tT_run (cut := [0, 9, 28]) 4 _ h
theorem t_215_0 {E : mO × tW} {K : tK} {d : mD} {x0 x1 : Int}
  (h : tCall E 180 [.inl (0, x1)] d (tbk E 215 9 [.inr (11, x0), .inl (0, x1)] [.inr (25, x0 + 1), .inr (25, x0 + 1)] 0 0 K)) :
  tRun E 215 (0, [.inr (11, x0), .inl (0, x1)], [], 0, 0, d) K := tT_run (cut := [0, 12, 18]) 6 _ h
theorem t_215_12 {E : mO × tW} {K : tK} {d : mD} {x0 x1 y0 y1 y2 : Int}
  (h : (0 ≤ y2 + 1 ∧ y2 + 1 < 3116) ∧ tCall E 179 [.inl (0, d y1 (y2 + 1))] d (tbk E 215 15 [.inr (11, x0), .inl (0, x1)] [.inr (25, y0)] 0 0 K)) :
  tRun E 215 (12, [.inr (11, x0), .inl (0, x1)], [.inl (0, y2), .inr (25, y1), .inr (25, y0)], 0, 0, d) K := tT_run (cut := [0, 12, 18]) 4 _ h
theorem t_215_18 {E : mO × tW} {K : tK} {d : mD} {x0 x1 y0 y1 : Int}
  (h : (0 ≤ y1 + 0 ∧ y1 + 0 < 3116) ∧ K (.inl (some (0, d y0 (y1 + 0)))) d) :
  tRun E 215 (18, [.inr (11, x0), .inl (0, x1)], [.inl (0, y1), .inr (25, y0)], 0, 0, d) K := tT_run (cut := [0, 12, 18]) 4 _ h
theorem t_216_0 {E : mO × tW} {K : tK} {d : mD} {x0 x1 x2 : Int}
  (h : tRun E 216 (2, [.inr (11, x0), .inl (0, x1), .inl (0, x2), .inl (0, 0)], [], 0, 0, d) K) :
  tRun E 216 (0, [.inr (11, x0), .inl (0, x1), .inl (0, x2), tu], [], 0, 0, d) K := tT_run (cut := [0, 2, 21, 33]) 2 _ h
theorem t_216_2 {E : mO × tW} {K : tK} {d : mD} {x0 x1 x2 x3 : Int}
  (h : (0 ≤ (10 : Int) ∧ (10 : Int) < 3116) ∧ (mInR x3 ∧ mInR (d (x0 + 1) 10)) ∧ (d (x0 + 1) 10 ≤ x3 → ((0 : Int) = 0 ∨ (0 : Int) = 1) ∧ K (.inl (some (0, 0))) d) ∧ (x3 < d (x0 + 1) 10 → tCall E 180 [.inl (0, x3)] d (tbk E 216 18 [.inr (11, x0), .inl (0, x1), .inl (0, x2), .inl (0, x3)] [.inr (25, x0 + 1)] 0 0 K))) :
  tRun E 216 (2, [.inr (11, x0), .inl (0, x1), .inl (0, x2), .inl (0, x3)], [], 0, 0, d) K := tT_run (cut := [0, 2, 21, 33]) 10 _ h
theorem t_216_21 {E : mO × tW} {K : tK} {d : mD} {x0 x1 x2 x3 y0 y1 : Int}
  (h : (0 ≤ y1 + 2 ∧ y1 + 2 < 3116) ∧ (mInR (d y0 (y1 + 2)) ∧ mInR x2) ∧ (¬ d y0 (y1 + 2) = x2 → tRun E 216 (2, [.inr (11, x0), .inl (0, x1), .inl (0, x2), .inl (0, x3 + 1)], [], 0, 0, d) K) ∧ (d y0 (y1 + 2) = x2 → tCall E 215 [.inr (11, x0), .inl (0, x3)] d (tbk E 216 30 [.inr (11, x0), .inl (0, x1), .inl (0, x2), .inl (0, x3)] [] 0 0 K))) :
  tRun E 216 (21, [.inr (11, x0), .inl (0, x1), .inl (0, x2), .inl (0, x3)], [.inl (0, y1), .inr (25, y0)], 0, 0, d) K := tT_run (cut := [0, 2, 21, 33]) 8 _ h
theorem t_216_33 {E : mO × tW} {K : tK} {d : mD} {x0 x1 x2 x3 y0 : Int}
  (h : (mInR y0 ∧ mInR x1) ∧ (¬ y0 = x1 → tRun E 216 (2, [.inr (11, x0), .inl (0, x1), .inl (0, x2), .inl (0, x3 + 1)], [], 0, 0, d) K) ∧ (y0 = x1 → ((1 : Int) = 0 ∨ (1 : Int) = 1) ∧ K (.inl (some (0, 1))) d)) :
  tRun E 216 (33, [.inr (11, x0), .inl (0, x1), .inl (0, x2), .inl (0, x3)], [.inl (0, y0)], 0, 0, d) K := tT_run (cut := [0, 2, 21, 33]) 4 _ h
theorem t_217_0 {E : mO × tW} {K : tK} {d : mD} {x0 x1 : Int}
  (h : tRun E 217 (4, [.inr (11, x0), .inl (0, x1), .inl (0, 0), .inl (0, 0)], [], 0, 0, d) K) :
  tRun E 217 (0, [.inr (11, x0), .inl (0, x1), tu, tu], [], 0, 0, d) K := tT_run (cut := [0, 4, 21, 33]) 4 _ h
theorem t_217_4 {E : mO × tW} {K : tK} {d : mD} {x0 x1 x2 x3 : Int}
  (h : (0 ≤ (10 : Int) ∧ (10 : Int) < 3116) ∧ (mInR x3 ∧ mInR (d (x0 + 1) 10)) ∧ (d (x0 + 1) 10 ≤ x3 → K (.inl (some (0, x2))) d) ∧ (x3 < d (x0 + 1) 10 → tCall E 215 [.inr (11, x0), .inl (0, x3)] d (tbk E 217 18 [.inr (11, x0), .inl (0, x1), .inl (0, x2), .inl (0, x3)] [.inl (0, x2)] 0 0 K))) :
  tRun E 217 (4, [.inr (11, x0), .inl (0, x1), .inl (0, x2), .inl (0, x3)], [], 0, 0, d) K := tT_run (cut := [0, 4, 21, 33]) 10 _ h
theorem t_217_21 {E : mO × tW} {K : tK} {d : mD} {x0 x1 x2 x3 y0 y1 : Int}
  (h : (mInR y1 ∧ mInR x1) ∧ (¬ y1 = x1 → tRun E 217 (4, [.inr (11, x0), .inl (0, x1), .inl (0, y0 + 0), .inl (0, x3 + 1)], [], 0, 0, d) K) ∧ (y1 = x1 → tCall E 180 [.inl (0, x3)] d (tbk E 217 30 [.inr (11, x0), .inl (0, x1), .inl (0, x2), .inl (0, x3)] [.inr (25, x0 + 1), .inl (0, y0)] 0 0 K))) :
  tRun E 217 (21, [.inr (11, x0), .inl (0, x1), .inl (0, x2), .inl (0, x3)], [.inl (0, y1), .inl (0, y0)], 0, 0, d) K := tT_run (cut := [0, 4, 21, 33]) 7 _ h
theorem t_217_33 {E : mO × tW} {K : tK} {d : mD} {x0 x1 x2 x3 y0 y1 y2 : Int}
  (h : (0 ≤ y2 + 4 ∧ y2 + 4 < 3116) ∧ (0 ≤ d y1 (y2 + 4) ∧ d y1 (y2 + 4) ≤ 2147483647 ∧ 0 < (20 : Int) ∧ (20 : Int) ≤ 2147483647) ∧ (0 ≤ (0 : Int) ∧ (0 : Int) < 3116) ∧ (0 ≤ d (x0 + 1) 0 ∧ d (x0 + 1) 0 ≤ 2147483647 ∧ 0 < (20 : Int) ∧ (20 : Int) ≤ 2147483647) ∧ (mInR ((d y1 (y2 + 4)) / 20) ∧ mInR ((d (x0 + 1) 0) / 20)) ∧ (¬ (d y1 (y2 + 4)) / 20 = (d (x0 + 1) 0) / 20 → tRun E 217 (4, [.inr (11, x0), .inl (0, x1), .inl (0, y0 + 0), .inl (0, x3 + 1)], [], 0, 0, d) K) ∧ ((d y1 (y2 + 4)) / 20 = (d (x0 + 1) 0) / 20 → tRun E 217 (4, [.inr (11, x0), .inl (0, x1), .inl (0, y0 + 1), .inl (0, x3 + 1)], [], 0, 0, d) K)) :
  tRun E 217 (33, [.inr (11, x0), .inl (0, x1), .inl (0, x2), .inl (0, x3)], [.inl (0, y2), .inr (25, y1), .inl (0, y0)], 0, 0, d) K := tT_run (cut := [0, 4, 21, 33]) 18 _ h
theorem t_218_0 {E : mO × tW} {K : tK} {d : mD} {x0 x1 : Int}
  (h : tCall E 179 [.inl (0, x1)] d (tbk E 218 5 [.inr (11, x0), .inl (0, x1), tu, tu, tu, tu, tu] [.inr (25, x0 + 1)] 0 0 K)) :
  tRun E 218 (0, [.inr (11, x0), .inl (0, x1), tu, tu, tu, tu, tu], [], 0, 0, d) K := tT_run (cut := [0, 8, 17, 29, 41, 51, 87, 100]) 4 _ h
theorem t_218_8 {E : mO × tW} {K : tK} {d : mD} {x0 x1 y0 y1 : Int}
  (h : (0 ≤ y1 + 0 ∧ y1 + 0 < 3116) ∧ tCall E 217 [.inr (11, x0), .inl (0, d y0 (y1 + 0))] d (tbk E 218 14 [.inr (11, x0), .inl (0, x1), .inl (0, d y0 (y1 + 0)), tu, tu, tu, tu] [] 0 0 K)) :
  tRun E 218 (8, [.inr (11, x0), .inl (0, x1), tu, tu, tu, tu, tu], [.inl (0, y1), .inr (25, y0)], 0, 0, d) K := tT_run (cut := [0, 8, 17, 29, 41, 51, 87, 100]) 7 _ h
theorem t_218_17 {E : mO × tW} {K : tK} {d : mD} {x0 x1 x2 y0 : Int}
  (h : tCall E 179 [.inl (0, x1)] d (tbk E 218 26 [.inr (11, x0), .inl (0, x1), .inl (0, x2), .inl (0, y0), .inl (0, 0), tu, tu] [.inr (25, x0 + 1)] 0 0 K)) :
  tRun E 218 (17, [.inr (11, x0), .inl (0, x1), .inl (0, x2), tu, tu, tu, tu], [.inl (0, y0)], 0, 0, d) K := tT_run (cut := [0, 8, 17, 29, 41, 51, 87, 100]) 7 _ h
theorem t_218_29 {E : mO × tW} {K : tK} {d : mD} {x0 x1 x2 x3 x4 y0 y1 : Int}
  (h : (0 ≤ y1 + 2 ∧ y1 + 2 < 3116) ∧ (0 ≤ (2 : Int) ∧ (2 : Int) < 3116) ∧ tRun E 218 (41, [.inr (11, x0), .inl (0, x1), .inl (0, x2), .inl (0, x3), .inl (0, x4), .inl (0, (d y0 (y1 + 2)) + (d (x0 + 1) 2)), tu], [], 0, 0, d) K) :
  tRun E 218 (29, [.inr (11, x0), .inl (0, x1), .inl (0, x2), .inl (0, x3), .inl (0, x4), tu, tu], [.inl (0, y1), .inr (25, y0)], 0, 0, d) K := tT_run (cut := [0, 8, 17, 29, 41, 51, 87, 100]) 9 _ h
theorem t_218_41 {E : mO × tW} {K : tK} {d : mD} {x0 x1 x2 x3 x4 x5 : Int} {v6 : tV}
  (h : tCall E 179 [.inl (0, x1)] d (tbk E 218 48 [.inr (11, x0), .inl (0, x1), .inl (0, x2), .inl (0, x3), .inl (0, x4), .inl (0, x5), v6] [.inr (25, x0 + 1), .inl (0, x5)] 0 0 K)) :
  tRun E 218 (41, [.inr (11, x0), .inl (0, x1), .inl (0, x2), .inl (0, x3), .inl (0, x4), .inl (0, x5), v6], [], 0, 0, d) K := tT_run (cut := [0, 8, 17, 29, 41, 51, 87, 100]) 5 _ h
theorem t_218_51 {E : mO × tW} {K : tK} {d : mD} {x0 x1 x2 x3 x4 x5 y0 y1 y2 : Int} {v6 : tV}
  (h : (0 ≤ y2 + 3 ∧ y2 + 3 < 3116) ∧ (mInR y0 ∧ mInR (d y1 (y2 + 3))) ∧ (d y1 (y2 + 3) ≤ y0 → K (.inl (some (0, x4))) d) ∧ (y0 < d y1 (y2 + 3) → (0 ≤ (5 : Int) ∧ (5 : Int) < 3116) ∧ (mInR x3 ∧ mInR (d (x0 + 1) 5)) ∧ (d (x0 + 1) 5 ≤ x3 → tRun E 218 (41, [.inr (11, x0), .inl (0, x1), .inl (0, x2), .inl (0, x3), .inl (0, x4), .inl (0, x5 + 1), v6], [], 0, 0, d) K) ∧ (x3 < d (x0 + 1) 5 → (0 ≤ (10 : Int) ∧ (10 : Int) < 3116) ∧ (mInR (d (x0 + 1) 10) ∧ mInR 200) ∧ (200 ≤ d (x0 + 1) 10 → tRun E 218 (41, [.inr (11, x0), .inl (0, x1), .inl (0, x2), .inl (0, x3), .inl (0, x4), .inl (0, x5 + 1), v6], [], 0, 0, d) K) ∧ (d (x0 + 1) 10 < 200 → tCall E 216 [.inr (11, x0), .inl (0, x2), .inl (0, x5)] d (tbk E 218 84 [.inr (11, x0), .inl (0, x1), .inl (0, x2), .inl (0, x3), .inl (0, x4), .inl (0, x5), v6] [] 0 0 K))))) :
  tRun E 218 (51, [.inr (11, x0), .inl (0, x1), .inl (0, x2), .inl (0, x3), .inl (0, x4), .inl (0, x5), v6], [.inl (0, y2), .inr (25, y1), .inl (0, y0)], 0, 0, d) K := tT_run (cut := [0, 8, 17, 29, 41, 51, 87, 100]) 20 _ h
theorem t_218_87 {E : mO × tW} {K : tK} {d : mD} {x0 x1 x2 x3 x4 x5 y0 : Int} {v6 : tV}
  (h : mInR y0 ∧ (¬ y0 = 0 → tRun E 218 (41, [.inr (11, x0), .inl (0, x1), .inl (0, x2), .inl (0, x3), .inl (0, x4), .inl (0, x5 + 1), v6], [], 0, 0, d) K) ∧ (y0 = 0 → (0 ≤ (10 : Int) ∧ (10 : Int) < 3116) ∧ tCall E 180 [.inl (0, d (x0 + 1) 10)] d (tbk E 218 97 [.inr (11, x0), .inl (0, x1), .inl (0, x2), .inl (0, x3), .inl (0, x4), .inl (0, x5), v6] [] 0 0 K))) :
  tRun E 218 (87, [.inr (11, x0), .inl (0, x1), .inl (0, x2), .inl (0, x3), .inl (0, x4), .inl (0, x5), v6], [.inl (0, y0)], 0, 0, d) K := tT_run (cut := [0, 8, 17, 29, 41, 51, 87, 100]) 6 _ h
theorem t_218_100 {E : mO × tW} {K : tK} {d : mD} {x0 x1 x2 x3 x4 x5 y0 : Int} {v6 : tV}
  (h : (0 ≤ y0 + 0 ∧ y0 + 0 < 3116) ∧ (0 ≤ y0 + 1 ∧ y0 + 1 < 3116) ∧ (0 ≤ y0 + 2 ∧ y0 + 2 < 3116) ∧ (0 ≤ y0 + 3 ∧ y0 + 3 < 3116) ∧ (0 ≤ (0 : Int) ∧ (0 : Int) < 3116) ∧ (0 ≤ y0 + 4 ∧ y0 + 4 < 3116) ∧ (0 ≤ (10 : Int) ∧ (10 : Int) < 3116) ∧ (0 ≤ (10 : Int) ∧ (10 : Int) < 3116) ∧ tRun E 218 (41, [.inr (11, x0), .inl (0, x1), .inl (0, x2), .inl (0, x3 + 1), .inl (0, x4 + 1), .inl (0, x5 + 1), .inl (0, y0)], [], 0, 0, mset (mset (mset (mset (mset (mset d (x0 + 1) (y0 + 0) x2) (x0 + 1) (y0 + 1) x1) (x0 + 1) (y0 + 2) x5) (x0 + 1) (y0 + 3) 0) (x0 + 1) (y0 + 4) ((mset (mset (mset (mset d (x0 + 1) (y0 + 0) x2) (x0 + 1) (y0 + 1) x1) (x0 + 1) (y0 + 2) x5) (x0 + 1) (y0 + 3) 0) (x0 + 1) 0)) (x0 + 1) 10 (((mset (mset (mset (mset (mset d (x0 + 1) (y0 + 0) x2) (x0 + 1) (y0 + 1) x1) (x0 + 1) (y0 + 2) x5) (x0 + 1) (y0 + 3) 0) (x0 + 1) (y0 + 4) ((mset (mset (mset (mset d (x0 + 1) (y0 + 0) x2) (x0 + 1) (y0 + 1) x1) (x0 + 1) (y0 + 2) x5) (x0 + 1) (y0 + 3) 0) (x0 + 1) 0)) (x0 + 1) 10) + 1)) K) :
  tRun E 218 (100, [.inr (11, x0), .inl (0, x1), .inl (0, x2), .inl (0, x3), .inl (0, x4), .inl (0, x5), v6], [.inl (0, y0)], 0, 0, d) K := tT_run (cut := [0, 8, 17, 29, 41, 51, 87, 100]) 51 _ h
theorem t_219_0 {E : mO × tW} {K : tK} {d : mD} {x0 : Int}
  (h : tRun E 219 (2, [.inr (11, x0), .inl (0, 0), tu, tu], [], 0, 0, d) K) :
  tRun E 219 (0, [.inr (11, x0), tu, tu, tu], [], 0, 0, d) K := tT_run (cut := [0, 2, 39, 71, 106]) 2 _ h
theorem t_219_2 {E : mO × tW} {K : tK} {d : mD} {x0 x1 : Int} {v2 v3 : tV}
  (h : (0 ≤ (11 : Int) ∧ (11 : Int) < 3116) ∧ mInR (d (x0 + 1) 11) ∧ (d (x0 + 1) 11 ≤ 0 → K (.inl (some (0, x1))) d) ∧ (0 < d (x0 + 1) 11 → (0 ≤ (1 : Int) ∧ (1 : Int) < 3116) ∧ (0 ≤ (6 : Int) ∧ (6 : Int) < 3116) ∧ (mInR (d (x0 + 1) 1) ∧ mInR (d (x0 + 1) 6)) ∧ (d (x0 + 1) 1 < d (x0 + 1) 6 → K (.inl (some (0, x1))) d) ∧ (d (x0 + 1) 6 ≤ d (x0 + 1) 1 → (0 ≤ (2916 : Int) ∧ (2916 : Int) < 3116) ∧ tCall E 180 [.inl (0, d (x0 + 1) 2916)] d (tbk E 219 36 [.inr (11, x0), .inl (0, x1), v2, v3] [] 0 0 K)))) :
  tRun E 219 (2, [.inr (11, x0), .inl (0, x1), v2, v3], [], 0, 0, d) K := tT_run (cut := [0, 2, 39, 71, 106]) 19 _ h
theorem t_219_39 {E : mO × tW} {K : tK} {d : mD} {x0 x1 y0 : Int} {v2 v3 : tV}
  (h : (0 ≤ (1 : Int) ∧ (1 : Int) < 3116) ∧ (0 ≤ (6 : Int) ∧ (6 : Int) < 3116) ∧ (0 ≤ (1 : Int) ∧ (1 : Int) < 3116) ∧ (0 ≤ y0 + 0 ∧ y0 + 0 < 3116) ∧ tCall E 178 [.inl (0, (mset d (x0 + 1) 1 ((d (x0 + 1) 1) - (d (x0 + 1) 6))) (x0 + 1) (y0 + 0))] (mset d (x0 + 1) 1 ((d (x0 + 1) 1) - (d (x0 + 1) 6))) (tbk E 219 68 [.inr (11, x0), .inl (0, x1), .inl (0, y0), v3] [.inr (25, x0 + 1)] 0 0 K)) :
  tRun E 219 (39, [.inr (11, x0), .inl (0, x1), v2, v3], [.inl (0, y0)], 0, 0, d) K := tT_run (cut := [0, 2, 39, 71, 106]) 21 _ h
theorem t_219_71 {E : mO × tW} {K : tK} {d : mD} {x0 x1 x2 y0 y1 : Int} {v3 : tV}
  (h : (0 ≤ y1 + 1 ∧ y1 + 1 < 3116) ∧ (0 ≤ (6 : Int) ∧ (6 : Int) < 3116) ∧ (0 ≤ y1 + 1 ∧ y1 + 1 < 3116) ∧ (0 ≤ x2 + 3 ∧ x2 + 3 < 3116) ∧ (0 ≤ (11 : Int) ∧ (11 : Int) < 3116) ∧ (0 ≤ (11 : Int) ∧ (11 : Int) < 3116) ∧ tRun E 219 (106, [.inr (11, x0), .inl (0, x1), .inl (0, x2), .inl (0, 0)], [], 0, 0, mset (mset (mset d y0 (y1 + 1) ((d y0 (y1 + 1)) + (d (x0 + 1) 6))) (x0 + 1) (x2 + 3) 2) (x0 + 1) 11 (((mset (mset d y0 (y1 + 1) ((d y0 (y1 + 1)) + (d (x0 + 1) 6))) (x0 + 1) (x2 + 3) 2) (x0 + 1) 11) - 1)) K) :
  tRun E 219 (71, [.inr (11, x0), .inl (0, x1), .inl (0, x2), v3], [.inl (0, y1), .inr (25, y0)], 0, 0, d) K := tT_run (cut := [0, 2, 39, 71, 106]) 27 _ h
theorem t_219_106 {E : mO × tW} {K : tK} {d : mD} {x0 x1 x2 x3 : Int}
  (h : (0 ≤ (11 : Int) ∧ (11 : Int) < 3116) ∧ (mInR x3 ∧ mInR (d (x0 + 1) 11)) ∧ (d (x0 + 1) 11 ≤ x3 → tRun E 219 (2, [.inr (11, x0), .inl (0, x1 + 1), .inl (0, x2), .inl (0, x3)], [], 0, 0, d) K) ∧ (x3 < d (x0 + 1) 11 → (0 ≤ (2916 + x3) + 1 ∧ (2916 + x3) + 1 < 3116) ∧ (0 ≤ 2916 + x3 ∧ 2916 + x3 < 3116) ∧ tRun E 219 (106, [.inr (11, x0), .inl (0, x1), .inl (0, x2), .inl (0, x3 + 1)], [], 0, 0, mset d (x0 + 1) (2916 + x3) (d (x0 + 1) ((2916 + x3) + 1))) K)) :
  tRun E 219 (106, [.inr (11, x0), .inl (0, x1), .inl (0, x2), .inl (0, x3)], [], 0, 0, d) K := tT_run (cut := [0, 2, 39, 71, 106]) 22 _ h
theorem t_220_0 {E : mO × tW} {K : tK} {d : mD} {x0 x1 x2 : Int}
  (h : tCall E 177 [.inl (0, x1)] d (tbk E 220 1 [.inr (11, x0), .inl (0, x1), .inl (0, x2), tu, tu] [] 0 0 K)) :
  tRun E 220 (0, [.inr (11, x0), .inl (0, x1), .inl (0, x2), tu, tu], [], 0, 0, d) K := tT_run (cut := [0, 4, 20]) 2 _ h
theorem t_220_4 {E : mO × tW} {K : tK} {d : mD} {x0 x1 x2 y0 : Int}
  (h : (0 ≤ y0 + 5 ∧ y0 + 5 < 3116) ∧ (0 ≤ y0 + 5 ∧ y0 + 5 < 3116) ∧ tRun E 220 (20, [.inr (11, x0), .inl (0, x1), .inl (0, x2), .inl (0, y0), .inl (0, x2)], [], 0, 0, mset d (x0 + 1) (y0 + 5) ((d (x0 + 1) (y0 + 5)) - 1)) K) :
  tRun E 220 (4, [.inr (11, x0), .inl (0, x1), .inl (0, x2), tu, tu], [.inl (0, y0)], 0, 0, d) K := tT_run (cut := [0, 4, 20]) 13 _ h
theorem t_220_20 {E : mO × tW} {K : tK} {d : mD} {x0 x1 x2 x3 x4 : Int}
  (h : (0 ≤ x3 + 5 ∧ x3 + 5 < 3116) ∧ (mInR x4 ∧ mInR (d (x0 + 1) (x3 + 5))) ∧ (d (x0 + 1) (x3 + 5) ≤ x4 → K (.inl none) d) ∧ (x4 < d (x0 + 1) (x3 + 5) → (0 ≤ ((x3 + 7) + x4) + 1 ∧ ((x3 + 7) + x4) + 1 < 3116) ∧ (0 ≤ (x3 + 7) + x4 ∧ (x3 + 7) + x4 < 3116) ∧ tRun E 220 (20, [.inr (11, x0), .inl (0, x1), .inl (0, x2), .inl (0, x3), .inl (0, x4 + 1)], [], 0, 0, mset d (x0 + 1) ((x3 + 7) + x4) (d (x0 + 1) (((x3 + 7) + x4) + 1))) K)) :
  tRun E 220 (20, [.inr (11, x0), .inl (0, x1), .inl (0, x2), .inl (0, x3), .inl (0, x4)], [], 0, 0, d) K := tT_run (cut := [0, 4, 20]) 28 _ h
theorem t_221_0 {E : mO × tW} {K : tK} {d : mD} {x0 x1 : Int}
  (h : tCall E 179 [.inl (0, x1)] d (tbk E 221 5 [.inr (11, x0), .inl (0, x1), tu, tu] [.inr (25, x0 + 1)] 0 0 K)) :
  tRun E 221 (0, [.inr (11, x0), .inl (0, x1), tu, tu], [], 0, 0, d) K := tT_run (cut := [0, 8, 14, 17]) 4 _ h
theorem t_221_8 {E : mO × tW} {K : tK} {d : mD} {x0 x1 y0 y1 : Int}
  (h : (0 ≤ y1 + 1 ∧ y1 + 1 < 3116) ∧ tCall E 177 [.inl (0, d y0 (y1 + 1))] d (tbk E 221 11 [.inr (11, x0), .inl (0, x1), tu, tu] [] 0 0 K)) :
  tRun E 221 (8, [.inr (11, x0), .inl (0, x1), tu, tu], [.inl (0, y1), .inr (25, y0)], 0, 0, d) K := tT_run (cut := [0, 8, 14, 17]) 4 _ h
theorem t_221_14 {E : mO × tW} {K : tK} {d : mD} {x0 x1 y0 : Int}
  (h : tRun E 221 (17, [.inr (11, x0), .inl (0, x1), .inl (0, y0), .inl (0, 0)], [], 0, 0, d) K) :
  tRun E 221 (14, [.inr (11, x0), .inl (0, x1), tu, tu], [.inl (0, y0)], 0, 0, d) K := tT_run (cut := [0, 8, 14, 17]) 3 _ h
theorem t_221_17 {E : mO × tW} {K : tK} {d : mD} {x0 x1 x2 x3 : Int}
  (h : (0 ≤ x2 + 5 ∧ x2 + 5 < 3116) ∧ (mInR x3 ∧ mInR (d (x0 + 1) (x2 + 5))) ∧ (d (x0 + 1) (x2 + 5) ≤ x3 → K (.inl (some (0, (-1)))) d) ∧ (x3 < d (x0 + 1) (x2 + 5) → (0 ≤ (x2 + 7) + x3 ∧ (x2 + 7) + x3 < 3116) ∧ (mInR (d (x0 + 1) ((x2 + 7) + x3)) ∧ mInR x1) ∧ (¬ d (x0 + 1) ((x2 + 7) + x3) = x1 → tRun E 221 (17, [.inr (11, x0), .inl (0, x1), .inl (0, x2), .inl (0, x3 + 1)], [], 0, 0, d) K) ∧ (d (x0 + 1) ((x2 + 7) + x3) = x1 → K (.inl (some (0, x3))) d))) :
  tRun E 221 (17, [.inr (11, x0), .inl (0, x1), .inl (0, x2), .inl (0, x3)], [], 0, 0, d) K := tT_run (cut := [0, 8, 14, 17]) 20 _ h
theorem t_222_0 {E : mO × tW} {K : tK} {d : mD} {x0 x1 : Int}
  (h : tCall E 177 [.inl (0, x1)] d (tbk E 222 1 [.inr (11, x0), .inl (0, x1), tu, tu, tu] [] 0 0 K)) :
  tRun E 222 (0, [.inr (11, x0), .inl (0, x1), tu, tu, tu], [], 0, 0, d) K := tT_run (cut := [0, 4, 7, 42, 88]) 2 _ h
theorem t_222_4 {E : mO × tW} {K : tK} {d : mD} {x0 x1 y0 : Int}
  (h : tRun E 222 (7, [.inr (11, x0), .inl (0, x1), .inl (0, y0), .inl (0, 0), tu], [], 0, 0, d) K) :
  tRun E 222 (4, [.inr (11, x0), .inl (0, x1), tu, tu, tu], [.inl (0, y0)], 0, 0, d) K := tT_run (cut := [0, 4, 7, 42, 88]) 3 _ h
theorem t_222_7 {E : mO × tW} {K : tK} {d : mD} {x0 x1 x2 x3 : Int} {v4 : tV}
  (h : (0 ≤ x2 + 1 ∧ x2 + 1 < 3116) ∧ (mInR x3 ∧ mInR (d (x0 + 1) (x2 + 1))) ∧ (d (x0 + 1) (x2 + 1) ≤ x3 → K (.inl none) d) ∧ (x3 < d (x0 + 1) (x2 + 1) → (0 ≤ x2 + 5 ∧ x2 + 5 < 3116) ∧ mInR (d (x0 + 1) (x2 + 5)) ∧ (d (x0 + 1) (x2 + 5) ≤ 0 → K (.inl none) d) ∧ (0 < d (x0 + 1) (x2 + 5) → (0 ≤ x2 + 7 ∧ x2 + 7 < 3116) ∧ tCall E 179 [.inl (0, d (x0 + 1) (x2 + 7))] d (tbk E 222 39 [.inr (11, x0), .inl (0, x1), .inl (0, x2), .inl (0, x3), v4] [] 0 0 K)))) :
  tRun E 222 (7, [.inr (11, x0), .inl (0, x1), .inl (0, x2), .inl (0, x3), v4], [], 0, 0, d) K := tT_run (cut := [0, 4, 7, 42, 88]) 22 _ h
theorem t_222_42 {E : mO × tW} {K : tK} {d : mD} {x0 x1 x2 x3 y0 : Int} {v4 : tV}
  (h : (0 ≤ y0 + 4 ∧ y0 + 4 < 3116) ∧ (0 ≤ (0 : Int) ∧ (0 : Int) < 3116) ∧ (0 ≤ y0 + 3 ∧ y0 + 3 < 3116) ∧ (0 ≤ x2 + 6 ∧ x2 + 6 < 3116) ∧ (0 ≤ x2 + 6 ∧ x2 + 6 < 3116) ∧ tCall E 220 [.inr (11, x0), .inl (0, x1), .inl (0, 0)] (mset (mset (mset d (x0 + 1) (y0 + 4) 1) (x0 + 1) (y0 + 3) ((mset d (x0 + 1) (y0 + 4) 1) (x0 + 1) 0)) (x0 + 1) (x2 + 6) (((mset (mset d (x0 + 1) (y0 + 4) 1) (x0 + 1) (y0 + 3) ((mset d (x0 + 1) (y0 + 4) 1) (x0 + 1) 0)) (x0 + 1) (x2 + 6)) + 1)) (tbk E 222 85 [.inr (11, x0), .inl (0, x1), .inl (0, x2), .inl (0, x3), .inl (0, y0)] [] 0 0 K)) :
  tRun E 222 (42, [.inr (11, x0), .inl (0, x1), .inl (0, x2), .inl (0, x3), v4], [.inl (0, y0)], 0, 0, d) K := tT_run (cut := [0, 4, 7, 42, 88]) 32 _ h
theorem t_222_88 {E : mO × tW} {K : tK} {d : mD} {x0 x1 x2 x3 x4 : Int}
  (h : tRun E 222 (7, [.inr (11, x0), .inl (0, x1), .inl (0, x2), .inl (0, x3 + 1), .inl (0, x4)], [], 0, 0, d) K) :
  tRun E 222 (88, [.inr (11, x0), .inl (0, x1), .inl (0, x2), .inl (0, x3), .inl (0, x4)], [], 0, 0, d) K := tT_run (cut := [0, 4, 7, 42, 88]) 2 _ h
theorem t_223_0 {E : mO × tW} {K : tK} {d : mD} {x0 : Int}
  (h : (0 ≤ (0 : Int) ∧ (0 : Int) < 3116) ∧ (0 ≤ (0 : Int) ∧ (0 : Int) < 3116) ∧ tRun E 223 (12, [.inr (11, x0), .inl (0, 0), tu], [], 0, 0, mset d (x0 + 1) 0 ((d (x0 + 1) 0) + 1)) K) :
  tRun E 223 (0, [.inr (11, x0), tu, tu], [], 0, 0, d) K := tT_run (cut := [0, 12, 31, 51, 63, 71, 102, 114, 125]) 10 _ h
theorem t_223_12 {E : mO × tW} {K : tK} {d : mD} {x0 x1 : Int}
  (h : (0 ≤ (7 : Int) ∧ (7 : Int) < 3116) ∧ (mInR x1 ∧ mInR (d (x0 + 1) 7)) ∧ (d (x0 + 1) 7 ≤ x1 → tRun E 223 (71, [.inr (11, x0), .inl (0, 0), tu], [], 0, 0, d) K) ∧ (x1 < d (x0 + 1) 7 → tCall E 177 [.inl (0, x1)] d (tbk E 223 28 [.inr (11, x0), .inl (0, x1), tu] [.inr (25, x0 + 1)] 0 0 K))) :
  tRun E 223 (12, [.inr (11, x0), .inl (0, x1), tu], [], 0, 0, d) K := tT_run (cut := [0, 12, 31, 51, 63, 71, 102, 114, 125]) 10 _ h
theorem t_223_31 {E : mO × tW} {K : tK} {d : mD} {x0 x1 y0 y1 : Int}
  (h : (0 ≤ y1 + 4 ∧ y1 + 4 < 3116) ∧ mInR (d y0 (y1 + 4)) ∧ (d y0 (y1 + 4) = 0 → tRun E 223 (63, [.inr (11, x0), .inl (0, x1), tu], [], 0, 0, d) K) ∧ (¬ d y0 (y1 + 4) = 0 → (0 ≤ (0 : Int) ∧ (0 : Int) < 3116) ∧ tCall E 177 [.inl (0, x1)] d (tbk E 223 48 [.inr (11, x0), .inl (0, x1), tu] [.inr (25, x0 + 1), .inl (0, d (x0 + 1) 0)] 0 0 K))) :
  tRun E 223 (31, [.inr (11, x0), .inl (0, x1), tu], [.inl (0, y1), .inr (25, y0)], 0, 0, d) K := tT_run (cut := [0, 12, 31, 51, 63, 71, 102, 114, 125]) 12 _ h
theorem t_223_51 {E : mO × tW} {K : tK} {d : mD} {x0 x1 y0 y1 y2 : Int}
  (h : (0 ≤ y2 + 2 ∧ y2 + 2 < 3116) ∧ (0 ≤ y0 ∧ y0 ≤ 2147483647 ∧ 0 < d y1 (y2 + 2) ∧ d y1 (y2 + 2) ≤ 2147483647) ∧ mInR (y0 % (d y1 (y2 + 2))) ∧ (¬ y0 % (d y1 (y2 + 2)) = 0 → tRun E 223 (63, [.inr (11, x0), .inl (0, x1), tu], [], 0, 0, d) K) ∧ (y0 % (d y1 (y2 + 2)) = 0 → tCall E 222 [.inr (11, x0), .inl (0, x1)] d (tbk E 223 60 [.inr (11, x0), .inl (0, x1), tu] [] 0 0 K))) :
  tRun E 223 (51, [.inr (11, x0), .inl (0, x1), tu], [.inl (0, y2), .inr (25, y1), .inl (0, y0)], 0, 0, d) K := tT_run (cut := [0, 12, 31, 51, 63, 71, 102, 114, 125]) 8 _ h
theorem t_223_63 {E : mO × tW} {K : tK} {d : mD} {x0 x1 : Int}
  (h : tRun E 223 (12, [.inr (11, x0), .inl (0, x1 + 1), tu], [], 0, 0, d) K) :
  tRun E 223 (63, [.inr (11, x0), .inl (0, x1), tu], [], 0, 0, d) K := tT_run (cut := [0, 12, 31, 51, 63, 71, 102, 114, 125]) 2 _ h
theorem t_223_71 {E : mO × tW} {K : tK} {d : mD} {x0 x1 : Int} {v2 : tV}
  (h : (0 ≤ (9 : Int) ∧ (9 : Int) < 3116) ∧ (mInR x1 ∧ mInR (d (x0 + 1) 9)) ∧ (d (x0 + 1) 9 ≤ x1 → tCall E 219 [.inr (11, x0)] d (tbk E 223 122 [.inr (11, x0), .inl (0, x1), v2] [] 0 0 K)) ∧ (x1 < d (x0 + 1) 9 → (0 ≤ (0 : Int) ∧ (0 : Int) < 3116) ∧ (0 ≤ d (x0 + 1) 0 ∧ d (x0 + 1) 0 ≤ 2147483647 ∧ 0 < (20 : Int) ∧ (20 : Int) ≤ 2147483647) ∧ mInR ((d (x0 + 1) 0) % 20) ∧ (¬ (d (x0 + 1) 0) % 20 = 0 → tCall E 219 [.inr (11, x0)] d (tbk E 223 122 [.inr (11, x0), .inl (0, x1), v2] [] 0 0 K)) ∧ ((d (x0 + 1) 0) % 20 = 0 → tCall E 179 [.inl (0, x1)] d (tbk E 223 99 [.inr (11, x0), .inl (0, x1), v2] [.inr (25, x0 + 1)] 0 0 K)))) :
  tRun E 223 (71, [.inr (11, x0), .inl (0, x1), v2], [], 0, 0, d) K := tT_run (cut := [0, 12, 31, 51, 63, 71, 102, 114, 125]) 17 _ h
theorem t_223_102 {E : mO × tW} {K : tK} {d : mD} {x0 x1 y0 y1 : Int} {v2 : tV}
  (h : (0 ≤ y1 + 6 ∧ y1 + 6 < 3116) ∧ mInR (d y0 (y1 + 6)) ∧ (d y0 (y1 + 6) = 0 → tRun E 223 (71, [.inr (11, x0), .inl (0, x1 + 1), v2], [], 0, 0, d) K) ∧ (¬ d y0 (y1 + 6) = 0 → tCall E 218 [.inr (11, x0), .inl (0, x1)] d (tbk E 223 111 [.inr (11, x0), .inl (0, x1), v2] [] 0 0 K))) :
  tRun E 223 (102, [.inr (11, x0), .inl (0, x1), v2], [.inl (0, y1), .inr (25, y0)], 0, 0, d) K := tT_run (cut := [0, 12, 31, 51, 63, 71, 102, 114, 125]) 7 _ h
theorem t_223_114 {E : mO × tW} {K : tK} {d : mD} {x0 x1 y0 : Int} {v2 : tV}
  (h : tRun E 223 (71, [.inr (11, x0), .inl (0, x1 + 1), .inl (0, y0)], [], 0, 0, d) K) :
  tRun E 223 (114, [.inr (11, x0), .inl (0, x1), v2], [.inl (0, y0)], 0, 0, d) K := tT_run (cut := [0, 12, 31, 51, 63, 71, 102, 114, 125]) 3 _ h
theorem t_223_125 {E : mO × tW} {K : tK} {d : mD} {x0 x1 y0 : Int} {v2 : tV}
  (h : K (.inl none) d) :
  tRun E 223 (125, [.inr (11, x0), .inl (0, x1), v2], [.inl (0, y0)], 0, 0, d) K := tT_run (cut := [0, 12, 31, 51, 63, 71, 102, 114, 125]) 2 _ h
theorem t_224_0 {E : mO × tW} {K : tK} {d : mD} {x0 x1 x2 : Int}
  (h : (0 ≤ (9 : Int) ∧ (9 : Int) < 3116) ∧ tCall E 179 [.inl (0, d (x0 + 1) 9)] d (tbk E 224 9 [.inr (11, x0), .inl (0, x1), .inl (0, x2), .inl (0, d (x0 + 1) 9), tu, tu] [] 0 0 K)) :
  tRun E 224 (0, [.inr (11, x0), .inl (0, x1), .inl (0, x2), tu, tu, tu], [], 0, 0, d) K := tT_run (cut := [0, 12, 17, 90]) 7 _ h
theorem t_224_12 {E : mO × tW} {K : tK} {d : mD} {x0 x1 x2 x3 y0 : Int}
  (h : tRun E 224 (17, [.inr (11, x0), .inl (0, x1), .inl (0, x2), .inl (0, x3), .inl (0, y0), .inl (0, 0)], [], 0, 0, d) K) :
  tRun E 224 (12, [.inr (11, x0), .inl (0, x1), .inl (0, x2), .inl (0, x3), tu, tu], [.inl (0, y0)], 0, 0, d) K := tT_run (cut := [0, 12, 17, 90]) 3 _ h
theorem t_224_17 {E : mO × tW} {K : tK} {d : mD} {x0 x1 x2 x3 x4 x5 : Int}
  (h : (mInR x5 ∧ mInR 24) ∧ (24 ≤ x5 → (0 ≤ x4 + 0 ∧ x4 + 0 < 3116) ∧ (0 ≤ x4 + 1 ∧ x4 + 1 < 3116) ∧ (0 ≤ (0 : Int) ∧ (0 : Int) < 3116) ∧ (0 ≤ x4 + 2 ∧ x4 + 2 < 3116) ∧ (0 ≤ x4 + 3 ∧ x4 + 3 < 3116) ∧ tCall E 177 [.inl (0, x2)] (mset (mset (mset (mset d (x0 + 1) (x4 + 0) x1) (x0 + 1) (x4 + 1) x2) (x0 + 1) (x4 + 2) ((mset (mset d (x0 + 1) (x4 + 0) x1) (x0 + 1) (x4 + 1) x2) (x0 + 1) 0)) (x0 + 1) (x4 + 3) ((-1))) (tbk E 224 87 [.inr (11, x0), .inl (0, x1), .inl (0, x2), .inl (0, x3), .inl (0, x4), .inl (0, x5)] [] 0 0 K)) ∧ (x5 < 24 → (0 ≤ x4 + x5 ∧ x4 + x5 < 3116) ∧ tRun E 224 (17, [.inr (11, x0), .inl (0, x1), .inl (0, x2), .inl (0, x3), .inl (0, x4), .inl (0, x5 + 1)], [], 0, 0, mset d (x0 + 1) (x4 + x5) 0) K)) :
  tRun E 224 (17, [.inr (11, x0), .inl (0, x1), .inl (0, x2), .inl (0, x3), .inl (0, x4), .inl (0, x5)], [], 0, 0, d) K := tT_run (cut := [0, 12, 17, 90]) 36 _ h
theorem t_224_90 {E : mO × tW} {K : tK} {d : mD} {x0 x1 x2 x3 x4 x5 y0 : Int}
  (h : (0 ≤ y0 + 5 ∧ y0 + 5 < 3116) ∧ (0 ≤ (y0 + 7) + (d (x0 + 1) (y0 + 5)) ∧ (y0 + 7) + (d (x0 + 1) (y0 + 5)) < 3116) ∧ (0 ≤ y0 + 5 ∧ y0 + 5 < 3116) ∧ (0 ≤ y0 + 5 ∧ y0 + 5 < 3116) ∧ (0 ≤ (9 : Int) ∧ (9 : Int) < 3116) ∧ (0 ≤ (9 : Int) ∧ (9 : Int) < 3116) ∧ K (.inl (some (0, x3))) (mset (mset (mset d (x0 + 1) ((y0 + 7) + (d (x0 + 1) (y0 + 5))) x3) (x0 + 1) (y0 + 5) (((mset d (x0 + 1) ((y0 + 7) + (d (x0 + 1) (y0 + 5))) x3) (x0 + 1) (y0 + 5)) + 1)) (x0 + 1) 9 (((mset (mset d (x0 + 1) ((y0 + 7) + (d (x0 + 1) (y0 + 5))) x3) (x0 + 1) (y0 + 5) (((mset d (x0 + 1) ((y0 + 7) + (d (x0 + 1) (y0 + 5))) x3) (x0 + 1) (y0 + 5)) + 1)) (x0 + 1) 9) + 1))) :
  tRun E 224 (90, [.inr (11, x0), .inl (0, x1), .inl (0, x2), .inl (0, x3), .inl (0, x4), .inl (0, x5)], [.inl (0, y0)], 0, 0, d) K := tT_run (cut := [0, 12, 17, 90]) 35 _ h
theorem t_225_0 {E : mO × tW} {K : tK} {d : mD} {x0 x1 x2 : Int}
  (h : tCall E 177 [.inl (0, x2)] d (tbk E 225 1 [.inr (11, x0), .inl (0, x1), .inl (0, x2), tu, tu, tu] [] 0 0 K)) :
  tRun E 225 (0, [.inr (11, x0), .inl (0, x1), .inl (0, x2), tu, tu, tu], [], 0, 0, d) K := tT_run (cut := [0, 4, 57, 91]) 2 _ h
theorem t_225_4 {E : mO × tW} {K : tK} {d : mD} {x0 x1 x2 y0 : Int}
  (h : (0 ≤ (9 : Int) ∧ (9 : Int) < 3116) ∧ (mInR (d (x0 + 1) 9) ∧ mInR 60) ∧ (60 ≤ d (x0 + 1) 9 → tRun E 225 (57, [.inr (11, x0), .inl (0, x1), .inl (0, x2), .inl (0, y0), .inl (0, 0), .inl (0, 0)], [], 0, 0, d) K) ∧ (d (x0 + 1) 9 < 60 → (0 ≤ y0 + 4 ∧ y0 + 4 < 3116) ∧ mInR (d (x0 + 1) (y0 + 4)) ∧ (d (x0 + 1) (y0 + 4) = 0 → tRun E 225 (57, [.inr (11, x0), .inl (0, x1), .inl (0, x2), .inl (0, y0), .inl (0, 0), .inl (0, 0)], [], 0, 0, d) K) ∧ (¬ d (x0 + 1) (y0 + 4) = 0 → (0 ≤ y0 + 5 ∧ y0 + 5 < 3116) ∧ (0 ≤ y0 + 3 ∧ y0 + 3 < 3116) ∧ (mInR (d (x0 + 1) (y0 + 5)) ∧ mInR (d (x0 + 1) (y0 + 3))) ∧ (d (x0 + 1) (y0 + 3) ≤ d (x0 + 1) (y0 + 5) → tRun E 225 (57, [.inr (11, x0), .inl (0, x1), .inl (0, x2), .inl (0, y0), .inl (0, 0), .inl (0, 0)], [], 0, 0, d) K) ∧ (d (x0 + 1) (y0 + 5) < d (x0 + 1) (y0 + 3) → tRun E 225 (57, [.inr (11, x0), .inl (0, x1), .inl (0, x2), .inl (0, y0), .inl (0, 1), .inl (0, 0)], [], 0, 0, d) K)))) :
  tRun E 225 (4, [.inr (11, x0), .inl (0, x1), .inl (0, x2), tu, tu, tu], [.inl (0, y0)], 0, 0, d) K := tT_run (cut := [0, 4, 57, 91]) 32 _ h
theorem t_225_57 {E : mO × tW} {K : tK} {d : mD} {x0 x1 x2 x3 x4 x5 : Int}
  (h : (0 ≤ x3 + 5 ∧ x3 + 5 < 3116) ∧ (mInR x5 ∧ mInR (d (x0 + 1) (x3 + 5))) ∧ (d (x0 + 1) (x3 + 5) ≤ x5 → (x4 = 0 ∨ x4 = 1) ∧ K (.inl (some (0, x4))) d) ∧ (x5 < d (x0 + 1) (x3 + 5) → (0 ≤ (x3 + 7) + x5 ∧ (x3 + 7) + x5 < 3116) ∧ tCall E 179 [.inl (0, d (x0 + 1) ((x3 + 7) + x5))] d (tbk E 225 88 [.inr (11, x0), .inl (0, x1), .inl (0, x2), .inl (0, x3), .inl (0, x4), .inl (0, x5)] [.inr (25, x0 + 1), .inl (0, x4)] 0 0 K))) :
  tRun E 225 (57, [.inr (11, x0), .inl (0, x1), .inl (0, x2), .inl (0, x3), .inl (0, x4), .inl (0, x5)], [], 0, 0, d) K := tT_run (cut := [0, 4, 57, 91]) 20 _ h
theorem t_225_91 {E : mO × tW} {K : tK} {d : mD} {x0 x1 x2 x3 x4 x5 y0 y1 y2 : Int}
  (h : (0 ≤ y2 + 0 ∧ y2 + 0 < 3116) ∧ (mInR (d y1 (y2 + 0)) ∧ mInR x1) ∧ (d y1 (y2 + 0) = x1 → tRun E 225 (57, [.inr (11, x0), .inl (0, x1), .inl (0, x2), .inl (0, x3), .inl (0, miand y0 0), .inl (0, x5 + 1)], [], 0, 0, d) K) ∧ (¬ d y1 (y2 + 0) = x1 → tRun E 225 (57, [.inr (11, x0), .inl (0, x1), .inl (0, x2), .inl (0, x3), .inl (0, miand y0 1), .inl (0, x5 + 1)], [], 0, 0, d) K)) :
  tRun E 225 (91, [.inr (11, x0), .inl (0, x1), .inl (0, x2), .inl (0, x3), .inl (0, x4), .inl (0, x5)], [.inl (0, y2), .inr (25, y1), .inl (0, y0)], 0, 0, d) K := tT_run (cut := [0, 4, 57, 91]) 11 _ h
theorem t_226_0 {E : mO × tW} {K : tK} {d : mD} {x0 x1 x2 : Int}
  (h : tCall E 224 [.inr (11, x0), .inl (0, x1), .inl (0, x2)] d (tbk E 226 3 [.inr (11, x0), .inl (0, x1), .inl (0, x2)] [] 0 0 K)) :
  tRun E 226 (0, [.inr (11, x0), .inl (0, x1), .inl (0, x2)], [], 0, 0, d) K := tT_run (cut := [0, 6]) 4 _ h
theorem t_226_6 {E : mO × tW} {K : tK} {d : mD} {x0 x1 x2 y0 : Int}
  (h : K (.inl (some (0, y0))) d) :
  tRun E 226 (6, [.inr (11, x0), .inl (0, x1), .inl (0, x2)], [.inl (0, y0)], 0, 0, d) K := tT_run (cut := [0, 6]) 1 _ h
theorem t_227_0 {E : mO × tW} {K : tK} {d : mD} {x0 x1 : Int}
  (h : tCall E 179 [.inl (0, x1)] d (tbk E 227 5 [.inr (11, x0), .inl (0, x1)] [.inr (25, x0 + 1)] 0 0 K)) :
  tRun E 227 (0, [.inr (11, x0), .inl (0, x1)], [], 0, 0, d) K := tT_run (cut := [0, 8, 23]) 4 _ h
theorem t_227_8 {E : mO × tW} {K : tK} {d : mD} {x0 x1 y0 y1 : Int}
  (h : (0 ≤ y1 + 4 ∧ y1 + 4 < 3116) ∧ (mInR (d y0 (y1 + 4)) ∧ mInR 1) ∧ (¬ d y0 (y1 + 4) = 1 → ((0 : Int) = 0 ∨ (0 : Int) = 1) ∧ K (.inl (some (0, 0))) d) ∧ (d y0 (y1 + 4) = 1 → tCall E 179 [.inl (0, x1)] d (tbk E 227 20 [.inr (11, x0), .inl (0, x1)] [.inr (25, x0 + 1)] 0 0 K))) :
  tRun E 227 (8, [.inr (11, x0), .inl (0, x1)], [.inl (0, y1), .inr (25, y0)], 0, 0, d) K := tT_run (cut := [0, 8, 23]) 9 _ h
theorem t_227_23 {E : mO × tW} {K : tK} {d : mD} {x0 x1 y0 y1 : Int}
  (h : (0 ≤ y1 + 5 ∧ y1 + 5 < 3116) ∧ mInR (d y0 (y1 + 5)) ∧ (¬ d y0 (y1 + 5) = 0 → ((0 : Int) = 0 ∨ (0 : Int) = 1) ∧ K (.inl (some (0, 0))) d) ∧ (d y0 (y1 + 5) = 0 → ((1 : Int) = 0 ∨ (1 : Int) = 1) ∧ K (.inl (some (0, 1))) d)) :
  tRun E 227 (23, [.inr (11, x0), .inl (0, x1)], [.inl (0, y1), .inr (25, y0)], 0, 0, d) K := tT_run (cut := [0, 8, 23]) 7 _ h
theorem t_228_0 {E : mO × tW} {K : tK} {d : mD} {x0 x1 : Int}
  (h : tCall E 179 [.inl (0, x1)] d (tbk E 228 5 [.inr (11, x0), .inl (0, x1)] [.inr (25, x0 + 1)] 0 0 K)) :
  tRun E 228 (0, [.inr (11, x0), .inl (0, x1)], [], 0, 0, d) K := tT_run (cut := [0, 8, 31, 41]) 4 _ h
theorem t_228_8 {E : mO × tW} {K : tK} {d : mD} {x0 x1 y0 y1 : Int}
  (h : (0 ≤ y1 + 5 ∧ y1 + 5 < 3116) ∧ (0 ≤ (3 : Int) ∧ (3 : Int) < 3116) ∧ mInR ((mset d y0 (y1 + 5) 1) (x0 + 1) 3) ∧ ((mset d y0 (y1 + 5) 1) (x0 + 1) 3 ≤ 0 → tCall E 179 [.inl (0, x1)] (mset d y0 (y1 + 5) 1) (tbk E 228 28 [.inr (11, x0), .inl (0, x1)] [.inr (25, x0 + 1)] 0 0 K)) ∧ (0 < (mset d y0 (y1 + 5) 1) (x0 + 1) 3 → K (.inl (some (0, 0))) (mset d y0 (y1 + 5) 1))) :
  tRun E 228 (8, [.inr (11, x0), .inl (0, x1)], [.inl (0, y1), .inr (25, y0)], 0, 0, d) K := tT_run (cut := [0, 8, 31, 41]) 13 _ h
theorem t_228_31 {E : mO × tW} {K : tK} {d : mD} {x0 x1 y0 y1 : Int}
  (h : (0 ≤ y1 + 6 ∧ y1 + 6 < 3116) ∧ tCall E 218 [.inr (11, x0), .inl (0, x1)] (mset d y0 (y1 + 6) 1) (tbk E 228 38 [.inr (11, x0), .inl (0, x1)] [] 0 0 K)) :
  tRun E 228 (31, [.inr (11, x0), .inl (0, x1)], [.inl (0, y1), .inr (25, y0)], 0, 0, d) K := tT_run (cut := [0, 8, 31, 41]) 7 _ h
theorem t_228_41 {E : mO × tW} {K : tK} {d : mD} {x0 x1 y0 : Int}
  (h : K (.inl (some (0, y0))) d) :
  tRun E 228 (41, [.inr (11, x0), .inl (0, x1)], [.inl (0, y0)], 0, 0, d) K := tT_run (cut := [0, 8, 31, 41]) 1 _ h
theorem t_229_0 {E : mO × tW} {K : tK} {d : mD} {x0 x1 x2 : Int}
  (h : tCall E 177 [.inl (0, x1)] d (tbk E 229 1 [.inr (11, x0), .inl (0, x1), .inl (0, x2), tu, tu, tu, tu, tu, tu] [] 0 0 K)) :
  tRun E 229 (0, [.inr (11, x0), .inl (0, x1), .inl (0, x2), tu, tu, tu, tu, tu, tu], [], 0, 0, d) K := tT_run (cut := [0, 4, 9, 23, 61, 88, 100, 177, 199, 229, 237, 266, 332]) 2 _ h
theorem t_229_4 {E : mO × tW} {K : tK} {d : mD} {x0 x1 x2 y0 : Int}
  (h : tCall E 177 [.inl (0, x2)] d (tbk E 229 6 [.inr (11, x0), .inl (0, x1), .inl (0, x2), .inl (0, y0), tu, tu, tu, tu, tu] [] 0 0 K)) :
  tRun E 229 (4, [.inr (11, x0), .inl (0, x1), .inl (0, x2), tu, tu, tu, tu, tu, tu], [.inl (0, y0)], 0, 0, d) K := tT_run (cut := [0, 4, 9, 23, 61, 88, 100, 177, 199, 229, 237, 266, 332]) 3 _ h
theorem t_229_9 {E : mO × tW} {K : tK} {d : mD} {x0 x1 x2 x3 y0 : Int}
  (h : (0 ≤ x3 + 4 ∧ x3 + 4 < 3116) ∧ tRun E 229 (23, [.inr (11, x0), .inl (0, x1), .inl (0, x2), .inl (0, x3), .inl (0, y0), .inl (0, 0), tu, tu, tu], [], 0, 0, mset d (x0 + 1) (x3 + 4) 0) K) :
  tRun E 229 (9, [.inr (11, x0), .inl (0, x1), .inl (0, x2), .inl (0, x3), tu, tu, tu, tu, tu], [.inl (0, y0)], 0, 0, d) K := tT_run (cut := [0, 4, 9, 23, 61, 88, 100, 177, 199, 229, 237, 266, 332]) 10 _ h
theorem t_229_23 {E : mO × tW} {K : tK} {d : mD} {x0 x1 x2 x3 x4 x5 : Int} {v6 v7 : tV}
  (h : (0 ≤ x3 + 5 ∧ x3 + 5 < 3116) ∧ (mInR x5 ∧ mInR (d (x0 + 1) (x3 + 5))) ∧ (d (x0 + 1) (x3 + 5) ≤ x5 → (0 ≤ x3 + 5 ∧ x3 + 5 < 3116) ∧ tRun E 229 (199, [.inr (11, x0), .inl (0, x1), .inl (0, x2), .inl (0, x3), .inl (0, x4), .inl (0, 0), v6, v7, tu], [], 0, 0, mset d (x0 + 1) (x3 + 5) 0) K) ∧ (x5 < d (x0 + 1) (x3 + 5) → (0 ≤ (x3 + 7) + x5 ∧ (x3 + 7) + x5 < 3116) ∧ (0 ≤ x4 + 5 ∧ x4 + 5 < 3116) ∧ tRun E 229 (61, [.inr (11, x0), .inl (0, x1), .inl (0, x2), .inl (0, x3), .inl (0, x4), .inl (0, x5), .inl (0, d (x0 + 1) ((x3 + 7) + x5)), .inl (0, d (x0 + 1) (x4 + 5)), tu], [], 0, 0, d) K)) :
  tRun E 229 (23, [.inr (11, x0), .inl (0, x1), .inl (0, x2), .inl (0, x3), .inl (0, x4), .inl (0, x5), v6, v7, tu], [], 0, 0, d) K := tT_run (cut := [0, 4, 9, 23, 61, 88, 100, 177, 199, 229, 237, 266, 332]) 24 _ h
theorem t_229_61 {E : mO × tW} {K : tK} {d : mD} {x0 x1 x2 x3 x4 x5 x6 x7 : Int}
  (h : mInR x7 ∧ (x7 ≤ 0 → (0 ≤ (x4 + 7) + x7 ∧ (x4 + 7) + x7 < 3116) ∧ (0 ≤ x4 + 5 ∧ x4 + 5 < 3116) ∧ (0 ≤ x4 + 5 ∧ x4 + 5 < 3116) ∧ tCall E 179 [.inl (0, x6)] (mset (mset d (x0 + 1) ((x4 + 7) + x7) x6) (x0 + 1) (x4 + 5) (((mset d (x0 + 1) ((x4 + 7) + x7) x6) (x0 + 1) (x4 + 5)) + 1)) (tbk E 229 174 [.inr (11, x0), .inl (0, x1), .inl (0, x2), .inl (0, x3), .inl (0, x4), .inl (0, x5), .inl (0, x6), .inl (0, x7), tu] [.inr (25, x0 + 1)] 0 0 K)) ∧ (0 < x7 → (0 ≤ ((x4 + 7) + x7) - 1 ∧ ((x4 + 7) + x7) - 1 < 3116) ∧ tCall E 179 [.inl (0, d (x0 + 1) (((x4 + 7) + x7) - 1))] d (tbk E 229 85 [.inr (11, x0), .inl (0, x1), .inl (0, x2), .inl (0, x3), .inl (0, x4), .inl (0, x5), .inl (0, x6), .inl (0, x7), tu] [.inr (25, x0 + 1)] 0 0 K))) :
  tRun E 229 (61, [.inr (11, x0), .inl (0, x1), .inl (0, x2), .inl (0, x3), .inl (0, x4), .inl (0, x5), .inl (0, x6), .inl (0, x7), tu], [], 0, 0, d) K := tT_run (cut := [0, 4, 9, 23, 61, 88, 100, 177, 199, 229, 237, 266, 332]) 25 _ h
theorem t_229_88 {E : mO × tW} {K : tK} {d : mD} {x0 x1 x2 x3 x4 x5 x6 x7 y0 y1 : Int}
  (h : (0 ≤ y1 + 2 ∧ y1 + 2 < 3116) ∧ tCall E 179 [.inl (0, x6)] d (tbk E 229 97 [.inr (11, x0), .inl (0, x1), .inl (0, x2), .inl (0, x3), .inl (0, x4), .inl (0, x5), .inl (0, x6), .inl (0, x7), tu] [.inr (25, x0 + 1), .inl (0, d y0 (y1 + 2))] 0 0 K)) :
  tRun E 229 (88, [.inr (11, x0), .inl (0, x1), .inl (0, x2), .inl (0, x3), .inl (0, x4), .inl (0, x5), .inl (0, x6), .inl (0, x7), tu], [.inl (0, y1), .inr (25, y0)], 0, 0, d) K := tT_run (cut := [0, 4, 9, 23, 61, 88, 100, 177, 199, 229, 237, 266, 332]) 7 _ h
theorem t_229_100 {E : mO × tW} {K : tK} {d : mD} {x0 x1 x2 x3 x4 x5 x6 x7 y0 y1 y2 : Int}
  (h : (0 ≤ y2 + 2 ∧ y2 + 2 < 3116) ∧ (mInR y0 ∧ mInR (d y1 (y2 + 2))) ∧ (y0 ≤ d y1 (y2 + 2) → (0 ≤ (x4 + 7) + x7 ∧ (x4 + 7) + x7 < 3116) ∧ (0 ≤ x4 + 5 ∧ x4 + 5 < 3116) ∧ (0 ≤ x4 + 5 ∧ x4 + 5 < 3116) ∧ tCall E 179 [.inl (0, x6)] (mset (mset d (x0 + 1) ((x4 + 7) + x7) x6) (x0 + 1) (x4 + 5) (((mset d (x0 + 1) ((x4 + 7) + x7) x6) (x0 + 1) (x4 + 5)) + 1)) (tbk E 229 174 [.inr (11, x0), .inl (0, x1), .inl (0, x2), .inl (0, x3), .inl (0, x4), .inl (0, x5), .inl (0, x6), .inl (0, x7), tu] [.inr (25, x0 + 1)] 0 0 K)) ∧ (d y1 (y2 + 2) < y0 → (0 ≤ ((x4 + 7) + x7) - 1 ∧ ((x4 + 7) + x7) - 1 < 3116) ∧ (0 ≤ (x4 + 7) + x7 ∧ (x4 + 7) + x7 < 3116) ∧ tRun E 229 (61, [.inr (11, x0), .inl (0, x1), .inl (0, x2), .inl (0, x3), .inl (0, x4), .inl (0, x5), .inl (0, x6), .inl (0, x7 + (-1)), tu], [], 0, 0, mset d (x0 + 1) ((x4 + 7) + x7) (d (x0 + 1) (((x4 + 7) + x7) - 1))) K)) :
  tRun E 229 (100, [.inr (11, x0), .inl (0, x1), .inl (0, x2), .inl (0, x3), .inl (0, x4), .inl (0, x5), .inl (0, x6), .inl (0, x7), tu], [.inl (0, y2), .inr (25, y1), .inl (0, y0)], 0, 0, d) K := tT_run (cut := [0, 4, 9, 23, 61, 88, 100, 177, 199, 229, 237, 266, 332]) 27 _ h
theorem t_229_177 {E : mO × tW} {K : tK} {d : mD} {x0 x1 x2 x3 x4 x5 x6 x7 y0 y1 : Int}
  (h : (0 ≤ y1 + 1 ∧ y1 + 1 < 3116) ∧ tRun E 229 (23, [.inr (11, x0), .inl (0, x1), .inl (0, x2), .inl (0, x3), .inl (0, x4), .inl (0, x5 + 1), .inl (0, x6), .inl (0, x7), tu], [], 0, 0, mset d y0 (y1 + 1) x2) K) :
  tRun E 229 (177, [.inr (11, x0), .inl (0, x1), .inl (0, x2), .inl (0, x3), .inl (0, x4), .inl (0, x5), .inl (0, x6), .inl (0, x7), tu], [.inl (0, y1), .inr (25, y0)], 0, 0, d) K := tT_run (cut := [0, 4, 9, 23, 61, 88, 100, 177, 199, 229, 237, 266, 332]) 6 _ h
theorem t_229_199 {E : mO × tW} {K : tK} {d : mD} {x0 x1 x2 x3 x4 x5 : Int} {v6 v7 v8 : tV}
  (h : (0 ≤ x4 + 5 ∧ x4 + 5 < 3116) ∧ (mInR x5 ∧ mInR (d (x0 + 1) (x4 + 5))) ∧ (d (x0 + 1) (x4 + 5) ≤ x5 → K (.inl none) d) ∧ (x5 < d (x0 + 1) (x4 + 5) → (0 ≤ (x4 + 7) + x5 ∧ (x4 + 7) + x5 < 3116) ∧ tCall E 179 [.inl (0, d (x0 + 1) ((x4 + 7) + x5))] d (tbk E 229 226 [.inr (11, x0), .inl (0, x1), .inl (0, x2), .inl (0, x3), .inl (0, x4), .inl (0, x5), v6, v7, v8] [] 0 0 K))) :
  tRun E 229 (199, [.inr (11, x0), .inl (0, x1), .inl (0, x2), .inl (0, x3), .inl (0, x4), .inl (0, x5), v6, v7, v8], [], 0, 0, d) K := tT_run (cut := [0, 4, 9, 23, 61, 88, 100, 177, 199, 229, 237, 266, 332]) 17 _ h
theorem t_229_229 {E : mO × tW} {K : tK} {d : mD} {x0 x1 x2 x3 x4 x5 y0 : Int} {v6 v7 v8 : tV}
  (h : tRun E 229 (237, [.inr (11, x0), .inl (0, x1), .inl (0, x2), .inl (0, x3), .inl (0, x4), .inl (0, x5), .inl (0, y0), .inl (0, 0), .inl (0, 0)], [], 0, 0, d) K) :
  tRun E 229 (229, [.inr (11, x0), .inl (0, x1), .inl (0, x2), .inl (0, x3), .inl (0, x4), .inl (0, x5), v6, v7, v8], [.inl (0, y0)], 0, 0, d) K := tT_run (cut := [0, 4, 9, 23, 61, 88, 100, 177, 199, 229, 237, 266, 332]) 5 _ h
theorem t_229_237 {E : mO × tW} {K : tK} {d : mD} {x0 x1 x2 x3 x4 x5 x6 x7 x8 : Int}
  (h : (mInR x8 ∧ mInR x5) ∧ (x5 ≤ x8 → mInR x7 ∧ (x7 = 0 → tRun E 229 (199, [.inr (11, x0), .inl (0, x1), .inl (0, x2), .inl (0, x3), .inl (0, x4), .inl (0, x5 + 1), .inl (0, x6), .inl (0, x7), .inl (0, x8)], [], 0, 0, d) K) ∧ (¬ x7 = 0 → (0 ≤ x6 + 4 ∧ x6 + 4 < 3116) ∧ (0 ≤ (0 : Int) ∧ (0 : Int) < 3116) ∧ (0 ≤ x6 + 3 ∧ x6 + 3 < 3116) ∧ tCall E 220 [.inr (11, x0), .inl (0, x2), .inl (0, x5)] (mset (mset d (x0 + 1) (x6 + 4) 2) (x0 + 1) (x6 + 3) ((mset d (x0 + 1) (x6 + 4) 2) (x0 + 1) 0)) (tbk E 229 329 [.inr (11, x0), .inl (0, x1), .inl (0, x2), .inl (0, x3), .inl (0, x4), .inl (0, x5), .inl (0, x6), .inl (0, x7), .inl (0, x8)] [] 0 0 K))) ∧ (x8 < x5 → (0 ≤ (x4 + 7) + x8 ∧ (x4 + 7) + x8 < 3116) ∧ tCall E 179 [.inl (0, d (x0 + 1) ((x4 + 7) + x8))] d (tbk E 229 263 [.inr (11, x0), .inl (0, x1), .inl (0, x2), .inl (0, x3), .inl (0, x4), .inl (0, x5), .inl (0, x6), .inl (0, x7), .inl (0, x8)] [.inr (25, x0 + 1), .inl (0, x7)] 0 0 K))) :
  tRun E 229 (237, [.inr (11, x0), .inl (0, x1), .inl (0, x2), .inl (0, x3), .inl (0, x4), .inl (0, x5), .inl (0, x6), .inl (0, x7), .inl (0, x8)], [], 0, 0, d) K := tT_run (cut := [0, 4, 9, 23, 61, 88, 100, 177, 199, 229, 237, 266, 332]) 26 _ h
theorem t_229_266 {E : mO × tW} {K : tK} {d : mD} {x0 x1 x2 x3 x4 x5 x6 x7 x8 y0 y1 y2 : Int}
  (h : (0 ≤ y2 + 0 ∧ y2 + 0 < 3116) ∧ (0 ≤ x6 + 0 ∧ x6 + 0 < 3116) ∧ (mInR (d y1 (y2 + 0)) ∧ mInR (d (x0 + 1) (x6 + 0))) ∧ (¬ d y1 (y2 + 0) = d (x0 + 1) (x6 + 0) → tRun E 229 (237, [.inr (11, x0), .inl (0, x1), .inl (0, x2), .inl (0, x3), .inl (0, x4), .inl (0, x5), .inl (0, x6), .inl (0, mior y0 0), .inl (0, x8 + 1)], [], 0, 0, d) K) ∧ (d y1 (y2 + 0) = d (x0 + 1) (x6 + 0) → tRun E 229 (237, [.inr (11, x0), .inl (0, x1), .inl (0, x2), .inl (0, x3), .inl (0, x4), .inl (0, x5), .inl (0, x6), .inl (0, mior y0 1), .inl (0, x8 + 1)], [], 0, 0, d) K)) :
  tRun E 229 (266, [.inr (11, x0), .inl (0, x1), .inl (0, x2), .inl (0, x3), .inl (0, x4), .inl (0, x5), .inl (0, x6), .inl (0, x7), .inl (0, x8)], [.inl (0, y2), .inr (25, y1), .inl (0, y0)], 0, 0, d) K := tT_run (cut := [0, 4, 9, 23, 61, 88, 100, 177, 199, 229, 237, 266, 332]) 16 _ h
theorem t_229_332 {E : mO × tW} {K : tK} {d : mD} {x0 x1 x2 x3 x4 x5 x6 x7 x8 : Int}
  (h : tRun E 229 (199, [.inr (11, x0), .inl (0, x1), .inl (0, x2), .inl (0, x3), .inl (0, x4), .inl (0, x5), .inl (0, x6), .inl (0, x7), .inl (0, x8)], [], 0, 0, d) K) :
  tRun E 229 (332, [.inr (11, x0), .inl (0, x1), .inl (0, x2), .inl (0, x3), .inl (0, x4), .inl (0, x5), .inl (0, x6), .inl (0, x7), .inl (0, x8)], [], 0, 0, d) K := tT_run (cut := [0, 4, 9, 23, 61, 88, 100, 177, 199, 229, 237, 266, 332]) 2 _ h
theorem t_230_0 {E : mO × tW} {K : tK} {d : mD} {x0 x1 x2 : Int}
  (h : tCall E 179 [.inl (0, x1)] d (tbk E 230 5 [.inr (11, x0), .inl (0, x1), .inl (0, x2), tu, tu] [.inr (25, x0 + 1)] 0 0 K)) :
  tRun E 230 (0, [.inr (11, x0), .inl (0, x1), .inl (0, x2), tu, tu], [], 0, 0, d) K := tT_run (cut := [0, 8, 19, 33, 47, 56, 61, 69, 77]) 4 _ h
theorem t_230_8 {E : mO × tW} {K : tK} {d : mD} {x0 x1 x2 y0 y1 : Int}
  (h : (0 ≤ y1 + 2 ∧ y1 + 2 < 3116) ∧ tCall E 179 [.inl (0, x2)] d (tbk E 230 16 [.inr (11, x0), .inl (0, x1), .inl (0, x2), tu, tu] [.inr (25, x0 + 1), .inl (0, d y0 (y1 + 2))] 0 0 K)) :
  tRun E 230 (8, [.inr (11, x0), .inl (0, x1), .inl (0, x2), tu, tu], [.inl (0, y1), .inr (25, y0)], 0, 0, d) K := tT_run (cut := [0, 8, 19, 33, 47, 56, 61, 69, 77]) 7 _ h
theorem t_230_19 {E : mO × tW} {K : tK} {d : mD} {x0 x1 x2 y0 y1 y2 : Int}
  (h : (0 ≤ y2 + 2 ∧ y2 + 2 < 3116) ∧ (mInR y0 ∧ mInR (d y1 (y2 + 2))) ∧ (y0 ≤ d y1 (y2 + 2) → tCall E 179 [.inl (0, x2)] d (tbk E 230 44 [.inr (11, x0), .inl (0, x1), .inl (0, x2), tu, tu] [.inr (25, x0 + 1)] 0 0 K)) ∧ (d y1 (y2 + 2) < y0 → tCall E 179 [.inl (0, x1)] d (tbk E 230 30 [.inr (11, x0), .inl (0, x1), .inl (0, x2), tu, tu] [.inr (25, x0 + 1)] 0 0 K))) :
  tRun E 230 (19, [.inr (11, x0), .inl (0, x1), .inl (0, x2), tu, tu], [.inl (0, y2), .inr (25, y1), .inl (0, y0)], 0, 0, d) K := tT_run (cut := [0, 8, 19, 33, 47, 56, 61, 69, 77]) 8 _ h
theorem t_230_33 {E : mO × tW} {K : tK} {d : mD} {x0 x1 x2 y0 y1 : Int}
  (h : (0 ≤ y1 + 2 ∧ y1 + 2 < 3116) ∧ tCall E 212 [.inr (11, x0), .inl (0, x1)] d (tbk E 230 53 [.inr (11, x0), .inl (0, x1), .inl (0, x2), .inl (0, d y0 (y1 + 2)), tu] [] 0 0 K)) :
  tRun E 230 (33, [.inr (11, x0), .inl (0, x1), .inl (0, x2), tu, tu], [.inl (0, y1), .inr (25, y0)], 0, 0, d) K := tT_run (cut := [0, 8, 19, 33, 47, 56, 61, 69, 77]) 8 _ h
theorem t_230_47 {E : mO × tW} {K : tK} {d : mD} {x0 x1 x2 y0 y1 : Int}
  (h : (0 ≤ y1 + 2 ∧ y1 + 2 < 3116) ∧ tCall E 212 [.inr (11, x0), .inl (0, x1)] d (tbk E 230 53 [.inr (11, x0), .inl (0, x1), .inl (0, x2), .inl (0, d y0 (y1 + 2)), tu] [] 0 0 K)) :
  tRun E 230 (47, [.inr (11, x0), .inl (0, x1), .inl (0, x2), tu, tu], [.inl (0, y1), .inr (25, y0)], 0, 0, d) K := tT_run (cut := [0, 8, 19, 33, 47, 56, 61, 69, 77]) 7 _ h
theorem t_230_56 {E : mO × tW} {K : tK} {d : mD} {x0 x1 x2 x3 y0 : Int}
  (h : tCall E 212 [.inr (11, x0), .inl (0, x2)] d (tbk E 230 58 [.inr (11, x0), .inl (0, x1), .inl (0, x2), .inl (0, x3), tu] [.inl (0, y0)] 0 0 K)) :
  tRun E 230 (56, [.inr (11, x0), .inl (0, x1), .inl (0, x2), .inl (0, x3), tu], [.inl (0, y0)], 0, 0, d) K := tT_run (cut := [0, 8, 19, 33, 47, 56, 61, 69, 77]) 3 _ h
theorem t_230_61 {E : mO × tW} {K : tK} {d : mD} {x0 x1 x2 x3 y0 y1 : Int}
  (h : (mInR y0 ∧ mInR y1) ∧ (y1 ≤ y0 → tCall E 212 [.inr (11, x0), .inl (0, x2)] d (tbk E 230 74 [.inr (11, x0), .inl (0, x1), .inl (0, x2), .inl (0, x3), tu] [] 0 0 K)) ∧ (y0 < y1 → tCall E 212 [.inr (11, x0), .inl (0, x1)] d (tbk E 230 66 [.inr (11, x0), .inl (0, x1), .inl (0, x2), .inl (0, x3), tu] [] 0 0 K))) :
  tRun E 230 (61, [.inr (11, x0), .inl (0, x1), .inl (0, x2), .inl (0, x3), tu], [.inl (0, y1), .inl (0, y0)], 0, 0, d) K := tT_run (cut := [0, 8, 19, 33, 47, 56, 61, 69, 77]) 4 _ h
theorem t_230_69 {E : mO × tW} {K : tK} {d : mD} {x0 x1 x2 x3 y0 : Int}
  (h : tRun E 230 (77, [.inr (11, x0), .inl (0, x1), .inl (0, x2), .inl (0, x3), tu], [.inl (0, y0)], 0, 0, d) K) :
  tRun E 230 (69, [.inr (11, x0), .inl (0, x1), .inl (0, x2), .inl (0, x3), tu], [.inl (0, y0)], 0, 0, d) K := tT_run (cut := [0, 8, 19, 33, 47, 56, 61, 69, 77]) 1 _ h
theorem t_230_77 {E : mO × tW} {K : tK} {d : mD} {x0 x1 x2 x3 y0 : Int}
  (h : (mInR y0 ∧ mInR x3) ∧ (y0 ≤ x3 → K (.inl (some (0, 0))) d) ∧ (x3 < y0 → K (.inl (some (0, y0 - x3))) d)) :
  tRun E 230 (77, [.inr (11, x0), .inl (0, x1), .inl (0, x2), .inl (0, x3), tu], [.inl (0, y0)], 0, 0, d) K := tT_run (cut := [0, 8, 19, 33, 47, 56, 61, 69, 77]) 9 _ h
theorem t_231_0 {E : mO × tW} {K : tK} {d : mD} {x0 x1 x2 : Int}
  (h : tRun E 231 (5, [.inr (11, x0), .inl (0, x1), .inl (0, x2), .inl (0, 0), .inl (0, 0), tu], [], 0, 0, d) K) :
  tRun E 231 (0, [.inr (11, x0), .inl (0, x1), .inl (0, x2), tu, tu, tu], [], 0, 0, d) K := tT_run (cut := [0, 5, 32, 48, 59, 84, 95]) 4 _ h
theorem t_231_5 {E : mO × tW} {K : tK} {d : mD} {x0 x1 x2 x3 x4 : Int} {v5 : tV}
  (h : (0 ≤ (9 : Int) ∧ (9 : Int) < 3116) ∧ (mInR x4 ∧ mInR (d (x0 + 1) 9)) ∧ (d (x0 + 1) 9 ≤ x4 → K (.inl (some (0, x3))) d) ∧ (x4 < d (x0 + 1) 9 → (mInR x4 ∧ mInR x1) ∧ (x4 = x1 → mInR 0 ∧ ((0 : Int) = 0 → tRun E 231 (5, [.inr (11, x0), .inl (0, x1), .inl (0, x2), .inl (0, x3), .inl (0, x4 + 1), .inl (0, 0)], [], 0, 0, d) K) ∧ (¬ (0 : Int) = 0 → tCall E 230 [.inr (11, x0), .inl (0, x1), .inl (0, x4)] d (tbk E 231 81 [.inr (11, x0), .inl (0, x1), .inl (0, x2), .inl (0, x3), .inl (0, x4), .inl (0, 0)] [] 0 0 K))) ∧ (¬ x4 = x1 → tCall E 179 [.inl (0, x4)] d (tbk E 231 29 [.inr (11, x0), .inl (0, x1), .inl (0, x2), .inl (0, x3), .inl (0, x4), v5] [.inr (25, x0 + 1)] 0 0 K)))) :
  tRun E 231 (5, [.inr (11, x0), .inl (0, x1), .inl (0, x2), .inl (0, x3), .inl (0, x4), v5], [], 0, 0, d) K := tT_run (cut := [0, 5, 32, 48, 59, 84, 95]) 17 _ h
theorem t_231_32 {E : mO × tW} {K : tK} {d : mD} {x0 x1 x2 x3 x4 y0 y1 : Int} {v5 : tV}
  (h : (0 ≤ y1 + 0 ∧ y1 + 0 < 3116) ∧ (mInR (d y0 (y1 + 0)) ∧ mInR x2) ∧ (¬ d y0 (y1 + 0) = x2 → mInR 0 ∧ ((0 : Int) = 0 → tRun E 231 (5, [.inr (11, x0), .inl (0, x1), .inl (0, x2), .inl (0, x3), .inl (0, x4 + 1), .inl (0, 0)], [], 0, 0, d) K) ∧ (¬ (0 : Int) = 0 → tCall E 230 [.inr (11, x0), .inl (0, x1), .inl (0, x4)] d (tbk E 231 81 [.inr (11, x0), .inl (0, x1), .inl (0, x2), .inl (0, x3), .inl (0, x4), .inl (0, 0)] [] 0 0 K))) ∧ (d y0 (y1 + 0) = x2 → tCall E 179 [.inl (0, x4)] d (tbk E 231 45 [.inr (11, x0), .inl (0, x1), .inl (0, x2), .inl (0, x3), .inl (0, x4), v5] [.inr (25, x0 + 1)] 0 0 K))) :
  tRun E 231 (32, [.inr (11, x0), .inl (0, x1), .inl (0, x2), .inl (0, x3), .inl (0, x4), v5], [.inl (0, y1), .inr (25, y0)], 0, 0, d) K := tT_run (cut := [0, 5, 32, 48, 59, 84, 95]) 13 _ h
theorem t_231_48 {E : mO × tW} {K : tK} {d : mD} {x0 x1 x2 x3 x4 y0 y1 : Int} {v5 : tV}
  (h : (0 ≤ y1 + 1 ∧ y1 + 1 < 3116) ∧ tCall E 179 [.inl (0, x1)] d (tbk E 231 56 [.inr (11, x0), .inl (0, x1), .inl (0, x2), .inl (0, x3), .inl (0, x4), v5] [.inr (25, x0 + 1), .inl (0, d y0 (y1 + 1))] 0 0 K)) :
  tRun E 231 (48, [.inr (11, x0), .inl (0, x1), .inl (0, x2), .inl (0, x3), .inl (0, x4), v5], [.inl (0, y1), .inr (25, y0)], 0, 0, d) K := tT_run (cut := [0, 5, 32, 48, 59, 84, 95]) 7 _ h
theorem t_231_59 {E : mO × tW} {K : tK} {d : mD} {x0 x1 x2 x3 x4 y0 y1 y2 : Int} {v5 : tV}
  (h : (0 ≤ y2 + 1 ∧ y2 + 1 < 3116) ∧ (mInR y0 ∧ mInR (d y1 (y2 + 1))) ∧ (¬ y0 = d y1 (y2 + 1) → mInR 0 ∧ ((0 : Int) = 0 → tRun E 231 (5, [.inr (11, x0), .inl (0, x1), .inl (0, x2), .inl (0, x3), .inl (0, x4 + 1), .inl (0, 0)], [], 0, 0, d) K) ∧ (¬ (0 : Int) = 0 → tCall E 230 [.inr (11, x0), .inl (0, x1), .inl (0, x4)] d (tbk E 231 81 [.inr (11, x0), .inl (0, x1), .inl (0, x2), .inl (0, x3), .inl (0, x4), .inl (0, 0)] [] 0 0 K))) ∧ (y0 = d y1 (y2 + 1) → mInR 1 ∧ ((1 : Int) = 0 → tRun E 231 (5, [.inr (11, x0), .inl (0, x1), .inl (0, x2), .inl (0, x3), .inl (0, x4 + 1), .inl (0, 1)], [], 0, 0, d) K) ∧ (¬ (1 : Int) = 0 → tCall E 230 [.inr (11, x0), .inl (0, x1), .inl (0, x4)] d (tbk E 231 81 [.inr (11, x0), .inl (0, x1), .inl (0, x2), .inl (0, x3), .inl (0, x4), .inl (0, 1)] [] 0 0 K)))) :
  tRun E 231 (59, [.inr (11, x0), .inl (0, x1), .inl (0, x2), .inl (0, x3), .inl (0, x4), v5], [.inl (0, y2), .inr (25, y1), .inl (0, y0)], 0, 0, d) K := tT_run (cut := [0, 5, 32, 48, 59, 84, 95]) 13 _ h
theorem t_231_84 {E : mO × tW} {K : tK} {d : mD} {x0 x1 x2 x3 x4 x5 y0 : Int}
  (h : (mInR y0 ∧ mInR x3) ∧ (y0 ≤ x3 → tRun E 231 (5, [.inr (11, x0), .inl (0, x1), .inl (0, x2), .inl (0, x3), .inl (0, x4 + 1), .inl (0, x5)], [], 0, 0, d) K) ∧ (x3 < y0 → tCall E 230 [.inr (11, x0), .inl (0, x1), .inl (0, x4)] d (tbk E 231 92 [.inr (11, x0), .inl (0, x1), .inl (0, x2), .inl (0, x3), .inl (0, x4), .inl (0, x5)] [] 0 0 K))) :
  tRun E 231 (84, [.inr (11, x0), .inl (0, x1), .inl (0, x2), .inl (0, x3), .inl (0, x4), .inl (0, x5)], [.inl (0, y0)], 0, 0, d) K := tT_run (cut := [0, 5, 32, 48, 59, 84, 95]) 6 _ h
theorem t_231_95 {E : mO × tW} {K : tK} {d : mD} {x0 x1 x2 x3 x4 x5 y0 : Int}
  (h : tRun E 231 (5, [.inr (11, x0), .inl (0, x1), .inl (0, x2), .inl (0, y0), .inl (0, x4 + 1), .inl (0, x5)], [], 0, 0, d) K) :
  tRun E 231 (95, [.inr (11, x0), .inl (0, x1), .inl (0, x2), .inl (0, x3), .inl (0, x4), .inl (0, x5)], [.inl (0, y0)], 0, 0, d) K := tT_run (cut := [0, 5, 32, 48, 59, 84, 95]) 4 _ h
theorem t_232_0 {E : mO × tW} {K : tK} {d : mD} {x0 x1 x2 : Int}
  (h : tCall E 179 [.inl (0, x1)] d (tbk E 232 5 [.inr (11, x0), .inl (0, x1), .inl (0, x2), tu] [.inr (25, x0 + 1)] 0 0 K)) :
  tRun E 232 (0, [.inr (11, x0), .inl (0, x1), .inl (0, x2), tu], [], 0, 0, d) K := tT_run (cut := [0, 8]) 4 _ h
theorem t_232_8 {E : mO × tW} {K : tK} {d : mD} {x0 x1 x2 y0 y1 : Int}
  (h : (0 ≤ (y1 + 8) + x2 ∧ (y1 + 8) + x2 < 3116) ∧ mInR (d y0 ((y1 + 8) + x2)) ∧ (d y0 ((y1 + 8) + x2) ≤ 0 → ((0 : Int) = 0 ∨ (0 : Int) = 1) ∧ K (.inl (some (0, 0))) d) ∧ (0 < d y0 ((y1 + 8) + x2) → (0 ≤ (d y0 ((y1 + 8) + x2)) - 1 ∧ (d y0 ((y1 + 8) + x2)) - 1 ≤ 2147483647 ∧ 0 < (20 : Int) ∧ (20 : Int) ≤ 2147483647) ∧ (0 ≤ (0 : Int) ∧ (0 : Int) < 3116) ∧ (0 ≤ d (x0 + 1) 0 ∧ d (x0 + 1) 0 ≤ 2147483647 ∧ 0 < (20 : Int) ∧ (20 : Int) ≤ 2147483647) ∧ (mInR (((d y0 ((y1 + 8) + x2)) - 1) / 20) ∧ mInR ((d (x0 + 1) 0) / 20)) ∧ (¬ ((d y0 ((y1 + 8) + x2)) - 1) / 20 = (d (x0 + 1) 0) / 20 → ((0 : Int) = 0 ∨ (0 : Int) = 1) ∧ K (.inl (some (0, 0))) d) ∧ (((d y0 ((y1 + 8) + x2)) - 1) / 20 = (d (x0 + 1) 0) / 20 → ((1 : Int) = 0 ∨ (1 : Int) = 1) ∧ K (.inl (some (0, 1))) d))) :
  tRun E 232 (8, [.inr (11, x0), .inl (0, x1), .inl (0, x2), tu], [.inl (0, y1), .inr (25, y0)], 0, 0, d) K := tT_run (cut := [0, 8]) 23 _ h
theorem t_233_0 {E : mO × tW} {K : tK} {d : mD} {x0 x1 : Int}
  (h : tRun E 233 (4, [.inr (11, x0), .inl (0, x1), .inl (0, 0), .inl (0, 0)], [], 0, 0, d) K) :
  tRun E 233 (0, [.inr (11, x0), .inl (0, x1), tu, tu], [], 0, 0, d) K := tT_run (cut := [0, 4, 22]) 4 _ h
theorem t_233_4 {E : mO × tW} {K : tK} {d : mD} {x0 x1 x2 x3 : Int}
  (h : (0 ≤ (9 : Int) ∧ (9 : Int) < 3116) ∧ (mInR x3 ∧ mInR (d (x0 + 1) 9)) ∧ (d (x0 + 1) 9 ≤ x3 → K (.inl (some (0, x2))) d) ∧ (x3 < d (x0 + 1) 9 → tCall E 232 [.inr (11, x0), .inl (0, x3), .inl (0, x1)] d (tbk E 233 19 [.inr (11, x0), .inl (0, x1), .inl (0, x2), .inl (0, x3)] [.inl (0, x2)] 0 0 K))) :
  tRun E 233 (4, [.inr (11, x0), .inl (0, x1), .inl (0, x2), .inl (0, x3)], [], 0, 0, d) K := tT_run (cut := [0, 4, 22]) 11 _ h
theorem t_233_22 {E : mO × tW} {K : tK} {d : mD} {x0 x1 x2 x3 y0 y1 : Int}
  (h : mInR y1 ∧ (y1 = 0 → tRun E 233 (4, [.inr (11, x0), .inl (0, x1), .inl (0, y0 + 0), .inl (0, x3 + 1)], [], 0, 0, d) K) ∧ (¬ y1 = 0 → tRun E 233 (4, [.inr (11, x0), .inl (0, x1), .inl (0, y0 + 1), .inl (0, x3 + 1)], [], 0, 0, d) K)) :
  tRun E 233 (22, [.inr (11, x0), .inl (0, x1), .inl (0, x2), .inl (0, x3)], [.inl (0, y1), .inl (0, y0)], 0, 0, d) K := tT_run (cut := [0, 4, 22]) 7 _ h
theorem t_234_0 {E : mO × tW} {K : tK} {d : mD} {x0 x1 x2 : Int}
  (h : tCall E 179 [.inl (0, x1)] d (tbk E 234 1 [.inr (11, x0), .inl (0, x1), .inl (0, x2), tu, tu, tu] [] 0 0 K)) :
  tRun E 234 (0, [.inr (11, x0), .inl (0, x1), .inl (0, x2), tu, tu, tu], [], 0, 0, d) K := tT_run (cut := [0, 4, 68, 84, 97, 120, 141]) 2 _ h
theorem t_234_4 {E : mO × tW} {K : tK} {d : mD} {x0 x1 x2 y0 : Int}
  (h : (0 ≤ y0 + 5 ∧ y0 + 5 < 3116) ∧ mInR (d (x0 + 1) (y0 + 5)) ∧ (¬ d (x0 + 1) (y0 + 5) = 0 → (0 ≤ y0 + 6 ∧ y0 + 6 < 3116) ∧ mInR (d (x0 + 1) (y0 + 6)) ∧ (d (x0 + 1) (y0 + 6) = 0 → (0 ≤ y0 + 0 ∧ y0 + 0 < 3116) ∧ (mInR (d (x0 + 1) (y0 + 0)) ∧ mInR x2) ∧ (¬ d (x0 + 1) (y0 + 0) = x2 → (0 ≤ (y0 + 8) + x2 ∧ (y0 + 8) + x2 < 3116) ∧ mInR (d (x0 + 1) ((y0 + 8) + x2)) ∧ (d (x0 + 1) ((y0 + 8) + x2) = 0 → tCall E 231 [.inr (11, x0), .inl (0, x1), .inl (0, x2)] d (tbk E 234 65 [.inr (11, x0), .inl (0, x1), .inl (0, x2), .inl (0, y0), tu, tu] [] 0 0 K)) ∧ (¬ d (x0 + 1) ((y0 + 8) + x2) = 0 → K (.inl (some (0, 4))) d)) ∧ (d (x0 + 1) (y0 + 0) = x2 → K (.inl (some (0, 3))) d)) ∧ (¬ d (x0 + 1) (y0 + 6) = 0 → K (.inl (some (0, 2))) d)) ∧ (d (x0 + 1) (y0 + 5) = 0 → K (.inl (some (0, 1))) d)) :
  tRun E 234 (4, [.inr (11, x0), .inl (0, x1), .inl (0, x2), tu, tu, tu], [.inl (0, y0)], 0, 0, d) K := tT_run (cut := [0, 4, 68, 84, 97, 120, 141]) 36 _ h
theorem t_234_68 {E : mO × tW} {K : tK} {d : mD} {x0 x1 x2 x3 y0 : Int}
  (h : (0 ≤ (4 : Int) ∧ (4 : Int) < 3116) ∧ (mInR y0 ∧ mInR (d (x0 + 1) 4)) ∧ (d (x0 + 1) 4 ≤ y0 → tCall E 233 [.inr (11, x0), .inl (0, x2)] d (tbk E 234 81 [.inr (11, x0), .inl (0, x1), .inl (0, x2), .inl (0, x3), tu, tu] [] 0 0 K)) ∧ (y0 < d (x0 + 1) 4 → K (.inl (some (0, 5))) d)) :
  tRun E 234 (68, [.inr (11, x0), .inl (0, x1), .inl (0, x2), .inl (0, x3), tu, tu], [.inl (0, y0)], 0, 0, d) K := tT_run (cut := [0, 4, 68, 84, 97, 120, 141]) 8 _ h
theorem t_234_84 {E : mO × tW} {K : tK} {d : mD} {x0 x1 x2 x3 y0 : Int}
  (h : (mInR y0 ∧ mInR 3) ∧ (y0 < 3 → tRun E 234 (97, [.inr (11, x0), .inl (0, x1), .inl (0, x2), .inl (0, x3), .inl (0, 0), .inl (0, 0)], [], 0, 0, d) K) ∧ (3 ≤ y0 → K (.inl (some (0, 6))) d)) :
  tRun E 234 (84, [.inr (11, x0), .inl (0, x1), .inl (0, x2), .inl (0, x3), tu, tu], [.inl (0, y0)], 0, 0, d) K := tT_run (cut := [0, 4, 68, 84, 97, 120, 141]) 6 _ h
theorem t_234_97 {E : mO × tW} {K : tK} {d : mD} {x0 x1 x2 x3 x4 x5 : Int}
  (h : (0 ≤ (9 : Int) ∧ (9 : Int) < 3116) ∧ (mInR x5 ∧ mInR (d (x0 + 1) 9)) ∧ (d (x0 + 1) 9 ≤ x5 → mInR x4 ∧ (x4 = 0 → K (.inl (some (0, 0))) d) ∧ (¬ x4 = 0 → K (.inl (some (0, 7))) d)) ∧ (x5 < d (x0 + 1) 9 → tCall E 179 [.inl (0, x5)] d (tbk E 234 117 [.inr (11, x0), .inl (0, x1), .inl (0, x2), .inl (0, x3), .inl (0, x4), .inl (0, x5)] [.inr (25, x0 + 1), .inl (0, x4)] 0 0 K))) :
  tRun E 234 (97, [.inr (11, x0), .inl (0, x1), .inl (0, x2), .inl (0, x3), .inl (0, x4), .inl (0, x5)], [], 0, 0, d) K := tT_run (cut := [0, 4, 68, 84, 97, 120, 141]) 11 _ h
theorem t_234_120 {E : mO × tW} {K : tK} {d : mD} {x0 x1 x2 x3 x4 x5 y0 y1 y2 : Int}
  (h : (0 ≤ y2 + 0 ∧ y2 + 0 < 3116) ∧ (mInR (d y1 (y2 + 0)) ∧ mInR x2) ∧ (¬ d y1 (y2 + 0) = x2 → tRun E 234 (97, [.inr (11, x0), .inl (0, x1), .inl (0, x2), .inl (0, x3), .inl (0, mior y0 0), .inl (0, x5 + 1)], [], 0, 0, d) K) ∧ (d y1 (y2 + 0) = x2 → (0 ≤ x3 + 0 ∧ x3 + 0 < 3116) ∧ tCall E 232 [.inr (11, x0), .inl (0, x5), .inl (0, d (x0 + 1) (x3 + 0))] d (tbk E 234 138 [.inr (11, x0), .inl (0, x1), .inl (0, x2), .inl (0, x3), .inl (0, x4), .inl (0, x5)] [.inl (0, y0)] 0 0 K))) :
  tRun E 234 (120, [.inr (11, x0), .inl (0, x1), .inl (0, x2), .inl (0, x3), .inl (0, x4), .inl (0, x5)], [.inl (0, y2), .inr (25, y1), .inl (0, y0)], 0, 0, d) K := tT_run (cut := [0, 4, 68, 84, 97, 120, 141]) 14 _ h
theorem t_234_141 {E : mO × tW} {K : tK} {d : mD} {x0 x1 x2 x3 x4 x5 y0 y1 : Int}
  (h : mInR y1 ∧ (y1 = 0 → tRun E 234 (97, [.inr (11, x0), .inl (0, x1), .inl (0, x2), .inl (0, x3), .inl (0, mior y0 0), .inl (0, x5 + 1)], [], 0, 0, d) K) ∧ (¬ y1 = 0 → tRun E 234 (97, [.inr (11, x0), .inl (0, x1), .inl (0, x2), .inl (0, x3), .inl (0, mior y0 1), .inl (0, x5 + 1)], [], 0, 0, d) K)) :
  tRun E 234 (141, [.inr (11, x0), .inl (0, x1), .inl (0, x2), .inl (0, x3), .inl (0, x4), .inl (0, x5)], [.inl (0, y1), .inl (0, y0)], 0, 0, d) K := tT_run (cut := [0, 4, 68, 84, 97, 120, 141]) 7 _ h
theorem t_235_0 {E : mO × tW} {K : tK} {d : mD} {x0 x1 x2 : Int}
  (h : tCall E 179 [.inl (0, x1)] d (tbk E 235 1 [.inr (11, x0), .inl (0, x1), .inl (0, x2), tu] [] 0 0 K)) :
  tRun E 235 (0, [.inr (11, x0), .inl (0, x1), .inl (0, x2), tu], [], 0, 0, d) K := tT_run (cut := [0, 4, 72]) 2 _ h
theorem t_235_4 {E : mO × tW} {K : tK} {d : mD} {x0 x1 x2 y0 : Int}
  (h : (0 ≤ (0 : Int) ∧ (0 : Int) < 3116) ∧ (0 ≤ (y0 + 8) + x2 ∧ (y0 + 8) + x2 < 3116) ∧ (0 ≤ y0 + 7 ∧ y0 + 7 < 3116) ∧ (0 ≤ y0 + 7 ∧ y0 + 7 < 3116) ∧ (0 ≤ y0 + 7 ∧ y0 + 7 < 3116) ∧ (0 ≤ (3 : Int) ∧ (3 : Int) < 3116) ∧ (mInR ((mset (mset d (x0 + 1) ((y0 + 8) + x2) ((d (x0 + 1) 0) + 1)) (x0 + 1) (y0 + 7) (((mset d (x0 + 1) ((y0 + 8) + x2) ((d (x0 + 1) 0) + 1)) (x0 + 1) (y0 + 7)) + 1)) (x0 + 1) (y0 + 7)) ∧ mInR ((mset (mset d (x0 + 1) ((y0 + 8) + x2) ((d (x0 + 1) 0) + 1)) (x0 + 1) (y0 + 7) (((mset d (x0 + 1) ((y0 + 8) + x2) ((d (x0 + 1) 0) + 1)) (x0 + 1) (y0 + 7)) + 1)) (x0 + 1) 3)) ∧ ((mset (mset d (x0 + 1) ((y0 + 8) + x2) ((d (x0 + 1) 0) + 1)) (x0 + 1) (y0 + 7) (((mset d (x0 + 1) ((y0 + 8) + x2) ((d (x0 + 1) 0) + 1)) (x0 + 1) (y0 + 7)) + 1)) (x0 + 1) 3 ≤ (mset (mset d (x0 + 1) ((y0 + 8) + x2) ((d (x0 + 1) 0) + 1)) (x0 + 1) (y0 + 7) (((mset d (x0 + 1) ((y0 + 8) + x2) ((d (x0 + 1) 0) + 1)) (x0 + 1) (y0 + 7)) + 1)) (x0 + 1) (y0 + 7) → (0 ≤ y0 + 6 ∧ y0 + 6 < 3116) ∧ tCall E 218 [.inr (11, x0), .inl (0, x1)] (mset (mset (mset d (x0 + 1) ((y0 + 8) + x2) ((d (x0 + 1) 0) + 1)) (x0 + 1) (y0 + 7) (((mset d (x0 + 1) ((y0 + 8) + x2) ((d (x0 + 1) 0) + 1)) (x0 + 1) (y0 + 7)) + 1)) (x0 + 1) (y0 + 6) 1) (tbk E 235 69 [.inr (11, x0), .inl (0, x1), .inl (0, x2), .inl (0, y0)] [] 0 0 K)) ∧ ((mset (mset d (x0 + 1) ((y0 + 8) + x2) ((d (x0 + 1) 0) + 1)) (x0 + 1) (y0 + 7) (((mset d (x0 + 1) ((y0 + 8) + x2) ((d (x0 + 1) 0) + 1)) (x0 + 1) (y0 + 7)) + 1)) (x0 + 1) (y0 + 7) < (mset (mset d (x0 + 1) ((y0 + 8) + x2) ((d (x0 + 1) 0) + 1)) (x0 + 1) (y0 + 7) (((mset d (x0 + 1) ((y0 + 8) + x2) ((d (x0 + 1) 0) + 1)) (x0 + 1) (y0 + 7)) + 1)) (x0 + 1) 3 → K (.inl (some (0, 0))) (mset (mset d (x0 + 1) ((y0 + 8) + x2) ((d (x0 + 1) 0) + 1)) (x0 + 1) (y0 + 7) (((mset d (x0 + 1) ((y0 + 8) + x2) ((d (x0 + 1) 0) + 1)) (x0 + 1) (y0 + 7)) + 1)))) :
  tRun E 235 (4, [.inr (11, x0), .inl (0, x1), .inl (0, x2), tu], [.inl (0, y0)], 0, 0, d) K := tT_run (cut := [0, 4, 72]) 46 _ h
theorem t_235_72 {E : mO × tW} {K : tK} {d : mD} {x0 x1 x2 x3 y0 : Int}
  (h : K (.inl (some (0, y0))) d) :
  tRun E 235 (72, [.inr (11, x0), .inl (0, x1), .inl (0, x2), .inl (0, x3)], [.inl (0, y0)], 0, 0, d) K := tT_run (cut := [0, 4, 72]) 1 _ h
theorem t_236_0 {E : mO × tW} {K : tK} {d : mD} {x0 x1 : Int}
  (h : mInR x1 ∧ (0 ≤ (7 : Int) ∧ (7 : Int) < 3116) ∧ mInR ((d (x0 + 1) 7) - 1) ∧ tCall E 176 [.inl (1, x1), .inl (1, 0), .inl (1, (d (x0 + 1) 7) - 1)] d (tbk E 236 13 [.inr (11, x0), .inl (0, x1)] [] 0 0 K)) :
  tRun E 236 (0, [.inr (11, x0), .inl (0, x1)], [], 0, 0, d) K := tT_run (cut := [0, 16]) 11 _ h
theorem t_236_16 {E : mO × tW} {K : tK} {d : mD} {x0 x1 y0 : Int}
  (h : (y0 = 0 ∨ y0 = 1) ∧ K (.inl (some (0, y0))) d) :
  tRun E 236 (16, [.inr (11, x0), .inl (0, x1)], [.inl (0, y0)], 0, 0, d) K := tT_run (cut := [0, 16]) 1 _ h
theorem t_237_0 {E : mO × tW} {K : tK} {d : mD} {x0 x1 : Int}
  (h : mInR x1 ∧ (0 ≤ (8 : Int) ∧ (8 : Int) < 3116) ∧ mInR ((d (x0 + 1) 8) - 1) ∧ tCall E 176 [.inl (1, x1), .inl (1, 0), .inl (1, (d (x0 + 1) 8) - 1)] d (tbk E 237 13 [.inr (11, x0), .inl (0, x1)] [] 0 0 K)) :
  tRun E 237 (0, [.inr (11, x0), .inl (0, x1)], [], 0, 0, d) K := tT_run (cut := [0, 16]) 11 _ h
theorem t_237_16 {E : mO × tW} {K : tK} {d : mD} {x0 x1 y0 : Int}
  (h : (y0 = 0 ∨ y0 = 1) ∧ K (.inl (some (0, y0))) d) :
  tRun E 237 (16, [.inr (11, x0), .inl (0, x1)], [.inl (0, y0)], 0, 0, d) K := tT_run (cut := [0, 16]) 1 _ h
theorem t_238_0 {E : mO × tW} {K : tK} {d : mD} {x0 x1 : Int}
  (h : mInR x1 ∧ (0 ≤ (9 : Int) ∧ (9 : Int) < 3116) ∧ mInR ((d (x0 + 1) 9) - 1) ∧ tCall E 176 [.inl (1, x1), .inl (1, 0), .inl (1, (d (x0 + 1) 9) - 1)] d (tbk E 238 13 [.inr (11, x0), .inl (0, x1)] [] 0 0 K)) :
  tRun E 238 (0, [.inr (11, x0), .inl (0, x1)], [], 0, 0, d) K := tT_run (cut := [0, 16]) 11 _ h
theorem t_238_16 {E : mO × tW} {K : tK} {d : mD} {x0 x1 y0 : Int}
  (h : (y0 = 0 ∨ y0 = 1) ∧ K (.inl (some (0, y0))) d) :
  tRun E 238 (16, [.inr (11, x0), .inl (0, x1)], [.inl (0, y0)], 0, 0, d) K := tT_run (cut := [0, 16]) 1 _ h
theorem t_239_0 {E : mO × tW} {K : tK} {d : mD} {x0 x1 : Int}
  (h : mInR x1 ∧ tCall E 176 [.inl (1, x1), .inl (1, 0), .inl (1, 12)] d (tbk E 239 7 [.inr (11, x0), .inl (0, x1), tu, tu, tu, tu, tu] [.inr (11, x0)] 0 0 K)) :
  tRun E 239 (0, [.inr (11, x0), .inl (0, x1), tu, tu, tu, tu, tu], [], 0, 0, d) K := tT_run (cut := [0, 10, 40, 57, 139, 162]) 6 _ h
theorem t_239_10 {E : mO × tW} {K : tK} {d : mD} {x0 x1 y0 y1 : Int}
  (h : mInR y1 ∧ (y1 = 0 → mInR ((mset d y0 0 1) x0 0) ∧ ((mset d y0 0 1) x0 0 ≤ 0 → tRun E 239 (40, [.inr (11, x0), .inl (0, x1), .inl (0, 0), .inl (0, 0), .inl (0, 0), .inl (0, 0), tu], [], 0, 0, mset d y0 0 1) K) ∧ (0 < (mset d y0 0 1) x0 0 → K (.inl (some (0, 0))) (mset d y0 0 1))) ∧ (¬ y1 = 0 → mInR ((mset d y0 0 0) x0 0) ∧ ((mset d y0 0 0) x0 0 ≤ 0 → tRun E 239 (40, [.inr (11, x0), .inl (0, x1), .inl (0, 0), .inl (0, 0), .inl (0, 0), .inl (0, 0), tu], [], 0, 0, mset d y0 0 0) K) ∧ (0 < (mset d y0 0 0) x0 0 → K (.inl (some (0, 0))) (mset d y0 0 0)))) :
  tRun E 239 (10, [.inr (11, x0), .inl (0, x1), tu, tu, tu, tu, tu], [.inl (0, y1), .inr (11, y0)], 0, 0, d) K := tT_run (cut := [0, 10, 40, 57, 139, 162]) 15 _ h
theorem t_239_40 {E : mO × tW} {K : tK} {d : mD} {x0 x1 x2 x3 x4 x5 : Int} {v6 : tV}
  (h : (0 ≤ (9 : Int) ∧ (9 : Int) < 3116) ∧ (mInR x5 ∧ mInR (d (x0 + 1) 9)) ∧ (d (x0 + 1) 9 ≤ x5 → tRun E 239 (139, [.inr (11, x0), .inl (0, x1), .inl (0, x2), .inl (0, x3), .inl (0, x4), .inl (0, 0), .inl (0, 0)], [], 0, 0, d) K) ∧ (x5 < d (x0 + 1) 9 → tCall E 179 [.inl (0, x5)] d (tbk E 239 54 [.inr (11, x0), .inl (0, x1), .inl (0, x2), .inl (0, x3), .inl (0, x4), .inl (0, x5), v6] [] 0 0 K))) :
  tRun E 239 (40, [.inr (11, x0), .inl (0, x1), .inl (0, x2), .inl (0, x3), .inl (0, x4), .inl (0, x5), v6], [], 0, 0, d) K := tT_run (cut := [0, 10, 40, 57, 139, 162]) 10 _ h
theorem t_239_57 {E : mO × tW} {K : tK} {d : mD} {x0 x1 x2 x3 x4 x5 y0 : Int} {v6 : tV}
  (h : (0 ≤ y0 + 4 ∧ y0 + 4 < 3116) ∧ mInR (d (x0 + 1) (y0 + 4)) ∧ (¬ d (x0 + 1) (y0 + 4) = 0 → (0 ≤ y0 + 5 ∧ y0 + 5 < 3116) ∧ mInR (d (x0 + 1) (y0 + 5)) ∧ (d (x0 + 1) (y0 + 5) = 0 → (0 ≤ y0 + 6 ∧ y0 + 6 < 3116) ∧ tRun E 239 (40, [.inr (11, x0), .inl (0, x1), .inl (0, x2 + 0), .inl (0, x3 + 0), .inl (0, x4 + (d (x0 + 1) (y0 + 6))), .inl (0, x5 + 1), .inl (0, y0)], [], 0, 0, d) K) ∧ (¬ d (x0 + 1) (y0 + 5) = 0 → (0 ≤ y0 + 6 ∧ y0 + 6 < 3116) ∧ mInR (d (x0 + 1) (y0 + 6)) ∧ (¬ d (x0 + 1) (y0 + 6) = 0 → (0 ≤ y0 + 6 ∧ y0 + 6 < 3116) ∧ tRun E 239 (40, [.inr (11, x0), .inl (0, x1), .inl (0, x2 + 0), .inl (0, x3 + 0), .inl (0, x4 + (d (x0 + 1) (y0 + 6))), .inl (0, x5 + 1), .inl (0, y0)], [], 0, 0, d) K) ∧ (d (x0 + 1) (y0 + 6) = 0 → (0 ≤ y0 + 6 ∧ y0 + 6 < 3116) ∧ tRun E 239 (40, [.inr (11, x0), .inl (0, x1), .inl (0, x2 + 0), .inl (0, x3 + 1), .inl (0, x4 + (d (x0 + 1) (y0 + 6))), .inl (0, x5 + 1), .inl (0, y0)], [], 0, 0, d) K))) ∧ (d (x0 + 1) (y0 + 4) = 0 → (0 ≤ y0 + 5 ∧ y0 + 5 < 3116) ∧ mInR (d (x0 + 1) (y0 + 5)) ∧ (d (x0 + 1) (y0 + 5) = 0 → (0 ≤ y0 + 6 ∧ y0 + 6 < 3116) ∧ tRun E 239 (40, [.inr (11, x0), .inl (0, x1), .inl (0, x2 + 1), .inl (0, x3 + 0), .inl (0, x4 + (d (x0 + 1) (y0 + 6))), .inl (0, x5 + 1), .inl (0, y0)], [], 0, 0, d) K) ∧ (¬ d (x0 + 1) (y0 + 5) = 0 → (0 ≤ y0 + 6 ∧ y0 + 6 < 3116) ∧ mInR (d (x0 + 1) (y0 + 6)) ∧ (¬ d (x0 + 1) (y0 + 6) = 0 → (0 ≤ y0 + 6 ∧ y0 + 6 < 3116) ∧ tRun E 239 (40, [.inr (11, x0), .inl (0, x1), .inl (0, x2 + 1), .inl (0, x3 + 0), .inl (0, x4 + (d (x0 + 1) (y0 + 6))), .inl (0, x5 + 1), .inl (0, y0)], [], 0, 0, d) K) ∧ (d (x0 + 1) (y0 + 6) = 0 → (0 ≤ y0 + 6 ∧ y0 + 6 < 3116) ∧ tRun E 239 (40, [.inr (11, x0), .inl (0, x1), .inl (0, x2 + 1), .inl (0, x3 + 1), .inl (0, x4 + (d (x0 + 1) (y0 + 6))), .inl (0, x5 + 1), .inl (0, y0)], [], 0, 0, d) K)))) :
  tRun E 239 (57, [.inr (11, x0), .inl (0, x1), .inl (0, x2), .inl (0, x3), .inl (0, x4), .inl (0, x5), v6], [.inl (0, y0)], 0, 0, d) K := tT_run (cut := [0, 10, 40, 57, 139, 162]) 43 _ h
theorem t_239_139 {E : mO × tW} {K : tK} {d : mD} {x0 x1 x2 x3 x4 x5 x6 : Int}
  (h : (0 ≤ (10 : Int) ∧ (10 : Int) < 3116) ∧ (mInR x6 ∧ mInR (d (x0 + 1) 10)) ∧ (d (x0 + 1) 10 ≤ x6 → mInR x1 ∧ (x1 = 0 → (0 ≤ (7 : Int) ∧ (7 : Int) < 3116) ∧ K (.inl (some (0, d (x0 + 1) 7))) d) ∧ (x1 = 1 → (0 ≤ (8 : Int) ∧ (8 : Int) < 3116) ∧ K (.inl (some (0, d (x0 + 1) 8))) d) ∧ (x1 = 2 → (0 ≤ (9 : Int) ∧ (9 : Int) < 3116) ∧ K (.inl (some (0, d (x0 + 1) 9))) d) ∧ (x1 = 3 → (0 ≤ (0 : Int) ∧ (0 : Int) < 3116) ∧ K (.inl (some (0, d (x0 + 1) 0))) d) ∧ (x1 = 4 → (0 ≤ (0 : Int) ∧ (0 : Int) < 3116) ∧ (0 ≤ d (x0 + 1) 0 ∧ d (x0 + 1) 0 ≤ 2147483647 ∧ 0 < (20 : Int) ∧ (20 : Int) ≤ 2147483647) ∧ K (.inl (some (0, 20 - ((d (x0 + 1) 0) % 20)))) d) ∧ (x1 = 5 → K (.inl (some (0, x2))) d) ∧ (x1 = 6 → K (.inl (some (0, x3))) d) ∧ (x1 = 7 → K (.inl (some (0, x4))) d) ∧ (x1 = 8 → (0 ≤ (10 : Int) ∧ (10 : Int) < 3116) ∧ K (.inl (some (0, d (x0 + 1) 10))) d) ∧ (x1 = 9 → (0 ≤ (11 : Int) ∧ (11 : Int) < 3116) ∧ K (.inl (some (0, d (x0 + 1) 11))) d) ∧ (x1 = 10 → K (.inl (some (0, x5))) d) ∧ (x1 = 11 → (0 ≤ (1 : Int) ∧ (1 : Int) < 3116) ∧ K (.inl (some (0, d (x0 + 1) 1))) d) ∧ (x1 < 0 ∨ 11 < x1 → K (.inl (some (0, d x0 7))) d)) ∧ (x6 < d (x0 + 1) 10 → tCall E 180 [.inl (0, x6)] d (tbk E 239 159 [.inr (11, x0), .inl (0, x1), .inl (0, x2), .inl (0, x3), .inl (0, x4), .inl (0, x5), .inl (0, x6)] [.inr (25, x0 + 1), .inl (0, x5)] 0 0 K))) :
  tRun E 239 (139, [.inr (11, x0), .inl (0, x1), .inl (0, x2), .inl (0, x3), .inl (0, x4), .inl (0, x5), .inl (0, x6)], [], 0, 0, d) K := tT_run (cut := [0, 10, 40, 57, 139, 162]) 17 _ h
theorem t_239_162 {E : mO × tW} {K : tK} {d : mD} {x0 x1 x2 x3 x4 x5 x6 y0 y1 y2 : Int}
  (h : (0 ≤ y2 + 3 ∧ y2 + 3 < 3116) ∧ (mInR (d y1 (y2 + 3)) ∧ mInR 2) ∧ (¬ d y1 (y2 + 3) = 2 → tRun E 239 (139, [.inr (11, x0), .inl (0, x1), .inl (0, x2), .inl (0, x3), .inl (0, x4), .inl (0, y0 + 0), .inl (0, x6 + 1)], [], 0, 0, d) K) ∧ (d y1 (y2 + 3) = 2 → tRun E 239 (139, [.inr (11, x0), .inl (0, x1), .inl (0, x2), .inl (0, x3), .inl (0, x4), .inl (0, y0 + 1), .inl (0, x6 + 1)], [], 0, 0, d) K)) :
  tRun E 239 (162, [.inr (11, x0), .inl (0, x1), .inl (0, x2), .inl (0, x3), .inl (0, x4), .inl (0, x5), .inl (0, x6)], [.inl (0, y2), .inr (25, y1), .inl (0, y0)], 0, 0, d) K := tT_run (cut := [0, 10, 40, 57, 139, 162]) 11 _ h
theorem t_240_0 {E : mO × tW} {K : tK} {d : mD} {x0 x1 : Int}
  (h : mInR x1 ∧ tCall E 176 [.inl (1, x1), .inl (1, 0), .inl (1, 4)] d (tbk E 240 7 [.inr (11, x0), .inl (0, x1)] [.inr (11, x0)] 0 0 K)) :
  tRun E 240 (0, [.inr (11, x0), .inl (0, x1)], [], 0, 0, d) K := tT_run (cut := [0, 10]) 6 _ h
theorem t_240_10 {E : mO × tW} {K : tK} {d : mD} {x0 x1 y0 y1 : Int}
  (h : mInR y1 ∧ (y1 = 0 → mInR ((mset d y0 0 1) x0 0) ∧ ((mset d y0 0 1) x0 0 ≤ 0 → (0 ≤ 2 + x1 ∧ 2 + x1 < 3116) ∧ K (.inl (some (0, (mset d y0 0 1) (x0 + 1) (2 + x1)))) (mset d y0 0 1)) ∧ (0 < (mset d y0 0 1) x0 0 → K (.inl (some (0, 0))) (mset d y0 0 1))) ∧ (¬ y1 = 0 → mInR ((mset d y0 0 0) x0 0) ∧ ((mset d y0 0 0) x0 0 ≤ 0 → (0 ≤ 2 + x1 ∧ 2 + x1 < 3116) ∧ K (.inl (some (0, (mset d y0 0 0) (x0 + 1) (2 + x1)))) (mset d y0 0 0)) ∧ (0 < (mset d y0 0 0) x0 0 → K (.inl (some (0, 0))) (mset d y0 0 0)))) :
  tRun E 240 (10, [.inr (11, x0), .inl (0, x1)], [.inl (0, y1), .inr (11, y0)], 0, 0, d) K := tT_run (cut := [0, 10]) 14 _ h
theorem t_241_0 {E : mO × tW} {K : tK} {d : mD} {x0 x1 x2 : Int}
  (h : tCall E 236 [.inr (11, x0), .inl (0, x1)] d (tbk E 241 3 [.inr (11, x0), .inl (0, x1), .inl (0, x2)] [.inr (11, x0)] 0 0 K)) :
  tRun E 241 (0, [.inr (11, x0), .inl (0, x1), .inl (0, x2)], [], 0, 0, d) K := tT_run (cut := [0, 6, 22, 52]) 4 _ h
theorem t_241_6 {E : mO × tW} {K : tK} {d : mD} {x0 x1 x2 y0 y1 : Int}
  (h : mInR y1 ∧ (¬ y1 = 0 → mInR x2 ∧ tCall E 176 [.inl (1, x2), .inl (1, 0), .inl (1, 5)] d (tbk E 241 19 [.inr (11, x0), .inl (0, x1), .inl (0, x2)] [.inr (11, y0)] 0 0 K)) ∧ (y1 = 0 → mInR ((mset d y0 0 1) x0 0) ∧ ((mset d y0 0 1) x0 0 ≤ 0 → tCall E 177 [.inl (0, x1)] (mset d y0 0 1) (tbk E 241 49 [.inr (11, x0), .inl (0, x1), .inl (0, x2)] [.inr (25, x0 + 1)] 0 0 K)) ∧ (0 < (mset d y0 0 1) x0 0 → K (.inl (some (0, 0))) (mset d y0 0 1)))) :
  tRun E 241 (6, [.inr (11, x0), .inl (0, x1), .inl (0, x2)], [.inl (0, y1), .inr (11, y0)], 0, 0, d) K := tT_run (cut := [0, 6, 22, 52]) 11 _ h
theorem t_241_22 {E : mO × tW} {K : tK} {d : mD} {x0 x1 x2 y0 y1 : Int}
  (h : mInR y1 ∧ (y1 = 0 → mInR ((mset d y0 0 2) x0 0) ∧ ((mset d y0 0 2) x0 0 ≤ 0 → tCall E 177 [.inl (0, x1)] (mset d y0 0 2) (tbk E 241 49 [.inr (11, x0), .inl (0, x1), .inl (0, x2)] [.inr (25, x0 + 1)] 0 0 K)) ∧ (0 < (mset d y0 0 2) x0 0 → K (.inl (some (0, 0))) (mset d y0 0 2))) ∧ (¬ y1 = 0 → mInR ((mset d y0 0 0) x0 0) ∧ ((mset d y0 0 0) x0 0 ≤ 0 → tCall E 177 [.inl (0, x1)] (mset d y0 0 0) (tbk E 241 49 [.inr (11, x0), .inl (0, x1), .inl (0, x2)] [.inr (25, x0 + 1)] 0 0 K)) ∧ (0 < (mset d y0 0 0) x0 0 → K (.inl (some (0, 0))) (mset d y0 0 0)))) :
  tRun E 241 (22, [.inr (11, x0), .inl (0, x1), .inl (0, x2)], [.inl (0, y1), .inr (11, y0)], 0, 0, d) K := tT_run (cut := [0, 6, 22, 52]) 11 _ h
theorem t_241_52 {E : mO × tW} {K : tK} {d : mD} {x0 x1 x2 y0 y1 : Int}
  (h : (0 ≤ (y1 + 1) + x2 ∧ (y1 + 1) + x2 < 3116) ∧ K (.inl (some (0, d y0 ((y1 + 1) + x2)))) d) :
  tRun E 241 (52, [.inr (11, x0), .inl (0, x1), .inl (0, x2)], [.inl (0, y1), .inr (25, y0)], 0, 0, d) K := tT_run (cut := [0, 6, 22, 52]) 6 _ h
theorem t_242_0 {E : mO × tW} {K : tK} {d : mD} {x0 x1 x2 : Int}
  (h : tCall E 236 [.inr (11, x0), .inl (0, x1)] d (tbk E 242 3 [.inr (11, x0), .inl (0, x1), .inl (0, x2)] [.inr (11, x0)] 0 0 K)) :
  tRun E 242 (0, [.inr (11, x0), .inl (0, x1), .inl (0, x2)], [], 0, 0, d) K := tT_run (cut := [0, 6, 20, 29, 59]) 4 _ h
theorem t_242_6 {E : mO × tW} {K : tK} {d : mD} {x0 x1 x2 y0 y1 : Int}
  (h : mInR y1 ∧ (y1 = 0 → mInR ((mset d y0 0 1) x0 0) ∧ ((mset d y0 0 1) x0 0 ≤ 0 → tCall E 177 [.inl (0, x1)] (mset d y0 0 1) (tbk E 242 56 [.inr (11, x0), .inl (0, x1), .inl (0, x2)] [.inr (25, x0 + 1)] 0 0 K)) ∧ (0 < (mset d y0 0 1) x0 0 → K (.inl (some (0, 0))) (mset d y0 0 1))) ∧ (¬ y1 = 0 → mInR x2 ∧ tCall E 177 [.inl (0, x1)] d (tbk E 242 17 [.inr (11, x0), .inl (0, x1), .inl (0, x2)] [.inr (25, x0 + 1), .inl (1, 0), .inl (1, x2), .inr (11, y0)] 0 0 K))) :
  tRun E 242 (6, [.inr (11, x0), .inl (0, x1), .inl (0, x2)], [.inl (0, y1), .inr (11, y0)], 0, 0, d) K := tT_run (cut := [0, 6, 20, 29, 59]) 10 _ h
theorem t_242_20 {E : mO × tW} {K : tK} {d : mD} {x0 x1 x2 y0 y1 y2 y3 y4 : Int}
  (h : (0 ≤ y4 + 5 ∧ y4 + 5 < 3116) ∧ mInR ((d y3 (y4 + 5)) - 1) ∧ tCall E 176 [.inl (1, y1), .inl (1, y2), .inl (1, (d y3 (y4 + 5)) - 1)] d (tbk E 242 26 [.inr (11, x0), .inl (0, x1), .inl (0, x2)] [.inr (11, y0)] 0 0 K)) :
  tRun E 242 (20, [.inr (11, x0), .inl (0, x1), .inl (0, x2)], [.inl (0, y4), .inr (25, y3), .inl (1, y2), .inl (1, y1), .inr (11, y0)], 0, 0, d) K := tT_run (cut := [0, 6, 20, 29, 59]) 7 _ h
theorem t_242_29 {E : mO × tW} {K : tK} {d : mD} {x0 x1 x2 y0 y1 : Int}
  (h : mInR y1 ∧ (y1 = 0 → mInR ((mset d y0 0 1) x0 0) ∧ ((mset d y0 0 1) x0 0 ≤ 0 → tCall E 177 [.inl (0, x1)] (mset d y0 0 1) (tbk E 242 56 [.inr (11, x0), .inl (0, x1), .inl (0, x2)] [.inr (25, x0 + 1)] 0 0 K)) ∧ (0 < (mset d y0 0 1) x0 0 → K (.inl (some (0, 0))) (mset d y0 0 1))) ∧ (¬ y1 = 0 → mInR ((mset d y0 0 0) x0 0) ∧ ((mset d y0 0 0) x0 0 ≤ 0 → tCall E 177 [.inl (0, x1)] (mset d y0 0 0) (tbk E 242 56 [.inr (11, x0), .inl (0, x1), .inl (0, x2)] [.inr (25, x0 + 1)] 0 0 K)) ∧ (0 < (mset d y0 0 0) x0 0 → K (.inl (some (0, 0))) (mset d y0 0 0)))) :
  tRun E 242 (29, [.inr (11, x0), .inl (0, x1), .inl (0, x2)], [.inl (0, y1), .inr (11, y0)], 0, 0, d) K := tT_run (cut := [0, 6, 20, 29, 59]) 11 _ h
theorem t_242_59 {E : mO × tW} {K : tK} {d : mD} {x0 x1 x2 y0 y1 : Int}
  (h : (0 ≤ (y1 + 7) + x2 ∧ (y1 + 7) + x2 < 3116) ∧ K (.inl (some (0, d y0 ((y1 + 7) + x2)))) d) :
  tRun E 242 (59, [.inr (11, x0), .inl (0, x1), .inl (0, x2)], [.inl (0, y1), .inr (25, y0)], 0, 0, d) K := tT_run (cut := [0, 6, 20, 29, 59]) 6 _ h
theorem t_243_0 {E : mO × tW} {K : tK} {d : mD} {x0 x1 x2 : Int}
  (h : tRun E 243 (2, [.inr (11, x0), .inl (0, x1), .inl (0, x2), .inl (0, 0)], [], 0, 0, d) K) :
  tRun E 243 (0, [.inr (11, x0), .inl (0, x1), .inl (0, x2), tu], [], 0, 0, d) K := tT_run (cut := [0, 2, 21, 36, 49]) 2 _ h
theorem t_243_2 {E : mO × tW} {K : tK} {d : mD} {x0 x1 x2 x3 : Int}
  (h : (0 ≤ (9 : Int) ∧ (9 : Int) < 3116) ∧ (mInR x3 ∧ mInR (d (x0 + 1) 9)) ∧ (d (x0 + 1) 9 ≤ x3 → ((0 : Int) = 0 ∨ (0 : Int) = 1) ∧ K (.inl (some (0, 0))) d) ∧ (x3 < d (x0 + 1) 9 → tCall E 179 [.inl (0, x3)] d (tbk E 243 18 [.inr (11, x0), .inl (0, x1), .inl (0, x2), .inl (0, x3)] [.inr (25, x0 + 1)] 0 0 K))) :
  tRun E 243 (2, [.inr (11, x0), .inl (0, x1), .inl (0, x2), .inl (0, x3)], [], 0, 0, d) K := tT_run (cut := [0, 2, 21, 36, 49]) 10 _ h
theorem t_243_21 {E : mO × tW} {K : tK} {d : mD} {x0 x1 x2 x3 y0 y1 : Int}
  (h : (0 ≤ y1 + 0 ∧ y1 + 0 < 3116) ∧ (mInR (d y0 (y1 + 0)) ∧ mInR x1) ∧ (¬ d y0 (y1 + 0) = x1 → tRun E 243 (2, [.inr (11, x0), .inl (0, x1), .inl (0, x2), .inl (0, x3 + 1)], [], 0, 0, d) K) ∧ (d y0 (y1 + 0) = x1 → tCall E 179 [.inl (0, x3)] d (tbk E 243 33 [.inr (11, x0), .inl (0, x1), .inl (0, x2), .inl (0, x3)] [.inr (25, x0 + 1)] 0 0 K))) :
  tRun E 243 (21, [.inr (11, x0), .inl (0, x1), .inl (0, x2), .inl (0, x3)], [.inl (0, y1), .inr (25, y0)], 0, 0, d) K := tT_run (cut := [0, 2, 21, 36, 49]) 9 _ h
theorem t_243_36 {E : mO × tW} {K : tK} {d : mD} {x0 x1 x2 x3 y0 y1 : Int}
  (h : (0 ≤ y1 + 4 ∧ y1 + 4 < 3116) ∧ (mInR (d y0 (y1 + 4)) ∧ mInR 1) ∧ (¬ d y0 (y1 + 4) = 1 → tRun E 243 (2, [.inr (11, x0), .inl (0, x1), .inl (0, x2), .inl (0, x3 + 1)], [], 0, 0, d) K) ∧ (d y0 (y1 + 4) = 1 → tCall E 214 [.inr (11, x0), .inl (0, x3), .inl (0, x2)] d (tbk E 243 46 [.inr (11, x0), .inl (0, x1), .inl (0, x2), .inl (0, x3)] [] 0 0 K))) :
  tRun E 243 (36, [.inr (11, x0), .inl (0, x1), .inl (0, x2), .inl (0, x3)], [.inl (0, y1), .inr (25, y0)], 0, 0, d) K := tT_run (cut := [0, 2, 21, 36, 49]) 9 _ h
theorem t_243_49 {E : mO × tW} {K : tK} {d : mD} {x0 x1 x2 x3 y0 : Int}
  (h : mInR y0 ∧ (y0 = 0 → tRun E 243 (2, [.inr (11, x0), .inl (0, x1), .inl (0, x2), .inl (0, x3 + 1)], [], 0, 0, d) K) ∧ (¬ y0 = 0 → ((1 : Int) = 0 ∨ (1 : Int) = 1) ∧ K (.inl (some (0, 1))) d)) :
  tRun E 243 (49, [.inr (11, x0), .inl (0, x1), .inl (0, x2), .inl (0, x3)], [.inl (0, y0)], 0, 0, d) K := tT_run (cut := [0, 2, 21, 36, 49]) 3 _ h
theorem t_244_0 {E : mO × tW} {K : tK} {d : mD} {x0 x1 x2 : Int}
  (h : tRun E 244 (5, [.inr (11, x0), .inl (0, x1), .inl (0, x2), .inl (0, 0), .inl (0, 0)], [], 0, 0, d) K) :
  tRun E 244 (0, [.inr (11, x0), .inl (0, x1), .inl (0, x2), tu, tu], [], 0, 0, d) K := tT_run (cut := [0, 5, 24, 38]) 4 _ h
theorem t_244_5 {E : mO × tW} {K : tK} {d : mD} {x0 x1 x2 x3 x4 : Int}
  (h : (0 ≤ (0 : Int) ∧ (0 : Int) < 3116) ∧ (mInR x4 ∧ mInR (d (x0 + 1) 0)) ∧ (d (x0 + 1) 0 ≤ x4 → K (.inl (some (0, x3))) d) ∧ (x4 < d (x0 + 1) 0 → tCall E 243 [.inr (11, x0), .inl (0, x1), .inl (0, x4)] d (tbk E 244 21 [.inr (11, x0), .inl (0, x1), .inl (0, x2), .inl (0, x3), .inl (0, x4)] [.inl (0, x3)] 0 0 K))) :
  tRun E 244 (5, [.inr (11, x0), .inl (0, x1), .inl (0, x2), .inl (0, x3), .inl (0, x4)], [], 0, 0, d) K := tT_run (cut := [0, 5, 24, 38]) 11 _ h
theorem t_244_24 {E : mO × tW} {K : tK} {d : mD} {x0 x1 x2 x3 x4 y0 y1 : Int}
  (h : mInR y1 ∧ (y1 = 0 → tRun E 244 (5, [.inr (11, x0), .inl (0, x1), .inl (0, x2), .inl (0, y0 + 0), .inl (0, x4 + 1)], [], 0, 0, d) K) ∧ (¬ y1 = 0 → mInR x2 ∧ (x2 = 0 → tRun E 244 (5, [.inr (11, x0), .inl (0, x1), .inl (0, x2), .inl (0, y0 + 1), .inl (0, x4 + 1)], [], 0, 0, d) K) ∧ (¬ x2 = 0 → tCall E 216 [.inr (11, x0), .inl (0, x1), .inl (0, x4)] d (tbk E 244 35 [.inr (11, x0), .inl (0, x1), .inl (0, x2), .inl (0, x3), .inl (0, x4)] [.inl (0, y0)] 0 0 K)))) :
  tRun E 244 (24, [.inr (11, x0), .inl (0, x1), .inl (0, x2), .inl (0, x3), .inl (0, x4)], [.inl (0, y1), .inl (0, y0)], 0, 0, d) K := tT_run (cut := [0, 5, 24, 38]) 9 _ h
theorem t_244_38 {E : mO × tW} {K : tK} {d : mD} {x0 x1 x2 x3 x4 y0 y1 : Int}
  (h : mInR y1 ∧ (¬ y1 = 0 → tRun E 244 (5, [.inr (11, x0), .inl (0, x1), .inl (0, x2), .inl (0, y0 + 0), .inl (0, x4 + 1)], [], 0, 0, d) K) ∧ (y1 = 0 → tRun E 244 (5, [.inr (11, x0), .inl (0, x1), .inl (0, x2), .inl (0, y0 + 1), .inl (0, x4 + 1)], [], 0, 0, d) K)) :
  tRun E 244 (38, [.inr (11, x0), .inl (0, x1), .inl (0, x2), .inl (0, x3), .inl (0, x4)], [.inl (0, y1), .inl (0, y0)], 0, 0, d) K := tT_run (cut := [0, 5, 24, 38]) 7 _ h
theorem t_245_0 {E : mO × tW} {K : tK} {d : mD} {x0 x1 x2 : Int}
  (h : tRun E 245 (5, [.inr (11, x0), .inl (0, x1), .inl (0, x2), .inl (0, 0), .inl (0, 0)], [], 0, 0, d) K) :
  tRun E 245 (0, [.inr (11, x0), .inl (0, x1), .inl (0, x2), tu, tu], [], 0, 0, d) K := tT_run (cut := [0, 5, 27, 43]) 4 _ h
theorem t_245_5 {E : mO × tW} {K : tK} {d : mD} {x0 x1 x2 x3 x4 : Int}
  (h : (0 ≤ (10 : Int) ∧ (10 : Int) < 3116) ∧ (mInR x4 ∧ mInR (d (x0 + 1) 10)) ∧ (d (x0 + 1) 10 ≤ x4 → K (.inl (some (0, x3))) d) ∧ (x4 < d (x0 + 1) 10 → tCall E 180 [.inl (0, x4)] d (tbk E 245 24 [.inr (11, x0), .inl (0, x1), .inl (0, x2), .inl (0, x3), .inl (0, x4)] [.inr (25, x0 + 1), .inl (0, x3)] 0 0 K))) :
  tRun E 245 (5, [.inr (11, x0), .inl (0, x1), .inl (0, x2), .inl (0, x3), .inl (0, x4)], [], 0, 0, d) K := tT_run (cut := [0, 5, 27, 43]) 11 _ h
theorem t_245_27 {E : mO × tW} {K : tK} {d : mD} {x0 x1 x2 x3 x4 y0 y1 y2 : Int}
  (h : (0 ≤ y2 + 0 ∧ y2 + 0 < 3116) ∧ (mInR (d y1 (y2 + 0)) ∧ mInR x1) ∧ (¬ d y1 (y2 + 0) = x1 → tRun E 245 (5, [.inr (11, x0), .inl (0, x1), .inl (0, x2), .inl (0, y0 + 0), .inl (0, x4 + 1)], [], 0, 0, d) K) ∧ (d y1 (y2 + 0) = x1 → tCall E 180 [.inl (0, x4)] d (tbk E 245 40 [.inr (11, x0), .inl (0, x1), .inl (0, x2), .inl (0, x3), .inl (0, x4)] [.inr (25, x0 + 1), .inl (0, y0)] 0 0 K))) :
  tRun E 245 (27, [.inr (11, x0), .inl (0, x1), .inl (0, x2), .inl (0, x3), .inl (0, x4)], [.inl (0, y2), .inr (25, y1), .inl (0, y0)], 0, 0, d) K := tT_run (cut := [0, 5, 27, 43]) 10 _ h
theorem t_245_43 {E : mO × tW} {K : tK} {d : mD} {x0 x1 x2 x3 x4 y0 y1 y2 : Int}
  (h : (0 ≤ y2 + 3 ∧ y2 + 3 < 3116) ∧ (mInR (d y1 (y2 + 3)) ∧ mInR x2) ∧ (¬ d y1 (y2 + 3) = x2 → tRun E 245 (5, [.inr (11, x0), .inl (0, x1), .inl (0, x2), .inl (0, y0 + 0), .inl (0, x4 + 1)], [], 0, 0, d) K) ∧ (d y1 (y2 + 3) = x2 → tRun E 245 (5, [.inr (11, x0), .inl (0, x1), .inl (0, x2), .inl (0, y0 + 1), .inl (0, x4 + 1)], [], 0, 0, d) K)) :
  tRun E 245 (43, [.inr (11, x0), .inl (0, x1), .inl (0, x2), .inl (0, x3), .inl (0, x4)], [.inl (0, y2), .inr (25, y1), .inl (0, y0)], 0, 0, d) K := tT_run (cut := [0, 5, 27, 43]) 11 _ h
theorem t_246_0 {E : mO × tW} {K : tK} {d : mD} {x0 x1 x2 : Int}
  (h : tCall E 237 [.inr (11, x0), .inl (0, x1)] d (tbk E 246 3 [.inr (11, x0), .inl (0, x1), .inl (0, x2), tu, tu, tu, tu] [.inr (11, x0)] 0 0 K)) :
  tRun E 246 (0, [.inr (11, x0), .inl (0, x1), .inl (0, x2), tu, tu, tu, tu], [], 0, 0, d) K := tT_run (cut := [0, 6, 22, 50, 71, 114, 140, 160, 236, 251, 258, 265, 274, 280, 287]) 4 _ h
theorem t_246_6 {E : mO × tW} {K : tK} {d : mD} {x0 x1 x2 y0 y1 : Int}
  (h : mInR y1 ∧ (¬ y1 = 0 → mInR x2 ∧ tCall E 176 [.inl (1, x2), .inl (1, 0), .inl (1, 9)] d (tbk E 246 19 [.inr (11, x0), .inl (0, x1), .inl (0, x2), tu, tu, tu, tu] [.inr (11, y0)] 0 0 K)) ∧ (y1 = 0 → mInR ((mset d y0 0 1) x0 0) ∧ ((mset d y0 0 1) x0 0 ≤ 0 → tRun E 246 (50, [.inr (11, x0), .inl (0, x1), .inl (0, x2), .inl (0, 0), .inl (0, 0), .inl (0, 0), tu], [], 0, 0, mset d y0 0 1) K) ∧ (0 < (mset d y0 0 1) x0 0 → K (.inl (some (0, 0))) (mset d y0 0 1)))) :
  tRun E 246 (6, [.inr (11, x0), .inl (0, x1), .inl (0, x2), tu, tu, tu, tu], [.inl (0, y1), .inr (11, y0)], 0, 0, d) K := tT_run (cut := [0, 6, 22, 50, 71, 114, 140, 160, 236, 251, 258, 265, 274, 280, 287]) 13 _ h
theorem t_246_22 {E : mO × tW} {K : tK} {d : mD} {x0 x1 x2 y0 y1 : Int}
  (h : mInR y1 ∧ (y1 = 0 → mInR ((mset d y0 0 2) x0 0) ∧ ((mset d y0 0 2) x0 0 ≤ 0 → tRun E 246 (50, [.inr (11, x0), .inl (0, x1), .inl (0, x2), .inl (0, 0), .inl (0, 0), .inl (0, 0), tu], [], 0, 0, mset d y0 0 2) K) ∧ (0 < (mset d y0 0 2) x0 0 → K (.inl (some (0, 0))) (mset d y0 0 2))) ∧ (¬ y1 = 0 → mInR ((mset d y0 0 0) x0 0) ∧ ((mset d y0 0 0) x0 0 ≤ 0 → tRun E 246 (50, [.inr (11, x0), .inl (0, x1), .inl (0, x2), .inl (0, 0), .inl (0, 0), .inl (0, 0), tu], [], 0, 0, mset d y0 0 0) K) ∧ (0 < (mset d y0 0 0) x0 0 → K (.inl (some (0, 0))) (mset d y0 0 0)))) :
  tRun E 246 (22, [.inr (11, x0), .inl (0, x1), .inl (0, x2), tu, tu, tu, tu], [.inl (0, y1), .inr (11, y0)], 0, 0, d) K := tT_run (cut := [0, 6, 22, 50, 71, 114, 140, 160, 236, 251, 258, 265, 274, 280, 287]) 13 _ h
theorem t_246_50 {E : mO × tW} {K : tK} {d : mD} {x0 x1 x2 x3 x4 x5 : Int} {v6 : tV}
  (h : (0 ≤ (9 : Int) ∧ (9 : Int) < 3116) ∧ (mInR x5 ∧ mInR (d (x0 + 1) 9)) ∧ (d (x0 + 1) 9 ≤ x5 → tRun E 246 (140, [.inr (11, x0), .inl (0, x1), .inl (0, x2), .inl (0, x3), .inl (0, x4), .inl (0, 0), .inl (0, 0)], [], 0, 0, d) K) ∧ (x5 < d (x0 + 1) 9 → tCall E 179 [.inl (0, x5)] d (tbk E 246 68 [.inr (11, x0), .inl (0, x1), .inl (0, x2), .inl (0, x3), .inl (0, x4), .inl (0, x5), v6] [.inr (25, x0 + 1)] 0 0 K))) :
  tRun E 246 (50, [.inr (11, x0), .inl (0, x1), .inl (0, x2), .inl (0, x3), .inl (0, x4), .inl (0, x5), v6], [], 0, 0, d) K := tT_run (cut := [0, 6, 22, 50, 71, 114, 140, 160, 236, 251, 258, 265, 274, 280, 287]) 10 _ h
theorem t_246_71 {E : mO × tW} {K : tK} {d : mD} {x0 x1 x2 x3 x4 x5 y0 y1 : Int} {v6 : tV}
  (h : (0 ≤ y1 + 0 ∧ y1 + 0 < 3116) ∧ (mInR (d y0 (y1 + 0)) ∧ mInR x1) ∧ (¬ d y0 (y1 + 0) = x1 → mInR 0 ∧ ((0 : Int) = 0 → mInR 0 ∧ ((0 : Int) = 0 → tRun E 246 (50, [.inr (11, x0), .inl (0, x1), .inl (0, x2), .inl (0, x3 + 0), .inl (0, x4 + 0), .inl (0, x5 + 1), .inl (0, 0)], [], 0, 0, d) K) ∧ (¬ (0 : Int) = 0 → tCall E 179 [.inl (0, x5)] d (tbk E 246 111 [.inr (11, x0), .inl (0, x1), .inl (0, x2), .inl (0, x3 + 0), .inl (0, x4), .inl (0, x5), .inl (0, 0)] [.inr (25, x0 + 1), .inl (0, x4)] 0 0 K))) ∧ (¬ (0 : Int) = 0 → mInR 0 ∧ ((0 : Int) = 0 → tRun E 246 (50, [.inr (11, x0), .inl (0, x1), .inl (0, x2), .inl (0, x3 + 1), .inl (0, x4 + 0), .inl (0, x5 + 1), .inl (0, 0)], [], 0, 0, d) K) ∧ (¬ (0 : Int) = 0 → tCall E 179 [.inl (0, x5)] d (tbk E 246 111 [.inr (11, x0), .inl (0, x1), .inl (0, x2), .inl (0, x3 + 1), .inl (0, x4), .inl (0, x5), .inl (0, 0)] [.inr (25, x0 + 1), .inl (0, x4)] 0 0 K)))) ∧ (d y0 (y1 + 0) = x1 → mInR 1 ∧ ((1 : Int) = 0 → mInR 1 ∧ ((1 : Int) = 0 → tRun E 246 (50, [.inr (11, x0), .inl (0, x1), .inl (0, x2), .inl (0, x3 + 0), .inl (0, x4 + 0), .inl (0, x5 + 1), .inl (0, 1)], [], 0, 0, d) K) ∧ (¬ (1 : Int) = 0 → tCall E 179 [.inl (0, x5)] d (tbk E 246 111 [.inr (11, x0), .inl (0, x1), .inl (0, x2), .inl (0, x3 + 0), .inl (0, x4), .inl (0, x5), .inl (0, 1)] [.inr (25, x0 + 1), .inl (0, x4)] 0 0 K))) ∧ (¬ (1 : Int) = 0 → mInR 1 ∧ ((1 : Int) = 0 → tRun E 246 (50, [.inr (11, x0), .inl (0, x1), .inl (0, x2), .inl (0, x3 + 1), .inl (0, x4 + 0), .inl (0, x5 + 1), .inl (0, 1)], [], 0, 0, d) K) ∧ (¬ (1 : Int) = 0 → tCall E 179 [.inl (0, x5)] d (tbk E 246 111 [.inr (11, x0), .inl (0, x1), .inl (0, x2), .inl (0, x3 + 1), .inl (0, x4), .inl (0, x5), .inl (0, 1)] [.inr (25, x0 + 1), .inl (0, x4)] 0 0 K))))) :
  tRun E 246 (71, [.inr (11, x0), .inl (0, x1), .inl (0, x2), .inl (0, x3), .inl (0, x4), .inl (0, x5), v6], [.inl (0, y1), .inr (25, y0)], 0, 0, d) K := tT_run (cut := [0, 6, 22, 50, 71, 114, 140, 160, 236, 251, 258, 265, 274, 280, 287]) 23 _ h
theorem t_246_114 {E : mO × tW} {K : tK} {d : mD} {x0 x1 x2 x3 x4 x5 x6 y0 y1 y2 : Int}
  (h : (0 ≤ y2 + 4 ∧ y2 + 4 < 3116) ∧ mInR (d y1 (y2 + 4)) ∧ (¬ d y1 (y2 + 4) = 0 → tRun E 246 (50, [.inr (11, x0), .inl (0, x1), .inl (0, x2), .inl (0, x3), .inl (0, y0 + 0), .inl (0, x5 + 1), .inl (0, x6)], [], 0, 0, d) K) ∧ (d y1 (y2 + 4) = 0 → tRun E 246 (50, [.inr (11, x0), .inl (0, x1), .inl (0, x2), .inl (0, x3), .inl (0, y0 + 1), .inl (0, x5 + 1), .inl (0, x6)], [], 0, 0, d) K)) :
  tRun E 246 (114, [.inr (11, x0), .inl (0, x1), .inl (0, x2), .inl (0, x3), .inl (0, x4), .inl (0, x5), .inl (0, x6)], [.inl (0, y2), .inr (25, y1), .inl (0, y0)], 0, 0, d) K := tT_run (cut := [0, 6, 22, 50, 71, 114, 140, 160, 236, 251, 258, 265, 274, 280, 287]) 10 _ h
theorem t_246_140 {E : mO × tW} {K : tK} {d : mD} {x0 x1 x2 x3 x4 x5 x6 : Int}
  (h : (0 ≤ (10 : Int) ∧ (10 : Int) < 3116) ∧ (mInR x6 ∧ mInR (d (x0 + 1) 10)) ∧ (d (x0 + 1) 10 ≤ x6 → mInR x2 ∧ (x2 = 0 → tCall E 178 [.inl (0, x1)] d (tbk E 246 233 [.inr (11, x0), .inl (0, x1), .inl (0, x2), .inl (0, x3), .inl (0, x4), .inl (0, x5), .inl (0, x6)] [.inr (25, x0 + 1)] 0 0 K)) ∧ (x2 = 1 → K (.inl (some (0, x3))) d) ∧ (x2 = 2 → K (.inl (some (0, x4))) d) ∧ (x2 = 3 → tCall E 245 [.inr (11, x0), .inl (0, x1), .inl (0, 0)] d (tbk E 246 248 [.inr (11, x0), .inl (0, x1), .inl (0, x2), .inl (0, x3), .inl (0, x4), .inl (0, x5), .inl (0, x6)] [] 0 0 K)) ∧ (x2 = 4 → tCall E 245 [.inr (11, x0), .inl (0, x1), .inl (0, 1)] d (tbk E 246 255 [.inr (11, x0), .inl (0, x1), .inl (0, x2), .inl (0, x3), .inl (0, x4), .inl (0, x5), .inl (0, x6)] [] 0 0 K)) ∧ (x2 = 5 → tCall E 245 [.inr (11, x0), .inl (0, x1), .inl (0, 2)] d (tbk E 246 262 [.inr (11, x0), .inl (0, x1), .inl (0, x2), .inl (0, x3), .inl (0, x4), .inl (0, x5), .inl (0, x6)] [] 0 0 K)) ∧ (x2 = 6 → K (.inl (some (0, x5))) d) ∧ (x2 = 7 → tCall E 217 [.inr (11, x0), .inl (0, x1)] d (tbk E 246 271 [.inr (11, x0), .inl (0, x1), .inl (0, x2), .inl (0, x3), .inl (0, x4), .inl (0, x5), .inl (0, x6)] [] 0 0 K)) ∧ (x2 = 8 → tCall E 233 [.inr (11, x0), .inl (0, x1)] d (tbk E 246 277 [.inr (11, x0), .inl (0, x1), .inl (0, x2), .inl (0, x3), .inl (0, x4), .inl (0, x5), .inl (0, x6)] [] 0 0 K)) ∧ (x2 < 0 ∨ 8 < x2 → tCall E 244 [.inr (11, x0), .inl (0, x1), .inl (0, 1)] d (tbk E 246 284 [.inr (11, x0), .inl (0, x1), .inl (0, x2), .inl (0, x3), .inl (0, x4), .inl (0, x5), .inl (0, x6)] [] 0 0 K))) ∧ (x6 < d (x0 + 1) 10 → tCall E 215 [.inr (11, x0), .inl (0, x6)] d (tbk E 246 157 [.inr (11, x0), .inl (0, x1), .inl (0, x2), .inl (0, x3), .inl (0, x4), .inl (0, x5), .inl (0, x6)] [.inl (0, x5)] 0 0 K))) :
  tRun E 246 (140, [.inr (11, x0), .inl (0, x1), .inl (0, x2), .inl (0, x3), .inl (0, x4), .inl (0, x5), .inl (0, x6)], [], 0, 0, d) K := tT_run (cut := [0, 6, 22, 50, 71, 114, 140, 160, 236, 251, 258, 265, 274, 280, 287]) 12 _ h
theorem t_246_160 {E : mO × tW} {K : tK} {d : mD} {x0 x1 x2 x3 x4 x5 x6 y0 y1 : Int}
  (h : (mInR y1 ∧ mInR x1) ∧ (¬ y1 = x1 → tRun E 246 (140, [.inr (11, x0), .inl (0, x1), .inl (0, x2), .inl (0, x3), .inl (0, x4), .inl (0, y0 + 0), .inl (0, x6 + 1)], [], 0, 0, d) K) ∧ (y1 = x1 → tRun E 246 (140, [.inr (11, x0), .inl (0, x1), .inl (0, x2), .inl (0, x3), .inl (0, x4), .inl (0, y0 + 1), .inl (0, x6 + 1)], [], 0, 0, d) K)) :
  tRun E 246 (160, [.inr (11, x0), .inl (0, x1), .inl (0, x2), .inl (0, x3), .inl (0, x4), .inl (0, x5), .inl (0, x6)], [.inl (0, y1), .inl (0, y0)], 0, 0, d) K := tT_run (cut := [0, 6, 22, 50, 71, 114, 140, 160, 236, 251, 258, 265, 274, 280, 287]) 8 _ h
theorem t_246_236 {E : mO × tW} {K : tK} {d : mD} {x0 x1 x2 x3 x4 x5 x6 y0 y1 : Int}
  (h : (0 ≤ y1 + 1 ∧ y1 + 1 < 3116) ∧ K (.inl (some (0, d y0 (y1 + 1)))) d) :
  tRun E 246 (236, [.inr (11, x0), .inl (0, x1), .inl (0, x2), .inl (0, x3), .inl (0, x4), .inl (0, x5), .inl (0, x6)], [.inl (0, y1), .inr (25, y0)], 0, 0, d) K := tT_run (cut := [0, 6, 22, 50, 71, 114, 140, 160, 236, 251, 258, 265, 274, 280, 287]) 4 _ h
theorem t_246_251 {E : mO × tW} {K : tK} {d : mD} {x0 x1 x2 x3 x4 x5 x6 y0 : Int}
  (h : K (.inl (some (0, y0))) d) :
  tRun E 246 (251, [.inr (11, x0), .inl (0, x1), .inl (0, x2), .inl (0, x3), .inl (0, x4), .inl (0, x5), .inl (0, x6)], [.inl (0, y0)], 0, 0, d) K := tT_run (cut := [0, 6, 22, 50, 71, 114, 140, 160, 236, 251, 258, 265, 274, 280, 287]) 1 _ h
theorem t_246_258 {E : mO × tW} {K : tK} {d : mD} {x0 x1 x2 x3 x4 x5 x6 y0 : Int}
  (h : K (.inl (some (0, y0))) d) :
  tRun E 246 (258, [.inr (11, x0), .inl (0, x1), .inl (0, x2), .inl (0, x3), .inl (0, x4), .inl (0, x5), .inl (0, x6)], [.inl (0, y0)], 0, 0, d) K := tT_run (cut := [0, 6, 22, 50, 71, 114, 140, 160, 236, 251, 258, 265, 274, 280, 287]) 1 _ h
theorem t_246_265 {E : mO × tW} {K : tK} {d : mD} {x0 x1 x2 x3 x4 x5 x6 y0 : Int}
  (h : K (.inl (some (0, y0))) d) :
  tRun E 246 (265, [.inr (11, x0), .inl (0, x1), .inl (0, x2), .inl (0, x3), .inl (0, x4), .inl (0, x5), .inl (0, x6)], [.inl (0, y0)], 0, 0, d) K := tT_run (cut := [0, 6, 22, 50, 71, 114, 140, 160, 236, 251, 258, 265, 274, 280, 287]) 1 _ h
theorem t_246_274 {E : mO × tW} {K : tK} {d : mD} {x0 x1 x2 x3 x4 x5 x6 y0 : Int}
  (h : K (.inl (some (0, y0))) d) :
  tRun E 246 (274, [.inr (11, x0), .inl (0, x1), .inl (0, x2), .inl (0, x3), .inl (0, x4), .inl (0, x5), .inl (0, x6)], [.inl (0, y0)], 0, 0, d) K := tT_run (cut := [0, 6, 22, 50, 71, 114, 140, 160, 236, 251, 258, 265, 274, 280, 287]) 1 _ h
theorem t_246_280 {E : mO × tW} {K : tK} {d : mD} {x0 x1 x2 x3 x4 x5 x6 y0 : Int}
  (h : K (.inl (some (0, y0))) d) :
  tRun E 246 (280, [.inr (11, x0), .inl (0, x1), .inl (0, x2), .inl (0, x3), .inl (0, x4), .inl (0, x5), .inl (0, x6)], [.inl (0, y0)], 0, 0, d) K := tT_run (cut := [0, 6, 22, 50, 71, 114, 140, 160, 236, 251, 258, 265, 274, 280, 287]) 1 _ h
theorem t_246_287 {E : mO × tW} {K : tK} {d : mD} {x0 x1 x2 x3 x4 x5 x6 y0 : Int}
  (h : K (.inl (some (0, y0))) d) :
  tRun E 246 (287, [.inr (11, x0), .inl (0, x1), .inl (0, x2), .inl (0, x3), .inl (0, x4), .inl (0, x5), .inl (0, x6)], [.inl (0, y0)], 0, 0, d) K := tT_run (cut := [0, 6, 22, 50, 71, 114, 140, 160, 236, 251, 258, 265, 274, 280, 287]) 1 _ h
