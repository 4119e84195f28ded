/-! ===== pieces of the methods between cuts: printed by a program of mine ===== -/
theorem t_204_0 {E : mO × tW} {K : tK} {d : mD} {x0 x1 : Int}
  (h : mInR (d x0 13) ∧ (¬ d x0 13 = 0 → tRun E 204 (13, [.inr (11, x0), .inl (0, x1), .inl (0, 0), tu], [], 0, 0, d) K) ∧ (d x0 13 = 0 → tRun E 204 (13, [.inr (11, x0), .inl (0, x1), .inl (0, 1), tu], [], 0, 0, d) K)) :
  tRun E 204 (0, [.inr (11, x0), .inl (0, x1), tu, tu], [], 0, 0, d) K := tT_run (cut := [0, 13, 21, 43, 79, 85, 88, 100, 111, 134]) 6 _ h
theorem t_204_13 {E : mO × tW} {K : tK} {d : mD} {x0 x1 x2 : Int} {v3 : tV}
  (h : mInR x2 ∧ (x2 = 0 → K (.inl none) d) ∧ (¬ x2 = 0 → tCall E 189 [.inr (11, x0)] d (tbk E 204 18 [.inr (11, x0), .inl (0, x1), .inl (0, x2), v3] [] 0 0 K))) :
  tRun E 204 (13, [.inr (11, x0), .inl (0, x1), .inl (0, x2), v3], [], 0, 0, d) K := tT_run (cut := [0, 13, 21, 43, 79, 85, 88, 100, 111, 134]) 4 _ h
theorem t_204_21 {E : mO × tW} {K : tK} {d : mD} {x0 x1 x2 : Int} {v3 : tV}
  (h : mInR x1 ∧ (x1 = 0 → tCall E 194 [.inr (11, x0), .inl (1, 232608281)] d (tbk E 204 40 [.inr (11, x0), .inl (0, x1), .inl (0, x2), .inl (0, d x0 10)] [] 0 0 K)) ∧ (¬ x1 = 0 → tCall E 194 [.inr (11, x0), .inl (1, 218546996)] d (tbk E 204 40 [.inr (11, x0), .inl (0, x1), .inl (0, x2), .inl (0, d x0 10)] [] 0 0 K))) :
  tRun E 204 (21, [.inr (11, x0), .inl (0, x1), .inl (0, x2), v3], [], 0, 0, d) K := tT_run (cut := [0, 13, 21, 43, 79, 85, 88, 100, 111, 134]) 9 _ h
theorem t_204_43 {E : mO × tW} {K : tK} {d : mD} {x0 x1 x2 x3 y0 : Int}
  (h : mInR y0 ∧ (y0 = 0 → tRun E 204 (88, [.inr (11, x0), .inl (0, x1), .inl (0, y0), .inl (0, x3)], [], 0, 0, d) K) ∧ (¬ y0 = 0 → mInR x1 ∧ (x1 = 0 → (0 ≤ (8 : Int) ∧ (8 : Int) < 3116) ∧ (mInR (d (x0 + 1) 8) ∧ mInR 16) ∧ (¬ d (x0 + 1) 8 = 16 → tRun E 204 (88, [.inr (11, x0), .inl (0, x1), .inl (0, y0), .inl (0, x3)], [], 0, 0, d) K) ∧ (d (x0 + 1) 8 = 16 → tRun E 204 (79, [.inr (11, x0), .inl (0, x1), .inl (0, y0), .inl (0, x3)], [], 0, 0, d) K)) ∧ (¬ x1 = 0 → (0 ≤ (7 : Int) ∧ (7 : Int) < 3116) ∧ (mInR (d (x0 + 1) 7) ∧ mInR 6) ∧ (¬ d (x0 + 1) 7 = 6 → tRun E 204 (88, [.inr (11, x0), .inl (0, x1), .inl (0, y0), .inl (0, x3)], [], 0, 0, d) K) ∧ (d (x0 + 1) 7 = 6 → tRun E 204 (79, [.inr (11, x0), .inl (0, x1), .inl (0, y0), .inl (0, x3)], [], 0, 0, d) K)))) :
  tRun E 204 (43, [.inr (11, x0), .inl (0, x1), .inl (0, x2), .inl (0, x3)], [.inl (0, y0)], 0, 0, d) K := tT_run (cut := [0, 13, 21, 43, 79, 85, 88, 100, 111, 134]) 12 _ h
theorem t_204_79 {E : mO × tW} {K : tK} {d : mD} {x0 x1 x2 x3 : Int}
  (h : tCall E 188 [.inr (11, x0), .inl (0, 5), .inl (0, x3)] d (tbk E 204 82 [.inr (11, x0), .inl (0, x1), .inl (0, x2), .inl (0, x3)] [] 0 0 K)) :
  tRun E 204 (79, [.inr (11, x0), .inl (0, x1), .inl (0, x2), .inl (0, x3)], [], 0, 0, d) K := tT_run (cut := [0, 13, 21, 43, 79, 85, 88, 100, 111, 134]) 4 _ h
theorem t_204_85 {E : mO × tW} {K : tK} {d : mD} {x0 x1 x2 x3 : Int}
  (h : tRun E 204 (134, [.inr (11, x0), .inl (0, x1), .inl (0, x2), .inl (0, x3)], [], 0, 0, d) K) :
  tRun E 204 (85, [.inr (11, x0), .inl (0, x1), .inl (0, x2), .inl (0, x3)], [], 0, 0, d) K := tT_run (cut := [0, 13, 21, 43, 79, 85, 88, 100, 111, 134]) 1 _ h
theorem t_204_88 {E : mO × tW} {K : tK} {d : mD} {x0 x1 x2 x3 : Int}
  (h : mInR x2 ∧ (x2 = 0 → mInR x2 ∧ (x2 = 0 → mInR x1 ∧ (x1 = 0 → tRun E 204 (134, [.inr (11, x0), .inl (0, x1), .inl (0, x2), .inl (0, x3)], [], 0, 0, d) K) ∧ (¬ x1 = 0 → (0 ≤ (7 : Int) ∧ (7 : Int) < 3116) ∧ mInR (d (x0 + 1) 7) ∧ (¬ d (x0 + 1) 7 = 0 → tRun E 204 (134, [.inr (11, x0), .inl (0, x1), .inl (0, x2), .inl (0, x3)], [], 0, 0, d) K) ∧ (d (x0 + 1) 7 = 0 → tCall E 188 [.inr (11, x0), .inl (0, 1), .inl (0, x3)] d (tbk E 204 131 [.inr (11, x0), .inl (0, x1), .inl (0, x2), .inl (0, x3)] [] 0 0 K)))) ∧ (¬ x2 = 0 → tCall E 203 [.inr (11, x0)] d (tbk E 204 108 [.inr (11, x0), .inl (0, x1), .inl (0, x2), .inl (0, x3)] [] 0 0 K))) ∧ (¬ x2 = 0 → mInR x1 ∧ (x1 = 0 → mInR x2 ∧ (x2 = 0 → mInR x1 ∧ (x1 = 0 → tRun E 204 (134, [.inr (11, x0), .inl (0, x1), .inl (0, x2), .inl (0, x3)], [], 0, 0, d) K) ∧ (¬ x1 = 0 → (0 ≤ (7 : Int) ∧ (7 : Int) < 3116) ∧ mInR (d (x0 + 1) 7) ∧ (¬ d (x0 + 1) 7 = 0 → tRun E 204 (134, [.inr (11, x0), .inl (0, x1), .inl (0, x2), .inl (0, x3)], [], 0, 0, d) K) ∧ (d (x0 + 1) 7 = 0 → tCall E 188 [.inr (11, x0), .inl (0, 1), .inl (0, x3)] d (tbk E 204 131 [.inr (11, x0), .inl (0, x1), .inl (0, x2), .inl (0, x3)] [] 0 0 K)))) ∧ (¬ x2 = 0 → tCall E 203 [.inr (11, x0)] d (tbk E 204 108 [.inr (11, x0), .inl (0, x1), .inl (0, x2), .inl (0, x3)] [] 0 0 K))) ∧ (¬ x1 = 0 → tCall E 202 [.inr (11, x0)] d (tbk E 204 97 [.inr (11, x0), .inl (0, x1), .inl (0, x2), .inl (0, x3)] [] 0 0 K)))) :
  tRun E 204 (88, [.inr (11, x0), .inl (0, x1), .inl (0, x2), .inl (0, x3)], [], 0, 0, d) K := tT_run (cut := [0, 13, 21, 43, 79, 85, 88, 100, 111, 134]) 17 _ h
theorem t_204_100 {E : mO × tW} {K : tK} {d : mD} {x0 x1 x2 x3 : Int}
  (h : tRun E 204 (134, [.inr (11, x0), .inl (0, x1), .inl (0, x2), .inl (0, x3)], [], 0, 0, d) K) :
  tRun E 204 (100, [.inr (11, x0), .inl (0, x1), .inl (0, x2), .inl (0, x3)], [], 0, 0, d) K := tT_run (cut := [0, 13, 21, 43, 79, 85, 88, 100, 111, 134]) 1 _ h
theorem t_204_111 {E : mO × tW} {K : tK} {d : mD} {x0 x1 x2 x3 : Int}
  (h : tRun E 204 (134, [.inr (11, x0), .inl (0, x1), .inl (0, x2), .inl (0, x3)], [], 0, 0, d) K) :
  tRun E 204 (111, [.inr (11, x0), .inl (0, x1), .inl (0, x2), .inl (0, x3)], [], 0, 0, d) K := tT_run (cut := [0, 13, 21, 43, 79, 85, 88, 100, 111, 134]) 1 _ h
theorem t_204_134 {E : mO × tW} {K : tK} {d : mD} {x0 x1 x2 x3 : Int}
  (h : mInR (d x0 13) ∧ (¬ d x0 13 = 0 → tRun E 204 (13, [.inr (11, x0), .inl (0, x1), .inl (0, miand x2 0), .inl (0, x3)], [], 0, 0, d) K) ∧ (d x0 13 = 0 → tRun E 204 (13, [.inr (11, x0), .inl (0, x1), .inl (0, miand x2 1), .inl (0, x3)], [], 0, 0, d) K)) :
  tRun E 204 (134, [.inr (11, x0), .inl (0, x1), .inl (0, x2), .inl (0, x3)], [], 0, 0, d) K := tT_run (cut := [0, 13, 21, 43, 79, 85, 88, 100, 111, 134]) 9 _ h
theorem t_205_0 {E : mO × tW} {K : tK} {d : mD} {x0 : Int}
  (h : mInR (d x0 13) ∧ (¬ d x0 13 = 0 → tRun E 205 (13, [.inr (11, x0), .inl (0, 0), tu, tu, tu], [], 0, 0, d) K) ∧ (d x0 13 = 0 → tRun E 205 (13, [.inr (11, x0), .inl (0, 1), tu, tu, tu], [], 0, 0, d) K)) :
  tRun E 205 (0, [.inr (11, x0), tu, tu, tu, tu], [], 0, 0, d) K := tT_run (cut := [0, 13, 24, 32, 37, 52, 63, 72, 84, 94, 118, 123, 132, 148, 157, 160, 174, 185, 193, 204, 212, 219, 222, 237, 248, 257]) 6 _ h
theorem t_205_13 {E : mO × tW} {K : tK} {d : mD} {x0 x1 : Int} {v2 v3 v4 : tV}
  (h : mInR x1 ∧ (x1 = 0 → K (.inl none) d) ∧ (¬ x1 = 0 → tCall E 194 [.inr (11, x0), .inl (1, 208022)] d (tbk E 205 21 [.inr (11, x0), .inl (0, x1), v2, v3, v4] [] 0 0 K))) :
  tRun E 205 (13, [.inr (11, x0), .inl (0, x1), v2, v3, v4], [], 0, 0, d) K := tT_run (cut := [0, 13, 24, 32, 37, 52, 63, 72, 84, 94, 118, 123, 132, 148, 157, 160, 174, 185, 193, 204, 212, 219, 222, 237, 248, 257]) 5 _ h
theorem t_205_24 {E : mO × tW} {K : tK} {d : mD} {x0 x1 y0 : Int} {v2 v3 v4 : tV}
  (h : mInR y0 ∧ (y0 = 0 → tCall E 194 [.inr (11, x0), .inl (1, 316189)] d (tbk E 205 81 [.inr (11, x0), .inl (0, x1), v2, v3, v4] [] 0 0 K)) ∧ (¬ y0 = 0 → tCall E 199 [.inr (11, x0), .inl (0, 0)] d (tbk E 205 29 [.inr (11, x0), .inl (0, x1), v2, v3, v4] [] 0 0 K))) :
  tRun E 205 (24, [.inr (11, x0), .inl (0, x1), v2, v3, v4], [.inl (0, y0)], 0, 0, d) K := tT_run (cut := [0, 13, 24, 32, 37, 52, 63, 72, 84, 94, 118, 123, 132, 148, 157, 160, 174, 185, 193, 204, 212, 219, 222, 237, 248, 257]) 4 _ h
theorem t_205_32 {E : mO × tW} {K : tK} {d : mD} {x0 x1 y0 : Int} {v2 v3 v4 : tV}
  (h : tCall E 200 [.inr (11, x0)] d (tbk E 205 34 [.inr (11, x0), .inl (0, x1), .inl (0, y0), v3, v4] [] 0 0 K)) :
  tRun E 205 (32, [.inr (11, x0), .inl (0, x1), v2, v3, v4], [.inl (0, y0)], 0, 0, d) K := tT_run (cut := [0, 13, 24, 32, 37, 52, 63, 72, 84, 94, 118, 123, 132, 148, 157, 160, 174, 185, 193, 204, 212, 219, 222, 237, 248, 257]) 3 _ h
theorem t_205_37 {E : mO × tW} {K : tK} {d : mD} {x0 x1 x2 y0 : Int} {v3 v4 : tV}
  (h : mInR (d x0 13) ∧ (¬ d x0 13 = 0 → tCall E 196 [.inr (11, x0), .inl (0, 0)] d (tbk E 205 60 [.inr (11, x0), .inl (0, x1), .inl (0, x2), .inl (0, y0), v4] [] 0 0 K)) ∧ (d x0 13 = 0 → tCall E 225 [.inr (11, x0), .inl (0, x2), .inl (0, y0)] d (tbk E 205 49 [.inr (11, x0), .inl (0, x1), .inl (0, x2), .inl (0, y0), v4] [.inr (11, x0)] 0 0 K))) :
  tRun E 205 (37, [.inr (11, x0), .inl (0, x1), .inl (0, x2), v3, v4], [.inl (0, y0)], 0, 0, d) K := tT_run (cut := [0, 13, 24, 32, 37, 52, 63, 72, 84, 94, 118, 123, 132, 148, 157, 160, 174, 185, 193, 204, 212, 219, 222, 237, 248, 257]) 9 _ h
theorem t_205_52 {E : mO × tW} {K : tK} {d : mD} {x0 x1 x2 x3 y0 y1 : Int} {v4 : tV}
  (h : mInR y1 ∧ (y1 = 0 → tCall E 196 [.inr (11, y0), .inl (0, 0)] d (tbk E 205 60 [.inr (11, x0), .inl (0, x1), .inl (0, x2), .inl (0, x3), v4] [] 0 0 K)) ∧ (¬ y1 = 0 → tCall E 196 [.inr (11, y0), .inl (0, 1)] d (tbk E 205 60 [.inr (11, x0), .inl (0, x1), .inl (0, x2), .inl (0, x3), v4] [] 0 0 K))) :
  tRun E 205 (52, [.inr (11, x0), .inl (0, x1), .inl (0, x2), .inl (0, x3), v4], [.inl (0, y1), .inr (11, y0)], 0, 0, d) K := tT_run (cut := [0, 13, 24, 32, 37, 52, 63, 72, 84, 94, 118, 123, 132, 148, 157, 160, 174, 185, 193, 204, 212, 219, 222, 237, 248, 257]) 4 _ h
theorem t_205_63 {E : mO × tW} {K : tK} {d : mD} {x0 x1 x2 x3 y0 : Int} {v4 : tV}
  (h : mInR y0 ∧ (y0 = 0 → mInR (d x0 13) ∧ (¬ d x0 13 = 0 → tRun E 205 (13, [.inr (11, x0), .inl (0, miand x1 0), .inl (0, x2), .inl (0, x3), v4], [], 0, 0, d) K) ∧ (d x0 13 = 0 → tRun E 205 (13, [.inr (11, x0), .inl (0, miand x1 1), .inl (0, x2), .inl (0, x3), v4], [], 0, 0, d) K)) ∧ (¬ y0 = 0 → tCall E 226 [.inr (11, x0), .inl (0, x2), .inl (0, x3)] d (tbk E 205 69 [.inr (11, x0), .inl (0, x1), .inl (0, x2), .inl (0, x3), v4] [] 0 0 K))) :
  tRun E 205 (63, [.inr (11, x0), .inl (0, x1), .inl (0, x2), .inl (0, x3), v4], [.inl (0, y0)], 0, 0, d) K := tT_run (cut := [0, 13, 24, 32, 37, 52, 63, 72, 84, 94, 118, 123, 132, 148, 157, 160, 174, 185, 193, 204, 212, 219, 222, 237, 248, 257]) 11 _ h
theorem t_205_72 {E : mO × tW} {K : tK} {d : mD} {x0 x1 x2 x3 y0 : Int} {v4 : tV}
  (h : mInR (d x0 13) ∧ (¬ d x0 13 = 0 → tRun E 205 (13, [.inr (11, x0), .inl (0, miand x1 0), .inl (0, x2), .inl (0, x3), .inl (0, y0)], [], 0, 0, d) K) ∧ (d x0 13 = 0 → tRun E 205 (13, [.inr (11, x0), .inl (0, miand x1 1), .inl (0, x2), .inl (0, x3), .inl (0, y0)], [], 0, 0, d) K)) :
  tRun E 205 (72, [.inr (11, x0), .inl (0, x1), .inl (0, x2), .inl (0, x3), v4], [.inl (0, y0)], 0, 0, d) K := tT_run (cut := [0, 13, 24, 32, 37, 52, 63, 72, 84, 94, 118, 123, 132, 148, 157, 160, 174, 185, 193, 204, 212, 219, 222, 237, 248, 257]) 11 _ h
theorem t_205_84 {E : mO × tW} {K : tK} {d : mD} {x0 x1 y0 : Int} {v2 v3 v4 : tV}
  (h : mInR y0 ∧ (y0 = 0 → tCall E 194 [.inr (11, x0), .inl (1, 1831504)] d (tbk E 205 145 [.inr (11, x0), .inl (0, x1), v2, v3, v4] [] 0 0 K)) ∧ (¬ y0 = 0 → tCall E 197 [.inr (11, x0), .inl (0, 1), .inl (0, 99)] d (tbk E 205 91 [.inr (11, x0), .inl (0, x1), v2, v3, v4] [] 0 0 K))) :
  tRun E 205 (84, [.inr (11, x0), .inl (0, x1), v2, v3, v4], [.inl (0, y0)], 0, 0, d) K := tT_run (cut := [0, 13, 24, 32, 37, 52, 63, 72, 84, 94, 118, 123, 132, 148, 157, 160, 174, 185, 193, 204, 212, 219, 222, 237, 248, 257]) 5 _ h
theorem t_205_94 {E : mO × tW} {K : tK} {d : mD} {x0 x1 y0 : Int} {v2 v3 v4 : tV}
  (h : (0 ≤ (0 : Int) ∧ (0 : Int) < 3116) ∧ (mInR ((d (x0 + 1) 0) + y0) ∧ mInR 999) ∧ (999 < (d (x0 + 1) 0) + y0 → tCall E 196 [.inr (11, x0), .inl (0, 0)] d (tbk E 205 115 [.inr (11, x0), .inl (0, x1), .inl (0, y0), v3, v4] [] 0 0 K)) ∧ ((d (x0 + 1) 0) + y0 ≤ 999 → tCall E 196 [.inr (11, x0), .inl (0, 1)] d (tbk E 205 115 [.inr (11, x0), .inl (0, x1), .inl (0, y0), v3, v4] [] 0 0 K))) :
  tRun E 205 (94, [.inr (11, x0), .inl (0, x1), v2, v3, v4], [.inl (0, y0)], 0, 0, d) K := tT_run (cut := [0, 13, 24, 32, 37, 52, 63, 72, 84, 94, 118, 123, 132, 148, 157, 160, 174, 185, 193, 204, 212, 219, 222, 237, 248, 257]) 13 _ h
theorem t_205_118 {E : mO × tW} {K : tK} {d : mD} {x0 x1 x2 y0 : Int} {v3 v4 : tV}
  (h : mInR y0 ∧ (y0 = 0 → mInR (d x0 13) ∧ (¬ d x0 13 = 0 → tRun E 205 (13, [.inr (11, x0), .inl (0, miand x1 0), .inl (0, x2), v3, v4], [], 0, 0, d) K) ∧ (d x0 13 = 0 → tRun E 205 (13, [.inr (11, x0), .inl (0, miand x1 1), .inl (0, x2), v3, v4], [], 0, 0, d) K)) ∧ (¬ y0 = 0 → tRun E 205 (123, [.inr (11, x0), .inl (0, x1), .inl (0, x2), .inl (0, 0), v4], [], 0, 0, d) K)) :
  tRun E 205 (118, [.inr (11, x0), .inl (0, x1), .inl (0, x2), v3, v4], [.inl (0, y0)], 0, 0, d) K := tT_run (cut := [0, 13, 24, 32, 37, 52, 63, 72, 84, 94, 118, 123, 132, 148, 157, 160, 174, 185, 193, 204, 212, 219, 222, 237, 248, 257]) 11 _ h
theorem t_205_123 {E : mO × tW} {K : tK} {d : mD} {x0 x1 x2 x3 : Int} {v4 : tV}
  (h : (mInR x3 ∧ mInR x2) ∧ (x2 ≤ x3 → mInR (d x0 13) ∧ (¬ d x0 13 = 0 → tRun E 205 (13, [.inr (11, x0), .inl (0, miand x1 0), .inl (0, x2), .inl (0, x3), v4], [], 0, 0, d) K) ∧ (d x0 13 = 0 → tRun E 205 (13, [.inr (11, x0), .inl (0, miand x1 1), .inl (0, x2), .inl (0, x3), v4], [], 0, 0, d) K)) ∧ (x3 < x2 → tCall E 223 [.inr (11, x0)] d (tbk E 205 129 [.inr (11, x0), .inl (0, x1), .inl (0, x2), .inl (0, x3), v4] [] 0 0 K))) :
  tRun E 205 (123, [.inr (11, x0), .inl (0, x1), .inl (0, x2), .inl (0, x3), v4], [], 0, 0, d) K := tT_run (cut := [0, 13, 24, 32, 37, 52, 63, 72, 84, 94, 118, 123, 132, 148, 157, 160, 174, 185, 193, 204, 212, 219, 222, 237, 248, 257]) 13 _ h
theorem t_205_132 {E : mO × tW} {K : tK} {d : mD} {x0 x1 x2 x3 : Int} {v4 : tV}
  (h : tRun E 205 (123, [.inr (11, x0), .inl (0, x1), .inl (0, x2), .inl (0, x3 + 1), v4], [], 0, 0, d) K) :
  tRun E 205 (132, [.inr (11, x0), .inl (0, x1), .inl (0, x2), .inl (0, x3), v4], [], 0, 0, d) K := tT_run (cut := [0, 13, 24, 32, 37, 52, 63, 72, 84, 94, 118, 123, 132, 148, 157, 160, 174, 185, 193, 204, 212, 219, 222, 237, 248, 257]) 2 _ h
theorem t_205_148 {E : mO × tW} {K : tK} {d : mD} {x0 x1 y0 : Int} {v2 v3 v4 : tV}
  (h : mInR y0 ∧ (y0 = 0 → tCall E 194 [.inr (11, x0), .inl (1, 9050719969)] d (tbk E 205 201 [.inr (11, x0), .inl (0, x1), v2, v3, v4] [] 0 0 K)) ∧ (¬ y0 = 0 → tCall E 199 [.inr (11, x0), .inl (0, 1)] d (tbk E 205 154 [.inr (11, x0), .inl (0, x1), v2, v3, v4] [.inr (11, x0)] 0 0 K))) :
  tRun E 205 (148, [.inr (11, x0), .inl (0, x1), v2, v3, v4], [.inl (0, y0)], 0, 0, d) K := tT_run (cut := [0, 13, 24, 32, 37, 52, 63, 72, 84, 94, 118, 123, 132, 148, 157, 160, 174, 185, 193, 204, 212, 219, 222, 237, 248, 257]) 5 _ h
theorem t_205_157 {E : mO × tW} {K : tK} {d : mD} {x0 x1 y0 y1 : Int} {v2 v3 v4 : tV}
  (h : tCall E 201 [.inr (11, y0), .inl (0, y1)] d (tbk E 205 157 [.inr (11, x0), .inl (0, x1), v2, v3, v4] [] 0 0 K)) :
  tRun E 205 (157, [.inr (11, x0), .inl (0, x1), v2, v3, v4], [.inl (0, y1), .inr (11, y0)], 0, 0, d) K := tT_run (cut := [0, 13, 24, 32, 37, 52, 63, 72, 84, 94, 118, 123, 132, 148, 157, 160, 174, 185, 193, 204, 212, 219, 222, 237, 248, 257]) 1 _ h
theorem t_205_160 {E : mO × tW} {K : tK} {d : mD} {x0 x1 y0 : Int} {v2 v3 v4 : tV}
  (h : mInR (d x0 13) ∧ (¬ d x0 13 = 0 → tCall E 196 [.inr (11, x0), .inl (0, 0)] d (tbk E 205 182 [.inr (11, x0), .inl (0, x1), .inl (0, y0), v3, v4] [] 0 0 K)) ∧ (d x0 13 = 0 → tCall E 227 [.inr (11, x0), .inl (0, y0)] d (tbk E 205 171 [.inr (11, x0), .inl (0, x1), .inl (0, y0), v3, v4] [.inr (11, x0)] 0 0 K))) :
  tRun E 205 (160, [.inr (11, x0), .inl (0, x1), v2, v3, v4], [.inl (0, y0)], 0, 0, d) K := tT_run (cut := [0, 13, 24, 32, 37, 52, 63, 72, 84, 94, 118, 123, 132, 148, 157, 160, 174, 185, 193, 204, 212, 219, 222, 237, 248, 257]) 8 _ h
theorem t_205_174 {E : mO × tW} {K : tK} {d : mD} {x0 x1 x2 y0 y1 : Int} {v3 v4 : tV}
  (h : mInR y1 ∧ (y1 = 0 → tCall E 196 [.inr (11, y0), .inl (0, 0)] d (tbk E 205 182 [.inr (11, x0), .inl (0, x1), .inl (0, x2), v3, v4] [] 0 0 K)) ∧ (¬ y1 = 0 → tCall E 196 [.inr (11, y0), .inl (0, 1)] d (tbk E 205 182 [.inr (11, x0), .inl (0, x1), .inl (0, x2), v3, v4] [] 0 0 K))) :
  tRun E 205 (174, [.inr (11, x0), .inl (0, x1), .inl (0, x2), v3, v4], [.inl (0, y1), .inr (11, y0)], 0, 0, d) K := tT_run (cut := [0, 13, 24, 32, 37, 52, 63, 72, 84, 94, 118, 123, 132, 148, 157, 160, 174, 185, 193, 204, 212, 219, 222, 237, 248, 257]) 4 _ h
theorem t_205_185 {E : mO × tW} {K : tK} {d : mD} {x0 x1 x2 y0 : Int} {v3 v4 : tV}
  (h : mInR y0 ∧ (y0 = 0 → mInR (d x0 13) ∧ (¬ d x0 13 = 0 → tRun E 205 (13, [.inr (11, x0), .inl (0, miand x1 0), .inl (0, x2), v3, v4], [], 0, 0, d) K) ∧ (d x0 13 = 0 → tRun E 205 (13, [.inr (11, x0), .inl (0, miand x1 1), .inl (0, x2), v3, v4], [], 0, 0, d) K)) ∧ (¬ y0 = 0 → tCall E 228 [.inr (11, x0), .inl (0, x2)] d (tbk E 205 190 [.inr (11, x0), .inl (0, x1), .inl (0, x2), v3, v4] [] 0 0 K))) :
  tRun E 205 (185, [.inr (11, x0), .inl (0, x1), .inl (0, x2), v3, v4], [.inl (0, y0)], 0, 0, d) K := tT_run (cut := [0, 13, 24, 32, 37, 52, 63, 72, 84, 94, 118, 123, 132, 148, 157, 160, 174, 185, 193, 204, 212, 219, 222, 237, 248, 257]) 11 _ h
theorem t_205_193 {E : mO × tW} {K : tK} {d : mD} {x0 x1 x2 y0 : Int} {v3 v4 : tV}
  (h : mInR (d x0 13) ∧ (¬ d x0 13 = 0 → tRun E 205 (13, [.inr (11, x0), .inl (0, miand x1 0), .inl (0, x2), .inl (0, y0), v4], [], 0, 0, d) K) ∧ (d x0 13 = 0 → tRun E 205 (13, [.inr (11, x0), .inl (0, miand x1 1), .inl (0, x2), .inl (0, y0), v4], [], 0, 0, d) K)) :
  tRun E 205 (193, [.inr (11, x0), .inl (0, x1), .inl (0, x2), v3, v4], [.inl (0, y0)], 0, 0, d) K := tT_run (cut := [0, 13, 24, 32, 37, 52, 63, 72, 84, 94, 118, 123, 132, 148, 157, 160, 174, 185, 193, 204, 212, 219, 222, 237, 248, 257]) 11 _ h
theorem t_205_204 {E : mO × tW} {K : tK} {d : mD} {x0 x1 y0 : Int} {v2 v3 v4 : tV}
  (h : mInR y0 ∧ (y0 = 0 → mInR (d x0 13) ∧ (¬ d x0 13 = 0 → tRun E 205 (13, [.inr (11, x0), .inl (0, miand 0 0), v2, v3, v4], [], 0, 0, d) K) ∧ (d x0 13 = 0 → tRun E 205 (13, [.inr (11, x0), .inl (0, miand 0 1), v2, v3, v4], [], 0, 0, d) K)) ∧ (¬ y0 = 0 → tCall E 199 [.inr (11, x0), .inl (0, 0)] d (tbk E 205 209 [.inr (11, x0), .inl (0, x1), v2, v3, v4] [] 0 0 K))) :
  tRun E 205 (204, [.inr (11, x0), .inl (0, x1), v2, v3, v4], [.inl (0, y0)], 0, 0, d) K := tT_run (cut := [0, 13, 24, 32, 37, 52, 63, 72, 84, 94, 118, 123, 132, 148, 157, 160, 174, 185, 193, 204, 212, 219, 222, 237, 248, 257]) 12 _ h
theorem t_205_212 {E : mO × tW} {K : tK} {d : mD} {x0 x1 y0 : Int} {v2 v3 v4 : tV}
  (h : tCall E 199 [.inr (11, x0), .inl (0, 1)] d (tbk E 205 216 [.inr (11, x0), .inl (0, x1), .inl (0, y0), v3, v4] [.inr (11, x0)] 0 0 K)) :
  tRun E 205 (212, [.inr (11, x0), .inl (0, x1), v2, v3, v4], [.inl (0, y0)], 0, 0, d) K := tT_run (cut := [0, 13, 24, 32, 37, 52, 63, 72, 84, 94, 118, 123, 132, 148, 157, 160, 174, 185, 193, 204, 212, 219, 222, 237, 248, 257]) 5 _ h
theorem t_205_219 {E : mO × tW} {K : tK} {d : mD} {x0 x1 x2 y0 y1 : Int} {v3 v4 : tV}
  (h : tCall E 201 [.inr (11, y0), .inl (0, y1)] d (tbk E 205 219 [.inr (11, x0), .inl (0, x1), .inl (0, x2), v3, v4] [] 0 0 K)) :
  tRun E 205 (219, [.inr (11, x0), .inl (0, x1), .inl (0, x2), v3, v4], [.inl (0, y1), .inr (11, y0)], 0, 0, d) K := tT_run (cut := [0, 13, 24, 32, 37, 52, 63, 72, 84, 94, 118, 123, 132, 148, 157, 160, 174, 185, 193, 204, 212, 219, 222, 237, 248, 257]) 1 _ h
theorem t_205_222 {E : mO × tW} {K : tK} {d : mD} {x0 x1 x2 y0 : Int} {v3 v4 : tV}
  (h : mInR (d x0 13) ∧ (¬ d x0 13 = 0 → tCall E 196 [.inr (11, x0), .inl (0, 0)] d (tbk E 205 245 [.inr (11, x0), .inl (0, x1), .inl (0, x2), .inl (0, y0), v4] [] 0 0 K)) ∧ (d x0 13 = 0 → tCall E 234 [.inr (11, x0), .inl (0, y0), .inl (0, x2)] d (tbk E 205 234 [.inr (11, x0), .inl (0, x1), .inl (0, x2), .inl (0, y0), v4] [.inr (11, x0)] 0 0 K))) :
  tRun E 205 (222, [.inr (11, x0), .inl (0, x1), .inl (0, x2), v3, v4], [.inl (0, y0)], 0, 0, d) K := tT_run (cut := [0, 13, 24, 32, 37, 52, 63, 72, 84, 94, 118, 123, 132, 148, 157, 160, 174, 185, 193, 204, 212, 219, 222, 237, 248, 257]) 9 _ h
theorem t_205_237 {E : mO × tW} {K : tK} {d : mD} {x0 x1 x2 x3 y0 y1 : Int} {v4 : tV}
  (h : mInR y1 ∧ (¬ y1 = 0 → tCall E 196 [.inr (11, y0), .inl (0, 0)] d (tbk E 205 245 [.inr (11, x0), .inl (0, x1), .inl (0, x2), .inl (0, x3), v4] [] 0 0 K)) ∧ (y1 = 0 → tCall E 196 [.inr (11, y0), .inl (0, 1)] d (tbk E 205 245 [.inr (11, x0), .inl (0, x1), .inl (0, x2), .inl (0, x3), v4] [] 0 0 K))) :
  tRun E 205 (237, [.inr (11, x0), .inl (0, x1), .inl (0, x2), .inl (0, x3), v4], [.inl (0, y1), .inr (11, y0)], 0, 0, d) K := tT_run (cut := [0, 13, 24, 32, 37, 52, 63, 72, 84, 94, 118, 123, 132, 148, 157, 160, 174, 185, 193, 204, 212, 219, 222, 237, 248, 257]) 4 _ h
theorem t_205_248 {E : mO × tW} {K : tK} {d : mD} {x0 x1 x2 x3 y0 : Int} {v4 : tV}
  (h : mInR y0 ∧ (y0 = 0 → mInR (d x0 13) ∧ (¬ d x0 13 = 0 → tRun E 205 (13, [.inr (11, x0), .inl (0, miand x1 0), .inl (0, x2), .inl (0, x3), v4], [], 0, 0, d) K) ∧ (d x0 13 = 0 → tRun E 205 (13, [.inr (11, x0), .inl (0, miand x1 1), .inl (0, x2), .inl (0, x3), v4], [], 0, 0, d) K)) ∧ (¬ y0 = 0 → tCall E 235 [.inr (11, x0), .inl (0, x3), .inl (0, x2)] d (tbk E 205 254 [.inr (11, x0), .inl (0, x1), .inl (0, x2), .inl (0, x3), v4] [] 0 0 K))) :
  tRun E 205 (248, [.inr (11, x0), .inl (0, x1), .inl (0, x2), .inl (0, x3), v4], [.inl (0, y0)], 0, 0, d) K := tT_run (cut := [0, 13, 24, 32, 37, 52, 63, 72, 84, 94, 118, 123, 132, 148, 157, 160, 174, 185, 193, 204, 212, 219, 222, 237, 248, 257]) 11 _ h
theorem t_205_257 {E : mO × tW} {K : tK} {d : mD} {x0 x1 x2 x3 y0 : Int} {v4 : tV}
  (h : mInR (d x0 13) ∧ (¬ d x0 13 = 0 → tRun E 205 (13, [.inr (11, x0), .inl (0, miand x1 0), .inl (0, x2), .inl (0, x3), .inl (0, y0)], [], 0, 0, d) K) ∧ (d x0 13 = 0 → tRun E 205 (13, [.inr (11, x0), .inl (0, miand x1 1), .inl (0, x2), .inl (0, x3), .inl (0, y0)], [], 0, 0, d) K)) :
  tRun E 205 (257, [.inr (11, x0), .inl (0, x1), .inl (0, x2), .inl (0, x3), v4], [.inl (0, y0)], 0, 0, d) K := tT_run (cut := [0, 13, 24, 32, 37, 52, 63, 72, 84, 94, 118, 123, 132, 148, 157, 160, 174, 185, 193, 204, 212, 219, 222, 237, 248, 257]) 11 _ h
theorem t_206_0 {E : mO × tW} {K : tK} {d : mD} {x0 : Int}
  (h : ((0 : Int) = 0 ∨ (0 : Int) = 1) ∧ tRun E 206 (12, [.inr (11, x0), .inl (0, 0)], [], 0, 0, mset (mset d x0 10 0) x0 13 0) K) :
  tRun E 206 (0, [.inr (11, x0), tu], [], 0, 0, d) K := tT_run (cut := [0, 12, 39, 51, 53, 70, 74, 77, 96, 101, 106, 111, 115, 126, 146]) 8 _ h
theorem t_206_12 {E : mO × tW} {K : tK} {d : mD} {x0 x1 : Int}
  (h : (mInR x1 ∧ mInR 3116) ∧ (3116 ≤ x1 → tCall E 194 [.inr (11, x0), .inl (1, 40216062)] d (tbk E 206 36 [.inr (11, x0), .inl (0, x1)] [] 0 0 K)) ∧ (x1 < 3116 → (0 ≤ x1 ∧ x1 < 3116) ∧ tRun E 206 (12, [.inr (11, x0), .inl (0, x1 + 1)], [], 0, 0, mset d (x0 + 1) x1 0) K)) :
  tRun E 206 (12, [.inr (11, x0), .inl (0, x1)], [], 0, 0, d) K := tT_run (cut := [0, 12, 39, 51, 53, 70, 74, 77, 96, 101, 106, 111, 115, 126, 146]) 10 _ h
theorem t_206_39 {E : mO × tW} {K : tK} {d : mD} {x0 x1 y0 : Int}
  (h : mInR y0 ∧ (¬ y0 = 0 → tRun E 206 (51, [.inr (11, x0), .inl (0, x1)], [], 0, 0, d) K) ∧ (y0 = 0 → tCall E 188 [.inr (11, x0), .inl (0, 1), .inl (0, d x0 10)] d (tbk E 206 48 [.inr (11, x0), .inl (0, x1)] [] 0 0 K))) :
  tRun E 206 (39, [.inr (11, x0), .inl (0, x1)], [.inl (0, y0)], 0, 0, d) K := tT_run (cut := [0, 12, 39, 51, 53, 70, 74, 77, 96, 101, 106, 111, 115, 126, 146]) 6 _ h
theorem t_206_51 {E : mO × tW} {K : tK} {d : mD} {x0 x1 : Int}
  (h : tRun E 206 (53, [.inr (11, x0), .inl (0, 0)], [], 0, 0, d) K) :
  tRun E 206 (51, [.inr (11, x0), .inl (0, x1)], [], 0, 0, d) K := tT_run (cut := [0, 12, 39, 51, 53, 70, 74, 77, 96, 101, 106, 111, 115, 126, 146]) 2 _ h
theorem t_206_53 {E : mO × tW} {K : tK} {d : mD} {x0 x1 : Int}
  (h : (mInR x1 ∧ mInR 5) ∧ (5 ≤ x1 → tCall E 197 [.inr (11, x0), .inl (0, 0), .inl (0, 99999)] d (tbk E 206 93 [.inr (11, x0), .inl (0, x1)] [.inl (0, 1), .inr (25, x0 + 1)] 0 0 K)) ∧ (x1 < 5 → tCall E 291 [.inl (0, x1)] d (tbk E 206 67 [.inr (11, x0), .inl (0, x1)] [.inr (11, x0), .inl (0, 2 + x1), .inr (25, x0 + 1)] 0 0 K))) :
  tRun E 206 (53, [.inr (11, x0), .inl (0, x1)], [], 0, 0, d) K := tT_run (cut := [0, 12, 39, 51, 53, 70, 74, 77, 96, 101, 106, 111, 115, 126, 146]) 11 _ h
theorem t_206_70 {E : mO × tW} {K : tK} {d : mD} {x0 x1 y0 y1 y2 y3 : Int}
  (h : tCall E 292 [.inl (0, x1)] d (tbk E 206 71 [.inr (11, x0), .inl (0, x1)] [.inl (0, y3), .inr (11, y2), .inl (0, y1), .inr (25, y0)] 0 0 K)) :
  tRun E 206 (70, [.inr (11, x0), .inl (0, x1)], [.inl (0, y3), .inr (11, y2), .inl (0, y1), .inr (25, y0)], 0, 0, d) K := tT_run (cut := [0, 12, 39, 51, 53, 70, 74, 77, 96, 101, 106, 111, 115, 126, 146]) 2 _ h
theorem t_206_74 {E : mO × tW} {K : tK} {d : mD} {x0 x1 y0 y1 y2 y3 y4 : Int}
  (h : tCall E 197 [.inr (11, y2), .inl (0, y3), .inl (0, y4)] d (tbk E 206 74 [.inr (11, x0), .inl (0, x1)] [.inl (0, y1), .inr (25, y0)] 0 0 K)) :
  tRun E 206 (74, [.inr (11, x0), .inl (0, x1)], [.inl (0, y4), .inl (0, y3), .inr (11, y2), .inl (0, y1), .inr (25, y0)], 0, 0, d) K := tT_run (cut := [0, 12, 39, 51, 53, 70, 74, 77, 96, 101, 106, 111, 115, 126, 146]) 1 _ h
theorem t_206_77 {E : mO × tW} {K : tK} {d : mD} {x0 x1 y0 y1 y2 : Int}
  (h : (0 ≤ y1 ∧ y1 < 3116) ∧ tRun E 206 (53, [.inr (11, x0), .inl (0, x1 + 1)], [], 0, 0, mset d y0 y1 y2) K) :
  tRun E 206 (77, [.inr (11, x0), .inl (0, x1)], [.inl (0, y2), .inl (0, y1), .inr (25, y0)], 0, 0, d) K := tT_run (cut := [0, 12, 39, 51, 53, 70, 74, 77, 96, 101, 106, 111, 115, 126, 146]) 3 _ h
theorem t_206_96 {E : mO × tW} {K : tK} {d : mD} {x0 x1 y0 y1 y2 : Int}
  (h : (0 ≤ y1 ∧ y1 < 3116) ∧ tCall E 195 [.inr (11, x0)] (mset d y0 y1 y2) (tbk E 206 98 [.inr (11, x0), .inl (0, x1)] [] 0 0 K)) :
  tRun E 206 (96, [.inr (11, x0), .inl (0, x1)], [.inl (0, y2), .inl (0, y1), .inr (25, y0)], 0, 0, d) K := tT_run (cut := [0, 12, 39, 51, 53, 70, 74, 77, 96, 101, 106, 111, 115, 126, 146]) 3 _ h
theorem t_206_101 {E : mO × tW} {K : tK} {d : mD} {x0 x1 : Int}
  (h : tCall E 204 [.inr (11, x0), .inl (0, 1)] d (tbk E 206 103 [.inr (11, x0), .inl (0, x1)] [] 0 0 K)) :
  tRun E 206 (101, [.inr (11, x0), .inl (0, x1)], [], 0, 0, d) K := tT_run (cut := [0, 12, 39, 51, 53, 70, 74, 77, 96, 101, 106, 111, 115, 126, 146]) 3 _ h
theorem t_206_106 {E : mO × tW} {K : tK} {d : mD} {x0 x1 : Int}
  (h : tCall E 204 [.inr (11, x0), .inl (0, 0)] d (tbk E 206 108 [.inr (11, x0), .inl (0, x1)] [] 0 0 K)) :
  tRun E 206 (106, [.inr (11, x0), .inl (0, x1)], [], 0, 0, d) K := tT_run (cut := [0, 12, 39, 51, 53, 70, 74, 77, 96, 101, 106, 111, 115, 126, 146]) 3 _ h
theorem t_206_111 {E : mO × tW} {K : tK} {d : mD} {x0 x1 : Int}
  (h : tCall E 205 [.inr (11, x0)] d (tbk E 206 112 [.inr (11, x0), .inl (0, x1)] [] 0 0 K)) :
  tRun E 206 (111, [.inr (11, x0), .inl (0, x1)], [], 0, 0, d) K := tT_run (cut := [0, 12, 39, 51, 53, 70, 74, 77, 96, 101, 106, 111, 115, 126, 146]) 2 _ h
theorem t_206_115 {E : mO × tW} {K : tK} {d : mD} {x0 x1 : Int}
  (h : mInR (d x0 13) ∧ (¬ d x0 13 = 0 → tRun E 206 (146, [.inr (11, x0), .inl (0, x1)], [], 0, 0, d) K) ∧ (d x0 13 = 0 → tCall E 189 [.inr (11, x0)] d (tbk E 206 123 [.inr (11, x0), .inl (0, x1)] [] 0 0 K))) :
  tRun E 206 (115, [.inr (11, x0), .inl (0, x1)], [], 0, 0, d) K := tT_run (cut := [0, 12, 39, 51, 53, 70, 74, 77, 96, 101, 106, 111, 115, 126, 146]) 5 _ h
theorem t_206_126 {E : mO × tW} {K : tK} {d : mD} {x0 x1 : Int}
  (h : (mInR (d x0 10) ∧ mInR (d x0 9)) ∧ (d x0 9 ≤ d x0 10 → tRun E 206 (146, [.inr (11, x0), .inl (0, x1)], [], 0, 0, d) K) ∧ (d x0 10 < d x0 9 → tCall E 188 [.inr (11, x0), .inl (0, 1), .inl (0, d x0 10)] d (tbk E 206 143 [.inr (11, x0), .inl (0, x1)] [] 0 0 K))) :
  tRun E 206 (126, [.inr (11, x0), .inl (0, x1)], [], 0, 0, d) K := tT_run (cut := [0, 12, 39, 51, 53, 70, 74, 77, 96, 101, 106, 111, 115, 126, 146]) 10 _ h
theorem t_206_146 {E : mO × tW} {K : tK} {d : mD} {x0 x1 : Int}
  (h : K (.inl none) d) :
  tRun E 206 (146, [.inr (11, x0), .inl (0, x1)], [], 0, 0, d) K := tT_run (cut := [0, 12, 39, 51, 53, 70, 74, 77, 96, 101, 106, 111, 115, 126, 146]) 1 _ h
theorem t_207_0 {E : mO × tW} {K : tK} {d : mD} {x0 : Int}
  (h : tRun E 207 (12, [.inr (11, x0), .inl (0, 0)], [], 0, 0, mset (mset d x0 11 0) x0 12 ((-1))) K) :
  tRun E 207 (0, [.inr (11, x0), tu], [], 0, 0, d) K := tT_run (cut := [0, 12, 41, 71]) 8 _ h
theorem t_207_12 {E : mO × tW} {K : tK} {d : mD} {x0 x1 : Int}
  (h : (mInR x1 ∧ mInR 3116) ∧ (3116 ≤ x1 → tCall E 206 [.inr (11, x0)] d (tbk E 207 38 [.inr (11, x0), .inl (0, x1)] [] 0 0 K)) ∧ (x1 < 3116 → (0 ≤ x1 ∧ x1 < 3116) ∧ (0 ≤ x1 ∧ x1 < 3116) ∧ tRun E 207 (12, [.inr (11, x0), .inl (0, x1 + 1)], [], 0, 0, mset d (x0 + 5) x1 (d (x0 + 1) x1)) K)) :
  tRun E 207 (12, [.inr (11, x0), .inl (0, x1)], [], 0, 0, d) K := tT_run (cut := [0, 12, 41, 71]) 13 _ h
theorem t_207_41 {E : mO × tW} {K : tK} {d : mD} {x0 x1 : Int}
  (h : mInR ((mset d x0 9 0) x0 13) ∧ ((mset d x0 9 0) x0 13 = 0 → mInR ((mset (mset d x0 9 0) x0 0 0) x0 0) ∧ ((mset (mset d x0 9 0) x0 0 0) x0 0 ≤ 0 → (((0 : Int) = 0 ∨ (0 : Int) = 1) ∧ 0 ≤ (0 : Int) ∧ (0 : Int) < 2) ∧ (((0 : Int) = 0 ∨ (0 : Int) = 1) ∧ 0 ≤ (1 : Int) ∧ (1 : Int) < 2) ∧ (0 ≤ (8 : Int) ∧ (8 : Int) < 3116) ∧ K (.inl (some (0, (mset (mset (mset (mset (mset d x0 9 0) x0 0 0) x0 7 0) (x0 + 6) 0 0) (x0 + 6) 1 0) (x0 + 1) 8))) (mset (mset (mset (mset (mset d x0 9 0) x0 0 0) x0 7 0) (x0 + 6) 0 0) (x0 + 6) 1 0)) ∧ (0 < (mset (mset d x0 9 0) x0 0 0) x0 0 → tRun E 207 (71, [.inr (11, x0), .inl (0, 0)], [], 0, 0, mset (mset d x0 9 0) x0 0 0) K)) ∧ (¬ (mset d x0 9 0) x0 13 = 0 → mInR ((mset (mset d x0 9 0) x0 0 1) x0 0) ∧ ((mset (mset d x0 9 0) x0 0 1) x0 0 ≤ 0 → (((0 : Int) = 0 ∨ (0 : Int) = 1) ∧ 0 ≤ (0 : Int) ∧ (0 : Int) < 2) ∧ (((0 : Int) = 0 ∨ (0 : Int) = 1) ∧ 0 ≤ (1 : Int) ∧ (1 : Int) < 2) ∧ (0 ≤ (8 : Int) ∧ (8 : Int) < 3116) ∧ K (.inl (some (0, (mset (mset (mset (mset (mset d x0 9 0) x0 0 1) x0 7 0) (x0 + 6) 0 0) (x0 + 6) 1 0) (x0 + 1) 8))) (mset (mset (mset (mset (mset d x0 9 0) x0 0 1) x0 7 0) (x0 + 6) 0 0) (x0 + 6) 1 0)) ∧ (0 < (mset (mset d x0 9 0) x0 0 1) x0 0 → tRun E 207 (71, [.inr (11, x0), .inl (0, 0)], [], 0, 0, mset (mset d x0 9 0) x0 0 1) K))) :
  tRun E 207 (41, [.inr (11, x0), .inl (0, x1)], [], 0, 0, d) K := tT_run (cut := [0, 12, 41, 71]) 31 _ h
theorem t_207_71 {E : mO × tW} {K : tK} {d : mD} {x0 x1 : Int}
  (h : (mInR x1 ∧ mInR 3116) ∧ (3116 ≤ x1 → K (.inl (some (0, 0))) d) ∧ (x1 < 3116 → (0 ≤ x1 ∧ x1 < 3116) ∧ (0 ≤ x1 ∧ x1 < 3116) ∧ tRun E 207 (71, [.inr (11, x0), .inl (0, x1 + 1)], [], 0, 0, mset d (x0 + 1) x1 (d (x0 + 5) x1)) K)) :
  tRun E 207 (71, [.inr (11, x0), .inl (0, x1)], [], 0, 0, d) K := tT_run (cut := [0, 12, 41, 71]) 13 _ h
theorem t_208_0 {E : mO × tW} {K : tK} {d : mD} {x0 : Int}
  (h : K (.inl (some (0, (mset d x0 0 0) x0 11))) (mset d x0 0 0)) :
  tRun E 208 (0, [.inr (11, x0)], [], 0, 0, d) K := tT_run (cut := [0]) 6 _ h
theorem t_209_0 {E : mO × tW} {K : tK} {d : mD} {x0 : Int}
  (h : K (.inl (some (0, (mset d x0 0 0) x0 12))) (mset d x0 0 0)) :
  tRun E 209 (0, [.inr (11, x0)], [], 0, 0, d) K := tT_run (cut := [0]) 6 _ h
theorem t_210_0 {E : mO × tW} {K : tK} {d : mD} {x0 : Int}
  (h : tRun E 210 (4, [.inr (11, x0), .inl (0, 0), .inl (0, 0)], [], 0, 0, d) K) :
  tRun E 210 (0, [.inr (11, x0), tu, tu], [], 0, 0, d) K := tT_run (cut := [0, 4, 17]) 4 _ h
theorem t_210_4 {E : mO × tW} {K : tK} {d : mD} {x0 x1 x2 : Int}
  (h : (mInR x2 ∧ mInR (d x0 9)) ∧ (d x0 9 ≤ x2 → mInR x1 ∧ (0 ≤ x1 → K (.inl (some (0, x1))) (mset d x0 9 0)) ∧ (x1 < 0 → K (.inl (some (0, 0))) (mset d x0 9 0))) ∧ (x2 < d x0 9 → tCall E 190 [.inr (11, x0), .inl (0, x2)] d (tbk E 210 14 [.inr (11, x0), .inl (0, x1), .inl (0, x2)] [] 0 0 K))) :
  tRun E 210 (4, [.inr (11, x0), .inl (0, x1), .inl (0, x2)], [], 0, 0, d) K := tT_run (cut := [0, 4, 17]) 12 _ h
theorem t_210_17 {E : mO × tW} {K : tK} {d : mD} {x0 x1 x2 y0 : Int}
  (h : mInR y0 ∧ (y0 = 0 → tRun E 210 (4, [.inr (11, x0), .inl (0, (-1)), .inl (0, x2 + 1)], [], 0, 0, d) K) ∧ (¬ y0 = 0 → (mInR x2 ∧ mInR 6) ∧ (6 ≤ x2 → tRun E 210 (4, [.inr (11, x0), .inl (0, (-1)), .inl (0, x2 + 1)], [], 0, 0, d) K) ∧ (x2 < 6 → mInR x1 ∧ (x1 < 0 → tRun E 210 (4, [.inr (11, x0), .inl (0, (-1)), .inl (0, x2 + 1)], [], 0, 0, d) K) ∧ (0 ≤ x1 → (0 ≤ x2 ∧ x2 < 1000) ∧ tRun E 210 (4, [.inr (11, x0), .inl (0, (((27 * x1) + (d (x0 + 7) x2)) - 97) + 1), .inl (0, x2 + 1)], [], 0, 0, d) K)))) :
  tRun E 210 (17, [.inr (11, x0), .inl (0, x1), .inl (0, x2)], [.inl (0, y0)], 0, 0, d) K := tT_run (cut := [0, 4, 17]) 22 _ h
theorem t_211_0 {E : mO × tW} {K : tK} {d : mD} {x0 x1 : Int}
  (h : tCall E 210 [.inr (11, x0)] d (tbk E 211 1 [.inr (11, x0), .inl (0, x1), tu, tu] [] 0 0 K)) :
  tRun E 211 (0, [.inr (11, x0), .inl (0, x1), tu, tu], [], 0, 0, d) K := tT_run (cut := [0, 4, 14, 22]) 2 _ h
theorem t_211_4 {E : mO × tW} {K : tK} {d : mD} {x0 x1 y0 : Int}
  (h : mInR x1 ∧ (x1 = 0 → tCall E 183 [.inr (11, x0), .inl (0, y0)] d (tbk E 211 19 [.inr (11, x0), .inl (0, x1), .inl (0, y0), tu] [] 0 0 K)) ∧ (¬ x1 = 0 → tCall E 184 [.inr (11, x0), .inl (0, y0)] d (tbk E 211 11 [.inr (11, x0), .inl (0, x1), .inl (0, y0), tu] [] 0 0 K))) :
  tRun E 211 (4, [.inr (11, x0), .inl (0, x1), tu, tu], [.inl (0, y0)], 0, 0, d) K := tT_run (cut := [0, 4, 14, 22]) 6 _ h
theorem t_211_14 {E : mO × tW} {K : tK} {d : mD} {x0 x1 x2 y0 : Int}
  (h : tRun E 211 (22, [.inr (11, x0), .inl (0, x1), .inl (0, x2), tu], [.inl (0, y0)], 0, 0, d) K) :
  tRun E 211 (14, [.inr (11, x0), .inl (0, x1), .inl (0, x2), tu], [.inl (0, y0)], 0, 0, d) K := tT_run (cut := [0, 4, 14, 22]) 1 _ h
theorem t_211_22 {E : mO × tW} {K : tK} {d : mD} {x0 x1 x2 y0 : Int}
  (h : (mInR y0 ∧ mInR ((-1))) ∧ (¬ y0 = (-1) → mInR ((mset d x0 0 0) x0 0) ∧ ((mset d x0 0 0) x0 0 ≤ 0 → K (.inl (some (0, y0))) (mset d x0 0 0)) ∧ (0 < (mset d x0 0 0) x0 0 → K (.inl (some (0, 0))) (mset d x0 0 0))) ∧ (y0 = (-1) → mInR ((mset d x0 0 1) x0 0) ∧ ((mset d x0 0 1) x0 0 ≤ 0 → K (.inl (some (0, y0))) (mset d x0 0 1)) ∧ (0 < (mset d x0 0 1) x0 0 → K (.inl (some (0, 0))) (mset d x0 0 1)))) :
  tRun E 211 (22, [.inr (11, x0), .inl (0, x1), .inl (0, x2), tu], [.inl (0, y0)], 0, 0, d) K := tT_run (cut := [0, 4, 14, 22]) 14 _ h
theorem t_212_0 {E : mO × tW} {K : tK} {d : mD} {x0 x1 : Int}
  (h : tCall E 179 [.inl (0, x1)] d (tbk E 212 5 [.inr (11, x0), .inl (0, x1), tu] [.inr (25, x0 + 1)] 0 0 K)) :
  tRun E 212 (0, [.inr (11, x0), .inl (0, x1), tu], [], 0, 0, d) K := tT_run (cut := [0, 8]) 4 _ h
theorem t_212_8 {E : mO × tW} {K : tK} {d : mD} {x0 x1 y0 y1 : Int}
  (h : (0 ≤ y1 + 3 ∧ y1 + 3 < 3116) ∧ (mInR (d y0 (y1 + 3)) ∧ mInR ((-1))) ∧ (¬ d y0 (y1 + 3) = (-1) → K (.inl (some (0, d y0 (y1 + 3)))) d) ∧ (d y0 (y1 + 3) = (-1) → (0 ≤ (0 : Int) ∧ (0 : Int) < 3116) ∧ K (.inl (some (0, d (x0 + 1) 0))) d)) :
  tRun E 212 (8, [.inr (11, x0), .inl (0, x1), tu], [.inl (0, y1), .inr (25, y0)], 0, 0, d) K := tT_run (cut := [0, 8]) 13 _ h
theorem t_213_0 {E : mO × tW} {K : tK} {d : mD} {x0 x1 : Int}
  (h : tCall E 212 [.inr (11, x0), .inl (0, x1)] d (tbk E 213 2 [.inr (11, x0), .inl (0, x1), tu] [] 0 0 K)) :
  tRun E 213 (0, [.inr (11, x0), .inl (0, x1), tu], [], 0, 0, d) K := tT_run (cut := [0, 5, 13]) 3 _ h
theorem t_213_5 {E : mO × tW} {K : tK} {d : mD} {x0 x1 y0 : Int}
  (h : tCall E 179 [.inl (0, x1)] d (tbk E 213 10 [.inr (11, x0), .inl (0, x1), tu] [.inr (25, x0 + 1), .inl (0, y0)] 0 0 K)) :
  tRun E 213 (5, [.inr (11, x0), .inl (0, x1), tu], [.inl (0, y0)], 0, 0, d) K := tT_run (cut := [0, 5, 13]) 4 _ h
theorem t_213_13 {E : mO × tW} {K : tK} {d : mD} {x0 x1 y0 y1 y2 : Int}
  (h : (0 ≤ y2 + 2 ∧ y2 + 2 < 3116) ∧ (0 ≤ (2 : Int) ∧ (2 : Int) < 3116) ∧ mInR ((y0 - (d y1 (y2 + 2))) - (d (x0 + 1) 2)) ∧ (0 ≤ (y0 - (d y1 (y2 + 2))) - (d (x0 + 1) 2) → K (.inl (some (0, (y0 - (d y1 (y2 + 2))) - (d (x0 + 1) 2)))) d) ∧ ((y0 - (d y1 (y2 + 2))) - (d (x0 + 1) 2) < 0 → K (.inl (some (0, 0))) d)) :
  tRun E 213 (13, [.inr (11, x0), .inl (0, x1), tu], [.inl (0, y2), .inr (25, y1), .inl (0, y0)], 0, 0, d) K := tT_run (cut := [0, 5, 13]) 15 _ h
theorem t_214_0 {E : mO × tW} {K : tK} {d : mD} {x0 x1 x2 : Int}
  (h : tCall E 179 [.inl (0, x1)] d (tbk E 214 6 [.inr (11, x0), .inl (0, x1), .inl (0, x2)] [.inr (25, x0 + 1), .inl (0, x2)] 0 0 K)) :
  tRun E 214 (0, [.inr (11, x0), .inl (0, x1), .inl (0, x2)], [], 0, 0, d) K := tT_run (cut := [0, 9, 28]) 5 _ h
theorem t_214_9 {E : mO × tW} {K : tK} {d : mD} {x0 x1 x2 y0 y1 y2 : Int}
  (h : (0 ≤ y2 + 2 ∧ y2 + 2 < 3116) ∧ (0 ≤ (2 : Int) ∧ (2 : Int) < 3116) ∧ (mInR y0 ∧ mInR ((d y1 (y2 + 2)) + (d (x0 + 1) 2))) ∧ (y0 < (d y1 (y2 + 2)) + (d (x0 + 1) 2) → ((0 : Int) = 0 ∨ (0 : Int) = 1) ∧ K (.inl (some (0, 0))) d) ∧ ((d y1 (y2 + 2)) + (d (x0 + 1) 2) ≤ y0 → tCall E 212 [.inr (11, x0), .inl (0, x1)] d (tbk E 214 25 [.inr (11, x0), .inl (0, x1), .inl (0, x2)] [.inl (0, x2)] 0 0 K))) :
  tRun E 214 (9, [.inr (11, x0), .inl (0, x1), .inl (0, x2)], [.inl (0, y2), .inr (25, y1), .inl (0, y0)], 0, 0, d) K := tT_run (cut := [0, 9, 28]) 13 _ h
theorem t_214_28 {E : mO × tW} {K : tK} {d : mD} {x0 x1 x2 y0 y1 : Int}
  (h : (mInR y0 ∧ mInR y1) ∧ (y1 ≤ y0 → ((0 : Int) = 0 ∨ (0 : Int) = 1) ∧ K (.inl (some (0, 0))) d) ∧ (y0 < y1 → ((1 : Int) = 0 ∨ (1 : Int) = 1) ∧ K (.inl (some (0, 1))) d)) :
  tRun E 214 (28, [.inr (11, x0), .inl (0, x1), .inl (0, x2)], [.inl (0, y1), .inl (0, y0)], 0, 0, d) K := tT_run (cut := [0, 9, 28]) 4 _ h
theorem t_215_0 {E : mO × tW} {K : tK} {d : mD} {x0 x1 : Int}
  (h : tCall E 180 [.inl (0, x1)] d (tbk E 215 9 [.inr (11, x0), .inl (0, x1)] [.inr (25, x0 + 1), .inr (25, x0 + 1)] 0 0 K)) :
  tRun E 215 (0, [.inr (11, x0), .inl (0, x1)], [], 0, 0, d) K := tT_run (cut := [0, 12, 18]) 6 _ h
theorem t_215_12 {E : mO × tW} {K : tK} {d : mD} {x0 x1 y0 y1 y2 : Int}
  (h : (0 ≤ y2 + 1 ∧ y2 + 1 < 3116) ∧ tCall E 179 [.inl (0, d y1 (y2 + 1))] d (tbk E 215 15 [.inr (11, x0), .inl (0, x1)] [.inr (25, y0)] 0 0 K)) :
  tRun E 215 (12, [.inr (11, x0), .inl (0, x1)], [.inl (0, y2), .inr (25, y1), .inr (25, y0)], 0, 0, d) K := tT_run (cut := [0, 12, 18]) 4 _ h
theorem t_215_18 {E : mO × tW} {K : tK} {d : mD} {x0 x1 y0 y1 : Int}
  (h : (0 ≤ y1 + 0 ∧ y1 + 0 < 3116) ∧ K (.inl (some (0, d y0 (y1 + 0)))) d) :
  tRun E 215 (18, [.inr (11, x0), .inl (0, x1)], [.inl (0, y1), .inr (25, y0)], 0, 0, d) K := tT_run (cut := [0, 12, 18]) 4 _ h
theorem t_216_0 {E : mO × tW} {K : tK} {d : mD} {x0 x1 x2 : Int}
  (h : tRun E 216 (2, [.inr (11, x0), .inl (0, x1), .inl (0, x2), .inl (0, 0)], [], 0, 0, d) K) :
  tRun E 216 (0, [.inr (11, x0), .inl (0, x1), .inl (0, x2), tu], [], 0, 0, d) K := tT_run (cut := [0, 2, 21, 33]) 2 _ h
theorem t_216_2 {E : mO × tW} {K : tK} {d : mD} {x0 x1 x2 x3 : Int}
  (h : (0 ≤ (10 : Int) ∧ (10 : Int) < 3116) ∧ (mInR x3 ∧ mInR (d (x0 + 1) 10)) ∧ (d (x0 + 1) 10 ≤ x3 → ((0 : Int) = 0 ∨ (0 : Int) = 1) ∧ K (.inl (some (0, 0))) d) ∧ (x3 < d (x0 + 1) 10 → tCall E 180 [.inl (0, x3)] d (tbk E 216 18 [.inr (11, x0), .inl (0, x1), .inl (0, x2), .inl (0, x3)] [.inr (25, x0 + 1)] 0 0 K))) :
  tRun E 216 (2, [.inr (11, x0), .inl (0, x1), .inl (0, x2), .inl (0, x3)], [], 0, 0, d) K := tT_run (cut := [0, 2, 21, 33]) 10 _ h
theorem t_216_21 {E : mO × tW} {K : tK} {d : mD} {x0 x1 x2 x3 y0 y1 : Int}
  (h : (0 ≤ y1 + 2 ∧ y1 + 2 < 3116) ∧ (mInR (d y0 (y1 + 2)) ∧ mInR x2) ∧ (¬ d y0 (y1 + 2) = x2 → tRun E 216 (2, [.inr (11, x0), .inl (0, x1), .inl (0, x2), .inl (0, x3 + 1)], [], 0, 0, d) K) ∧ (d y0 (y1 + 2) = x2 → tCall E 215 [.inr (11, x0), .inl (0, x3)] d (tbk E 216 30 [.inr (11, x0), .inl (0, x1), .inl (0, x2), .inl (0, x3)] [] 0 0 K))) :
  tRun E 216 (21, [.inr (11, x0), .inl (0, x1), .inl (0, x2), .inl (0, x3)], [.inl (0, y1), .inr (25, y0)], 0, 0, d) K := tT_run (cut := [0, 2, 21, 33]) 8 _ h
theorem t_216_33 {E : mO × tW} {K : tK} {d : mD} {x0 x1 x2 x3 y0 : Int}
  (h : (mInR y0 ∧ mInR x1) ∧ (¬ y0 = x1 → tRun E 216 (2, [.inr (11, x0), .inl (0, x1), .inl (0, x2), .inl (0, x3 + 1)], [], 0, 0, d) K) ∧ (y0 = x1 → ((1 : Int) = 0 ∨ (1 : Int) = 1) ∧ K (.inl (some (0, 1))) d)) :
  tRun E 216 (33, [.inr (11, x0), .inl (0, x1), .inl (0, x2), .inl (0, x3)], [.inl (0, y0)], 0, 0, d) K := tT_run (cut := [0, 2, 21, 33]) 4 _ h
theorem t_217_0 {E : mO × tW} {K : tK} {d : mD} {x0 x1 : Int}
  (h : tRun E 217 (4, [.inr (11, x0), .inl (0, x1), .inl (0, 0), .inl (0, 0)], [], 0, 0, d) K) :
  tRun E 217 (0, [.inr (11, x0), .inl (0, x1), tu, tu], [], 0, 0, d) K := tT_run (cut := [0, 4, 21, 33]) 4 _ h
theorem t_217_4 {E : mO × tW} {K : tK} {d : mD} {x0 x1 x2 x3 : Int}
  (h : (0 ≤ (10 : Int) ∧ (10 : Int) < 3116) ∧ (mInR x3 ∧ mInR (d (x0 + 1) 10)) ∧ (d (x0 + 1) 10 ≤ x3 → K (.inl (some (0, x2))) d) ∧ (x3 < d (x0 + 1) 10 → tCall E 215 [.inr (11, x0), .inl (0, x3)] d (tbk E 217 18 [.inr (11, x0), .inl (0, x1), .inl (0, x2), .inl (0, x3)] [.inl (0, x2)] 0 0 K))) :
  tRun E 217 (4, [.inr (11, x0), .inl (0, x1), .inl (0, x2), .inl (0, x3)], [], 0, 0, d) K := tT_run (cut := [0, 4, 21, 33]) 10 _ h
theorem t_217_21 {E : mO × tW} {K : tK} {d : mD} {x0 x1 x2 x3 y0 y1 : Int}
  (h : (mInR y1 ∧ mInR x1) ∧ (¬ y1 = x1 → tRun E 217 (4, [.inr (11, x0), .inl (0, x1), .inl (0, y0 + 0), .inl (0, x3 + 1)], [], 0, 0, d) K) ∧ (y1 = x1 → tCall E 180 [.inl (0, x3)] d (tbk E 217 30 [.inr (11, x0), .inl (0, x1), .inl (0, x2), .inl (0, x3)] [.inr (25, x0 + 1), .inl (0, y0)] 0 0 K))) :
  tRun E 217 (21, [.inr (11, x0), .inl (0, x1), .inl (0, x2), .inl (0, x3)], [.inl (0, y1), .inl (0, y0)], 0, 0, d) K := tT_run (cut := [0, 4, 21, 33]) 7 _ h
theorem t_217_33 {E : mO × tW} {K : tK} {d : mD} {x0 x1 x2 x3 y0 y1 y2 : Int}
  (h : (0 ≤ y2 + 4 ∧ y2 + 4 < 3116) ∧ (0 ≤ d y1 (y2 + 4) ∧ d y1 (y2 + 4) ≤ 2147483647 ∧ 0 < (20 : Int) ∧ (20 : Int) ≤ 2147483647) ∧ (0 ≤ (0 : Int) ∧ (0 : Int) < 3116) ∧ (0 ≤ d (x0 + 1) 0 ∧ d (x0 + 1) 0 ≤ 2147483647 ∧ 0 < (20 : Int) ∧ (20 : Int) ≤ 2147483647) ∧ (mInR ((d y1 (y2 + 4)) / 20) ∧ mInR ((d (x0 + 1) 0) / 20)) ∧ (¬ (d y1 (y2 + 4)) / 20 = (d (x0 + 1) 0) / 20 → tRun E 217 (4, [.inr (11, x0), .inl (0, x1), .inl (0, y0 + 0), .inl (0, x3 + 1)], [], 0, 0, d) K) ∧ ((d y1 (y2 + 4)) / 20 = (d (x0 + 1) 0) / 20 → tRun E 217 (4, [.inr (11, x0), .inl (0, x1), .inl (0, y0 + 1), .inl (0, x3 + 1)], [], 0, 0, d) K)) :
  tRun E 217 (33, [.inr (11, x0), .inl (0, x1), .inl (0, x2), .inl (0, x3)], [.inl (0, y2), .inr (25, y1), .inl (0, y0)], 0, 0, d) K := tT_run (cut := [0, 4, 21, 33]) 18 _ h
theorem t_218_0 {E : mO × tW} {K : tK} {d : mD} {x0 x1 : Int}
  (h : tCall E 179 [.inl (0, x1)] d (tbk E 218 5 [.inr (11, x0), .inl (0, x1), tu, tu, tu, tu, tu] [.inr (25, x0 + 1)] 0 0 K)) :
  tRun E 218 (0, [.inr (11, x0), .inl (0, x1), tu, tu, tu, tu, tu], [], 0, 0, d) K := tT_run (cut := [0, 8, 17, 29, 41, 51, 87, 100]) 4 _ h
theorem t_218_8 {E : mO × tW} {K : tK} {d : mD} {x0 x1 y0 y1 : Int}
  (h : (0 ≤ y1 + 0 ∧ y1 + 0 < 3116) ∧ tCall E 217 [.inr (11, x0), .inl (0, d y0 (y1 + 0))] d (tbk E 218 14 [.inr (11, x0), .inl (0, x1), .inl (0, d y0 (y1 + 0)), tu, tu, tu, tu] [] 0 0 K)) :
  tRun E 218 (8, [.inr (11, x0), .inl (0, x1), tu, tu, tu, tu, tu], [.inl (0, y1), .inr (25, y0)], 0, 0, d) K := tT_run (cut := [0, 8, 17, 29, 41, 51, 87, 100]) 7 _ h
theorem t_218_17 {E : mO × tW} {K : tK} {d : mD} {x0 x1 x2 y0 : Int}
  (h : tCall E 179 [.inl (0, x1)] d (tbk E 218 26 [.inr (11, x0), .inl (0, x1), .inl (0, x2), .inl (0, y0), .inl (0, 0), tu, tu] [.inr (25, x0 + 1)] 0 0 K)) :
  tRun E 218 (17, [.inr (11, x0), .inl (0, x1), .inl (0, x2), tu, tu, tu, tu], [.inl (0, y0)], 0, 0, d) K := tT_run (cut := [0, 8, 17, 29, 41, 51, 87, 100]) 7 _ h
theorem t_218_29 {E : mO × tW} {K : tK} {d : mD} {x0 x1 x2 x3 x4 y0 y1 : Int}
  (h : (0 ≤ y1 + 2 ∧ y1 + 2 < 3116) ∧ (0 ≤ (2 : Int) ∧ (2 : Int) < 3116) ∧ tRun E 218 (41, [.inr (11, x0), .inl (0, x1), .inl (0, x2), .inl (0, x3), .inl (0, x4), .inl (0, (d y0 (y1 + 2)) + (d (x0 + 1) 2)), tu], [], 0, 0, d) K) :
  tRun E 218 (29, [.inr (11, x0), .inl (0, x1), .inl (0, x2), .inl (0, x3), .inl (0, x4), tu, tu], [.inl (0, y1), .inr (25, y0)], 0, 0, d) K := tT_run (cut := [0, 8, 17, 29, 41, 51, 87, 100]) 9 _ h
theorem t_218_41 {E : mO × tW} {K : tK} {d : mD} {x0 x1 x2 x3 x4 x5 : Int} {v6 : tV}
  (h : tCall E 179 [.inl (0, x1)] d (tbk E 218 48 [.inr (11, x0), .inl (0, x1), .inl (0, x2), .inl (0, x3), .inl (0, x4), .inl (0, x5), v6] [.inr (25, x0 + 1), .inl (0, x5)] 0 0 K)) :
  tRun E 218 (41, [.inr (11, x0), .inl (0, x1), .inl (0, x2), .inl (0, x3), .inl (0, x4), .inl (0, x5), v6], [], 0, 0, d) K := tT_run (cut := [0, 8, 17, 29, 41, 51, 87, 100]) 5 _ h
theorem t_218_51 {E : mO × tW} {K : tK} {d : mD} {x0 x1 x2 x3 x4 x5 y0 y1 y2 : Int} {v6 : tV}
  (h : (0 ≤ y2 + 3 ∧ y2 + 3 < 3116) ∧ (mInR y0 ∧ mInR (d y1 (y2 + 3))) ∧ (d y1 (y2 + 3) ≤ y0 → K (.inl (some (0, x4))) d) ∧ (y0 < d y1 (y2 + 3) → (0 ≤ (5 : Int) ∧ (5 : Int) < 3116) ∧ (mInR x3 ∧ mInR (d (x0 + 1) 5)) ∧ (d (x0 + 1) 5 ≤ x3 → tRun E 218 (41, [.inr (11, x0), .inl (0, x1), .inl (0, x2), .inl (0, x3), .inl (0, x4), .inl (0, x5 + 1), v6], [], 0, 0, d) K) ∧ (x3 < d (x0 + 1) 5 → (0 ≤ (10 : Int) ∧ (10 : Int) < 3116) ∧ (mInR (d (x0 + 1) 10) ∧ mInR 200) ∧ (200 ≤ d (x0 + 1) 10 → tRun E 218 (41, [.inr (11, x0), .inl (0, x1), .inl (0, x2), .inl (0, x3), .inl (0, x4), .inl (0, x5 + 1), v6], [], 0, 0, d) K) ∧ (d (x0 + 1) 10 < 200 → tCall E 216 [.inr (11, x0), .inl (0, x2), .inl (0, x5)] d (tbk E 218 84 [.inr (11, x0), .inl (0, x1), .inl (0, x2), .inl (0, x3), .inl (0, x4), .inl (0, x5), v6] [] 0 0 K))))) :
  tRun E 218 (51, [.inr (11, x0), .inl (0, x1), .inl (0, x2), .inl (0, x3), .inl (0, x4), .inl (0, x5), v6], [.inl (0, y2), .inr (25, y1), .inl (0, y0)], 0, 0, d) K := tT_run (cut := [0, 8, 17, 29, 41, 51, 87, 100]) 20 _ h
theorem t_218_87 {E : mO × tW} {K : tK} {d : mD} {x0 x1 x2 x3 x4 x5 y0 : Int} {v6 : tV}
  (h : mInR y0 ∧ (¬ y0 = 0 → tRun E 218 (41, [.inr (11, x0), .inl (0, x1), .inl (0, x2), .inl (0, x3), .inl (0, x4), .inl (0, x5 + 1), v6], [], 0, 0, d) K) ∧ (y0 = 0 → (0 ≤ (10 : Int) ∧ (10 : Int) < 3116) ∧ tCall E 180 [.inl (0, d (x0 + 1) 10)] d (tbk E 218 97 [.inr (11, x0), .inl (0, x1), .inl (0, x2), .inl (0, x3), .inl (0, x4), .inl (0, x5), v6] [] 0 0 K))) :
  tRun E 218 (87, [.inr (11, x0), .inl (0, x1), .inl (0, x2), .inl (0, x3), .inl (0, x4), .inl (0, x5), v6], [.inl (0, y0)], 0, 0, d) K := tT_run (cut := [0, 8, 17, 29, 41, 51, 87, 100]) 6 _ h
theorem t_218_100 {E : mO × tW} {K : tK} {d : mD} {x0 x1 x2 x3 x4 x5 y0 : Int} {v6 : tV}
  (h : (0 ≤ y0 + 0 ∧ y0 + 0 < 3116) ∧ (0 ≤ y0 + 1 ∧ y0 + 1 < 3116) ∧ (0 ≤ y0 + 2 ∧ y0 + 2 < 3116) ∧ (0 ≤ y0 + 3 ∧ y0 + 3 < 3116) ∧ (0 ≤ (0 : Int) ∧ (0 : Int) < 3116) ∧ (0 ≤ y0 + 4 ∧ y0 + 4 < 3116) ∧ (0 ≤ (10 : Int) ∧ (10 : Int) < 3116) ∧ (0 ≤ (10 : Int) ∧ (10 : Int) < 3116) ∧ tRun E 218 (41, [.inr (11, x0), .inl (0, x1), .inl (0, x2), .inl (0, x3 + 1), .inl (0, x4 + 1), .inl (0, x5 + 1), .inl (0, y0)], [], 0, 0, mset (mset (mset (mset (mset (mset d (x0 + 1) (y0 + 0) x2) (x0 + 1) (y0 + 1) x1) (x0 + 1) (y0 + 2) x5) (x0 + 1) (y0 + 3) 0) (x0 + 1) (y0 + 4) ((mset (mset (mset (mset d (x0 + 1) (y0 + 0) x2) (x0 + 1) (y0 + 1) x1) (x0 + 1) (y0 + 2) x5) (x0 + 1) (y0 + 3) 0) (x0 + 1) 0)) (x0 + 1) 10 (((mset (mset (mset (mset (mset d (x0 + 1) (y0 + 0) x2) (x0 + 1) (y0 + 1) x1) (x0 + 1) (y0 + 2) x5) (x0 + 1) (y0 + 3) 0) (x0 + 1) (y0 + 4) ((mset (mset (mset (mset d (x0 + 1) (y0 + 0) x2) (x0 + 1) (y0 + 1) x1) (x0 + 1) (y0 + 2) x5) (x0 + 1) (y0 + 3) 0) (x0 + 1) 0)) (x0 + 1) 10) + 1)) K) :
  tRun E 218 (100, [.inr (11, x0), .inl (0, x1), .inl (0, x2), .inl (0, x3), .inl (0, x4), .inl (0, x5), v6], [.inl (0, y0)], 0, 0, d) K := tT_run (cut := [0, 8, 17, 29, 41, 51, 87, 100]) 51 _ h
theorem t_219_0 {E : mO × tW} {K : tK} {d : mD} {x0 : Int}
  (h : tRun E 219 (2, [.inr (11, x0), .inl (0, 0), tu, tu], [], 0, 0, d) K) :
  tRun E 219 (0, [.inr (11, x0), tu, tu, tu], [], 0, 0, d) K := tT_run (cut := [0, 2, 39, 71, 106]) 2 _ h
theorem t_219_2 {E : mO × tW} {K : tK} {d : mD} {x0 x1 : Int} {v2 v3 : tV}
  (h : (0 ≤ (11 : Int) ∧ (11 : Int) < 3116) ∧ mInR (d (x0 + 1) 11) ∧ (d (x0 + 1) 11 ≤ 0 → K (.inl (some (0, x1))) d) ∧ (0 < d (x0 + 1) 11 → (0 ≤ (1 : Int) ∧ (1 : Int) < 3116) ∧ (0 ≤ (6 : Int) ∧ (6 : Int) < 3116) ∧ (mInR (d (x0 + 1) 1) ∧ mInR (d (x0 + 1) 6)) ∧ (d (x0 + 1) 1 < d (x0 + 1) 6 → K (.inl (some (0, x1))) d) ∧ (d (x0 + 1) 6 ≤ d (x0 + 1) 1 → (0 ≤ (2916 : Int) ∧ (2916 : Int) < 3116) ∧ tCall E 180 [.inl (0, d (x0 + 1) 2916)] d (tbk E 219 36 [.inr (11, x0), .inl (0, x1), v2, v3] [] 0 0 K)))) :
  tRun E 219 (2, [.inr (11, x0), .inl (0, x1), v2, v3], [], 0, 0, d) K := tT_run (cut := [0, 2, 39, 71, 106]) 19 _ h
theorem t_219_39 {E : mO × tW} {K : tK} {d : mD} {x0 x1 y0 : Int} {v2 v3 : tV}
  (h : (0 ≤ (1 : Int) ∧ (1 : Int) < 3116) ∧ (0 ≤ (6 : Int) ∧ (6 : Int) < 3116) ∧ (0 ≤ (1 : Int) ∧ (1 : Int) < 3116) ∧ (0 ≤ y0 + 0 ∧ y0 + 0 < 3116) ∧ tCall E 178 [.inl (0, (mset d (x0 + 1) 1 ((d (x0 + 1) 1) - (d (x0 + 1) 6))) (x0 + 1) (y0 + 0))] (mset d (x0 + 1) 1 ((d (x0 + 1) 1) - (d (x0 + 1) 6))) (tbk E 219 68 [.inr (11, x0), .inl (0, x1), .inl (0, y0), v3] [.inr (25, x0 + 1)] 0 0 K)) :
  tRun E 219 (39, [.inr (11, x0), .inl (0, x1), v2, v3], [.inl (0, y0)], 0, 0, d) K := tT_run (cut := [0, 2, 39, 71, 106]) 21 _ h
theorem t_219_71 {E : mO × tW} {K : tK} {d : mD} {x0 x1 x2 y0 y1 : Int} {v3 : tV}
  (h : (0 ≤ y1 + 1 ∧ y1 + 1 < 3116) ∧ (0 ≤ (6 : Int) ∧ (6 : Int) < 3116) ∧ (0 ≤ y1 + 1 ∧ y1 + 1 < 3116) ∧ (0 ≤ x2 + 3 ∧ x2 + 3 < 3116) ∧ (0 ≤ (11 : Int) ∧ (11 : Int) < 3116) ∧ (0 ≤ (11 : Int) ∧ (11 : Int) < 3116) ∧ tRun E 219 (106, [.inr (11, x0), .inl (0, x1), .inl (0, x2), .inl (0, 0)], [], 0, 0, mset (mset (mset d y0 (y1 + 1) ((d y0 (y1 + 1)) + (d (x0 + 1) 6))) (x0 + 1) (x2 + 3) 2) (x0 + 1) 11 (((mset (mset d y0 (y1 + 1) ((d y0 (y1 + 1)) + (d (x0 + 1) 6))) (x0 + 1) (x2 + 3) 2) (x0 + 1) 11) - 1)) K) :
  tRun E 219 (71, [.inr (11, x0), .inl (0, x1), .inl (0, x2), v3], [.inl (0, y1), .inr (25, y0)], 0, 0, d) K := tT_run (cut := [0, 2, 39, 71, 106]) 27 _ h
theorem t_219_106 {E : mO × tW} {K : tK} {d : mD} {x0 x1 x2 x3 : Int}
  (h : (0 ≤ (11 : Int) ∧ (11 : Int) < 3116) ∧ (mInR x3 ∧ mInR (d (x0 + 1) 11)) ∧ (d (x0 + 1) 11 ≤ x3 → tRun E 219 (2, [.inr (11, x0), .inl (0, x1 + 1), .inl (0, x2), .inl (0, x3)], [], 0, 0, d) K) ∧ (x3 < d (x0 + 1) 11 → (0 ≤ (2916 + x3) + 1 ∧ (2916 + x3) + 1 < 3116) ∧ (0 ≤ 2916 + x3 ∧ 2916 + x3 < 3116) ∧ tRun E 219 (106, [.inr (11, x0), .inl (0, x1), .inl (0, x2), .inl (0, x3 + 1)], [], 0, 0, mset d (x0 + 1) (2916 + x3) (d (x0 + 1) ((2916 + x3) + 1))) K)) :
  tRun E 219 (106, [.inr (11, x0), .inl (0, x1), .inl (0, x2), .inl (0, x3)], [], 0, 0, d) K := tT_run (cut := [0, 2, 39, 71, 106]) 22 _ h
theorem t_220_0 {E : mO × tW} {K : tK} {d : mD} {x0 x1 x2 : Int}
  (h : tCall E 177 [.inl (0, x1)] d (tbk E 220 1 [.inr (11, x0), .inl (0, x1), .inl (0, x2), tu, tu] [] 0 0 K)) :
  tRun E 220 (0, [.inr (11, x0), .inl (0, x1), .inl (0, x2), tu, tu], [], 0, 0, d) K := tT_run (cut := [0, 4, 20]) 2 _ h
theorem t_220_4 {E : mO × tW} {K : tK} {d : mD} {x0 x1 x2 y0 : Int}
  (h : (0 ≤ y0 + 5 ∧ y0 + 5 < 3116) ∧ (0 ≤ y0 + 5 ∧ y0 + 5 < 3116) ∧ tRun E 220 (20, [.inr (11, x0), .inl (0, x1), .inl (0, x2), .inl (0, y0), .inl (0, x2)], [], 0, 0, mset d (x0 + 1) (y0 + 5) ((d (x0 + 1) (y0 + 5)) - 1)) K) :
  tRun E 220 (4, [.inr (11, x0), .inl (0, x1), .inl (0, x2), tu, tu], [.inl (0, y0)], 0, 0, d) K := tT_run (cut := [0, 4, 20]) 13 _ h
theorem t_220_20 {E : mO × tW} {K : tK} {d : mD} {x0 x1 x2 x3 x4 : Int}
  (h : (0 ≤ x3 + 5 ∧ x3 + 5 < 3116) ∧ (mInR x4 ∧ mInR (d (x0 + 1) (x3 + 5))) ∧ (d (x0 + 1) (x3 + 5) ≤ x4 → K (.inl none) d) ∧ (x4 < d (x0 + 1) (x3 + 5) → (0 ≤ ((x3 + 7) + x4) + 1 ∧ ((x3 + 7) + x4) + 1 < 3116) ∧ (0 ≤ (x3 + 7) + x4 ∧ (x3 + 7) + x4 < 3116) ∧ tRun E 220 (20, [.inr (11, x0), .inl (0, x1), .inl (0, x2), .inl (0, x3), .inl (0, x4 + 1)], [], 0, 0, mset d (x0 + 1) ((x3 + 7) + x4) (d (x0 + 1) (((x3 + 7) + x4) + 1))) K)) :
  tRun E 220 (20, [.inr (11, x0), .inl (0, x1), .inl (0, x2), .inl (0, x3), .inl (0, x4)], [], 0, 0, d) K := tT_run (cut := [0, 4, 20]) 28 _ h
theorem t_221_0 {E : mO × tW} {K : tK} {d : mD} {x0 x1 : Int}
  (h : tCall E 179 [.inl (0, x1)] d (tbk E 221 5 [.inr (11, x0), .inl (0, x1), tu, tu] [.inr (25, x0 + 1)] 0 0 K)) :
  tRun E 221 (0, [.inr (11, x0), .inl (0, x1), tu, tu], [], 0, 0, d) K := tT_run (cut := [0, 8, 14, 17]) 4 _ h
theorem t_221_8 {E : mO × tW} {K : tK} {d : mD} {x0 x1 y0 y1 : Int}
  (h : (0 ≤ y1 + 1 ∧ y1 + 1 < 3116) ∧ tCall E 177 [.inl (0, d y0 (y1 + 1))] d (tbk E 221 11 [.inr (11, x0), .inl (0, x1), tu, tu] [] 0 0 K)) :
  tRun E 221 (8, [.inr (11, x0), .inl (0, x1), tu, tu], [.inl (0, y1), .inr (25, y0)], 0, 0, d) K := tT_run (cut := [0, 8, 14, 17]) 4 _ h
theorem t_221_14 {E : mO × tW} {K : tK} {d : mD} {x0 x1 y0 : Int}
  (h : tRun E 221 (17, [.inr (11, x0), .inl (0, x1), .inl (0, y0), .inl (0, 0)], [], 0, 0, d) K) :
  tRun E 221 (14, [.inr (11, x0), .inl (0, x1), tu, tu], [.inl (0, y0)], 0, 0, d) K := tT_run (cut := [0, 8, 14, 17]) 3 _ h
theorem t_221_17 {E : mO × tW} {K : tK} {d : mD} {x0 x1 x2 x3 : Int}
  (h : (0 ≤ x2 + 5 ∧ x2 + 5 < 3116) ∧ (mInR x3 ∧ mInR (d (x0 + 1) (x2 + 5))) ∧ (d (x0 + 1) (x2 + 5) ≤ x3 → K (.inl (some (0, (-1)))) d) ∧ (x3 < d (x0 + 1) (x2 + 5) → (0 ≤ (x2 + 7) + x3 ∧ (x2 + 7) + x3 < 3116) ∧ (mInR (d (x0 + 1) ((x2 + 7) + x3)) ∧ mInR x1) ∧ (¬ d (x0 + 1) ((x2 + 7) + x3) = x1 → tRun E 221 (17, [.inr (11, x0), .inl (0, x1), .inl (0, x2), .inl (0, x3 + 1)], [], 0, 0, d) K) ∧ (d (x0 + 1) ((x2 + 7) + x3) = x1 → K (.inl (some (0, x3))) d))) :
  tRun E 221 (17, [.inr (11, x0), .inl (0, x1), .inl (0, x2), .inl (0, x3)], [], 0, 0, d) K := tT_run (cut := [0, 8, 14, 17]) 20 _ h
theorem t_222_0 {E : mO × tW} {K : tK} {d : mD} {x0 x1 : Int}
  (h : tCall E 177 [.inl (0, x1)] d (tbk E 222 1 [.inr (11, x0), .inl (0, x1), tu, tu, tu] [] 0 0 K)) :
  tRun E 222 (0, [.inr (11, x0), .inl (0, x1), tu, tu, tu], [], 0, 0, d) K := tT_run (cut := [0, 4, 7, 42, 88]) 2 _ h
theorem t_222_4 {E : mO × tW} {K : tK} {d : mD} {x0 x1 y0 : Int}
  (h : tRun E 222 (7, [.inr (11, x0), .inl (0, x1), .inl (0, y0), .inl (0, 0), tu], [], 0, 0, d) K) :
  tRun E 222 (4, [.inr (11, x0), .inl (0, x1), tu, tu, tu], [.inl (0, y0)], 0, 0, d) K := tT_run (cut := [0, 4, 7, 42, 88]) 3 _ h
theorem t_222_7 {E : mO × tW} {K : tK} {d : mD} {x0 x1 x2 x3 : Int} {v4 : tV}
  (h : (0 ≤ x2 + 1 ∧ x2 + 1 < 3116) ∧ (mInR x3 ∧ mInR (d (x0 + 1) (x2 + 1))) ∧ (d (x0 + 1) (x2 + 1) ≤ x3 → K (.inl none) d) ∧ (x3 < d (x0 + 1) (x2 + 1) → (0 ≤ x2 + 5 ∧ x2 + 5 < 3116) ∧ mInR (d (x0 + 1) (x2 + 5)) ∧ (d (x0 + 1) (x2 + 5) ≤ 0 → K (.inl none) d) ∧ (0 < d (x0 + 1) (x2 + 5) → (0 ≤ x2 + 7 ∧ x2 + 7 < 3116) ∧ tCall E 179 [.inl (0, d (x0 + 1) (x2 + 7))] d (tbk E 222 39 [.inr (11, x0), .inl (0, x1), .inl (0, x2), .inl (0, x3), v4] [] 0 0 K)))) :
  tRun E 222 (7, [.inr (11, x0), .inl (0, x1), .inl (0, x2), .inl (0, x3), v4], [], 0, 0, d) K := tT_run (cut := [0, 4, 7, 42, 88]) 22 _ h
theorem t_222_42 {E : mO × tW} {K : tK} {d : mD} {x0 x1 x2 x3 y0 : Int} {v4 : tV}
  (h : (0 ≤ y0 + 4 ∧ y0 + 4 < 3116) ∧ (0 ≤ (0 : Int) ∧ (0 : Int) < 3116) ∧ (0 ≤ y0 + 3 ∧ y0 + 3 < 3116) ∧ (0 ≤ x2 + 6 ∧ x2 + 6 < 3116) ∧ (0 ≤ x2 + 6 ∧ x2 + 6 < 3116) ∧ tCall E 220 [.inr (11, x0), .inl (0, x1), .inl (0, 0)] (mset (mset (mset d (x0 + 1) (y0 + 4) 1) (x0 + 1) (y0 + 3) ((mset d (x0 + 1) (y0 + 4) 1) (x0 + 1) 0)) (x0 + 1) (x2 + 6) (((mset (mset d (x0 + 1) (y0 + 4) 1) (x0 + 1) (y0 + 3) ((mset d (x0 + 1) (y0 + 4) 1) (x0 + 1) 0)) (x0 + 1) (x2 + 6)) + 1)) (tbk E 222 85 [.inr (11, x0), .inl (0, x1), .inl (0, x2), .inl (0, x3), .inl (0, y0)] [] 0 0 K)) :
  tRun E 222 (42, [.inr (11, x0), .inl (0, x1), .inl (0, x2), .inl (0, x3), v4], [.inl (0, y0)], 0, 0, d) K := tT_run (cut := [0, 4, 7, 42, 88]) 32 _ h
theorem t_222_88 {E : mO × tW} {K : tK} {d : mD} {x0 x1 x2 x3 x4 : Int}
  (h : tRun E 222 (7, [.inr (11, x0), .inl (0, x1), .inl (0, x2), .inl (0, x3 + 1), .inl (0, x4)], [], 0, 0, d) K) :
  tRun E 222 (88, [.inr (11, x0), .inl (0, x1), .inl (0, x2), .inl (0, x3), .inl (0, x4)], [], 0, 0, d) K := tT_run (cut := [0, 4, 7, 42, 88]) 2 _ h
theorem t_223_0 {E : mO × tW} {K : tK} {d : mD} {x0 : Int}
  (h : (0 ≤ (0 : Int) ∧ (0 : Int) < 3116) ∧ (0 ≤ (0 : Int) ∧ (0 : Int) < 3116) ∧ tRun E 223 (12, [.inr (11, x0), .inl (0, 0), tu], [], 0, 0, mset d (x0 + 1) 0 ((d (x0 + 1) 0) + 1)) K) :
  tRun E 223 (0, [.inr (11, x0), tu, tu], [], 0, 0, d) K := tT_run (cut := [0, 12, 31, 51, 63, 71, 102, 114, 125]) 10 _ h
theorem t_223_12 {E : mO × tW} {K : tK} {d : mD} {x0 x1 : Int}
  (h : (0 ≤ (7 : Int) ∧ (7 : Int) < 3116) ∧ (mInR x1 ∧ mInR (d (x0 + 1) 7)) ∧ (d (x0 + 1) 7 ≤ x1 → tRun E 223 (71, [.inr (11, x0), .inl (0, 0), tu], [], 0, 0, d) K) ∧ (x1 < d (x0 + 1) 7 → tCall E 177 [.inl (0, x1)] d (tbk E 223 28 [.inr (11, x0), .inl (0, x1), tu] [.inr (25, x0 + 1)] 0 0 K))) :
  tRun E 223 (12, [.inr (11, x0), .inl (0, x1), tu], [], 0, 0, d) K := tT_run (cut := [0, 12, 31, 51, 63, 71, 102, 114, 125]) 10 _ h
theorem t_223_31 {E : mO × tW} {K : tK} {d : mD} {x0 x1 y0 y1 : Int}
  (h : (0 ≤ y1 + 4 ∧ y1 + 4 < 3116) ∧ mInR (d y0 (y1 + 4)) ∧ (d y0 (y1 + 4) = 0 → tRun E 223 (63, [.inr (11, x0), .inl (0, x1), tu], [], 0, 0, d) K) ∧ (¬ d y0 (y1 + 4) = 0 → (0 ≤ (0 : Int) ∧ (0 : Int) < 3116) ∧ tCall E 177 [.inl (0, x1)] d (tbk E 223 48 [.inr (11, x0), .inl (0, x1), tu] [.inr (25, x0 + 1), .inl (0, d (x0 + 1) 0)] 0 0 K))) :
  tRun E 223 (31, [.inr (11, x0), .inl (0, x1), tu], [.inl (0, y1), .inr (25, y0)], 0, 0, d) K := tT_run (cut := [0, 12, 31, 51, 63, 71, 102, 114, 125]) 12 _ h
theorem t_223_51 {E : mO × tW} {K : tK} {d : mD} {x0 x1 y0 y1 y2 : Int}
  (h : (0 ≤ y2 + 2 ∧ y2 + 2 < 3116) ∧ (0 ≤ y0 ∧ y0 ≤ 2147483647 ∧ 0 < d y1 (y2 + 2) ∧ d y1 (y2 + 2) ≤ 2147483647) ∧ mInR (y0 % (d y1 (y2 + 2))) ∧ (¬ y0 % (d y1 (y2 + 2)) = 0 → tRun E 223 (63, [.inr (11, x0), .inl (0, x1), tu], [], 0, 0, d) K) ∧ (y0 % (d y1 (y2 + 2)) = 0 → tCall E 222 [.inr (11, x0), .inl (0, x1)] d (tbk E 223 60 [.inr (11, x0), .inl (0, x1), tu] [] 0 0 K))) :
  tRun E 223 (51, [.inr (11, x0), .inl (0, x1), tu], [.inl (0, y2), .inr (25, y1), .inl (0, y0)], 0, 0, d) K := tT_run (cut := [0, 12, 31, 51, 63, 71, 102, 114, 125]) 8 _ h
theorem t_223_63 {E : mO × tW} {K : tK} {d : mD} {x0 x1 : Int}
  (h : tRun E 223 (12, [.inr (11, x0), .inl (0, x1 + 1), tu], [], 0, 0, d) K) :
  tRun E 223 (63, [.inr (11, x0), .inl (0, x1), tu], [], 0, 0, d) K := tT_run (cut := [0, 12, 31, 51, 63, 71, 102, 114, 125]) 2 _ h
theorem t_223_71 {E : mO × tW} {K : tK} {d : mD} {x0 x1 : Int} {v2 : tV}
  (h : (0 ≤ (9 : Int) ∧ (9 : Int) < 3116) ∧ (mInR x1 ∧ mInR (d (x0 + 1) 9)) ∧ (d (x0 + 1) 9 ≤ x1 → tCall E 219 [.inr (11, x0)] d (tbk E 223 122 [.inr (11, x0), .inl (0, x1), v2] [] 0 0 K)) ∧ (x1 < d (x0 + 1) 9 → (0 ≤ (0 : Int) ∧ (0 : Int) < 3116) ∧ (0 ≤ d (x0 + 1) 0 ∧ d (x0 + 1) 0 ≤ 2147483647 ∧ 0 < (20 : Int) ∧ (20 : Int) ≤ 2147483647) ∧ mInR ((d (x0 + 1) 0) % 20) ∧ (¬ (d (x0 + 1) 0) % 20 = 0 → tCall E 219 [.inr (11, x0)] d (tbk E 223 122 [.inr (11, x0), .inl (0, x1), v2] [] 0 0 K)) ∧ ((d (x0 + 1) 0) % 20 = 0 → tCall E 179 [.inl (0, x1)] d (tbk E 223 99 [.inr (11, x0), .inl (0, x1), v2] [.inr (25, x0 + 1)] 0 0 K)))) :
  tRun E 223 (71, [.inr (11, x0), .inl (0, x1), v2], [], 0, 0, d) K := tT_run (cut := [0, 12, 31, 51, 63, 71, 102, 114, 125]) 17 _ h
theorem t_223_102 {E : mO × tW} {K : tK} {d : mD} {x0 x1 y0 y1 : Int} {v2 : tV}
  (h : (0 ≤ y1 + 6 ∧ y1 + 6 < 3116) ∧ mInR (d y0 (y1 + 6)) ∧ (d y0 (y1 + 6) = 0 → tRun E 223 (71, [.inr (11, x0), .inl (0, x1 + 1), v2], [], 0, 0, d) K) ∧ (¬ d y0 (y1 + 6) = 0 → tCall E 218 [.inr (11, x0), .inl (0, x1)] d (tbk E 223 111 [.inr (11, x0), .inl (0, x1), v2] [] 0 0 K))) :
  tRun E 223 (102, [.inr (11, x0), .inl (0, x1), v2], [.inl (0, y1), .inr (25, y0)], 0, 0, d) K := tT_run (cut := [0, 12, 31, 51, 63, 71, 102, 114, 125]) 7 _ h
theorem t_223_114 {E : mO × tW} {K : tK} {d : mD} {x0 x1 y0 : Int} {v2 : tV}
  (h : tRun E 223 (71, [.inr (11, x0), .inl (0, x1 + 1), .inl (0, y0)], [], 0, 0, d) K) :
  tRun E 223 (114, [.inr (11, x0), .inl (0, x1), v2], [.inl (0, y0)], 0, 0, d) K := tT_run (cut := [0, 12, 31, 51, 63, 71, 102, 114, 125]) 3 _ h
theorem t_223_125 {E : mO × tW} {K : tK} {d : mD} {x0 x1 y0 : Int} {v2 : tV}
  (h : K (.inl none) d) :
  tRun E 223 (125, [.inr (11, x0), .inl (0, x1), v2], [.inl (0, y0)], 0, 0, d) K := tT_run (cut := [0, 12, 31, 51, 63, 71, 102, 114, 125]) 2 _ h
theorem t_224_0 {E : mO × tW} {K : tK} {d : mD} {x0 x1 x2 : Int}
  (h : (0 ≤ (9 : Int) ∧ (9 : Int) < 3116) ∧ tCall E 179 [.inl (0, d (x0 + 1) 9)] d (tbk E 224 9 [.inr (11, x0), .inl (0, x1), .inl (0, x2), .inl (0, d (x0 + 1) 9), tu, tu] [] 0 0 K)) :
  tRun E 224 (0, [.inr (11, x0), .inl (0, x1), .inl (0, x2), tu, tu, tu], [], 0, 0, d) K := tT_run (cut := [0, 12, 17, 90]) 7 _ h
theorem t_224_12 {E : mO × tW} {K : tK} {d : mD} {x0 x1 x2 x3 y0 : Int}
  (h : tRun E 224 (17, [.inr (11, x0), .inl (0, x1), .inl (0, x2), .inl (0, x3), .inl (0, y0), .inl (0, 0)], [], 0, 0, d) K) :
  tRun E 224 (12, [.inr (11, x0), .inl (0, x1), .inl (0, x2), .inl (0, x3), tu, tu], [.inl (0, y0)], 0, 0, d) K := tT_run (cut := [0, 12, 17, 90]) 3 _ h
theorem t_224_17 {E : mO × tW} {K : tK} {d : mD} {x0 x1 x2 x3 x4 x5 : Int}
  (h : (mInR x5 ∧ mInR 24) ∧ (24 ≤ x5 → (0 ≤ x4 + 0 ∧ x4 + 0 < 3116) ∧ (0 ≤ x4 + 1 ∧ x4 + 1 < 3116) ∧ (0 ≤ (0 : Int) ∧ (0 : Int) < 3116) ∧ (0 ≤ x4 + 2 ∧ x4 + 2 < 3116) ∧ (0 ≤ x4 + 3 ∧ x4 + 3 < 3116) ∧ tCall E 177 [.inl (0, x2)] (mset (mset (mset (mset d (x0 + 1) (x4 + 0) x1) (x0 + 1) (x4 + 1) x2) (x0 + 1) (x4 + 2) ((mset (mset d (x0 + 1) (x4 + 0) x1) (x0 + 1) (x4 + 1) x2) (x0 + 1) 0)) (x0 + 1) (x4 + 3) ((-1))) (tbk E 224 87 [.inr (11, x0), .inl (0, x1), .inl (0, x2), .inl (0, x3), .inl (0, x4), .inl (0, x5)] [] 0 0 K)) ∧ (x5 < 24 → (0 ≤ x4 + x5 ∧ x4 + x5 < 3116) ∧ tRun E 224 (17, [.inr (11, x0), .inl (0, x1), .inl (0, x2), .inl (0, x3), .inl (0, x4), .inl (0, x5 + 1)], [], 0, 0, mset d (x0 + 1) (x4 + x5) 0) K)) :
  tRun E 224 (17, [.inr (11, x0), .inl (0, x1), .inl (0, x2), .inl (0, x3), .inl (0, x4), .inl (0, x5)], [], 0, 0, d) K := tT_run (cut := [0, 12, 17, 90]) 36 _ h
theorem t_224_90 {E : mO × tW} {K : tK} {d : mD} {x0 x1 x2 x3 x4 x5 y0 : Int}
  (h : (0 ≤ y0 + 5 ∧ y0 + 5 < 3116) ∧ (0 ≤ (y0 + 7) + (d (x0 + 1) (y0 + 5)) ∧ (y0 + 7) + (d (x0 + 1) (y0 + 5)) < 3116) ∧ (0 ≤ y0 + 5 ∧ y0 + 5 < 3116) ∧ (0 ≤ y0 + 5 ∧ y0 + 5 < 3116) ∧ (0 ≤ (9 : Int) ∧ (9 : Int) < 3116) ∧ (0 ≤ (9 : Int) ∧ (9 : Int) < 3116) ∧ K (.inl (some (0, x3))) (mset (mset (mset d (x0 + 1) ((y0 + 7) + (d (x0 + 1) (y0 + 5))) x3) (x0 + 1) (y0 + 5) (((mset d (x0 + 1) ((y0 + 7) + (d (x0 + 1) (y0 + 5))) x3) (x0 + 1) (y0 + 5)) + 1)) (x0 + 1) 9 (((mset (mset d (x0 + 1) ((y0 + 7) + (d (x0 + 1) (y0 + 5))) x3) (x0 + 1) (y0 + 5) (((mset d (x0 + 1) ((y0 + 7) + (d (x0 + 1) (y0 + 5))) x3) (x0 + 1) (y0 + 5)) + 1)) (x0 + 1) 9) + 1))) :
  tRun E 224 (90, [.inr (11, x0), .inl (0, x1), .inl (0, x2), .inl (0, x3), .inl (0, x4), .inl (0, x5)], [.inl (0, y0)], 0, 0, d) K := tT_run (cut := [0, 12, 17, 90]) 35 _ h
theorem t_225_0 {E : mO × tW} {K : tK} {d : mD} {x0 x1 x2 : Int}
  (h : tCall E 177 [.inl (0, x2)] d (tbk E 225 1 [.inr (11, x0), .inl (0, x1), .inl (0, x2), tu, tu, tu] [] 0 0 K)) :
  tRun E 225 (0, [.inr (11, x0), .inl (0, x1), .inl (0, x2), tu, tu, tu], [], 0, 0, d) K := tT_run (cut := [0, 4, 57, 91]) 2 _ h
theorem t_225_4 {E : mO × tW} {K : tK} {d : mD} {x0 x1 x2 y0 : Int}
  (h : (0 ≤ (9 : Int) ∧ (9 : Int) < 3116) ∧ (mInR (d (x0 + 1) 9) ∧ mInR 60) ∧ (60 ≤ d (x0 + 1) 9 → tRun E 225 (57, [.inr (11, x0), .inl (0, x1), .inl (0, x2), .inl (0, y0), .inl (0, 0), .inl (0, 0)], [], 0, 0, d) K) ∧ (d (x0 + 1) 9 < 60 → (0 ≤ y0 + 4 ∧ y0 + 4 < 3116) ∧ mInR (d (x0 + 1) (y0 + 4)) ∧ (d (x0 + 1) (y0 + 4) = 0 → tRun E 225 (57, [.inr (11, x0), .inl (0, x1), .inl (0, x2), .inl (0, y0), .inl (0, 0), .inl (0, 0)], [], 0, 0, d) K) ∧ (¬ d (x0 + 1) (y0 + 4) = 0 → (0 ≤ y0 + 5 ∧ y0 + 5 < 3116) ∧ (0 ≤ y0 + 3 ∧ y0 + 3 < 3116) ∧ (mInR (d (x0 + 1) (y0 + 5)) ∧ mInR (d (x0 + 1) (y0 + 3))) ∧ (d (x0 + 1) (y0 + 3) ≤ d (x0 + 1) (y0 + 5) → tRun E 225 (57, [.inr (11, x0), .inl (0, x1), .inl (0, x2), .inl (0, y0), .inl (0, 0), .inl (0, 0)], [], 0, 0, d) K) ∧ (d (x0 + 1) (y0 + 5) < d (x0 + 1) (y0 + 3) → tRun E 225 (57, [.inr (11, x0), .inl (0, x1), .inl (0, x2), .inl (0, y0), .inl (0, 1), .inl (0, 0)], [], 0, 0, d) K)))) :
  tRun E 225 (4, [.inr (11, x0), .inl (0, x1), .inl (0, x2), tu, tu, tu], [.inl (0, y0)], 0, 0, d) K := tT_run (cut := [0, 4, 57, 91]) 32 _ h
theorem t_225_57 {E : mO × tW} {K : tK} {d : mD} {x0 x1 x2 x3 x4 x5 : Int}
  (h : (0 ≤ x3 + 5 ∧ x3 + 5 < 3116) ∧ (mInR x5 ∧ mInR (d (x0 + 1) (x3 + 5))) ∧ (d (x0 + 1) (x3 + 5) ≤ x5 → (x4 = 0 ∨ x4 = 1) ∧ K (.inl (some (0, x4))) d) ∧ (x5 < d (x0 + 1) (x3 + 5) → (0 ≤ (x3 + 7) + x5 ∧ (x3 + 7) + x5 < 3116) ∧ tCall E 179 [.inl (0, d (x0 + 1) ((x3 + 7) + x5))] d (tbk E 225 88 [.inr (11, x0), .inl (0, x1), .inl (0, x2), .inl (0, x3), .inl (0, x4), .inl (0, x5)] [.inr (25, x0 + 1), .inl (0, x4)] 0 0 K))) :
  tRun E 225 (57, [.inr (11, x0), .inl (0, x1), .inl (0, x2), .inl (0, x3), .inl (0, x4), .inl (0, x5)], [], 0, 0, d) K := tT_run (cut := [0, 4, 57, 91]) 20 _ h
theorem t_225_91 {E : mO × tW} {K : tK} {d : mD} {x0 x1 x2 x3 x4 x5 y0 y1 y2 : Int}
  (h : (0 ≤ y2 + 0 ∧ y2 + 0 < 3116) ∧ (mInR (d y1 (y2 + 0)) ∧ mInR x1) ∧ (d y1 (y2 + 0) = x1 → tRun E 225 (57, [.inr (11, x0), .inl (0, x1), .inl (0, x2), .inl (0, x3), .inl (0, miand y0 0), .inl (0, x5 + 1)], [], 0, 0, d) K) ∧ (¬ d y1 (y2 + 0) = x1 → tRun E 225 (57, [.inr (11, x0), .inl (0, x1), .inl (0, x2), .inl (0, x3), .inl (0, miand y0 1), .inl (0, x5 + 1)], [], 0, 0, d) K)) :
  tRun E 225 (91, [.inr (11, x0), .inl (0, x1), .inl (0, x2), .inl (0, x3), .inl (0, x4), .inl (0, x5)], [.inl (0, y2), .inr (25, y1), .inl (0, y0)], 0, 0, d) K := tT_run (cut := [0, 4, 57, 91]) 11 _ h
theorem t_226_0 {E : mO × tW} {K : tK} {d : mD} {x0 x1 x2 : Int}
  (h : tCall E 224 [.inr (11, x0), .inl (0, x1), .inl (0, x2)] d (tbk E 226 3 [.inr (11, x0), .inl (0, x1), .inl (0, x2)] [] 0 0 K)) :
  tRun E 226 (0, [.inr (11, x0), .inl (0, x1), .inl (0, x2)], [], 0, 0, d) K := tT_run (cut := [0, 6]) 4 _ h
theorem t_226_6 {E : mO × tW} {K : tK} {d : mD} {x0 x1 x2 y0 : Int}
  (h : K (.inl (some (0, y0))) d) :
  tRun E 226 (6, [.inr (11, x0), .inl (0, x1), .inl (0, x2)], [.inl (0, y0)], 0, 0, d) K := tT_run (cut := [0, 6]) 1 _ h
theorem t_227_0 {E : mO × tW} {K : tK} {d : mD} {x0 x1 : Int}
  (h : tCall E 179 [.inl (0, x1)] d (tbk E 227 5 [.inr (11, x0), .inl (0, x1)] [.inr (25, x0 + 1)] 0 0 K)) :
  tRun E 227 (0, [.inr (11, x0), .inl (0, x1)], [], 0, 0, d) K := tT_run (cut := [0, 8, 23]) 4 _ h
theorem t_227_8 {E : mO × tW} {K : tK} {d : mD} {x0 x1 y0 y1 : Int}
  (h : (0 ≤ y1 + 4 ∧ y1 + 4 < 3116) ∧ (mInR (d y0 (y1 + 4)) ∧ mInR 1) ∧ (¬ d y0 (y1 + 4) = 1 → ((0 : Int) = 0 ∨ (0 : Int) = 1) ∧ K (.inl (some (0, 0))) d) ∧ (d y0 (y1 + 4) = 1 → tCall E 179 [.inl (0, x1)] d (tbk E 227 20 [.inr (11, x0), .inl (0, x1)] [.inr (25, x0 + 1)] 0 0 K))) :
  tRun E 227 (8, [.inr (11, x0), .inl (0, x1)], [.inl (0, y1), .inr (25, y0)], 0, 0, d) K := tT_run (cut := [0, 8, 23]) 9 _ h
theorem t_227_23 {E : mO × tW} {K : tK} {d : mD} {x0 x1 y0 y1 : Int}
  (h : (0 ≤ y1 + 5 ∧ y1 + 5 < 3116) ∧ mInR (d y0 (y1 + 5)) ∧ (¬ d y0 (y1 + 5) = 0 → ((0 : Int) = 0 ∨ (0 : Int) = 1) ∧ K (.inl (some (0, 0))) d) ∧ (d y0 (y1 + 5) = 0 → ((1 : Int) = 0 ∨ (1 : Int) = 1) ∧ K (.inl (some (0, 1))) d)) :
  tRun E 227 (23, [.inr (11, x0), .inl (0, x1)], [.inl (0, y1), .inr (25, y0)], 0, 0, d) K := tT_run (cut := [0, 8, 23]) 7 _ h
theorem t_228_0 {E : mO × tW} {K : tK} {d : mD} {x0 x1 : Int}
  (h : tCall E 179 [.inl (0, x1)] d (tbk E 228 5 [.inr (11, x0), .inl (0, x1)] [.inr (25, x0 + 1)] 0 0 K)) :
  tRun E 228 (0, [.inr (11, x0), .inl (0, x1)], [], 0, 0, d) K := tT_run (cut := [0, 8, 31, 41]) 4 _ h
theorem t_228_8 {E : mO × tW} {K : tK} {d : mD} {x0 x1 y0 y1 : Int}
  (h : (0 ≤ y1 + 5 ∧ y1 + 5 < 3116) ∧ (0 ≤ (3 : Int) ∧ (3 : Int) < 3116) ∧ mInR ((mset d y0 (y1 + 5) 1) (x0 + 1) 3) ∧ ((mset d y0 (y1 + 5) 1) (x0 + 1) 3 ≤ 0 → tCall E 179 [.inl (0, x1)] (mset d y0 (y1 + 5) 1) (tbk E 228 28 [.inr (11, x0), .inl (0, x1)] [.inr (25, x0 + 1)] 0 0 K)) ∧ (0 < (mset d y0 (y1 + 5) 1) (x0 + 1) 3 → K (.inl (some (0, 0))) (mset d y0 (y1 + 5) 1))) :
  tRun E 228 (8, [.inr (11, x0), .inl (0, x1)], [.inl (0, y1), .inr (25, y0)], 0, 0, d) K := tT_run (cut := [0, 8, 31, 41]) 13 _ h
theorem t_228_31 {E : mO × tW} {K : tK} {d : mD} {x0 x1 y0 y1 : Int}
  (h : (0 ≤ y1 + 6 ∧ y1 + 6 < 3116) ∧ tCall E 218 [.inr (11, x0), .inl (0, x1)] (mset d y0 (y1 + 6) 1) (tbk E 228 38 [.inr (11, x0), .inl (0, x1)] [] 0 0 K)) :
  tRun E 228 (31, [.inr (11, x0), .inl (0, x1)], [.inl (0, y1), .inr (25, y0)], 0, 0, d) K := tT_run (cut := [0, 8, 31, 41]) 7 _ h
theorem t_228_41 {E : mO × tW} {K : tK} {d : mD} {x0 x1 y0 : Int}
  (h : K (.inl (some (0, y0))) d) :
  tRun E 228 (41, [.inr (11, x0), .inl (0, x1)], [.inl (0, y0)], 0, 0, d) K := tT_run (cut := [0, 8, 31, 41]) 1 _ h
theorem t_229_0 {E : mO × tW} {K : tK} {d : mD} {x0 x1 x2 : Int}
  (h : tCall E 177 [.inl (0, x1)] d (tbk E 229 1 [.inr (11, x0), .inl (0, x1), .inl (0, x2), tu, tu, tu, tu, tu, tu] [] 0 0 K)) :
  tRun E 229 (0, [.inr (11, x0), .inl (0, x1), .inl (0, x2), tu, tu, tu, tu, tu, tu], [], 0, 0, d) K := tT_run (cut := [0, 4, 9, 23, 61, 88, 100, 177, 199, 229, 237, 266, 332]) 2 _ h
theorem t_229_4 {E : mO × tW} {K : tK} {d : mD} {x0 x1 x2 y0 : Int}
  (h : tCall E 177 [.inl (0, x2)] d (tbk E 229 6 [.inr (11, x0), .inl (0, x1), .inl (0, x2), .inl (0, y0), tu, tu, tu, tu, tu] [] 0 0 K)) :
  tRun E 229 (4, [.inr (11, x0), .inl (0, x1), .inl (0, x2), tu, tu, tu, tu, tu, tu], [.inl (0, y0)], 0, 0, d) K := tT_run (cut := [0, 4, 9, 23, 61, 88, 100, 177, 199, 229, 237, 266, 332]) 3 _ h
theorem t_229_9 {E : mO × tW} {K : tK} {d : mD} {x0 x1 x2 x3 y0 : Int}
  (h : (0 ≤ x3 + 4 ∧ x3 + 4 < 3116) ∧ tRun E 229 (23, [.inr (11, x0), .inl (0, x1), .inl (0, x2), .inl (0, x3), .inl (0, y0), .inl (0, 0), tu, tu, tu], [], 0, 0, mset d (x0 + 1) (x3 + 4) 0) K) :
  tRun E 229 (9, [.inr (11, x0), .inl (0, x1), .inl (0, x2), .inl (0, x3), tu, tu, tu, tu, tu], [.inl (0, y0)], 0, 0, d) K := tT_run (cut := [0, 4, 9, 23, 61, 88, 100, 177, 199, 229, 237, 266, 332]) 10 _ h
theorem t_229_23 {E : mO × tW} {K : tK} {d : mD} {x0 x1 x2 x3 x4 x5 : Int} {v6 v7 : tV}
  (h : (0 ≤ x3 + 5 ∧ x3 + 5 < 3116) ∧ (mInR x5 ∧ mInR (d (x0 + 1) (x3 + 5))) ∧ (d (x0 + 1) (x3 + 5) ≤ x5 → (0 ≤ x3 + 5 ∧ x3 + 5 < 3116) ∧ tRun E 229 (199, [.inr (11, x0), .inl (0, x1), .inl (0, x2), .inl (0, x3), .inl (0, x4), .inl (0, 0), v6, v7, tu], [], 0, 0, mset d (x0 + 1) (x3 + 5) 0) K) ∧ (x5 < d (x0 + 1) (x3 + 5) → (0 ≤ (x3 + 7) + x5 ∧ (x3 + 7) + x5 < 3116) ∧ (0 ≤ x4 + 5 ∧ x4 + 5 < 3116) ∧ tRun E 229 (61, [.inr (11, x0), .inl (0, x1), .inl (0, x2), .inl (0, x3), .inl (0, x4), .inl (0, x5), .inl (0, d (x0 + 1) ((x3 + 7) + x5)), .inl (0, d (x0 + 1) (x4 + 5)), tu], [], 0, 0, d) K)) :
  tRun E 229 (23, [.inr (11, x0), .inl (0, x1), .inl (0, x2), .inl (0, x3), .inl (0, x4), .inl (0, x5), v6, v7, tu], [], 0, 0, d) K := tT_run (cut := [0, 4, 9, 23, 61, 88, 100, 177, 199, 229, 237, 266, 332]) 24 _ h
theorem t_229_61 {E : mO × tW} {K : tK} {d : mD} {x0 x1 x2 x3 x4 x5 x6 x7 : Int}
  (h : mInR x7 ∧ (x7 ≤ 0 → (0 ≤ (x4 + 7) + x7 ∧ (x4 + 7) + x7 < 3116) ∧ (0 ≤ x4 + 5 ∧ x4 + 5 < 3116) ∧ (0 ≤ x4 + 5 ∧ x4 + 5 < 3116) ∧ tCall E 179 [.inl (0, x6)] (mset (mset d (x0 + 1) ((x4 + 7) + x7) x6) (x0 + 1) (x4 + 5) (((mset d (x0 + 1) ((x4 + 7) + x7) x6) (x0 + 1) (x4 + 5)) + 1)) (tbk E 229 174 [.inr (11, x0), .inl (0, x1), .inl (0, x2), .inl (0, x3), .inl (0, x4), .inl (0, x5), .inl (0, x6), .inl (0, x7), tu] [.inr (25, x0 + 1)] 0 0 K)) ∧ (0 < x7 → (0 ≤ ((x4 + 7) + x7) - 1 ∧ ((x4 + 7) + x7) - 1 < 3116) ∧ tCall E 179 [.inl (0, d (x0 + 1) (((x4 + 7) + x7) - 1))] d (tbk E 229 85 [.inr (11, x0), .inl (0, x1), .inl (0, x2), .inl (0, x3), .inl (0, x4), .inl (0, x5), .inl (0, x6), .inl (0, x7), tu] [.inr (25, x0 + 1)] 0 0 K))) :
  tRun E 229 (61, [.inr (11, x0), .inl (0, x1), .inl (0, x2), .inl (0, x3), .inl (0, x4), .inl (0, x5), .inl (0, x6), .inl (0, x7), tu], [], 0, 0, d) K := tT_run (cut := [0, 4, 9, 23, 61, 88, 100, 177, 199, 229, 237, 266, 332]) 25 _ h
theorem t_229_88 {E : mO × tW} {K : tK} {d : mD} {x0 x1 x2 x3 x4 x5 x6 x7 y0 y1 : Int}
  (h : (0 ≤ y1 + 2 ∧ y1 + 2 < 3116) ∧ tCall E 179 [.inl (0, x6)] d (tbk E 229 97 [.inr (11, x0), .inl (0, x1), .inl (0, x2), .inl (0, x3), .inl (0, x4), .inl (0, x5), .inl (0, x6), .inl (0, x7), tu] [.inr (25, x0 + 1), .inl (0, d y0 (y1 + 2))] 0 0 K)) :
  tRun E 229 (88, [.inr (11, x0), .inl (0, x1), .inl (0, x2), .inl (0, x3), .inl (0, x4), .inl (0, x5), .inl (0, x6), .inl (0, x7), tu], [.inl (0, y1), .inr (25, y0)], 0, 0, d) K := tT_run (cut := [0, 4, 9, 23, 61, 88, 100, 177, 199, 229, 237, 266, 332]) 7 _ h
theorem t_229_100 {E : mO × tW} {K : tK} {d : mD} {x0 x1 x2 x3 x4 x5 x6 x7 y0 y1 y2 : Int}
  (h : (0 ≤ y2 + 2 ∧ y2 + 2 < 3116) ∧ (mInR y0 ∧ mInR (d y1 (y2 + 2))) ∧ (y0 ≤ d y1 (y2 + 2) → (0 ≤ (x4 + 7) + x7 ∧ (x4 + 7) + x7 < 3116) ∧ (0 ≤ x4 + 5 ∧ x4 + 5 < 3116) ∧ (0 ≤ x4 + 5 ∧ x4 + 5 < 3116) ∧ tCall E 179 [.inl (0, x6)] (mset (mset d (x0 + 1) ((x4 + 7) + x7) x6) (x0 + 1) (x4 + 5) (((mset d (x0 + 1) ((x4 + 7) + x7) x6) (x0 + 1) (x4 + 5)) + 1)) (tbk E 229 174 [.inr (11, x0), .inl (0, x1), .inl (0, x2), .inl (0, x3), .inl (0, x4), .inl (0, x5), .inl (0, x6), .inl (0, x7), tu] [.inr (25, x0 + 1)] 0 0 K)) ∧ (d y1 (y2 + 2) < y0 → (0 ≤ ((x4 + 7) + x7) - 1 ∧ ((x4 + 7) + x7) - 1 < 3116) ∧ (0 ≤ (x4 + 7) + x7 ∧ (x4 + 7) + x7 < 3116) ∧ tRun E 229 (61, [.inr (11, x0), .inl (0, x1), .inl (0, x2), .inl (0, x3), .inl (0, x4), .inl (0, x5), .inl (0, x6), .inl (0, x7 + (-1)), tu], [], 0, 0, mset d (x0 + 1) ((x4 + 7) + x7) (d (x0 + 1) (((x4 + 7) + x7) - 1))) K)) :
  tRun E 229 (100, [.inr (11, x0), .inl (0, x1), .inl (0, x2), .inl (0, x3), .inl (0, x4), .inl (0, x5), .inl (0, x6), .inl (0, x7), tu], [.inl (0, y2), .inr (25, y1), .inl (0, y0)], 0, 0, d) K := tT_run (cut := [0, 4, 9, 23, 61, 88, 100, 177, 199, 229, 237, 266, 332]) 27 _ h
theorem t_229_177 {E : mO × tW} {K : tK} {d : mD} {x0 x1 x2 x3 x4 x5 x6 x7 y0 y1 : Int}
  (h : (0 ≤ y1 + 1 ∧ y1 + 1 < 3116) ∧ tRun E 229 (23, [.inr (11, x0), .inl (0, x1), .inl (0, x2), .inl (0, x3), .inl (0, x4), .inl (0, x5 + 1), .inl (0, x6), .inl (0, x7), tu], [], 0, 0, mset d y0 (y1 + 1) x2) K) :
  tRun E 229 (177, [.inr (11, x0), .inl (0, x1), .inl (0, x2), .inl (0, x3), .inl (0, x4), .inl (0, x5), .inl (0, x6), .inl (0, x7), tu], [.inl (0, y1), .inr (25, y0)], 0, 0, d) K := tT_run (cut := [0, 4, 9, 23, 61, 88, 100, 177, 199, 229, 237, 266, 332]) 6 _ h
theorem t_229_199 {E : mO × tW} {K : tK} {d : mD} {x0 x1 x2 x3 x4 x5 : Int} {v6 v7 v8 : tV}
  (h : (0 ≤ x4 + 5 ∧ x4 + 5 < 3116) ∧ (mInR x5 ∧ mInR (d (x0 + 1) (x4 + 5))) ∧ (d (x0 + 1) (x4 + 5) ≤ x5 → K (.inl none) d) ∧ (x5 < d (x0 + 1) (x4 + 5) → (0 ≤ (x4 + 7) + x5 ∧ (x4 + 7) + x5 < 3116) ∧ tCall E 179 [.inl (0, d (x0 + 1) ((x4 + 7) + x5))] d (tbk E 229 226 [.inr (11, x0), .inl (0, x1), .inl (0, x2), .inl (0, x3), .inl (0, x4), .inl (0, x5), v6, v7, v8] [] 0 0 K))) :
  tRun E 229 (199, [.inr (11, x0), .inl (0, x1), .inl (0, x2), .inl (0, x3), .inl (0, x4), .inl (0, x5), v6, v7, v8], [], 0, 0, d) K := tT_run (cut := [0, 4, 9, 23, 61, 88, 100, 177, 199, 229, 237, 266, 332]) 17 _ h
theorem t_229_229 {E : mO × tW} {K : tK} {d : mD} {x0 x1 x2 x3 x4 x5 y0 : Int} {v6 v7 v8 : tV}
  (h : tRun E 229 (237, [.inr (11, x0), .inl (0, x1), .inl (0, x2), .inl (0, x3), .inl (0, x4), .inl (0, x5), .inl (0, y0), .inl (0, 0), .inl (0, 0)], [], 0, 0, d) K) :
  tRun E 229 (229, [.inr (11, x0), .inl (0, x1), .inl (0, x2), .inl (0, x3), .inl (0, x4), .inl (0, x5), v6, v7, v8], [.inl (0, y0)], 0, 0, d) K := tT_run (cut := [0, 4, 9, 23, 61, 88, 100, 177, 199, 229, 237, 266, 332]) 5 _ h
theorem t_229_237 {E : mO × tW} {K : tK} {d : mD} {x0 x1 x2 x3 x4 x5 x6 x7 x8 : Int}
  (h : (mInR x8 ∧ mInR x5) ∧ (x5 ≤ x8 → mInR x7 ∧ (x7 = 0 → tRun E 229 (199, [.inr (11, x0), .inl (0, x1), .inl (0, x2), .inl (0, x3), .inl (0, x4), .inl (0, x5 + 1), .inl (0, x6), .inl (0, x7), .inl (0, x8)], [], 0, 0, d) K) ∧ (¬ x7 = 0 → (0 ≤ x6 + 4 ∧ x6 + 4 < 3116) ∧ (0 ≤ (0 : Int) ∧ (0 : Int) < 3116) ∧ (0 ≤ x6 + 3 ∧ x6 + 3 < 3116) ∧ tCall E 220 [.inr (11, x0), .inl (0, x2), .inl (0, x5)] (mset (mset d (x0 + 1) (x6 + 4) 2) (x0 + 1) (x6 + 3) ((mset d (x0 + 1) (x6 + 4) 2) (x0 + 1) 0)) (tbk E 229 329 [.inr (11, x0), .inl (0, x1), .inl (0, x2), .inl (0, x3), .inl (0, x4), .inl (0, x5), .inl (0, x6), .inl (0, x7), .inl (0, x8)] [] 0 0 K))) ∧ (x8 < x5 → (0 ≤ (x4 + 7) + x8 ∧ (x4 + 7) + x8 < 3116) ∧ tCall E 179 [.inl (0, d (x0 + 1) ((x4 + 7) + x8))] d (tbk E 229 263 [.inr (11, x0), .inl (0, x1), .inl (0, x2), .inl (0, x3), .inl (0, x4), .inl (0, x5), .inl (0, x6), .inl (0, x7), .inl (0, x8)] [.inr (25, x0 + 1), .inl (0, x7)] 0 0 K))) :
  tRun E 229 (237, [.inr (11, x0), .inl (0, x1), .inl (0, x2), .inl (0, x3), .inl (0, x4), .inl (0, x5), .inl (0, x6), .inl (0, x7), .inl (0, x8)], [], 0, 0, d) K := tT_run (cut := [0, 4, 9, 23, 61, 88, 100, 177, 199, 229, 237, 266, 332]) 26 _ h
theorem t_229_266 {E : mO × tW} {K : tK} {d : mD} {x0 x1 x2 x3 x4 x5 x6 x7 x8 y0 y1 y2 : Int}
  (h : (0 ≤ y2 + 0 ∧ y2 + 0 < 3116) ∧ (0 ≤ x6 + 0 ∧ x6 + 0 < 3116) ∧ (mInR (d y1 (y2 + 0)) ∧ mInR (d (x0 + 1) (x6 + 0))) ∧ (¬ d y1 (y2 + 0) = d (x0 + 1) (x6 + 0) → tRun E 229 (237, [.inr (11, x0), .inl (0, x1), .inl (0, x2), .inl (0, x3), .inl (0, x4), .inl (0, x5), .inl (0, x6), .inl (0, mior y0 0), .inl (0, x8 + 1)], [], 0, 0, d) K) ∧ (d y1 (y2 + 0) = d (x0 + 1) (x6 + 0) → tRun E 229 (237, [.inr (11, x0), .inl (0, x1), .inl (0, x2), .inl (0, x3), .inl (0, x4), .inl (0, x5), .inl (0, x6), .inl (0, mior y0 1), .inl (0, x8 + 1)], [], 0, 0, d) K)) :
  tRun E 229 (266, [.inr (11, x0), .inl (0, x1), .inl (0, x2), .inl (0, x3), .inl (0, x4), .inl (0, x5), .inl (0, x6), .inl (0, x7), .inl (0, x8)], [.inl (0, y2), .inr (25, y1), .inl (0, y0)], 0, 0, d) K := tT_run (cut := [0, 4, 9, 23, 61, 88, 100, 177, 199, 229, 237, 266, 332]) 16 _ h
theorem t_229_332 {E : mO × tW} {K : tK} {d : mD} {x0 x1 x2 x3 x4 x5 x6 x7 x8 : Int}
  (h : tRun E 229 (199, [.inr (11, x0), .inl (0, x1), .inl (0, x2), .inl (0, x3), .inl (0, x4), .inl (0, x5), .inl (0, x6), .inl (0, x7), .inl (0, x8)], [], 0, 0, d) K) :
  tRun E 229 (332, [.inr (11, x0), .inl (0, x1), .inl (0, x2), .inl (0, x3), .inl (0, x4), .inl (0, x5), .inl (0, x6), .inl (0, x7), .inl (0, x8)], [], 0, 0, d) K := tT_run (cut := [0, 4, 9, 23, 61, 88, 100, 177, 199, 229, 237, 266, 332]) 2 _ h
theorem t_230_0 {E : mO × tW} {K : tK} {d : mD} {x0 x1 x2 : Int}
  (h : tCall E 179 [.inl (0, x1)] d (tbk E 230 5 [.inr (11, x0), .inl (0, x1), .inl (0, x2), tu, tu] [.inr (25, x0 + 1)] 0 0 K)) :
  tRun E 230 (0, [.inr (11, x0), .inl (0, x1), .inl (0, x2), tu, tu], [], 0, 0, d) K := tT_run (cut := [0, 8, 19, 33, 47, 56, 61, 69, 77]) 4 _ h
theorem t_230_8 {E : mO × tW} {K : tK} {d : mD} {x0 x1 x2 y0 y1 : Int}
  (h : (0 ≤ y1 + 2 ∧ y1 + 2 < 3116) ∧ tCall E 179 [.inl (0, x2)] d (tbk E 230 16 [.inr (11, x0), .inl (0, x1), .inl (0, x2), tu, tu] [.inr (25, x0 + 1), .inl (0, d y0 (y1 + 2))] 0 0 K)) :
  tRun E 230 (8, [.inr (11, x0), .inl (0, x1), .inl (0, x2), tu, tu], [.inl (0, y1), .inr (25, y0)], 0, 0, d) K := tT_run (cut := [0, 8, 19, 33, 47, 56, 61, 69, 77]) 7 _ h
theorem t_230_19 {E : mO × tW} {K : tK} {d : mD} {x0 x1 x2 y0 y1 y2 : Int}
  (h : (0 ≤ y2 + 2 ∧ y2 + 2 < 3116) ∧ (mInR y0 ∧ mInR (d y1 (y2 + 2))) ∧ (y0 ≤ d y1 (y2 + 2) → tCall E 179 [.inl (0, x2)] d (tbk E 230 44 [.inr (11, x0), .inl (0, x1), .inl (0, x2), tu, tu] [.inr (25, x0 + 1)] 0 0 K)) ∧ (d y1 (y2 + 2) < y0 → tCall E 179 [.inl (0, x1)] d (tbk E 230 30 [.inr (11, x0), .inl (0, x1), .inl (0, x2), tu, tu] [.inr (25, x0 + 1)] 0 0 K))) :
  tRun E 230 (19, [.inr (11, x0), .inl (0, x1), .inl (0, x2), tu, tu], [.inl (0, y2), .inr (25, y1), .inl (0, y0)], 0, 0, d) K := tT_run (cut := [0, 8, 19, 33, 47, 56, 61, 69, 77]) 8 _ h
theorem t_230_33 {E : mO × tW} {K : tK} {d : mD} {x0 x1 x2 y0 y1 : Int}
  (h : (0 ≤ y1 + 2 ∧ y1 + 2 < 3116) ∧ tCall E 212 [.inr (11, x0), .inl (0, x1)] d (tbk E 230 53 [.inr (11, x0), .inl (0, x1), .inl (0, x2), .inl (0, d y0 (y1 + 2)), tu] [] 0 0 K)) :
  tRun E 230 (33, [.inr (11, x0), .inl (0, x1), .inl (0, x2), tu, tu], [.inl (0, y1), .inr (25, y0)], 0, 0, d) K := tT_run (cut := [0, 8, 19, 33, 47, 56, 61, 69, 77]) 8 _ h
theorem t_230_47 {E : mO × tW} {K : tK} {d : mD} {x0 x1 x2 y0 y1 : Int}
  (h : (0 ≤ y1 + 2 ∧ y1 + 2 < 3116) ∧ tCall E 212 [.inr (11, x0), .inl (0, x1)] d (tbk E 230 53 [.inr (11, x0), .inl (0, x1), .inl (0, x2), .inl (0, d y0 (y1 + 2)), tu] [] 0 0 K)) :
  tRun E 230 (47, [.inr (11, x0), .inl (0, x1), .inl (0, x2), tu, tu], [.inl (0, y1), .inr (25, y0)], 0, 0, d) K := tT_run (cut := [0, 8, 19, 33, 47, 56, 61, 69, 77]) 7 _ h
theorem t_230_56 {E : mO × tW} {K : tK} {d : mD} {x0 x1 x2 x3 y0 : Int}
  (h : tCall E 212 [.inr (11, x0), .inl (0, x2)] d (tbk E 230 58 [.inr (11, x0), .inl (0, x1), .inl (0, x2), .inl (0, x3), tu] [.inl (0, y0)] 0 0 K)) :
  tRun E 230 (56, [.inr (11, x0), .inl (0, x1), .inl (0, x2), .inl (0, x3), tu], [.inl (0, y0)], 0, 0, d) K := tT_run (cut := [0, 8, 19, 33, 47, 56, 61, 69, 77]) 3 _ h
theorem t_230_61 {E : mO × tW} {K : tK} {d : mD} {x0 x1 x2 x3 y0 y1 : Int}
  (h : (mInR y0 ∧ mInR y1) ∧ (y1 ≤ y0 → tCall E 212 [.inr (11, x0), .inl (0, x2)] d (tbk E 230 74 [.inr (11, x0), .inl (0, x1), .inl (0, x2), .inl (0, x3), tu] [] 0 0 K)) ∧ (y0 < y1 → tCall E 212 [.inr (11, x0), .inl (0, x1)] d (tbk E 230 66 [.inr (11, x0), .inl (0, x1), .inl (0, x2), .inl (0, x3), tu] [] 0 0 K))) :
  tRun E 230 (61, [.inr (11, x0), .inl (0, x1), .inl (0, x2), .inl (0, x3), tu], [.inl (0, y1), .inl (0, y0)], 0, 0, d) K := tT_run (cut := [0, 8, 19, 33, 47, 56, 61, 69, 77]) 4 _ h
theorem t_230_69 {E : mO × tW} {K : tK} {d : mD} {x0 x1 x2 x3 y0 : Int}
  (h : tRun E 230 (77, [.inr (11, x0), .inl (0, x1), .inl (0, x2), .inl (0, x3), tu], [.inl (0, y0)], 0, 0, d) K) :
  tRun E 230 (69, [.inr (11, x0), .inl (0, x1), .inl (0, x2), .inl (0, x3), tu], [.inl (0, y0)], 0, 0, d) K := tT_run (cut := [0, 8, 19, 33, 47, 56, 61, 69, 77]) 1 _ h
theorem t_230_77 {E : mO × tW} {K : tK} {d : mD} {x0 x1 x2 x3 y0 : Int}
  (h : (mInR y0 ∧ mInR x3) ∧ (y0 ≤ x3 → K (.inl (some (0, 0))) d) ∧ (x3 < y0 → K (.inl (some (0, y0 - x3))) d)) :
  tRun E 230 (77, [.inr (11, x0), .inl (0, x1), .inl (0, x2), .inl (0, x3), tu], [.inl (0, y0)], 0, 0, d) K := tT_run (cut := [0, 8, 19, 33, 47, 56, 61, 69, 77]) 9 _ h
theorem t_231_0 {E : mO × tW} {K : tK} {d : mD} {x0 x1 x2 : Int}
  (h : tRun E 231 (5, [.inr (11, x0), .inl (0, x1), .inl (0, x2), .inl (0, 0), .inl (0, 0), tu], [], 0, 0, d) K) :
  tRun E 231 (0, [.inr (11, x0), .inl (0, x1), .inl (0, x2), tu, tu, tu], [], 0, 0, d) K := tT_run (cut := [0, 5, 32, 48, 59, 84, 95]) 4 _ h
theorem t_231_5 {E : mO × tW} {K : tK} {d : mD} {x0 x1 x2 x3 x4 : Int} {v5 : tV}
  (h : (0 ≤ (9 : Int) ∧ (9 : Int) < 3116) ∧ (mInR x4 ∧ mInR (d (x0 + 1) 9)) ∧ (d (x0 + 1) 9 ≤ x4 → K (.inl (some (0, x3))) d) ∧ (x4 < d (x0 + 1) 9 → (mInR x4 ∧ mInR x1) ∧ (x4 = x1 → mInR 0 ∧ ((0 : Int) = 0 → tRun E 231 (5, [.inr (11, x0), .inl (0, x1), .inl (0, x2), .inl (0, x3), .inl (0, x4 + 1), .inl (0, 0)], [], 0, 0, d) K) ∧ (¬ (0 : Int) = 0 → tCall E 230 [.inr (11, x0), .inl (0, x1), .inl (0, x4)] d (tbk E 231 81 [.inr (11, x0), .inl (0, x1), .inl (0, x2), .inl (0, x3), .inl (0, x4), .inl (0, 0)] [] 0 0 K))) ∧ (¬ x4 = x1 → tCall E 179 [.inl (0, x4)] d (tbk E 231 29 [.inr (11, x0), .inl (0, x1), .inl (0, x2), .inl (0, x3), .inl (0, x4), v5] [.inr (25, x0 + 1)] 0 0 K)))) :
  tRun E 231 (5, [.inr (11, x0), .inl (0, x1), .inl (0, x2), .inl (0, x3), .inl (0, x4), v5], [], 0, 0, d) K := tT_run (cut := [0, 5, 32, 48, 59, 84, 95]) 17 _ h
theorem t_231_32 {E : mO × tW} {K : tK} {d : mD} {x0 x1 x2 x3 x4 y0 y1 : Int} {v5 : tV}
  (h : (0 ≤ y1 + 0 ∧ y1 + 0 < 3116) ∧ (mInR (d y0 (y1 + 0)) ∧ mInR x2) ∧ (¬ d y0 (y1 + 0) = x2 → mInR 0 ∧ ((0 : Int) = 0 → tRun E 231 (5, [.inr (11, x0), .inl (0, x1), .inl (0, x2), .inl (0, x3), .inl (0, x4 + 1), .inl (0, 0)], [], 0, 0, d) K) ∧ (¬ (0 : Int) = 0 → tCall E 230 [.inr (11, x0), .inl (0, x1), .inl (0, x4)] d (tbk E 231 81 [.inr (11, x0), .inl (0, x1), .inl (0, x2), .inl (0, x3), .inl (0, x4), .inl (0, 0)] [] 0 0 K))) ∧ (d y0 (y1 + 0) = x2 → tCall E 179 [.inl (0, x4)] d (tbk E 231 45 [.inr (11, x0), .inl (0, x1), .inl (0, x2), .inl (0, x3), .inl (0, x4), v5] [.inr (25, x0 + 1)] 0 0 K))) :
  tRun E 231 (32, [.inr (11, x0), .inl (0, x1), .inl (0, x2), .inl (0, x3), .inl (0, x4), v5], [.inl (0, y1), .inr (25, y0)], 0, 0, d) K := tT_run (cut := [0, 5, 32, 48, 59, 84, 95]) 13 _ h
theorem t_231_48 {E : mO × tW} {K : tK} {d : mD} {x0 x1 x2 x3 x4 y0 y1 : Int} {v5 : tV}
  (h : (0 ≤ y1 + 1 ∧ y1 + 1 < 3116) ∧ tCall E 179 [.inl (0, x1)] d (tbk E 231 56 [.inr (11, x0), .inl (0, x1), .inl (0, x2), .inl (0, x3), .inl (0, x4), v5] [.inr (25, x0 + 1), .inl (0, d y0 (y1 + 1))] 0 0 K)) :
  tRun E 231 (48, [.inr (11, x0), .inl (0, x1), .inl (0, x2), .inl (0, x3), .inl (0, x4), v5], [.inl (0, y1), .inr (25, y0)], 0, 0, d) K := tT_run (cut := [0, 5, 32, 48, 59, 84, 95]) 7 _ h
theorem t_231_59 {E : mO × tW} {K : tK} {d : mD} {x0 x1 x2 x3 x4 y0 y1 y2 : Int} {v5 : tV}
  (h : (0 ≤ y2 + 1 ∧ y2 + 1 < 3116) ∧ (mInR y0 ∧ mInR (d y1 (y2 + 1))) ∧ (¬ y0 = d y1 (y2 + 1) → mInR 0 ∧ ((0 : Int) = 0 → tRun E 231 (5, [.inr (11, x0), .inl (0, x1), .inl (0, x2), .inl (0, x3), .inl (0, x4 + 1), .inl (0, 0)], [], 0, 0, d) K) ∧ (¬ (0 : Int) = 0 → tCall E 230 [.inr (11, x0), .inl (0, x1), .inl (0, x4)] d (tbk E 231 81 [.inr (11, x0), .inl (0, x1), .inl (0, x2), .inl (0, x3), .inl (0, x4), .inl (0, 0)] [] 0 0 K))) ∧ (y0 = d y1 (y2 + 1) → mInR 1 ∧ ((1 : Int) = 0 → tRun E 231 (5, [.inr (11, x0), .inl (0, x1), .inl (0, x2), .inl (0, x3), .inl (0, x4 + 1), .inl (0, 1)], [], 0, 0, d) K) ∧ (¬ (1 : Int) = 0 → tCall E 230 [.inr (11, x0), .inl (0, x1), .inl (0, x4)] d (tbk E 231 81 [.inr (11, x0), .inl (0, x1), .inl (0, x2), .inl (0, x3), .inl (0, x4), .inl (0, 1)] [] 0 0 K)))) :
  tRun E 231 (59, [.inr (11, x0), .inl (0, x1), .inl (0, x2), .inl (0, x3), .inl (0, x4), v5], [.inl (0, y2), .inr (25, y1), .inl (0, y0)], 0, 0, d) K := tT_run (cut := [0, 5, 32, 48, 59, 84, 95]) 13 _ h
theorem t_231_84 {E : mO × tW} {K : tK} {d : mD} {x0 x1 x2 x3 x4 x5 y0 : Int}
  (h : (mInR y0 ∧ mInR x3) ∧ (y0 ≤ x3 → tRun E 231 (5, [.inr (11, x0), .inl (0, x1), .inl (0, x2), .inl (0, x3), .inl (0, x4 + 1), .inl (0, x5)], [], 0, 0, d) K) ∧ (x3 < y0 → tCall E 230 [.inr (11, x0), .inl (0, x1), .inl (0, x4)] d (tbk E 231 92 [.inr (11, x0), .inl (0, x1), .inl (0, x2), .inl (0, x3), .inl (0, x4), .inl (0, x5)] [] 0 0 K))) :
  tRun E 231 (84, [.inr (11, x0), .inl (0, x1), .inl (0, x2), .inl (0, x3), .inl (0, x4), .inl (0, x5)], [.inl (0, y0)], 0, 0, d) K := tT_run (cut := [0, 5, 32, 48, 59, 84, 95]) 6 _ h
theorem t_231_95 {E : mO × tW} {K : tK} {d : mD} {x0 x1 x2 x3 x4 x5 y0 : Int}
  (h : tRun E 231 (5, [.inr (11, x0), .inl (0, x1), .inl (0, x2), .inl (0, y0), .inl (0, x4 + 1), .inl (0, x5)], [], 0, 0, d) K) :
  tRun E 231 (95, [.inr (11, x0), .inl (0, x1), .inl (0, x2), .inl (0, x3), .inl (0, x4), .inl (0, x5)], [.inl (0, y0)], 0, 0, d) K := tT_run (cut := [0, 5, 32, 48, 59, 84, 95]) 4 _ h
theorem t_232_0 {E : mO × tW} {K : tK} {d : mD} {x0 x1 x2 : Int}
  (h : tCall E 179 [.inl (0, x1)] d (tbk E 232 5 [.inr (11, x0), .inl (0, x1), .inl (0, x2), tu] [.inr (25, x0 + 1)] 0 0 K)) :
  tRun E 232 (0, [.inr (11, x0), .inl (0, x1), .inl (0, x2), tu], [], 0, 0, d) K := tT_run (cut := [0, 8]) 4 _ h
theorem t_232_8 {E : mO × tW} {K : tK} {d : mD} {x0 x1 x2 y0 y1 : Int}
  (h : (0 ≤ (y1 + 8) + x2 ∧ (y1 + 8) + x2 < 3116) ∧ mInR (d y0 ((y1 + 8) + x2)) ∧ (d y0 ((y1 + 8) + x2) ≤ 0 → ((0 : Int) = 0 ∨ (0 : Int) = 1) ∧ K (.inl (some (0, 0))) d) ∧ (0 < d y0 ((y1 + 8) + x2) → (0 ≤ (d y0 ((y1 + 8) + x2)) - 1 ∧ (d y0 ((y1 + 8) + x2)) - 1 ≤ 2147483647 ∧ 0 < (20 : Int) ∧ (20 : Int) ≤ 2147483647) ∧ (0 ≤ (0 : Int) ∧ (0 : Int) < 3116) ∧ (0 ≤ d (x0 + 1) 0 ∧ d (x0 + 1) 0 ≤ 2147483647 ∧ 0 < (20 : Int) ∧ (20 : Int) ≤ 2147483647) ∧ (mInR (((d y0 ((y1 + 8) + x2)) - 1) / 20) ∧ mInR ((d (x0 + 1) 0) / 20)) ∧ (¬ ((d y0 ((y1 + 8) + x2)) - 1) / 20 = (d (x0 + 1) 0) / 20 → ((0 : Int) = 0 ∨ (0 : Int) = 1) ∧ K (.inl (some (0, 0))) d) ∧ (((d y0 ((y1 + 8) + x2)) - 1) / 20 = (d (x0 + 1) 0) / 20 → ((1 : Int) = 0 ∨ (1 : Int) = 1) ∧ K (.inl (some (0, 1))) d))) :
  tRun E 232 (8, [.inr (11, x0), .inl (0, x1), .inl (0, x2), tu], [.inl (0, y1), .inr (25, y0)], 0, 0, d) K := tT_run (cut := [0, 8]) 23 _ h
theorem t_233_0 {E : mO × tW} {K : tK} {d : mD} {x0 x1 : Int}
  (h : tRun E 233 (4, [.inr (11, x0), .inl (0, x1), .inl (0, 0), .inl (0, 0)], [], 0, 0, d) K) :
  tRun E 233 (0, [.inr (11, x0), .inl (0, x1), tu, tu], [], 0, 0, d) K := tT_run (cut := [0, 4, 22]) 4 _ h
theorem t_233_4 {E : mO × tW} {K : tK} {d : mD} {x0 x1 x2 x3 : Int}
  (h : (0 ≤ (9 : Int) ∧ (9 : Int) < 3116) ∧ (mInR x3 ∧ mInR (d (x0 + 1) 9)) ∧ (d (x0 + 1) 9 ≤ x3 → K (.inl (some (0, x2))) d) ∧ (x3 < d (x0 + 1) 9 → tCall E 232 [.inr (11, x0), .inl (0, x3), .inl (0, x1)] d (tbk E 233 19 [.inr (11, x0), .inl (0, x1), .inl (0, x2), .inl (0, x3)] [.inl (0, x2)] 0 0 K))) :
  tRun E 233 (4, [.inr (11, x0), .inl (0, x1), .inl (0, x2), .inl (0, x3)], [], 0, 0, d) K := tT_run (cut := [0, 4, 22]) 11 _ h
theorem t_233_22 {E : mO × tW} {K : tK} {d : mD} {x0 x1 x2 x3 y0 y1 : Int}
  (h : mInR y1 ∧ (y1 = 0 → tRun E 233 (4, [.inr (11, x0), .inl (0, x1), .inl (0, y0 + 0), .inl (0, x3 + 1)], [], 0, 0, d) K) ∧ (¬ y1 = 0 → tRun E 233 (4, [.inr (11, x0), .inl (0, x1), .inl (0, y0 + 1), .inl (0, x3 + 1)], [], 0, 0, d) K)) :
  tRun E 233 (22, [.inr (11, x0), .inl (0, x1), .inl (0, x2), .inl (0, x3)], [.inl (0, y1), .inl (0, y0)], 0, 0, d) K := tT_run (cut := [0, 4, 22]) 7 _ h
theorem t_234_0 {E : mO × tW} {K : tK} {d : mD} {x0 x1 x2 : Int}
  (h : tCall E 179 [.inl (0, x1)] d (tbk E 234 1 [.inr (11, x0), .inl (0, x1), .inl (0, x2), tu, tu, tu] [] 0 0 K)) :
  tRun E 234 (0, [.inr (11, x0), .inl (0, x1), .inl (0, x2), tu, tu, tu], [], 0, 0, d) K := tT_run (cut := [0, 4, 68, 84, 97, 120, 141]) 2 _ h
theorem t_234_4 {E : mO × tW} {K : tK} {d : mD} {x0 x1 x2 y0 : Int}
  (h : (0 ≤ y0 + 5 ∧ y0 + 5 < 3116) ∧ mInR (d (x0 + 1) (y0 + 5)) ∧ (¬ d (x0 + 1) (y0 + 5) = 0 → (0 ≤ y0 + 6 ∧ y0 + 6 < 3116) ∧ mInR (d (x0 + 1) (y0 + 6)) ∧ (d (x0 + 1) (y0 + 6) = 0 → (0 ≤ y0 + 0 ∧ y0 + 0 < 3116) ∧ (mInR (d (x0 + 1) (y0 + 0)) ∧ mInR x2) ∧ (¬ d (x0 + 1) (y0 + 0) = x2 → (0 ≤ (y0 + 8) + x2 ∧ (y0 + 8) + x2 < 3116) ∧ mInR (d (x0 + 1) ((y0 + 8) + x2)) ∧ (d (x0 + 1) ((y0 + 8) + x2) = 0 → tCall E 231 [.inr (11, x0), .inl (0, x1), .inl (0, x2)] d (tbk E 234 65 [.inr (11, x0), .inl (0, x1), .inl (0, x2), .inl (0, y0), tu, tu] [] 0 0 K)) ∧ (¬ d (x0 + 1) ((y0 + 8) + x2) = 0 → K (.inl (some (0, 4))) d)) ∧ (d (x0 + 1) (y0 + 0) = x2 → K (.inl (some (0, 3))) d)) ∧ (¬ d (x0 + 1) (y0 + 6) = 0 → K (.inl (some (0, 2))) d)) ∧ (d (x0 + 1) (y0 + 5) = 0 → K (.inl (some (0, 1))) d)) :
  tRun E 234 (4, [.inr (11, x0), .inl (0, x1), .inl (0, x2), tu, tu, tu], [.inl (0, y0)], 0, 0, d) K := tT_run (cut := [0, 4, 68, 84, 97, 120, 141]) 36 _ h
theorem t_234_68 {E : mO × tW} {K : tK} {d : mD} {x0 x1 x2 x3 y0 : Int}
  (h : (0 ≤ (4 : Int) ∧ (4 : Int) < 3116) ∧ (mInR y0 ∧ mInR (d (x0 + 1) 4)) ∧ (d (x0 + 1) 4 ≤ y0 → tCall E 233 [.inr (11, x0), .inl (0, x2)] d (tbk E 234 81 [.inr (11, x0), .inl (0, x1), .inl (0, x2), .inl (0, x3), tu, tu] [] 0 0 K)) ∧ (y0 < d (x0 + 1) 4 → K (.inl (some (0, 5))) d)) :
  tRun E 234 (68, [.inr (11, x0), .inl (0, x1), .inl (0, x2), .inl (0, x3), tu, tu], [.inl (0, y0)], 0, 0, d) K := tT_run (cut := [0, 4, 68, 84, 97, 120, 141]) 8 _ h
theorem t_234_84 {E : mO × tW} {K : tK} {d : mD} {x0 x1 x2 x3 y0 : Int}
  (h : (mInR y0 ∧ mInR 3) ∧ (y0 < 3 → tRun E 234 (97, [.inr (11, x0), .inl (0, x1), .inl (0, x2), .inl (0, x3), .inl (0, 0), .inl (0, 0)], [], 0, 0, d) K) ∧ (3 ≤ y0 → K (.inl (some (0, 6))) d)) :
  tRun E 234 (84, [.inr (11, x0), .inl (0, x1), .inl (0, x2), .inl (0, x3), tu, tu], [.inl (0, y0)], 0, 0, d) K := tT_run (cut := [0, 4, 68, 84, 97, 120, 141]) 6 _ h
theorem t_234_97 {E : mO × tW} {K : tK} {d : mD} {x0 x1 x2 x3 x4 x5 : Int}
  (h : (0 ≤ (9 : Int) ∧ (9 : Int) < 3116) ∧ (mInR x5 ∧ mInR (d (x0 + 1) 9)) ∧ (d (x0 + 1) 9 ≤ x5 → mInR x4 ∧ (x4 = 0 → K (.inl (some (0, 0))) d) ∧ (¬ x4 = 0 → K (.inl (some (0, 7))) d)) ∧ (x5 < d (x0 + 1) 9 → tCall E 179 [.inl (0, x5)] d (tbk E 234 117 [.inr (11, x0), .inl (0, x1), .inl (0, x2), .inl (0, x3), .inl (0, x4), .inl (0, x5)] [.inr (25, x0 + 1), .inl (0, x4)] 0 0 K))) :
  tRun E 234 (97, [.inr (11, x0), .inl (0, x1), .inl (0, x2), .inl (0, x3), .inl (0, x4), .inl (0, x5)], [], 0, 0, d) K := tT_run (cut := [0, 4, 68, 84, 97, 120, 141]) 11 _ h
theorem t_234_120 {E : mO × tW} {K : tK} {d : mD} {x0 x1 x2 x3 x4 x5 y0 y1 y2 : Int}
  (h : (0 ≤ y2 + 0 ∧ y2 + 0 < 3116) ∧ (mInR (d y1 (y2 + 0)) ∧ mInR x2) ∧ (¬ d y1 (y2 + 0) = x2 → tRun E 234 (97, [.inr (11, x0), .inl (0, x1), .inl (0, x2), .inl (0, x3), .inl (0, mior y0 0), .inl (0, x5 + 1)], [], 0, 0, d) K) ∧ (d y1 (y2 + 0) = x2 → (0 ≤ x3 + 0 ∧ x3 + 0 < 3116) ∧ tCall E 232 [.inr (11, x0), .inl (0, x5), .inl (0, d (x0 + 1) (x3 + 0))] d (tbk E 234 138 [.inr (11, x0), .inl (0, x1), .inl (0, x2), .inl (0, x3), .inl (0, x4), .inl (0, x5)] [.inl (0, y0)] 0 0 K))) :
  tRun E 234 (120, [.inr (11, x0), .inl (0, x1), .inl (0, x2), .inl (0, x3), .inl (0, x4), .inl (0, x5)], [.inl (0, y2), .inr (25, y1), .inl (0, y0)], 0, 0, d) K := tT_run (cut := [0, 4, 68, 84, 97, 120, 141]) 14 _ h
theorem t_234_141 {E : mO × tW} {K : tK} {d : mD} {x0 x1 x2 x3 x4 x5 y0 y1 : Int}
  (h : mInR y1 ∧ (y1 = 0 → tRun E 234 (97, [.inr (11, x0), .inl (0, x1), .inl (0, x2), .inl (0, x3), .inl (0, mior y0 0), .inl (0, x5 + 1)], [], 0, 0, d) K) ∧ (¬ y1 = 0 → tRun E 234 (97, [.inr (11, x0), .inl (0, x1), .inl (0, x2), .inl (0, x3), .inl (0, mior y0 1), .inl (0, x5 + 1)], [], 0, 0, d) K)) :
  tRun E 234 (141, [.inr (11, x0), .inl (0, x1), .inl (0, x2), .inl (0, x3), .inl (0, x4), .inl (0, x5)], [.inl (0, y1), .inl (0, y0)], 0, 0, d) K := tT_run (cut := [0, 4, 68, 84, 97, 120, 141]) 7 _ h
theorem t_235_0 {E : mO × tW} {K : tK} {d : mD} {x0 x1 x2 : Int}
  (h : tCall E 179 [.inl (0, x1)] d (tbk E 235 1 [.inr (11, x0), .inl (0, x1), .inl (0, x2), tu] [] 0 0 K)) :
  tRun E 235 (0, [.inr (11, x0), .inl (0, x1), .inl (0, x2), tu], [], 0, 0, d) K := tT_run (cut := [0, 4, 72]) 2 _ h
theorem t_235_4 {E : mO × tW} {K : tK} {d : mD} {x0 x1 x2 y0 : Int}
  (h : (0 ≤ (0 : Int) ∧ (0 : Int) < 3116) ∧ (0 ≤ (y0 + 8) + x2 ∧ (y0 + 8) + x2 < 3116) ∧ (0 ≤ y0 + 7 ∧ y0 + 7 < 3116) ∧ (0 ≤ y0 + 7 ∧ y0 + 7 < 3116) ∧ (0 ≤ y0 + 7 ∧ y0 + 7 < 3116) ∧ (0 ≤ (3 : Int) ∧ (3 : Int) < 3116) ∧ (mInR ((mset (mset d (x0 + 1) ((y0 + 8) + x2) ((d (x0 + 1) 0) + 1)) (x0 + 1) (y0 + 7) (((mset d (x0 + 1) ((y0 + 8) + x2) ((d (x0 + 1) 0) + 1)) (x0 + 1) (y0 + 7)) + 1)) (x0 + 1) (y0 + 7)) ∧ mInR ((mset (mset d (x0 + 1) ((y0 + 8) + x2) ((d (x0 + 1) 0) + 1)) (x0 + 1) (y0 + 7) (((mset d (x0 + 1) ((y0 + 8) + x2) ((d (x0 + 1) 0) + 1)) (x0 + 1) (y0 + 7)) + 1)) (x0 + 1) 3)) ∧ ((mset (mset d (x0 + 1) ((y0 + 8) + x2) ((d (x0 + 1) 0) + 1)) (x0 + 1) (y0 + 7) (((mset d (x0 + 1) ((y0 + 8) + x2) ((d (x0 + 1) 0) + 1)) (x0 + 1) (y0 + 7)) + 1)) (x0 + 1) 3 ≤ (mset (mset d (x0 + 1) ((y0 + 8) + x2) ((d (x0 + 1) 0) + 1)) (x0 + 1) (y0 + 7) (((mset d (x0 + 1) ((y0 + 8) + x2) ((d (x0 + 1) 0) + 1)) (x0 + 1) (y0 + 7)) + 1)) (x0 + 1) (y0 + 7) → (0 ≤ y0 + 6 ∧ y0 + 6 < 3116) ∧ tCall E 218 [.inr (11, x0), .inl (0, x1)] (mset (mset (mset d (x0 + 1) ((y0 + 8) + x2) ((d (x0 + 1) 0) + 1)) (x0 + 1) (y0 + 7) (((mset d (x0 + 1) ((y0 + 8) + x2) ((d (x0 + 1) 0) + 1)) (x0 + 1) (y0 + 7)) + 1)) (x0 + 1) (y0 + 6) 1) (tbk E 235 69 [.inr (11, x0), .inl (0, x1), .inl (0, x2), .inl (0, y0)] [] 0 0 K)) ∧ ((mset (mset d (x0 + 1) ((y0 + 8) + x2) ((d (x0 + 1) 0) + 1)) (x0 + 1) (y0 + 7) (((mset d (x0 + 1) ((y0 + 8) + x2) ((d (x0 + 1) 0) + 1)) (x0 + 1) (y0 + 7)) + 1)) (x0 + 1) (y0 + 7) < (mset (mset d (x0 + 1) ((y0 + 8) + x2) ((d (x0 + 1) 0) + 1)) (x0 + 1) (y0 + 7) (((mset d (x0 + 1) ((y0 + 8) + x2) ((d (x0 + 1) 0) + 1)) (x0 + 1) (y0 + 7)) + 1)) (x0 + 1) 3 → K (.inl (some (0, 0))) (mset (mset d (x0 + 1) ((y0 + 8) + x2) ((d (x0 + 1) 0) + 1)) (x0 + 1) (y0 + 7) (((mset d (x0 + 1) ((y0 + 8) + x2) ((d (x0 + 1) 0) + 1)) (x0 + 1) (y0 + 7)) + 1)))) :
  tRun E 235 (4, [.inr (11, x0), .inl (0, x1), .inl (0, x2), tu], [.inl (0, y0)], 0, 0, d) K := tT_run (cut := [0, 4, 72]) 46 _ h
theorem t_235_72 {E : mO × tW} {K : tK} {d : mD} {x0 x1 x2 x3 y0 : Int}
  (h : K (.inl (some (0, y0))) d) :
  tRun E 235 (72, [.inr (11, x0), .inl (0, x1), .inl (0, x2), .inl (0, x3)], [.inl (0, y0)], 0, 0, d) K := tT_run (cut := [0, 4, 72]) 1 _ h
theorem t_236_0 {E : mO × tW} {K : tK} {d : mD} {x0 x1 : Int}
  (h : mInR x1 ∧ (0 ≤ (7 : Int) ∧ (7 : Int) < 3116) ∧ mInR ((d (x0 + 1) 7) - 1) ∧ tCall E 176 [.inl (1, x1), .inl (1, 0), .inl (1, (d (x0 + 1) 7) - 1)] d (tbk E 236 13 [.inr (11, x0), .inl (0, x1)] [] 0 0 K)) :
  tRun E 236 (0, [.inr (11, x0), .inl (0, x1)], [], 0, 0, d) K := tT_run (cut := [0, 16]) 11 _ h
theorem t_236_16 {E : mO × tW} {K : tK} {d : mD} {x0 x1 y0 : Int}
  (h : (y0 = 0 ∨ y0 = 1) ∧ K (.inl (some (0, y0))) d) :
  tRun E 236 (16, [.inr (11, x0), .inl (0, x1)], [.inl (0, y0)], 0, 0, d) K := tT_run (cut := [0, 16]) 1 _ h
theorem t_237_0 {E : mO × tW} {K : tK} {d : mD} {x0 x1 : Int}
  (h : mInR x1 ∧ (0 ≤ (8 : Int) ∧ (8 : Int) < 3116) ∧ mInR ((d (x0 + 1) 8) - 1) ∧ tCall E 176 [.inl (1, x1), .inl (1, 0), .inl (1, (d (x0 + 1) 8) - 1)] d (tbk E 237 13 [.inr (11, x0), .inl (0, x1)] [] 0 0 K)) :
  tRun E 237 (0, [.inr (11, x0), .inl (0, x1)], [], 0, 0, d) K := tT_run (cut := [0, 16]) 11 _ h
theorem t_237_16 {E : mO × tW} {K : tK} {d : mD} {x0 x1 y0 : Int}
  (h : (y0 = 0 ∨ y0 = 1) ∧ K (.inl (some (0, y0))) d) :
  tRun E 237 (16, [.inr (11, x0), .inl (0, x1)], [.inl (0, y0)], 0, 0, d) K := tT_run (cut := [0, 16]) 1 _ h
theorem t_238_0 {E : mO × tW} {K : tK} {d : mD} {x0 x1 : Int}
  (h : mInR x1 ∧ (0 ≤ (9 : Int) ∧ (9 : Int) < 3116) ∧ mInR ((d (x0 + 1) 9) - 1) ∧ tCall E 176 [.inl (1, x1), .inl (1, 0), .inl (1, (d (x0 + 1) 9) - 1)] d (tbk E 238 13 [.inr (11, x0), .inl (0, x1)] [] 0 0 K)) :
  tRun E 238 (0, [.inr (11, x0), .inl (0, x1)], [], 0, 0, d) K := tT_run (cut := [0, 16]) 11 _ h
theorem t_238_16 {E : mO × tW} {K : tK} {d : mD} {x0 x1 y0 : Int}
  (h : (y0 = 0 ∨ y0 = 1) ∧ K (.inl (some (0, y0))) d) :
  tRun E 238 (16, [.inr (11, x0), .inl (0, x1)], [.inl (0, y0)], 0, 0, d) K := tT_run (cut := [0, 16]) 1 _ h
theorem t_239_0 {E : mO × tW} {K : tK} {d : mD} {x0 x1 : Int}
  (h : mInR x1 ∧ tCall E 176 [.inl (1, x1), .inl (1, 0), .inl (1, 12)] d (tbk E 239 7 [.inr (11, x0), .inl (0, x1), tu, tu, tu, tu, tu] [.inr (11, x0)] 0 0 K)) :
  tRun E 239 (0, [.inr (11, x0), .inl (0, x1), tu, tu, tu, tu, tu], [], 0, 0, d) K := tT_run (cut := [0, 10, 40, 57, 139, 162]) 6 _ h
theorem t_239_10 {E : mO × tW} {K : tK} {d : mD} {x0 x1 y0 y1 : Int}
  (h : mInR y1 ∧ (y1 = 0 → mInR ((mset d y0 0 1) x0 0) ∧ ((mset d y0 0 1) x0 0 ≤ 0 → tRun E 239 (40, [.inr (11, x0), .inl (0, x1), .inl (0, 0), .inl (0, 0), .inl (0, 0), .inl (0, 0), tu], [], 0, 0, mset d y0 0 1) K) ∧ (0 < (mset d y0 0 1) x0 0 → K (.inl (some (0, 0))) (mset d y0 0 1))) ∧ (¬ y1 = 0 → mInR ((mset d y0 0 0) x0 0) ∧ ((mset d y0 0 0) x0 0 ≤ 0 → tRun E 239 (40, [.inr (11, x0), .inl (0, x1), .inl (0, 0), .inl (0, 0), .inl (0, 0), .inl (0, 0), tu], [], 0, 0, mset d y0 0 0) K) ∧ (0 < (mset d y0 0 0) x0 0 → K (.inl (some (0, 0))) (mset d y0 0 0)))) :
  tRun E 239 (10, [.inr (11, x0), .inl (0, x1), tu, tu, tu, tu, tu], [.inl (0, y1), .inr (11, y0)], 0, 0, d) K := tT_run (cut := [0, 10, 40, 57, 139, 162]) 15 _ h
theorem t_239_40 {E : mO × tW} {K : tK} {d : mD} {x0 x1 x2 x3 x4 x5 : Int} {v6 : tV}
  (h : (0 ≤ (9 : Int) ∧ (9 : Int) < 3116) ∧ (mInR x5 ∧ mInR (d (x0 + 1) 9)) ∧ (d (x0 + 1) 9 ≤ x5 → tRun E 239 (139, [.inr (11, x0), .inl (0, x1), .inl (0, x2), .inl (0, x3), .inl (0, x4), .inl (0, 0), .inl (0, 0)], [], 0, 0, d) K) ∧ (x5 < d (x0 + 1) 9 → tCall E 179 [.inl (0, x5)] d (tbk E 239 54 [.inr (11, x0), .inl (0, x1), .inl (0, x2), .inl (0, x3), .inl (0, x4), .inl (0, x5), v6] [] 0 0 K))) :
  tRun E 239 (40, [.inr (11, x0), .inl (0, x1), .inl (0, x2), .inl (0, x3), .inl (0, x4), .inl (0, x5), v6], [], 0, 0, d) K := tT_run (cut := [0, 10, 40, 57, 139, 162]) 10 _ h
theorem t_239_57 {E : mO × tW} {K : tK} {d : mD} {x0 x1 x2 x3 x4 x5 y0 : Int} {v6 : tV}
  (h : (0 ≤ y0 + 4 ∧ y0 + 4 < 3116) ∧ mInR (d (x0 + 1) (y0 + 4)) ∧ (¬ d (x0 + 1) (y0 + 4) = 0 → (0 ≤ y0 + 5 ∧ y0 + 5 < 3116) ∧ mInR (d (x0 + 1) (y0 + 5)) ∧ (d (x0 + 1) (y0 + 5) = 0 → (0 ≤ y0 + 6 ∧ y0 + 6 < 3116) ∧ tRun E 239 (40, [.inr (11, x0), .inl (0, x1), .inl (0, x2 + 0), .inl (0, x3 + 0), .inl (0, x4 + (d (x0 + 1) (y0 + 6))), .inl (0, x5 + 1), .inl (0, y0)], [], 0, 0, d) K) ∧ (¬ d (x0 + 1) (y0 + 5) = 0 → (0 ≤ y0 + 6 ∧ y0 + 6 < 3116) ∧ mInR (d (x0 + 1) (y0 + 6)) ∧ (¬ d (x0 + 1) (y0 + 6) = 0 → (0 ≤ y0 + 6 ∧ y0 + 6 < 3116) ∧ tRun E 239 (40, [.inr (11, x0), .inl (0, x1), .inl (0, x2 + 0), .inl (0, x3 + 0), .inl (0, x4 + (d (x0 + 1) (y0 + 6))), .inl (0, x5 + 1), .inl (0, y0)], [], 0, 0, d) K) ∧ (d (x0 + 1) (y0 + 6) = 0 → (0 ≤ y0 + 6 ∧ y0 + 6 < 3116) ∧ tRun E 239 (40, [.inr (11, x0), .inl (0, x1), .inl (0, x2 + 0), .inl (0, x3 + 1), .inl (0, x4 + (d (x0 + 1) (y0 + 6))), .inl (0, x5 + 1), .inl (0, y0)], [], 0, 0, d) K))) ∧ (d (x0 + 1) (y0 + 4) = 0 → (0 ≤ y0 + 5 ∧ y0 + 5 < 3116) ∧ mInR (d (x0 + 1) (y0 + 5)) ∧ (d (x0 + 1) (y0 + 5) = 0 → (0 ≤ y0 + 6 ∧ y0 + 6 < 3116) ∧ tRun E 239 (40, [.inr (11, x0), .inl (0, x1), .inl (0, x2 + 1), .inl (0, x3 + 0), .inl (0, x4 + (d (x0 + 1) (y0 + 6))), .inl (0, x5 + 1), .inl (0, y0)], [], 0, 0, d) K) ∧ (¬ d (x0 + 1) (y0 + 5) = 0 → (0 ≤ y0 + 6 ∧ y0 + 6 < 3116) ∧ mInR (d (x0 + 1) (y0 + 6)) ∧ (¬ d (x0 + 1) (y0 + 6) = 0 → (0 ≤ y0 + 6 ∧ y0 + 6 < 3116) ∧ tRun E 239 (40, [.inr (11, x0), .inl (0, x1), .inl (0, x2 + 1), .inl (0, x3 + 0), .inl (0, x4 + (d (x0 + 1) (y0 + 6))), .inl (0, x5 + 1), .inl (0, y0)], [], 0, 0, d) K) ∧ (d (x0 + 1) (y0 + 6) = 0 → (0 ≤ y0 + 6 ∧ y0 + 6 < 3116) ∧ tRun E 239 (40, [.inr (11, x0), .inl (0, x1), .inl (0, x2 + 1), .inl (0, x3 + 1), .inl (0, x4 + (d (x0 + 1) (y0 + 6))), .inl (0, x5 + 1), .inl (0, y0)], [], 0, 0, d) K)))) :
  tRun E 239 (57, [.inr (11, x0), .inl (0, x1), .inl (0, x2), .inl (0, x3), .inl (0, x4), .inl (0, x5), v6], [.inl (0, y0)], 0, 0, d) K := tT_run (cut := [0, 10, 40, 57, 139, 162]) 43 _ h
theorem t_239_139 {E : mO × tW} {K : tK} {d : mD} {x0 x1 x2 x3 x4 x5 x6 : Int}
  (h : (0 ≤ (10 : Int) ∧ (10 : Int) < 3116) ∧ (mInR x6 ∧ mInR (d (x0 + 1) 10)) ∧ (d (x0 + 1) 10 ≤ x6 → mInR x1 ∧ (x1 = 0 → (0 ≤ (7 : Int) ∧ (7 : Int) < 3116) ∧ K (.inl (some (0, d (x0 + 1) 7))) d) ∧ (x1 = 1 → (0 ≤ (8 : Int) ∧ (8 : Int) < 3116) ∧ K (.inl (some (0, d (x0 + 1) 8))) d) ∧ (x1 = 2 → (0 ≤ (9 : Int) ∧ (9 : Int) < 3116) ∧ K (.inl (some (0, d (x0 + 1) 9))) d) ∧ (x1 = 3 → (0 ≤ (0 : Int) ∧ (0 : Int) < 3116) ∧ K (.inl (some (0, d (x0 + 1) 0))) d) ∧ (x1 = 4 → (0 ≤ (0 : Int) ∧ (0 : Int) < 3116) ∧ (0 ≤ d (x0 + 1) 0 ∧ d (x0 + 1) 0 ≤ 2147483647 ∧ 0 < (20 : Int) ∧ (20 : Int) ≤ 2147483647) ∧ K (.inl (some (0, 20 - ((d (x0 + 1) 0) % 20)))) d) ∧ (x1 = 5 → K (.inl (some (0, x2))) d) ∧ (x1 = 6 → K (.inl (some (0, x3))) d) ∧ (x1 = 7 → K (.inl (some (0, x4))) d) ∧ (x1 = 8 → (0 ≤ (10 : Int) ∧ (10 : Int) < 3116) ∧ K (.inl (some (0, d (x0 + 1) 10))) d) ∧ (x1 = 9 → (0 ≤ (11 : Int) ∧ (11 : Int) < 3116) ∧ K (.inl (some (0, d (x0 + 1) 11))) d) ∧ (x1 = 10 → K (.inl (some (0, x5))) d) ∧ (x1 = 11 → (0 ≤ (1 : Int) ∧ (1 : Int) < 3116) ∧ K (.inl (some (0, d (x0 + 1) 1))) d) ∧ (x1 < 0 ∨ 11 < x1 → K (.inl (some (0, d x0 7))) d)) ∧ (x6 < d (x0 + 1) 10 → tCall E 180 [.inl (0, x6)] d (tbk E 239 159 [.inr (11, x0), .inl (0, x1), .inl (0, x2), .inl (0, x3), .inl (0, x4), .inl (0, x5), .inl (0, x6)] [.inr (25, x0 + 1), .inl (0, x5)] 0 0 K))) :
  tRun E 239 (139, [.inr (11, x0), .inl (0, x1), .inl (0, x2), .inl (0, x3), .inl (0, x4), .inl (0, x5), .inl (0, x6)], [], 0, 0, d) K := tT_run (cut := [0, 10, 40, 57, 139, 162]) 17 _ h
theorem t_239_162 {E : mO × tW} {K : tK} {d : mD} {x0 x1 x2 x3 x4 x5 x6 y0 y1 y2 : Int}
  (h : (0 ≤ y2 + 3 ∧ y2 + 3 < 3116) ∧ (mInR (d y1 (y2 + 3)) ∧ mInR 2) ∧ (¬ d y1 (y2 + 3) = 2 → tRun E 239 (139, [.inr (11, x0), .inl (0, x1), .inl (0, x2), .inl (0, x3), .inl (0, x4), .inl (0, y0 + 0), .inl (0, x6 + 1)], [], 0, 0, d) K) ∧ (d y1 (y2 + 3) = 2 → tRun E 239 (139, [.inr (11, x0), .inl (0, x1), .inl (0, x2), .inl (0, x3), .inl (0, x4), .inl (0, y0 + 1), .inl (0, x6 + 1)], [], 0, 0, d) K)) :
  tRun E 239 (162, [.inr (11, x0), .inl (0, x1), .inl (0, x2), .inl (0, x3), .inl (0, x4), .inl (0, x5), .inl (0, x6)], [.inl (0, y2), .inr (25, y1), .inl (0, y0)], 0, 0, d) K := tT_run (cut := [0, 10, 40, 57, 139, 162]) 11 _ h
theorem t_240_0 {E : mO × tW} {K : tK} {d : mD} {x0 x1 : Int}
  (h : mInR x1 ∧ tCall E 176 [.inl (1, x1), .inl (1, 0), .inl (1, 4)] d (tbk E 240 7 [.inr (11, x0), .inl (0, x1)] [.inr (11, x0)] 0 0 K)) :
  tRun E 240 (0, [.inr (11, x0), .inl (0, x1)], [], 0, 0, d) K := tT_run (cut := [0, 10]) 6 _ h
theorem t_240_10 {E : mO × tW} {K : tK} {d : mD} {x0 x1 y0 y1 : Int}
  (h : mInR y1 ∧ (y1 = 0 → mInR ((mset d y0 0 1) x0 0) ∧ ((mset d y0 0 1) x0 0 ≤ 0 → (0 ≤ 2 + x1 ∧ 2 + x1 < 3116) ∧ K (.inl (some (0, (mset d y0 0 1) (x0 + 1) (2 + x1)))) (mset d y0 0 1)) ∧ (0 < (mset d y0 0 1) x0 0 → K (.inl (some (0, 0))) (mset d y0 0 1))) ∧ (¬ y1 = 0 → mInR ((mset d y0 0 0) x0 0) ∧ ((mset d y0 0 0) x0 0 ≤ 0 → (0 ≤ 2 + x1 ∧ 2 + x1 < 3116) ∧ K (.inl (some (0, (mset d y0 0 0) (x0 + 1) (2 + x1)))) (mset d y0 0 0)) ∧ (0 < (mset d y0 0 0) x0 0 → K (.inl (some (0, 0))) (mset d y0 0 0)))) :
  tRun E 240 (10, [.inr (11, x0), .inl (0, x1)], [.inl (0, y1), .inr (11, y0)], 0, 0, d) K := tT_run (cut := [0, 10]) 14 _ h
theorem t_241_0 {E : mO × tW} {K : tK} {d : mD} {x0 x1 x2 : Int}
  (h : tCall E 236 [.inr (11, x0), .inl (0, x1)] d (tbk E 241 3 [.inr (11, x0), .inl (0, x1), .inl (0, x2)] [.inr (11, x0)] 0 0 K)) :
  tRun E 241 (0, [.inr (11, x0), .inl (0, x1), .inl (0, x2)], [], 0, 0, d) K := tT_run (cut := [0, 6, 22, 52]) 4 _ h
theorem t_241_6 {E : mO × tW} {K : tK} {d : mD} {x0 x1 x2 y0 y1 : Int}
  (h : mInR y1 ∧ (¬ y1 = 0 → mInR x2 ∧ tCall E 176 [.inl (1, x2), .inl (1, 0), .inl (1, 5)] d (tbk E 241 19 [.inr (11, x0), .inl (0, x1), .inl (0, x2)] [.inr (11, y0)] 0 0 K)) ∧ (y1 = 0 → mInR ((mset d y0 0 1) x0 0) ∧ ((mset d y0 0 1) x0 0 ≤ 0 → tCall E 177 [.inl (0, x1)] (mset d y0 0 1) (tbk E 241 49 [.inr (11, x0), .inl (0, x1), .inl (0, x2)] [.inr (25, x0 + 1)] 0 0 K)) ∧ (0 < (mset d y0 0 1) x0 0 → K (.inl (some (0, 0))) (mset d y0 0 1)))) :
  tRun E 241 (6, [.inr (11, x0), .inl (0, x1), .inl (0, x2)], [.inl (0, y1), .inr (11, y0)], 0, 0, d) K := tT_run (cut := [0, 6, 22, 52]) 11 _ h
theorem t_241_22 {E : mO × tW} {K : tK} {d : mD} {x0 x1 x2 y0 y1 : Int}
  (h : mInR y1 ∧ (y1 = 0 → mInR ((mset d y0 0 2) x0 0) ∧ ((mset d y0 0 2) x0 0 ≤ 0 → tCall E 177 [.inl (0, x1)] (mset d y0 0 2) (tbk E 241 49 [.inr (11, x0), .inl (0, x1), .inl (0, x2)] [.inr (25, x0 + 1)] 0 0 K)) ∧ (0 < (mset d y0 0 2) x0 0 → K (.inl (some (0, 0))) (mset d y0 0 2))) ∧ (¬ y1 = 0 → mInR ((mset d y0 0 0) x0 0) ∧ ((mset d y0 0 0) x0 0 ≤ 0 → tCall E 177 [.inl (0, x1)] (mset d y0 0 0) (tbk E 241 49 [.inr (11, x0), .inl (0, x1), .inl (0, x2)] [.inr (25, x0 + 1)] 0 0 K)) ∧ (0 < (mset d y0 0 0) x0 0 → K (.inl (some (0, 0))) (mset d y0 0 0)))) :
  tRun E 241 (22, [.inr (11, x0), .inl (0, x1), .inl (0, x2)], [.inl (0, y1), .inr (11, y0)], 0, 0, d) K := tT_run (cut := [0, 6, 22, 52]) 11 _ h
theorem t_241_52 {E : mO × tW} {K : tK} {d : mD} {x0 x1 x2 y0 y1 : Int}
  (h : (0 ≤ (y1 + 1) + x2 ∧ (y1 + 1) + x2 < 3116) ∧ K (.inl (some (0, d y0 ((y1 + 1) + x2)))) d) :
  tRun E 241 (52, [.inr (11, x0), .inl (0, x1), .inl (0, x2)], [.inl (0, y1), .inr (25, y0)], 0, 0, d) K := tT_run (cut := [0, 6, 22, 52]) 6 _ h
theorem t_242_0 {E : mO × tW} {K : tK} {d : mD} {x0 x1 x2 : Int}
  (h : tCall E 236 [.inr (11, x0), .inl (0, x1)] d (tbk E 242 3 [.inr (11, x0), .inl (0, x1), .inl (0, x2)] [.inr (11, x0)] 0 0 K)) :
  tRun E 242 (0, [.inr (11, x0), .inl (0, x1), .inl (0, x2)], [], 0, 0, d) K := tT_run (cut := [0, 6, 20, 29, 59]) 4 _ h
theorem t_242_6 {E : mO × tW} {K : tK} {d : mD} {x0 x1 x2 y0 y1 : Int}
  (h : mInR y1 ∧ (y1 = 0 → mInR ((mset d y0 0 1) x0 0) ∧ ((mset d y0 0 1) x0 0 ≤ 0 → tCall E 177 [.inl (0, x1)] (mset d y0 0 1) (tbk E 242 56 [.inr (11, x0), .inl (0, x1), .inl (0, x2)] [.inr (25, x0 + 1)] 0 0 K)) ∧ (0 < (mset d y0 0 1) x0 0 → K (.inl (some (0, 0))) (mset d y0 0 1))) ∧ (¬ y1 = 0 → mInR x2 ∧ tCall E 177 [.inl (0, x1)] d (tbk E 242 17 [.inr (11, x0), .inl (0, x1), .inl (0, x2)] [.inr (25, x0 + 1), .inl (1, 0), .inl (1, x2), .inr (11, y0)] 0 0 K))) :
  tRun E 242 (6, [.inr (11, x0), .inl (0, x1), .inl (0, x2)], [.inl (0, y1), .inr (11, y0)], 0, 0, d) K := tT_run (cut := [0, 6, 20, 29, 59]) 10 _ h
theorem t_242_20 {E : mO × tW} {K : tK} {d : mD} {x0 x1 x2 y0 y1 y2 y3 y4 : Int}
  (h : (0 ≤ y4 + 5 ∧ y4 + 5 < 3116) ∧ mInR ((d y3 (y4 + 5)) - 1) ∧ tCall E 176 [.inl (1, y1), .inl (1, y2), .inl (1, (d y3 (y4 + 5)) - 1)] d (tbk E 242 26 [.inr (11, x0), .inl (0, x1), .inl (0, x2)] [.inr (11, y0)] 0 0 K)) :
  tRun E 242 (20, [.inr (11, x0), .inl (0, x1), .inl (0, x2)], [.inl (0, y4), .inr (25, y3), .inl (1, y2), .inl (1, y1), .inr (11, y0)], 0, 0, d) K := tT_run (cut := [0, 6, 20, 29, 59]) 7 _ h
theorem t_242_29 {E : mO × tW} {K : tK} {d : mD} {x0 x1 x2 y0 y1 : Int}
  (h : mInR y1 ∧ (y1 = 0 → mInR ((mset d y0 0 1) x0 0) ∧ ((mset d y0 0 1) x0 0 ≤ 0 → tCall E 177 [.inl (0, x1)] (mset d y0 0 1) (tbk E 242 56 [.inr (11, x0), .inl (0, x1), .inl (0, x2)] [.inr (25, x0 + 1)] 0 0 K)) ∧ (0 < (mset d y0 0 1) x0 0 → K (.inl (some (0, 0))) (mset d y0 0 1))) ∧ (¬ y1 = 0 → mInR ((mset d y0 0 0) x0 0) ∧ ((mset d y0 0 0) x0 0 ≤ 0 → tCall E 177 [.inl (0, x1)] (mset d y0 0 0) (tbk E 242 56 [.inr (11, x0), .inl (0, x1), .inl (0, x2)] [.inr (25, x0 + 1)] 0 0 K)) ∧ (0 < (mset d y0 0 0) x0 0 → K (.inl (some (0, 0))) (mset d y0 0 0)))) :
  tRun E 242 (29, [.inr (11, x0), .inl (0, x1), .inl (0, x2)], [.inl (0, y1), .inr (11, y0)], 0, 0, d) K := tT_run (cut := [0, 6, 20, 29, 59]) 11 _ h
theorem t_242_59 {E : mO × tW} {K : tK} {d : mD} {x0 x1 x2 y0 y1 : Int}
  (h : (0 ≤ (y1 + 7) + x2 ∧ (y1 + 7) + x2 < 3116) ∧ K (.inl (some (0, d y0 ((y1 + 7) + x2)))) d) :
  tRun E 242 (59, [.inr (11, x0), .inl (0, x1), .inl (0, x2)], [.inl (0, y1), .inr (25, y0)], 0, 0, d) K := tT_run (cut := [0, 6, 20, 29, 59]) 6 _ h
theorem t_243_0 {E : mO × tW} {K : tK} {d : mD} {x0 x1 x2 : Int}
  (h : tRun E 243 (2, [.inr (11, x0), .inl (0, x1), .inl (0, x2), .inl (0, 0)], [], 0, 0, d) K) :
  tRun E 243 (0, [.inr (11, x0), .inl (0, x1), .inl (0, x2), tu], [], 0, 0, d) K := tT_run (cut := [0, 2, 21, 36, 49]) 2 _ h
theorem t_243_2 {E : mO × tW} {K : tK} {d : mD} {x0 x1 x2 x3 : Int}
  (h : (0 ≤ (9 : Int) ∧ (9 : Int) < 3116) ∧ (mInR x3 ∧ mInR (d (x0 + 1) 9)) ∧ (d (x0 + 1) 9 ≤ x3 → ((0 : Int) = 0 ∨ (0 : Int) = 1) ∧ K (.inl (some (0, 0))) d) ∧ (x3 < d (x0 + 1) 9 → tCall E 179 [.inl (0, x3)] d (tbk E 243 18 [.inr (11, x0), .inl (0, x1), .inl (0, x2), .inl (0, x3)] [.inr (25, x0 + 1)] 0 0 K))) :
  tRun E 243 (2, [.inr (11, x0), .inl (0, x1), .inl (0, x2), .inl (0, x3)], [], 0, 0, d) K := tT_run (cut := [0, 2, 21, 36, 49]) 10 _ h
theorem t_243_21 {E : mO × tW} {K : tK} {d : mD} {x0 x1 x2 x3 y0 y1 : Int}
  (h : (0 ≤ y1 + 0 ∧ y1 + 0 < 3116) ∧ (mInR (d y0 (y1 + 0)) ∧ mInR x1) ∧ (¬ d y0 (y1 + 0) = x1 → tRun E 243 (2, [.inr (11, x0), .inl (0, x1), .inl (0, x2), .inl (0, x3 + 1)], [], 0, 0, d) K) ∧ (d y0 (y1 + 0) = x1 → tCall E 179 [.inl (0, x3)] d (tbk E 243 33 [.inr (11, x0), .inl (0, x1), .inl (0, x2), .inl (0, x3)] [.inr (25, x0 + 1)] 0 0 K))) :
  tRun E 243 (21, [.inr (11, x0), .inl (0, x1), .inl (0, x2), .inl (0, x3)], [.inl (0, y1), .inr (25, y0)], 0, 0, d) K := tT_run (cut := [0, 2, 21, 36, 49]) 9 _ h
theorem t_243_36 {E : mO × tW} {K : tK} {d : mD} {x0 x1 x2 x3 y0 y1 : Int}
  (h : (0 ≤ y1 + 4 ∧ y1 + 4 < 3116) ∧ (mInR (d y0 (y1 + 4)) ∧ mInR 1) ∧ (¬ d y0 (y1 + 4) = 1 → tRun E 243 (2, [.inr (11, x0), .inl (0, x1), .inl (0, x2), .inl (0, x3 + 1)], [], 0, 0, d) K) ∧ (d y0 (y1 + 4) = 1 → tCall E 214 [.inr (11, x0), .inl (0, x3), .inl (0, x2)] d (tbk E 243 46 [.inr (11, x0), .inl (0, x1), .inl (0, x2), .inl (0, x3)] [] 0 0 K))) :
  tRun E 243 (36, [.inr (11, x0), .inl (0, x1), .inl (0, x2), .inl (0, x3)], [.inl (0, y1), .inr (25, y0)], 0, 0, d) K := tT_run (cut := [0, 2, 21, 36, 49]) 9 _ h
theorem t_243_49 {E : mO × tW} {K : tK} {d : mD} {x0 x1 x2 x3 y0 : Int}
  (h : mInR y0 ∧ (y0 = 0 → tRun E 243 (2, [.inr (11, x0), .inl (0, x1), .inl (0, x2), .inl (0, x3 + 1)], [], 0, 0, d) K) ∧ (¬ y0 = 0 → ((1 : Int) = 0 ∨ (1 : Int) = 1) ∧ K (.inl (some (0, 1))) d)) :
  tRun E 243 (49, [.inr (11, x0), .inl (0, x1), .inl (0, x2), .inl (0, x3)], [.inl (0, y0)], 0, 0, d) K := tT_run (cut := [0, 2, 21, 36, 49]) 3 _ h
theorem t_244_0 {E : mO × tW} {K : tK} {d : mD} {x0 x1 x2 : Int}
  (h : tRun E 244 (5, [.inr (11, x0), .inl (0, x1), .inl (0, x2), .inl (0, 0), .inl (0, 0)], [], 0, 0, d) K) :
  tRun E 244 (0, [.inr (11, x0), .inl (0, x1), .inl (0, x2), tu, tu], [], 0, 0, d) K := tT_run (cut := [0, 5, 24, 38]) 4 _ h
theorem t_244_5 {E : mO × tW} {K : tK} {d : mD} {x0 x1 x2 x3 x4 : Int}
  (h : (0 ≤ (0 : Int) ∧ (0 : Int) < 3116) ∧ (mInR x4 ∧ mInR (d (x0 + 1) 0)) ∧ (d (x0 + 1) 0 ≤ x4 → K (.inl (some (0, x3))) d) ∧ (x4 < d (x0 + 1) 0 → tCall E 243 [.inr (11, x0), .inl (0, x1), .inl (0, x4)] d (tbk E 244 21 [.inr (11, x0), .inl (0, x1), .inl (0, x2), .inl (0, x3), .inl (0, x4)] [.inl (0, x3)] 0 0 K))) :
  tRun E 244 (5, [.inr (11, x0), .inl (0, x1), .inl (0, x2), .inl (0, x3), .inl (0, x4)], [], 0, 0, d) K := tT_run (cut := [0, 5, 24, 38]) 11 _ h
theorem t_244_24 {E : mO × tW} {K : tK} {d : mD} {x0 x1 x2 x3 x4 y0 y1 : Int}
  (h : mInR y1 ∧ (y1 = 0 → tRun E 244 (5, [.inr (11, x0), .inl (0, x1), .inl (0, x2), .inl (0, y0 + 0), .inl (0, x4 + 1)], [], 0, 0, d) K) ∧ (¬ y1 = 0 → mInR x2 ∧ (x2 = 0 → tRun E 244 (5, [.inr (11, x0), .inl (0, x1), .inl (0, x2), .inl (0, y0 + 1), .inl (0, x4 + 1)], [], 0, 0, d) K) ∧ (¬ x2 = 0 → tCall E 216 [.inr (11, x0), .inl (0, x1), .inl (0, x4)] d (tbk E 244 35 [.inr (11, x0), .inl (0, x1), .inl (0, x2), .inl (0, x3), .inl (0, x4)] [.inl (0, y0)] 0 0 K)))) :
  tRun E 244 (24, [.inr (11, x0), .inl (0, x1), .inl (0, x2), .inl (0, x3), .inl (0, x4)], [.inl (0, y1), .inl (0, y0)], 0, 0, d) K := tT_run (cut := [0, 5, 24, 38]) 9 _ h
theorem t_244_38 {E : mO × tW} {K : tK} {d : mD} {x0 x1 x2 x3 x4 y0 y1 : Int}
  (h : mInR y1 ∧ (¬ y1 = 0 → tRun E 244 (5, [.inr (11, x0), .inl (0, x1), .inl (0, x2), .inl (0, y0 + 0), .inl (0, x4 + 1)], [], 0, 0, d) K) ∧ (y1 = 0 → tRun E 244 (5, [.inr (11, x0), .inl (0, x1), .inl (0, x2), .inl (0, y0 + 1), .inl (0, x4 + 1)], [], 0, 0, d) K)) :
  tRun E 244 (38, [.inr (11, x0), .inl (0, x1), .inl (0, x2), .inl (0, x3), .inl (0, x4)], [.inl (0, y1), .inl (0, y0)], 0, 0, d) K := tT_run (cut := [0, 5, 24, 38]) 7 _ h
theorem t_245_0 {E : mO × tW} {K : tK} {d : mD} {x0 x1 x2 : Int}
  (h : tRun E 245 (5, [.inr (11, x0), .inl (0, x1), .inl (0, x2), .inl (0, 0), .inl (0, 0)], [], 0, 0, d) K) :
  tRun E 245 (0, [.inr (11, x0), .inl (0, x1), .inl (0, x2), tu, tu], [], 0, 0, d) K := tT_run (cut := [0, 5, 27, 43]) 4 _ h
theorem t_245_5 {E : mO × tW} {K : tK} {d : mD} {x0 x1 x2 x3 x4 : Int}
  (h : (0 ≤ (10 : Int) ∧ (10 : Int) < 3116) ∧ (mInR x4 ∧ mInR (d (x0 + 1) 10)) ∧ (d (x0 + 1) 10 ≤ x4 → K (.inl (some (0, x3))) d) ∧ (x4 < d (x0 + 1) 10 → tCall E 180 [.inl (0, x4)] d (tbk E 245 24 [.inr (11, x0), .inl (0, x1), .inl (0, x2), .inl (0, x3), .inl (0, x4)] [.inr (25, x0 + 1), .inl (0, x3)] 0 0 K))) :
  tRun E 245 (5, [.inr (11, x0), .inl (0, x1), .inl (0, x2), .inl (0, x3), .inl (0, x4)], [], 0, 0, d) K := tT_run (cut := [0, 5, 27, 43]) 11 _ h
theorem t_245_27 {E : mO × tW} {K : tK} {d : mD} {x0 x1 x2 x3 x4 y0 y1 y2 : Int}
  (h : (0 ≤ y2 + 0 ∧ y2 + 0 < 3116) ∧ (mInR (d y1 (y2 + 0)) ∧ mInR x1) ∧ (¬ d y1 (y2 + 0) = x1 → tRun E 245 (5, [.inr (11, x0), .inl (0, x1), .inl (0, x2), .inl (0, y0 + 0), .inl (0, x4 + 1)], [], 0, 0, d) K) ∧ (d y1 (y2 + 0) = x1 → tCall E 180 [.inl (0, x4)] d (tbk E 245 40 [.inr (11, x0), .inl (0, x1), .inl (0, x2), .inl (0, x3), .inl (0, x4)] [.inr (25, x0 + 1), .inl (0, y0)] 0 0 K))) :
  tRun E 245 (27, [.inr (11, x0), .inl (0, x1), .inl (0, x2), .inl (0, x3), .inl (0, x4)], [.inl (0, y2), .inr (25, y1), .inl (0, y0)], 0, 0, d) K := tT_run (cut := [0, 5, 27, 43]) 10 _ h
theorem t_245_43 {E : mO × tW} {K : tK} {d : mD} {x0 x1 x2 x3 x4 y0 y1 y2 : Int}
  (h : (0 ≤ y2 + 3 ∧ y2 + 3 < 3116) ∧ (mInR (d y1 (y2 + 3)) ∧ mInR x2) ∧ (¬ d y1 (y2 + 3) = x2 → tRun E 245 (5, [.inr (11, x0), .inl (0, x1), .inl (0, x2), .inl (0, y0 + 0), .inl (0, x4 + 1)], [], 0, 0, d) K) ∧ (d y1 (y2 + 3) = x2 → tRun E 245 (5, [.inr (11, x0), .inl (0, x1), .inl (0, x2), .inl (0, y0 + 1), .inl (0, x4 + 1)], [], 0, 0, d) K)) :
  tRun E 245 (43, [.inr (11, x0), .inl (0, x1), .inl (0, x2), .inl (0, x3), .inl (0, x4)], [.inl (0, y2), .inr (25, y1), .inl (0, y0)], 0, 0, d) K := tT_run (cut := [0, 5, 27, 43]) 11 _ h
theorem t_246_0 {E : mO × tW} {K : tK} {d : mD} {x0 x1 x2 : Int}
  (h : tCall E 237 [.inr (11, x0), .inl (0, x1)] d (tbk E 246 3 [.inr (11, x0), .inl (0, x1), .inl (0, x2), tu, tu, tu, tu] [.inr (11, x0)] 0 0 K)) :
  tRun E 246 (0, [.inr (11, x0), .inl (0, x1), .inl (0, x2), tu, tu, tu, tu], [], 0, 0, d) K := tT_run (cut := [0, 6, 22, 50, 71, 114, 140, 160, 236, 251, 258, 265, 274, 280, 287]) 4 _ h
theorem t_246_6 {E : mO × tW} {K : tK} {d : mD} {x0 x1 x2 y0 y1 : Int}
  (h : mInR y1 ∧ (¬ y1 = 0 → mInR x2 ∧ tCall E 176 [.inl (1, x2), .inl (1, 0), .inl (1, 9)] d (tbk E 246 19 [.inr (11, x0), .inl (0, x1), .inl (0, x2), tu, tu, tu, tu] [.inr (11, y0)] 0 0 K)) ∧ (y1 = 0 → mInR ((mset d y0 0 1) x0 0) ∧ ((mset d y0 0 1) x0 0 ≤ 0 → tRun E 246 (50, [.inr (11, x0), .inl (0, x1), .inl (0, x2), .inl (0, 0), .inl (0, 0), .inl (0, 0), tu], [], 0, 0, mset d y0 0 1) K) ∧ (0 < (mset d y0 0 1) x0 0 → K (.inl (some (0, 0))) (mset d y0 0 1)))) :
  tRun E 246 (6, [.inr (11, x0), .inl (0, x1), .inl (0, x2), tu, tu, tu, tu], [.inl (0, y1), .inr (11, y0)], 0, 0, d) K := tT_run (cut := [0, 6, 22, 50, 71, 114, 140, 160, 236, 251, 258, 265, 274, 280, 287]) 13 _ h
theorem t_246_22 {E : mO × tW} {K : tK} {d : mD} {x0 x1 x2 y0 y1 : Int}
  (h : mInR y1 ∧ (y1 = 0 → mInR ((mset d y0 0 2) x0 0) ∧ ((mset d y0 0 2) x0 0 ≤ 0 → tRun E 246 (50, [.inr (11, x0), .inl (0, x1), .inl (0, x2), .inl (0, 0), .inl (0, 0), .inl (0, 0), tu], [], 0, 0, mset d y0 0 2) K) ∧ (0 < (mset d y0 0 2) x0 0 → K (.inl (some (0, 0))) (mset d y0 0 2))) ∧ (¬ y1 = 0 → mInR ((mset d y0 0 0) x0 0) ∧ ((mset d y0 0 0) x0 0 ≤ 0 → tRun E 246 (50, [.inr (11, x0), .inl (0, x1), .inl (0, x2), .inl (0, 0), .inl (0, 0), .inl (0, 0), tu], [], 0, 0, mset d y0 0 0) K) ∧ (0 < (mset d y0 0 0) x0 0 → K (.inl (some (0, 0))) (mset d y0 0 0)))) :
  tRun E 246 (22, [.inr (11, x0), .inl (0, x1), .inl (0, x2), tu, tu, tu, tu], [.inl (0, y1), .inr (11, y0)], 0, 0, d) K := tT_run (cut := [0, 6, 22, 50, 71, 114, 140, 160, 236, 251, 258, 265, 274, 280, 287]) 13 _ h
theorem t_246_50 {E : mO × tW} {K : tK} {d : mD} {x0 x1 x2 x3 x4 x5 : Int} {v6 : tV}
  (h : (0 ≤ (9 : Int) ∧ (9 : Int) < 3116) ∧ (mInR x5 ∧ mInR (d (x0 + 1) 9)) ∧ (d (x0 + 1) 9 ≤ x5 → tRun E 246 (140, [.inr (11, x0), .inl (0, x1), .inl (0, x2), .inl (0, x3), .inl (0, x4), .inl (0, 0), .inl (0, 0)], [], 0, 0, d) K) ∧ (x5 < d (x0 + 1) 9 → tCall E 179 [.inl (0, x5)] d (tbk E 246 68 [.inr (11, x0), .inl (0, x1), .inl (0, x2), .inl (0, x3), .inl (0, x4), .inl (0, x5), v6] [.inr (25, x0 + 1)] 0 0 K))) :
  tRun E 246 (50, [.inr (11, x0), .inl (0, x1), .inl (0, x2), .inl (0, x3), .inl (0, x4), .inl (0, x5), v6], [], 0, 0, d) K := tT_run (cut := [0, 6, 22, 50, 71, 114, 140, 160, 236, 251, 258, 265, 274, 280, 287]) 10 _ h
theorem t_246_71 {E : mO × tW} {K : tK} {d : mD} {x0 x1 x2 x3 x4 x5 y0 y1 : Int} {v6 : tV}
  (h : (0 ≤ y1 + 0 ∧ y1 + 0 < 3116) ∧ (mInR (d y0 (y1 + 0)) ∧ mInR x1) ∧ (¬ d y0 (y1 + 0) = x1 → mInR 0 ∧ ((0 : Int) = 0 → mInR 0 ∧ ((0 : Int) = 0 → tRun E 246 (50, [.inr (11, x0), .inl (0, x1), .inl (0, x2), .inl (0, x3 + 0), .inl (0, x4 + 0), .inl (0, x5 + 1), .inl (0, 0)], [], 0, 0, d) K) ∧ (¬ (0 : Int) = 0 → tCall E 179 [.inl (0, x5)] d (tbk E 246 111 [.inr (11, x0), .inl (0, x1), .inl (0, x2), .inl (0, x3 + 0), .inl (0, x4), .inl (0, x5), .inl (0, 0)] [.inr (25, x0 + 1), .inl (0, x4)] 0 0 K))) ∧ (¬ (0 : Int) = 0 → mInR 0 ∧ ((0 : Int) = 0 → tRun E 246 (50, [.inr (11, x0), .inl (0, x1), .inl (0, x2), .inl (0, x3 + 1), .inl (0, x4 + 0), .inl (0, x5 + 1), .inl (0, 0)], [], 0, 0, d) K) ∧ (¬ (0 : Int) = 0 → tCall E 179 [.inl (0, x5)] d (tbk E 246 111 [.inr (11, x0), .inl (0, x1), .inl (0, x2), .inl (0, x3 + 1), .inl (0, x4), .inl (0, x5), .inl (0, 0)] [.inr (25, x0 + 1), .inl (0, x4)] 0 0 K)))) ∧ (d y0 (y1 + 0) = x1 → mInR 1 ∧ ((1 : Int) = 0 → mInR 1 ∧ ((1 : Int) = 0 → tRun E 246 (50, [.inr (11, x0), .inl (0, x1), .inl (0, x2), .inl (0, x3 + 0), .inl (0, x4 + 0), .inl (0, x5 + 1), .inl (0, 1)], [], 0, 0, d) K) ∧ (¬ (1 : Int) = 0 → tCall E 179 [.inl (0, x5)] d (tbk E 246 111 [.inr (11, x0), .inl (0, x1), .inl (0, x2), .inl (0, x3 + 0), .inl (0, x4), .inl (0, x5), .inl (0, 1)] [.inr (25, x0 + 1), .inl (0, x4)] 0 0 K))) ∧ (¬ (1 : Int) = 0 → mInR 1 ∧ ((1 : Int) = 0 → tRun E 246 (50, [.inr (11, x0), .inl (0, x1), .inl (0, x2), .inl (0, x3 + 1), .inl (0, x4 + 0), .inl (0, x5 + 1), .inl (0, 1)], [], 0, 0, d) K) ∧ (¬ (1 : Int) = 0 → tCall E 179 [.inl (0, x5)] d (tbk E 246 111 [.inr (11, x0), .inl (0, x1), .inl (0, x2), .inl (0, x3 + 1), .inl (0, x4), .inl (0, x5), .inl (0, 1)] [.inr (25, x0 + 1), .inl (0, x4)] 0 0 K))))) :
  tRun E 246 (71, [.inr (11, x0), .inl (0, x1), .inl (0, x2), .inl (0, x3), .inl (0, x4), .inl (0, x5), v6], [.inl (0, y1), .inr (25, y0)], 0, 0, d) K := tT_run (cut := [0, 6, 22, 50, 71, 114, 140, 160, 236, 251, 258, 265, 274, 280, 287]) 23 _ h
theorem t_246_114 {E : mO × tW} {K : tK} {d : mD} {x0 x1 x2 x3 x4 x5 x6 y0 y1 y2 : Int}
  (h : (0 ≤ y2 + 4 ∧ y2 + 4 < 3116) ∧ mInR (d y1 (y2 + 4)) ∧ (¬ d y1 (y2 + 4) = 0 → tRun E 246 (50, [.inr (11, x0), .inl (0, x1), .inl (0, x2), .inl (0, x3), .inl (0, y0 + 0), .inl (0, x5 + 1), .inl (0, x6)], [], 0, 0, d) K) ∧ (d y1 (y2 + 4) = 0 → tRun E 246 (50, [.inr (11, x0), .inl (0, x1), .inl (0, x2), .inl (0, x3), .inl (0, y0 + 1), .inl (0, x5 + 1), .inl (0, x6)], [], 0, 0, d) K)) :
  tRun E 246 (114, [.inr (11, x0), .inl (0, x1), .inl (0, x2), .inl (0, x3), .inl (0, x4), .inl (0, x5), .inl (0, x6)], [.inl (0, y2), .inr (25, y1), .inl (0, y0)], 0, 0, d) K := tT_run (cut := [0, 6, 22, 50, 71, 114, 140, 160, 236, 251, 258, 265, 274, 280, 287]) 10 _ h
theorem t_246_140 {E : mO × tW} {K : tK} {d : mD} {x0 x1 x2 x3 x4 x5 x6 : Int}
  (h : (0 ≤ (10 : Int) ∧ (10 : Int) < 3116) ∧ (mInR x6 ∧ mInR (d (x0 + 1) 10)) ∧ (d (x0 + 1) 10 ≤ x6 → mInR x2 ∧ (x2 = 0 → tCall E 178 [.inl (0, x1)] d (tbk E 246 233 [.inr (11, x0), .inl (0, x1), .inl (0, x2), .inl (0, x3), .inl (0, x4), .inl (0, x5), .inl (0, x6)] [.inr (25, x0 + 1)] 0 0 K)) ∧ (x2 = 1 → K (.inl (some (0, x3))) d) ∧ (x2 = 2 → K (.inl (some (0, x4))) d) ∧ (x2 = 3 → tCall E 245 [.inr (11, x0), .inl (0, x1), .inl (0, 0)] d (tbk E 246 248 [.inr (11, x0), .inl (0, x1), .inl (0, x2), .inl (0, x3), .inl (0, x4), .inl (0, x5), .inl (0, x6)] [] 0 0 K)) ∧ (x2 = 4 → tCall E 245 [.inr (11, x0), .inl (0, x1), .inl (0, 1)] d (tbk E 246 255 [.inr (11, x0), .inl (0, x1), .inl (0, x2), .inl (0, x3), .inl (0, x4), .inl (0, x5), .inl (0, x6)] [] 0 0 K)) ∧ (x2 = 5 → tCall E 245 [.inr (11, x0), .inl (0, x1), .inl (0, 2)] d (tbk E 246 262 [.inr (11, x0), .inl (0, x1), .inl (0, x2), .inl (0, x3), .inl (0, x4), .inl (0, x5), .inl (0, x6)] [] 0 0 K)) ∧ (x2 = 6 → K (.inl (some (0, x5))) d) ∧ (x2 = 7 → tCall E 217 [.inr (11, x0), .inl (0, x1)] d (tbk E 246 271 [.inr (11, x0), .inl (0, x1), .inl (0, x2), .inl (0, x3), .inl (0, x4), .inl (0, x5), .inl (0, x6)] [] 0 0 K)) ∧ (x2 = 8 → tCall E 233 [.inr (11, x0), .inl (0, x1)] d (tbk E 246 277 [.inr (11, x0), .inl (0, x1), .inl (0, x2), .inl (0, x3), .inl (0, x4), .inl (0, x5), .inl (0, x6)] [] 0 0 K)) ∧ (x2 < 0 ∨ 8 < x2 → tCall E 244 [.inr (11, x0), .inl (0, x1), .inl (0, 1)] d (tbk E 246 284 [.inr (11, x0), .inl (0, x1), .inl (0, x2), .inl (0, x3), .inl (0, x4), .inl (0, x5), .inl (0, x6)] [] 0 0 K))) ∧ (x6 < d (x0 + 1) 10 → tCall E 215 [.inr (11, x0), .inl (0, x6)] d (tbk E 246 157 [.inr (11, x0), .inl (0, x1), .inl (0, x2), .inl (0, x3), .inl (0, x4), .inl (0, x5), .inl (0, x6)] [.inl (0, x5)] 0 0 K))) :
  tRun E 246 (140, [.inr (11, x0), .inl (0, x1), .inl (0, x2), .inl (0, x3), .inl (0, x4), .inl (0, x5), .inl (0, x6)], [], 0, 0, d) K := tT_run (cut := [0, 6, 22, 50, 71, 114, 140, 160, 236, 251, 258, 265, 274, 280, 287]) 12 _ h
theorem t_246_160 {E : mO × tW} {K : tK} {d : mD} {x0 x1 x2 x3 x4 x5 x6 y0 y1 : Int}
  (h : (mInR y1 ∧ mInR x1) ∧ (¬ y1 = x1 → tRun E 246 (140, [.inr (11, x0), .inl (0, x1), .inl (0, x2), .inl (0, x3), .inl (0, x4), .inl (0, y0 + 0), .inl (0, x6 + 1)], [], 0, 0, d) K) ∧ (y1 = x1 → tRun E 246 (140, [.inr (11, x0), .inl (0, x1), .inl (0, x2), .inl (0, x3), .inl (0, x4), .inl (0, y0 + 1), .inl (0, x6 + 1)], [], 0, 0, d) K)) :
  tRun E 246 (160, [.inr (11, x0), .inl (0, x1), .inl (0, x2), .inl (0, x3), .inl (0, x4), .inl (0, x5), .inl (0, x6)], [.inl (0, y1), .inl (0, y0)], 0, 0, d) K := tT_run (cut := [0, 6, 22, 50, 71, 114, 140, 160, 236, 251, 258, 265, 274, 280, 287]) 8 _ h
theorem t_246_236 {E : mO × tW} {K : tK} {d : mD} {x0 x1 x2 x3 x4 x5 x6 y0 y1 : Int}
  (h : (0 ≤ y1 + 1 ∧ y1 + 1 < 3116) ∧ K (.inl (some (0, d y0 (y1 + 1)))) d) :
  tRun E 246 (236, [.inr (11, x0), .inl (0, x1), .inl (0, x2), .inl (0, x3), .inl (0, x4), .inl (0, x5), .inl (0, x6)], [.inl (0, y1), .inr (25, y0)], 0, 0, d) K := tT_run (cut := [0, 6, 22, 50, 71, 114, 140, 160, 236, 251, 258, 265, 274, 280, 287]) 4 _ h
theorem t_246_251 {E : mO × tW} {K : tK} {d : mD} {x0 x1 x2 x3 x4 x5 x6 y0 : Int}
  (h : K (.inl (some (0, y0))) d) :
  tRun E 246 (251, [.inr (11, x0), .inl (0, x1), .inl (0, x2), .inl (0, x3), .inl (0, x4), .inl (0, x5), .inl (0, x6)], [.inl (0, y0)], 0, 0, d) K := tT_run (cut := [0, 6, 22, 50, 71, 114, 140, 160, 236, 251, 258, 265, 274, 280, 287]) 1 _ h
theorem t_246_258 {E : mO × tW} {K : tK} {d : mD} {x0 x1 x2 x3 x4 x5 x6 y0 : Int}
  (h : K (.inl (some (0, y0))) d) :
  tRun E 246 (258, [.inr (11, x0), .inl (0, x1), .inl (0, x2), .inl (0, x3), .inl (0, x4), .inl (0, x5), .inl (0, x6)], [.inl (0, y0)], 0, 0, d) K := tT_run (cut := [0, 6, 22, 50, 71, 114, 140, 160, 236, 251, 258, 265, 274, 280, 287]) 1 _ h
theorem t_246_265 {E : mO × tW} {K : tK} {d : mD} {x0 x1 x2 x3 x4 x5 x6 y0 : Int}
  (h : K (.inl (some (0, y0))) d) :
  tRun E 246 (265, [.inr (11, x0), .inl (0, x1), .inl (0, x2), .inl (0, x3), .inl (0, x4), .inl (0, x5), .inl (0, x6)], [.inl (0, y0)], 0, 0, d) K := tT_run (cut := [0, 6, 22, 50, 71, 114, 140, 160, 236, 251, 258, 265, 274, 280, 287]) 1 _ h
theorem t_246_274 {E : mO × tW} {K : tK} {d : mD} {x0 x1 x2 x3 x4 x5 x6 y0 : Int}
  (h : K (.inl (some (0, y0))) d) :
  tRun E 246 (274, [.inr (11, x0), .inl (0, x1), .inl (0, x2), .inl (0, x3), .inl (0, x4), .inl (0, x5), .inl (0, x6)], [.inl (0, y0)], 0, 0, d) K := tT_run (cut := [0, 6, 22, 50, 71, 114, 140, 160, 236, 251, 258, 265, 274, 280, 287]) 1 _ h
theorem t_246_280 {E : mO × tW} {K : tK} {d : mD} {x0 x1 x2 x3 x4 x5 x6 y0 : Int}
  (h : K (.inl (some (0, y0))) d) :
  tRun E 246 (280, [.inr (11, x0), .inl (0, x1), .inl (0, x2), .inl (0, x3), .inl (0, x4), .inl (0, x5), .inl (0, x6)], [.inl (0, y0)], 0, 0, d) K := tT_run (cut := [0, 6, 22, 50, 71, 114, 140, 160, 236, 251, 258, 265, 274, 280, 287]) 1 _ h
theorem t_246_287 {E : mO × tW} {K : tK} {d : mD} {x0 x1 x2 x3 x4 x5 x6 y0 : Int}
  (h : K (.inl (some (0, y0))) d) :
  tRun E 246 (287, [.inr (11, x0), .inl (0, x1), .inl (0, x2), .inl (0, x3), .inl (0, x4), .inl (0, x5), .inl (0, x6)], [.inl (0, y0)], 0, 0, d) K := tT_run (cut := [0, 6, 22, 50, 71, 114, 140, 160, 236, 251, 258, 265, 274, 280, 287]) 1 _ h
/-! ===== pieces of the methods between cuts: printed by a program of mine ===== -/
theorem t_247_0 {E : mO × tW} {K : tK} {d : mD} {x0 x1 x2 : Int}
  (h : tCall E 238 [.inr (11, x0), .inl (0, x1)] d (tbk E 247 3 [.inr (11, x0), .inl (0, x1), .inl (0, x2), tu, tu] [.inr (11, x0)] 0 0 K)) :
  tRun E 247 (0, [.inr (11, x0), .inl (0, x1), .inl (0, x2), tu, tu], [], 0, 0, d) K := tT_run (cut := [0, 6, 22, 56, 65, 87, 118, 136]) 4 _ h
theorem t_247_6 {E : mO × tW} {K : tK} {d : mD} {x0 x1 x2 y0 y1 : Int}
  (h : mInR y1 ∧ (¬ y1 = 0 → mInR x2 ∧ tCall E 176 [.inl (1, x2), .inl (1, 0), .inl (1, 10)] d (tbk E 247 19 [.inr (11, x0), .inl (0, x1), .inl (0, x2), tu, tu] [.inr (11, y0)] 0 0 K)) ∧ (y1 = 0 → mInR ((mset d y0 0 1) x0 0) ∧ ((mset d y0 0 1) x0 0 ≤ 0 → (mInR x2 ∧ mInR 8) ∧ (8 ≤ x2 → tRun E 247 (65, [.inr (11, x0), .inl (0, x1), .inl (0, x2), .inl (0, 0), .inl (0, 0)], [], 0, 0, mset d y0 0 1) K) ∧ (x2 < 8 → tCall E 179 [.inl (0, x1)] (mset d y0 0 1) (tbk E 247 53 [.inr (11, x0), .inl (0, x1), .inl (0, x2), tu, tu] [.inr (25, x0 + 1)] 0 0 K))) ∧ (0 < (mset d y0 0 1) x0 0 → K (.inl (some (0, 0))) (mset d y0 0 1)))) :
  tRun E 247 (6, [.inr (11, x0), .inl (0, x1), .inl (0, x2), tu, tu], [.inl (0, y1), .inr (11, y0)], 0, 0, d) K := tT_run (cut := [0, 6, 22, 56, 65, 87, 118, 136]) 14 _ h
theorem t_247_22 {E : mO × tW} {K : tK} {d : mD} {x0 x1 x2 y0 y1 : Int}
  (h : mInR y1 ∧ (y1 = 0 → mInR ((mset d y0 0 2) x0 0) ∧ ((mset d y0 0 2) x0 0 ≤ 0 → (mInR x2 ∧ mInR 8) ∧ (8 ≤ x2 → tRun E 247 (65, [.inr (11, x0), .inl (0, x1), .inl (0, x2), .inl (0, 0), .inl (0, 0)], [], 0, 0, mset d y0 0 2) K) ∧ (x2 < 8 → tCall E 179 [.inl (0, x1)] (mset d y0 0 2) (tbk E 247 53 [.inr (11, x0), .inl (0, x1), .inl (0, x2), tu, tu] [.inr (25, x0 + 1)] 0 0 K))) ∧ (0 < (mset d y0 0 2) x0 0 → K (.inl (some (0, 0))) (mset d y0 0 2))) ∧ (¬ y1 = 0 → mInR ((mset d y0 0 0) x0 0) ∧ ((mset d y0 0 0) x0 0 ≤ 0 → (mInR x2 ∧ mInR 8) ∧ (8 ≤ x2 → tRun E 247 (65, [.inr (11, x0), .inl (0, x1), .inl (0, x2), .inl (0, 0), .inl (0, 0)], [], 0, 0, mset d y0 0 0) K) ∧ (x2 < 8 → tCall E 179 [.inl (0, x1)] (mset d y0 0 0) (tbk E 247 53 [.inr (11, x0), .inl (0, x1), .inl (0, x2), tu, tu] [.inr (25, x0 + 1)] 0 0 K))) ∧ (0 < (mset d y0 0 0) x0 0 → K (.inl (some (0, 0))) (mset d y0 0 0)))) :
  tRun E 247 (22, [.inr (11, x0), .inl (0, x1), .inl (0, x2), tu, tu], [.inl (0, y1), .inr (11, y0)], 0, 0, d) K := tT_run (cut := [0, 6, 22, 56, 65, 87, 118, 136]) 14 _ h
theorem t_247_56 {E : mO × tW} {K : tK} {d : mD} {x0 x1 x2 y0 y1 : Int}
  (h : (0 ≤ y1 + x2 ∧ y1 + x2 < 3116) ∧ K (.inl (some (0, d y0 (y1 + x2)))) d) :
  tRun E 247 (56, [.inr (11, x0), .inl (0, x1), .inl (0, x2), tu, tu], [.inl (0, y1), .inr (25, y0)], 0, 0, d) K := tT_run (cut := [0, 6, 22, 56, 65, 87, 118, 136]) 4 _ h
theorem t_247_65 {E : mO × tW} {K : tK} {d : mD} {x0 x1 x2 x3 x4 : Int}
  (h : (0 ≤ (10 : Int) ∧ (10 : Int) < 3116) ∧ (mInR x4 ∧ mInR (d (x0 + 1) 10)) ∧ (d (x0 + 1) 10 ≤ x4 → (mInR x2 ∧ mInR 8) ∧ (¬ x2 = 8 → (mInR x2 ∧ mInR 9) ∧ (¬ x2 = 9 → tCall E 221 [.inr (11, x0), .inl (0, x1)] d (tbk E 247 133 [.inr (11, x0), .inl (0, x1), .inl (0, x2), .inl (0, x3), .inl (0, x4)] [] 0 0 K)) ∧ (x2 = 9 → tRun E 247 (136, [.inr (11, x0), .inl (0, x1), .inl (0, x2), .inl (0, x3), .inl (0, x4)], [.inl (0, x3)], 0, 0, d) K)) ∧ (x2 = 8 → tCall E 213 [.inr (11, x0), .inl (0, x1)] d (tbk E 247 115 [.inr (11, x0), .inl (0, x1), .inl (0, x2), .inl (0, x3), .inl (0, x4)] [] 0 0 K))) ∧ (x4 < d (x0 + 1) 10 → tCall E 180 [.inl (0, x4)] d (tbk E 247 84 [.inr (11, x0), .inl (0, x1), .inl (0, x2), .inl (0, x3), .inl (0, x4)] [.inr (25, x0 + 1), .inl (0, x3)] 0 0 K))) :
  tRun E 247 (65, [.inr (11, x0), .inl (0, x1), .inl (0, x2), .inl (0, x3), .inl (0, x4)], [], 0, 0, d) K := tT_run (cut := [0, 6, 22, 56, 65, 87, 118, 136]) 15 _ h
theorem t_247_87 {E : mO × tW} {K : tK} {d : mD} {x0 x1 x2 x3 x4 y0 y1 y2 : Int}
  (h : (0 ≤ y2 + 1 ∧ y2 + 1 < 3116) ∧ (mInR (d y1 (y2 + 1)) ∧ mInR x1) ∧ (¬ d y1 (y2 + 1) = x1 → tRun E 247 (65, [.inr (11, x0), .inl (0, x1), .inl (0, x2), .inl (0, y0 + 0), .inl (0, x4 + 1)], [], 0, 0, d) K) ∧ (d y1 (y2 + 1) = x1 → tRun E 247 (65, [.inr (11, x0), .inl (0, x1), .inl (0, x2), .inl (0, y0 + 1), .inl (0, x4 + 1)], [], 0, 0, d) K)) :
  tRun E 247 (87, [.inr (11, x0), .inl (0, x1), .inl (0, x2), .inl (0, x3), .inl (0, x4)], [.inl (0, y2), .inr (25, y1), .inl (0, y0)], 0, 0, d) K := tT_run (cut := [0, 6, 22, 56, 65, 87, 118, 136]) 11 _ h
theorem t_247_118 {E : mO × tW} {K : tK} {d : mD} {x0 x1 x2 x3 x4 y0 : Int}
  (h : tRun E 247 (136, [.inr (11, x0), .inl (0, x1), .inl (0, x2), .inl (0, x3), .inl (0, x4)], [.inl (0, y0)], 0, 0, d) K) :
  tRun E 247 (118, [.inr (11, x0), .inl (0, x1), .inl (0, x2), .inl (0, x3), .inl (0, x4)], [.inl (0, y0)], 0, 0, d) K := tT_run (cut := [0, 6, 22, 56, 65, 87, 118, 136]) 1 _ h
theorem t_247_136 {E : mO × tW} {K : tK} {d : mD} {x0 x1 x2 x3 x4 y0 : Int}
  (h : K (.inl (some (0, y0))) d) :
  tRun E 247 (136, [.inr (11, x0), .inl (0, x1), .inl (0, x2), .inl (0, x3), .inl (0, x4)], [.inl (0, y0)], 0, 0, d) K := tT_run (cut := [0, 6, 22, 56, 65, 87, 118, 136]) 1 _ h
theorem t_248_0 {E : mO × tW} {K : tK} {d : mD} {x0 x1 x2 : Int}
  (h : mInR x1 ∧ (0 ≤ (10 : Int) ∧ (10 : Int) < 3116) ∧ mInR ((d (x0 + 1) 10) - 1) ∧ tCall E 176 [.inl (1, x1), .inl (1, 0), .inl (1, (d (x0 + 1) 10) - 1)] d (tbk E 248 14 [.inr (11, x0), .inl (0, x1), .inl (0, x2), tu, tu] [.inr (11, x0)] 0 0 K)) :
  tRun E 248 (0, [.inr (11, x0), .inl (0, x1), .inl (0, x2), tu, tu], [], 0, 0, d) K := tT_run (cut := [0, 17, 33, 66, 75]) 12 _ h
theorem t_248_17 {E : mO × tW} {K : tK} {d : mD} {x0 x1 x2 y0 y1 : Int}
  (h : mInR y1 ∧ (¬ y1 = 0 → mInR x2 ∧ tCall E 176 [.inl (1, x2), .inl (1, 0), .inl (1, 4)] d (tbk E 248 30 [.inr (11, x0), .inl (0, x1), .inl (0, x2), tu, tu] [.inr (11, y0)] 0 0 K)) ∧ (y1 = 0 → mInR ((mset d y0 0 1) x0 0) ∧ ((mset d y0 0 1) x0 0 ≤ 0 → (mInR x2 ∧ mInR 4) ∧ (4 ≤ x2 → tRun E 248 (75, [.inr (11, x0), .inl (0, x1), .inl (0, x2), .inl (0, (-1)), .inl (0, 0)], [], 0, 0, mset d y0 0 1) K) ∧ (x2 < 4 → tCall E 180 [.inl (0, x1)] (mset d y0 0 1) (tbk E 248 63 [.inr (11, x0), .inl (0, x1), .inl (0, x2), tu, tu] [.inr (25, x0 + 1)] 0 0 K))) ∧ (0 < (mset d y0 0 1) x0 0 → K (.inl (some (0, 0))) (mset d y0 0 1)))) :
  tRun E 248 (17, [.inr (11, x0), .inl (0, x1), .inl (0, x2), tu, tu], [.inl (0, y1), .inr (11, y0)], 0, 0, d) K := tT_run (cut := [0, 17, 33, 66, 75]) 14 _ h
theorem t_248_33 {E : mO × tW} {K : tK} {d : mD} {x0 x1 x2 y0 y1 : Int}
  (h : mInR y1 ∧ (y1 = 0 → mInR ((mset d y0 0 2) x0 0) ∧ ((mset d y0 0 2) x0 0 ≤ 0 → (mInR x2 ∧ mInR 4) ∧ (4 ≤ x2 → tRun E 248 (75, [.inr (11, x0), .inl (0, x1), .inl (0, x2), .inl (0, (-1)), .inl (0, 0)], [], 0, 0, mset d y0 0 2) K) ∧ (x2 < 4 → tCall E 180 [.inl (0, x1)] (mset d y0 0 2) (tbk E 248 63 [.inr (11, x0), .inl (0, x1), .inl (0, x2), tu, tu] [.inr (25, x0 + 1)] 0 0 K))) ∧ (0 < (mset d y0 0 2) x0 0 → K (.inl (some (0, 0))) (mset d y0 0 2))) ∧ (¬ y1 = 0 → mInR ((mset d y0 0 0) x0 0) ∧ ((mset d y0 0 0) x0 0 ≤ 0 → (mInR x2 ∧ mInR 4) ∧ (4 ≤ x2 → tRun E 248 (75, [.inr (11, x0), .inl (0, x1), .inl (0, x2), .inl (0, (-1)), .inl (0, 0)], [], 0, 0, mset d y0 0 0) K) ∧ (x2 < 4 → tCall E 180 [.inl (0, x1)] (mset d y0 0 0) (tbk E 248 63 [.inr (11, x0), .inl (0, x1), .inl (0, x2), tu, tu] [.inr (25, x0 + 1)] 0 0 K))) ∧ (0 < (mset d y0 0 0) x0 0 → K (.inl (some (0, 0))) (mset d y0 0 0)))) :
  tRun E 248 (33, [.inr (11, x0), .inl (0, x1), .inl (0, x2), tu, tu], [.inl (0, y1), .inr (11, y0)], 0, 0, d) K := tT_run (cut := [0, 17, 33, 66, 75]) 14 _ h
theorem t_248_66 {E : mO × tW} {K : tK} {d : mD} {x0 x1 x2 y0 y1 : Int}
  (h : (0 ≤ y1 + x2 ∧ y1 + x2 < 3116) ∧ K (.inl (some (0, d y0 (y1 + x2)))) d) :
  tRun E 248 (66, [.inr (11, x0), .inl (0, x1), .inl (0, x2), tu, tu], [.inl (0, y1), .inr (25, y0)], 0, 0, d) K := tT_run (cut := [0, 17, 33, 66, 75]) 4 _ h
theorem t_248_75 {E : mO × tW} {K : tK} {d : mD} {x0 x1 x2 x3 x4 : Int}
  (h : (0 ≤ (11 : Int) ∧ (11 : Int) < 3116) ∧ (mInR x4 ∧ mInR (d (x0 + 1) 11)) ∧ (d (x0 + 1) 11 ≤ x4 → K (.inl (some (0, x3))) d) ∧ (x4 < d (x0 + 1) 11 → (0 ≤ 2916 + x4 ∧ 2916 + x4 < 3116) ∧ (mInR (d (x0 + 1) (2916 + x4)) ∧ mInR x1) ∧ (¬ d (x0 + 1) (2916 + x4) = x1 → tRun E 248 (75, [.inr (11, x0), .inl (0, x1), .inl (0, x2), .inl (0, x3), .inl (0, x4 + 1)], [], 0, 0, d) K) ∧ (d (x0 + 1) (2916 + x4) = x1 → tRun E 248 (75, [.inr (11, x0), .inl (0, x1), .inl (0, x2), .inl (0, x4), .inl (0, x4 + 1)], [], 0, 0, d) K))) :
  tRun E 248 (75, [.inr (11, x0), .inl (0, x1), .inl (0, x2), .inl (0, x3), .inl (0, x4)], [], 0, 0, d) K := tT_run (cut := [0, 17, 33, 66, 75]) 19 _ h
theorem t_249_0 {E : mO × tW} {K : tK} {d : mD} {x0 x1 x2 : Int}
  (h : tCall E 237 [.inr (11, x0), .inl (0, x1)] d (tbk E 249 3 [.inr (11, x0), .inl (0, x1), .inl (0, x2)] [.inr (11, x0)] 0 0 K)) :
  tRun E 249 (0, [.inr (11, x0), .inl (0, x1), .inl (0, x2)], [], 0, 0, d) K := tT_run (cut := [0, 6, 22, 46]) 4 _ h
theorem t_249_6 {E : mO × tW} {K : tK} {d : mD} {x0 x1 x2 y0 y1 : Int}
  (h : mInR y1 ∧ (¬ y1 = 0 → mInR x2 ∧ tCall E 176 [.inl (1, x2), .inl (1, 0), .inl (1, 999)] d (tbk E 249 19 [.inr (11, x0), .inl (0, x1), .inl (0, x2)] [.inr (11, y0)] 0 0 K)) ∧ (y1 = 0 → mInR ((mset d y0 0 1) x0 0) ∧ (¬ (mset d y0 0 1) x0 0 = 0 → ((0 : Int) = 0 ∨ (0 : Int) = 1) ∧ K (.inl (some (0, 0))) (mset d y0 0 1)) ∧ ((mset d y0 0 1) x0 0 = 0 → tCall E 216 [.inr (11, x0), .inl (0, x1), .inl (0, x2)] (mset d y0 0 1) (tbk E 249 43 [.inr (11, x0), .inl (0, x1), .inl (0, x2)] [] 0 0 K)))) :
  tRun E 249 (6, [.inr (11, x0), .inl (0, x1), .inl (0, x2)], [.inl (0, y1), .inr (11, y0)], 0, 0, d) K := tT_run (cut := [0, 6, 22, 46]) 11 _ h
theorem t_249_22 {E : mO × tW} {K : tK} {d : mD} {x0 x1 x2 y0 y1 : Int}
  (h : mInR y1 ∧ (y1 = 0 → mInR ((mset d y0 0 2) x0 0) ∧ (¬ (mset d y0 0 2) x0 0 = 0 → ((0 : Int) = 0 ∨ (0 : Int) = 1) ∧ K (.inl (some (0, 0))) (mset d y0 0 2)) ∧ ((mset d y0 0 2) x0 0 = 0 → tCall E 216 [.inr (11, x0), .inl (0, x1), .inl (0, x2)] (mset d y0 0 2) (tbk E 249 43 [.inr (11, x0), .inl (0, x1), .inl (0, x2)] [] 0 0 K))) ∧ (¬ y1 = 0 → mInR ((mset d y0 0 0) x0 0) ∧ (¬ (mset d y0 0 0) x0 0 = 0 → ((0 : Int) = 0 ∨ (0 : Int) = 1) ∧ K (.inl (some (0, 0))) (mset d y0 0 0)) ∧ ((mset d y0 0 0) x0 0 = 0 → tCall E 216 [.inr (11, x0), .inl (0, x1), .inl (0, x2)] (mset d y0 0 0) (tbk E 249 43 [.inr (11, x0), .inl (0, x1), .inl (0, x2)] [] 0 0 K)))) :
  tRun E 249 (22, [.inr (11, x0), .inl (0, x1), .inl (0, x2)], [.inl (0, y1), .inr (11, y0)], 0, 0, d) K := tT_run (cut := [0, 6, 22, 46]) 11 _ h
theorem t_249_46 {E : mO × tW} {K : tK} {d : mD} {x0 x1 x2 y0 : Int}
  (h : mInR y0 ∧ (y0 = 0 → ((0 : Int) = 0 ∨ (0 : Int) = 1) ∧ K (.inl (some (0, 0))) d) ∧ (¬ y0 = 0 → ((1 : Int) = 0 ∨ (1 : Int) = 1) ∧ K (.inl (some (0, 1))) d)) :
  tRun E 249 (46, [.inr (11, x0), .inl (0, x1), .inl (0, x2)], [.inl (0, y0)], 0, 0, d) K := tT_run (cut := [0, 6, 22, 46]) 4 _ h
theorem t_250_0 {E : mO × tW} {K : tK} {d : mD} {x0 x1 x2 : Int}
  (h : tCall E 238 [.inr (11, x0), .inl (0, x1)] d (tbk E 250 3 [.inr (11, x0), .inl (0, x1), .inl (0, x2)] [.inr (11, x0)] 0 0 K)) :
  tRun E 250 (0, [.inr (11, x0), .inl (0, x1), .inl (0, x2)], [], 0, 0, d) K := tT_run (cut := [0, 6, 14]) 4 _ h
theorem t_250_6 {E : mO × tW} {K : tK} {d : mD} {x0 x1 x2 y0 y1 : Int}
  (h : mInR y1 ∧ (y1 = 0 → mInR ((mset d y0 0 1) x0 0) ∧ (¬ (mset d y0 0 1) x0 0 = 0 → ((0 : Int) = 0 ∨ (0 : Int) = 1) ∧ K (.inl (some (0, 0))) (mset d y0 0 1)) ∧ ((mset d y0 0 1) x0 0 = 0 → ((1 : Int) = 0 ∨ (1 : Int) = 1) ∧ K (.inl (some (0, 1))) (mset d y0 0 1))) ∧ (¬ y1 = 0 → tCall E 237 [.inr (11, x0), .inl (0, x2)] d (tbk E 250 11 [.inr (11, x0), .inl (0, x1), .inl (0, x2)] [.inr (11, y0)] 0 0 K))) :
  tRun E 250 (6, [.inr (11, x0), .inl (0, x1), .inl (0, x2)], [.inl (0, y1), .inr (11, y0)], 0, 0, d) K := tT_run (cut := [0, 6, 14]) 9 _ h
theorem t_250_14 {E : mO × tW} {K : tK} {d : mD} {x0 x1 x2 y0 y1 : Int}
  (h : mInR y1 ∧ (y1 = 0 → mInR ((mset d y0 0 1) x0 0) ∧ (¬ (mset d y0 0 1) x0 0 = 0 → ((0 : Int) = 0 ∨ (0 : Int) = 1) ∧ K (.inl (some (0, 0))) (mset d y0 0 1)) ∧ ((mset d y0 0 1) x0 0 = 0 → ((1 : Int) = 0 ∨ (1 : Int) = 1) ∧ K (.inl (some (0, 1))) (mset d y0 0 1))) ∧ (¬ y1 = 0 → mInR ((mset d y0 0 0) x0 0) ∧ (¬ (mset d y0 0 0) x0 0 = 0 → ((0 : Int) = 0 ∨ (0 : Int) = 1) ∧ K (.inl (some (0, 0))) (mset d y0 0 0)) ∧ ((mset d y0 0 0) x0 0 = 0 → ((1 : Int) = 0 ∨ (1 : Int) = 1) ∧ K (.inl (some (0, 1))) (mset d y0 0 0)))) :
  tRun E 250 (14, [.inr (11, x0), .inl (0, x1), .inl (0, x2)], [.inl (0, y1), .inr (11, y0)], 0, 0, d) K := tT_run (cut := [0, 6, 14]) 10 _ h
theorem t_251_0 {E : mO × tW} {K : tK} {d : mD} {x0 x1 x2 : Int}
  (h : tCall E 250 [.inr (11, x0), .inl (0, x1), .inl (0, x2)] d (tbk E 251 3 [.inr (11, x0), .inl (0, x1), .inl (0, x2)] [] 0 0 K)) :
  tRun E 251 (0, [.inr (11, x0), .inl (0, x1), .inl (0, x2)], [], 0, 0, d) K := tT_run (cut := [0, 6, 15]) 4 _ h
theorem t_251_6 {E : mO × tW} {K : tK} {d : mD} {x0 x1 x2 y0 : Int}
  (h : mInR y0 ∧ (y0 = 0 → K (.inl (some (0, 0))) d) ∧ (¬ y0 = 0 → tCall E 234 [.inr (11, x0), .inl (0, x1), .inl (0, x2)] d (tbk E 251 12 [.inr (11, x0), .inl (0, x1), .inl (0, x2)] [] 0 0 K))) :
  tRun E 251 (6, [.inr (11, x0), .inl (0, x1), .inl (0, x2)], [.inl (0, y0)], 0, 0, d) K := tT_run (cut := [0, 6, 15]) 5 _ h
theorem t_251_15 {E : mO × tW} {K : tK} {d : mD} {x0 x1 x2 y0 : Int}
  (h : K (.inl (some (0, y0))) d) :
  tRun E 251 (15, [.inr (11, x0), .inl (0, x1), .inl (0, x2)], [.inl (0, y0)], 0, 0, d) K := tT_run (cut := [0, 6, 15]) 2 _ h
theorem t_252_0 {E : mO × tW} {K : tK} {d : mD} {x0 x1 x2 : Int}
  (h : tCall E 250 [.inr (11, x0), .inl (0, x1), .inl (0, x2)] d (tbk E 252 3 [.inr (11, x0), .inl (0, x1), .inl (0, x2)] [] 0 0 K)) :
  tRun E 252 (0, [.inr (11, x0), .inl (0, x1), .inl (0, x2)], [], 0, 0, d) K := tT_run (cut := [0, 6, 15]) 4 _ h
theorem t_252_6 {E : mO × tW} {K : tK} {d : mD} {x0 x1 x2 y0 : Int}
  (h : mInR y0 ∧ (y0 = 0 → K (.inl (some (0, 0))) d) ∧ (¬ y0 = 0 → tCall E 231 [.inr (11, x0), .inl (0, x1), .inl (0, x2)] d (tbk E 252 12 [.inr (11, x0), .inl (0, x1), .inl (0, x2)] [] 0 0 K))) :
  tRun E 252 (6, [.inr (11, x0), .inl (0, x1), .inl (0, x2)], [.inl (0, y0)], 0, 0, d) K := tT_run (cut := [0, 6, 15]) 5 _ h
theorem t_252_15 {E : mO × tW} {K : tK} {d : mD} {x0 x1 x2 y0 : Int}
  (h : K (.inl (some (0, y0))) d) :
  tRun E 252 (15, [.inr (11, x0), .inl (0, x1), .inl (0, x2)], [.inl (0, y0)], 0, 0, d) K := tT_run (cut := [0, 6, 15]) 2 _ h
theorem t_253_0 {E : mO × tW} {K : tK} {d : mD} {x0 x1 x2 : Int}
  (h : tCall E 238 [.inr (11, x0), .inl (0, x1)] d (tbk E 253 3 [.inr (11, x0), .inl (0, x1), .inl (0, x2), tu, tu] [.inr (11, x0)] 0 0 K)) :
  tRun E 253 (0, [.inr (11, x0), .inl (0, x1), .inl (0, x2), tu, tu], [], 0, 0, d) K := tT_run (cut := [0, 6, 31, 54]) 4 _ h
theorem t_253_6 {E : mO × tW} {K : tK} {d : mD} {x0 x1 x2 y0 y1 : Int}
  (h : mInR y1 ∧ (y1 = 0 → mInR ((mset d y0 0 1) x0 0) ∧ ((mset d y0 0 1) x0 0 ≤ 0 → tRun E 253 (31, [.inr (11, x0), .inl (0, x1), .inl (0, x2), .inl (0, x2), .inl (0, 0)], [], 0, 0, mset d y0 0 1) K) ∧ (0 < (mset d y0 0 1) x0 0 → K (.inl (some (0, 0))) (mset d y0 0 1))) ∧ (¬ y1 = 0 → mInR ((mset d y0 0 0) x0 0) ∧ ((mset d y0 0 0) x0 0 ≤ 0 → tRun E 253 (31, [.inr (11, x0), .inl (0, x1), .inl (0, x2), .inl (0, x2), .inl (0, 0)], [], 0, 0, mset d y0 0 0) K) ∧ (0 < (mset d y0 0 0) x0 0 → K (.inl (some (0, 0))) (mset d y0 0 0)))) :
  tRun E 253 (6, [.inr (11, x0), .inl (0, x1), .inl (0, x2), tu, tu], [.inl (0, y1), .inr (11, y0)], 0, 0, d) K := tT_run (cut := [0, 6, 31, 54]) 11 _ h
theorem t_253_31 {E : mO × tW} {K : tK} {d : mD} {x0 x1 x2 x3 x4 : Int}
  (h : (0 ≤ (8 : Int) ∧ (8 : Int) < 3116) ∧ (mInR x4 ∧ mInR (d (x0 + 1) 8)) ∧ (d (x0 + 1) 8 ≤ x4 → K (.inl (some (0, 0))) (mset d x0 0 2)) ∧ (x4 < d (x0 + 1) 8 → mInR x2 ∧ (x2 < 0 → K (.inl (some (0, 0))) (mset d x0 0 2)) ∧ (0 ≤ x2 → tCall E 234 [.inr (11, x0), .inl (0, x1), .inl (0, x4)] d (tbk E 253 51 [.inr (11, x0), .inl (0, x1), .inl (0, x2), .inl (0, x3), .inl (0, x4)] [] 0 0 K)))) :
  tRun E 253 (31, [.inr (11, x0), .inl (0, x1), .inl (0, x2), .inl (0, x3), .inl (0, x4)], [], 0, 0, d) K := tT_run (cut := [0, 6, 31, 54]) 13 _ h
theorem t_253_54 {E : mO × tW} {K : tK} {d : mD} {x0 x1 x2 x3 x4 y0 : Int}
  (h : mInR y0 ∧ (¬ y0 = 0 → tRun E 253 (31, [.inr (11, x0), .inl (0, x1), .inl (0, x2), .inl (0, x3), .inl (0, x4 + 1)], [], 0, 0, d) K) ∧ (y0 = 0 → mInR x3 ∧ (¬ x3 = 0 → tRun E 253 (31, [.inr (11, x0), .inl (0, x1), .inl (0, x2), .inl (0, x3 + (-1)), .inl (0, x4 + 1)], [], 0, 0, d) K) ∧ (x3 = 0 → K (.inl (some (0, x4))) d))) :
  tRun E 253 (54, [.inr (11, x0), .inl (0, x1), .inl (0, x2), .inl (0, x3), .inl (0, x4)], [.inl (0, y0)], 0, 0, d) K := tT_run (cut := [0, 6, 31, 54]) 6 _ h
theorem t_254_0 {E : mO × tW} {K : tK} {d : mD} {x0 x1 x2 : Int}
  (h : tCall E 250 [.inr (11, x0), .inl (0, x1), .inl (0, x2)] d (tbk E 254 3 [.inr (11, x0), .inl (0, x1), .inl (0, x2)] [] 0 0 K)) :
  tRun E 254 (0, [.inr (11, x0), .inl (0, x1), .inl (0, x2)], [], 0, 0, d) K := tT_run (cut := [0, 6, 17]) 4 _ h
theorem t_254_6 {E : mO × tW} {K : tK} {d : mD} {x0 x1 x2 y0 : Int}
  (h : mInR y0 ∧ (y0 = 0 → ((0 : Int) = 0 ∨ (0 : Int) = 1) ∧ K (.inl (some (0, 0))) d) ∧ (¬ y0 = 0 → tCall E 179 [.inl (0, x1)] d (tbk E 254 14 [.inr (11, x0), .inl (0, x1), .inl (0, x2)] [.inr (25, x0 + 1)] 0 0 K))) :
  tRun E 254 (6, [.inr (11, x0), .inl (0, x1), .inl (0, x2)], [.inl (0, y0)], 0, 0, d) K := tT_run (cut := [0, 6, 17]) 5 _ h
theorem t_254_17 {E : mO × tW} {K : tK} {d : mD} {x0 x1 x2 y0 y1 : Int}
  (h : (0 ≤ (y1 + 8) + x2 ∧ (y1 + 8) + x2 < 3116) ∧ mInR (d y0 ((y1 + 8) + x2)) ∧ (d y0 ((y1 + 8) + x2) = 0 → ((0 : Int) = 0 ∨ (0 : Int) = 1) ∧ K (.inl (some (0, 0))) d) ∧ (¬ d y0 ((y1 + 8) + x2) = 0 → ((1 : Int) = 0 ∨ (1 : Int) = 1) ∧ K (.inl (some (0, 1))) d)) :
  tRun E 254 (17, [.inr (11, x0), .inl (0, x1), .inl (0, x2)], [.inl (0, y1), .inr (25, y0)], 0, 0, d) K := tT_run (cut := [0, 6, 17]) 9 _ h
theorem t_255_0 {E : mO × tW} {K : tK} {d : mD} {x0 : Int}
  (h : tRun E 255 (2, [.inr (11, x0), .inl (0, 0)], [], 0, 0, d) K) :
  tRun E 255 (0, [.inr (11, x0), tu], [], 0, 0, d) K := tT_run (cut := [0, 2]) 2 _ h
theorem t_255_2 {E : mO × tW} {K : tK} {d : mD} {x0 x1 : Int}
  (h : (mInR x1 ∧ mInR 3116) ∧ (3116 ≤ x1 → K (.inl none) d) ∧ (x1 < 3116 → (0 ≤ x1 ∧ x1 < 3116) ∧ (0 ≤ x1 ∧ x1 < 3116) ∧ tRun E 255 (2, [.inr (11, x0), .inl (0, x1 + 1)], [], 0, 0, mset d (x0 + 4) x1 (d (x0 + 1) x1)) K)) :
  tRun E 255 (2, [.inr (11, x0), .inl (0, x1)], [], 0, 0, d) K := tT_run (cut := [0, 2]) 13 _ h
theorem t_256_0 {E : mO × tW} {K : tK} {d : mD} {x0 : Int}
  (h : tRun E 256 (2, [.inr (11, x0), .inl (0, 0)], [], 0, 0, d) K) :
  tRun E 256 (0, [.inr (11, x0), tu], [], 0, 0, d) K := tT_run (cut := [0, 2]) 2 _ h
theorem t_256_2 {E : mO × tW} {K : tK} {d : mD} {x0 x1 : Int}
  (h : (mInR x1 ∧ mInR 3116) ∧ (3116 ≤ x1 → K (.inl none) d) ∧ (x1 < 3116 → (0 ≤ x1 ∧ x1 < 3116) ∧ (0 ≤ x1 ∧ x1 < 3116) ∧ tRun E 256 (2, [.inr (11, x0), .inl (0, x1 + 1)], [], 0, 0, mset d (x0 + 1) x1 (d (x0 + 4) x1)) K)) :
  tRun E 256 (2, [.inr (11, x0), .inl (0, x1)], [], 0, 0, d) K := tT_run (cut := [0, 2]) 13 _ h
theorem t_257_0 {E : mO × tW} {K : tK} {d : mD} {x0 x1 : Int}
  (h : tCall E 238 [.inr (11, x0), .inl (0, x1)] d (tbk E 257 3 [.inr (11, x0), .inl (0, x1), tu] [.inr (11, x0)] 0 0 K)) :
  tRun E 257 (0, [.inr (11, x0), .inl (0, x1), tu], [], 0, 0, d) K := tT_run (cut := [0, 6, 32, 45, 50, 55]) 4 _ h
theorem t_257_6 {E : mO × tW} {K : tK} {d : mD} {x0 x1 y0 y1 : Int}
  (h : mInR y1 ∧ (y1 = 0 → mInR ((mset d y0 0 1) x0 0) ∧ (0 < (mset d y0 0 1) x0 0 → K (.inl (some (0, 0))) (mset d y0 0 1)) ∧ ((mset d y0 0 1) x0 0 ≤ 0 → tCall E 179 [.inl (0, x1)] (mset d y0 0 1) (tbk E 257 29 [.inr (11, x0), .inl (0, x1), tu] [.inr (25, x0 + 1)] 0 0 K))) ∧ (¬ y1 = 0 → mInR ((mset d y0 0 0) x0 0) ∧ (0 < (mset d y0 0 0) x0 0 → K (.inl (some (0, 0))) (mset d y0 0 0)) ∧ ((mset d y0 0 0) x0 0 ≤ 0 → tCall E 179 [.inl (0, x1)] (mset d y0 0 0) (tbk E 257 29 [.inr (11, x0), .inl (0, x1), tu] [.inr (25, x0 + 1)] 0 0 K)))) :
  tRun E 257 (6, [.inr (11, x0), .inl (0, x1), tu], [.inl (0, y1), .inr (11, y0)], 0, 0, d) K := tT_run (cut := [0, 6, 32, 45, 50, 55]) 11 _ h
theorem t_257_32 {E : mO × tW} {K : tK} {d : mD} {x0 x1 y0 y1 : Int}
  (h : (0 ≤ y1 + 4 ∧ y1 + 4 < 3116) ∧ (mInR (d y0 (y1 + 4)) ∧ mInR 1) ∧ (d y0 (y1 + 4) = 1 → tCall E 255 [.inr (11, x0)] d (tbk E 257 42 [.inr (11, x0), .inl (0, x1), tu] [] 0 0 K)) ∧ (¬ d y0 (y1 + 4) = 1 → K (.inl (some (0, 0))) d)) :
  tRun E 257 (32, [.inr (11, x0), .inl (0, x1), tu], [.inl (0, y1), .inr (25, y0)], 0, 0, d) K := tT_run (cut := [0, 6, 32, 45, 50, 55]) 7 _ h
theorem t_257_45 {E : mO × tW} {K : tK} {d : mD} {x0 x1 : Int}
  (h : tCall E 218 [.inr (11, x0), .inl (0, x1)] d (tbk E 257 47 [.inr (11, x0), .inl (0, x1), tu] [] 0 0 K)) :
  tRun E 257 (45, [.inr (11, x0), .inl (0, x1), tu], [], 0, 0, d) K := tT_run (cut := [0, 6, 32, 45, 50, 55]) 3 _ h
theorem t_257_50 {E : mO × tW} {K : tK} {d : mD} {x0 x1 y0 : Int}
  (h : tCall E 256 [.inr (11, x0)] d (tbk E 257 52 [.inr (11, x0), .inl (0, x1), .inl (0, y0)] [] 0 0 K)) :
  tRun E 257 (50, [.inr (11, x0), .inl (0, x1), tu], [.inl (0, y0)], 0, 0, d) K := tT_run (cut := [0, 6, 32, 45, 50, 55]) 3 _ h
theorem t_257_55 {E : mO × tW} {K : tK} {d : mD} {x0 x1 x2 : Int}
  (h : K (.inl (some (0, x2))) d) :
  tRun E 257 (55, [.inr (11, x0), .inl (0, x1), .inl (0, x2)], [], 0, 0, d) K := tT_run (cut := [0, 6, 32, 45, 50, 55]) 2 _ h
theorem t_258_0 {E : mO × tW} {K : tK} {d : mD} {x0 : Int}
  (h : tRun E 258 (9, [.inr (11, x0), .inl (0, 0), .inl (0, 0)], [], 0, 0, mset d x0 0 0) K) :
  tRun E 258 (0, [.inr (11, x0), tu, tu], [], 0, 0, d) K := tT_run (cut := [0, 9, 29]) 7 _ h
theorem t_258_9 {E : mO × tW} {K : tK} {d : mD} {x0 x1 x2 : Int}
  (h : (0 ≤ (10 : Int) ∧ (10 : Int) < 3116) ∧ (mInR x2 ∧ mInR (d (x0 + 1) 10)) ∧ (d (x0 + 1) 10 ≤ x2 → (0 ≤ (6 : Int) ∧ (6 : Int) < 3116) ∧ K (.inl (some (0, x1 * (d (x0 + 1) 6)))) d) ∧ (x2 < d (x0 + 1) 10 → tCall E 180 [.inl (0, x2)] d (tbk E 258 26 [.inr (11, x0), .inl (0, x1), .inl (0, x2)] [.inr (25, x0 + 1), .inl (0, x1)] 0 0 K))) :
  tRun E 258 (9, [.inr (11, x0), .inl (0, x1), .inl (0, x2)], [], 0, 0, d) K := tT_run (cut := [0, 9, 29]) 13 _ h
theorem t_258_29 {E : mO × tW} {K : tK} {d : mD} {x0 x1 x2 y0 y1 y2 : Int}
  (h : (0 ≤ y2 + 3 ∧ y2 + 3 < 3116) ∧ (mInR (d y1 (y2 + 3)) ∧ mInR 2) ∧ (¬ d y1 (y2 + 3) = 2 → tRun E 258 (9, [.inr (11, x0), .inl (0, y0 + 1), .inl (0, x2 + 1)], [], 0, 0, d) K) ∧ (d y1 (y2 + 3) = 2 → tRun E 258 (9, [.inr (11, x0), .inl (0, y0 + 0), .inl (0, x2 + 1)], [], 0, 0, d) K)) :
  tRun E 258 (29, [.inr (11, x0), .inl (0, x1), .inl (0, x2)], [.inl (0, y2), .inr (25, y1), .inl (0, y0)], 0, 0, d) K := tT_run (cut := [0, 9, 29]) 11 _ h
theorem t_259_0 {E : mO × tW} {K : tK} {d : mD} {x0 : Int}
  (h : tRun E 259 (11, [.inr (11, x0), .inl (0, 0), .inl (0, 0), .inl (0, 0)], [], 0, 0, mset d x0 0 0) K) :
  tRun E 259 (0, [.inr (11, x0), tu, tu, tu], [], 0, 0, d) K := tT_run (cut := [0, 11, 30, 46, 57]) 9 _ h
theorem t_259_11 {E : mO × tW} {K : tK} {d : mD} {x0 x1 x2 x3 : Int}
  (h : (0 ≤ (9 : Int) ∧ (9 : Int) < 3116) ∧ (mInR x3 ∧ mInR (d (x0 + 1) 9)) ∧ (d (x0 + 1) 9 ≤ x3 → mInR x2 ∧ (¬ x2 = 0 → vf_n64 (FP.ddiv (mbit (mi2d x1)) (mbit (mi2d x2))) ∧ K (.inl (some (2, mddiv (mi2d x1) (mi2d x2)))) d) ∧ (x2 = 0 → K (.inl (some (2, 0))) d)) ∧ (x3 < d (x0 + 1) 9 → tCall E 179 [.inl (0, x3)] d (tbk E 259 27 [.inr (11, x0), .inl (0, x1), .inl (0, x2), .inl (0, x3)] [.inr (25, x0 + 1)] 0 0 K))) :
  tRun E 259 (11, [.inr (11, x0), .inl (0, x1), .inl (0, x2), .inl (0, x3)], [], 0, 0, d) K := tT_run (cut := [0, 11, 30, 46, 57]) 14 _ h
theorem t_259_30 {E : mO × tW} {K : tK} {d : mD} {x0 x1 x2 x3 y0 y1 : Int}
  (h : (0 ≤ y1 + 4 ∧ y1 + 4 < 3116) ∧ (mInR (d y0 (y1 + 4)) ∧ mInR 1) ∧ (¬ d y0 (y1 + 4) = 1 → tRun E 259 (11, [.inr (11, x0), .inl (0, x1), .inl (0, x2), .inl (0, x3 + 1)], [], 0, 0, d) K) ∧ (d y0 (y1 + 4) = 1 → tCall E 179 [.inl (0, x3)] d (tbk E 259 43 [.inr (11, x0), .inl (0, x1), .inl (0, x2), .inl (0, x3)] [.inr (25, x0 + 1), .inl (0, x1)] 0 0 K))) :
  tRun E 259 (30, [.inr (11, x0), .inl (0, x1), .inl (0, x2), .inl (0, x3)], [.inl (0, y1), .inr (25, y0)], 0, 0, d) K := tT_run (cut := [0, 11, 30, 46, 57]) 10 _ h
theorem t_259_46 {E : mO × tW} {K : tK} {d : mD} {x0 x1 x2 x3 y0 y1 y2 : Int}
  (h : (0 ≤ y2 + 3 ∧ y2 + 3 < 3116) ∧ tCall E 179 [.inl (0, x3)] d (tbk E 259 54 [.inr (11, x0), .inl (0, x1), .inl (0, x2), .inl (0, x3)] [.inr (25, x0 + 1), .inl (0, d y1 (y2 + 3)), .inl (0, y0)] 0 0 K)) :
  tRun E 259 (46, [.inr (11, x0), .inl (0, x1), .inl (0, x2), .inl (0, x3)], [.inl (0, y2), .inr (25, y1), .inl (0, y0)], 0, 0, d) K := tT_run (cut := [0, 11, 30, 46, 57]) 7 _ h
theorem t_259_57 {E : mO × tW} {K : tK} {d : mD} {x0 x1 x2 x3 y0 y1 y2 y3 : Int}
  (h : (0 ≤ y3 + 2 ∧ y3 + 2 < 3116) ∧ tRun E 259 (11, [.inr (11, x0), .inl (0, y0 + (y1 - (d y2 (y3 + 2)))), .inl (0, x2 + 1), .inl (0, x3 + 1)], [], 0, 0, d) K) :
  tRun E 259 (57, [.inr (11, x0), .inl (0, x1), .inl (0, x2), .inl (0, x3)], [.inl (0, y3), .inr (25, y2), .inl (0, y1), .inl (0, y0)], 0, 0, d) K := tT_run (cut := [0, 11, 30, 46, 57]) 9 _ h
theorem t_260_0 {E : mO × tW} {K : tK} {d : mD} {x0 : Int}
  (h : tRun E 260 (9, [.inr (11, x0), .inl (0, 0), .inl (0, 0)], [], 0, 0, mset d x0 0 0) K) :
  tRun E 260 (0, [.inr (11, x0), tu, tu], [], 0, 0, d) K := tT_run (cut := [0, 9, 27]) 7 _ h
theorem t_260_9 {E : mO × tW} {K : tK} {d : mD} {x0 x1 x2 : Int}
  (h : (0 ≤ (8 : Int) ∧ (8 : Int) < 3116) ∧ (mInR x2 ∧ mInR (d (x0 + 1) 8)) ∧ (d (x0 + 1) 8 ≤ x2 → mInR x1 ∧ (¬ x1 = 0 → (0 ≤ (10 : Int) ∧ (10 : Int) < 3116) ∧ vf_n64 (FP.ddiv (mbit (mi2d (d (x0 + 1) 10))) (mbit (mi2d x1))) ∧ K (.inl (some (2, mddiv (mi2d (d (x0 + 1) 10)) (mi2d x1)))) d) ∧ (x1 = 0 → K (.inl (some (2, 0))) d)) ∧ (x2 < d (x0 + 1) 8 → tCall E 244 [.inr (11, x0), .inl (0, x2), .inl (0, 0)] d (tbk E 260 24 [.inr (11, x0), .inl (0, x1), .inl (0, x2)] [.inl (0, x1)] 0 0 K))) :
  tRun E 260 (9, [.inr (11, x0), .inl (0, x1), .inl (0, x2)], [], 0, 0, d) K := tT_run (cut := [0, 9, 27]) 17 _ h
theorem t_260_27 {E : mO × tW} {K : tK} {d : mD} {x0 x1 x2 y0 y1 : Int}
  (h : tRun E 260 (9, [.inr (11, x0), .inl (0, y0 + y1), .inl (0, x2 + 1)], [], 0, 0, d) K) :
  tRun E 260 (27, [.inr (11, x0), .inl (0, x1), .inl (0, x2)], [.inl (0, y1), .inl (0, y0)], 0, 0, d) K := tT_run (cut := [0, 9, 27]) 4 _ h
theorem t_261_0 {E : mO × tW} {K : tK} {d : mD} {x0 : Int}
  (h : tRun E 261 (11, [.inr (11, x0), .inl (0, (-1)), .inl (0, 0), .inl (0, 0), tu], [], 0, 0, mset d x0 0 0) K) :
  tRun E 261 (0, [.inr (11, x0), tu, tu, tu, tu], [], 0, 0, d) K := tT_run (cut := [0, 11, 28]) 9 _ h
theorem t_261_11 {E : mO × tW} {K : tK} {d : mD} {x0 x1 x2 x3 : Int} {v4 : tV}
  (h : (0 ≤ (8 : Int) ∧ (8 : Int) < 3116) ∧ (mInR x3 ∧ mInR (d (x0 + 1) 8)) ∧ (d (x0 + 1) 8 ≤ x3 → K (.inl (some (0, x1))) d) ∧ (x3 < d (x0 + 1) 8 → tCall E 244 [.inr (11, x0), .inl (0, x3), .inl (0, 0)] d (tbk E 261 25 [.inr (11, x0), .inl (0, x1), .inl (0, x2), .inl (0, x3), v4] [] 0 0 K))) :
  tRun E 261 (11, [.inr (11, x0), .inl (0, x1), .inl (0, x2), .inl (0, x3), v4], [], 0, 0, d) K := tT_run (cut := [0, 11, 28]) 10 _ h
theorem t_261_28 {E : mO × tW} {K : tK} {d : mD} {x0 x1 x2 x3 y0 : Int} {v4 : tV}
  (h : (mInR y0 ∧ mInR x2) ∧ (y0 ≤ x2 → (mInR y0 ∧ mInR x2) ∧ (y0 ≤ x2 → tRun E 261 (11, [.inr (11, x0), .inl (0, x1), .inl (0, x2), .inl (0, x3 + 1), .inl (0, y0)], [], 0, 0, d) K) ∧ (x2 < y0 → tRun E 261 (11, [.inr (11, x0), .inl (0, x1), .inl (0, y0), .inl (0, x3 + 1), .inl (0, y0)], [], 0, 0, d) K)) ∧ (x2 < y0 → (mInR y0 ∧ mInR x2) ∧ (y0 ≤ x2 → tRun E 261 (11, [.inr (11, x0), .inl (0, x3), .inl (0, x2), .inl (0, x3 + 1), .inl (0, y0)], [], 0, 0, d) K) ∧ (x2 < y0 → tRun E 261 (11, [.inr (11, x0), .inl (0, x3), .inl (0, y0), .inl (0, x3 + 1), .inl (0, y0)], [], 0, 0, d) K))) :
  tRun E 261 (28, [.inr (11, x0), .inl (0, x1), .inl (0, x2), .inl (0, x3), v4], [.inl (0, y0)], 0, 0, d) K := tT_run (cut := [0, 11, 28]) 15 _ h
theorem t_262_0 {E : mO × tW} {K : tK} {d : mD} {x0 : Int}
  (h : (0 ≤ (10 : Int) ∧ (10 : Int) < 3116) ∧ tRun E 262 (15, [.inr (11, x0), .inl (0, (mset d x0 0 0) (x0 + 1) 10), .inl (0, 0), tu], [], 0, 0, mset d x0 0 0) K) :
  tRun E 262 (0, [.inr (11, x0), tu, tu, tu], [], 0, 0, d) K := tT_run (cut := [0, 15, 35, 46, 58, 72, 83, 94, 99]) 10 _ h
theorem t_262_15 {E : mO × tW} {K : tK} {d : mD} {x0 x1 x2 : Int} {v3 : tV}
  (h : (0 ≤ (10 : Int) ∧ (10 : Int) < 3116) ∧ (mInR x2 ∧ mInR (d (x0 + 1) 10)) ∧ (d (x0 + 1) 10 ≤ x2 → K (.inl (some (0, x1))) d) ∧ (x2 < d (x0 + 1) 10 → tCall E 180 [.inl (0, x2)] d (tbk E 262 32 [.inr (11, x0), .inl (0, x1), .inl (0, x2), v3] [.inr (25, x0 + 1), .inl (0, x1)] 0 0 K))) :
  tRun E 262 (15, [.inr (11, x0), .inl (0, x1), .inl (0, x2), v3], [], 0, 0, d) K := tT_run (cut := [0, 15, 35, 46, 58, 72, 83, 94, 99]) 11 _ h
theorem t_262_35 {E : mO × tW} {K : tK} {d : mD} {x0 x1 x2 y0 y1 y2 : Int} {v3 : tV}
  (h : (0 ≤ y2 + 3 ∧ y2 + 3 < 3116) ∧ mInR (d y1 (y2 + 3)) ∧ tCall E 176 [.inl (1, d y1 (y2 + 3)), .inl (1, 0), .inl (1, 2)] d (tbk E 262 43 [.inr (11, x0), .inl (0, x1), .inl (0, x2), v3] [.inl (0, y0)] 0 0 K)) :
  tRun E 262 (35, [.inr (11, x0), .inl (0, x1), .inl (0, x2), v3], [.inl (0, y2), .inr (25, y1), .inl (0, y0)], 0, 0, d) K := tT_run (cut := [0, 15, 35, 46, 58, 72, 83, 94, 99]) 7 _ h
theorem t_262_46 {E : mO × tW} {K : tK} {d : mD} {x0 x1 x2 y0 y1 : Int} {v3 : tV}
  (h : mInR y1 ∧ (y1 = 0 → tRun E 262 (58, [.inr (11, x0), .inl (0, y0 - 0), .inl (0, x2), .inl (0, 0)], [], 0, 0, d) K) ∧ (¬ y1 = 0 → tRun E 262 (58, [.inr (11, x0), .inl (0, y0 - 1), .inl (0, x2), .inl (0, 0)], [], 0, 0, d) K)) :
  tRun E 262 (46, [.inr (11, x0), .inl (0, x1), .inl (0, x2), v3], [.inl (0, y1), .inl (0, y0)], 0, 0, d) K := tT_run (cut := [0, 15, 35, 46, 58, 72, 83, 94, 99]) 7 _ h
theorem t_262_58 {E : mO × tW} {K : tK} {d : mD} {x0 x1 x2 x3 : Int}
  (h : (mInR x3 ∧ mInR x2) ∧ (x2 ≤ x3 → tRun E 262 (15, [.inr (11, x0), .inl (0, x1), .inl (0, x2 + 1), .inl (0, x3)], [], 0, 0, d) K) ∧ (x3 < x2 → tCall E 180 [.inl (0, x2)] d (tbk E 262 69 [.inr (11, x0), .inl (0, x1), .inl (0, x2), .inl (0, x3)] [.inr (25, x0 + 1), .inl (0, x1)] 0 0 K))) :
  tRun E 262 (58, [.inr (11, x0), .inl (0, x1), .inl (0, x2), .inl (0, x3)], [], 0, 0, d) K := tT_run (cut := [0, 15, 35, 46, 58, 72, 83, 94, 99]) 8 _ h
theorem t_262_72 {E : mO × tW} {K : tK} {d : mD} {x0 x1 x2 x3 y0 y1 y2 : Int}
  (h : (0 ≤ y2 + 2 ∧ y2 + 2 < 3116) ∧ tCall E 180 [.inl (0, x3)] d (tbk E 262 80 [.inr (11, x0), .inl (0, x1), .inl (0, x2), .inl (0, x3)] [.inr (25, x0 + 1), .inl (0, d y1 (y2 + 2)), .inl (0, y0)] 0 0 K)) :
  tRun E 262 (72, [.inr (11, x0), .inl (0, x1), .inl (0, x2), .inl (0, x3)], [.inl (0, y2), .inr (25, y1), .inl (0, y0)], 0, 0, d) K := tT_run (cut := [0, 15, 35, 46, 58, 72, 83, 94, 99]) 7 _ h
theorem t_262_83 {E : mO × tW} {K : tK} {d : mD} {x0 x1 x2 x3 y0 y1 y2 y3 : Int}
  (h : (0 ≤ y3 + 2 ∧ y3 + 2 < 3116) ∧ (mInR y1 ∧ mInR (d y2 (y3 + 2))) ∧ (¬ y1 = d y2 (y3 + 2) → tRun E 262 (58, [.inr (11, x0), .inl (0, y0 + 0), .inl (0, x2), .inl (0, x3 + 1)], [], 0, 0, d) K) ∧ (y1 = d y2 (y3 + 2) → tCall E 215 [.inr (11, x0), .inl (0, x2)] d (tbk E 262 91 [.inr (11, x0), .inl (0, x1), .inl (0, x2), .inl (0, x3)] [.inl (0, y0)] 0 0 K))) :
  tRun E 262 (83, [.inr (11, x0), .inl (0, x1), .inl (0, x2), .inl (0, x3)], [.inl (0, y3), .inr (25, y2), .inl (0, y1), .inl (0, y0)], 0, 0, d) K := tT_run (cut := [0, 15, 35, 46, 58, 72, 83, 94, 99]) 9 _ h
theorem t_262_94 {E : mO × tW} {K : tK} {d : mD} {x0 x1 x2 x3 y0 y1 : Int}
  (h : tCall E 215 [.inr (11, x0), .inl (0, x3)] d (tbk E 262 96 [.inr (11, x0), .inl (0, x1), .inl (0, x2), .inl (0, x3)] [.inl (0, y1), .inl (0, y0)] 0 0 K)) :
  tRun E 262 (94, [.inr (11, x0), .inl (0, x1), .inl (0, x2), .inl (0, x3)], [.inl (0, y1), .inl (0, y0)], 0, 0, d) K := tT_run (cut := [0, 15, 35, 46, 58, 72, 83, 94, 99]) 3 _ h
theorem t_262_99 {E : mO × tW} {K : tK} {d : mD} {x0 x1 x2 x3 y0 y1 y2 : Int}
  (h : (mInR y1 ∧ mInR y2) ∧ (¬ y1 = y2 → tRun E 262 (58, [.inr (11, x0), .inl (0, y0 + 0), .inl (0, x2), .inl (0, x3 + 1)], [], 0, 0, d) K) ∧ (y1 = y2 → tRun E 262 (58, [.inr (11, x0), .inl (0, y0 + 1), .inl (0, x2), .inl (0, x3 + 1)], [], 0, 0, d) K)) :
  tRun E 262 (99, [.inr (11, x0), .inl (0, x1), .inl (0, x2), .inl (0, x3)], [.inl (0, y2), .inl (0, y1), .inl (0, y0)], 0, 0, d) K := tT_run (cut := [0, 15, 35, 46, 58, 72, 83, 94, 99]) 7 _ h
theorem t_263_0 {E : mO × tW} {K : tK} {d : mD} {x0 x1 : Int}
  (h : tRun E 263 (2, [.inr (11, x0), .inl (0, x1), .inl (0, 0)], [], 0, 0, d) K) :
  tRun E 263 (0, [.inr (11, x0), .inl (0, x1), tu], [], 0, 0, d) K := tT_run (cut := [0, 2, 17, 28]) 2 _ h
theorem t_263_2 {E : mO × tW} {K : tK} {d : mD} {x0 x1 x2 : Int}
  (h : (mInR x2 ∧ mInR 200) ∧ (200 < x2 → K (.inl (some (0, x2))) d) ∧ (x2 ≤ 200 → tCall E 179 [.inl (0, x1)] d (tbk E 263 14 [.inr (11, x0), .inl (0, x1), .inl (0, x2)] [.inr (25, x0 + 1)] 0 0 K))) :
  tRun E 263 (2, [.inr (11, x0), .inl (0, x1), .inl (0, x2)], [], 0, 0, d) K := tT_run (cut := [0, 2, 17, 28]) 7 _ h
theorem t_263_17 {E : mO × tW} {K : tK} {d : mD} {x0 x1 x2 y0 y1 : Int}
  (h : (0 ≤ y1 + 4 ∧ y1 + 4 < 3116) ∧ (mInR (d y0 (y1 + 4)) ∧ mInR 1) ∧ (d y0 (y1 + 4) = 1 → K (.inl (some (0, x2))) d) ∧ (¬ d y0 (y1 + 4) = 1 → tCall E 223 [.inr (11, x0)] d (tbk E 263 25 [.inr (11, x0), .inl (0, x1), .inl (0, x2)] [] 0 0 K))) :
  tRun E 263 (17, [.inr (11, x0), .inl (0, x1), .inl (0, x2)], [.inl (0, y1), .inr (25, y0)], 0, 0, d) K := tT_run (cut := [0, 2, 17, 28]) 7 _ h
theorem t_263_28 {E : mO × tW} {K : tK} {d : mD} {x0 x1 x2 : Int}
  (h : tRun E 263 (2, [.inr (11, x0), .inl (0, x1), .inl (0, x2 + 1)], [], 0, 0, d) K) :
  tRun E 263 (28, [.inr (11, x0), .inl (0, x1), .inl (0, x2)], [], 0, 0, d) K := tT_run (cut := [0, 2, 17, 28]) 2 _ h
theorem t_264_0 {E : mO × tW} {K : tK} {d : mD} {x0 x1 : Int}
  (h : tCall E 238 [.inr (11, x0), .inl (0, x1)] d (tbk E 264 3 [.inr (11, x0), .inl (0, x1), tu] [.inr (11, x0)] 0 0 K)) :
  tRun E 264 (0, [.inr (11, x0), .inl (0, x1), tu], [], 0, 0, d) K := tT_run (cut := [0, 6, 30, 35, 40]) 4 _ h
theorem t_264_6 {E : mO × tW} {K : tK} {d : mD} {x0 x1 y0 y1 : Int}
  (h : mInR y1 ∧ (y1 = 0 → mInR ((mset d y0 0 1) x0 0) ∧ ((mset d y0 0 1) x0 0 ≤ 0 → tCall E 255 [.inr (11, x0)] (mset d y0 0 1) (tbk E 264 27 [.inr (11, x0), .inl (0, x1), tu] [] 0 0 K)) ∧ (0 < (mset d y0 0 1) x0 0 → K (.inl (some (0, 0))) (mset d y0 0 1))) ∧ (¬ y1 = 0 → mInR ((mset d y0 0 0) x0 0) ∧ ((mset d y0 0 0) x0 0 ≤ 0 → tCall E 255 [.inr (11, x0)] (mset d y0 0 0) (tbk E 264 27 [.inr (11, x0), .inl (0, x1), tu] [] 0 0 K)) ∧ (0 < (mset d y0 0 0) x0 0 → K (.inl (some (0, 0))) (mset d y0 0 0)))) :
  tRun E 264 (6, [.inr (11, x0), .inl (0, x1), tu], [.inl (0, y1), .inr (11, y0)], 0, 0, d) K := tT_run (cut := [0, 6, 30, 35, 40]) 9 _ h
theorem t_264_30 {E : mO × tW} {K : tK} {d : mD} {x0 x1 : Int}
  (h : tCall E 263 [.inr (11, x0), .inl (0, x1)] d (tbk E 264 32 [.inr (11, x0), .inl (0, x1), tu] [] 0 0 K)) :
  tRun E 264 (30, [.inr (11, x0), .inl (0, x1), tu], [], 0, 0, d) K := tT_run (cut := [0, 6, 30, 35, 40]) 3 _ h
theorem t_264_35 {E : mO × tW} {K : tK} {d : mD} {x0 x1 y0 : Int}
  (h : tCall E 256 [.inr (11, x0)] d (tbk E 264 37 [.inr (11, x0), .inl (0, x1), .inl (0, y0)] [] 0 0 K)) :
  tRun E 264 (35, [.inr (11, x0), .inl (0, x1), tu], [.inl (0, y0)], 0, 0, d) K := tT_run (cut := [0, 6, 30, 35, 40]) 3 _ h
theorem t_264_40 {E : mO × tW} {K : tK} {d : mD} {x0 x1 x2 : Int}
  (h : (mInR x2 ∧ mInR 200) ∧ (x2 ≤ 200 → mInR ((mset d x0 0 0) x0 0) ∧ ((mset d x0 0 0) x0 0 ≤ 0 → K (.inl (some (0, x2))) (mset d x0 0 0)) ∧ (0 < (mset d x0 0 0) x0 0 → K (.inl (some (0, 0))) (mset d x0 0 0))) ∧ (200 < x2 → mInR ((mset d x0 0 2) x0 0) ∧ ((mset d x0 0 2) x0 0 ≤ 0 → K (.inl (some (0, x2))) (mset d x0 0 2)) ∧ (0 < (mset d x0 0 2) x0 0 → K (.inl (some (0, 0))) (mset d x0 0 2)))) :
  tRun E 264 (40, [.inr (11, x0), .inl (0, x1), .inl (0, x2)], [], 0, 0, d) K := tT_run (cut := [0, 6, 30, 35, 40]) 13 _ h
theorem t_265_0 {E : mO × tW} {K : tK} {d : mD} {x0 x1 x2 : Int}
  (h : tCall E 236 [.inr (11, x0), .inl (0, x1)] d (tbk E 265 3 [.inr (11, x0), .inl (0, x1), .inl (0, x2), tu] [.inr (11, x0)] 0 0 K)) :
  tRun E 265 (0, [.inr (11, x0), .inl (0, x1), .inl (0, x2), tu], [], 0, 0, d) K := tT_run (cut := [0, 6, 22, 46, 48, 57, 71, 79]) 4 _ h
theorem t_265_6 {E : mO × tW} {K : tK} {d : mD} {x0 x1 x2 y0 y1 : Int}
  (h : mInR y1 ∧ (¬ y1 = 0 → mInR x2 ∧ tCall E 176 [.inl (1, x2), .inl (1, 0), .inl (1, 200)] d (tbk E 265 19 [.inr (11, x0), .inl (0, x1), .inl (0, x2), tu] [.inr (11, y0)] 0 0 K)) ∧ (y1 = 0 → mInR ((mset d y0 0 1) x0 0) ∧ ((mset d y0 0 1) x0 0 ≤ 0 → tCall E 255 [.inr (11, x0)] (mset d y0 0 1) (tbk E 265 43 [.inr (11, x0), .inl (0, x1), .inl (0, x2), tu] [] 0 0 K)) ∧ (0 < (mset d y0 0 1) x0 0 → K (.inl (some (0, 0))) (mset d y0 0 1)))) :
  tRun E 265 (6, [.inr (11, x0), .inl (0, x1), .inl (0, x2), tu], [.inl (0, y1), .inr (11, y0)], 0, 0, d) K := tT_run (cut := [0, 6, 22, 46, 48, 57, 71, 79]) 9 _ h
theorem t_265_22 {E : mO × tW} {K : tK} {d : mD} {x0 x1 x2 y0 y1 : Int}
  (h : mInR y1 ∧ (y1 = 0 → mInR ((mset d y0 0 2) x0 0) ∧ ((mset d y0 0 2) x0 0 ≤ 0 → tCall E 255 [.inr (11, x0)] (mset d y0 0 2) (tbk E 265 43 [.inr (11, x0), .inl (0, x1), .inl (0, x2), tu] [] 0 0 K)) ∧ (0 < (mset d y0 0 2) x0 0 → K (.inl (some (0, 0))) (mset d y0 0 2))) ∧ (¬ y1 = 0 → mInR ((mset d y0 0 0) x0 0) ∧ ((mset d y0 0 0) x0 0 ≤ 0 → tCall E 255 [.inr (11, x0)] (mset d y0 0 0) (tbk E 265 43 [.inr (11, x0), .inl (0, x1), .inl (0, x2), tu] [] 0 0 K)) ∧ (0 < (mset d y0 0 0) x0 0 → K (.inl (some (0, 0))) (mset d y0 0 0)))) :
  tRun E 265 (22, [.inr (11, x0), .inl (0, x1), .inl (0, x2), tu], [.inl (0, y1), .inr (11, y0)], 0, 0, d) K := tT_run (cut := [0, 6, 22, 46, 48, 57, 71, 79]) 9 _ h
theorem t_265_46 {E : mO × tW} {K : tK} {d : mD} {x0 x1 x2 : Int}
  (h : tRun E 265 (48, [.inr (11, x0), .inl (0, x1), .inl (0, x2), .inl (0, 0)], [], 0, 0, d) K) :
  tRun E 265 (46, [.inr (11, x0), .inl (0, x1), .inl (0, x2), tu], [], 0, 0, d) K := tT_run (cut := [0, 6, 22, 46, 48, 57, 71, 79]) 2 _ h
theorem t_265_48 {E : mO × tW} {K : tK} {d : mD} {x0 x1 x2 x3 : Int}
  (h : (mInR x3 ∧ mInR x2) ∧ (x2 ≤ x3 → tCall E 177 [.inl (0, x1)] d (tbk E 265 68 [.inr (11, x0), .inl (0, x1), .inl (0, x2), .inl (0, x3)] [.inr (25, x0 + 1)] 0 0 K)) ∧ (x3 < x2 → tCall E 223 [.inr (11, x0)] d (tbk E 265 54 [.inr (11, x0), .inl (0, x1), .inl (0, x2), .inl (0, x3)] [] 0 0 K))) :
  tRun E 265 (48, [.inr (11, x0), .inl (0, x1), .inl (0, x2), .inl (0, x3)], [], 0, 0, d) K := tT_run (cut := [0, 6, 22, 46, 48, 57, 71, 79]) 7 _ h
theorem t_265_57 {E : mO × tW} {K : tK} {d : mD} {x0 x1 x2 x3 : Int}
  (h : tRun E 265 (48, [.inr (11, x0), .inl (0, x1), .inl (0, x2), .inl (0, x3 + 1)], [], 0, 0, d) K) :
  tRun E 265 (57, [.inr (11, x0), .inl (0, x1), .inl (0, x2), .inl (0, x3)], [], 0, 0, d) K := tT_run (cut := [0, 6, 22, 46, 48, 57, 71, 79]) 2 _ h
theorem t_265_71 {E : mO × tW} {K : tK} {d : mD} {x0 x1 x2 x3 y0 y1 : Int}
  (h : (0 ≤ y1 + 5 ∧ y1 + 5 < 3116) ∧ tCall E 256 [.inr (11, x0)] d (tbk E 265 76 [.inr (11, x0), .inl (0, x1), .inl (0, x2), .inl (0, d y0 (y1 + 5))] [] 0 0 K)) :
  tRun E 265 (71, [.inr (11, x0), .inl (0, x1), .inl (0, x2), .inl (0, x3)], [.inl (0, y1), .inr (25, y0)], 0, 0, d) K := tT_run (cut := [0, 6, 22, 46, 48, 57, 71, 79]) 6 _ h
theorem t_265_79 {E : mO × tW} {K : tK} {d : mD} {x0 x1 x2 x3 : Int}
  (h : K (.inl (some (0, x3))) d) :
  tRun E 265 (79, [.inr (11, x0), .inl (0, x1), .inl (0, x2), .inl (0, x3)], [], 0, 0, d) K := tT_run (cut := [0, 6, 22, 46, 48, 57, 71, 79]) 2 _ h
theorem t_266_0 {E : mO × tW} {K : tK} {d : mD} {x0 x1 : Int}
  (h : mInR x1 ∧ tCall E 176 [.inl (1, x1), .inl (1, 0), .inl (1, 200)] d (tbk E 266 7 [.inr (11, x0), .inl (0, x1), tu] [.inr (11, x0)] 0 0 K)) :
  tRun E 266 (0, [.inr (11, x0), .inl (0, x1), tu], [], 0, 0, d) K := tT_run (cut := [0, 10, 34, 36, 45, 63]) 6 _ h
theorem t_266_10 {E : mO × tW} {K : tK} {d : mD} {x0 x1 y0 y1 : Int}
  (h : mInR y1 ∧ (y1 = 0 → mInR ((mset d y0 0 1) x0 0) ∧ ((mset d y0 0 1) x0 0 ≤ 0 → tCall E 255 [.inr (11, x0)] (mset d y0 0 1) (tbk E 266 31 [.inr (11, x0), .inl (0, x1), tu] [] 0 0 K)) ∧ (0 < (mset d y0 0 1) x0 0 → K (.inl (some (0, 0))) (mset d y0 0 1))) ∧ (¬ y1 = 0 → mInR ((mset d y0 0 0) x0 0) ∧ ((mset d y0 0 0) x0 0 ≤ 0 → tCall E 255 [.inr (11, x0)] (mset d y0 0 0) (tbk E 266 31 [.inr (11, x0), .inl (0, x1), tu] [] 0 0 K)) ∧ (0 < (mset d y0 0 0) x0 0 → K (.inl (some (0, 0))) (mset d y0 0 0)))) :
  tRun E 266 (10, [.inr (11, x0), .inl (0, x1), tu], [.inl (0, y1), .inr (11, y0)], 0, 0, d) K := tT_run (cut := [0, 10, 34, 36, 45, 63]) 9 _ h
theorem t_266_34 {E : mO × tW} {K : tK} {d : mD} {x0 x1 : Int}
  (h : tRun E 266 (36, [.inr (11, x0), .inl (0, x1), .inl (0, 0)], [], 0, 0, d) K) :
  tRun E 266 (34, [.inr (11, x0), .inl (0, x1), tu], [], 0, 0, d) K := tT_run (cut := [0, 10, 34, 36, 45, 63]) 2 _ h
theorem t_266_36 {E : mO × tW} {K : tK} {d : mD} {x0 x1 x2 : Int}
  (h : (mInR x2 ∧ mInR x1) ∧ (x1 ≤ x2 → (0 ≤ (10 : Int) ∧ (10 : Int) < 3116) ∧ tCall E 256 [.inr (11, x0)] d (tbk E 266 60 [.inr (11, x0), .inl (0, x1), .inl (0, d (x0 + 1) 10)] [] 0 0 K)) ∧ (x2 < x1 → tCall E 223 [.inr (11, x0)] d (tbk E 266 42 [.inr (11, x0), .inl (0, x1), .inl (0, x2)] [] 0 0 K))) :
  tRun E 266 (36, [.inr (11, x0), .inl (0, x1), .inl (0, x2)], [], 0, 0, d) K := tT_run (cut := [0, 10, 34, 36, 45, 63]) 10 _ h
theorem t_266_45 {E : mO × tW} {K : tK} {d : mD} {x0 x1 x2 : Int}
  (h : tRun E 266 (36, [.inr (11, x0), .inl (0, x1), .inl (0, x2 + 1)], [], 0, 0, d) K) :
  tRun E 266 (45, [.inr (11, x0), .inl (0, x1), .inl (0, x2)], [], 0, 0, d) K := tT_run (cut := [0, 10, 34, 36, 45, 63]) 2 _ h
theorem t_266_63 {E : mO × tW} {K : tK} {d : mD} {x0 x1 x2 : Int}
  (h : K (.inl (some (0, x2))) d) :
  tRun E 266 (63, [.inr (11, x0), .inl (0, x1), .inl (0, x2)], [], 0, 0, d) K := tT_run (cut := [0, 10, 34, 36, 45, 63]) 2 _ h
theorem t_267_0 {E : mO × tW} {K : tK} {d : mD} {x0 x1 : Int}
  (h : tCall E 177 [.inl (0, x1)] d (tbk E 267 5 [.inr (11, x0), .inl (0, x1), tu] [.inr (25, x0 + 1)] 0 0 K)) :
  tRun E 267 (0, [.inr (11, x0), .inl (0, x1), tu], [], 0, 0, d) K := tT_run (cut := [0, 8, 22, 29, 32, 37]) 4 _ h
theorem t_267_8 {E : mO × tW} {K : tK} {d : mD} {x0 x1 y0 y1 : Int}
  (h : (0 ≤ y1 + 4 ∧ y1 + 4 < 3116) ∧ mInR (d y0 (y1 + 4)) ∧ (¬ d y0 (y1 + 4) = 0 → tCall E 255 [.inr (11, x0)] d (tbk E 267 19 [.inr (11, x0), .inl (0, x1), tu] [] 0 0 K)) ∧ (d y0 (y1 + 4) = 0 → K (.inl (some (0, 201))) d)) :
  tRun E 267 (8, [.inr (11, x0), .inl (0, x1), tu], [.inl (0, y1), .inr (25, y0)], 0, 0, d) K := tT_run (cut := [0, 8, 22, 29, 32, 37]) 6 _ h
theorem t_267_22 {E : mO × tW} {K : tK} {d : mD} {x0 x1 : Int}
  (h : tCall E 224 [.inr (11, x0), .inl (0, 0), .inl (0, x1)] d (tbk E 267 26 [.inr (11, x0), .inl (0, x1), tu] [.inr (11, x0)] 0 0 K)) :
  tRun E 267 (22, [.inr (11, x0), .inl (0, x1), tu], [], 0, 0, d) K := tT_run (cut := [0, 8, 22, 29, 32, 37]) 5 _ h
theorem t_267_29 {E : mO × tW} {K : tK} {d : mD} {x0 x1 y0 y1 : Int}
  (h : tCall E 263 [.inr (11, y0), .inl (0, y1)] d (tbk E 267 29 [.inr (11, x0), .inl (0, x1), tu] [] 0 0 K)) :
  tRun E 267 (29, [.inr (11, x0), .inl (0, x1), tu], [.inl (0, y1), .inr (11, y0)], 0, 0, d) K := tT_run (cut := [0, 8, 22, 29, 32, 37]) 1 _ h
theorem t_267_32 {E : mO × tW} {K : tK} {d : mD} {x0 x1 y0 : Int}
  (h : tCall E 256 [.inr (11, x0)] d (tbk E 267 34 [.inr (11, x0), .inl (0, x1), .inl (0, y0)] [] 0 0 K)) :
  tRun E 267 (32, [.inr (11, x0), .inl (0, x1), tu], [.inl (0, y0)], 0, 0, d) K := tT_run (cut := [0, 8, 22, 29, 32, 37]) 3 _ h
theorem t_267_37 {E : mO × tW} {K : tK} {d : mD} {x0 x1 x2 : Int}
  (h : K (.inl (some (0, x2))) d) :
  tRun E 267 (37, [.inr (11, x0), .inl (0, x1), .inl (0, x2)], [], 0, 0, d) K := tT_run (cut := [0, 8, 22, 29, 32, 37]) 2 _ h
theorem t_268_0 {E : mO × tW} {K : tK} {d : mD} {x0 x1 : Int}
  (h : tCall E 236 [.inr (11, x0), .inl (0, x1)] d (tbk E 268 3 [.inr (11, x0), .inl (0, x1), tu] [.inr (11, x0)] 0 0 K)) :
  tRun E 268 (0, [.inr (11, x0), .inl (0, x1), tu], [], 0, 0, d) K := tT_run (cut := [0, 6, 31]) 4 _ h
theorem t_268_6 {E : mO × tW} {K : tK} {d : mD} {x0 x1 y0 y1 : Int}
  (h : mInR y1 ∧ (y1 = 0 → mInR ((mset d y0 0 1) x0 0) ∧ ((mset d y0 0 1) x0 0 ≤ 0 → tCall E 267 [.inr (11, x0), .inl (0, x1)] (mset d y0 0 1) (tbk E 268 28 [.inr (11, x0), .inl (0, x1), tu] [] 0 0 K)) ∧ (0 < (mset d y0 0 1) x0 0 → K (.inl (some (0, 0))) (mset d y0 0 1))) ∧ (¬ y1 = 0 → mInR ((mset d y0 0 0) x0 0) ∧ ((mset d y0 0 0) x0 0 ≤ 0 → tCall E 267 [.inr (11, x0), .inl (0, x1)] (mset d y0 0 0) (tbk E 268 28 [.inr (11, x0), .inl (0, x1), tu] [] 0 0 K)) ∧ (0 < (mset d y0 0 0) x0 0 → K (.inl (some (0, 0))) (mset d y0 0 0)))) :
  tRun E 268 (6, [.inr (11, x0), .inl (0, x1), tu], [.inl (0, y1), .inr (11, y0)], 0, 0, d) K := tT_run (cut := [0, 6, 31]) 10 _ h
theorem t_268_31 {E : mO × tW} {K : tK} {d : mD} {x0 x1 y0 : Int}
  (h : (mInR y0 ∧ mInR 200) ∧ (y0 ≤ 200 → mInR ((mset d x0 0 0) x0 0) ∧ ((mset d x0 0 0) x0 0 ≤ 0 → K (.inl (some (0, y0))) (mset d x0 0 0)) ∧ (0 < (mset d x0 0 0) x0 0 → K (.inl (some (0, 0))) (mset d x0 0 0))) ∧ (200 < y0 → mInR ((mset d x0 0 2) x0 0) ∧ ((mset d x0 0 2) x0 0 ≤ 0 → K (.inl (some (0, y0))) (mset d x0 0 2)) ∧ (0 < (mset d x0 0 2) x0 0 → K (.inl (some (0, 0))) (mset d x0 0 2)))) :
  tRun E 268 (31, [.inr (11, x0), .inl (0, x1), tu], [.inl (0, y0)], 0, 0, d) K := tT_run (cut := [0, 6, 31]) 14 _ h
theorem t_269_0 {E : mO × tW} {K : tK} {d : mD} {x0 : Int}
  (h : tRun E 269 (8, [.inr (11, x0), .inl (0, (-1)), .inl (0, 201), .inl (0, 0), tu], [], 0, 0, d) K) :
  tRun E 269 (0, [.inr (11, x0), tu, tu, tu, tu], [], 0, 0, d) K := tT_run (cut := [0, 8, 24]) 6 _ h
theorem t_269_8 {E : mO × tW} {K : tK} {d : mD} {x0 x1 x2 x3 : Int} {v4 : tV}
  (h : (0 ≤ (7 : Int) ∧ (7 : Int) < 3116) ∧ (mInR x3 ∧ mInR (d (x0 + 1) 7)) ∧ (d (x0 + 1) 7 ≤ x3 → (mInR x1 ∧ mInR ((-1))) ∧ (¬ x1 = (-1) → mInR ((mset d x0 0 0) x0 0) ∧ ((mset d x0 0 0) x0 0 ≤ 0 → K (.inl (some (0, x1))) (mset d x0 0 0)) ∧ (0 < (mset d x0 0 0) x0 0 → K (.inl (some (0, 0))) (mset d x0 0 0))) ∧ (x1 = (-1) → mInR ((mset d x0 0 1) x0 0) ∧ ((mset d x0 0 1) x0 0 ≤ 0 → K (.inl (some (0, x1))) (mset d x0 0 1)) ∧ (0 < (mset d x0 0 1) x0 0 → K (.inl (some (0, 0))) (mset d x0 0 1)))) ∧ (x3 < d (x0 + 1) 7 → tCall E 267 [.inr (11, x0), .inl (0, x3)] d (tbk E 269 21 [.inr (11, x0), .inl (0, x1), .inl (0, x2), .inl (0, x3), v4] [] 0 0 K))) :
  tRun E 269 (8, [.inr (11, x0), .inl (0, x1), .inl (0, x2), .inl (0, x3), v4], [], 0, 0, d) K := tT_run (cut := [0, 8, 24]) 19 _ h
theorem t_269_24 {E : mO × tW} {K : tK} {d : mD} {x0 x1 x2 x3 y0 : Int} {v4 : tV}
  (h : (mInR y0 ∧ mInR x2) ∧ (x2 ≤ y0 → (mInR y0 ∧ mInR x2) ∧ (x2 ≤ y0 → tRun E 269 (8, [.inr (11, x0), .inl (0, x1), .inl (0, x2), .inl (0, x3 + 1), .inl (0, y0)], [], 0, 0, d) K) ∧ (y0 < x2 → tRun E 269 (8, [.inr (11, x0), .inl (0, x1), .inl (0, y0), .inl (0, x3 + 1), .inl (0, y0)], [], 0, 0, d) K)) ∧ (y0 < x2 → (mInR y0 ∧ mInR x2) ∧ (x2 ≤ y0 → tRun E 269 (8, [.inr (11, x0), .inl (0, x3), .inl (0, x2), .inl (0, x3 + 1), .inl (0, y0)], [], 0, 0, d) K) ∧ (y0 < x2 → tRun E 269 (8, [.inr (11, x0), .inl (0, x3), .inl (0, y0), .inl (0, x3 + 1), .inl (0, y0)], [], 0, 0, d) K))) :
  tRun E 269 (24, [.inr (11, x0), .inl (0, x1), .inl (0, x2), .inl (0, x3), v4], [.inl (0, y0)], 0, 0, d) K := tT_run (cut := [0, 8, 24]) 15 _ h
theorem t_270_0 {E : mO × tW} {K : tK} {d : mD} {x0 x1 x2 : Int}
  (h : (mInR x1 ∧ mInR x2) ∧ (x1 = x2 → ((0 : Int) = 0 ∨ (0 : Int) = 1) ∧ K (.inl (some (0, 0))) d) ∧ (¬ x1 = x2 → tCall E 177 [.inl (0, x1)] d (tbk E 270 10 [.inr (11, x0), .inl (0, x1), .inl (0, x2)] [.inr (25, x0 + 1)] 0 0 K))) :
  tRun E 270 (0, [.inr (11, x0), .inl (0, x1), .inl (0, x2)], [], 0, 0, d) K := tT_run (cut := [0, 13, 27]) 7 _ h
theorem t_270_13 {E : mO × tW} {K : tK} {d : mD} {x0 x1 x2 y0 y1 : Int}
  (h : (0 ≤ y1 + 4 ∧ y1 + 4 < 3116) ∧ mInR (d y0 (y1 + 4)) ∧ (d y0 (y1 + 4) = 0 → ((0 : Int) = 0 ∨ (0 : Int) = 1) ∧ K (.inl (some (0, 0))) d) ∧ (¬ d y0 (y1 + 4) = 0 → tCall E 177 [.inl (0, x2)] d (tbk E 270 24 [.inr (11, x0), .inl (0, x1), .inl (0, x2)] [.inr (25, x0 + 1)] 0 0 K))) :
  tRun E 270 (13, [.inr (11, x0), .inl (0, x1), .inl (0, x2)], [.inl (0, y1), .inr (25, y0)], 0, 0, d) K := tT_run (cut := [0, 13, 27]) 8 _ h
theorem t_270_27 {E : mO × tW} {K : tK} {d : mD} {x0 x1 x2 y0 y1 : Int}
  (h : (0 ≤ y1 + 4 ∧ y1 + 4 < 3116) ∧ mInR (d y0 (y1 + 4)) ∧ (d y0 (y1 + 4) = 0 → ((0 : Int) = 0 ∨ (0 : Int) = 1) ∧ K (.inl (some (0, 0))) d) ∧ (¬ d y0 (y1 + 4) = 0 → ((1 : Int) = 0 ∨ (1 : Int) = 1) ∧ K (.inl (some (0, 1))) d)) :
  tRun E 270 (27, [.inr (11, x0), .inl (0, x1), .inl (0, x2)], [.inl (0, y1), .inr (25, y0)], 0, 0, d) K := tT_run (cut := [0, 13, 27]) 7 _ h
theorem t_271_0 {E : mO × tW} {K : tK} {d : mD} {x0 : Int}
  (h : tRun E 271 (4, [.inr (11, x0), .inl (0, 0), .inl (0, 0)], [], 0, 0, d) K) :
  tRun E 271 (0, [.inr (11, x0), tu, tu], [], 0, 0, d) K := tT_run (cut := [0, 4, 24]) 4 _ h
theorem t_271_4 {E : mO × tW} {K : tK} {d : mD} {x0 x1 x2 : Int}
  (h : (0 ≤ (7 : Int) ∧ (7 : Int) < 3116) ∧ (mInR x2 ∧ mInR (d (x0 + 1) 7)) ∧ (d (x0 + 1) 7 ≤ x2 → K (.inl (some (0, x1))) d) ∧ (x2 < d (x0 + 1) 7 → tCall E 177 [.inl (0, x2)] d (tbk E 271 21 [.inr (11, x0), .inl (0, x1), .inl (0, x2)] [.inr (25, x0 + 1), .inl (0, x1)] 0 0 K))) :
  tRun E 271 (4, [.inr (11, x0), .inl (0, x1), .inl (0, x2)], [], 0, 0, d) K := tT_run (cut := [0, 4, 24]) 11 _ h
theorem t_271_24 {E : mO × tW} {K : tK} {d : mD} {x0 x1 x2 y0 y1 y2 : Int}
  (h : (0 ≤ y2 + 5 ∧ y2 + 5 < 3116) ∧ tRun E 271 (4, [.inr (11, x0), .inl (0, y0 + (d y1 (y2 + 5))), .inl (0, x2 + 1)], [], 0, 0, d) K) :
  tRun E 271 (24, [.inr (11, x0), .inl (0, x1), .inl (0, x2)], [.inl (0, y2), .inr (25, y1), .inl (0, y0)], 0, 0, d) K := tT_run (cut := [0, 4, 24]) 7 _ h
theorem t_272_0 {E : mO × tW} {K : tK} {d : mD} {x0 x1 x2 : Int}
  (h : tCall E 236 [.inr (11, x0), .inl (0, x1)] d (tbk E 272 3 [.inr (11, x0), .inl (0, x1), .inl (0, x2), tu, tu, tu, tu, tu] [.inr (11, x0)] 0 0 K)) :
  tRun E 272 (0, [.inr (11, x0), .inl (0, x1), .inl (0, x2), tu, tu, tu, tu, tu], [], 0, 0, d) K := tT_run (cut := [0, 6, 14, 27, 51, 57, 59, 70, 77, 89, 106, 206, 221]) 4 _ h
theorem t_272_6 {E : mO × tW} {K : tK} {d : mD} {x0 x1 x2 y0 y1 : Int}
  (h : mInR y1 ∧ (y1 = 0 → mInR ((mset d y0 0 1) x0 0) ∧ ((mset d y0 0 1) x0 0 ≤ 0 → tCall E 255 [.inr (11, x0)] (mset d y0 0 1) (tbk E 272 48 [.inr (11, x0), .inl (0, x1), .inl (0, x2), tu, tu, tu, tu, tu] [] 0 0 K)) ∧ (0 < (mset d y0 0 1) x0 0 → K (.inl (some (0, 0))) (mset d y0 0 1))) ∧ (¬ y1 = 0 → tCall E 236 [.inr (11, x0), .inl (0, x2)] d (tbk E 272 11 [.inr (11, x0), .inl (0, x1), .inl (0, x2), tu, tu, tu, tu, tu] [.inr (11, y0)] 0 0 K))) :
  tRun E 272 (6, [.inr (11, x0), .inl (0, x1), .inl (0, x2), tu, tu, tu, tu, tu], [.inl (0, y1), .inr (11, y0)], 0, 0, d) K := tT_run (cut := [0, 6, 14, 27, 51, 57, 59, 70, 77, 89, 106, 206, 221]) 9 _ h
theorem t_272_14 {E : mO × tW} {K : tK} {d : mD} {x0 x1 x2 y0 y1 : Int}
  (h : mInR y1 ∧ (¬ y1 = 0 → tCall E 270 [.inr (11, x0), .inl (0, x1), .inl (0, x2)] d (tbk E 272 24 [.inr (11, x0), .inl (0, x1), .inl (0, x2), tu, tu, tu, tu, tu] [.inr (11, y0)] 0 0 K)) ∧ (y1 = 0 → mInR ((mset d y0 0 1) x0 0) ∧ ((mset d y0 0 1) x0 0 ≤ 0 → tCall E 255 [.inr (11, x0)] (mset d y0 0 1) (tbk E 272 48 [.inr (11, x0), .inl (0, x1), .inl (0, x2), tu, tu, tu, tu, tu] [] 0 0 K)) ∧ (0 < (mset d y0 0 1) x0 0 → K (.inl (some (0, 0))) (mset d y0 0 1)))) :
  tRun E 272 (14, [.inr (11, x0), .inl (0, x1), .inl (0, x2), tu, tu, tu, tu, tu], [.inl (0, y1), .inr (11, y0)], 0, 0, d) K := tT_run (cut := [0, 6, 14, 27, 51, 57, 59, 70, 77, 89, 106, 206, 221]) 9 _ h
theorem t_272_27 {E : mO × tW} {K : tK} {d : mD} {x0 x1 x2 y0 y1 : Int}
  (h : mInR y1 ∧ (y1 = 0 → mInR ((mset d y0 0 2) x0 0) ∧ ((mset d y0 0 2) x0 0 ≤ 0 → tCall E 255 [.inr (11, x0)] (mset d y0 0 2) (tbk E 272 48 [.inr (11, x0), .inl (0, x1), .inl (0, x2), tu, tu, tu, tu, tu] [] 0 0 K)) ∧ (0 < (mset d y0 0 2) x0 0 → K (.inl (some (0, 0))) (mset d y0 0 2))) ∧ (¬ y1 = 0 → mInR ((mset d y0 0 0) x0 0) ∧ ((mset d y0 0 0) x0 0 ≤ 0 → tCall E 255 [.inr (11, x0)] (mset d y0 0 0) (tbk E 272 48 [.inr (11, x0), .inl (0, x1), .inl (0, x2), tu, tu, tu, tu, tu] [] 0 0 K)) ∧ (0 < (mset d y0 0 0) x0 0 → K (.inl (some (0, 0))) (mset d y0 0 0)))) :
  tRun E 272 (27, [.inr (11, x0), .inl (0, x1), .inl (0, x2), tu, tu, tu, tu, tu], [.inl (0, y1), .inr (11, y0)], 0, 0, d) K := tT_run (cut := [0, 6, 14, 27, 51, 57, 59, 70, 77, 89, 106, 206, 221]) 9 _ h
theorem t_272_51 {E : mO × tW} {K : tK} {d : mD} {x0 x1 x2 : Int}
  (h : tCall E 229 [.inr (11, x0), .inl (0, x1), .inl (0, x2)] d (tbk E 272 54 [.inr (11, x0), .inl (0, x1), .inl (0, x2), tu, tu, tu, tu, tu] [] 0 0 K)) :
  tRun E 272 (51, [.inr (11, x0), .inl (0, x1), .inl (0, x2), tu, tu, tu, tu, tu], [], 0, 0, d) K := tT_run (cut := [0, 6, 14, 27, 51, 57, 59, 70, 77, 89, 106, 206, 221]) 4 _ h
theorem t_272_57 {E : mO × tW} {K : tK} {d : mD} {x0 x1 x2 : Int}
  (h : tRun E 272 (59, [.inr (11, x0), .inl (0, x1), .inl (0, x2), .inl (0, 0), tu, tu, tu, tu], [], 0, 0, d) K) :
  tRun E 272 (57, [.inr (11, x0), .inl (0, x1), .inl (0, x2), tu, tu, tu, tu, tu], [], 0, 0, d) K := tT_run (cut := [0, 6, 14, 27, 51, 57, 59, 70, 77, 89, 106, 206, 221]) 2 _ h
theorem t_272_59 {E : mO × tW} {K : tK} {d : mD} {x0 x1 x2 x3 : Int}
  (h : (mInR x3 ∧ mInR 200) ∧ (200 ≤ x3 → tRun E 272 (89, [.inr (11, x0), .inl (0, x1), .inl (0, x2), .inl (0, x3), .inl (0, 0), .inl (0, 0), tu, tu], [], 0, 0, d) K) ∧ (x3 < 200 → tCall E 271 [.inr (11, x0)] d (tbk E 272 67 [.inr (11, x0), .inl (0, x1), .inl (0, x2), .inl (0, x3), tu, tu, tu, tu] [] 0 0 K))) :
  tRun E 272 (59, [.inr (11, x0), .inl (0, x1), .inl (0, x2), .inl (0, x3), tu, tu, tu, tu], [], 0, 0, d) K := tT_run (cut := [0, 6, 14, 27, 51, 57, 59, 70, 77, 89, 106, 206, 221]) 7 _ h
theorem t_272_70 {E : mO × tW} {K : tK} {d : mD} {x0 x1 x2 x3 y0 : Int}
  (h : mInR y0 ∧ (y0 ≤ 0 → tRun E 272 (89, [.inr (11, x0), .inl (0, x1), .inl (0, x2), .inl (0, x3), .inl (0, 0), .inl (0, 0), tu, tu], [], 0, 0, d) K) ∧ (0 < y0 → tCall E 223 [.inr (11, x0)] d (tbk E 272 74 [.inr (11, x0), .inl (0, x1), .inl (0, x2), .inl (0, x3), tu, tu, tu, tu] [] 0 0 K))) :
  tRun E 272 (70, [.inr (11, x0), .inl (0, x1), .inl (0, x2), .inl (0, x3), tu, tu, tu, tu], [.inl (0, y0)], 0, 0, d) K := tT_run (cut := [0, 6, 14, 27, 51, 57, 59, 70, 77, 89, 106, 206, 221]) 5 _ h
theorem t_272_77 {E : mO × tW} {K : tK} {d : mD} {x0 x1 x2 x3 : Int}
  (h : tRun E 272 (59, [.inr (11, x0), .inl (0, x1), .inl (0, x2), .inl (0, x3 + 1), tu, tu, tu, tu], [], 0, 0, d) K) :
  tRun E 272 (77, [.inr (11, x0), .inl (0, x1), .inl (0, x2), .inl (0, x3), tu, tu, tu, tu], [], 0, 0, d) K := tT_run (cut := [0, 6, 14, 27, 51, 57, 59, 70, 77, 89, 106, 206, 221]) 2 _ h
theorem t_272_89 {E : mO × tW} {K : tK} {d : mD} {x0 x1 x2 x3 x4 x5 : Int} {v6 v7 : tV}
  (h : (0 ≤ (9 : Int) ∧ (9 : Int) < 3116) ∧ (mInR x5 ∧ mInR (d (x0 + 1) 9)) ∧ (d (x0 + 1) 9 ≤ x5 → tCall E 271 [.inr (11, x0)] d (tbk E 272 203 [.inr (11, x0), .inl (0, x1), .inl (0, x2), .inl (0, x3), .inl (0, x4), .inl (0, x5), v6, v7] [.inr (11, x0)] 0 0 K)) ∧ (x5 < d (x0 + 1) 9 → tCall E 179 [.inl (0, x5)] d (tbk E 272 103 [.inr (11, x0), .inl (0, x1), .inl (0, x2), .inl (0, x3), .inl (0, x4), .inl (0, x5), v6, v7] [] 0 0 K))) :
  tRun E 272 (89, [.inr (11, x0), .inl (0, x1), .inl (0, x2), .inl (0, x3), .inl (0, x4), .inl (0, x5), v6, v7], [], 0, 0, d) K := tT_run (cut := [0, 6, 14, 27, 51, 57, 59, 70, 77, 89, 106, 206, 221]) 9 _ h
theorem t_272_106 {E : mO × tW} {K : tK} {d : mD} {x0 x1 x2 x3 x4 x5 y0 : Int} {v6 v7 : tV}
  (h : (0 ≤ y0 + 4 ∧ y0 + 4 < 3116) ∧ mInR (d (x0 + 4) (y0 + 4)) ∧ (¬ d (x0 + 4) (y0 + 4) = 0 → mInR 0 ∧ ((0 : Int) = 0 → tRun E 272 (89, [.inr (11, x0), .inl (0, x1), .inl (0, x2), .inl (0, x3), .inl (0, x4), .inl (0, x5 + 1), .inl (0, y0), .inl (0, 0)], [], 0, 0, d) K) ∧ (¬ (0 : Int) = 0 → (0 ≤ y0 + 3 ∧ y0 + 3 < 3116) ∧ (0 ≤ y0 + 2 ∧ y0 + 2 < 3116) ∧ (mInR ((d (x0 + 1) (y0 + 3)) - (d (x0 + 1) (y0 + 2))) ∧ mInR x4) ∧ ((d (x0 + 1) (y0 + 3)) - (d (x0 + 1) (y0 + 2)) ≤ x4 → tRun E 272 (89, [.inr (11, x0), .inl (0, x1), .inl (0, x2), .inl (0, x3), .inl (0, x4), .inl (0, x5 + 1), .inl (0, y0), .inl (0, 0)], [], 0, 0, d) K) ∧ (x4 < (d (x0 + 1) (y0 + 3)) - (d (x0 + 1) (y0 + 2)) → (0 ≤ y0 + 3 ∧ y0 + 3 < 3116) ∧ (0 ≤ y0 + 2 ∧ y0 + 2 < 3116) ∧ tRun E 272 (89, [.inr (11, x0), .inl (0, x1), .inl (0, x2), .inl (0, x3), .inl (0, (d (x0 + 1) (y0 + 3)) - (d (x0 + 1) (y0 + 2))), .inl (0, x5 + 1), .inl (0, y0), .inl (0, 0)], [], 0, 0, d) K))) ∧ (d (x0 + 4) (y0 + 4) = 0 → (0 ≤ y0 + 4 ∧ y0 + 4 < 3116) ∧ (mInR (d (x0 + 1) (y0 + 4)) ∧ mInR 1) ∧ (¬ d (x0 + 1) (y0 + 4) = 1 → mInR 0 ∧ ((0 : Int) = 0 → tRun E 272 (89, [.inr (11, x0), .inl (0, x1), .inl (0, x2), .inl (0, x3), .inl (0, x4), .inl (0, x5 + 1), .inl (0, y0), .inl (0, 0)], [], 0, 0, d) K) ∧ (¬ (0 : Int) = 0 → (0 ≤ y0 + 3 ∧ y0 + 3 < 3116) ∧ (0 ≤ y0 + 2 ∧ y0 + 2 < 3116) ∧ (mInR ((d (x0 + 1) (y0 + 3)) - (d (x0 + 1) (y0 + 2))) ∧ mInR x4) ∧ ((d (x0 + 1) (y0 + 3)) - (d (x0 + 1) (y0 + 2)) ≤ x4 → tRun E 272 (89, [.inr (11, x0), .inl (0, x1), .inl (0, x2), .inl (0, x3), .inl (0, x4), .inl (0, x5 + 1), .inl (0, y0), .inl (0, 0)], [], 0, 0, d) K) ∧ (x4 < (d (x0 + 1) (y0 + 3)) - (d (x0 + 1) (y0 + 2)) → (0 ≤ y0 + 3 ∧ y0 + 3 < 3116) ∧ (0 ≤ y0 + 2 ∧ y0 + 2 < 3116) ∧ tRun E 272 (89, [.inr (11, x0), .inl (0, x1), .inl (0, x2), .inl (0, x3), .inl (0, (d (x0 + 1) (y0 + 3)) - (d (x0 + 1) (y0 + 2))), .inl (0, x5 + 1), .inl (0, y0), .inl (0, 0)], [], 0, 0, d) K))) ∧ (d (x0 + 1) (y0 + 4) = 1 → mInR 1 ∧ ((1 : Int) = 0 → tRun E 272 (89, [.inr (11, x0), .inl (0, x1), .inl (0, x2), .inl (0, x3), .inl (0, x4), .inl (0, x5 + 1), .inl (0, y0), .inl (0, 1)], [], 0, 0, d) K) ∧ (¬ (1 : Int) = 0 → (0 ≤ y0 + 3 ∧ y0 + 3 < 3116) ∧ (0 ≤ y0 + 2 ∧ y0 + 2 < 3116) ∧ (mInR ((d (x0 + 1) (y0 + 3)) - (d (x0 + 1) (y0 + 2))) ∧ mInR x4) ∧ ((d (x0 + 1) (y0 + 3)) - (d (x0 + 1) (y0 + 2)) ≤ x4 → tRun E 272 (89, [.inr (11, x0), .inl (0, x1), .inl (0, x2), .inl (0, x3), .inl (0, x4), .inl (0, x5 + 1), .inl (0, y0), .inl (0, 1)], [], 0, 0, d) K) ∧ (x4 < (d (x0 + 1) (y0 + 3)) - (d (x0 + 1) (y0 + 2)) → (0 ≤ y0 + 3 ∧ y0 + 3 < 3116) ∧ (0 ≤ y0 + 2 ∧ y0 + 2 < 3116) ∧ tRun E 272 (89, [.inr (11, x0), .inl (0, x1), .inl (0, x2), .inl (0, x3), .inl (0, (d (x0 + 1) (y0 + 3)) - (d (x0 + 1) (y0 + 2))), .inl (0, x5 + 1), .inl (0, y0), .inl (0, 1)], [], 0, 0, d) K))))) :
  tRun E 272 (106, [.inr (11, x0), .inl (0, x1), .inl (0, x2), .inl (0, x3), .inl (0, x4), .inl (0, x5), v6, v7], [.inl (0, y0)], 0, 0, d) K := tT_run (cut := [0, 6, 14, 27, 51, 57, 59, 70, 77, 89, 106, 206, 221]) 53 _ h
theorem t_272_206 {E : mO × tW} {K : tK} {d : mD} {x0 x1 x2 x3 x4 x5 y0 y1 : Int} {v6 v7 : tV}
  (h : mInR y1 ∧ (y1 ≤ 0 → tCall E 256 [.inr (11, x0)] (mset d y0 0 0) (tbk E 272 218 [.inr (11, x0), .inl (0, x1), .inl (0, x2), .inl (0, x3), .inl (0, x4), .inl (0, x5), v6, v7] [] 0 0 K)) ∧ (0 < y1 → tCall E 256 [.inr (11, x0)] (mset d y0 0 3) (tbk E 272 218 [.inr (11, x0), .inl (0, x1), .inl (0, x2), .inl (0, x3), .inl (0, x4), .inl (0, x5), v6, v7] [] 0 0 K))) :
  tRun E 272 (206, [.inr (11, x0), .inl (0, x1), .inl (0, x2), .inl (0, x3), .inl (0, x4), .inl (0, x5), v6, v7], [.inl (0, y1), .inr (11, y0)], 0, 0, d) K := tT_run (cut := [0, 6, 14, 27, 51, 57, 59, 70, 77, 89, 106, 206, 221]) 6 _ h
theorem t_272_221 {E : mO × tW} {K : tK} {d : mD} {x0 x1 x2 x3 x4 x5 : Int} {v6 v7 : tV}
  (h : mInR (d x0 0) ∧ (d x0 0 ≤ 0 → K (.inl (some (0, x4))) d) ∧ (0 < d x0 0 → K (.inl (some (0, 0))) d)) :
  tRun E 272 (221, [.inr (11, x0), .inl (0, x1), .inl (0, x2), .inl (0, x3), .inl (0, x4), .inl (0, x5), v6, v7], [], 0, 0, d) K := tT_run (cut := [0, 6, 14, 27, 51, 57, 59, 70, 77, 89, 106, 206, 221]) 6 _ h
theorem t_273_0 {E : mO × tW} {K : tK} {d : mD} {x0 x1 : Int}
  (h : (0 ≤ d x0 18 ∧ d x0 18 < 800) ∧ K (.inl none) (mset (mset d (x0 + 8) (d x0 18) x1) x0 18 (((mset d (x0 + 8) (d x0 18) x1) x0 18) + 1))) :
  tRun E 273 (0, [.inr (11, x0), .inl (0, x1)], [], 0, 0, d) K := tT_run (cut := [0]) 13 _ h
theorem t_274_0 {E : mO × tW} {K : tK} {d : mD} {x0 x1 : Int}
  (h : tRun E 274 (2, [.inr (11, x0), .inl (0, x1), .inl (0, 1)], [], 0, 0, d) K) :
  tRun E 274 (0, [.inr (11, x0), .inl (0, x1), tu], [], 0, 0, d) K := tT_run (cut := [0, 2, 18, 35]) 2 _ h
theorem t_274_2 {E : mO × tW} {K : tK} {d : mD} {x0 x1 x2 : Int}
  (h : (0 ≤ x1 ∧ x1 ≤ 2147483647 ∧ 0 < x2 ∧ x2 ≤ 2147483647) ∧ (mInR (x1 / x2) ∧ mInR 10) ∧ (x1 / x2 < 10 → tRun E 274 (18, [.inr (11, x0), .inl (0, x1), .inl (0, x2)], [], 0, 0, d) K) ∧ (10 ≤ x1 / x2 → tRun E 274 (2, [.inr (11, x0), .inl (0, x1), .inl (0, x2 * 10)], [], 0, 0, d) K)) :
  tRun E 274 (2, [.inr (11, x0), .inl (0, x1), .inl (0, x2)], [], 0, 0, d) K := tT_run (cut := [0, 2, 18, 35]) 10 _ h
theorem t_274_18 {E : mO × tW} {K : tK} {d : mD} {x0 x1 x2 : Int}
  (h : mInR x2 ∧ (x2 ≤ 0 → K (.inl none) d) ∧ (0 < x2 → (0 ≤ x1 ∧ x1 ≤ 2147483647 ∧ 0 < x2 ∧ x2 ≤ 2147483647) ∧ (0 ≤ x1 / x2 ∧ x1 / x2 ≤ 2147483647 ∧ 0 < (10 : Int) ∧ (10 : Int) ≤ 2147483647) ∧ tCall E 273 [.inr (11, x0), .inl (0, 48 + ((x1 / x2) % 10))] d (tbk E 274 32 [.inr (11, x0), .inl (0, x1), .inl (0, x2)] [] 0 0 K))) :
  tRun E 274 (18, [.inr (11, x0), .inl (0, x1), .inl (0, x2)], [], 0, 0, d) K := tT_run (cut := [0, 2, 18, 35]) 11 _ h
theorem t_274_35 {E : mO × tW} {K : tK} {d : mD} {x0 x1 x2 : Int}
  (h : (0 ≤ x2 ∧ x2 ≤ 2147483647 ∧ 0 < (10 : Int) ∧ (10 : Int) ≤ 2147483647) ∧ tRun E 274 (18, [.inr (11, x0), .inl (0, x1), .inl (0, x2 / 10)], [], 0, 0, d) K) :
  tRun E 274 (35, [.inr (11, x0), .inl (0, x1), .inl (0, x2)], [], 0, 0, d) K := tT_run (cut := [0, 2, 18, 35]) 5 _ h
theorem t_275_0 {E : mO × tW} {K : tK} {d : mD} {x0 x1 : Int}
  (h : tRun E 275 (2, [.inr (11, x0), .inl (0, x1), .inl (0, 1)], [], 0, 0, d) K) :
  tRun E 275 (0, [.inr (11, x0), .inl (0, x1), tu], [], 0, 0, d) K := tT_run (cut := [0, 2, 18, 37]) 2 _ h
theorem t_275_2 {E : mO × tW} {K : tK} {d : mD} {x0 x1 x2 : Int}
  (h : (0 ≤ x1 ∧ x1 ≤ 2147483647 ∧ 0 < x2 ∧ x2 ≤ 2147483647) ∧ (mInR (x1 / x2) ∧ mInR 27) ∧ (x1 / x2 < 27 → tRun E 275 (18, [.inr (11, x0), .inl (0, x1), .inl (0, x2)], [], 0, 0, d) K) ∧ (27 ≤ x1 / x2 → tRun E 275 (2, [.inr (11, x0), .inl (0, x1), .inl (0, x2 * 27)], [], 0, 0, d) K)) :
  tRun E 275 (2, [.inr (11, x0), .inl (0, x1), .inl (0, x2)], [], 0, 0, d) K := tT_run (cut := [0, 2, 18, 37]) 10 _ h
theorem t_275_18 {E : mO × tW} {K : tK} {d : mD} {x0 x1 x2 : Int}
  (h : mInR x2 ∧ (x2 ≤ 0 → K (.inl none) d) ∧ (0 < x2 → (0 ≤ x1 ∧ x1 ≤ 2147483647 ∧ 0 < x2 ∧ x2 ≤ 2147483647) ∧ (0 ≤ x1 / x2 ∧ x1 / x2 ≤ 2147483647 ∧ 0 < (27 : Int) ∧ (27 : Int) ≤ 2147483647) ∧ tCall E 273 [.inr (11, x0), .inl (0, (((x1 / x2) % 27) + 97) - 1)] d (tbk E 275 34 [.inr (11, x0), .inl (0, x1), .inl (0, x2)] [] 0 0 K))) :
  tRun E 275 (18, [.inr (11, x0), .inl (0, x1), .inl (0, x2)], [], 0, 0, d) K := tT_run (cut := [0, 2, 18, 37]) 13 _ h
theorem t_275_37 {E : mO × tW} {K : tK} {d : mD} {x0 x1 x2 : Int}
  (h : (0 ≤ x2 ∧ x2 ≤ 2147483647 ∧ 0 < (27 : Int) ∧ (27 : Int) ≤ 2147483647) ∧ tRun E 275 (18, [.inr (11, x0), .inl (0, x1), .inl (0, x2 / 27)], [], 0, 0, d) K) :
  tRun E 275 (37, [.inr (11, x0), .inl (0, x1), .inl (0, x2)], [], 0, 0, d) K := tT_run (cut := [0, 2, 18, 37]) 5 _ h
theorem t_276_0 {E : mO × tW} {K : tK} {d : mD} {x0 x1 : Int}
  (h : tCall E 236 [.inr (11, x0), .inl (0, x1)] d (tbk E 276 3 [.inr (11, x0), .inl (0, x1), tu, tu, tu] [.inr (11, x0)] 0 0 K)) :
  tRun E 276 (0, [.inr (11, x0), .inl (0, x1), tu, tu, tu], [], 0, 0, d) K := tT_run (cut := [0, 6, 35, 38, 60, 74, 93, 99, 105, 118, 141]) 4 _ h
theorem t_276_6 {E : mO × tW} {K : tK} {d : mD} {x0 x1 y0 y1 : Int}
  (h : mInR y1 ∧ (y1 = 0 → mInR ((mset d y0 0 1) x0 0) ∧ ((mset d y0 0 1) x0 0 ≤ 0 → tCall E 177 [.inl (0, x1)] (mset (mset d y0 0 1) x0 18 0) (tbk E 276 32 [.inr (11, x0), .inl (0, x1), tu, tu, tu] [] 0 0 K)) ∧ (0 < (mset d y0 0 1) x0 0 → K (.inl (some (0, 0))) (mset d y0 0 1))) ∧ (¬ y1 = 0 → mInR ((mset d y0 0 0) x0 0) ∧ ((mset d y0 0 0) x0 0 ≤ 0 → tCall E 177 [.inl (0, x1)] (mset (mset d y0 0 0) x0 18 0) (tbk E 276 32 [.inr (11, x0), .inl (0, x1), tu, tu, tu] [] 0 0 K)) ∧ (0 < (mset d y0 0 0) x0 0 → K (.inl (some (0, 0))) (mset d y0 0 0)))) :
  tRun E 276 (6, [.inr (11, x0), .inl (0, x1), tu, tu, tu], [.inl (0, y1), .inr (11, y0)], 0, 0, d) K := tT_run (cut := [0, 6, 35, 38, 60, 74, 93, 99, 105, 118, 141]) 12 _ h
theorem t_276_35 {E : mO × tW} {K : tK} {d : mD} {x0 x1 y0 : Int}
  (h : tRun E 276 (38, [.inr (11, x0), .inl (0, x1), .inl (0, y0), .inl (0, 0), tu], [], 0, 0, d) K) :
  tRun E 276 (35, [.inr (11, x0), .inl (0, x1), tu, tu, tu], [.inl (0, y0)], 0, 0, d) K := tT_run (cut := [0, 6, 35, 38, 60, 74, 93, 99, 105, 118, 141]) 3 _ h
theorem t_276_38 {E : mO × tW} {K : tK} {d : mD} {x0 x1 x2 x3 : Int} {v4 : tV}
  (h : (0 ≤ x2 + 5 ∧ x2 + 5 < 3116) ∧ (mInR x3 ∧ mInR (d (x0 + 1) (x2 + 5))) ∧ (d (x0 + 1) (x2 + 5) ≤ x3 → (0 ≤ x2 + 4 ∧ x2 + 4 < 3116) ∧ mInR (d (x0 + 1) (x2 + 4)) ∧ (¬ d (x0 + 1) (x2 + 4) = 0 → tRun E 276 (141, [.inr (11, x0), .inl (0, x1), .inl (0, x2), .inl (0, x3), v4], [], 0, 0, d) K) ∧ (d (x0 + 1) (x2 + 4) = 0 → tCall E 273 [.inr (11, x0), .inl (0, 33)] d (tbk E 276 138 [.inr (11, x0), .inl (0, x1), .inl (0, x2), .inl (0, x3), v4] [] 0 0 K))) ∧ (x3 < d (x0 + 1) (x2 + 5) → mInR x3 ∧ (x3 ≤ 0 → tRun E 276 (60, [.inr (11, x0), .inl (0, x1), .inl (0, x2), .inl (0, x3), v4], [], 0, 0, d) K) ∧ (0 < x3 → tCall E 273 [.inr (11, x0), .inl (0, 32)] d (tbk E 276 57 [.inr (11, x0), .inl (0, x1), .inl (0, x2), .inl (0, x3), v4] [] 0 0 K)))) :
  tRun E 276 (38, [.inr (11, x0), .inl (0, x1), .inl (0, x2), .inl (0, x3), v4], [], 0, 0, d) K := tT_run (cut := [0, 6, 35, 38, 60, 74, 93, 99, 105, 118, 141]) 18 _ h
theorem t_276_60 {E : mO × tW} {K : tK} {d : mD} {x0 x1 x2 x3 : Int} {v4 : tV}
  (h : (0 ≤ (x2 + 7) + x3 ∧ (x2 + 7) + x3 < 3116) ∧ tCall E 179 [.inl (0, d (x0 + 1) ((x2 + 7) + x3))] d (tbk E 276 71 [.inr (11, x0), .inl (0, x1), .inl (0, x2), .inl (0, x3), v4] [] 0 0 K)) :
  tRun E 276 (60, [.inr (11, x0), .inl (0, x1), .inl (0, x2), .inl (0, x3), v4], [], 0, 0, d) K := tT_run (cut := [0, 6, 35, 38, 60, 74, 93, 99, 105, 118, 141]) 9 _ h
theorem t_276_74 {E : mO × tW} {K : tK} {d : mD} {x0 x1 x2 x3 y0 : Int} {v4 : tV}
  (h : (0 ≤ y0 + 0 ∧ y0 + 0 < 3116) ∧ tCall E 178 [.inl (0, d (x0 + 1) (y0 + 0))] d (tbk E 276 90 [.inr (11, x0), .inl (0, x1), .inl (0, x2), .inl (0, x3), .inl (0, y0)] [.inr (25, x0 + 1), .inr (11, x0)] 0 0 K)) :
  tRun E 276 (74, [.inr (11, x0), .inl (0, x1), .inl (0, x2), .inl (0, x3), v4], [.inl (0, y0)], 0, 0, d) K := tT_run (cut := [0, 6, 35, 38, 60, 74, 93, 99, 105, 118, 141]) 11 _ h
theorem t_276_93 {E : mO × tW} {K : tK} {d : mD} {x0 x1 x2 x3 x4 y0 y1 y2 : Int}
  (h : (0 ≤ y2 + 0 ∧ y2 + 0 < 3116) ∧ tCall E 275 [.inr (11, y0), .inl (0, d y1 (y2 + 0))] d (tbk E 276 96 [.inr (11, x0), .inl (0, x1), .inl (0, x2), .inl (0, x3), .inl (0, x4)] [] 0 0 K)) :
  tRun E 276 (93, [.inr (11, x0), .inl (0, x1), .inl (0, x2), .inl (0, x3), .inl (0, x4)], [.inl (0, y2), .inr (25, y1), .inr (11, y0)], 0, 0, d) K := tT_run (cut := [0, 6, 35, 38, 60, 74, 93, 99, 105, 118, 141]) 4 _ h
theorem t_276_99 {E : mO × tW} {K : tK} {d : mD} {x0 x1 x2 x3 x4 : Int}
  (h : tCall E 273 [.inr (11, x0), .inl (0, 64)] d (tbk E 276 102 [.inr (11, x0), .inl (0, x1), .inl (0, x2), .inl (0, x3), .inl (0, x4)] [] 0 0 K)) :
  tRun E 276 (99, [.inr (11, x0), .inl (0, x1), .inl (0, x2), .inl (0, x3), .inl (0, x4)], [], 0, 0, d) K := tT_run (cut := [0, 6, 35, 38, 60, 74, 93, 99, 105, 118, 141]) 3 _ h
theorem t_276_105 {E : mO × tW} {K : tK} {d : mD} {x0 x1 x2 x3 x4 : Int}
  (h : (0 ≤ x4 + 2 ∧ x4 + 2 < 3116) ∧ tCall E 274 [.inr (11, x0), .inl (0, d (x0 + 1) (x4 + 2))] d (tbk E 276 115 [.inr (11, x0), .inl (0, x1), .inl (0, x2), .inl (0, x3), .inl (0, x4)] [] 0 0 K)) :
  tRun E 276 (105, [.inr (11, x0), .inl (0, x1), .inl (0, x2), .inl (0, x3), .inl (0, x4)], [], 0, 0, d) K := tT_run (cut := [0, 6, 35, 38, 60, 74, 93, 99, 105, 118, 141]) 8 _ h
theorem t_276_118 {E : mO × tW} {K : tK} {d : mD} {x0 x1 x2 x3 x4 : Int}
  (h : tRun E 276 (38, [.inr (11, x0), .inl (0, x1), .inl (0, x2), .inl (0, x3 + 1), .inl (0, x4)], [], 0, 0, d) K) :
  tRun E 276 (118, [.inr (11, x0), .inl (0, x1), .inl (0, x2), .inl (0, x3), .inl (0, x4)], [], 0, 0, d) K := tT_run (cut := [0, 6, 35, 38, 60, 74, 93, 99, 105, 118, 141]) 2 _ h
theorem t_276_141 {E : mO × tW} {K : tK} {d : mD} {x0 x1 x2 x3 : Int} {v4 : tV}
  (h : K (.inl (some (0, d x0 18))) d) :
  tRun E 276 (141, [.inr (11, x0), .inl (0, x1), .inl (0, x2), .inl (0, x3), v4], [], 0, 0, d) K := tT_run (cut := [0, 6, 35, 38, 60, 74, 93, 99, 105, 118, 141]) 3 _ h
theorem t_277_0 {E : mO × tW} {K : tK} {d : mD} {x0 x1 : Int}
  (h : mInR x1 ∧ mInR ((d x0 18) - 1) ∧ tCall E 176 [.inl (1, x1), .inl (1, 0), .inl (1, (d x0 18) - 1)] d (tbk E 277 11 [.inr (11, x0), .inl (0, x1)] [.inr (11, x0)] 0 0 K)) :
  tRun E 277 (0, [.inr (11, x0), .inl (0, x1)], [], 0, 0, d) K := tT_run (cut := [0, 14]) 10 _ h
theorem t_277_14 {E : mO × tW} {K : tK} {d : mD} {x0 x1 y0 y1 : Int}
  (h : mInR y1 ∧ (y1 = 0 → mInR ((mset d y0 0 1) x0 0) ∧ ((mset d y0 0 1) x0 0 ≤ 0 → (0 ≤ x1 ∧ x1 < 800) ∧ K (.inl (some (0, (mset d y0 0 1) (x0 + 8) x1))) (mset d y0 0 1)) ∧ (0 < (mset d y0 0 1) x0 0 → K (.inl (some (0, 0))) (mset d y0 0 1))) ∧ (¬ y1 = 0 → mInR ((mset d y0 0 0) x0 0) ∧ ((mset d y0 0 0) x0 0 ≤ 0 → (0 ≤ x1 ∧ x1 < 800) ∧ K (.inl (some (0, (mset d y0 0 0) (x0 + 8) x1))) (mset d y0 0 0)) ∧ (0 < (mset d y0 0 0) x0 0 → K (.inl (some (0, 0))) (mset d y0 0 0)))) :
  tRun E 277 (14, [.inr (11, x0), .inl (0, x1)], [.inl (0, y1), .inr (11, y0)], 0, 0, d) K := tT_run (cut := [0, 14]) 12 _ h
theorem t_278_0 {E : mO × tW} {K : tK} {d : mD} {x0 : Int}
  (h : (mInR (d x0 7) ∧ mInR 8) ∧ (¬ d x0 7 = 8 → tRun E 278 (54, [.inr (11, x0), .inl (0, 0)], [], 0, 0, d) K) ∧ (d x0 7 = 8 → tRun E 278 (13, [.inr (11, x0), .inl (0, 3116)], [], 0, 0, d) K)) :
  tRun E 278 (0, [.inr (11, x0), tu], [], 0, 0, d) K := tT_run (cut := [0, 13, 54]) 6 _ h
theorem t_278_13 {E : mO × tW} {K : tK} {d : mD} {x0 x1 : Int}
  (h : (mInR x1 ∧ mInR 24928) ∧ (24928 ≤ x1 → tRun E 278 (54, [.inr (11, x0), .inl (0, 0)], [], 0, 0, mset d x0 7 ((d x0 7) - 1)) K) ∧ (x1 < 24928 → (0 ≤ x1 ∧ x1 < 24928) ∧ (0 ≤ x1 - 3116 ∧ x1 - 3116 < 24928) ∧ tRun E 278 (13, [.inr (11, x0), .inl (0, x1 + 1)], [], 0, 0, mset d (x0 + 2) (x1 - 3116) (d (x0 + 2) x1)) K)) :
  tRun E 278 (13, [.inr (11, x0), .inl (0, x1)], [], 0, 0, d) K := tT_run (cut := [0, 13, 54]) 15 _ h
theorem t_278_54 {E : mO × tW} {K : tK} {d : mD} {x0 x1 : Int}
  (h : (mInR x1 ∧ mInR 3116) ∧ (3116 ≤ x1 → K (.inl none) (mset d x0 7 ((d x0 7) + 1))) ∧ (x1 < 3116 → (0 ≤ x1 ∧ x1 < 3116) ∧ (0 ≤ (3116 * (d x0 7)) + x1 ∧ (3116 * (d x0 7)) + x1 < 24928) ∧ tRun E 278 (54, [.inr (11, x0), .inl (0, x1 + 1)], [], 0, 0, mset d (x0 + 2) ((3116 * (d x0 7)) + x1) (d (x0 + 1) x1)) K)) :
  tRun E 278 (54, [.inr (11, x0), .inl (0, x1)], [], 0, 0, d) K := tT_run (cut := [0, 13, 54]) 18 _ h
theorem t_279_0 {E : mO × tW} {K : tK} {d : mD} {x0 x1 x2 : Int}
  (h : tCall E 237 [.inr (11, x0), .inl (0, x1)] d (tbk E 279 3 [.inr (11, x0), .inl (0, x1), .inl (0, x2)] [.inr (11, x0)] 0 0 K)) :
  tRun E 279 (0, [.inr (11, x0), .inl (0, x1), .inl (0, x2)], [], 0, 0, d) K := tT_run (cut := [0, 6, 14, 27, 51, 57]) 4 _ h
theorem t_279_6 {E : mO × tW} {K : tK} {d : mD} {x0 x1 x2 y0 y1 : Int}
  (h : mInR y1 ∧ (y1 = 0 → mInR ((mset d y0 0 1) x0 0) ∧ ((mset d y0 0 1) x0 0 ≤ 0 → tCall E 278 [.inr (11, x0)] (mset d y0 0 1) (tbk E 279 48 [.inr (11, x0), .inl (0, x1), .inl (0, x2)] [] 0 0 K)) ∧ (0 < (mset d y0 0 1) x0 0 → K (.inl (some (0, 0))) (mset d y0 0 1))) ∧ (¬ y1 = 0 → tCall E 236 [.inr (11, x0), .inl (0, x2)] d (tbk E 279 11 [.inr (11, x0), .inl (0, x1), .inl (0, x2)] [.inr (11, y0)] 0 0 K))) :
  tRun E 279 (6, [.inr (11, x0), .inl (0, x1), .inl (0, x2)], [.inl (0, y1), .inr (11, y0)], 0, 0, d) K := tT_run (cut := [0, 6, 14, 27, 51, 57]) 9 _ h
theorem t_279_14 {E : mO × tW} {K : tK} {d : mD} {x0 x1 x2 y0 y1 : Int}
  (h : mInR y1 ∧ (¬ y1 = 0 → tCall E 225 [.inr (11, x0), .inl (0, x1), .inl (0, x2)] d (tbk E 279 24 [.inr (11, x0), .inl (0, x1), .inl (0, x2)] [.inr (11, y0)] 0 0 K)) ∧ (y1 = 0 → mInR ((mset d y0 0 1) x0 0) ∧ ((mset d y0 0 1) x0 0 ≤ 0 → tCall E 278 [.inr (11, x0)] (mset d y0 0 1) (tbk E 279 48 [.inr (11, x0), .inl (0, x1), .inl (0, x2)] [] 0 0 K)) ∧ (0 < (mset d y0 0 1) x0 0 → K (.inl (some (0, 0))) (mset d y0 0 1)))) :
  tRun E 279 (14, [.inr (11, x0), .inl (0, x1), .inl (0, x2)], [.inl (0, y1), .inr (11, y0)], 0, 0, d) K := tT_run (cut := [0, 6, 14, 27, 51, 57]) 9 _ h
theorem t_279_27 {E : mO × tW} {K : tK} {d : mD} {x0 x1 x2 y0 y1 : Int}
  (h : mInR y1 ∧ (y1 = 0 → mInR ((mset d y0 0 2) x0 0) ∧ ((mset d y0 0 2) x0 0 ≤ 0 → tCall E 278 [.inr (11, x0)] (mset d y0 0 2) (tbk E 279 48 [.inr (11, x0), .inl (0, x1), .inl (0, x2)] [] 0 0 K)) ∧ (0 < (mset d y0 0 2) x0 0 → K (.inl (some (0, 0))) (mset d y0 0 2))) ∧ (¬ y1 = 0 → mInR ((mset d y0 0 0) x0 0) ∧ ((mset d y0 0 0) x0 0 ≤ 0 → tCall E 278 [.inr (11, x0)] (mset d y0 0 0) (tbk E 279 48 [.inr (11, x0), .inl (0, x1), .inl (0, x2)] [] 0 0 K)) ∧ (0 < (mset d y0 0 0) x0 0 → K (.inl (some (0, 0))) (mset d y0 0 0)))) :
  tRun E 279 (27, [.inr (11, x0), .inl (0, x1), .inl (0, x2)], [.inl (0, y1), .inr (11, y0)], 0, 0, d) K := tT_run (cut := [0, 6, 14, 27, 51, 57]) 9 _ h
theorem t_279_51 {E : mO × tW} {K : tK} {d : mD} {x0 x1 x2 : Int}
  (h : tCall E 226 [.inr (11, x0), .inl (0, x1), .inl (0, x2)] d (tbk E 279 54 [.inr (11, x0), .inl (0, x1), .inl (0, x2)] [] 0 0 K)) :
  tRun E 279 (51, [.inr (11, x0), .inl (0, x1), .inl (0, x2)], [], 0, 0, d) K := tT_run (cut := [0, 6, 14, 27, 51, 57]) 4 _ h
theorem t_279_57 {E : mO × tW} {K : tK} {d : mD} {x0 x1 x2 y0 : Int}
  (h : K (.inl (some (0, y0))) d) :
  tRun E 279 (57, [.inr (11, x0), .inl (0, x1), .inl (0, x2)], [.inl (0, y0)], 0, 0, d) K := tT_run (cut := [0, 6, 14, 27, 51, 57]) 1 _ h
theorem t_280_0 {E : mO × tW} {K : tK} {d : mD} {x0 x1 : Int}
  (h : tCall E 238 [.inr (11, x0), .inl (0, x1)] d (tbk E 280 3 [.inr (11, x0), .inl (0, x1)] [.inr (11, x0)] 0 0 K)) :
  tRun E 280 (0, [.inr (11, x0), .inl (0, x1)], [], 0, 0, d) K := tT_run (cut := [0, 6, 21, 48, 57, 65, 68, 76, 88, 111]) 4 _ h
theorem t_280_6 {E : mO × tW} {K : tK} {d : mD} {x0 x1 y0 y1 : Int}
  (h : mInR y1 ∧ (¬ y1 = 0 → tCall E 179 [.inl (0, x1)] d (tbk E 280 18 [.inr (11, x0), .inl (0, x1)] [.inr (25, x0 + 1), .inr (11, y0)] 0 0 K)) ∧ (y1 = 0 → mInR ((mset d y0 0 1) x0 0) ∧ ((mset d y0 0 1) x0 0 ≤ 0 → tCall E 278 [.inr (11, x0)] (mset d y0 0 1) (tbk E 280 45 [.inr (11, x0), .inl (0, x1)] [] 0 0 K)) ∧ (0 < (mset d y0 0 1) x0 0 → K (.inl (some (0, 0))) (mset d y0 0 1)))) :
  tRun E 280 (6, [.inr (11, x0), .inl (0, x1)], [.inl (0, y1), .inr (11, y0)], 0, 0, d) K := tT_run (cut := [0, 6, 21, 48, 57, 65, 68, 76, 88, 111]) 9 _ h
theorem t_280_21 {E : mO × tW} {K : tK} {d : mD} {x0 x1 y0 y1 y2 : Int}
  (h : (0 ≤ y2 + 4 ∧ y2 + 4 < 3116) ∧ mInR (d y1 (y2 + 4)) ∧ (¬ d y1 (y2 + 4) = 0 → mInR ((mset d y0 0 2) x0 0) ∧ ((mset d y0 0 2) x0 0 ≤ 0 → tCall E 278 [.inr (11, x0)] (mset d y0 0 2) (tbk E 280 45 [.inr (11, x0), .inl (0, x1)] [] 0 0 K)) ∧ (0 < (mset d y0 0 2) x0 0 → K (.inl (some (0, 0))) (mset d y0 0 2))) ∧ (d y1 (y2 + 4) = 0 → mInR ((mset d y0 0 0) x0 0) ∧ ((mset d y0 0 0) x0 0 ≤ 0 → tCall E 278 [.inr (11, x0)] (mset d y0 0 0) (tbk E 280 45 [.inr (11, x0), .inl (0, x1)] [] 0 0 K)) ∧ (0 < (mset d y0 0 0) x0 0 → K (.inl (some (0, 0))) (mset d y0 0 0)))) :
  tRun E 280 (21, [.inr (11, x0), .inl (0, x1)], [.inl (0, y2), .inr (25, y1), .inr (11, y0)], 0, 0, d) K := tT_run (cut := [0, 6, 21, 48, 57, 65, 68, 76, 88, 111]) 12 _ h
theorem t_280_48 {E : mO × tW} {K : tK} {d : mD} {x0 x1 : Int}
  (h : tCall E 179 [.inl (0, x1)] d (tbk E 280 54 [.inr (11, x0), .inl (0, x1)] [.inr (25, x0 + 1), .inr (11, x0)] 0 0 K)) :
  tRun E 280 (48, [.inr (11, x0), .inl (0, x1)], [], 0, 0, d) K := tT_run (cut := [0, 6, 21, 48, 57, 65, 68, 76, 88, 111]) 5 _ h
theorem t_280_57 {E : mO × tW} {K : tK} {d : mD} {x0 x1 y0 y1 y2 : Int}
  (h : (0 ≤ y2 + 1 ∧ y2 + 1 < 3116) ∧ tCall E 221 [.inr (11, x0), .inl (0, x1)] d (tbk E 280 62 [.inr (11, x0), .inl (0, x1)] [.inl (0, d y1 (y2 + 1)), .inr (11, y0)] 0 0 K)) :
  tRun E 280 (57, [.inr (11, x0), .inl (0, x1)], [.inl (0, y2), .inr (25, y1), .inr (11, y0)], 0, 0, d) K := tT_run (cut := [0, 6, 21, 48, 57, 65, 68, 76, 88, 111]) 6 _ h
theorem t_280_65 {E : mO × tW} {K : tK} {d : mD} {x0 x1 y0 y1 y2 : Int}
  (h : tCall E 220 [.inr (11, y0), .inl (0, y1), .inl (0, y2)] d (tbk E 280 65 [.inr (11, x0), .inl (0, x1)] [] 0 0 K)) :
  tRun E 280 (65, [.inr (11, x0), .inl (0, x1)], [.inl (0, y2), .inl (0, y1), .inr (11, y0)], 0, 0, d) K := tT_run (cut := [0, 6, 21, 48, 57, 65, 68, 76, 88, 111]) 1 _ h
theorem t_280_68 {E : mO × tW} {K : tK} {d : mD} {x0 x1 : Int}
  (h : tCall E 179 [.inl (0, x1)] d (tbk E 280 73 [.inr (11, x0), .inl (0, x1)] [.inr (25, x0 + 1)] 0 0 K)) :
  tRun E 280 (68, [.inr (11, x0), .inl (0, x1)], [], 0, 0, d) K := tT_run (cut := [0, 6, 21, 48, 57, 65, 68, 76, 88, 111]) 4 _ h
theorem t_280_76 {E : mO × tW} {K : tK} {d : mD} {x0 x1 y0 y1 : Int}
  (h : (0 ≤ y1 + 4 ∧ y1 + 4 < 3116) ∧ tCall E 179 [.inl (0, x1)] (mset d y0 (y1 + 4) 2) (tbk E 280 85 [.inr (11, x0), .inl (0, x1)] [.inr (25, x0 + 1)] 0 0 K)) :
  tRun E 280 (76, [.inr (11, x0), .inl (0, x1)], [.inl (0, y1), .inr (25, y0)], 0, 0, d) K := tT_run (cut := [0, 6, 21, 48, 57, 65, 68, 76, 88, 111]) 8 _ h
theorem t_280_88 {E : mO × tW} {K : tK} {d : mD} {x0 x1 y0 y1 : Int}
  (h : (0 ≤ (0 : Int) ∧ (0 : Int) < 3116) ∧ (0 ≤ y1 + 3 ∧ y1 + 3 < 3116) ∧ (0 ≤ (0 : Int) ∧ (0 : Int) < 3116) ∧ tCall E 179 [.inl (0, x1)] (mset d y0 (y1 + 3) (d (x0 + 1) 0)) (tbk E 280 108 [.inr (11, x0), .inl (0, x1)] [.inr (25, x0 + 1), .inl (0, (mset d y0 (y1 + 3) (d (x0 + 1) 0)) (x0 + 1) 0)] 0 0 K)) :
  tRun E 280 (88, [.inr (11, x0), .inl (0, x1)], [.inl (0, y1), .inr (25, y0)], 0, 0, d) K := tT_run (cut := [0, 6, 21, 48, 57, 65, 68, 76, 88, 111]) 15 _ h
theorem t_280_111 {E : mO × tW} {K : tK} {d : mD} {x0 x1 y0 y1 y2 : Int}
  (h : (0 ≤ y2 + 2 ∧ y2 + 2 < 3116) ∧ K (.inl (some (0, y0 - (d y1 (y2 + 2))))) d) :
  tRun E 280 (111, [.inr (11, x0), .inl (0, x1)], [.inl (0, y2), .inr (25, y1), .inl (0, y0)], 0, 0, d) K := tT_run (cut := [0, 6, 21, 48, 57, 65, 68, 76, 88, 111]) 5 _ h
theorem t_281_0 {E : mO × tW} {K : tK} {d : mD} {x0 : Int}
  (h : tRun E 281 (4, [.inr (11, x0), .inl (0, 0), .inl (0, 0)], [], 0, 0, d) K) :
  tRun E 281 (0, [.inr (11, x0), tu, tu], [], 0, 0, d) K := tT_run (cut := [0, 4, 24]) 4 _ h
theorem t_281_4 {E : mO × tW} {K : tK} {d : mD} {x0 x1 x2 : Int}
  (h : (0 ≤ (9 : Int) ∧ (9 : Int) < 3116) ∧ (mInR x2 ∧ mInR (d (x0 + 1) 9)) ∧ (d (x0 + 1) 9 ≤ x2 → K (.inl (some (0, x1))) d) ∧ (x2 < d (x0 + 1) 9 → tCall E 179 [.inl (0, x2)] d (tbk E 281 21 [.inr (11, x0), .inl (0, x1), .inl (0, x2)] [.inr (25, x0 + 1), .inl (0, x1)] 0 0 K))) :
  tRun E 281 (4, [.inr (11, x0), .inl (0, x1), .inl (0, x2)], [], 0, 0, d) K := tT_run (cut := [0, 4, 24]) 11 _ h
theorem t_281_24 {E : mO × tW} {K : tK} {d : mD} {x0 x1 x2 y0 y1 y2 : Int}
  (h : (0 ≤ y2 + 4 ∧ y2 + 4 < 3116) ∧ (mInR (d y1 (y2 + 4)) ∧ mInR 1) ∧ (¬ d y1 (y2 + 4) = 1 → tRun E 281 (4, [.inr (11, x0), .inl (0, y0 + 0), .inl (0, x2 + 1)], [], 0, 0, d) K) ∧ (d y1 (y2 + 4) = 1 → tRun E 281 (4, [.inr (11, x0), .inl (0, y0 + 1), .inl (0, x2 + 1)], [], 0, 0, d) K)) :
  tRun E 281 (24, [.inr (11, x0), .inl (0, x1), .inl (0, x2)], [.inl (0, y2), .inr (25, y1), .inl (0, y0)], 0, 0, d) K := tT_run (cut := [0, 4, 24]) 11 _ h
theorem t_282_0 {E : mO × tW} {K : tK} {d : mD} {x0 x1 : Int}
  (h : mInR x1 ∧ tCall E 176 [.inl (1, x1), .inl (1, 1), .inl (1, 99)] d (tbk E 282 7 [.inr (11, x0), .inl (0, x1), tu, tu] [.inr (11, x0)] 0 0 K)) :
  tRun E 282 (0, [.inr (11, x0), .inl (0, x1), tu, tu], [], 0, 0, d) K := tT_run (cut := [0, 10, 52, 56, 59, 68, 78]) 6 _ h
theorem t_282_10 {E : mO × tW} {K : tK} {d : mD} {x0 x1 y0 y1 : Int}
  (h : mInR y1 ∧ (¬ y1 = 0 → (0 ≤ (0 : Int) ∧ (0 : Int) < 3116) ∧ (mInR ((d (x0 + 1) 0) + x1) ∧ mInR 999) ∧ ((d (x0 + 1) 0) + x1 ≤ 999 → mInR ((mset d y0 0 0) x0 0) ∧ ((mset d y0 0 0) x0 0 ≤ 0 → tCall E 278 [.inr (11, x0)] (mset d y0 0 0) (tbk E 282 49 [.inr (11, x0), .inl (0, x1), tu, tu] [] 0 0 K)) ∧ (0 < (mset d y0 0 0) x0 0 → K (.inl (some (0, 0))) (mset d y0 0 0))) ∧ (999 < (d (x0 + 1) 0) + x1 → mInR ((mset d y0 0 2) x0 0) ∧ ((mset d y0 0 2) x0 0 ≤ 0 → tCall E 278 [.inr (11, x0)] (mset d y0 0 2) (tbk E 282 49 [.inr (11, x0), .inl (0, x1), tu, tu] [] 0 0 K)) ∧ (0 < (mset d y0 0 2) x0 0 → K (.inl (some (0, 0))) (mset d y0 0 2)))) ∧ (y1 = 0 → mInR ((mset d y0 0 1) x0 0) ∧ ((mset d y0 0 1) x0 0 ≤ 0 → tCall E 278 [.inr (11, x0)] (mset d y0 0 1) (tbk E 282 49 [.inr (11, x0), .inl (0, x1), tu, tu] [] 0 0 K)) ∧ (0 < (mset d y0 0 1) x0 0 → K (.inl (some (0, 0))) (mset d y0 0 1)))) :
  tRun E 282 (10, [.inr (11, x0), .inl (0, x1), tu, tu], [.inl (0, y1), .inr (11, y0)], 0, 0, d) K := tT_run (cut := [0, 10, 52, 56, 59, 68, 78]) 17 _ h
theorem t_282_52 {E : mO × tW} {K : tK} {d : mD} {x0 x1 : Int}
  (h : tCall E 281 [.inr (11, x0)] d (tbk E 282 53 [.inr (11, x0), .inl (0, x1), tu, tu] [] 0 0 K)) :
  tRun E 282 (52, [.inr (11, x0), .inl (0, x1), tu, tu], [], 0, 0, d) K := tT_run (cut := [0, 10, 52, 56, 59, 68, 78]) 2 _ h
theorem t_282_56 {E : mO × tW} {K : tK} {d : mD} {x0 x1 y0 : Int}
  (h : tRun E 282 (59, [.inr (11, x0), .inl (0, x1), .inl (0, y0), .inl (0, 0)], [], 0, 0, d) K) :
  tRun E 282 (56, [.inr (11, x0), .inl (0, x1), tu, tu], [.inl (0, y0)], 0, 0, d) K := tT_run (cut := [0, 10, 52, 56, 59, 68, 78]) 3 _ h
theorem t_282_59 {E : mO × tW} {K : tK} {d : mD} {x0 x1 x2 x3 : Int}
  (h : (mInR x3 ∧ mInR x1) ∧ (x1 ≤ x3 → tCall E 281 [.inr (11, x0)] d (tbk E 282 75 [.inr (11, x0), .inl (0, x1), .inl (0, x2), .inl (0, x3)] [] 0 0 K)) ∧ (x3 < x1 → tCall E 223 [.inr (11, x0)] d (tbk E 282 65 [.inr (11, x0), .inl (0, x1), .inl (0, x2), .inl (0, x3)] [] 0 0 K))) :
  tRun E 282 (59, [.inr (11, x0), .inl (0, x1), .inl (0, x2), .inl (0, x3)], [], 0, 0, d) K := tT_run (cut := [0, 10, 52, 56, 59, 68, 78]) 5 _ h
theorem t_282_68 {E : mO × tW} {K : tK} {d : mD} {x0 x1 x2 x3 : Int}
  (h : tRun E 282 (59, [.inr (11, x0), .inl (0, x1), .inl (0, x2), .inl (0, x3 + 1)], [], 0, 0, d) K) :
  tRun E 282 (68, [.inr (11, x0), .inl (0, x1), .inl (0, x2), .inl (0, x3)], [], 0, 0, d) K := tT_run (cut := [0, 10, 52, 56, 59, 68, 78]) 2 _ h
theorem t_282_78 {E : mO × tW} {K : tK} {d : mD} {x0 x1 x2 x3 y0 : Int}
  (h : K (.inl (some (0, y0 - x2))) d) :
  tRun E 282 (78, [.inr (11, x0), .inl (0, x1), .inl (0, x2), .inl (0, x3)], [.inl (0, y0)], 0, 0, d) K := tT_run (cut := [0, 10, 52, 56, 59, 68, 78]) 3 _ h
theorem t_283_0 {E : mO × tW} {K : tK} {d : mD} {x0 x1 : Int}
  (h : tCall E 238 [.inr (11, x0), .inl (0, x1)] d (tbk E 283 3 [.inr (11, x0), .inl (0, x1)] [.inr (11, x0)] 0 0 K)) :
  tRun E 283 (0, [.inr (11, x0), .inl (0, x1)], [], 0, 0, d) K := tT_run (cut := [0, 6, 18, 42, 47]) 4 _ h
theorem t_283_6 {E : mO × tW} {K : tK} {d : mD} {x0 x1 y0 y1 : Int}
  (h : mInR y1 ∧ (¬ y1 = 0 → tCall E 227 [.inr (11, x0), .inl (0, x1)] d (tbk E 283 15 [.inr (11, x0), .inl (0, x1)] [.inr (11, y0)] 0 0 K)) ∧ (y1 = 0 → mInR ((mset d y0 0 1) x0 0) ∧ ((mset d y0 0 1) x0 0 ≤ 0 → tCall E 278 [.inr (11, x0)] (mset d y0 0 1) (tbk E 283 39 [.inr (11, x0), .inl (0, x1)] [] 0 0 K)) ∧ (0 < (mset d y0 0 1) x0 0 → K (.inl (some (0, 0))) (mset d y0 0 1)))) :
  tRun E 283 (6, [.inr (11, x0), .inl (0, x1)], [.inl (0, y1), .inr (11, y0)], 0, 0, d) K := tT_run (cut := [0, 6, 18, 42, 47]) 9 _ h
theorem t_283_18 {E : mO × tW} {K : tK} {d : mD} {x0 x1 y0 y1 : Int}
  (h : mInR y1 ∧ (y1 = 0 → mInR ((mset d y0 0 2) x0 0) ∧ ((mset d y0 0 2) x0 0 ≤ 0 → tCall E 278 [.inr (11, x0)] (mset d y0 0 2) (tbk E 283 39 [.inr (11, x0), .inl (0, x1)] [] 0 0 K)) ∧ (0 < (mset d y0 0 2) x0 0 → K (.inl (some (0, 0))) (mset d y0 0 2))) ∧ (¬ y1 = 0 → mInR ((mset d y0 0 0) x0 0) ∧ ((mset d y0 0 0) x0 0 ≤ 0 → tCall E 278 [.inr (11, x0)] (mset d y0 0 0) (tbk E 283 39 [.inr (11, x0), .inl (0, x1)] [] 0 0 K)) ∧ (0 < (mset d y0 0 0) x0 0 → K (.inl (some (0, 0))) (mset d y0 0 0)))) :
  tRun E 283 (18, [.inr (11, x0), .inl (0, x1)], [.inl (0, y1), .inr (11, y0)], 0, 0, d) K := tT_run (cut := [0, 6, 18, 42, 47]) 9 _ h
theorem t_283_42 {E : mO × tW} {K : tK} {d : mD} {x0 x1 : Int}
  (h : tCall E 228 [.inr (11, x0), .inl (0, x1)] d (tbk E 283 44 [.inr (11, x0), .inl (0, x1)] [] 0 0 K)) :
  tRun E 283 (42, [.inr (11, x0), .inl (0, x1)], [], 0, 0, d) K := tT_run (cut := [0, 6, 18, 42, 47]) 3 _ h
theorem t_283_47 {E : mO × tW} {K : tK} {d : mD} {x0 x1 y0 : Int}
  (h : K (.inl (some (0, y0))) d) :
  tRun E 283 (47, [.inr (11, x0), .inl (0, x1)], [.inl (0, y0)], 0, 0, d) K := tT_run (cut := [0, 6, 18, 42, 47]) 1 _ h
theorem t_284_0 {E : mO × tW} {K : tK} {d : mD} {x0 x1 x2 : Int}
  (h : tCall E 238 [.inr (11, x0), .inl (0, x1)] d (tbk E 284 3 [.inr (11, x0), .inl (0, x1), .inl (0, x2)] [.inr (11, x0)] 0 0 K)) :
  tRun E 284 (0, [.inr (11, x0), .inl (0, x1), .inl (0, x2)], [], 0, 0, d) K := tT_run (cut := [0, 6, 14, 27, 51, 57]) 4 _ h
theorem t_284_6 {E : mO × tW} {K : tK} {d : mD} {x0 x1 x2 y0 y1 : Int}
  (h : mInR y1 ∧ (y1 = 0 → mInR ((mset d y0 0 1) x0 0) ∧ ((mset d y0 0 1) x0 0 ≤ 0 → tCall E 278 [.inr (11, x0)] (mset d y0 0 1) (tbk E 284 48 [.inr (11, x0), .inl (0, x1), .inl (0, x2)] [] 0 0 K)) ∧ (0 < (mset d y0 0 1) x0 0 → K (.inl (some (0, 0))) (mset d y0 0 1))) ∧ (¬ y1 = 0 → tCall E 237 [.inr (11, x0), .inl (0, x2)] d (tbk E 284 11 [.inr (11, x0), .inl (0, x1), .inl (0, x2)] [.inr (11, y0)] 0 0 K))) :
  tRun E 284 (6, [.inr (11, x0), .inl (0, x1), .inl (0, x2)], [.inl (0, y1), .inr (11, y0)], 0, 0, d) K := tT_run (cut := [0, 6, 14, 27, 51, 57]) 9 _ h
theorem t_284_14 {E : mO × tW} {K : tK} {d : mD} {x0 x1 x2 y0 y1 : Int}
  (h : mInR y1 ∧ (¬ y1 = 0 → tCall E 234 [.inr (11, x0), .inl (0, x1), .inl (0, x2)] d (tbk E 284 24 [.inr (11, x0), .inl (0, x1), .inl (0, x2)] [.inr (11, y0)] 0 0 K)) ∧ (y1 = 0 → mInR ((mset d y0 0 1) x0 0) ∧ ((mset d y0 0 1) x0 0 ≤ 0 → tCall E 278 [.inr (11, x0)] (mset d y0 0 1) (tbk E 284 48 [.inr (11, x0), .inl (0, x1), .inl (0, x2)] [] 0 0 K)) ∧ (0 < (mset d y0 0 1) x0 0 → K (.inl (some (0, 0))) (mset d y0 0 1)))) :
  tRun E 284 (14, [.inr (11, x0), .inl (0, x1), .inl (0, x2)], [.inl (0, y1), .inr (11, y0)], 0, 0, d) K := tT_run (cut := [0, 6, 14, 27, 51, 57]) 9 _ h
theorem t_284_27 {E : mO × tW} {K : tK} {d : mD} {x0 x1 x2 y0 y1 : Int}
  (h : mInR y1 ∧ (¬ y1 = 0 → mInR ((mset d y0 0 2) x0 0) ∧ ((mset d y0 0 2) x0 0 ≤ 0 → tCall E 278 [.inr (11, x0)] (mset d y0 0 2) (tbk E 284 48 [.inr (11, x0), .inl (0, x1), .inl (0, x2)] [] 0 0 K)) ∧ (0 < (mset d y0 0 2) x0 0 → K (.inl (some (0, 0))) (mset d y0 0 2))) ∧ (y1 = 0 → mInR ((mset d y0 0 0) x0 0) ∧ ((mset d y0 0 0) x0 0 ≤ 0 → tCall E 278 [.inr (11, x0)] (mset d y0 0 0) (tbk E 284 48 [.inr (11, x0), .inl (0, x1), .inl (0, x2)] [] 0 0 K)) ∧ (0 < (mset d y0 0 0) x0 0 → K (.inl (some (0, 0))) (mset d y0 0 0)))) :
  tRun E 284 (27, [.inr (11, x0), .inl (0, x1), .inl (0, x2)], [.inl (0, y1), .inr (11, y0)], 0, 0, d) K := tT_run (cut := [0, 6, 14, 27, 51, 57]) 9 _ h
theorem t_284_51 {E : mO × tW} {K : tK} {d : mD} {x0 x1 x2 : Int}
  (h : tCall E 235 [.inr (11, x0), .inl (0, x1), .inl (0, x2)] d (tbk E 284 54 [.inr (11, x0), .inl (0, x1), .inl (0, x2)] [] 0 0 K)) :
  tRun E 284 (51, [.inr (11, x0), .inl (0, x1), .inl (0, x2)], [], 0, 0, d) K := tT_run (cut := [0, 6, 14, 27, 51, 57]) 4 _ h
theorem t_284_57 {E : mO × tW} {K : tK} {d : mD} {x0 x1 x2 y0 : Int}
  (h : K (.inl (some (0, y0))) d) :
  tRun E 284 (57, [.inr (11, x0), .inl (0, x1), .inl (0, x2)], [.inl (0, y0)], 0, 0, d) K := tT_run (cut := [0, 6, 14, 27, 51, 57]) 1 _ h
theorem t_285_0 {E : mO × tW} {K : tK} {d : mD} {x0 x1 x2 x3 : Int}
  (h : tCall E 237 [.inr (11, x0), .inl (0, x1)] d (tbk E 285 3 [.inr (11, x0), .inl (0, x1), .inl (0, x2), .inl (0, x3), tu, tu] [.inr (11, x0)] 0 0 K)) :
  tRun E 285 (0, [.inr (11, x0), .inl (0, x1), .inl (0, x2), .inl (0, x3), tu, tu], [], 0, 0, d) K := tT_run (cut := [0, 6, 14, 30, 48, 73, 79, 105, 121, 136, 155]) 4 _ h
theorem t_285_6 {E : mO × tW} {K : tK} {d : mD} {x0 x1 x2 x3 y0 y1 : Int}
  (h : mInR y1 ∧ (y1 = 0 → mInR ((mset d y0 0 1) x0 0) ∧ ((mset d y0 0 1) x0 0 ≤ 0 → tCall E 278 [.inr (11, x0)] (mset d y0 0 1) (tbk E 285 70 [.inr (11, x0), .inl (0, x1), .inl (0, x2), .inl (0, x3), tu, tu] [] 0 0 K)) ∧ (0 < (mset d y0 0 1) x0 0 → K (.inl (some (0, 0))) (mset d y0 0 1))) ∧ (¬ y1 = 0 → tCall E 237 [.inr (11, x0), .inl (0, x2)] d (tbk E 285 11 [.inr (11, x0), .inl (0, x1), .inl (0, x2), .inl (0, x3), tu, tu] [.inr (11, y0)] 0 0 K))) :
  tRun E 285 (6, [.inr (11, x0), .inl (0, x1), .inl (0, x2), .inl (0, x3), tu, tu], [.inl (0, y1), .inr (11, y0)], 0, 0, d) K := tT_run (cut := [0, 6, 14, 30, 48, 73, 79, 105, 121, 136, 155]) 9 _ h
theorem t_285_14 {E : mO × tW} {K : tK} {d : mD} {x0 x1 x2 x3 y0 y1 : Int}
  (h : mInR y1 ∧ (¬ y1 = 0 → mInR x3 ∧ tCall E 176 [.inl (1, x3), .inl (1, 1), .inl (1, 200)] d (tbk E 285 27 [.inr (11, x0), .inl (0, x1), .inl (0, x2), .inl (0, x3), tu, tu] [.inr (11, y0)] 0 0 K)) ∧ (y1 = 0 → mInR ((mset d y0 0 1) x0 0) ∧ ((mset d y0 0 1) x0 0 ≤ 0 → tCall E 278 [.inr (11, x0)] (mset d y0 0 1) (tbk E 285 70 [.inr (11, x0), .inl (0, x1), .inl (0, x2), .inl (0, x3), tu, tu] [] 0 0 K)) ∧ (0 < (mset d y0 0 1) x0 0 → K (.inl (some (0, 0))) (mset d y0 0 1)))) :
  tRun E 285 (14, [.inr (11, x0), .inl (0, x1), .inl (0, x2), .inl (0, x3), tu, tu], [.inl (0, y1), .inr (11, y0)], 0, 0, d) K := tT_run (cut := [0, 6, 14, 30, 48, 73, 79, 105, 121, 136, 155]) 9 _ h
theorem t_285_30 {E : mO × tW} {K : tK} {d : mD} {x0 x1 x2 x3 y0 y1 : Int}
  (h : mInR y1 ∧ (¬ y1 = 0 → (mInR x1 ∧ mInR x2) ∧ (x1 = x2 → mInR ((mset d y0 0 3) x0 0) ∧ ((mset d y0 0 3) x0 0 ≤ 0 → tCall E 278 [.inr (11, x0)] (mset d y0 0 3) (tbk E 285 70 [.inr (11, x0), .inl (0, x1), .inl (0, x2), .inl (0, x3), tu, tu] [] 0 0 K)) ∧ (0 < (mset d y0 0 3) x0 0 → K (.inl (some (0, 0))) (mset d y0 0 3))) ∧ (¬ x1 = x2 → tCall E 245 [.inr (11, x0), .inl (0, x1), .inl (0, 0)] d (tbk E 285 45 [.inr (11, x0), .inl (0, x1), .inl (0, x2), .inl (0, x3), tu, tu] [.inr (11, y0)] 0 0 K))) ∧ (y1 = 0 → mInR ((mset d y0 0 2) x0 0) ∧ ((mset d y0 0 2) x0 0 ≤ 0 → tCall E 278 [.inr (11, x0)] (mset d y0 0 2) (tbk E 285 70 [.inr (11, x0), .inl (0, x1), .inl (0, x2), .inl (0, x3), tu, tu] [] 0 0 K)) ∧ (0 < (mset d y0 0 2) x0 0 → K (.inl (some (0, 0))) (mset d y0 0 2)))) :
  tRun E 285 (30, [.inr (11, x0), .inl (0, x1), .inl (0, x2), .inl (0, x3), tu, tu], [.inl (0, y1), .inr (11, y0)], 0, 0, d) K := tT_run (cut := [0, 6, 14, 30, 48, 73, 79, 105, 121, 136, 155]) 12 _ h
theorem t_285_48 {E : mO × tW} {K : tK} {d : mD} {x0 x1 x2 x3 y0 y1 : Int}
  (h : (mInR y1 ∧ mInR x3) ∧ (x3 ≤ y1 → mInR ((mset d y0 0 0) x0 0) ∧ ((mset d y0 0 0) x0 0 ≤ 0 → tCall E 278 [.inr (11, x0)] (mset d y0 0 0) (tbk E 285 70 [.inr (11, x0), .inl (0, x1), .inl (0, x2), .inl (0, x3), tu, tu] [] 0 0 K)) ∧ (0 < (mset d y0 0 0) x0 0 → K (.inl (some (0, 0))) (mset d y0 0 0))) ∧ (y1 < x3 → mInR ((mset d y0 0 3) x0 0) ∧ ((mset d y0 0 3) x0 0 ≤ 0 → tCall E 278 [.inr (11, x0)] (mset d y0 0 3) (tbk E 285 70 [.inr (11, x0), .inl (0, x1), .inl (0, x2), .inl (0, x3), tu, tu] [] 0 0 K)) ∧ (0 < (mset d y0 0 3) x0 0 → K (.inl (some (0, 0))) (mset d y0 0 3)))) :
  tRun E 285 (48, [.inr (11, x0), .inl (0, x1), .inl (0, x2), .inl (0, x3), tu, tu], [.inl (0, y1), .inr (11, y0)], 0, 0, d) K := tT_run (cut := [0, 6, 14, 30, 48, 73, 79, 105, 121, 136, 155]) 10 _ h
theorem t_285_73 {E : mO × tW} {K : tK} {d : mD} {x0 x1 x2 x3 : Int}
  (h : tRun E 285 (79, [.inr (11, x0), .inl (0, x1), .inl (0, x2), .inl (0, x3), .inl (0, x3), .inl (0, 0)], [], 0, 0, d) K) :
  tRun E 285 (73, [.inr (11, x0), .inl (0, x1), .inl (0, x2), .inl (0, x3), tu, tu], [], 0, 0, d) K := tT_run (cut := [0, 6, 14, 30, 48, 73, 79, 105, 121, 136, 155]) 4 _ h
theorem t_285_79 {E : mO × tW} {K : tK} {d : mD} {x0 x1 x2 x3 x4 x5 : Int}
  (h : (0 ≤ (10 : Int) ∧ (10 : Int) < 3116) ∧ (mInR x5 ∧ mInR (d (x0 + 1) 10)) ∧ (d (x0 + 1) 10 ≤ x5 → tCall E 245 [.inr (11, x0), .inl (0, x2), .inl (0, 0)] d (tbk E 285 152 [.inr (11, x0), .inl (0, x1), .inl (0, x2), .inl (0, x3), .inl (0, x4), .inl (0, x5)] [] 0 0 K)) ∧ (x5 < d (x0 + 1) 10 → mInR x4 ∧ (x4 ≤ 0 → tCall E 245 [.inr (11, x0), .inl (0, x2), .inl (0, 0)] d (tbk E 285 152 [.inr (11, x0), .inl (0, x1), .inl (0, x2), .inl (0, x3), .inl (0, x4), .inl (0, x5)] [] 0 0 K)) ∧ (0 < x4 → tCall E 180 [.inl (0, x5)] d (tbk E 285 102 [.inr (11, x0), .inl (0, x1), .inl (0, x2), .inl (0, x3), .inl (0, x4), .inl (0, x5)] [.inr (25, x0 + 1)] 0 0 K)))) :
  tRun E 285 (79, [.inr (11, x0), .inl (0, x1), .inl (0, x2), .inl (0, x3), .inl (0, x4), .inl (0, x5)], [], 0, 0, d) K := tT_run (cut := [0, 6, 14, 30, 48, 73, 79, 105, 121, 136, 155]) 12 _ h
theorem t_285_105 {E : mO × tW} {K : tK} {d : mD} {x0 x1 x2 x3 x4 x5 y0 y1 : Int}
  (h : (0 ≤ y1 + 0 ∧ y1 + 0 < 3116) ∧ (mInR (d y0 (y1 + 0)) ∧ mInR x1) ∧ (¬ d y0 (y1 + 0) = x1 → tRun E 285 (79, [.inr (11, x0), .inl (0, x1), .inl (0, x2), .inl (0, x3), .inl (0, x4), .inl (0, x5 + 1)], [], 0, 0, d) K) ∧ (d y0 (y1 + 0) = x1 → tCall E 180 [.inl (0, x5)] d (tbk E 285 118 [.inr (11, x0), .inl (0, x1), .inl (0, x2), .inl (0, x3), .inl (0, x4), .inl (0, x5)] [.inr (25, x0 + 1)] 0 0 K))) :
  tRun E 285 (105, [.inr (11, x0), .inl (0, x1), .inl (0, x2), .inl (0, x3), .inl (0, x4), .inl (0, x5)], [.inl (0, y1), .inr (25, y0)], 0, 0, d) K := tT_run (cut := [0, 6, 14, 30, 48, 73, 79, 105, 121, 136, 155]) 9 _ h
theorem t_285_121 {E : mO × tW} {K : tK} {d : mD} {x0 x1 x2 x3 x4 x5 y0 y1 : Int}
  (h : (0 ≤ y1 + 3 ∧ y1 + 3 < 3116) ∧ mInR (d y0 (y1 + 3)) ∧ (¬ d y0 (y1 + 3) = 0 → tRun E 285 (79, [.inr (11, x0), .inl (0, x1), .inl (0, x2), .inl (0, x3), .inl (0, x4), .inl (0, x5 + 1)], [], 0, 0, d) K) ∧ (d y0 (y1 + 3) = 0 → tCall E 180 [.inl (0, x5)] d (tbk E 285 133 [.inr (11, x0), .inl (0, x1), .inl (0, x2), .inl (0, x3), .inl (0, x4), .inl (0, x5)] [.inr (25, x0 + 1)] 0 0 K))) :
  tRun E 285 (121, [.inr (11, x0), .inl (0, x1), .inl (0, x2), .inl (0, x3), .inl (0, x4), .inl (0, x5)], [.inl (0, y1), .inr (25, y0)], 0, 0, d) K := tT_run (cut := [0, 6, 14, 30, 48, 73, 79, 105, 121, 136, 155]) 8 _ h
theorem t_285_136 {E : mO × tW} {K : tK} {d : mD} {x0 x1 x2 x3 x4 x5 y0 y1 : Int}
  (h : (0 ≤ y1 + 0 ∧ y1 + 0 < 3116) ∧ tRun E 285 (79, [.inr (11, x0), .inl (0, x1), .inl (0, x2), .inl (0, x3), .inl (0, x4 + (-1)), .inl (0, x5 + 1)], [], 0, 0, mset d y0 (y1 + 0) x2) K) :
  tRun E 285 (136, [.inr (11, x0), .inl (0, x1), .inl (0, x2), .inl (0, x3), .inl (0, x4), .inl (0, x5)], [.inl (0, y1), .inr (25, y0)], 0, 0, d) K := tT_run (cut := [0, 6, 14, 30, 48, 73, 79, 105, 121, 136, 155]) 7 _ h
theorem t_285_155 {E : mO × tW} {K : tK} {d : mD} {x0 x1 x2 x3 x4 x5 y0 : Int}
  (h : K (.inl (some (0, y0))) d) :
  tRun E 285 (155, [.inr (11, x0), .inl (0, x1), .inl (0, x2), .inl (0, x3), .inl (0, x4), .inl (0, x5)], [.inl (0, y0)], 0, 0, d) K := tT_run (cut := [0, 6, 14, 30, 48, 73, 79, 105, 121, 136, 155]) 1 _ h
theorem t_286_0 {E : mO × tW} {K : tK} {d : mD} {x0 x1 x2 : Int}
  (h : tCall E 237 [.inr (11, x0), .inl (0, x1)] d (tbk E 286 3 [.inr (11, x0), .inl (0, x1), .inl (0, x2), tu, tu] [.inr (11, x0)] 0 0 K)) :
  tRun E 286 (0, [.inr (11, x0), .inl (0, x1), .inl (0, x2), tu, tu], [], 0, 0, d) K := tT_run (cut := [0, 6, 22, 35, 60, 65, 90, 106, 121, 167]) 4 _ h
theorem t_286_6 {E : mO × tW} {K : tK} {d : mD} {x0 x1 x2 y0 y1 : Int}
  (h : mInR y1 ∧ (¬ y1 = 0 → mInR x2 ∧ tCall E 176 [.inl (1, x2), .inl (1, 1), .inl (1, 200)] d (tbk E 286 19 [.inr (11, x0), .inl (0, x1), .inl (0, x2), tu, tu] [.inr (11, y0)] 0 0 K)) ∧ (y1 = 0 → mInR ((mset d y0 0 1) x0 0) ∧ ((mset d y0 0 1) x0 0 ≤ 0 → tCall E 278 [.inr (11, x0)] (mset d y0 0 1) (tbk E 286 57 [.inr (11, x0), .inl (0, x1), .inl (0, x2), tu, tu] [] 0 0 K)) ∧ (0 < (mset d y0 0 1) x0 0 → K (.inl (some (0, 0))) (mset d y0 0 1)))) :
  tRun E 286 (6, [.inr (11, x0), .inl (0, x1), .inl (0, x2), tu, tu], [.inl (0, y1), .inr (11, y0)], 0, 0, d) K := tT_run (cut := [0, 6, 22, 35, 60, 65, 90, 106, 121, 167]) 9 _ h
theorem t_286_22 {E : mO × tW} {K : tK} {d : mD} {x0 x1 x2 y0 y1 : Int}
  (h : mInR y1 ∧ (¬ y1 = 0 → tCall E 245 [.inr (11, x0), .inl (0, x1), .inl (0, 0)] d (tbk E 286 32 [.inr (11, x0), .inl (0, x1), .inl (0, x2), tu, tu] [.inr (11, y0)] 0 0 K)) ∧ (y1 = 0 → mInR ((mset d y0 0 2) x0 0) ∧ ((mset d y0 0 2) x0 0 ≤ 0 → tCall E 278 [.inr (11, x0)] (mset d y0 0 2) (tbk E 286 57 [.inr (11, x0), .inl (0, x1), .inl (0, x2), tu, tu] [] 0 0 K)) ∧ (0 < (mset d y0 0 2) x0 0 → K (.inl (some (0, 0))) (mset d y0 0 2)))) :
  tRun E 286 (22, [.inr (11, x0), .inl (0, x1), .inl (0, x2), tu, tu], [.inl (0, y1), .inr (11, y0)], 0, 0, d) K := tT_run (cut := [0, 6, 22, 35, 60, 65, 90, 106, 121, 167]) 9 _ h
theorem t_286_35 {E : mO × tW} {K : tK} {d : mD} {x0 x1 x2 y0 y1 : Int}
  (h : (mInR y1 ∧ mInR x2) ∧ (x2 ≤ y1 → mInR ((mset d y0 0 0) x0 0) ∧ ((mset d y0 0 0) x0 0 ≤ 0 → tCall E 278 [.inr (11, x0)] (mset d y0 0 0) (tbk E 286 57 [.inr (11, x0), .inl (0, x1), .inl (0, x2), tu, tu] [] 0 0 K)) ∧ (0 < (mset d y0 0 0) x0 0 → K (.inl (some (0, 0))) (mset d y0 0 0))) ∧ (y1 < x2 → mInR ((mset d y0 0 3) x0 0) ∧ ((mset d y0 0 3) x0 0 ≤ 0 → tCall E 278 [.inr (11, x0)] (mset d y0 0 3) (tbk E 286 57 [.inr (11, x0), .inl (0, x1), .inl (0, x2), tu, tu] [] 0 0 K)) ∧ (0 < (mset d y0 0 3) x0 0 → K (.inl (some (0, 0))) (mset d y0 0 3)))) :
  tRun E 286 (35, [.inr (11, x0), .inl (0, x1), .inl (0, x2), tu, tu], [.inl (0, y1), .inr (11, y0)], 0, 0, d) K := tT_run (cut := [0, 6, 22, 35, 60, 65, 90, 106, 121, 167]) 10 _ h
theorem t_286_60 {E : mO × tW} {K : tK} {d : mD} {x0 x1 x2 : Int}
  (h : tRun E 286 (65, [.inr (11, x0), .inl (0, x1), .inl (0, x2), .inl (0, x2), .inl (0, 0)], [], 0, 0, d) K) :
  tRun E 286 (60, [.inr (11, x0), .inl (0, x1), .inl (0, x2), tu, tu], [], 0, 0, d) K := tT_run (cut := [0, 6, 22, 35, 60, 65, 90, 106, 121, 167]) 4 _ h
theorem t_286_65 {E : mO × tW} {K : tK} {d : mD} {x0 x1 x2 x3 x4 : Int}
  (h : (0 ≤ (10 : Int) ∧ (10 : Int) < 3116) ∧ (mInR x4 ∧ mInR (d (x0 + 1) 10)) ∧ (d (x0 + 1) 10 ≤ x4 → tCall E 219 [.inr (11, x0)] d (tbk E 286 164 [.inr (11, x0), .inl (0, x1), .inl (0, x2), .inl (0, x3), .inl (0, x4)] [] 0 0 K)) ∧ (x4 < d (x0 + 1) 10 → mInR x3 ∧ (x3 ≤ 0 → tCall E 219 [.inr (11, x0)] d (tbk E 286 164 [.inr (11, x0), .inl (0, x1), .inl (0, x2), .inl (0, x3), .inl (0, x4)] [] 0 0 K)) ∧ (0 < x3 → tCall E 180 [.inl (0, x4)] d (tbk E 286 87 [.inr (11, x0), .inl (0, x1), .inl (0, x2), .inl (0, x3), .inl (0, x4)] [.inr (25, x0 + 1)] 0 0 K)))) :
  tRun E 286 (65, [.inr (11, x0), .inl (0, x1), .inl (0, x2), .inl (0, x3), .inl (0, x4)], [], 0, 0, d) K := tT_run (cut := [0, 6, 22, 35, 60, 65, 90, 106, 121, 167]) 12 _ h
theorem t_286_90 {E : mO × tW} {K : tK} {d : mD} {x0 x1 x2 x3 x4 y0 y1 : Int}
  (h : (0 ≤ y1 + 0 ∧ y1 + 0 < 3116) ∧ (mInR (d y0 (y1 + 0)) ∧ mInR x1) ∧ (¬ d y0 (y1 + 0) = x1 → tRun E 286 (65, [.inr (11, x0), .inl (0, x1), .inl (0, x2), .inl (0, x3), .inl (0, x4 + 1)], [], 0, 0, d) K) ∧ (d y0 (y1 + 0) = x1 → tCall E 180 [.inl (0, x4)] d (tbk E 286 103 [.inr (11, x0), .inl (0, x1), .inl (0, x2), .inl (0, x3), .inl (0, x4)] [.inr (25, x0 + 1)] 0 0 K))) :
  tRun E 286 (90, [.inr (11, x0), .inl (0, x1), .inl (0, x2), .inl (0, x3), .inl (0, x4)], [.inl (0, y1), .inr (25, y0)], 0, 0, d) K := tT_run (cut := [0, 6, 22, 35, 60, 65, 90, 106, 121, 167]) 9 _ h
theorem t_286_106 {E : mO × tW} {K : tK} {d : mD} {x0 x1 x2 x3 x4 y0 y1 : Int}
  (h : (0 ≤ y1 + 3 ∧ y1 + 3 < 3116) ∧ mInR (d y0 (y1 + 3)) ∧ (¬ d y0 (y1 + 3) = 0 → tRun E 286 (65, [.inr (11, x0), .inl (0, x1), .inl (0, x2), .inl (0, x3), .inl (0, x4 + 1)], [], 0, 0, d) K) ∧ (d y0 (y1 + 3) = 0 → tCall E 180 [.inl (0, x4)] d (tbk E 286 118 [.inr (11, x0), .inl (0, x1), .inl (0, x2), .inl (0, x3), .inl (0, x4)] [.inr (25, x0 + 1)] 0 0 K))) :
  tRun E 286 (106, [.inr (11, x0), .inl (0, x1), .inl (0, x2), .inl (0, x3), .inl (0, x4)], [.inl (0, y1), .inr (25, y0)], 0, 0, d) K := tT_run (cut := [0, 6, 22, 35, 60, 65, 90, 106, 121, 167]) 8 _ h
theorem t_286_121 {E : mO × tW} {K : tK} {d : mD} {x0 x1 x2 x3 x4 y0 y1 : Int}
  (h : (0 ≤ y1 + 3 ∧ y1 + 3 < 3116) ∧ (0 ≤ (11 : Int) ∧ (11 : Int) < 3116) ∧ (0 ≤ 2916 + ((mset d y0 (y1 + 3) 1) (x0 + 1) 11) ∧ 2916 + ((mset d y0 (y1 + 3) 1) (x0 + 1) 11) < 3116) ∧ (0 ≤ (11 : Int) ∧ (11 : Int) < 3116) ∧ (0 ≤ (11 : Int) ∧ (11 : Int) < 3116) ∧ tRun E 286 (65, [.inr (11, x0), .inl (0, x1), .inl (0, x2), .inl (0, x3 + (-1)), .inl (0, x4 + 1)], [], 0, 0, mset (mset (mset d y0 (y1 + 3) 1) (x0 + 1) (2916 + ((mset d y0 (y1 + 3) 1) (x0 + 1) 11)) x4) (x0 + 1) 11 (((mset (mset d y0 (y1 + 3) 1) (x0 + 1) (2916 + ((mset d y0 (y1 + 3) 1) (x0 + 1) 11)) x4) (x0 + 1) 11) + 1)) K) :
  tRun E 286 (121, [.inr (11, x0), .inl (0, x1), .inl (0, x2), .inl (0, x3), .inl (0, x4)], [.inl (0, y1), .inr (25, y0)], 0, 0, d) K := tT_run (cut := [0, 6, 22, 35, 60, 65, 90, 106, 121, 167]) 25 _ h
theorem t_286_167 {E : mO × tW} {K : tK} {d : mD} {x0 x1 x2 x3 x4 y0 : Int}
  (h : K (.inl (some (0, y0))) d) :
  tRun E 286 (167, [.inr (11, x0), .inl (0, x1), .inl (0, x2), .inl (0, x3), .inl (0, x4)], [.inl (0, y0)], 0, 0, d) K := tT_run (cut := [0, 6, 22, 35, 60, 65, 90, 106, 121, 167]) 1 _ h
theorem t_287_0 {E : mO × tW} {K : tK} {d : mD} {x0 x1 : Int}
  (h : mInR x1 ∧ tCall E 176 [.inl (1, x1), .inl (1, 1), .inl (1, 9999)] d (tbk E 287 7 [.inr (11, x0), .inl (0, x1), tu] [.inr (11, x0)] 0 0 K)) :
  tRun E 287 (0, [.inr (11, x0), .inl (0, x1), tu], [], 0, 0, d) K := tT_run (cut := [0, 10, 51, 65]) 6 _ h
theorem t_287_10 {E : mO × tW} {K : tK} {d : mD} {x0 x1 y0 y1 : Int}
  (h : mInR y1 ∧ (¬ y1 = 0 → (0 ≤ (1 : Int) ∧ (1 : Int) < 3116) ∧ (mInR ((d (x0 + 1) 1) + x1) ∧ mInR 99999) ∧ ((d (x0 + 1) 1) + x1 ≤ 99999 → mInR ((mset d y0 0 0) x0 0) ∧ ((mset d y0 0 0) x0 0 ≤ 0 → tCall E 278 [.inr (11, x0)] (mset d y0 0 0) (tbk E 287 48 [.inr (11, x0), .inl (0, x1), tu] [] 0 0 K)) ∧ (0 < (mset d y0 0 0) x0 0 → K (.inl (some (0, 0))) (mset d y0 0 0))) ∧ (99999 < (d (x0 + 1) 1) + x1 → mInR ((mset d y0 0 2) x0 0) ∧ ((mset d y0 0 2) x0 0 ≤ 0 → tCall E 278 [.inr (11, x0)] (mset d y0 0 2) (tbk E 287 48 [.inr (11, x0), .inl (0, x1), tu] [] 0 0 K)) ∧ (0 < (mset d y0 0 2) x0 0 → K (.inl (some (0, 0))) (mset d y0 0 2)))) ∧ (y1 = 0 → mInR ((mset d y0 0 1) x0 0) ∧ ((mset d y0 0 1) x0 0 ≤ 0 → tCall E 278 [.inr (11, x0)] (mset d y0 0 1) (tbk E 287 48 [.inr (11, x0), .inl (0, x1), tu] [] 0 0 K)) ∧ (0 < (mset d y0 0 1) x0 0 → K (.inl (some (0, 0))) (mset d y0 0 1)))) :
  tRun E 287 (10, [.inr (11, x0), .inl (0, x1), tu], [.inl (0, y1), .inr (11, y0)], 0, 0, d) K := tT_run (cut := [0, 10, 51, 65]) 17 _ h
theorem t_287_51 {E : mO × tW} {K : tK} {d : mD} {x0 x1 : Int}
  (h : (0 ≤ (1 : Int) ∧ (1 : Int) < 3116) ∧ (0 ≤ (1 : Int) ∧ (1 : Int) < 3116) ∧ tCall E 219 [.inr (11, x0)] (mset d (x0 + 1) 1 ((d (x0 + 1) 1) + x1)) (tbk E 287 62 [.inr (11, x0), .inl (0, x1), tu] [] 0 0 K)) :
  tRun E 287 (51, [.inr (11, x0), .inl (0, x1), tu], [], 0, 0, d) K := tT_run (cut := [0, 10, 51, 65]) 10 _ h
theorem t_287_65 {E : mO × tW} {K : tK} {d : mD} {x0 x1 y0 : Int}
  (h : (0 ≤ (1 : Int) ∧ (1 : Int) < 3116) ∧ K (.inl (some (0, d (x0 + 1) 1))) d) :
  tRun E 287 (65, [.inr (11, x0), .inl (0, x1), tu], [.inl (0, y0)], 0, 0, d) K := tT_run (cut := [0, 10, 51, 65]) 6 _ h
theorem t_288_0 {E : mO × tW} {K : tK} {d : mD} {x0 x1 x2 : Int}
  (h : tCall E 236 [.inr (11, x0), .inl (0, x1)] d (tbk E 288 3 [.inr (11, x0), .inl (0, x1), .inl (0, x2)] [.inr (11, x0)] 0 0 K)) :
  tRun E 288 (0, [.inr (11, x0), .inl (0, x1), .inl (0, x2)], [], 0, 0, d) K := tT_run (cut := [0, 6, 14, 27, 51, 57, 65]) 4 _ h
theorem t_288_6 {E : mO × tW} {K : tK} {d : mD} {x0 x1 x2 y0 y1 : Int}
  (h : mInR y1 ∧ (y1 = 0 → mInR ((mset d y0 0 1) x0 0) ∧ ((mset d y0 0 1) x0 0 ≤ 0 → tCall E 278 [.inr (11, x0)] (mset d y0 0 1) (tbk E 288 48 [.inr (11, x0), .inl (0, x1), .inl (0, x2)] [] 0 0 K)) ∧ (0 < (mset d y0 0 1) x0 0 → K (.inl (some (0, 0))) (mset d y0 0 1))) ∧ (¬ y1 = 0 → tCall E 236 [.inr (11, x0), .inl (0, x2)] d (tbk E 288 11 [.inr (11, x0), .inl (0, x1), .inl (0, x2)] [.inr (11, y0)] 0 0 K))) :
  tRun E 288 (6, [.inr (11, x0), .inl (0, x1), .inl (0, x2)], [.inl (0, y1), .inr (11, y0)], 0, 0, d) K := tT_run (cut := [0, 6, 14, 27, 51, 57, 65]) 9 _ h
theorem t_288_14 {E : mO × tW} {K : tK} {d : mD} {x0 x1 x2 y0 y1 : Int}
  (h : mInR y1 ∧ (¬ y1 = 0 → tCall E 270 [.inr (11, x0), .inl (0, x1), .inl (0, x2)] d (tbk E 288 24 [.inr (11, x0), .inl (0, x1), .inl (0, x2)] [.inr (11, y0)] 0 0 K)) ∧ (y1 = 0 → mInR ((mset d y0 0 1) x0 0) ∧ ((mset d y0 0 1) x0 0 ≤ 0 → tCall E 278 [.inr (11, x0)] (mset d y0 0 1) (tbk E 288 48 [.inr (11, x0), .inl (0, x1), .inl (0, x2)] [] 0 0 K)) ∧ (0 < (mset d y0 0 1) x0 0 → K (.inl (some (0, 0))) (mset d y0 0 1)))) :
  tRun E 288 (14, [.inr (11, x0), .inl (0, x1), .inl (0, x2)], [.inl (0, y1), .inr (11, y0)], 0, 0, d) K := tT_run (cut := [0, 6, 14, 27, 51, 57, 65]) 9 _ h
theorem t_288_27 {E : mO × tW} {K : tK} {d : mD} {x0 x1 x2 y0 y1 : Int}
  (h : mInR y1 ∧ (y1 = 0 → mInR ((mset d y0 0 2) x0 0) ∧ ((mset d y0 0 2) x0 0 ≤ 0 → tCall E 278 [.inr (11, x0)] (mset d y0 0 2) (tbk E 288 48 [.inr (11, x0), .inl (0, x1), .inl (0, x2)] [] 0 0 K)) ∧ (0 < (mset d y0 0 2) x0 0 → K (.inl (some (0, 0))) (mset d y0 0 2))) ∧ (¬ y1 = 0 → mInR ((mset d y0 0 0) x0 0) ∧ ((mset d y0 0 0) x0 0 ≤ 0 → tCall E 278 [.inr (11, x0)] (mset d y0 0 0) (tbk E 288 48 [.inr (11, x0), .inl (0, x1), .inl (0, x2)] [] 0 0 K)) ∧ (0 < (mset d y0 0 0) x0 0 → K (.inl (some (0, 0))) (mset d y0 0 0)))) :
  tRun E 288 (27, [.inr (11, x0), .inl (0, x1), .inl (0, x2)], [.inl (0, y1), .inr (11, y0)], 0, 0, d) K := tT_run (cut := [0, 6, 14, 27, 51, 57, 65]) 9 _ h
theorem t_288_51 {E : mO × tW} {K : tK} {d : mD} {x0 x1 x2 : Int}
  (h : tCall E 229 [.inr (11, x0), .inl (0, x1), .inl (0, x2)] d (tbk E 288 54 [.inr (11, x0), .inl (0, x1), .inl (0, x2)] [] 0 0 K)) :
  tRun E 288 (51, [.inr (11, x0), .inl (0, x1), .inl (0, x2)], [], 0, 0, d) K := tT_run (cut := [0, 6, 14, 27, 51, 57, 65]) 4 _ h
theorem t_288_57 {E : mO × tW} {K : tK} {d : mD} {x0 x1 x2 : Int}
  (h : tCall E 177 [.inl (0, x2)] d (tbk E 288 62 [.inr (11, x0), .inl (0, x1), .inl (0, x2)] [.inr (25, x0 + 1)] 0 0 K)) :
  tRun E 288 (57, [.inr (11, x0), .inl (0, x1), .inl (0, x2)], [], 0, 0, d) K := tT_run (cut := [0, 6, 14, 27, 51, 57, 65]) 4 _ h
theorem t_288_65 {E : mO × tW} {K : tK} {d : mD} {x0 x1 x2 y0 y1 : Int}
  (h : (0 ≤ y1 + 5 ∧ y1 + 5 < 3116) ∧ K (.inl (some (0, d y0 (y1 + 5)))) d) :
  tRun E 288 (65, [.inr (11, x0), .inl (0, x1), .inl (0, x2)], [.inl (0, y1), .inr (25, y0)], 0, 0, d) K := tT_run (cut := [0, 6, 14, 27, 51, 57, 65]) 4 _ h
theorem t_289_0 {E : mO × tW} {K : tK} {d : mD} {x0 x1 : Int}
  (h : tCall E 236 [.inr (11, x0), .inl (0, x1)] d (tbk E 289 3 [.inr (11, x0), .inl (0, x1), tu, tu] [.inr (11, x0)] 0 0 K)) :
  tRun E 289 (0, [.inr (11, x0), .inl (0, x1), tu, tu], [], 0, 0, d) K := tT_run (cut := [0, 6, 21, 48, 56, 64, 84]) 4 _ h
theorem t_289_6 {E : mO × tW} {K : tK} {d : mD} {x0 x1 y0 y1 : Int}
  (h : mInR y1 ∧ (¬ y1 = 0 → tCall E 177 [.inl (0, x1)] d (tbk E 289 18 [.inr (11, x0), .inl (0, x1), tu, tu] [.inr (25, x0 + 1), .inr (11, y0)] 0 0 K)) ∧ (y1 = 0 → mInR ((mset d y0 0 1) x0 0) ∧ ((mset d y0 0 1) x0 0 ≤ 0 → tCall E 278 [.inr (11, x0)] (mset d y0 0 1) (tbk E 289 45 [.inr (11, x0), .inl (0, x1), tu, tu] [] 0 0 K)) ∧ (0 < (mset d y0 0 1) x0 0 → K (.inl (some (0, 0))) (mset d y0 0 1)))) :
  tRun E 289 (6, [.inr (11, x0), .inl (0, x1), tu, tu], [.inl (0, y1), .inr (11, y0)], 0, 0, d) K := tT_run (cut := [0, 6, 21, 48, 56, 64, 84]) 9 _ h
theorem t_289_21 {E : mO × tW} {K : tK} {d : mD} {x0 x1 y0 y1 y2 : Int}
  (h : (0 ≤ y2 + 4 ∧ y2 + 4 < 3116) ∧ mInR (d y1 (y2 + 4)) ∧ (¬ d y1 (y2 + 4) = 0 → mInR ((mset d y0 0 2) x0 0) ∧ ((mset d y0 0 2) x0 0 ≤ 0 → tCall E 278 [.inr (11, x0)] (mset d y0 0 2) (tbk E 289 45 [.inr (11, x0), .inl (0, x1), tu, tu] [] 0 0 K)) ∧ (0 < (mset d y0 0 2) x0 0 → K (.inl (some (0, 0))) (mset d y0 0 2))) ∧ (d y1 (y2 + 4) = 0 → mInR ((mset d y0 0 0) x0 0) ∧ ((mset d y0 0 0) x0 0 ≤ 0 → tCall E 278 [.inr (11, x0)] (mset d y0 0 0) (tbk E 289 45 [.inr (11, x0), .inl (0, x1), tu, tu] [] 0 0 K)) ∧ (0 < (mset d y0 0 0) x0 0 → K (.inl (some (0, 0))) (mset d y0 0 0)))) :
  tRun E 289 (21, [.inr (11, x0), .inl (0, x1), tu, tu], [.inl (0, y2), .inr (25, y1), .inr (11, y0)], 0, 0, d) K := tT_run (cut := [0, 6, 21, 48, 56, 64, 84]) 12 _ h
theorem t_289_48 {E : mO × tW} {K : tK} {d : mD} {x0 x1 : Int}
  (h : tCall E 177 [.inl (0, x1)] d (tbk E 289 53 [.inr (11, x0), .inl (0, x1), tu, tu] [.inr (25, x0 + 1)] 0 0 K)) :
  tRun E 289 (48, [.inr (11, x0), .inl (0, x1), tu, tu], [], 0, 0, d) K := tT_run (cut := [0, 6, 21, 48, 56, 64, 84]) 4 _ h
theorem t_289_56 {E : mO × tW} {K : tK} {d : mD} {x0 x1 y0 y1 : Int}
  (h : (0 ≤ y1 + 4 ∧ y1 + 4 < 3116) ∧ tRun E 289 (64, [.inr (11, x0), .inl (0, x1), .inl (0, 0), .inl (0, 0)], [], 0, 0, mset d y0 (y1 + 4) 1) K) :
  tRun E 289 (56, [.inr (11, x0), .inl (0, x1), tu, tu], [.inl (0, y1), .inr (25, y0)], 0, 0, d) K := tT_run (cut := [0, 6, 21, 48, 56, 64, 84]) 8 _ h
theorem t_289_64 {E : mO × tW} {K : tK} {d : mD} {x0 x1 x2 x3 : Int}
  (h : (0 ≤ (7 : Int) ∧ (7 : Int) < 3116) ∧ (mInR x3 ∧ mInR (d (x0 + 1) 7)) ∧ (d (x0 + 1) 7 ≤ x3 → K (.inl (some (0, x2))) d) ∧ (x3 < d (x0 + 1) 7 → tCall E 177 [.inl (0, x3)] d (tbk E 289 81 [.inr (11, x0), .inl (0, x1), .inl (0, x2), .inl (0, x3)] [.inr (25, x0 + 1), .inl (0, x2)] 0 0 K))) :
  tRun E 289 (64, [.inr (11, x0), .inl (0, x1), .inl (0, x2), .inl (0, x3)], [], 0, 0, d) K := tT_run (cut := [0, 6, 21, 48, 56, 64, 84]) 11 _ h
theorem t_289_84 {E : mO × tW} {K : tK} {d : mD} {x0 x1 x2 x3 y0 y1 y2 : Int}
  (h : (0 ≤ y2 + 4 ∧ y2 + 4 < 3116) ∧ tRun E 289 (64, [.inr (11, x0), .inl (0, x1), .inl (0, y0 + (d y1 (y2 + 4))), .inl (0, x3 + 1)], [], 0, 0, d) K) :
  tRun E 289 (84, [.inr (11, x0), .inl (0, x1), .inl (0, x2), .inl (0, x3)], [.inl (0, y2), .inr (25, y1), .inl (0, y0)], 0, 0, d) K := tT_run (cut := [0, 6, 21, 48, 56, 64, 84]) 7 _ h
/-! ===== pieces of the methods between cuts: printed by a program of mine ===== -/
theorem t_290_0 {E : mO × tW} {K : tK} {d : mD} {x0 : Int}
  (h : tCall E 210 [.inr (11, x0)] d (tbk E 290 1 [.inr (11, x0), tu] [] 0 0 K)) :
  tRun E 290 (0, [.inr (11, x0), tu], [], 0, 0, d) K := tT_run (cut := [0, 4, 31, 56, 61]) 2 _ h
theorem t_290_4 {E : mO × tW} {K : tK} {d : mD} {x0 y0 : Int}
  (h : mInR y0 ∧ (¬ y0 = 0 → (0 ≤ (8 : Int) ∧ (8 : Int) < 3116) ∧ (mInR (d (x0 + 1) 8) ∧ mInR 16) ∧ (d (x0 + 1) 8 = 16 → mInR ((mset d x0 0 2) x0 0) ∧ ((mset d x0 0 2) x0 0 ≤ 0 → tCall E 278 [.inr (11, x0)] (mset d x0 0 2) (tbk E 290 53 [.inr (11, x0), .inl (0, y0)] [] 0 0 K)) ∧ (0 < (mset d x0 0 2) x0 0 → K (.inl (some (0, 0))) (mset d x0 0 2))) ∧ (¬ d (x0 + 1) 8 = 16 → tCall E 183 [.inr (11, x0), .inl (0, y0)] d (tbk E 290 28 [.inr (11, x0), .inl (0, y0)] [.inr (11, x0)] 0 0 K))) ∧ (y0 = 0 → mInR ((mset d x0 0 1) x0 0) ∧ ((mset d x0 0 1) x0 0 ≤ 0 → tCall E 278 [.inr (11, x0)] (mset d x0 0 1) (tbk E 290 53 [.inr (11, x0), .inl (0, y0)] [] 0 0 K)) ∧ (0 < (mset d x0 0 1) x0 0 → K (.inl (some (0, 0))) (mset d x0 0 1)))) :
  tRun E 290 (4, [.inr (11, x0), tu], [.inl (0, y0)], 0, 0, d) K := tT_run (cut := [0, 4, 31, 56, 61]) 18 _ h
theorem t_290_31 {E : mO × tW} {K : tK} {d : mD} {x0 x1 y0 y1 : Int}
  (h : (mInR y1 ∧ mInR ((-1))) ∧ (y1 = (-1) → mInR ((mset d y0 0 0) x0 0) ∧ ((mset d y0 0 0) x0 0 ≤ 0 → tCall E 278 [.inr (11, x0)] (mset d y0 0 0) (tbk E 290 53 [.inr (11, x0), .inl (0, x1)] [] 0 0 K)) ∧ (0 < (mset d y0 0 0) x0 0 → K (.inl (some (0, 0))) (mset d y0 0 0))) ∧ (¬ y1 = (-1) → mInR ((mset d y0 0 2) x0 0) ∧ ((mset d y0 0 2) x0 0 ≤ 0 → tCall E 278 [.inr (11, x0)] (mset d y0 0 2) (tbk E 290 53 [.inr (11, x0), .inl (0, x1)] [] 0 0 K)) ∧ (0 < (mset d y0 0 2) x0 0 → K (.inl (some (0, 0))) (mset d y0 0 2)))) :
  tRun E 290 (31, [.inr (11, x0), .inl (0, x1)], [.inl (0, y1), .inr (11, y0)], 0, 0, d) K := tT_run (cut := [0, 4, 31, 56, 61]) 10 _ h
theorem t_290_56 {E : mO × tW} {K : tK} {d : mD} {x0 x1 : Int}
  (h : tCall E 182 [.inr (11, x0), .inl (0, x1)] d (tbk E 290 58 [.inr (11, x0), .inl (0, x1)] [] 0 0 K)) :
  tRun E 290 (56, [.inr (11, x0), .inl (0, x1)], [], 0, 0, d) K := tT_run (cut := [0, 4, 31, 56, 61]) 3 _ h
theorem t_290_61 {E : mO × tW} {K : tK} {d : mD} {x0 x1 : Int}
  (h : (0 ≤ (8 : Int) ∧ (8 : Int) < 3116) ∧ K (.inl (some (0, (d (x0 + 1) 8) - 1))) d) :
  tRun E 290 (61, [.inr (11, x0), .inl (0, x1)], [], 0, 0, d) K := tT_run (cut := [0, 4, 31, 56, 61]) 7 _ h
theorem t_291_0 {E : mO × tW} {K : tK} {d : mD} {x0 : Int}
  (h : (mInR x0 ∧ mInR 2) ∧ (2 ≤ x0 → K (.inl (some (0, 1))) d) ∧ (x0 < 2 → K (.inl (some (0, 0))) d)) :
  tRun E 291 (0, [.inl (0, x0)], [], 0, 0, d) K := tT_run (cut := [0]) 6 _ h
theorem t_292_0 {E : mO × tW} {K : tK} {d : mD} {x0 : Int}
  (h : (mInR x0 ∧ mInR 1) ∧ (¬ x0 = 1 → (mInR x0 ∧ mInR 3) ∧ (¬ x0 = 3 → (mInR x0 ∧ mInR 4) ∧ (¬ x0 = 4 → K (.inl (some (0, 9))) d) ∧ (x0 = 4 → K (.inl (some (0, 99))) d)) ∧ (x0 = 3 → K (.inl (some (0, 20))) d)) ∧ (x0 = 1 → K (.inl (some (0, 3))) d)) :
  tRun E 292 (0, [.inl (0, x0)], [], 0, 0, d) K := tT_run (cut := [0]) 12 _ h
theorem t_293_0 {E : mO × tW} {K : tK} {d : mD} {x0 x1 x2 : Int}
  (h : mInR x1 ∧ tCall E 176 [.inl (1, x1), .inl (1, 0), .inl (1, 4)] d (tbk E 293 7 [.inr (11, x0), .inl (0, x1), .inl (0, x2), tu] [.inr (11, x0)] 0 0 K)) :
  tRun E 293 (0, [.inr (11, x0), .inl (0, x1), .inl (0, x2), tu], [], 0, 0, d) K := tT_run (cut := [0, 10, 19, 24, 28, 52]) 6 _ h
theorem t_293_10 {E : mO × tW} {K : tK} {d : mD} {x0 x1 x2 y0 y1 : Int}
  (h : mInR y1 ∧ (y1 = 0 → mInR ((mset d y0 0 1) x0 0) ∧ ((mset d y0 0 1) x0 0 ≤ 0 → tCall E 278 [.inr (11, x0)] (mset d y0 0 1) (tbk E 293 49 [.inr (11, x0), .inl (0, x1), .inl (0, x2), tu] [] 0 0 K)) ∧ (0 < (mset d y0 0 1) x0 0 → K (.inl (some (0, 0))) (mset d y0 0 1))) ∧ (¬ y1 = 0 → mInR x2 ∧ tCall E 291 [.inl (0, x1)] d (tbk E 293 16 [.inr (11, x0), .inl (0, x1), .inl (0, x2), tu] [.inl (1, x2), .inr (11, y0)] 0 0 K))) :
  tRun E 293 (10, [.inr (11, x0), .inl (0, x1), .inl (0, x2), tu], [.inl (0, y1), .inr (11, y0)], 0, 0, d) K := tT_run (cut := [0, 10, 19, 24, 28, 52]) 8 _ h
theorem t_293_19 {E : mO × tW} {K : tK} {d : mD} {x0 x1 x2 y0 y1 y2 : Int}
  (h : mInR y2 ∧ tCall E 292 [.inl (0, x1)] d (tbk E 293 21 [.inr (11, x0), .inl (0, x1), .inl (0, x2), tu] [.inl (1, y2), .inl (1, y1), .inr (11, y0)] 0 0 K)) :
  tRun E 293 (19, [.inr (11, x0), .inl (0, x1), .inl (0, x2), tu], [.inl (0, y2), .inl (1, y1), .inr (11, y0)], 0, 0, d) K := tT_run (cut := [0, 10, 19, 24, 28, 52]) 3 _ h
theorem t_293_24 {E : mO × tW} {K : tK} {d : mD} {x0 x1 x2 y0 y1 y2 y3 : Int}
  (h : mInR y3 ∧ tCall E 176 [.inl (1, y1), .inl (1, y2), .inl (1, y3)] d (tbk E 293 25 [.inr (11, x0), .inl (0, x1), .inl (0, x2), tu] [.inr (11, y0)] 0 0 K)) :
  tRun E 293 (24, [.inr (11, x0), .inl (0, x1), .inl (0, x2), tu], [.inl (0, y3), .inl (1, y2), .inl (1, y1), .inr (11, y0)], 0, 0, d) K := tT_run (cut := [0, 10, 19, 24, 28, 52]) 2 _ h
theorem t_293_28 {E : mO × tW} {K : tK} {d : mD} {x0 x1 x2 y0 y1 : Int}
  (h : mInR y1 ∧ (y1 = 0 → mInR ((mset d y0 0 1) x0 0) ∧ ((mset d y0 0 1) x0 0 ≤ 0 → tCall E 278 [.inr (11, x0)] (mset d y0 0 1) (tbk E 293 49 [.inr (11, x0), .inl (0, x1), .inl (0, x2), tu] [] 0 0 K)) ∧ (0 < (mset d y0 0 1) x0 0 → K (.inl (some (0, 0))) (mset d y0 0 1))) ∧ (¬ y1 = 0 → mInR ((mset d y0 0 0) x0 0) ∧ ((mset d y0 0 0) x0 0 ≤ 0 → tCall E 278 [.inr (11, x0)] (mset d y0 0 0) (tbk E 293 49 [.inr (11, x0), .inl (0, x1), .inl (0, x2), tu] [] 0 0 K)) ∧ (0 < (mset d y0 0 0) x0 0 → K (.inl (some (0, 0))) (mset d y0 0 0)))) :
  tRun E 293 (28, [.inr (11, x0), .inl (0, x1), .inl (0, x2), tu], [.inl (0, y1), .inr (11, y0)], 0, 0, d) K := tT_run (cut := [0, 10, 19, 24, 28, 52]) 9 _ h
theorem t_293_52 {E : mO × tW} {K : tK} {d : mD} {x0 x1 x2 : Int}
  (h : (0 ≤ 2 + x1 ∧ 2 + x1 < 3116) ∧ (0 ≤ 2 + x1 ∧ 2 + x1 < 3116) ∧ K (.inl (some (0, d (x0 + 1) (2 + x1)))) (mset d (x0 + 1) (2 + x1) x2)) :
  tRun E 293 (52, [.inr (11, x0), .inl (0, x1), .inl (0, x2), tu], [], 0, 0, d) K := tT_run (cut := [0, 10, 19, 24, 28, 52]) 16 _ h
theorem t_294_0 {E : mO × tW} {K : tK} {d : mD} {x0 : Int}
  (h : mInR (d x0 7) ∧ (d x0 7 ≤ 0 → mInR ((mset d x0 0 1) x0 0) ∧ ((mset d x0 0 1) x0 0 ≤ 0 → tRun E 294 (37, [.inr (11, x0), .inl (0, 0)], [], 0, 0, mset (mset d x0 0 1) x0 7 (((mset d x0 0 1) x0 7) - 1)) K) ∧ (0 < (mset d x0 0 1) x0 0 → K (.inl (some (0, 0))) (mset d x0 0 1))) ∧ (0 < d x0 7 → mInR ((mset d x0 0 0) x0 0) ∧ ((mset d x0 0 0) x0 0 ≤ 0 → tRun E 294 (37, [.inr (11, x0), .inl (0, 0)], [], 0, 0, mset (mset d x0 0 0) x0 7 (((mset d x0 0 0) x0 7) - 1)) K) ∧ (0 < (mset d x0 0 0) x0 0 → K (.inl (some (0, 0))) (mset d x0 0 0)))) :
  tRun E 294 (0, [.inr (11, x0), tu], [], 0, 0, d) K := tT_run (cut := [0, 37]) 18 _ h
theorem t_294_37 {E : mO × tW} {K : tK} {d : mD} {x0 x1 : Int}
  (h : (mInR x1 ∧ mInR 3116) ∧ (3116 ≤ x1 → K (.inl (some (0, d x0 7))) d) ∧ (x1 < 3116 → (0 ≤ (3116 * (d x0 7)) + x1 ∧ (3116 * (d x0 7)) + x1 < 24928) ∧ (0 ≤ x1 ∧ x1 < 3116) ∧ tRun E 294 (37, [.inr (11, x0), .inl (0, x1 + 1)], [], 0, 0, mset d (x0 + 1) x1 (d (x0 + 2) ((3116 * (d x0 7)) + x1))) K)) :
  tRun E 294 (37, [.inr (11, x0), .inl (0, x1)], [], 0, 0, d) K := tT_run (cut := [0, 37]) 18 _ h
theorem t_295_0 {E : mO × tW} {K : tK} {d : mD} {x0 x1 : Int}
  (h : mInR x1 ∧ tCall E 176 [.inl (1, x1), .inl (1, 0), .inl (1, 1)] d (tbk E 295 5 [.inr (11, x0), .inl (0, x1), tu] [.inr (11, x0)] 0 0 K)) :
  tRun E 295 (0, [.inr (11, x0), .inl (0, x1), tu], [], 0, 0, d) K := tT_run (cut := [0, 8, 29]) 6 _ h
theorem t_295_8 {E : mO × tW} {K : tK} {d : mD} {x0 x1 y0 y1 : Int}
  (h : mInR y1 ∧ (y1 = 0 → mInR ((mset d y0 0 1) x0 0) ∧ ((mset d y0 0 1) x0 0 ≤ 0 → tRun E 295 (29, [.inr (11, x0), .inl (0, x1), .inl (0, 0)], [], 0, 0, mset d y0 0 1) K) ∧ (0 < (mset d y0 0 1) x0 0 → K (.inl none) (mset d y0 0 1))) ∧ (¬ y1 = 0 → mInR ((mset d y0 0 0) x0 0) ∧ ((mset d y0 0 0) x0 0 ≤ 0 → tRun E 295 (29, [.inr (11, x0), .inl (0, x1), .inl (0, 0)], [], 0, 0, mset d y0 0 0) K) ∧ (0 < (mset d y0 0 0) x0 0 → K (.inl none) (mset d y0 0 0)))) :
  tRun E 295 (8, [.inr (11, x0), .inl (0, x1), tu], [.inl (0, y1), .inr (11, y0)], 0, 0, d) K := tT_run (cut := [0, 8, 29]) 9 _ h
theorem t_295_29 {E : mO × tW} {K : tK} {d : mD} {x0 x1 x2 : Int}
  (h : (mInR x2 ∧ mInR 3116) ∧ (3116 ≤ x2 → (((1 : Int) = 0 ∨ (1 : Int) = 1) ∧ 0 ≤ x1 ∧ x1 < 2) ∧ K (.inl none) (mset d (x0 + 6) x1 1)) ∧ (x2 < 3116 → (0 ≤ x2 ∧ x2 < 3116) ∧ (0 ≤ (3116 * x1) + x2 ∧ (3116 * x1) + x2 < 6232) ∧ tRun E 295 (29, [.inr (11, x0), .inl (0, x1), .inl (0, x2 + 1)], [], 0, 0, mset d (x0 + 3) ((3116 * x1) + x2) (d (x0 + 1) x2)) K)) :
  tRun E 295 (29, [.inr (11, x0), .inl (0, x1), .inl (0, x2)], [], 0, 0, d) K := tT_run (cut := [0, 8, 29]) 17 _ h
theorem t_296_0 {E : mO × tW} {K : tK} {d : mD} {x0 x1 : Int}
  (h : mInR x1 ∧ tCall E 176 [.inl (1, x1), .inl (1, 0), .inl (1, 1)] d (tbk E 296 5 [.inr (11, x0), .inl (0, x1), tu] [.inr (11, x0)] 0 0 K)) :
  tRun E 296 (0, [.inr (11, x0), .inl (0, x1), tu], [], 0, 0, d) K := tT_run (cut := [0, 8, 42]) 6 _ h
theorem t_296_8 {E : mO × tW} {K : tK} {d : mD} {x0 x1 y0 y1 : Int}
  (h : mInR y1 ∧ (¬ y1 = 0 → (0 ≤ x1 ∧ x1 < 2) ∧ mInR (d (x0 + 6) x1) ∧ (d (x0 + 6) x1 = 0 → mInR ((mset d y0 0 2) x0 0) ∧ ((mset d y0 0 2) x0 0 ≤ 0 → tRun E 296 (42, [.inr (11, x0), .inl (0, x1), .inl (0, 0)], [], 0, 0, mset d y0 0 2) K) ∧ (0 < (mset d y0 0 2) x0 0 → K (.inl none) (mset d y0 0 2))) ∧ (¬ d (x0 + 6) x1 = 0 → mInR ((mset d y0 0 0) x0 0) ∧ ((mset d y0 0 0) x0 0 ≤ 0 → tRun E 296 (42, [.inr (11, x0), .inl (0, x1), .inl (0, 0)], [], 0, 0, mset d y0 0 0) K) ∧ (0 < (mset d y0 0 0) x0 0 → K (.inl none) (mset d y0 0 0)))) ∧ (y1 = 0 → mInR ((mset d y0 0 1) x0 0) ∧ ((mset d y0 0 1) x0 0 ≤ 0 → tRun E 296 (42, [.inr (11, x0), .inl (0, x1), .inl (0, 0)], [], 0, 0, mset d y0 0 1) K) ∧ (0 < (mset d y0 0 1) x0 0 → K (.inl none) (mset d y0 0 1)))) :
  tRun E 296 (8, [.inr (11, x0), .inl (0, x1), tu], [.inl (0, y1), .inr (11, y0)], 0, 0, d) K := tT_run (cut := [0, 8, 42]) 14 _ h
theorem t_296_42 {E : mO × tW} {K : tK} {d : mD} {x0 x1 x2 : Int}
  (h : (mInR x2 ∧ mInR 3116) ∧ (3116 ≤ x2 → K (.inl none) (mset d x0 7 0)) ∧ (x2 < 3116 → (0 ≤ (3116 * x1) + x2 ∧ (3116 * x1) + x2 < 6232) ∧ (0 ≤ x2 ∧ x2 < 3116) ∧ tRun E 296 (42, [.inr (11, x0), .inl (0, x1), .inl (0, x2 + 1)], [], 0, 0, mset d (x0 + 1) x2 (d (x0 + 3) ((3116 * x1) + x2))) K)) :
  tRun E 296 (42, [.inr (11, x0), .inl (0, x1), .inl (0, x2)], [], 0, 0, d) K := tT_run (cut := [0, 8, 42]) 17 _ h
theorem t_297_0 {E : mO × tW} {K : tK} {d : mD} {x0 : Int}
  (h : K (.inl (some (0, miand ((((mland (((mland (x0 - (mland (mlushr x0 1) 6148914691236517205)) 3689348814741910323) + (mland (mlushr (x0 - (mland (mlushr x0 1) 6148914691236517205)) 2) 3689348814741910323)) + (mlushr ((mland (x0 - (mland (mlushr x0 1) 6148914691236517205)) 3689348814741910323) + (mland (mlushr (x0 - (mland (mlushr x0 1) 6148914691236517205)) 2) 3689348814741910323)) 4)) 1085102592571150095) + (mlushr (mland (((mland (x0 - (mland (mlushr x0 1) 6148914691236517205)) 3689348814741910323) + (mland (mlushr (x0 - (mland (mlushr x0 1) 6148914691236517205)) 2) 3689348814741910323)) + (mlushr ((mland (x0 - (mland (mlushr x0 1) 6148914691236517205)) 3689348814741910323) + (mland (mlushr (x0 - (mland (mlushr x0 1) 6148914691236517205)) 2) 3689348814741910323)) 4)) 1085102592571150095) 8)) + (mlushr ((mland (((mland (x0 - (mland (mlushr x0 1) 6148914691236517205)) 3689348814741910323) + (mland (mlushr (x0 - (mland (mlushr x0 1) 6148914691236517205)) 2) 3689348814741910323)) + (mlushr ((mland (x0 - (mland (mlushr x0 1) 6148914691236517205)) 3689348814741910323) + (mland (mlushr (x0 - (mland (mlushr x0 1) 6148914691236517205)) 2) 3689348814741910323)) 4)) 1085102592571150095) + (mlushr (mland (((mland (x0 - (mland (mlushr x0 1) 6148914691236517205)) 3689348814741910323) + (mland (mlushr (x0 - (mland (mlushr x0 1) 6148914691236517205)) 2) 3689348814741910323)) + (mlushr ((mland (x0 - (mland (mlushr x0 1) 6148914691236517205)) 3689348814741910323) + (mland (mlushr (x0 - (mland (mlushr x0 1) 6148914691236517205)) 2) 3689348814741910323)) 4)) 1085102592571150095) 8)) 16)) + (mlushr (((mland (((mland (x0 - (mland (mlushr x0 1) 6148914691236517205)) 3689348814741910323) + (mland (mlushr (x0 - (mland (mlushr x0 1) 6148914691236517205)) 2) 3689348814741910323)) + (mlushr ((mland (x0 - (mland (mlushr x0 1) 6148914691236517205)) 3689348814741910323) + (mland (mlushr (x0 - (mland (mlushr x0 1) 6148914691236517205)) 2) 3689348814741910323)) 4)) 1085102592571150095) + (mlushr (mland (((mland (x0 - (mland (mlushr x0 1) 6148914691236517205)) 3689348814741910323) + (mland (mlushr (x0 - (mland (mlushr x0 1) 6148914691236517205)) 2) 3689348814741910323)) + (mlushr ((mland (x0 - (mland (mlushr x0 1) 6148914691236517205)) 3689348814741910323) + (mland (mlushr (x0 - (mland (mlushr x0 1) 6148914691236517205)) 2) 3689348814741910323)) 4)) 1085102592571150095) 8)) + (mlushr ((mland (((mland (x0 - (mland (mlushr x0 1) 6148914691236517205)) 3689348814741910323) + (mland (mlushr (x0 - (mland (mlushr x0 1) 6148914691236517205)) 2) 3689348814741910323)) + (mlushr ((mland (x0 - (mland (mlushr x0 1) 6148914691236517205)) 3689348814741910323) + (mland (mlushr (x0 - (mland (mlushr x0 1) 6148914691236517205)) 2) 3689348814741910323)) 4)) 1085102592571150095) + (mlushr (mland (((mland (x0 - (mland (mlushr x0 1) 6148914691236517205)) 3689348814741910323) + (mland (mlushr (x0 - (mland (mlushr x0 1) 6148914691236517205)) 2) 3689348814741910323)) + (mlushr ((mland (x0 - (mland (mlushr x0 1) 6148914691236517205)) 3689348814741910323) + (mland (mlushr (x0 - (mland (mlushr x0 1) 6148914691236517205)) 2) 3689348814741910323)) 4)) 1085102592571150095) 8)) 16)) 32)) 127))) d) :
  tRun E 297 (0, [.inl (1, x0), tu], [], 0, 0, d) K := tT_run (cut := [0]) 49 _ h
theorem t_298_0 {E : mO × tW} {K : tK} {d : mD} {x0 : Int}
  (h : K (.inl (some (0, miand (((miand (((miand (x0 - (miand (miushr x0 1) 1431655765)) 858993459) + (miand (miushr (x0 - (miand (miushr x0 1) 1431655765)) 2) 858993459)) + (miushr ((miand (x0 - (miand (miushr x0 1) 1431655765)) 858993459) + (miand (miushr (x0 - (miand (miushr x0 1) 1431655765)) 2) 858993459)) 4)) 252645135) + (miushr (miand (((miand (x0 - (miand (miushr x0 1) 1431655765)) 858993459) + (miand (miushr (x0 - (miand (miushr x0 1) 1431655765)) 2) 858993459)) + (miushr ((miand (x0 - (miand (miushr x0 1) 1431655765)) 858993459) + (miand (miushr (x0 - (miand (miushr x0 1) 1431655765)) 2) 858993459)) 4)) 252645135) 8)) + (miushr ((miand (((miand (x0 - (miand (miushr x0 1) 1431655765)) 858993459) + (miand (miushr (x0 - (miand (miushr x0 1) 1431655765)) 2) 858993459)) + (miushr ((miand (x0 - (miand (miushr x0 1) 1431655765)) 858993459) + (miand (miushr (x0 - (miand (miushr x0 1) 1431655765)) 2) 858993459)) 4)) 252645135) + (miushr (miand (((miand (x0 - (miand (miushr x0 1) 1431655765)) 858993459) + (miand (miushr (x0 - (miand (miushr x0 1) 1431655765)) 2) 858993459)) + (miushr ((miand (x0 - (miand (miushr x0 1) 1431655765)) 858993459) + (miand (miushr (x0 - (miand (miushr x0 1) 1431655765)) 2) 858993459)) 4)) 252645135) 8)) 16)) 63))) d) :
  tRun E 298 (0, [.inl (0, x0)], [], 0, 0, d) K := tT_run (cut := [0]) 42 _ h
theorem t_299_0 {E : mO × tW} {K : tK} {d : mD} {x0 x1 : Int}
  (h : tRun E 299 (5, [.inr (18, x0), .inl (0, x1), .inl (0, 0), .inl (0, 16)], [], 0, 0, d) K) :
  tRun E 299 (0, [.inr (18, x0), .inl (0, x1), tu, tu], [], 0, 0, d) K := tT_run (cut := [0, 5]) 5 _ h
theorem t_299_5 {E : mO × tW} {K : tK} {d : mD} {x0 x1 x2 x3 : Int}
  (h : (mInR x2 ∧ mInR x3) ∧ (x3 ≤ x2 → K (.inl none) d) ∧ (x2 < x3 → (0 ≤ x2 ∧ x2 < 16) ∧ tRun E 299 (5, [.inr (18, x0), .inl (0, x1), .inl (0, x2 + 1), .inl (0, x3)], [], 0, 0, mset d x0 x2 x1) K)) :
  tRun E 299 (5, [.inr (18, x0), .inl (0, x1), .inl (0, x2), .inl (0, x3)], [], 0, 0, d) K := tT_run (cut := [0, 5]) 9 _ h
theorem t_300_0 {E : mO × tW} {K : tK} {d : mD} {x0 x1 : Int}
  (h : tRun E 300 (6, [.inr (20, x0), .inl (1, x1), tu, .inl (0, 0), .inl (0, 16)], [], 0, 0, d) K) :
  tRun E 300 (0, [.inr (20, x0), .inl (1, x1), tu, tu, tu], [], 0, 0, d) K := tT_run (cut := [0, 6]) 5 _ h
theorem t_300_6 {E : mO × tW} {K : tK} {d : mD} {x0 x1 x3 x4 : Int}
  (h : (mInR x3 ∧ mInR x4) ∧ (x4 ≤ x3 → K (.inl none) d) ∧ (x3 < x4 → (0 ≤ x3 ∧ x3 < 16) ∧ tRun E 300 (6, [.inr (20, x0), .inl (1, x1), tu, .inl (0, x3 + 1), .inl (0, x4)], [], 0, 0, mset d x0 x3 x1) K)) :
  tRun E 300 (6, [.inr (20, x0), .inl (1, x1), tu, .inl (0, x3), .inl (0, x4)], [], 0, 0, d) K := tT_run (cut := [0, 6]) 9 _ h
theorem t_301_0 {E : mO × tW} {K : tK} {d : mD} {x0 x1 x2 x3 x4 x5 x6 : Int}
  (h : tCall E 118 [.inr (10, x0), .inl (0, x1), .inl (0, x2), .inl (0, x3), .inl (0, x4), .inl (0, x5)] d (tbk E 301 11 [.inr (10, x0), .inl (0, x1), .inl (0, x2), .inl (0, x3), .inl (0, x4), .inl (0, x5), .inr (30, x6), tu] [.inl (0, 0), .inr (30, x6)] 1 6 K)) :
  tRun E 301 (0, [.inr (10, x0), .inl (0, x1), .inl (0, x2), .inl (0, x3), .inl (0, x4), .inl (0, x5), .inr (30, x6), tu], [], 0, 0, d) K := tT_run (cut := [0, 14]) 9 _ h
theorem t_301_14 {E : mO × tW} {K : tK} {d : mD} {x0 x1 x2 x3 x4 x5 x6 y0 y1 y2 : Int}
  (h : mInR y2 ∧ (0 ≤ y1 ∧ y1 < 1) ∧ K (.inl (some (0, 0))) (mset d y0 y1 y2)) :
  tRun E 301 (14, [.inr (10, x0), .inl (0, x1), .inl (0, x2), .inl (0, x3), .inl (0, x4), .inl (0, x5), .inr (30, x6), tu], [.inl (0, y2), .inl (0, y1), .inr (30, y0)], 1, 6, d) K := tT_run (cut := [0, 14]) 5 _ h
theorem t_302_0 {E : mO × tW} {K : tK} {d : mD} {x0 x1 x2 : Int}
  (h : tCall E 119 [.inr (10, x0), .inl (0, x1)] d (tbk E 302 4 [.inr (10, x0), .inl (0, x1), .inr (30, x2), tu] [.inl (0, 0), .inr (30, x2)] 1 6 K)) :
  tRun E 302 (0, [.inr (10, x0), .inl (0, x1), .inr (30, x2), tu], [], 0, 0, d) K := tT_run (cut := [0, 7]) 5 _ h
theorem t_302_7 {E : mO × tW} {K : tK} {d : mD} {x0 x1 x2 y0 y1 y2 : Int}
  (h : mInR y2 ∧ (0 ≤ y1 ∧ y1 < 1) ∧ K (.inl (some (0, 0))) (mset d y0 y1 y2)) :
  tRun E 302 (7, [.inr (10, x0), .inl (0, x1), .inr (30, x2), tu], [.inl (0, y2), .inl (0, y1), .inr (30, y0)], 1, 6, d) K := tT_run (cut := [0, 7]) 5 _ h
theorem t_303_0 {E : mO × tW} {K : tK} {d : mD} {x0 x1 : Int}
  (h : tCall E 120 [.inr (10, x0)] d (tbk E 303 3 [.inr (10, x0), .inr (30, x1), tu] [.inl (0, 0), .inr (30, x1)] 1 6 K)) :
  tRun E 303 (0, [.inr (10, x0), .inr (30, x1), tu], [], 0, 0, d) K := tT_run (cut := [0, 6]) 4 _ h
theorem t_303_6 {E : mO × tW} {K : tK} {d : mD} {x0 x1 y0 y1 y2 : Int}
  (h : mInR y2 ∧ (0 ≤ y1 ∧ y1 < 1) ∧ K (.inl (some (0, 0))) (mset d y0 y1 y2)) :
  tRun E 303 (6, [.inr (10, x0), .inr (30, x1), tu], [.inl (0, y2), .inl (0, y1), .inr (30, y0)], 1, 6, d) K := tT_run (cut := [0, 6]) 5 _ h
theorem t_304_0 {E : mO × tW} {K : tK} {d : mD} {x0 x1 x2 : Int}
  (h : tCall E 123 [.inr (10, x0), .inl (0, x1)] d (tbk E 304 4 [.inr (10, x0), .inl (0, x1), .inr (30, x2), tu] [.inl (0, 0), .inr (30, x2)] 1 6 K)) :
  tRun E 304 (0, [.inr (10, x0), .inl (0, x1), .inr (30, x2), tu], [], 0, 0, d) K := tT_run (cut := [0, 7]) 5 _ h
theorem t_304_7 {E : mO × tW} {K : tK} {d : mD} {x0 x1 x2 y0 y1 y2 : Int}
  (h : mInR y2 ∧ (0 ≤ y1 ∧ y1 < 1) ∧ K (.inl (some (0, 0))) (mset d y0 y1 y2)) :
  tRun E 304 (7, [.inr (10, x0), .inl (0, x1), .inr (30, x2), tu], [.inl (0, y2), .inl (0, y1), .inr (30, y0)], 1, 6, d) K := tT_run (cut := [0, 7]) 5 _ h
theorem t_305_0 {E : mO × tW} {K : tK} {d : mD} {x0 x1 x2 : Int}
  (h : tCall E 124 [.inr (10, x0), .inl (0, x1)] d (tbk E 305 4 [.inr (10, x0), .inl (0, x1), .inr (30, x2), tu] [.inl (0, 0), .inr (30, x2)] 1 6 K)) :
  tRun E 305 (0, [.inr (10, x0), .inl (0, x1), .inr (30, x2), tu], [], 0, 0, d) K := tT_run (cut := [0, 7]) 5 _ h
theorem t_305_7 {E : mO × tW} {K : tK} {d : mD} {x0 x1 x2 y0 y1 y2 : Int}
  (h : mInR y2 ∧ (0 ≤ y1 ∧ y1 < 1) ∧ K (.inl (some (0, 0))) (mset d y0 y1 y2)) :
  tRun E 305 (7, [.inr (10, x0), .inl (0, x1), .inr (30, x2), tu], [.inl (0, y2), .inl (0, y1), .inr (30, y0)], 1, 6, d) K := tT_run (cut := [0, 7]) 5 _ h
theorem t_306_0 {E : mO × tW} {K : tK} {d : mD} {x0 x1 x2 : Int}
  (h : tCall E 125 [.inr (10, x0), .inl (0, x1)] d (tbk E 306 4 [.inr (10, x0), .inl (0, x1), .inr (30, x2), tu] [.inl (0, 0), .inr (30, x2)] 1 6 K)) :
  tRun E 306 (0, [.inr (10, x0), .inl (0, x1), .inr (30, x2), tu], [], 0, 0, d) K := tT_run (cut := [0, 7]) 5 _ h
theorem t_306_7 {E : mO × tW} {K : tK} {d : mD} {x0 x1 x2 y0 y1 y2 : Int}
  (h : mInR y2 ∧ (0 ≤ y1 ∧ y1 < 1) ∧ K (.inl (some (0, 0))) (mset d y0 y1 y2)) :
  tRun E 306 (7, [.inr (10, x0), .inl (0, x1), .inr (30, x2), tu], [.inl (0, y2), .inl (0, y1), .inr (30, y0)], 1, 6, d) K := tT_run (cut := [0, 7]) 5 _ h
theorem t_307_0 {E : mO × tW} {K : tK} {d : mD} {x0 x1 x2 x3 : Int}
  (h : tCall E 126 [.inr (10, x0), .inl (0, x1), .inl (0, x2)] d (tbk E 307 5 [.inr (10, x0), .inl (0, x1), .inl (0, x2), .inr (30, x3), tu] [.inl (0, 0), .inr (30, x3)] 2 12 K)) :
  tRun E 307 (0, [.inr (10, x0), .inl (0, x1), .inl (0, x2), .inr (30, x3), tu], [], 0, 0, d) K := tT_run (cut := [0, 8]) 6 _ h
theorem t_307_8 {E : mO × tW} {K : tK} {d : mD} {x0 x1 x2 x3 y0 y1 y2 : Int}
  (h : mInR y2 ∧ (0 ≤ y1 ∧ y1 < 1) ∧ K (.inl (some (0, 0))) (mset d y0 y1 y2)) :
  tRun E 307 (8, [.inr (10, x0), .inl (0, x1), .inl (0, x2), .inr (30, x3), tu], [.inl (0, y2), .inl (0, y1), .inr (30, y0)], 2, 12, d) K := tT_run (cut := [0, 8]) 5 _ h
theorem t_308_0 {E : mO × tW} {K : tK} {d : mD} {x0 x1 x2 x3 : Int}
  (h : tCall E 127 [.inr (10, x0), .inl (0, x1), .inl (0, x2)] d (tbk E 308 5 [.inr (10, x0), .inl (0, x1), .inl (0, x2), .inr (30, x3), tu] [.inl (0, 0), .inr (30, x3)] 2 12 K)) :
  tRun E 308 (0, [.inr (10, x0), .inl (0, x1), .inl (0, x2), .inr (30, x3), tu], [], 0, 0, d) K := tT_run (cut := [0, 8]) 6 _ h
theorem t_308_8 {E : mO × tW} {K : tK} {d : mD} {x0 x1 x2 x3 y0 y1 y2 : Int}
  (h : mInR y2 ∧ (0 ≤ y1 ∧ y1 < 1) ∧ K (.inl (some (0, 0))) (mset d y0 y1 y2)) :
  tRun E 308 (8, [.inr (10, x0), .inl (0, x1), .inl (0, x2), .inr (30, x3), tu], [.inl (0, y2), .inl (0, y1), .inr (30, y0)], 2, 12, d) K := tT_run (cut := [0, 8]) 5 _ h
theorem t_309_0 {E : mO × tW} {K : tK} {d : mD} {x0 x1 x2 x3 : Int}
  (h : tCall E 128 [.inr (10, x0), .inl (0, x1), .inl (0, x2)] d (tbk E 309 5 [.inr (10, x0), .inl (0, x1), .inl (0, x2), .inr (30, x3), tu] [.inl (0, 0), .inr (30, x3)] 2 12 K)) :
  tRun E 309 (0, [.inr (10, x0), .inl (0, x1), .inl (0, x2), .inr (30, x3), tu], [], 0, 0, d) K := tT_run (cut := [0, 8]) 6 _ h
theorem t_309_8 {E : mO × tW} {K : tK} {d : mD} {x0 x1 x2 x3 y0 y1 y2 : Int}
  (h : mInR y2 ∧ (0 ≤ y1 ∧ y1 < 1) ∧ K (.inl (some (0, 0))) (mset d y0 y1 y2)) :
  tRun E 309 (8, [.inr (10, x0), .inl (0, x1), .inl (0, x2), .inr (30, x3), tu], [.inl (0, y2), .inl (0, y1), .inr (30, y0)], 2, 12, d) K := tT_run (cut := [0, 8]) 5 _ h
theorem t_310_0 {E : mO × tW} {K : tK} {d : mD} {x0 x1 x2 x3 : Int}
  (h : tCall E 129 [.inr (10, x0), .inl (0, x1), .inl (0, x2)] d (tbk E 310 5 [.inr (10, x0), .inl (0, x1), .inl (0, x2), .inr (30, x3), tu] [.inl (0, 0), .inr (30, x3)] 2 12 K)) :
  tRun E 310 (0, [.inr (10, x0), .inl (0, x1), .inl (0, x2), .inr (30, x3), tu], [], 0, 0, d) K := tT_run (cut := [0, 8]) 6 _ h
theorem t_310_8 {E : mO × tW} {K : tK} {d : mD} {x0 x1 x2 x3 y0 y1 y2 : Int}
  (h : mInR y2 ∧ (0 ≤ y1 ∧ y1 < 1) ∧ K (.inl (some (0, 0))) (mset d y0 y1 y2)) :
  tRun E 310 (8, [.inr (10, x0), .inl (0, x1), .inl (0, x2), .inr (30, x3), tu], [.inl (0, y2), .inl (0, y1), .inr (30, y0)], 2, 12, d) K := tT_run (cut := [0, 8]) 5 _ h
theorem t_311_0 {E : mO × tW} {K : tK} {d : mD} {x0 x1 x2 x3 : Int}
  (h : tCall E 130 [.inr (10, x0), .inl (0, x1), .inl (0, x2)] d (tbk E 311 5 [.inr (10, x0), .inl (0, x1), .inl (0, x2), .inr (30, x3), tu] [.inl (0, 0), .inr (30, x3)] 1 6 K)) :
  tRun E 311 (0, [.inr (10, x0), .inl (0, x1), .inl (0, x2), .inr (30, x3), tu], [], 0, 0, d) K := tT_run (cut := [0, 8]) 6 _ h
theorem t_311_8 {E : mO × tW} {K : tK} {d : mD} {x0 x1 x2 x3 y0 y1 y2 : Int}
  (h : mInR y2 ∧ (0 ≤ y1 ∧ y1 < 1) ∧ K (.inl (some (0, 0))) (mset d y0 y1 y2)) :
  tRun E 311 (8, [.inr (10, x0), .inl (0, x1), .inl (0, x2), .inr (30, x3), tu], [.inl (0, y2), .inl (0, y1), .inr (30, y0)], 1, 6, d) K := tT_run (cut := [0, 8]) 5 _ h
theorem t_312_0 {E : mO × tW} {K : tK} {d : mD} {x0 x1 x2 x3 : Int}
  (h : tCall E 131 [.inr (10, x0), .inl (0, x1), .inl (0, x2)] d (tbk E 312 5 [.inr (10, x0), .inl (0, x1), .inl (0, x2), .inr (30, x3), tu] [.inl (0, 0), .inr (30, x3)] 2 12 K)) :
  tRun E 312 (0, [.inr (10, x0), .inl (0, x1), .inl (0, x2), .inr (30, x3), tu], [], 0, 0, d) K := tT_run (cut := [0, 8]) 6 _ h
theorem t_312_8 {E : mO × tW} {K : tK} {d : mD} {x0 x1 x2 x3 y0 y1 y2 : Int}
  (h : mInR y2 ∧ (y2 = 0 → (0 ≤ y1 ∧ y1 < 1) ∧ K (.inl (some (0, 0))) (mset d y0 y1 0)) ∧ (¬ y2 = 0 → (0 ≤ y1 ∧ y1 < 1) ∧ K (.inl (some (0, 0))) (mset d y0 y1 1))) :
  tRun E 312 (8, [.inr (10, x0), .inl (0, x1), .inl (0, x2), .inr (30, x3), tu], [.inl (0, y2), .inl (0, y1), .inr (30, y0)], 2, 12, d) K := tT_run (cut := [0, 8]) 7 _ h
theorem t_313_0 {E : mO × tW} {K : tK} {d : mD} {x0 x1 x2 x3 : Int}
  (h : tCall E 132 [.inr (10, x0), .inl (0, x1), .inl (0, x2)] d (tbk E 313 5 [.inr (10, x0), .inl (0, x1), .inl (0, x2), .inr (30, x3), tu] [.inl (0, 0), .inr (30, x3)] 2 12 K)) :
  tRun E 313 (0, [.inr (10, x0), .inl (0, x1), .inl (0, x2), .inr (30, x3), tu], [], 0, 0, d) K := tT_run (cut := [0, 8]) 6 _ h
theorem t_313_8 {E : mO × tW} {K : tK} {d : mD} {x0 x1 x2 x3 y0 y1 y2 : Int}
  (h : mInR y2 ∧ (0 ≤ y1 ∧ y1 < 1) ∧ K (.inl (some (0, 0))) (mset d y0 y1 y2)) :
  tRun E 313 (8, [.inr (10, x0), .inl (0, x1), .inl (0, x2), .inr (30, x3), tu], [.inl (0, y2), .inl (0, y1), .inr (30, y0)], 2, 12, d) K := tT_run (cut := [0, 8]) 5 _ h
theorem t_314_0 {E : mO × tW} {K : tK} {d : mD} {x0 x1 x2 x3 : Int}
  (h : tCall E 133 [.inr (10, x0), .inl (0, x1), .inl (0, x2)] d (tbk E 314 5 [.inr (10, x0), .inl (0, x1), .inl (0, x2), .inr (30, x3), tu] [.inl (0, 0), .inr (30, x3)] 2 12 K)) :
  tRun E 314 (0, [.inr (10, x0), .inl (0, x1), .inl (0, x2), .inr (30, x3), tu], [], 0, 0, d) K := tT_run (cut := [0, 8]) 6 _ h
theorem t_314_8 {E : mO × tW} {K : tK} {d : mD} {x0 x1 x2 x3 y0 y1 y2 : Int}
  (h : mInR y2 ∧ (0 ≤ y1 ∧ y1 < 1) ∧ K (.inl (some (0, 0))) (mset d y0 y1 y2)) :
  tRun E 314 (8, [.inr (10, x0), .inl (0, x1), .inl (0, x2), .inr (30, x3), tu], [.inl (0, y2), .inl (0, y1), .inr (30, y0)], 2, 12, d) K := tT_run (cut := [0, 8]) 5 _ h
theorem t_315_0 {E : mO × tW} {K : tK} {d : mD} {x0 x1 x2 x3 : Int}
  (h : tCall E 134 [.inr (10, x0), .inl (0, x1), .inl (0, x2)] d (tbk E 315 5 [.inr (10, x0), .inl (0, x1), .inl (0, x2), .inr (30, x3), tu] [.inl (0, 0), .inr (30, x3)] 2 12 K)) :
  tRun E 315 (0, [.inr (10, x0), .inl (0, x1), .inl (0, x2), .inr (30, x3), tu], [], 0, 0, d) K := tT_run (cut := [0, 8]) 6 _ h
theorem t_315_8 {E : mO × tW} {K : tK} {d : mD} {x0 x1 x2 x3 y0 y1 y2 : Int}
  (h : mInR y2 ∧ (0 ≤ y1 ∧ y1 < 1) ∧ K (.inl (some (0, 0))) (mset d y0 y1 y2)) :
  tRun E 315 (8, [.inr (10, x0), .inl (0, x1), .inl (0, x2), .inr (30, x3), tu], [.inl (0, y2), .inl (0, y1), .inr (30, y0)], 2, 12, d) K := tT_run (cut := [0, 8]) 5 _ h
theorem t_316_0 {E : mO × tW} {K : tK} {d : mD} {x0 x1 x2 x3 : Int}
  (h : tCall E 135 [.inr (10, x0), .inl (0, x1), .inl (0, x2)] d (tbk E 316 5 [.inr (10, x0), .inl (0, x1), .inl (0, x2), .inr (30, x3), tu] [.inl (0, 0), .inr (30, x3)] 2 12 K)) :
  tRun E 316 (0, [.inr (10, x0), .inl (0, x1), .inl (0, x2), .inr (30, x3), tu], [], 0, 0, d) K := tT_run (cut := [0, 8]) 6 _ h
theorem t_316_8 {E : mO × tW} {K : tK} {d : mD} {x0 x1 x2 x3 y0 y1 y2 : Int}
  (h : mInR y2 ∧ (y2 = 0 → (0 ≤ y1 ∧ y1 < 1) ∧ K (.inl (some (0, 0))) (mset d y0 y1 0)) ∧ (¬ y2 = 0 → (0 ≤ y1 ∧ y1 < 1) ∧ K (.inl (some (0, 0))) (mset d y0 y1 1))) :
  tRun E 316 (8, [.inr (10, x0), .inl (0, x1), .inl (0, x2), .inr (30, x3), tu], [.inl (0, y2), .inl (0, y1), .inr (30, y0)], 2, 12, d) K := tT_run (cut := [0, 8]) 7 _ h
theorem t_317_0 {E : mO × tW} {K : tK} {d : mD} {x0 x1 x2 : Int}
  (h : tCall E 136 [.inr (10, x0), .inl (0, x1)] d (tbk E 317 4 [.inr (10, x0), .inl (0, x1), .inr (30, x2), tu] [.inl (0, 0), .inr (30, x2)] 1 6 K)) :
  tRun E 317 (0, [.inr (10, x0), .inl (0, x1), .inr (30, x2), tu], [], 0, 0, d) K := tT_run (cut := [0, 7]) 5 _ h
theorem t_317_7 {E : mO × tW} {K : tK} {d : mD} {x0 x1 x2 y0 y1 y2 : Int}
  (h : mInR y2 ∧ (0 ≤ y1 ∧ y1 < 1) ∧ K (.inl (some (0, 0))) (mset d y0 y1 y2)) :
  tRun E 317 (7, [.inr (10, x0), .inl (0, x1), .inr (30, x2), tu], [.inl (0, y2), .inl (0, y1), .inr (30, y0)], 1, 6, d) K := tT_run (cut := [0, 7]) 5 _ h
theorem t_318_0 {E : mO × tW} {K : tK} {d : mD} {x0 x1 x2 : Int}
  (h : tCall E 142 [.inr (10, x0), .inl (0, x1)] d (tbk E 318 4 [.inr (10, x0), .inl (0, x1), .inr (30, x2), tu] [.inl (0, 0), .inr (30, x2)] 2 12 K)) :
  tRun E 318 (0, [.inr (10, x0), .inl (0, x1), .inr (30, x2), tu], [], 0, 0, d) K := tT_run (cut := [0, 7]) 5 _ h
theorem t_318_7 {E : mO × tW} {K : tK} {d : mD} {x0 x1 x2 y0 y1 y2 : Int}
  (h : mInR y2 ∧ (0 ≤ y1 ∧ y1 < 1) ∧ K (.inl (some (0, 0))) (mset d y0 y1 y2)) :
  tRun E 318 (7, [.inr (10, x0), .inl (0, x1), .inr (30, x2), tu], [.inl (0, y2), .inl (0, y1), .inr (30, y0)], 2, 12, d) K := tT_run (cut := [0, 7]) 5 _ h
theorem t_319_0 {E : mO × tW} {K : tK} {d : mD} {x0 x1 x2 x3 : Int}
  (h : tCall E 143 [.inr (10, x0), .inl (0, x1), .inl (0, x2)] d (tbk E 319 5 [.inr (10, x0), .inl (0, x1), .inl (0, x2), .inr (30, x3), tu] [.inl (0, 0), .inr (30, x3)] 2 12 K)) :
  tRun E 319 (0, [.inr (10, x0), .inl (0, x1), .inl (0, x2), .inr (30, x3), tu], [], 0, 0, d) K := tT_run (cut := [0, 8]) 6 _ h
theorem t_319_8 {E : mO × tW} {K : tK} {d : mD} {x0 x1 x2 x3 y0 y1 y2 : Int}
  (h : mInR y2 ∧ (0 ≤ y1 ∧ y1 < 1) ∧ K (.inl (some (0, 0))) (mset d y0 y1 y2)) :
  tRun E 319 (8, [.inr (10, x0), .inl (0, x1), .inl (0, x2), .inr (30, x3), tu], [.inl (0, y2), .inl (0, y1), .inr (30, y0)], 2, 12, d) K := tT_run (cut := [0, 8]) 5 _ h
theorem t_320_0 {E : mO × tW} {K : tK} {d : mD} {x0 x1 x2 : Int}
  (h : tCall E 144 [.inr (10, x0), .inl (0, x1)] d (tbk E 320 4 [.inr (10, x0), .inl (0, x1), .inr (30, x2), tu] [.inl (0, 0), .inr (30, x2)] 1 6 K)) :
  tRun E 320 (0, [.inr (10, x0), .inl (0, x1), .inr (30, x2), tu], [], 0, 0, d) K := tT_run (cut := [0, 7]) 5 _ h
theorem t_320_7 {E : mO × tW} {K : tK} {d : mD} {x0 x1 x2 y0 y1 y2 : Int}
  (h : mInR y2 ∧ (0 ≤ y1 ∧ y1 < 1) ∧ K (.inl (some (0, 0))) (mset d y0 y1 y2)) :
  tRun E 320 (7, [.inr (10, x0), .inl (0, x1), .inr (30, x2), tu], [.inl (0, y2), .inl (0, y1), .inr (30, y0)], 1, 6, d) K := tT_run (cut := [0, 7]) 5 _ h
theorem t_321_0 {E : mO × tW} {K : tK} {d : mD} {x0 x1 x2 : Int}
  (h : tCall E 145 [.inr (10, x0), .inl (0, x1)] d (tbk E 321 4 [.inr (10, x0), .inl (0, x1), .inr (30, x2), tu] [.inl (0, 0), .inr (30, x2)] 2 12 K)) :
  tRun E 321 (0, [.inr (10, x0), .inl (0, x1), .inr (30, x2), tu], [], 0, 0, d) K := tT_run (cut := [0, 7]) 5 _ h
theorem t_321_7 {E : mO × tW} {K : tK} {d : mD} {x0 x1 x2 y0 y1 y2 : Int}
  (h : mInR y2 ∧ (0 ≤ y1 ∧ y1 < 1) ∧ K (.inl (some (0, 0))) (mset d y0 y1 y2)) :
  tRun E 321 (7, [.inr (10, x0), .inl (0, x1), .inr (30, x2), tu], [.inl (0, y2), .inl (0, y1), .inr (30, y0)], 2, 12, d) K := tT_run (cut := [0, 7]) 5 _ h
theorem t_322_0 {E : mO × tW} {K : tK} {d : mD} {x0 x1 : Int}
  (h : tCall E 146 [.inr (10, x0)] d (tbk E 322 3 [.inr (10, x0), .inr (30, x1), tu] [.inl (0, 0), .inr (30, x1)] 1 6 K)) :
  tRun E 322 (0, [.inr (10, x0), .inr (30, x1), tu], [], 0, 0, d) K := tT_run (cut := [0, 6]) 4 _ h
theorem t_322_6 {E : mO × tW} {K : tK} {d : mD} {x0 x1 y0 y1 y2 : Int}
  (h : mInR y2 ∧ (0 ≤ y1 ∧ y1 < 1) ∧ K (.inl (some (0, 0))) (mset d y0 y1 y2)) :
  tRun E 322 (6, [.inr (10, x0), .inr (30, x1), tu], [.inl (0, y2), .inl (0, y1), .inr (30, y0)], 1, 6, d) K := tT_run (cut := [0, 6]) 5 _ h
theorem t_323_0 {E : mO × tW} {K : tK} {d : mD} {x0 x1 x2 x3 : Int}
  (h : tCall E 147 [.inr (10, x0), .inl (0, x1), .inl (0, x2)] d (tbk E 323 5 [.inr (10, x0), .inl (0, x1), .inl (0, x2), .inr (30, x3), tu] [.inl (0, 0), .inr (30, x3)] 4 24 K)) :
  tRun E 323 (0, [.inr (10, x0), .inl (0, x1), .inl (0, x2), .inr (30, x3), tu], [], 0, 0, d) K := tT_run (cut := [0, 8]) 6 _ h
theorem t_323_8 {E : mO × tW} {K : tK} {d : mD} {x0 x1 x2 x3 y0 y1 y2 : Int}
  (h : mInR y2 ∧ (0 ≤ y1 ∧ y1 < 1) ∧ K (.inl (some (0, 0))) (mset d y0 y1 y2)) :
  tRun E 323 (8, [.inr (10, x0), .inl (0, x1), .inl (0, x2), .inr (30, x3), tu], [.inl (0, y2), .inl (0, y1), .inr (30, y0)], 4, 24, d) K := tT_run (cut := [0, 8]) 5 _ h
theorem t_324_0 {E : mO × tW} {K : tK} {d : mD} {x0 x1 x2 : Int}
  (h : tCall E 148 [.inr (10, x0), .inl (0, x1)] d (tbk E 324 4 [.inr (10, x0), .inl (0, x1), .inr (30, x2), tu] [.inl (0, 0), .inr (30, x2)] 1 6 K)) :
  tRun E 324 (0, [.inr (10, x0), .inl (0, x1), .inr (30, x2), tu], [], 0, 0, d) K := tT_run (cut := [0, 7]) 5 _ h
theorem t_324_7 {E : mO × tW} {K : tK} {d : mD} {x0 x1 x2 y0 y1 y2 : Int}
  (h : mInR y2 ∧ (0 ≤ y1 ∧ y1 < 1) ∧ K (.inl (some (0, 0))) (mset d y0 y1 y2)) :
  tRun E 324 (7, [.inr (10, x0), .inl (0, x1), .inr (30, x2), tu], [.inl (0, y2), .inl (0, y1), .inr (30, y0)], 1, 6, d) K := tT_run (cut := [0, 7]) 5 _ h
theorem t_325_0 {E : mO × tW} {K : tK} {d : mD} {x0 x1 x2 : Int}
  (h : tCall E 149 [.inr (10, x0), .inl (0, x1)] d (tbk E 325 4 [.inr (10, x0), .inl (0, x1), .inr (30, x2), tu] [.inl (0, 0), .inr (30, x2)] 1 6 K)) :
  tRun E 325 (0, [.inr (10, x0), .inl (0, x1), .inr (30, x2), tu], [], 0, 0, d) K := tT_run (cut := [0, 7]) 5 _ h
theorem t_325_7 {E : mO × tW} {K : tK} {d : mD} {x0 x1 x2 y0 y1 y2 : Int}
  (h : mInR y2 ∧ (0 ≤ y1 ∧ y1 < 1) ∧ K (.inl (some (0, 0))) (mset d y0 y1 y2)) :
  tRun E 325 (7, [.inr (10, x0), .inl (0, x1), .inr (30, x2), tu], [.inl (0, y2), .inl (0, y1), .inr (30, y0)], 1, 6, d) K := tT_run (cut := [0, 7]) 5 _ h
theorem t_326_0 {E : mO × tW} {K : tK} {d : mD} {x0 x1 x2 x3 : Int}
  (h : tCall E 150 [.inr (10, x0), .inl (0, x1), .inl (0, x2)] d (tbk E 326 5 [.inr (10, x0), .inl (0, x1), .inl (0, x2), .inr (30, x3), tu] [.inl (0, 0), .inr (30, x3)] 3 18 K)) :
  tRun E 326 (0, [.inr (10, x0), .inl (0, x1), .inl (0, x2), .inr (30, x3), tu], [], 0, 0, d) K := tT_run (cut := [0, 8]) 6 _ h
theorem t_326_8 {E : mO × tW} {K : tK} {d : mD} {x0 x1 x2 x3 y0 y1 y2 : Int}
  (h : mInR y2 ∧ (0 ≤ y1 ∧ y1 < 1) ∧ K (.inl (some (0, 0))) (mset d y0 y1 y2)) :
  tRun E 326 (8, [.inr (10, x0), .inl (0, x1), .inl (0, x2), .inr (30, x3), tu], [.inl (0, y2), .inl (0, y1), .inr (30, y0)], 3, 18, d) K := tT_run (cut := [0, 8]) 5 _ h
theorem t_327_0 {E : mO × tW} {K : tK} {d : mD} {x0 x1 x2 : Int}
  (h : tCall E 151 [.inr (10, x0), .inl (0, x1)] d (tbk E 327 4 [.inr (10, x0), .inl (0, x1), .inr (30, x2), tu] [.inl (0, 0), .inr (30, x2)] 2 12 K)) :
  tRun E 327 (0, [.inr (10, x0), .inl (0, x1), .inr (30, x2), tu], [], 0, 0, d) K := tT_run (cut := [0, 7]) 5 _ h
theorem t_327_7 {E : mO × tW} {K : tK} {d : mD} {x0 x1 x2 y0 y1 y2 : Int}
  (h : mInR y2 ∧ (0 ≤ y1 ∧ y1 < 1) ∧ K (.inl (some (0, 0))) (mset d y0 y1 y2)) :
  tRun E 327 (7, [.inr (10, x0), .inl (0, x1), .inr (30, x2), tu], [.inl (0, y2), .inl (0, y1), .inr (30, y0)], 2, 12, d) K := tT_run (cut := [0, 7]) 5 _ h
theorem t_328_0 {E : mO × tW} {K : tK} {d : mD} {x0 x1 x2 : Int}
  (h : tCall E 152 [.inr (10, x0), .inl (0, x1)] d (tbk E 328 4 [.inr (10, x0), .inl (0, x1), .inr (30, x2), tu] [.inl (0, 0), .inr (30, x2)] 1 6 K)) :
  tRun E 328 (0, [.inr (10, x0), .inl (0, x1), .inr (30, x2), tu], [], 0, 0, d) K := tT_run (cut := [0, 7]) 5 _ h
theorem t_328_7 {E : mO × tW} {K : tK} {d : mD} {x0 x1 x2 y0 y1 y2 : Int}
  (h : mInR y2 ∧ (0 ≤ y1 ∧ y1 < 1) ∧ K (.inl (some (0, 0))) (mset d y0 y1 y2)) :
  tRun E 328 (7, [.inr (10, x0), .inl (0, x1), .inr (30, x2), tu], [.inl (0, y2), .inl (0, y1), .inr (30, y0)], 1, 6, d) K := tT_run (cut := [0, 7]) 5 _ h
theorem t_329_0 {E : mO × tW} {K : tK} {d : mD} {x0 x1 x2 : Int}
  (h : tCall E 153 [.inr (10, x0), .inl (0, x1)] d (tbk E 329 4 [.inr (10, x0), .inl (0, x1), .inr (30, x2), tu] [.inl (0, 0), .inr (30, x2)] 2 12 K)) :
  tRun E 329 (0, [.inr (10, x0), .inl (0, x1), .inr (30, x2), tu], [], 0, 0, d) K := tT_run (cut := [0, 7]) 5 _ h
theorem t_329_7 {E : mO × tW} {K : tK} {d : mD} {x0 x1 x2 y0 y1 y2 : Int}
  (h : mInR y2 ∧ (0 ≤ y1 ∧ y1 < 1) ∧ K (.inl (some (0, 0))) (mset d y0 y1 y2)) :
  tRun E 329 (7, [.inr (10, x0), .inl (0, x1), .inr (30, x2), tu], [.inl (0, y2), .inl (0, y1), .inr (30, y0)], 2, 12, d) K := tT_run (cut := [0, 7]) 5 _ h
theorem t_330_0 {E : mO × tW} {K : tK} {d : mD} {x0 x1 x2 x3 : Int}
  (h : tCall E 154 [.inr (10, x0), .inl (0, x1), .inl (0, x2)] d (tbk E 330 5 [.inr (10, x0), .inl (0, x1), .inl (0, x2), .inr (30, x3), tu] [.inl (0, 0), .inr (30, x3)] 3 18 K)) :
  tRun E 330 (0, [.inr (10, x0), .inl (0, x1), .inl (0, x2), .inr (30, x3), tu], [], 0, 0, d) K := tT_run (cut := [0, 8]) 6 _ h
theorem t_330_8 {E : mO × tW} {K : tK} {d : mD} {x0 x1 x2 x3 y0 y1 y2 : Int}
  (h : mInR y2 ∧ (0 ≤ y1 ∧ y1 < 1) ∧ K (.inl (some (0, 0))) (mset d y0 y1 y2)) :
  tRun E 330 (8, [.inr (10, x0), .inl (0, x1), .inl (0, x2), .inr (30, x3), tu], [.inl (0, y2), .inl (0, y1), .inr (30, y0)], 3, 18, d) K := tT_run (cut := [0, 8]) 5 _ h
theorem t_331_0 {E : mO × tW} {K : tK} {d : mD} {x0 x1 x2 x3 x4 : Int}
  (h : tCall E 155 [.inr (10, x0), .inl (0, x1), .inl (0, x2), .inl (0, x3)] d (tbk E 331 7 [.inr (10, x0), .inl (0, x1), .inl (0, x2), .inl (0, x3), .inr (30, x4), tu] [.inl (0, 0), .inr (30, x4)] 4 24 K)) :
  tRun E 331 (0, [.inr (10, x0), .inl (0, x1), .inl (0, x2), .inl (0, x3), .inr (30, x4), tu], [], 0, 0, d) K := tT_run (cut := [0, 10]) 7 _ h
theorem t_331_10 {E : mO × tW} {K : tK} {d : mD} {x0 x1 x2 x3 x4 y0 y1 y2 : Int}
  (h : mInR y2 ∧ (0 ≤ y1 ∧ y1 < 1) ∧ K (.inl (some (0, 0))) (mset d y0 y1 y2)) :
  tRun E 331 (10, [.inr (10, x0), .inl (0, x1), .inl (0, x2), .inl (0, x3), .inr (30, x4), tu], [.inl (0, y2), .inl (0, y1), .inr (30, y0)], 4, 24, d) K := tT_run (cut := [0, 10]) 5 _ h
theorem t_332_0 {E : mO × tW} {K : tK} {d : mD} {x0 x1 x2 x3 : Int}
  (h : tCall E 156 [.inr (10, x0), .inl (0, x1), .inl (0, x2)] d (tbk E 332 5 [.inr (10, x0), .inl (0, x1), .inl (0, x2), .inr (30, x3), tu] [.inl (0, 0), .inr (30, x3)] 3 18 K)) :
  tRun E 332 (0, [.inr (10, x0), .inl (0, x1), .inl (0, x2), .inr (30, x3), tu], [], 0, 0, d) K := tT_run (cut := [0, 8]) 6 _ h
theorem t_332_8 {E : mO × tW} {K : tK} {d : mD} {x0 x1 x2 x3 y0 y1 y2 : Int}
  (h : mInR y2 ∧ (0 ≤ y1 ∧ y1 < 1) ∧ K (.inl (some (0, 0))) (mset d y0 y1 y2)) :
  tRun E 332 (8, [.inr (10, x0), .inl (0, x1), .inl (0, x2), .inr (30, x3), tu], [.inl (0, y2), .inl (0, y1), .inr (30, y0)], 3, 18, d) K := tT_run (cut := [0, 8]) 5 _ h
theorem t_333_0 {E : mO × tW} {K : tK} {d : mD} {x0 x1 x2 : Int}
  (h : tCall E 157 [.inr (10, x0), .inl (0, x1)] d (tbk E 333 4 [.inr (10, x0), .inl (0, x1), .inr (30, x2), tu] [.inl (0, 0), .inr (30, x2)] 1 6 K)) :
  tRun E 333 (0, [.inr (10, x0), .inl (0, x1), .inr (30, x2), tu], [], 0, 0, d) K := tT_run (cut := [0, 7]) 5 _ h
theorem t_333_7 {E : mO × tW} {K : tK} {d : mD} {x0 x1 x2 y0 y1 y2 : Int}
  (h : mInR y2 ∧ (0 ≤ y1 ∧ y1 < 1) ∧ K (.inl (some (0, 0))) (mset d y0 y1 y2)) :
  tRun E 333 (7, [.inr (10, x0), .inl (0, x1), .inr (30, x2), tu], [.inl (0, y2), .inl (0, y1), .inr (30, y0)], 1, 6, d) K := tT_run (cut := [0, 7]) 5 _ h
theorem t_334_0 {E : mO × tW} {K : tK} {d : mD} {x0 x1 x2 x3 : Int}
  (h : tCall E 158 [.inr (10, x0), .inl (0, x1), .inl (0, x2)] d (tbk E 334 5 [.inr (10, x0), .inl (0, x1), .inl (0, x2), .inr (30, x3), tu] [.inl (0, 0), .inr (30, x3)] 3 18 K)) :
  tRun E 334 (0, [.inr (10, x0), .inl (0, x1), .inl (0, x2), .inr (30, x3), tu], [], 0, 0, d) K := tT_run (cut := [0, 8]) 6 _ h
theorem t_334_8 {E : mO × tW} {K : tK} {d : mD} {x0 x1 x2 x3 y0 y1 y2 : Int}
  (h : mInR y2 ∧ (0 ≤ y1 ∧ y1 < 1) ∧ K (.inl (some (0, 0))) (mset d y0 y1 y2)) :
  tRun E 334 (8, [.inr (10, x0), .inl (0, x1), .inl (0, x2), .inr (30, x3), tu], [.inl (0, y2), .inl (0, y1), .inr (30, y0)], 3, 18, d) K := tT_run (cut := [0, 8]) 5 _ h
theorem t_335_0 {E : mO × tW} {K : tK} {d : mD} {x0 x1 x2 : Int}
  (h : tCall E 159 [.inr (10, x0), .inl (0, x1)] d (tbk E 335 4 [.inr (10, x0), .inl (0, x1), .inr (30, x2), tu] [.inl (0, 0), .inr (30, x2)] 2 12 K)) :
  tRun E 335 (0, [.inr (10, x0), .inl (0, x1), .inr (30, x2), tu], [], 0, 0, d) K := tT_run (cut := [0, 7]) 5 _ h
theorem t_335_7 {E : mO × tW} {K : tK} {d : mD} {x0 x1 x2 y0 y1 y2 : Int}
  (h : mInR y2 ∧ (0 ≤ y1 ∧ y1 < 1) ∧ K (.inl (some (0, 0))) (mset d y0 y1 y2)) :
  tRun E 335 (7, [.inr (10, x0), .inl (0, x1), .inr (30, x2), tu], [.inl (0, y2), .inl (0, y1), .inr (30, y0)], 2, 12, d) K := tT_run (cut := [0, 7]) 5 _ h
theorem t_336_0 {E : mO × tW} {K : tK} {d : mD} {x0 x1 : Int}
  (h : tCall E 160 [.inr (10, x0)] d (tbk E 336 3 [.inr (10, x0), .inr (30, x1), tu] [.inl (0, 0), .inr (30, x1)] 1 6 K)) :
  tRun E 336 (0, [.inr (10, x0), .inr (30, x1), tu], [], 0, 0, d) K := tT_run (cut := [0, 6]) 4 _ h
theorem t_336_6 {E : mO × tW} {K : tK} {d : mD} {x0 x1 y0 y1 y2 : Int}
  (h : mInR y2 ∧ (0 ≤ y1 ∧ y1 < 1) ∧ K (.inl (some (0, 0))) (mset d y0 y1 y2)) :
  tRun E 336 (6, [.inr (10, x0), .inr (30, x1), tu], [.inl (0, y2), .inl (0, y1), .inr (30, y0)], 1, 6, d) K := tT_run (cut := [0, 6]) 5 _ h
theorem t_337_0 {E : mO × tW} {K : tK} {d : mD} {x0 x1 x2 x3 : Int}
  (h : tCall E 161 [.inr (10, x0), .inl (0, x1), .inl (0, x2)] d (tbk E 337 5 [.inr (10, x0), .inl (0, x1), .inl (0, x2), .inr (30, x3), tu] [.inl (0, 0), .inr (30, x3)] 2 12 K)) :
  tRun E 337 (0, [.inr (10, x0), .inl (0, x1), .inl (0, x2), .inr (30, x3), tu], [], 0, 0, d) K := tT_run (cut := [0, 8]) 6 _ h
theorem t_337_8 {E : mO × tW} {K : tK} {d : mD} {x0 x1 x2 x3 y0 y1 y2 : Int}
  (h : mInR y2 ∧ (0 ≤ y1 ∧ y1 < 1) ∧ K (.inl (some (0, 0))) (mset d y0 y1 y2)) :
  tRun E 337 (8, [.inr (10, x0), .inl (0, x1), .inl (0, x2), .inr (30, x3), tu], [.inl (0, y2), .inl (0, y1), .inr (30, y0)], 2, 12, d) K := tT_run (cut := [0, 8]) 5 _ h
theorem t_338_0 {E : mO × tW} {K : tK} {d : mD} {x0 x1 : Int}
  (h : tCall E 162 [.inr (10, x0)] d (tbk E 338 3 [.inr (10, x0), .inr (30, x1), tu] [.inl (0, 0), .inr (30, x1)] 1 6 K)) :
  tRun E 338 (0, [.inr (10, x0), .inr (30, x1), tu], [], 0, 0, d) K := tT_run (cut := [0, 6]) 4 _ h
theorem t_338_6 {E : mO × tW} {K : tK} {d : mD} {x0 x1 y0 y1 y2 : Int}
  (h : mInR y2 ∧ (0 ≤ y1 ∧ y1 < 1) ∧ K (.inl (some (0, 0))) (mset d y0 y1 y2)) :
  tRun E 338 (6, [.inr (10, x0), .inr (30, x1), tu], [.inl (0, y2), .inl (0, y1), .inr (30, y0)], 1, 6, d) K := tT_run (cut := [0, 6]) 5 _ h
theorem t_339_0 {E : mO × tW} {K : tK} {d : mD} {x0 x1 : Int}
  (h : tCall E 163 [.inr (10, x0), .inl (0, x1)] d (tbk E 339 2 [.inr (10, x0), .inl (0, x1), tu] [] 1 6 K)) :
  tRun E 339 (0, [.inr (10, x0), .inl (0, x1), tu], [], 0, 0, d) K := tT_run (cut := [0, 5]) 3 _ h
theorem t_339_5 {E : mO × tW} {K : tK} {d : mD} {x0 x1 : Int}
  (h : K (.inl (some (0, 0))) d) :
  tRun E 339 (5, [.inr (10, x0), .inl (0, x1), tu], [], 1, 6, d) K := tT_run (cut := [0, 5]) 3 _ h
theorem t_340_0 {E : mO × tW} {K : tK} {d : mD} {x0 x1 : Int}
  (h : tCall E 164 [.inr (10, x0), .inl (0, x1)] d (tbk E 340 2 [.inr (10, x0), .inl (0, x1), tu] [] 2 12 K)) :
  tRun E 340 (0, [.inr (10, x0), .inl (0, x1), tu], [], 0, 0, d) K := tT_run (cut := [0, 5]) 3 _ h
theorem t_340_5 {E : mO × tW} {K : tK} {d : mD} {x0 x1 : Int}
  (h : K (.inl (some (0, 0))) d) :
  tRun E 340 (5, [.inr (10, x0), .inl (0, x1), tu], [], 2, 12, d) K := tT_run (cut := [0, 5]) 3 _ h
/-! ===== the shape of the cells behind the two constructors ===== -/
noncomputable def shT (a t : Nat) : Bool := Nat.blt a 779 && Nat.beq (acell aM1 a).1 (tk t) && (Nat.blt t 12 || zeq ((acell aM1 a).2.1 : Int) (tl t))
noncomputable def shE (x : aN) (z : Int) (t : Nat) : Bool := match x with
  | (0, .ofNat q) => zeq (.ofNat q) z && shT q t
  | _ => false
noncomputable def shF (a : Nat) : Bool := !Nat.beq (acell aM1 a).1 999 && (Nat.ble 12 (acell aM1 a).1 || (List.range 32).all (fun f => !Nat.beq (mfty (32 * (acell aM1 a).1 + f)) 4 || shE (aget (acell aM1 a) f) ((a : Int) + tpo (32 * (acell aM1 a).1 + f)) (tpy (32 * (acell aM1 a).1 + f))))
noncomputable def shA1 (a t : Nat) : Bool := !(Nat.beq (acell aM1 a).1 (tk t) && zeq ((acell aM1 a).2.1 : Int) (tl t)) || (List.range (acell aM1 a).2.1).all (fun i => shE (aget (acell aM1 a) i) ((a : Int) + (teb t + tes t * (i : Int))) (tec t))
noncomputable def shA (a : Nat) : Bool := Nat.blt (acell aM1 a).1 200 || (shA1 a 12 && shA1 a 19 && shA1 a 23)
set_option maxRecDepth 100000 in
theorem sh_ok : (List.range 779).all (fun a => shF a && shA a) = true := by decide +kernel
theorem tk_200 : ∀ t, t < 31 → 200 ≤ tk t → t = 12 ∨ t = 19 ∨ t = 23 := by decide
theorem shT_ok {ρ : Nat → Int} {kn : Bool} {G : mG} {d : mD} (hM : gM ρ aM1 779 kn G d) {q t : Nat} (h : shT q t = true) (h9 : ∀ a, a < 779 → (acell aM1 a).1 ≠ 999) : tokV (G.1, G.2.1) (.inr (t, (q : Int))) := by
  unfold shT at h
  rw [Bool.and_eq_true, Bool.and_eq_true, Nat.blt_eq] at h
  obtain ⟨⟨h1, h2⟩, h3⟩ := h
  obtain ⟨g1, g2, -⟩ := hM.2 q h1 (h9 q h1)
  refine ⟨⟨by omega, by omega⟩, ?_, fun ht => ?_⟩
  · show G.1 (q : Int) = _
    rw [g1, Nat.eq_of_beq_eq_true h2]
  · show G.2.1 (q : Int) = _
    rw [Bool.or_eq_true, Nat.blt_eq] at h3
    rcases h3 with h3 | h3
    · omega
    · rw [g2]
      exact of_decide_eq_true h3
theorem shE_ok {ρ : Nat → Int} {kn : Bool} {G : mG} {d : mD} (hM : gM ρ aM1 779 kn G d) (h9 : ∀ a, a < 779 → (acell aM1 a).1 ≠ 999) {x : aN} {y z : Int} {t : Nat} (hx : gN ρ x y) (h : shE x z t = true) : y = z ∧ tokV (G.1, G.2.1) (.inr (t, z)) := by
  unfold shE at h
  split at h
  · rename_i q
    rw [Bool.and_eq_true] at h
    have e : (Int.ofNat q) = z := of_decide_eq_true h.1
    have hx : y = Int.ofNat q := hx
    rw [← e]
    exact ⟨hx, shT_ok hM h.2 h9⟩
  · cases h
theorem tSh_of {ρ : Nat → Int} {kn : Bool} {G : mG} {d : mD} (hM : gM ρ aM1 779 kn G d) : tSh (G.1, G.2.1) d := by
  have hk : ∀ a, a < 779 → shF a = true ∧ shA a = true := fun a ha => by
    have h := List.all_eq_true.mp sh_ok a (List.mem_range.mpr ha)
    rwa [Bool.and_eq_true] at h
  have h9 : ∀ a, a < 779 → (acell aM1 a).1 ≠ 999 := fun a ha e => by
    have h := (hk a ha).1
    unfold shF at h
    rw [e] at h
    cases h
  refine ⟨fun a g h0 h1 hg h4 => ?_, fun a t i hv ht h0 h1 => ?_⟩
  · obtain ⟨n, rfl⟩ := Int.eq_ofNat_of_zero_le h0
    have hn : n < 779 := by omega
    obtain ⟨g1, g2, g3⟩ := hM.2 n hn (h9 n hn)
    have hg : G.1 (n : Int) = ((g / 32 : Nat) : Int) := hg
    rw [g1] at hg
    have hc : (acell aM1 n).1 = g / 32 := by omega
    have h := (hk n hn).1
    unfold shF at h
    rw [hc] at h
    have h12 := tfg_lt g h4
    simp only [Bool.and_eq_true, Bool.or_eq_true] at h
    rcases h.2 with h | h
    · have := Nat.le_of_ble_eq_true h
      omega
    · have h5 := List.all_eq_true.mp h (g % 32) (List.mem_range.mpr (by omega))
      have e : 32 * (g / 32) + g % 32 = g := by omega
      rw [e, h4] at h5
      simp only [Bool.or_eq_true] at h5
      rcases h5 with h5 | h5
      · cases h5
      · exact shE_ok hM h9 (g3 (g % 32)) h5
  · obtain ⟨n, rfl⟩ := Int.eq_ofNat_of_zero_le hv.1.1
    have hn : n < 779 := by have := hv.1.2; omega
    obtain ⟨g1, g2, g3⟩ := hM.2 n hn (h9 n hn)
    obtain ⟨-, v1, v2⟩ := trow hv (by omega)
    have v1 : G.1 (n : Int) = _ := v1
    have v2 : G.2.1 (n : Int) = _ := v2
    rw [g1] at v1
    rw [g2] at v2
    have hc : (acell aM1 n).1 = tk t := by omega
    have ht31 : t < 31 := by
      rcases Nat.lt_or_ge t 31 with h | h
      · exact h
      · rw [tk_hi t h] at ht
        omega
    have h := (hk n hn).2
    unfold shA at h
    rw [Bool.or_eq_true, Nat.blt_eq, hc] at h
    rcases h with h | h
    · omega
    · rw [Bool.and_eq_true, Bool.and_eq_true] at h
      have hx : shA1 n t = true := by
        rcases tk_200 t ht31 ht with rfl | rfl | rfl
        · exact h.1.1
        · exact h.1.2
        · exact h.2
      unfold shA1 at hx
      have hz : zeq ((acell aM1 n).2.1 : Int) (tl t) = true := decide_eq_true v2
      rw [hz, hc, Nat.beq_refl] at hx
      obtain ⟨k, rfl⟩ := Int.eq_ofNat_of_zero_le h0
      have h5 := List.all_eq_true.mp hx k (List.mem_range.mpr (by omega))
      exact shE_ok hM h9 (g3 k) h5
/-! ===== working on the typed machine ===== -/
theorem t_rounds {E : mO × tW} {m : Nat} {K : tK} (st : Int → mD → tSt) (Inv : Int → mD → Prop) {N : Int} (hN : 0 ≤ N) (h1 : ∀ i d, 0 ≤ i → i < N → Inv i d → (∀ d', Inv (i + 1) d' → tRun E m (st (i + 1) d') K) → tRun E m (st i d) K) (h2 : ∀ d, Inv N d → tRun E m (st N d) K) {d : mD} (h0 : Inv 0 d) : tRun E m (st 0 d) K := by
  have h : ∀ n : Nat, (n : Int) ≤ N → ∀ d, Inv (N - (n : Int)) d → tRun E m (st (N - (n : Int)) d) K := by
    intro n
    induction n with
    | zero =>
      intro _ d hd
      have e : N - ((0 : Nat) : Int) = N := by omega
      rw [e] at hd ⊢
      exact h2 d hd
    | succ n ih =>
      intro hn d hd
      refine h1 _ d (by omega) (by omega) hd (fun d' hd' => ?_)
      have e : N - ((n + 1 : Nat) : Int) + 1 = N - (n : Int) := by omega
      rw [e] at hd' ⊢
      exact ih (by omega) d' hd'
  have h9 := h N.toNat (by omega)
  have e : N - (N.toNat : Int) = 0 := by omega
  rw [e] at h9
  exact h9 d h0
theorem t_count {E : mO × tW} {m : Nat} {K : tK} (st : Int → tSt) {N : Int} (hN : 0 ≤ N) (h1 : ∀ i, 0 ≤ i → i < N → tRun E m (st (i + 1)) K → tRun E m (st i) K) (h2 : tRun E m (st N) K) : tRun E m (st 0) K :=
  t_rounds (fun i _ => st i) (fun _ _ => True) hN (fun i d a b _ k => h1 i a b (k d trivial)) (fun _ _ => h2) (d := fun _ _ => 0) trivial
theorem t_find {E : mO × tW} {m : Nat} {K : tK} (st : Int → tSt) (p : Int → Prop) {N : Int} (hN : 0 ≤ N) (h1 : ∀ i, 0 ≤ i → i < N → (∀ j, 0 ≤ j → j < i → ¬ p j) → (¬ p i → tRun E m (st (i + 1)) K) → tRun E m (st i) K) (h2 : (∀ j, 0 ≤ j → j < N → ¬ p j) → tRun E m (st N) K) : tRun E m (st 0) K :=
  t_rounds (fun i _ => st i) (fun i _ => ∀ j, 0 ≤ j → j < i → ¬ p j) hN (fun i d a b hi k => h1 i a b hi (fun hn => k d (fun j h0 hj => by
    by_cases e : j = i
    · rw [e]; exact hn
    · exact hi j h0 (by omega)))) (fun _ h => h2 h) (d := fun _ _ => 0) (fun j h0 hj => absurd hj (by omega))
-- the first place
def isF (p : Int → Prop) (n r : Int) : Prop := (r = -1 ∧ ∀ j, 0 ≤ j → j < n → ¬ p j) ∨ (0 ≤ r ∧ r < n ∧ p r ∧ ∀ j, 0 ≤ j → j < r → ¬ p j)
-- sums
def csum (f : Int → Int) : Nat → Int
  | 0 => 0
  | n + 1 => csum f n + f (n : Int)
theorem csum_s (f : Int → Int) {i : Int} (h : 0 ≤ i) : csum f (i + 1).toNat = csum f i.toNat + f i := by
  have e : (i + 1).toNat = i.toNat + 1 := by omega
  rw [e]
  show csum f i.toNat + f (i.toNat : Int) = _
  rw [Int.toNat_of_nonneg h]
theorem csum_congr {f g : Int → Int} {n : Nat} (h : ∀ i : Int, 0 ≤ i → i < (n : Int) → f i = g i) : csum f n = csum g n := by
  induction n with
  | zero => rfl
  | succ n ih =>
    show csum f n + f (n : Int) = csum g n + g (n : Int)
    rw [ih (fun i h0 h1 => h i h0 (by omega)), h (n : Int) (by omega) (by omega)]
theorem csum_rng {f : Int → Int} {n : Nat} {B : Int} (h : ∀ i : Int, 0 ≤ i → i < (n : Int) → 0 ≤ f i ∧ f i ≤ B) : 0 ≤ csum f n ∧ csum f n ≤ (n : Int) * B := by
  induction n with
  | zero => exact ⟨Int.le_refl 0, by simp [csum]⟩
  | succ n ih =>
    have h1 := ih (fun i h0 h1 => h i h0 (by omega))
    have h2 := h (n : Int) (by omega) (by omega)
    have e : ((n + 1 : Nat) : Int) * B = (n : Int) * B + B := by
      rw [Int.natCast_add, Int.add_mul]
      simp
    show 0 ≤ csum f n + f (n : Int) ∧ csum f n + f (n : Int) ≤ _
    rw [e]
    omega
/-! ===== bits ===== -/
theorem n32 {n : Nat} (h : n < 2147483648) : (Int32.ofInt (n : Int)).toBitVec.toNat = n := by
  show (BitVec.ofInt 32 (n : Int)).toNat = n
  rw [BitVec.toNat_ofInt]
  omega
theorem i32n {v : Int32} (h : v.toBitVec.toNat < 2147483648) : v.toInt = (v.toBitVec.toNat : Int) := by
  show v.toBitVec.toInt = _
  exact BitVec.toInt_eq_toNat_of_lt (by omega)
theorem mishl5_n {n : Nat} (h : n < 33554432) : (Int32.ofInt (n : Int) <<< (Int32.ofInt 5 &&& 31)).toBitVec.toNat = 32 * n := by
  have e : (Int32.ofInt 5 &&& 31) = (5 : Int32) := by decide
  rw [e, Int32.toBitVec_shiftLeft]
  have e2 : ((5 : Int32).toBitVec.smod 32) = 5#32 := by decide
  rw [e2, BitVec.shiftLeft_eq', BitVec.toNat_shiftLeft, n32 (by omega)]
  show n <<< 5 % 4294967296 = _
  rw [Nat.shiftLeft_eq]
  omega
theorem mname_or (x c : Int) : (0 ≤ x ∧ x < 33554432 ∧ 1 ≤ c ∧ c ≤ 31 ∧ mior (mishl x 5) c = 32 * x + c) ∨ x < 0 ∨ 33554432 ≤ x ∨ c < 1 ∨ 31 < c := by
  by_cases h : 0 ≤ x ∧ x < 33554432 ∧ 1 ≤ c ∧ c ≤ 31
  · left
    obtain ⟨h0, h1, h2, h3⟩ := h
    refine ⟨h0, h1, h2, h3, ?_⟩
    obtain ⟨n, rfl⟩ := Int.eq_ofNat_of_zero_le h0
    obtain ⟨k, rfl⟩ := Int.eq_ofNat_of_zero_le (show 0 ≤ c by omega)
    have hs : mishl (n : Int) 5 = ((32 * n : Nat) : Int) := by
      unfold mishl mI
      have := mishl5_n (n := n) (by omega)
      rw [i32n (by rw [this]; omega), this]
    rw [hs]
    unfold mior mI
    have hb : (Int32.ofInt ((32 * n : Nat) : Int) ||| Int32.ofInt (k : Int)).toBitVec.toNat = 32 * n + k := by
      rw [Int32.toBitVec_or, BitVec.toNat_or, n32 (by omega), n32 (by omega)]
      have := Nat.shiftLeft_add_eq_or_of_lt (b := k) (i := 5) (by omega) n
      rw [Nat.shiftLeft_eq] at this
      rw [show 32 * n = n * 2 ^ 5 by omega, ← this]
    rw [i32n (by rw [hb]; omega), hb]
    omega
  · omega
theorem mishr6_n : ∀ n : Fin 1000, mishr ((n : Nat) : Int) 6 = ((n.val / 64 : Nat) : Int) := by decide +kernel
theorem mishr6_r (x : Int) : (mishr x 6 = x / 64 ∧ 0 ≤ x ∧ x ≤ 999) ∨ x < 0 ∨ 999 < x := by
  by_cases h : 0 ≤ x ∧ x ≤ 999
  · left
    obtain ⟨n, rfl⟩ := Int.eq_ofNat_of_zero_le h.1
    have := mishr6_n ⟨n, by omega⟩
    have e : (((n / 64 : Nat)) : Int) = (n : Int) / 64 := by omega
    exact ⟨this.trans e, h⟩
  · omega
