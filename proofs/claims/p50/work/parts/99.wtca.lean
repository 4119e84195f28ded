/-! ===== the quiet queries: they make nothing (printed by a program of mine) ===== -/
theorem t_417_0 {E : mO × tW} {K : tK} {d : mD} {x0 x1 : Int}
  (h : mInR x1 ∧ (x1 < 0 → False) ∧ (0 ≤ x1 → (mInR x1 ∧ mInR (d (x0 + 1 + 2) 0)) ∧ (x1 < d (x0 + 1 + 2) 0 → K (.inl none) d) ∧ (d (x0 + 1 + 2) 0 ≤ x1 → False))) :
  tRun E 417 (0, [.inr (10, x0), .inl (0, x1)], [], 0, 0, d) K := tT_run (cut := [0]) 9 _ h
theorem k_417 {E : mO × tW} {K : tK} {d : mD} {x0 x1 : Int} (hS : Safe d) (hx0 : wbB x0) (p1 : -2147483648 ≤ x1 ∧ x1 ≤ 2147483647) (h0 : (x1 < 0) → False) (h1 : (0 ≤ x1) → (x1 < d (x0 + 1 + 2) 0) → K (.inl none) d) (h2 : (0 ≤ x1) → (d (x0 + 1 + 2) 0 ≤ x1) → False) : tCall E 417 [.inr (10, x0), .inl (0, x1)] d K := by
  refine t_417_0 ?_
  have w0 : x0 = 0 := hx0
  have w2 := r_6_f2 hS (wbB.nw hx0)
  have w3 := r_3_f0 hS (stB.of (wbB.nw hx0))
  have w4 := r_4_f0 hS (stB.pe (wbB.nw hx0))
  have w5 := r_8_f0 hS (stB.ti (wbB.nw hx0))
  have w6 := r_9_f0 hS (stB.to (wbB.nw hx0))
  have w7 := r_7_f1 hS (wbB.tx hx0)
  refine ⟨m_inR (by omega) (by omega), fun c0 => ?_, fun c0 => ?_⟩
  · exact h0 c0
  · have q1 := r_3_f0 hS (stB.of (wbB.nw hx0))
    refine ⟨⟨m_inR (by omega) (by omega), m_inR (by omega) (by omega)⟩, fun c1 => ?_, fun c1 => ?_⟩
    · exact h1 c0 c1
    · exact h2 c0 c1
theorem t_418_0 {E : mO × tW} {K : tK} {d : mD} {x0 x1 : Int}
  (h : mInR x1 ∧ (x1 < 0 → False) ∧ (0 ≤ x1 → (mInR x1 ∧ mInR (d (x0 + 1 + 10) 0)) ∧ (x1 < d (x0 + 1 + 10) 0 → K (.inl none) d) ∧ (d (x0 + 1 + 10) 0 ≤ x1 → False))) :
  tRun E 418 (0, [.inr (10, x0), .inl (0, x1)], [], 0, 0, d) K := tT_run (cut := [0]) 9 _ h
theorem k_418 {E : mO × tW} {K : tK} {d : mD} {x0 x1 : Int} (hS : Safe d) (hx0 : wbB x0) (p1 : -2147483648 ≤ x1 ∧ x1 ≤ 2147483647) (h0 : (x1 < 0) → False) (h1 : (0 ≤ x1) → (x1 < d (x0 + 1 + 10) 0) → K (.inl none) d) (h2 : (0 ≤ x1) → (d (x0 + 1 + 10) 0 ≤ x1) → False) : tCall E 418 [.inr (10, x0), .inl (0, x1)] d K := by
  refine t_418_0 ?_
  have w0 : x0 = 0 := hx0
  have w2 := r_6_f2 hS (wbB.nw hx0)
  have w3 := r_3_f0 hS (stB.of (wbB.nw hx0))
  have w4 := r_4_f0 hS (stB.pe (wbB.nw hx0))
  have w5 := r_8_f0 hS (stB.ti (wbB.nw hx0))
  have w6 := r_9_f0 hS (stB.to (wbB.nw hx0))
  have w7 := r_7_f1 hS (wbB.tx hx0)
  refine ⟨m_inR (by omega) (by omega), fun c0 => ?_, fun c0 => ?_⟩
  · exact h0 c0
  · have q1 := r_4_f0 hS (stB.pe (wbB.nw hx0))
    refine ⟨⟨m_inR (by omega) (by omega), m_inR (by omega) (by omega)⟩, fun c1 => ?_, fun c1 => ?_⟩
    · exact h1 c0 c1
    · exact h2 c0 c1
theorem t_419_0 {E : mO × tW} {K : tK} {d : mD} {x0 x1 : Int}
  (h : mInR x1 ∧ (x1 < 0 → False) ∧ (0 ≤ x1 → (mInR x1 ∧ mInR (d (x0 + 1 + 49) 0)) ∧ (x1 < d (x0 + 1 + 49) 0 → K (.inl none) d) ∧ (d (x0 + 1 + 49) 0 ≤ x1 → False))) :
  tRun E 419 (0, [.inr (10, x0), .inl (0, x1)], [], 0, 0, d) K := tT_run (cut := [0]) 9 _ h
theorem k_419 {E : mO × tW} {K : tK} {d : mD} {x0 x1 : Int} (hS : Safe d) (hx0 : wbB x0) (p1 : -2147483648 ≤ x1 ∧ x1 ≤ 2147483647) (h0 : (x1 < 0) → False) (h1 : (0 ≤ x1) → (x1 < d (x0 + 1 + 49) 0) → K (.inl none) d) (h2 : (0 ≤ x1) → (d (x0 + 1 + 49) 0 ≤ x1) → False) : tCall E 419 [.inr (10, x0), .inl (0, x1)] d K := by
  refine t_419_0 ?_
  have w0 : x0 = 0 := hx0
  have w2 := r_6_f2 hS (wbB.nw hx0)
  have w3 := r_3_f0 hS (stB.of (wbB.nw hx0))
  have w4 := r_4_f0 hS (stB.pe (wbB.nw hx0))
  have w5 := r_8_f0 hS (stB.ti (wbB.nw hx0))
  have w6 := r_9_f0 hS (stB.to (wbB.nw hx0))
  have w7 := r_7_f1 hS (wbB.tx hx0)
  refine ⟨m_inR (by omega) (by omega), fun c0 => ?_, fun c0 => ?_⟩
  · exact h0 c0
  · have q1 := r_8_f0 hS (stB.ti (wbB.nw hx0))
    refine ⟨⟨m_inR (by omega) (by omega), m_inR (by omega) (by omega)⟩, fun c1 => ?_, fun c1 => ?_⟩
    · exact h1 c0 c1
    · exact h2 c0 c1
theorem t_411_0 {E : mO × tW} {K : tK} {d : mD} {x0 x1 : Int}
  (h : mInR x1 ∧ (x1 = 0 → K (.inl (some (0, d (x0 + 1 + 2) 0))) d) ∧ (x1 = 1 → K (.inl (some (0, d (x0 + 1 + 10) 0))) d) ∧ (x1 = 2 → K (.inl (some (0, d (x0 + 1 + 49) 0))) d) ∧ (x1 = 3 → K (.inl (some (0, d (x0 + 1) 2))) d) ∧ (x1 = 4 → (0 ≤ d (x0 + 1) 2 ∧ d (x0 + 1) 2 ≤ 2147483647 ∧ 0 < (20 : Int) ∧ (20 : Int) ≤ 2147483647) ∧ K (.inl (some (0, 20 - ((d (x0 + 1) 2) % 20)))) d) ∧ (x1 = 5 → tCall E 101 [.inr (8, x0 + 1 + 49), .inl (0, 0)] d (tbk E 411 131 [.inr (10, x0), .inl (0, x1)] [] 0 0 K)) ∧ (x1 = 6 → tCall E 102 [.inr (8, x0 + 1 + 49), .inl (0, 1)] d (tbk E 411 143 [.inr (10, x0), .inl (0, x1)] [] 0 0 K)) ∧ (x1 = 7 → tCall E 102 [.inr (8, x0 + 1 + 49), .inl (0, 2)] d (tbk E 411 155 [.inr (10, x0), .inl (0, x1)] [] 0 0 K)) ∧ (x1 = 8 → K (.inl (some (0, d (x0 + 1 + 57) 0))) d) ∧ (x1 = 9 → tCall E 110 [.inr (9, x0 + 1 + 57), .inl (0, 1)] d (tbk E 411 178 [.inr (10, x0), .inl (0, x1)] [] 0 0 K)) ∧ (x1 = 10 → tCall E 110 [.inr (9, x0 + 1 + 57), .inl (0, 2)] d (tbk E 411 190 [.inr (10, x0), .inl (0, x1)] [] 0 0 K)) ∧ (x1 = 11 → K (.inl (some (0, d (x0 + 1) 1))) d) ∧ (x1 = 12 → K (.inl (some (0, d (x0 + 64) 2))) d) ∧ (x1 < 0 ∨ 12 < x1 → False)) :
  tRun E 411 (0, [.inr (10, x0), .inl (0, x1)], [], 0, 0, d) K := tT_run (cut := [0, 134, 146, 158, 181, 193]) 10 _ h
theorem t_411_134 {E : mO × tW} {K : tK} {d : mD} {x0 x1 y0 : Int}
  (h : K (.inl (some (0, y0))) d) :
  tRun E 411 (134, [.inr (10, x0), .inl (0, x1)], [.inl (0, y0)], 0, 0, d) K := tT_run (cut := [0, 134, 146, 158, 181, 193]) 1 _ h
theorem t_411_146 {E : mO × tW} {K : tK} {d : mD} {x0 x1 y0 : Int}
  (h : K (.inl (some (0, y0))) d) :
  tRun E 411 (146, [.inr (10, x0), .inl (0, x1)], [.inl (0, y0)], 0, 0, d) K := tT_run (cut := [0, 134, 146, 158, 181, 193]) 1 _ h
theorem t_411_158 {E : mO × tW} {K : tK} {d : mD} {x0 x1 y0 : Int}
  (h : K (.inl (some (0, y0))) d) :
  tRun E 411 (158, [.inr (10, x0), .inl (0, x1)], [.inl (0, y0)], 0, 0, d) K := tT_run (cut := [0, 134, 146, 158, 181, 193]) 1 _ h
theorem t_411_181 {E : mO × tW} {K : tK} {d : mD} {x0 x1 y0 : Int}
  (h : K (.inl (some (0, y0))) d) :
  tRun E 411 (181, [.inr (10, x0), .inl (0, x1)], [.inl (0, y0)], 0, 0, d) K := tT_run (cut := [0, 134, 146, 158, 181, 193]) 1 _ h
theorem t_411_193 {E : mO × tW} {K : tK} {d : mD} {x0 x1 y0 : Int}
  (h : K (.inl (some (0, y0))) d) :
  tRun E 411 (193, [.inr (10, x0), .inl (0, x1)], [.inl (0, y0)], 0, 0, d) K := tT_run (cut := [0, 134, 146, 158, 181, 193]) 1 _ h
theorem k_411 {E : mO × tW} {K : tK} {d : mD} {x0 x1 : Int} (hS : Safe d) (hx0 : wbB x0) (p1 : -2147483648 ≤ x1 ∧ x1 ≤ 2147483647) (h0 : (x1 = 0) → (0 ≤ (d (x0 + 1 + 2) 0) ∧ (d (x0 + 1 + 2) 0) ≤ 99999) → K (.inl (some (0, d (x0 + 1 + 2) 0))) d) (h1 : (¬ x1 = 0) → (x1 = 1) → (0 ≤ (d (x0 + 1 + 10) 0) ∧ (d (x0 + 1 + 10) 0) ≤ 99999) → K (.inl (some (0, d (x0 + 1 + 10) 0))) d) (h2 : (¬ x1 = 0) → (¬ x1 = 1) → (x1 = 2) → (0 ≤ (d (x0 + 1 + 49) 0) ∧ (d (x0 + 1 + 49) 0) ≤ 99999) → K (.inl (some (0, d (x0 + 1 + 49) 0))) d) (h3 : (¬ x1 = 0) → (¬ x1 = 1) → (¬ x1 = 2) → (x1 = 3) → (0 ≤ (d (x0 + 1) 2) ∧ (d (x0 + 1) 2) ≤ 99999) → K (.inl (some (0, d (x0 + 1) 2))) d) (h4 : (¬ x1 = 0) → (¬ x1 = 1) → (¬ x1 = 2) → (¬ x1 = 3) → (x1 = 4) → (0 ≤ (20 - ((d (x0 + 1) 2) % 20)) ∧ (20 - ((d (x0 + 1) 2) % 20)) ≤ 99999) → K (.inl (some (0, 20 - ((d (x0 + 1) 2) % 20)))) d) (h5 : (¬ x1 = 0) → (¬ x1 = 1) → (¬ x1 = 2) → (¬ x1 = 3) → (¬ x1 = 4) → (x1 = 5) → (0 ≤ (v_101 (x0 + 1 + 49) 0 d) ∧ (v_101 (x0 + 1 + 49) 0 d) ≤ 99999) → K (.inl (some (0, v_101 (x0 + 1 + 49) 0 d))) d) (h6 : (¬ x1 = 0) → (¬ x1 = 1) → (¬ x1 = 2) → (¬ x1 = 3) → (¬ x1 = 4) → (¬ x1 = 5) → (x1 = 6) → (0 ≤ (v_102 (x0 + 1 + 49) 1 d) ∧ (v_102 (x0 + 1 + 49) 1 d) ≤ 99999) → K (.inl (some (0, v_102 (x0 + 1 + 49) 1 d))) d) (h7 : (¬ x1 = 0) → (¬ x1 = 1) → (¬ x1 = 2) → (¬ x1 = 3) → (¬ x1 = 4) → (¬ x1 = 5) → (¬ x1 = 6) → (x1 = 7) → (0 ≤ (v_102 (x0 + 1 + 49) 2 d) ∧ (v_102 (x0 + 1 + 49) 2 d) ≤ 99999) → K (.inl (some (0, v_102 (x0 + 1 + 49) 2 d))) d) (h8 : (¬ x1 = 0) → (¬ x1 = 1) → (¬ x1 = 2) → (¬ x1 = 3) → (¬ x1 = 4) → (¬ x1 = 5) → (¬ x1 = 6) → (¬ x1 = 7) → (x1 = 8) → (0 ≤ (d (x0 + 1 + 57) 0) ∧ (d (x0 + 1 + 57) 0) ≤ 99999) → K (.inl (some (0, d (x0 + 1 + 57) 0))) d) (h9 : (¬ x1 = 0) → (¬ x1 = 1) → (¬ x1 = 2) → (¬ x1 = 3) → (¬ x1 = 4) → (¬ x1 = 5) → (¬ x1 = 6) → (¬ x1 = 7) → (¬ x1 = 8) → (x1 = 9) → (0 ≤ (v_110 (x0 + 1 + 57) 1 d) ∧ (v_110 (x0 + 1 + 57) 1 d) ≤ 99999) → K (.inl (some (0, v_110 (x0 + 1 + 57) 1 d))) d) (h10 : (¬ x1 = 0) → (¬ x1 = 1) → (¬ x1 = 2) → (¬ x1 = 3) → (¬ x1 = 4) → (¬ x1 = 5) → (¬ x1 = 6) → (¬ x1 = 7) → (¬ x1 = 8) → (¬ x1 = 9) → (x1 = 10) → (0 ≤ (v_110 (x0 + 1 + 57) 2 d) ∧ (v_110 (x0 + 1 + 57) 2 d) ≤ 99999) → K (.inl (some (0, v_110 (x0 + 1 + 57) 2 d))) d) (h11 : (¬ x1 = 0) → (¬ x1 = 1) → (¬ x1 = 2) → (¬ x1 = 3) → (¬ x1 = 4) → (¬ x1 = 5) → (¬ x1 = 6) → (¬ x1 = 7) → (¬ x1 = 8) → (¬ x1 = 9) → (¬ x1 = 10) → (x1 = 11) → (0 ≤ (d (x0 + 1) 1) ∧ (d (x0 + 1) 1) ≤ 99999) → K (.inl (some (0, d (x0 + 1) 1))) d) (h12 : (¬ x1 = 0) → (¬ x1 = 1) → (¬ x1 = 2) → (¬ x1 = 3) → (¬ x1 = 4) → (¬ x1 = 5) → (¬ x1 = 6) → (¬ x1 = 7) → (¬ x1 = 8) → (¬ x1 = 9) → (¬ x1 = 10) → (¬ x1 = 11) → (x1 = 12) → (0 ≤ (d (x0 + 64) 2) ∧ (d (x0 + 64) 2) ≤ 99999) → K (.inl (some (0, d (x0 + 64) 2))) d) (h13 : (¬ x1 = 0) → (¬ x1 = 1) → (¬ x1 = 2) → (¬ x1 = 3) → (¬ x1 = 4) → (¬ x1 = 5) → (¬ x1 = 6) → (¬ x1 = 7) → (¬ x1 = 8) → (¬ x1 = 9) → (¬ x1 = 10) → (¬ x1 = 11) → (¬ x1 = 12) → False) : tCall E 411 [.inr (10, x0), .inl (0, x1)] d K := by
  refine t_411_0 ?_
  have w0 : x0 = 0 := hx0
  have w2 := r_6_f2 hS (wbB.nw hx0)
  have w3 := r_3_f0 hS (stB.of (wbB.nw hx0))
  have w4 := r_4_f0 hS (stB.pe (wbB.nw hx0))
  have w5 := r_8_f0 hS (stB.ti (wbB.nw hx0))
  have w6 := r_9_f0 hS (stB.to (wbB.nw hx0))
  have w7 := r_7_f1 hS (wbB.tx hx0)
  refine ⟨m_inR (by omega) (by omega), fun c0 => ?_, fun c0 => ?_, fun c0 => ?_, fun c0 => ?_, fun c0 => ?_, fun c0 => ?_, fun c0 => ?_, fun c0 => ?_, fun c0 => ?_, fun c0 => ?_, fun c0 => ?_, fun c0 => ?_, fun c0 => ?_, fun c0 => ?_⟩
  · have q1 := r_3_f0 hS (stB.of (wbB.nw hx0))
    exact h0 c0 (by omega)
  · have q2 := r_4_f0 hS (stB.pe (wbB.nw hx0))
    exact h1 (show ¬ x1 = 0 by omega) c0 (by omega)
  · have q3 := r_8_f0 hS (stB.ti (wbB.nw hx0))
    exact h2 (show ¬ x1 = 0 by omega) (show ¬ x1 = 1 by omega) c0 (by omega)
  · have q4 := r_6_f2 hS (wbB.nw hx0)
    exact h3 (show ¬ x1 = 0 by omega) (show ¬ x1 = 1 by omega) (show ¬ x1 = 2 by omega) c0 (by omega)
  · have q5 := r_6_f2 hS (wbB.nw hx0)
    refine ⟨by omega, ?_⟩
    exact h4 (show ¬ x1 = 0 by omega) (show ¬ x1 = 1 by omega) (show ¬ x1 = 2 by omega) (show ¬ x1 = 3 by omega) c0 (by omega)
  · refine k_101 hS (stB.ti (wbB.nw hx0)) (m_inR (by omega) (by omega)) (fun e1 => ?_)
    refine t_411_134 ?_
    exact h5 (show ¬ x1 = 0 by omega) (show ¬ x1 = 1 by omega) (show ¬ x1 = 2 by omega) (show ¬ x1 = 3 by omega) (show ¬ x1 = 4 by omega) c0 (by omega)
  · refine k_102 hS (stB.ti (wbB.nw hx0)) (m_inR (by omega) (by omega)) (fun e2 => ?_)
    refine t_411_146 ?_
    exact h6 (show ¬ x1 = 0 by omega) (show ¬ x1 = 1 by omega) (show ¬ x1 = 2 by omega) (show ¬ x1 = 3 by omega) (show ¬ x1 = 4 by omega) (show ¬ x1 = 5 by omega) c0 (by omega)
  · refine k_102 hS (stB.ti (wbB.nw hx0)) (m_inR (by omega) (by omega)) (fun e3 => ?_)
    refine t_411_158 ?_
    exact h7 (show ¬ x1 = 0 by omega) (show ¬ x1 = 1 by omega) (show ¬ x1 = 2 by omega) (show ¬ x1 = 3 by omega) (show ¬ x1 = 4 by omega) (show ¬ x1 = 5 by omega) (show ¬ x1 = 6 by omega) c0 (by omega)
  · have q6 := r_9_f0 hS (stB.to (wbB.nw hx0))
    exact h8 (show ¬ x1 = 0 by omega) (show ¬ x1 = 1 by omega) (show ¬ x1 = 2 by omega) (show ¬ x1 = 3 by omega) (show ¬ x1 = 4 by omega) (show ¬ x1 = 5 by omega) (show ¬ x1 = 6 by omega) (show ¬ x1 = 7 by omega) c0 (by omega)
  · refine k_110 hS (stB.to (wbB.nw hx0)) (m_inR (by omega) (by omega)) (fun e4 => ?_)
    refine t_411_181 ?_
    exact h9 (show ¬ x1 = 0 by omega) (show ¬ x1 = 1 by omega) (show ¬ x1 = 2 by omega) (show ¬ x1 = 3 by omega) (show ¬ x1 = 4 by omega) (show ¬ x1 = 5 by omega) (show ¬ x1 = 6 by omega) (show ¬ x1 = 7 by omega) (show ¬ x1 = 8 by omega) c0 (by omega)
  · refine k_110 hS (stB.to (wbB.nw hx0)) (m_inR (by omega) (by omega)) (fun e5 => ?_)
    refine t_411_193 ?_
    exact h10 (show ¬ x1 = 0 by omega) (show ¬ x1 = 1 by omega) (show ¬ x1 = 2 by omega) (show ¬ x1 = 3 by omega) (show ¬ x1 = 4 by omega) (show ¬ x1 = 5 by omega) (show ¬ x1 = 6 by omega) (show ¬ x1 = 7 by omega) (show ¬ x1 = 8 by omega) (show ¬ x1 = 9 by omega) c0 (by omega)
  · have q7 := r_6_f1 hS (wbB.nw hx0)
    exact h11 (show ¬ x1 = 0 by omega) (show ¬ x1 = 1 by omega) (show ¬ x1 = 2 by omega) (show ¬ x1 = 3 by omega) (show ¬ x1 = 4 by omega) (show ¬ x1 = 5 by omega) (show ¬ x1 = 6 by omega) (show ¬ x1 = 7 by omega) (show ¬ x1 = 8 by omega) (show ¬ x1 = 9 by omega) (show ¬ x1 = 10 by omega) c0 (by omega)
  · have q8 := r_0_f2 hS (wbB.hi hx0)
    exact h12 (show ¬ x1 = 0 by omega) (show ¬ x1 = 1 by omega) (show ¬ x1 = 2 by omega) (show ¬ x1 = 3 by omega) (show ¬ x1 = 4 by omega) (show ¬ x1 = 5 by omega) (show ¬ x1 = 6 by omega) (show ¬ x1 = 7 by omega) (show ¬ x1 = 8 by omega) (show ¬ x1 = 9 by omega) (show ¬ x1 = 10 by omega) (show ¬ x1 = 11 by omega) c0 (by omega)
  · exact h13 (show ¬ x1 = 0 by omega) (show ¬ x1 = 1 by omega) (show ¬ x1 = 2 by omega) (show ¬ x1 = 3 by omega) (show ¬ x1 = 4 by omega) (show ¬ x1 = 5 by omega) (show ¬ x1 = 6 by omega) (show ¬ x1 = 7 by omega) (show ¬ x1 = 8 by omega) (show ¬ x1 = 9 by omega) (show ¬ x1 = 10 by omega) (show ¬ x1 = 11 by omega) (show ¬ x1 = 12 by omega)
theorem t_412_0 {E : mO × tW} {K : tK} {d : mD} {x0 x1 x2 : Int}
  (h : tCall E 417 [.inr (10, x0), .inl (0, x1)] d (tbk E 412 2 [.inr (10, x0), .inl (0, x1), .inl (0, x2)] [] 0 0 K)) :
  tRun E 412 (0, [.inr (10, x0), .inl (0, x1), .inl (0, x2)], [], 0, 0, d) K := tT_run (cut := [0, 5, 128]) 3 _ h
theorem t_412_5 {E : mO × tW} {K : tK} {d : mD} {x0 x1 x2 : Int}
  (h : mInR x2 ∧ (x2 = 0 → (0 ≤ x1 ∧ x1 < 6) ∧ K (.inl (some (0, d (x0 + 1 + 2 + 2) x1))) d) ∧ (x2 = 1 → (0 ≤ x1 ∧ x1 < 6) ∧ K (.inl (some (0, d (x0 + 1 + 2 + 3) x1))) d) ∧ (x2 = 2 → (0 ≤ x1 ∧ x1 < 6) ∧ K (.inl (some (0, d (x0 + 1 + 2 + 4) x1))) d) ∧ (x2 = 3 → (0 ≤ x1 ∧ x1 < 6) ∧ mInR (d (x0 + 1 + 2 + 5) x1) ∧ (d (x0 + 1 + 2 + 5) x1 = 0 → K (.inl (some (0, 0))) d) ∧ (¬ d (x0 + 1 + 2 + 5) x1 = 0 → K (.inl (some (0, 1))) d)) ∧ (x2 = 4 → (0 ≤ x1 ∧ x1 < 6) ∧ K (.inl (some (0, d (x0 + 1 + 2 + 6) x1))) d) ∧ (x2 = 5 → tCall E 103 [.inr (8, x0 + 1 + 49), .inl (0, x1)] d (tbk E 412 125 [.inr (10, x0), .inl (0, x1), .inl (0, x2)] [] 0 0 K)) ∧ (x2 < 0 ∨ 5 < x2 → False)) :
  tRun E 412 (5, [.inr (10, x0), .inl (0, x1), .inl (0, x2)], [], 0, 0, d) K := tT_run (cut := [0, 5, 128]) 12 _ h
theorem t_412_128 {E : mO × tW} {K : tK} {d : mD} {x0 x1 x2 y0 : Int}
  (h : K (.inl (some (0, y0))) d) :
  tRun E 412 (128, [.inr (10, x0), .inl (0, x1), .inl (0, x2)], [.inl (0, y0)], 0, 0, d) K := tT_run (cut := [0, 5, 128]) 1 _ h
theorem k_412 {E : mO × tW} {K : tK} {d : mD} {x0 x1 x2 : Int} (hS : Safe d) (hx0 : wbB x0) (p1 : -2147483648 ≤ x1 ∧ x1 ≤ 2147483647) (p2 : -2147483648 ≤ x2 ∧ x2 ≤ 2147483647) (h0 : (x1 < 0) → False) (h1 : (0 ≤ x1) → (x1 < d (x0 + 1 + 2) 0) → (x2 = 0) → (0 ≤ (d (x0 + 1 + 2 + 2) x1) ∧ (d (x0 + 1 + 2 + 2) x1) ≤ 60) → K (.inl (some (0, d (x0 + 1 + 2 + 2) x1))) d) (h2 : (0 ≤ x1) → (x1 < d (x0 + 1 + 2) 0) → (¬ x2 = 0) → (x2 = 1) → (0 ≤ (d (x0 + 1 + 2 + 3) x1) ∧ (d (x0 + 1 + 2 + 3) x1) ≤ 60) → K (.inl (some (0, d (x0 + 1 + 2 + 3) x1))) d) (h3 : (0 ≤ x1) → (x1 < d (x0 + 1 + 2) 0) → (¬ x2 = 0) → (¬ x2 = 1) → (x2 = 2) → (0 ≤ (d (x0 + 1 + 2 + 4) x1) ∧ (d (x0 + 1 + 2 + 4) x1) ≤ 60) → K (.inl (some (0, d (x0 + 1 + 2 + 4) x1))) d) (h4 : (0 ≤ x1) → (x1 < d (x0 + 1 + 2) 0) → (¬ x2 = 0) → (¬ x2 = 1) → (¬ x2 = 2) → (x2 = 3) → (d (x0 + 1 + 2 + 5) x1 = 0) → (0 ≤ 0 ∧ 0 ≤ 60) → K (.inl (some (0, 0))) d) (h5 : (0 ≤ x1) → (x1 < d (x0 + 1 + 2) 0) → (¬ x2 = 0) → (¬ x2 = 1) → (¬ x2 = 2) → (x2 = 3) → (¬ d (x0 + 1 + 2 + 5) x1 = 0) → (0 ≤ 1 ∧ 1 ≤ 60) → K (.inl (some (0, 1))) d) (h6 : (0 ≤ x1) → (x1 < d (x0 + 1 + 2) 0) → (¬ x2 = 0) → (¬ x2 = 1) → (¬ x2 = 2) → (¬ x2 = 3) → (x2 = 4) → (0 ≤ (d (x0 + 1 + 2 + 6) x1) ∧ (d (x0 + 1 + 2 + 6) x1) ≤ 60) → K (.inl (some (0, d (x0 + 1 + 2 + 6) x1))) d) (h7 : (0 ≤ x1) → (x1 < d (x0 + 1 + 2) 0) → (¬ x2 = 0) → (¬ x2 = 1) → (¬ x2 = 2) → (¬ x2 = 3) → (¬ x2 = 4) → (x2 = 5) → (0 ≤ (v_103 (x0 + 1 + 49) x1 d) ∧ (v_103 (x0 + 1 + 49) x1 d) ≤ 60) → K (.inl (some (0, v_103 (x0 + 1 + 49) x1 d))) d) (h8 : (0 ≤ x1) → (x1 < d (x0 + 1 + 2) 0) → (¬ x2 = 0) → (¬ x2 = 1) → (¬ x2 = 2) → (¬ x2 = 3) → (¬ x2 = 4) → (¬ x2 = 5) → False) (h9 : (0 ≤ x1) → (d (x0 + 1 + 2) 0 ≤ x1) → False) : tCall E 412 [.inr (10, x0), .inl (0, x1), .inl (0, x2)] d K := by
  refine t_412_0 ?_
  have w0 : x0 = 0 := hx0
  have w2 := r_6_f2 hS (wbB.nw hx0)
  have w3 := r_3_f0 hS (stB.of (wbB.nw hx0))
  have w4 := r_4_f0 hS (stB.pe (wbB.nw hx0))
  have w5 := r_8_f0 hS (stB.ti (wbB.nw hx0))
  have w6 := r_9_f0 hS (stB.to (wbB.nw hx0))
  have w7 := r_7_f1 hS (wbB.tx hx0)
  refine k_417 hS hx0 (m_inR (by omega) (by omega)) (fun z0 => ?_) (fun z0 z1 => ?_) (fun z0 z1 => ?_)
  · exact h0 z0
  · refine t_412_5 ?_
    refine ⟨m_inR (by omega) (by omega), fun c2 => ?_, fun c2 => ?_, fun c2 => ?_, fun c2 => ?_, fun c2 => ?_, fun c2 => ?_, fun c2 => ?_⟩
    · have q1 := r_3_2 hS (stB.of (wbB.nw hx0)) x1
      refine ⟨by omega, ?_⟩
      exact h1 z0 z1 c2 (by omega)
    · have q2 := r_3_3 hS (stB.of (wbB.nw hx0)) x1
      refine ⟨by omega, ?_⟩
      exact h2 z0 z1 (show ¬ x2 = 0 by omega) c2 (by omega)
    · have q3 := r_3_4 hS (stB.of (wbB.nw hx0)) x1
      refine ⟨by omega, ?_⟩
      exact h3 z0 z1 (show ¬ x2 = 0 by omega) (show ¬ x2 = 1 by omega) c2 (by omega)
    · have q4 := r_3_5 hS (stB.of (wbB.nw hx0)) x1
      refine ⟨by omega, m_inR (by omega) (by omega), fun c6 => ?_, fun c6 => ?_⟩
      · exact h4 z0 z1 (show ¬ x2 = 0 by omega) (show ¬ x2 = 1 by omega) (show ¬ x2 = 2 by omega) c2 c6 (by omega)
      · exact h5 z0 z1 (show ¬ x2 = 0 by omega) (show ¬ x2 = 1 by omega) (show ¬ x2 = 2 by omega) c2 c6 (by omega)
    · have q5 := r_3_6 hS (stB.of (wbB.nw hx0)) x1
      refine ⟨by omega, ?_⟩
      exact h6 z0 z1 (show ¬ x2 = 0 by omega) (show ¬ x2 = 1 by omega) (show ¬ x2 = 2 by omega) (show ¬ x2 = 3 by omega) c2 (by omega)
    · refine k_103 hS (stB.ti (wbB.nw hx0)) (m_inR (by omega) (by omega)) (fun e1 => ?_)
      refine t_412_128 ?_
      exact h7 z0 z1 (show ¬ x2 = 0 by omega) (show ¬ x2 = 1 by omega) (show ¬ x2 = 2 by omega) (show ¬ x2 = 3 by omega) (show ¬ x2 = 4 by omega) c2 (by omega)
    · exact h8 z0 z1 (show ¬ x2 = 0 by omega) (show ¬ x2 = 1 by omega) (show ¬ x2 = 2 by omega) (show ¬ x2 = 3 by omega) (show ¬ x2 = 4 by omega) (show ¬ x2 = 5 by omega)
  · exact h9 z0 z1
theorem t_413_0 {E : mO × tW} {K : tK} {d : mD} {x0 x1 x2 : Int}
  (h : tCall E 417 [.inr (10, x0), .inl (0, x1)] d (tbk E 413 2 [.inr (10, x0), .inl (0, x1), .inl (0, x2)] [] 0 0 K)) :
  tRun E 413 (0, [.inr (10, x0), .inl (0, x1), .inl (0, x2)], [], 0, 0, d) K := tT_run (cut := [0, 5, 47]) 3 _ h
theorem t_413_5 {E : mO × tW} {K : tK} {d : mD} {x0 x1 x2 : Int}
  (h : mInR x2 ∧ (x2 < 0 → False) ∧ (0 ≤ x2 → (0 ≤ x1 ∧ x1 < 6) ∧ (mInR x2 ∧ mInR (d (x0 + 1 + 2 + 6) x1)) ∧ (x2 < d (x0 + 1 + 2 + 6) x1 → tCall E 38 [.inr (3, x0 + 1 + 2), .inl (0, x1), .inl (0, x2)] d (tbk E 413 44 [.inr (10, x0), .inl (0, x1), .inl (0, x2)] [] 0 0 K)) ∧ (d (x0 + 1 + 2 + 6) x1 ≤ x2 → False))) :
  tRun E 413 (5, [.inr (10, x0), .inl (0, x1), .inl (0, x2)], [], 0, 0, d) K := tT_run (cut := [0, 5, 47]) 16 _ h
theorem t_413_47 {E : mO × tW} {K : tK} {d : mD} {x0 x1 x2 y0 : Int}
  (h : K (.inl (some (0, y0))) d) :
  tRun E 413 (47, [.inr (10, x0), .inl (0, x1), .inl (0, x2)], [.inl (0, y0)], 0, 0, d) K := tT_run (cut := [0, 5, 47]) 1 _ h
theorem k_413 {E : mO × tW} {K : tK} {d : mD} {x0 x1 x2 : Int} (hS : Safe d) (hx0 : wbB x0) (p1 : -2147483648 ≤ x1 ∧ x1 ≤ 2147483647) (p2 : -2147483648 ≤ x2 ∧ x2 ≤ 2147483647) (h0 : (x1 < 0) → False) (h1 : (0 ≤ x1) → (x1 < d (x0 + 1 + 2) 0) → (x2 < 0) → False) (h2 : (0 ≤ x1) → (x1 < d (x0 + 1 + 2) 0) → (0 ≤ x2) → (x2 < d (x0 + 1 + 2 + 6) x1) → (0 ≤ (v_38 (x0 + 1 + 2) x1 x2 d) ∧ (v_38 (x0 + 1 + 2) x1 x2 d) ≤ 59) → K (.inl (some (0, v_38 (x0 + 1 + 2) x1 x2 d))) d) (h3 : (0 ≤ x1) → (x1 < d (x0 + 1 + 2) 0) → (0 ≤ x2) → (d (x0 + 1 + 2 + 6) x1 ≤ x2) → False) (h4 : (0 ≤ x1) → (d (x0 + 1 + 2) 0 ≤ x1) → False) : tCall E 413 [.inr (10, x0), .inl (0, x1), .inl (0, x2)] d K := by
  refine t_413_0 ?_
  have w0 : x0 = 0 := hx0
  have w2 := r_6_f2 hS (wbB.nw hx0)
  have w3 := r_3_f0 hS (stB.of (wbB.nw hx0))
  have w4 := r_4_f0 hS (stB.pe (wbB.nw hx0))
  have w5 := r_8_f0 hS (stB.ti (wbB.nw hx0))
  have w6 := r_9_f0 hS (stB.to (wbB.nw hx0))
  have w7 := r_7_f1 hS (wbB.tx hx0)
  refine k_417 hS hx0 (m_inR (by omega) (by omega)) (fun z0 => ?_) (fun z0 z1 => ?_) (fun z0 z1 => ?_)
  · exact h0 z0
  · refine t_413_5 ?_
    refine ⟨m_inR (by omega) (by omega), fun c2 => ?_, fun c2 => ?_⟩
    · exact h1 z0 z1 c2
    · have q1 := r_3_6 hS (stB.of (wbB.nw hx0)) x1
      refine ⟨by omega, ⟨m_inR (by omega) (by omega), m_inR (by omega) (by omega)⟩, fun c3 => ?_, fun c3 => ?_⟩
      · refine k_38 hS (stB.of (wbB.nw hx0)) (by omega) (by omega) (fun e1 => ?_)
        refine t_413_47 ?_
        exact h2 z0 z1 c2 c3 (by omega)
      · exact h3 z0 z1 c2 c3
  · exact h4 z0 z1
theorem t_414_0 {E : mO × tW} {K : tK} {d : mD} {x0 x1 x2 : Int}
  (h : tCall E 418 [.inr (10, x0), .inl (0, x1)] d (tbk E 414 2 [.inr (10, x0), .inl (0, x1), .inl (0, x2)] [] 0 0 K)) :
  tRun E 414 (0, [.inr (10, x0), .inl (0, x1), .inl (0, x2)], [], 0, 0, d) K := tT_run (cut := [0, 5, 84, 96, 109, 122, 135, 144, 183, 202]) 3 _ h
theorem t_414_5 {E : mO × tW} {K : tK} {d : mD} {x0 x1 x2 : Int}
  (h : mInR x2 ∧ (x2 = 0 → (0 ≤ x1 ∧ x1 < 16) ∧ K (.inl (some (0, d (x0 + 1 + 10 + 2) x1))) d) ∧ (x2 = 1 → tCall E 104 [.inr (8, x0 + 1 + 49), .inl (0, x1)] d (tbk E 414 81 [.inr (10, x0), .inl (0, x1), .inl (0, x2)] [] 0 0 K)) ∧ (x2 = 2 → tCall E 105 [.inr (8, x0 + 1 + 49), .inl (0, x1)] d (tbk E 414 93 [.inr (10, x0), .inl (0, x1), .inl (0, x2)] [] 0 0 K)) ∧ (x2 = 3 → tCall E 111 [.inr (9, x0 + 1 + 57), .inl (0, x1), .inl (0, 0)] d (tbk E 414 106 [.inr (10, x0), .inl (0, x1), .inl (0, x2)] [] 0 0 K)) ∧ (x2 = 4 → tCall E 111 [.inr (9, x0 + 1 + 57), .inl (0, x1), .inl (0, 1)] d (tbk E 414 119 [.inr (10, x0), .inl (0, x1), .inl (0, x2)] [] 0 0 K)) ∧ (x2 = 5 → tCall E 111 [.inr (9, x0 + 1 + 57), .inl (0, x1), .inl (0, 2)] d (tbk E 414 132 [.inr (10, x0), .inl (0, x1), .inl (0, x2)] [] 0 0 K)) ∧ (x2 = 6 → tCall E 83 [.inr (6, x0 + 1), .inl (0, x1)] d (tbk E 414 141 [.inr (10, x0), .inl (0, x1), .inl (0, x2)] [] 0 0 K)) ∧ (x2 = 7 → (0 ≤ x1 ∧ x1 < 16) ∧ K (.inl (some (0, d (x0 + 1 + 10 + 3) x1))) d) ∧ (x2 = 8 → (0 ≤ x1 ∧ x1 < 16) ∧ K (.inl (some (0, d (x0 + 1 + 10 + 4) x1))) d) ∧ (x2 = 9 → tCall E 72 [.inr (6, x0 + 1), .inl (0, x1), .inr (1, x0 + 574)] d (tbk E 414 180 [.inr (10, x0), .inl (0, x1), .inl (0, x2)] [] 0 0 K)) ∧ (x2 < 0 ∨ 9 < x2 → False)) :
  tRun E 414 (5, [.inr (10, x0), .inl (0, x1), .inl (0, x2)], [], 0, 0, d) K := tT_run (cut := [0, 5, 84, 96, 109, 122, 135, 144, 183, 202]) 9 _ h
theorem t_414_84 {E : mO × tW} {K : tK} {d : mD} {x0 x1 x2 y0 : Int}
  (h : K (.inl (some (0, y0))) d) :
  tRun E 414 (84, [.inr (10, x0), .inl (0, x1), .inl (0, x2)], [.inl (0, y0)], 0, 0, d) K := tT_run (cut := [0, 5, 84, 96, 109, 122, 135, 144, 183, 202]) 1 _ h
theorem t_414_96 {E : mO × tW} {K : tK} {d : mD} {x0 x1 x2 y0 : Int}
  (h : K (.inl (some (0, y0))) d) :
  tRun E 414 (96, [.inr (10, x0), .inl (0, x1), .inl (0, x2)], [.inl (0, y0)], 0, 0, d) K := tT_run (cut := [0, 5, 84, 96, 109, 122, 135, 144, 183, 202]) 1 _ h
theorem t_414_109 {E : mO × tW} {K : tK} {d : mD} {x0 x1 x2 y0 : Int}
  (h : K (.inl (some (0, y0))) d) :
  tRun E 414 (109, [.inr (10, x0), .inl (0, x1), .inl (0, x2)], [.inl (0, y0)], 0, 0, d) K := tT_run (cut := [0, 5, 84, 96, 109, 122, 135, 144, 183, 202]) 1 _ h
theorem t_414_122 {E : mO × tW} {K : tK} {d : mD} {x0 x1 x2 y0 : Int}
  (h : K (.inl (some (0, y0))) d) :
  tRun E 414 (122, [.inr (10, x0), .inl (0, x1), .inl (0, x2)], [.inl (0, y0)], 0, 0, d) K := tT_run (cut := [0, 5, 84, 96, 109, 122, 135, 144, 183, 202]) 1 _ h
theorem t_414_135 {E : mO × tW} {K : tK} {d : mD} {x0 x1 x2 y0 : Int}
  (h : K (.inl (some (0, y0))) d) :
  tRun E 414 (135, [.inr (10, x0), .inl (0, x1), .inl (0, x2)], [.inl (0, y0)], 0, 0, d) K := tT_run (cut := [0, 5, 84, 96, 109, 122, 135, 144, 183, 202]) 1 _ h
theorem t_414_144 {E : mO × tW} {K : tK} {d : mD} {x0 x1 x2 y0 : Int}
  (h : K (.inl (some (0, y0))) d) :
  tRun E 414 (144, [.inr (10, x0), .inl (0, x1), .inl (0, x2)], [.inl (0, y0)], 0, 0, d) K := tT_run (cut := [0, 5, 84, 96, 109, 122, 135, 144, 183, 202]) 1 _ h
theorem t_414_183 {E : mO × tW} {K : tK} {d : mD} {x0 x1 x2 : Int}
  (h : (0 ≤ x1 ∧ x1 < 16) ∧ tCall E 10 [.inr (1, x0 + 574), .inr (1, x0 + 1 + 10 + 6 + (1 + 2 * x1))] d (tbk E 414 199 [.inr (10, x0), .inl (0, x1), .inl (0, x2)] [] 0 0 K)) :
  tRun E 414 (183, [.inr (10, x0), .inl (0, x1), .inl (0, x2)], [], 0, 0, d) K := tT_run (cut := [0, 5, 84, 96, 109, 122, 135, 144, 183, 202]) 9 _ h
theorem t_414_202 {E : mO × tW} {K : tK} {d : mD} {x0 x1 x2 y0 : Int}
  (h : K (.inl (some (0, y0))) d) :
  tRun E 414 (202, [.inr (10, x0), .inl (0, x1), .inl (0, x2)], [.inl (0, y0)], 0, 0, d) K := tT_run (cut := [0, 5, 84, 96, 109, 122, 135, 144, 183, 202]) 1 _ h
theorem k_414 {E : mO × tW} {K : tK} {d : mD} {x0 x1 x2 : Int} (hS : Safe d) (hx0 : wbB x0) (p1 : -2147483648 ≤ x1 ∧ x1 ≤ 2147483647) (p2 : -2147483648 ≤ x2 ∧ x2 ≤ 2147483647) (hpu : puR x0 x1 d) (h0 : (x1 < 0) → False) (h1 : (0 ≤ x1) → (x1 < d (x0 + 1 + 10) 0) → (x2 = 0) → (-2147483648 ≤ (d (x0 + 1 + 10 + 2) x1) ∧ (d (x0 + 1 + 10 + 2) x1) ≤ 2147483647) → K (.inl (some (0, d (x0 + 1 + 10 + 2) x1))) d) (h2 : (0 ≤ x1) → (x1 < d (x0 + 1 + 10) 0) → (¬ x2 = 0) → (x2 = 1) → (-2147483648 ≤ (v_104 (x0 + 1 + 49) x1 d) ∧ (v_104 (x0 + 1 + 49) x1 d) ≤ 2147483647) → K (.inl (some (0, v_104 (x0 + 1 + 49) x1 d))) d) (h3 : (0 ≤ x1) → (x1 < d (x0 + 1 + 10) 0) → (¬ x2 = 0) → (¬ x2 = 1) → (x2 = 2) → (-2147483648 ≤ (v_105 (x0 + 1 + 49) x1 d) ∧ (v_105 (x0 + 1 + 49) x1 d) ≤ 2147483647) → K (.inl (some (0, v_105 (x0 + 1 + 49) x1 d))) d) (h4 : (0 ≤ x1) → (x1 < d (x0 + 1 + 10) 0) → (¬ x2 = 0) → (¬ x2 = 1) → (¬ x2 = 2) → (x2 = 3) → (-2147483648 ≤ (v_111 (x0 + 1 + 57) x1 0 d) ∧ (v_111 (x0 + 1 + 57) x1 0 d) ≤ 2147483647) → K (.inl (some (0, v_111 (x0 + 1 + 57) x1 0 d))) d) (h5 : (0 ≤ x1) → (x1 < d (x0 + 1 + 10) 0) → (¬ x2 = 0) → (¬ x2 = 1) → (¬ x2 = 2) → (¬ x2 = 3) → (x2 = 4) → (-2147483648 ≤ (v_111 (x0 + 1 + 57) x1 1 d) ∧ (v_111 (x0 + 1 + 57) x1 1 d) ≤ 2147483647) → K (.inl (some (0, v_111 (x0 + 1 + 57) x1 1 d))) d) (h6 : (0 ≤ x1) → (x1 < d (x0 + 1 + 10) 0) → (¬ x2 = 0) → (¬ x2 = 1) → (¬ x2 = 2) → (¬ x2 = 3) → (¬ x2 = 4) → (x2 = 5) → (-2147483648 ≤ (v_111 (x0 + 1 + 57) x1 2 d) ∧ (v_111 (x0 + 1 + 57) x1 2 d) ≤ 2147483647) → K (.inl (some (0, v_111 (x0 + 1 + 57) x1 2 d))) d) (h7 : (0 ≤ x1) → (x1 < d (x0 + 1 + 10) 0) → (¬ x2 = 0) → (¬ x2 = 1) → (¬ x2 = 2) → (¬ x2 = 3) → (¬ x2 = 4) → (¬ x2 = 5) → (x2 = 6) → (-2147483648 ≤ (v_83 (x0 + 1) x1 d) ∧ (v_83 (x0 + 1) x1 d) ≤ 2147483647) → K (.inl (some (0, v_83 (x0 + 1) x1 d))) d) (h8 : (0 ≤ x1) → (x1 < d (x0 + 1 + 10) 0) → (¬ x2 = 0) → (¬ x2 = 1) → (¬ x2 = 2) → (¬ x2 = 3) → (¬ x2 = 4) → (¬ x2 = 5) → (¬ x2 = 6) → (x2 = 7) → (-2147483648 ≤ (d (x0 + 1 + 10 + 3) x1) ∧ (d (x0 + 1 + 10 + 3) x1) ≤ 2147483647) → K (.inl (some (0, d (x0 + 1 + 10 + 3) x1))) d) (h9 : (0 ≤ x1) → (x1 < d (x0 + 1 + 10) 0) → (¬ x2 = 0) → (¬ x2 = 1) → (¬ x2 = 2) → (¬ x2 = 3) → (¬ x2 = 4) → (¬ x2 = 5) → (¬ x2 = 6) → (¬ x2 = 7) → (x2 = 8) → (-2147483648 ≤ (d (x0 + 1 + 10 + 4) x1) ∧ (d (x0 + 1 + 10 + 4) x1) ≤ 2147483647) → K (.inl (some (0, d (x0 + 1 + 10 + 4) x1))) d) (h10 : (0 ≤ x1) → (x1 < d (x0 + 1 + 10) 0) → (¬ x2 = 0) → (¬ x2 = 1) → (¬ x2 = 2) → (¬ x2 = 3) → (¬ x2 = 4) → (¬ x2 = 5) → (¬ x2 = 6) → (¬ x2 = 7) → (¬ x2 = 8) → (x2 = 9) → (-2147483648 ≤ (v_10 (x0 + 574) (x0 + 1 + 10 + 6 + (1 + 2 * x1)) (g_72 (x0 + 1) x1 (x0 + 574) d)) ∧ (v_10 (x0 + 574) (x0 + 1 + 10 + 6 + (1 + 2 * x1)) (g_72 (x0 + 1) x1 (x0 + 574) d)) ≤ 2147483647) → (∀ b : Int, (b < x0 + 575 ∨ x0 + 575 < b) → (g_72 (x0 + 1) x1 (x0 + 574) d) b = d b) → Safe (g_72 (x0 + 1) x1 (x0 + 574) d) → K (.inl (some (0, v_10 (x0 + 574) (x0 + 1 + 10 + 6 + (1 + 2 * x1)) (g_72 (x0 + 1) x1 (x0 + 574) d)))) (g_72 (x0 + 1) x1 (x0 + 574) d)) (h11 : (0 ≤ x1) → (x1 < d (x0 + 1 + 10) 0) → (¬ x2 = 0) → (¬ x2 = 1) → (¬ x2 = 2) → (¬ x2 = 3) → (¬ x2 = 4) → (¬ x2 = 5) → (¬ x2 = 6) → (¬ x2 = 7) → (¬ x2 = 8) → (¬ x2 = 9) → False) (h12 : (0 ≤ x1) → (d (x0 + 1 + 10) 0 ≤ x1) → False) : tCall E 414 [.inr (10, x0), .inl (0, x1), .inl (0, x2)] d K := by
  refine t_414_0 ?_
  have w0 : x0 = 0 := hx0
  have w2 := r_6_f2 hS (wbB.nw hx0)
  have w3 := r_3_f0 hS (stB.of (wbB.nw hx0))
  have w4 := r_4_f0 hS (stB.pe (wbB.nw hx0))
  have w5 := r_8_f0 hS (stB.ti (wbB.nw hx0))
  have w6 := r_9_f0 hS (stB.to (wbB.nw hx0))
  have w7 := r_7_f1 hS (wbB.tx hx0)
  refine k_418 hS hx0 (m_inR (by omega) (by omega)) (fun z0 => ?_) (fun z0 z1 => ?_) (fun z0 z1 => ?_)
  · exact h0 z0
  · refine t_414_5 ?_
    refine ⟨m_inR (by omega) (by omega), fun c2 => ?_, fun c2 => ?_, fun c2 => ?_, fun c2 => ?_, fun c2 => ?_, fun c2 => ?_, fun c2 => ?_, fun c2 => ?_, fun c2 => ?_, fun c2 => ?_, fun c2 => ?_⟩
    · refine ⟨by omega, ?_⟩
      exact h1 z0 z1 c2 (by first | exact puR.use hpu z0 z1 | exact ⟨by omega, by omega⟩)
    · refine k_104 hS (stB.ti (wbB.nw hx0)) (m_inR (by omega) (by omega)) (fun e1 => ?_)
      refine t_414_84 ?_
      exact h2 z0 z1 (show ¬ x2 = 0 by omega) c2 (by first | exact puR.use hpu z0 z1 | exact ⟨by omega, by omega⟩)
    · refine k_105 hS (stB.ti (wbB.nw hx0)) (m_inR (by omega) (by omega)) (fun e2 => ?_)
      refine t_414_96 ?_
      exact h3 z0 z1 (show ¬ x2 = 0 by omega) (show ¬ x2 = 1 by omega) c2 (by first | exact puR.use hpu z0 z1 | exact ⟨by omega, by omega⟩)
    · refine k_111 hS (stB.to (wbB.nw hx0)) (m_inR (by omega) (by omega)) (m_inR (by omega) (by omega)) (fun e3 => ?_)
      refine t_414_109 ?_
      exact h4 z0 z1 (show ¬ x2 = 0 by omega) (show ¬ x2 = 1 by omega) (show ¬ x2 = 2 by omega) c2 (by first | exact puR.use hpu z0 z1 | exact ⟨by omega, by omega⟩)
    · refine k_111 hS (stB.to (wbB.nw hx0)) (m_inR (by omega) (by omega)) (m_inR (by omega) (by omega)) (fun e4 => ?_)
      refine t_414_122 ?_
      exact h5 z0 z1 (show ¬ x2 = 0 by omega) (show ¬ x2 = 1 by omega) (show ¬ x2 = 2 by omega) (show ¬ x2 = 3 by omega) c2 (by first | exact puR.use hpu z0 z1 | exact ⟨by omega, by omega⟩)
    · refine k_111 hS (stB.to (wbB.nw hx0)) (m_inR (by omega) (by omega)) (m_inR (by omega) (by omega)) (fun e5 => ?_)
      refine t_414_135 ?_
      exact h6 z0 z1 (show ¬ x2 = 0 by omega) (show ¬ x2 = 1 by omega) (show ¬ x2 = 2 by omega) (show ¬ x2 = 3 by omega) (show ¬ x2 = 4 by omega) c2 (by first | exact puR.use hpu z0 z1 | exact ⟨by omega, by omega⟩)
    · refine k_83 hS (wbB.nw hx0) (m_inR (by omega) (by omega)) (fun e6 => ?_)
      refine t_414_144 ?_
      exact h7 z0 z1 (show ¬ x2 = 0 by omega) (show ¬ x2 = 1 by omega) (show ¬ x2 = 2 by omega) (show ¬ x2 = 3 by omega) (show ¬ x2 = 4 by omega) (show ¬ x2 = 5 by omega) c2 (by first | exact puR.use hpu z0 z1 | exact ⟨by omega, by omega⟩)
    · have q1 := r_4_3 hS (stB.pe (wbB.nw hx0)) x1
      refine ⟨by omega, ?_⟩
      exact h8 z0 z1 (show ¬ x2 = 0 by omega) (show ¬ x2 = 1 by omega) (show ¬ x2 = 2 by omega) (show ¬ x2 = 3 by omega) (show ¬ x2 = 4 by omega) (show ¬ x2 = 5 by omega) (show ¬ x2 = 6 by omega) c2 (by first | exact puR.use hpu z0 z1 | exact ⟨by omega, by omega⟩)
    · have q2 := r_4_4 hS (stB.pe (wbB.nw hx0)) x1
      refine ⟨by omega, ?_⟩
      exact h9 z0 z1 (show ¬ x2 = 0 by omega) (show ¬ x2 = 1 by omega) (show ¬ x2 = 2 by omega) (show ¬ x2 = 3 by omega) (show ¬ x2 = 4 by omega) (show ¬ x2 = 5 by omega) (show ¬ x2 = 6 by omega) (show ¬ x2 = 7 by omega) c2 (by first | exact puR.use hpu z0 z1 | exact ⟨by omega, by omega⟩)
    · refine k_72 hS (wbB.nw hx0) (wbB.lo hx0) (m_inR (by omega) (by omega)) (fun F1 hS1 => ?_)
      refine t_414_183 ?_
      refine ⟨by omega, ?_⟩
      have hp2 : hsB (x0 + 1 + 10 + 6 + (1 + 2 * x1)) := peB.hs (stB.pe (wbB.nw hx0)) (by omega) (by omega)
      refine k_10 hS1 (wbB.lo hx0) hp2 (fun e7 => ?_)
      refine t_414_202 ?_
      exact h10 z0 z1 (show ¬ x2 = 0 by omega) (show ¬ x2 = 1 by omega) (show ¬ x2 = 2 by omega) (show ¬ x2 = 3 by omega) (show ¬ x2 = 4 by omega) (show ¬ x2 = 5 by omega) (show ¬ x2 = 6 by omega) (show ¬ x2 = 7 by omega) (show ¬ x2 = 8 by omega) c2 (by first | exact puR.use hpu z0 z1 | exact ⟨by omega, by omega⟩) (fun b hb => F1 b (by omega)) hS1
    · exact h11 z0 z1 (show ¬ x2 = 0 by omega) (show ¬ x2 = 1 by omega) (show ¬ x2 = 2 by omega) (show ¬ x2 = 3 by omega) (show ¬ x2 = 4 by omega) (show ¬ x2 = 5 by omega) (show ¬ x2 = 6 by omega) (show ¬ x2 = 7 by omega) (show ¬ x2 = 8 by omega) (show ¬ x2 = 9 by omega)
  · exact h12 z0 z1
theorem t_415_0 {E : mO × tW} {K : tK} {d : mD} {x0 x1 x2 : Int}
  (h : tCall E 419 [.inr (10, x0), .inl (0, x1)] d (tbk E 415 2 [.inr (10, x0), .inl (0, x1), .inl (0, x2), tu] [] 0 0 K)) :
  tRun E 415 (0, [.inr (10, x0), .inl (0, x1), .inl (0, x2), tu], [], 0, 0, d) K := tT_run (cut := [0, 5, 147, 156, 168, 186]) 3 _ h
theorem t_415_5 {E : mO × tW} {K : tK} {d : mD} {x0 x1 x2 : Int}
  (h : mInR x2 ∧ (x2 = 0 → (0 ≤ x1 ∧ x1 < 60) ∧ K (.inl (some (0, d (x0 + 1 + 49 + 1) x1))) d) ∧ (x2 = 1 → (0 ≤ x1 ∧ x1 < 60) ∧ K (.inl (some (0, d (x0 + 1 + 49 + 2) x1))) d) ∧ (x2 = 2 → (0 ≤ x1 ∧ x1 < 60) ∧ K (.inl (some (0, d (x0 + 1 + 49 + 3) x1))) d) ∧ (x2 = 3 → (0 ≤ x1 ∧ x1 < 60) ∧ K (.inl (some (0, d (x0 + 1 + 49 + 4) x1))) d) ∧ (x2 = 4 → (0 ≤ x1 ∧ x1 < 60) ∧ K (.inl (some (0, d (x0 + 1 + 49 + 5) x1))) d) ∧ (x2 = 5 → (0 ≤ x1 ∧ x1 < 60) ∧ mInR (d (x0 + 1 + 49 + 6) x1) ∧ (¬ d (x0 + 1 + 49 + 6) x1 = 0 → K (.inl (some (0, 1))) d) ∧ (d (x0 + 1 + 49 + 6) x1 = 0 → K (.inl (some (0, 0))) d)) ∧ (x2 = 6 → (0 ≤ x1 ∧ x1 < 60) ∧ (mInR (d (x0 + 1 + 49 + 6) x1) ∧ mInR 2) ∧ (¬ d (x0 + 1 + 49 + 6) x1 = 2 → K (.inl (some (0, 0))) d) ∧ (d (x0 + 1 + 49 + 6) x1 = 2 → K (.inl (some (0, 1))) d)) ∧ (x2 = 7 → (0 ≤ x1 ∧ x1 < 60) ∧ tCall E 298 [.inl (0, d (x0 + 1 + 49 + 7) x1)] d (tbk E 415 144 [.inr (10, x0), .inl (0, x1), .inl (0, x2), .inr (8, x0 + 1 + 49)] [] 0 0 K)) ∧ (x2 = 8 → tCall E 71 [.inr (6, x0 + 1), .inl (0, x1)] d (tbk E 415 153 [.inr (10, x0), .inl (0, x1), .inl (0, x2), .inr (8, x0 + 1 + 49)] [] 0 0 K)) ∧ (x2 = 9 → tCall E 112 [.inr (9, x0 + 1 + 57), .inl (0, x1)] d (tbk E 415 165 [.inr (10, x0), .inl (0, x1), .inl (0, x2), .inr (8, x0 + 1 + 49)] [] 0 0 K)) ∧ (x2 = 10 → (0 ≤ x1 ∧ x1 < 60) ∧ tCall E 39 [.inr (3, x0 + 1 + 2), .inl (0, d (x0 + 1 + 49 + 2) x1), .inl (0, x1)] d (tbk E 415 183 [.inr (10, x0), .inl (0, x1), .inl (0, x2), .inr (8, x0 + 1 + 49)] [] 0 0 K)) ∧ (x2 < 0 ∨ 10 < x2 → False)) :
  tRun E 415 (5, [.inr (10, x0), .inl (0, x1), .inl (0, x2), tu], [], 0, 0, d) K := tT_run (cut := [0, 5, 147, 156, 168, 186]) 15 _ h
theorem t_415_147 {E : mO × tW} {K : tK} {d : mD} {x0 x1 x2 x3 y0 : Int}
  (h : K (.inl (some (0, y0))) d) :
  tRun E 415 (147, [.inr (10, x0), .inl (0, x1), .inl (0, x2), .inr (8, x3)], [.inl (0, y0)], 0, 0, d) K := tT_run (cut := [0, 5, 147, 156, 168, 186]) 1 _ h
theorem t_415_156 {E : mO × tW} {K : tK} {d : mD} {x0 x1 x2 x3 y0 : Int}
  (h : K (.inl (some (0, y0))) d) :
  tRun E 415 (156, [.inr (10, x0), .inl (0, x1), .inl (0, x2), .inr (8, x3)], [.inl (0, y0)], 0, 0, d) K := tT_run (cut := [0, 5, 147, 156, 168, 186]) 1 _ h
theorem t_415_168 {E : mO × tW} {K : tK} {d : mD} {x0 x1 x2 x3 y0 : Int}
  (h : K (.inl (some (0, y0))) d) :
  tRun E 415 (168, [.inr (10, x0), .inl (0, x1), .inl (0, x2), .inr (8, x3)], [.inl (0, y0)], 0, 0, d) K := tT_run (cut := [0, 5, 147, 156, 168, 186]) 1 _ h
theorem t_415_186 {E : mO × tW} {K : tK} {d : mD} {x0 x1 x2 x3 y0 : Int}
  (h : K (.inl (some (0, y0))) d) :
  tRun E 415 (186, [.inr (10, x0), .inl (0, x1), .inl (0, x2), .inr (8, x3)], [.inl (0, y0)], 0, 0, d) K := tT_run (cut := [0, 5, 147, 156, 168, 186]) 1 _ h
theorem k_415 {E : mO × tW} {K : tK} {d : mD} {x0 x1 x2 : Int} (hS : Safe d) (hx0 : wbB x0) (p1 : -2147483648 ≤ x1 ∧ x1 ≤ 2147483647) (p2 : -2147483648 ≤ x2 ∧ x2 ≤ 2147483647) (h0 : (x1 < 0) → False) (h1 : (0 ≤ x1) → (x1 < d (x0 + 1 + 49) 0) → (x2 = 0) → (-1 ≤ (d (x0 + 1 + 49 + 1) x1) ∧ (d (x0 + 1 + 49 + 1) x1) ≤ 1199) → K (.inl (some (0, d (x0 + 1 + 49 + 1) x1))) d) (h2 : (0 ≤ x1) → (x1 < d (x0 + 1 + 49) 0) → (¬ x2 = 0) → (x2 = 1) → (-1 ≤ (d (x0 + 1 + 49 + 2) x1) ∧ (d (x0 + 1 + 49 + 2) x1) ≤ 1199) → K (.inl (some (0, d (x0 + 1 + 49 + 2) x1))) d) (h3 : (0 ≤ x1) → (x1 < d (x0 + 1 + 49) 0) → (¬ x2 = 0) → (¬ x2 = 1) → (x2 = 2) → (-1 ≤ (d (x0 + 1 + 49 + 3) x1) ∧ (d (x0 + 1 + 49 + 3) x1) ≤ 1199) → K (.inl (some (0, d (x0 + 1 + 49 + 3) x1))) d) (h4 : (0 ≤ x1) → (x1 < d (x0 + 1 + 49) 0) → (¬ x2 = 0) → (¬ x2 = 1) → (¬ x2 = 2) → (x2 = 3) → (-1 ≤ (d (x0 + 1 + 49 + 4) x1) ∧ (d (x0 + 1 + 49 + 4) x1) ≤ 1199) → K (.inl (some (0, d (x0 + 1 + 49 + 4) x1))) d) (h5 : (0 ≤ x1) → (x1 < d (x0 + 1 + 49) 0) → (¬ x2 = 0) → (¬ x2 = 1) → (¬ x2 = 2) → (¬ x2 = 3) → (x2 = 4) → (-1 ≤ (d (x0 + 1 + 49 + 5) x1) ∧ (d (x0 + 1 + 49 + 5) x1) ≤ 1199) → K (.inl (some (0, d (x0 + 1 + 49 + 5) x1))) d) (h6 : (0 ≤ x1) → (x1 < d (x0 + 1 + 49) 0) → (¬ x2 = 0) → (¬ x2 = 1) → (¬ x2 = 2) → (¬ x2 = 3) → (¬ x2 = 4) → (x2 = 5) → (¬ d (x0 + 1 + 49 + 6) x1 = 0) → (-1 ≤ 1 ∧ 1 ≤ 1199) → K (.inl (some (0, 1))) d) (h7 : (0 ≤ x1) → (x1 < d (x0 + 1 + 49) 0) → (¬ x2 = 0) → (¬ x2 = 1) → (¬ x2 = 2) → (¬ x2 = 3) → (¬ x2 = 4) → (x2 = 5) → (d (x0 + 1 + 49 + 6) x1 = 0) → (-1 ≤ 0 ∧ 0 ≤ 1199) → K (.inl (some (0, 0))) d) (h8 : (0 ≤ x1) → (x1 < d (x0 + 1 + 49) 0) → (¬ x2 = 0) → (¬ x2 = 1) → (¬ x2 = 2) → (¬ x2 = 3) → (¬ x2 = 4) → (¬ x2 = 5) → (x2 = 6) → (¬ d (x0 + 1 + 49 + 6) x1 = 2) → (-1 ≤ 0 ∧ 0 ≤ 1199) → K (.inl (some (0, 0))) d) (h9 : (0 ≤ x1) → (x1 < d (x0 + 1 + 49) 0) → (¬ x2 = 0) → (¬ x2 = 1) → (¬ x2 = 2) → (¬ x2 = 3) → (¬ x2 = 4) → (¬ x2 = 5) → (x2 = 6) → (d (x0 + 1 + 49 + 6) x1 = 2) → (-1 ≤ 1 ∧ 1 ≤ 1199) → K (.inl (some (0, 1))) d) (h10 : (0 ≤ x1) → (x1 < d (x0 + 1 + 49) 0) → (¬ x2 = 0) → (¬ x2 = 1) → (¬ x2 = 2) → (¬ x2 = 3) → (¬ x2 = 4) → (¬ x2 = 5) → (¬ x2 = 6) → (x2 = 7) → (-1 ≤ (v_298 (d (x0 + 1 + 49 + 7) x1) d) ∧ (v_298 (d (x0 + 1 + 49 + 7) x1) d) ≤ 1199) → K (.inl (some (0, v_298 (d (x0 + 1 + 49 + 7) x1) d))) d) (h11 : (0 ≤ x1) → (x1 < d (x0 + 1 + 49) 0) → (¬ x2 = 0) → (¬ x2 = 1) → (¬ x2 = 2) → (¬ x2 = 3) → (¬ x2 = 4) → (¬ x2 = 5) → (¬ x2 = 6) → (¬ x2 = 7) → (x2 = 8) → (-1 ≤ (v_71 (x0 + 1) x1 d) ∧ (v_71 (x0 + 1) x1 d) ≤ 1199) → K (.inl (some (0, v_71 (x0 + 1) x1 d))) d) (h12 : (0 ≤ x1) → (x1 < d (x0 + 1 + 49) 0) → (¬ x2 = 0) → (¬ x2 = 1) → (¬ x2 = 2) → (¬ x2 = 3) → (¬ x2 = 4) → (¬ x2 = 5) → (¬ x2 = 6) → (¬ x2 = 7) → (¬ x2 = 8) → (x2 = 9) → (-1 ≤ (v_112 (x0 + 1 + 57) x1 d) ∧ (v_112 (x0 + 1 + 57) x1 d) ≤ 1199) → K (.inl (some (0, v_112 (x0 + 1 + 57) x1 d))) d) (h13 : (0 ≤ x1) → (x1 < d (x0 + 1 + 49) 0) → (¬ x2 = 0) → (¬ x2 = 1) → (¬ x2 = 2) → (¬ x2 = 3) → (¬ x2 = 4) → (¬ x2 = 5) → (¬ x2 = 6) → (¬ x2 = 7) → (¬ x2 = 8) → (¬ x2 = 9) → (x2 = 10) → (-1 ≤ (v_39 (x0 + 1 + 2) (d (x0 + 1 + 49 + 2) x1) x1 d) ∧ (v_39 (x0 + 1 + 2) (d (x0 + 1 + 49 + 2) x1) x1 d) ≤ 1199) → K (.inl (some (0, v_39 (x0 + 1 + 2) (d (x0 + 1 + 49 + 2) x1) x1 d))) d) (h14 : (0 ≤ x1) → (x1 < d (x0 + 1 + 49) 0) → (¬ x2 = 0) → (¬ x2 = 1) → (¬ x2 = 2) → (¬ x2 = 3) → (¬ x2 = 4) → (¬ x2 = 5) → (¬ x2 = 6) → (¬ x2 = 7) → (¬ x2 = 8) → (¬ x2 = 9) → (¬ x2 = 10) → False) (h15 : (0 ≤ x1) → (d (x0 + 1 + 49) 0 ≤ x1) → False) : tCall E 415 [.inr (10, x0), .inl (0, x1), .inl (0, x2)] d K := by
  refine t_415_0 ?_
  have w0 : x0 = 0 := hx0
  have w2 := r_6_f2 hS (wbB.nw hx0)
  have w3 := r_3_f0 hS (stB.of (wbB.nw hx0))
  have w4 := r_4_f0 hS (stB.pe (wbB.nw hx0))
  have w5 := r_8_f0 hS (stB.ti (wbB.nw hx0))
  have w6 := r_9_f0 hS (stB.to (wbB.nw hx0))
  have w7 := r_7_f1 hS (wbB.tx hx0)
  refine k_419 hS hx0 (m_inR (by omega) (by omega)) (fun z0 => ?_) (fun z0 z1 => ?_) (fun z0 z1 => ?_)
  · exact h0 z0
  · refine t_415_5 ?_
    refine ⟨m_inR (by omega) (by omega), fun c2 => ?_, fun c2 => ?_, fun c2 => ?_, fun c2 => ?_, fun c2 => ?_, fun c2 => ?_, fun c2 => ?_, fun c2 => ?_, fun c2 => ?_, fun c2 => ?_, fun c2 => ?_, fun c2 => ?_⟩
    · have q1 := r_8_1 hS (stB.ti (wbB.nw hx0)) x1
      refine ⟨by omega, ?_⟩
      exact h1 z0 z1 c2 (by omega)
    · have q2 := r_8_2 hS (stB.ti (wbB.nw hx0)) x1
      refine ⟨by omega, ?_⟩
      exact h2 z0 z1 (show ¬ x2 = 0 by omega) c2 (by omega)
    · have q3 := r_8_3 hS (stB.ti (wbB.nw hx0)) x1
      refine ⟨by omega, ?_⟩
      exact h3 z0 z1 (show ¬ x2 = 0 by omega) (show ¬ x2 = 1 by omega) c2 (by omega)
    · have q4 := r_8_4 hS (stB.ti (wbB.nw hx0)) x1
      refine ⟨by omega, ?_⟩
      exact h4 z0 z1 (show ¬ x2 = 0 by omega) (show ¬ x2 = 1 by omega) (show ¬ x2 = 2 by omega) c2 (by omega)
    · have q5 := r_8_5 hS (stB.ti (wbB.nw hx0)) x1
      refine ⟨by omega, ?_⟩
      exact h5 z0 z1 (show ¬ x2 = 0 by omega) (show ¬ x2 = 1 by omega) (show ¬ x2 = 2 by omega) (show ¬ x2 = 3 by omega) c2 (by omega)
    · have q6 := r_8_6 hS (stB.ti (wbB.nw hx0)) x1
      refine ⟨by omega, m_inR (by omega) (by omega), fun c8 => ?_, fun c8 => ?_⟩
      · exact h6 z0 z1 (show ¬ x2 = 0 by omega) (show ¬ x2 = 1 by omega) (show ¬ x2 = 2 by omega) (show ¬ x2 = 3 by omega) (show ¬ x2 = 4 by omega) c2 c8 (by omega)
      · exact h7 z0 z1 (show ¬ x2 = 0 by omega) (show ¬ x2 = 1 by omega) (show ¬ x2 = 2 by omega) (show ¬ x2 = 3 by omega) (show ¬ x2 = 4 by omega) c2 c8 (by omega)
    · have q7 := r_8_6 hS (stB.ti (wbB.nw hx0)) x1
      refine ⟨by omega, ⟨m_inR (by omega) (by omega), m_inR (by omega) (by omega)⟩, fun c9 => ?_, fun c9 => ?_⟩
      · exact h8 z0 z1 (show ¬ x2 = 0 by omega) (show ¬ x2 = 1 by omega) (show ¬ x2 = 2 by omega) (show ¬ x2 = 3 by omega) (show ¬ x2 = 4 by omega) (show ¬ x2 = 5 by omega) c2 c9 (by omega)
      · exact h9 z0 z1 (show ¬ x2 = 0 by omega) (show ¬ x2 = 1 by omega) (show ¬ x2 = 2 by omega) (show ¬ x2 = 3 by omega) (show ¬ x2 = 4 by omega) (show ¬ x2 = 5 by omega) c2 c9 (by omega)
    · refine ⟨by omega, ?_⟩
      refine k_298 hS (fun e1 => ?_)
      refine t_415_147 ?_
      exact h10 z0 z1 (show ¬ x2 = 0 by omega) (show ¬ x2 = 1 by omega) (show ¬ x2 = 2 by omega) (show ¬ x2 = 3 by omega) (show ¬ x2 = 4 by omega) (show ¬ x2 = 5 by omega) (show ¬ x2 = 6 by omega) c2 (by omega)
    · refine k_71 hS (wbB.nw hx0) (by omega) (fun e2 => ?_)
      refine t_415_156 ?_
      exact h11 z0 z1 (show ¬ x2 = 0 by omega) (show ¬ x2 = 1 by omega) (show ¬ x2 = 2 by omega) (show ¬ x2 = 3 by omega) (show ¬ x2 = 4 by omega) (show ¬ x2 = 5 by omega) (show ¬ x2 = 6 by omega) (show ¬ x2 = 7 by omega) c2 (by omega)
    · refine k_112 hS (stB.to (wbB.nw hx0)) (m_inR (by omega) (by omega)) (fun e3 => ?_)
      refine t_415_168 ?_
      exact h12 z0 z1 (show ¬ x2 = 0 by omega) (show ¬ x2 = 1 by omega) (show ¬ x2 = 2 by omega) (show ¬ x2 = 3 by omega) (show ¬ x2 = 4 by omega) (show ¬ x2 = 5 by omega) (show ¬ x2 = 6 by omega) (show ¬ x2 = 7 by omega) (show ¬ x2 = 8 by omega) c2 (by omega)
    · refine ⟨by omega, ?_⟩
      have q8 := r_8_2 hS (stB.ti (wbB.nw hx0)) x1
      refine k_39 hS (stB.of (wbB.nw hx0)) (by omega) (m_inR (by omega) (by omega)) (fun e4 => ?_)
      refine t_415_186 ?_
      exact h13 z0 z1 (show ¬ x2 = 0 by omega) (show ¬ x2 = 1 by omega) (show ¬ x2 = 2 by omega) (show ¬ x2 = 3 by omega) (show ¬ x2 = 4 by omega) (show ¬ x2 = 5 by omega) (show ¬ x2 = 6 by omega) (show ¬ x2 = 7 by omega) (show ¬ x2 = 8 by omega) (show ¬ x2 = 9 by omega) c2 (by omega)
    · exact h14 z0 z1 (show ¬ x2 = 0 by omega) (show ¬ x2 = 1 by omega) (show ¬ x2 = 2 by omega) (show ¬ x2 = 3 by omega) (show ¬ x2 = 4 by omega) (show ¬ x2 = 5 by omega) (show ¬ x2 = 6 by omega) (show ¬ x2 = 7 by omega) (show ¬ x2 = 8 by omega) (show ¬ x2 = 9 by omega) (show ¬ x2 = 10 by omega)
  · exact h15 z0 z1
theorem t_416_0 {E : mO × tW} {K : tK} {d : mD} {x0 x1 x2 : Int}
  (h : mInR x1 ∧ (x1 < 0 → False) ∧ (0 ≤ x1 → (mInR x1 ∧ mInR (d (x0 + 1 + 57) 0)) ∧ (x1 < d (x0 + 1 + 57) 0 → mInR x2 ∧ (x2 = 0 → (0 ≤ x1 ∧ x1 < 200) ∧ K (.inl (some (0, d (x0 + 1 + 57 + 1) x1))) d) ∧ (x2 = 1 → (0 ≤ x1 ∧ x1 < 200) ∧ K (.inl (some (0, d (x0 + 1 + 57 + 2) x1))) d) ∧ (x2 = 2 → (0 ≤ x1 ∧ x1 < 200) ∧ K (.inl (some (0, d (x0 + 1 + 57 + 3) x1))) d) ∧ (x2 = 3 → (0 ≤ x1 ∧ x1 < 200) ∧ K (.inl (some (0, d (x0 + 1 + 57 + 4) x1))) d) ∧ (x2 = 4 → tCall E 113 [.inr (9, x0 + 1 + 57), .inl (0, x1)] d (tbk E 416 124 [.inr (10, x0), .inl (0, x1), .inl (0, x2)] [] 0 0 K)) ∧ (x2 < 0 ∨ 4 < x2 → False)) ∧ (d (x0 + 1 + 57) 0 ≤ x1 → False))) :
  tRun E 416 (0, [.inr (10, x0), .inl (0, x1), .inl (0, x2)], [], 0, 0, d) K := tT_run (cut := [0, 127]) 17 _ h
theorem t_416_127 {E : mO × tW} {K : tK} {d : mD} {x0 x1 x2 y0 : Int}
  (h : K (.inl (some (0, y0))) d) :
  tRun E 416 (127, [.inr (10, x0), .inl (0, x1), .inl (0, x2)], [.inl (0, y0)], 0, 0, d) K := tT_run (cut := [0, 127]) 1 _ h
theorem k_416 {E : mO × tW} {K : tK} {d : mD} {x0 x1 x2 : Int} (hS : Safe d) (hx0 : wbB x0) (p1 : -2147483648 ≤ x1 ∧ x1 ≤ 2147483647) (p2 : -2147483648 ≤ x2 ∧ x2 ≤ 2147483647) (h0 : (x1 < 0) → False) (h1 : (0 ≤ x1) → (x1 < d (x0 + 1 + 57) 0) → (x2 = 0) → (-1 ≤ (d (x0 + 1 + 57 + 1) x1) ∧ (d (x0 + 1 + 57 + 1) x1) ≤ 1300) → K (.inl (some (0, d (x0 + 1 + 57 + 1) x1))) d) (h2 : (0 ≤ x1) → (x1 < d (x0 + 1 + 57) 0) → (¬ x2 = 0) → (x2 = 1) → (-1 ≤ (d (x0 + 1 + 57 + 2) x1) ∧ (d (x0 + 1 + 57 + 2) x1) ≤ 1300) → K (.inl (some (0, d (x0 + 1 + 57 + 2) x1))) d) (h3 : (0 ≤ x1) → (x1 < d (x0 + 1 + 57) 0) → (¬ x2 = 0) → (¬ x2 = 1) → (x2 = 2) → (-1 ≤ (d (x0 + 1 + 57 + 3) x1) ∧ (d (x0 + 1 + 57 + 3) x1) ≤ 1300) → K (.inl (some (0, d (x0 + 1 + 57 + 3) x1))) d) (h4 : (0 ≤ x1) → (x1 < d (x0 + 1 + 57) 0) → (¬ x2 = 0) → (¬ x2 = 1) → (¬ x2 = 2) → (x2 = 3) → (-1 ≤ (d (x0 + 1 + 57 + 4) x1) ∧ (d (x0 + 1 + 57 + 4) x1) ≤ 1300) → K (.inl (some (0, d (x0 + 1 + 57 + 4) x1))) d) (h5 : (0 ≤ x1) → (x1 < d (x0 + 1 + 57) 0) → (¬ x2 = 0) → (¬ x2 = 1) → (¬ x2 = 2) → (¬ x2 = 3) → (x2 = 4) → (-1 ≤ (v_113 (x0 + 1 + 57) x1 d) ∧ (v_113 (x0 + 1 + 57) x1 d) ≤ 1300) → K (.inl (some (0, v_113 (x0 + 1 + 57) x1 d))) d) (h6 : (0 ≤ x1) → (x1 < d (x0 + 1 + 57) 0) → (¬ x2 = 0) → (¬ x2 = 1) → (¬ x2 = 2) → (¬ x2 = 3) → (¬ x2 = 4) → False) (h7 : (0 ≤ x1) → (d (x0 + 1 + 57) 0 ≤ x1) → False) : tCall E 416 [.inr (10, x0), .inl (0, x1), .inl (0, x2)] d K := by
  refine t_416_0 ?_
  have w0 : x0 = 0 := hx0
  have w2 := r_6_f2 hS (wbB.nw hx0)
  have w3 := r_3_f0 hS (stB.of (wbB.nw hx0))
  have w4 := r_4_f0 hS (stB.pe (wbB.nw hx0))
  have w5 := r_8_f0 hS (stB.ti (wbB.nw hx0))
  have w6 := r_9_f0 hS (stB.to (wbB.nw hx0))
  have w7 := r_7_f1 hS (wbB.tx hx0)
  refine ⟨m_inR (by omega) (by omega), fun c0 => ?_, fun c0 => ?_⟩
  · exact h0 c0
  · have q1 := r_9_f0 hS (stB.to (wbB.nw hx0))
    refine ⟨⟨m_inR (by omega) (by omega), m_inR (by omega) (by omega)⟩, fun c1 => ?_, fun c1 => ?_⟩
    · refine ⟨m_inR (by omega) (by omega), fun c2 => ?_, fun c2 => ?_, fun c2 => ?_, fun c2 => ?_, fun c2 => ?_, fun c2 => ?_⟩
      · have q2 := r_9_1 hS (stB.to (wbB.nw hx0)) x1
        refine ⟨by omega, ?_⟩
        exact h1 c0 c1 c2 (by omega)
      · have q3 := r_9_2 hS (stB.to (wbB.nw hx0)) x1
        refine ⟨by omega, ?_⟩
        exact h2 c0 c1 (show ¬ x2 = 0 by omega) c2 (by omega)
      · have q4 := r_9_3 hS (stB.to (wbB.nw hx0)) x1
        refine ⟨by omega, ?_⟩
        exact h3 c0 c1 (show ¬ x2 = 0 by omega) (show ¬ x2 = 1 by omega) c2 (by omega)
      · have q5 := r_9_4 hS (stB.to (wbB.nw hx0)) x1
        refine ⟨by omega, ?_⟩
        exact h4 c0 c1 (show ¬ x2 = 0 by omega) (show ¬ x2 = 1 by omega) (show ¬ x2 = 2 by omega) c2 (by omega)
      · refine k_113 hS (stB.to (wbB.nw hx0)) (m_inR (by omega) (by omega)) (fun e1 => ?_)
        refine t_416_127 ?_
        exact h5 c0 c1 (show ¬ x2 = 0 by omega) (show ¬ x2 = 1 by omega) (show ¬ x2 = 2 by omega) (show ¬ x2 = 3 by omega) c2 (by omega)
      · exact h6 c0 c1 (show ¬ x2 = 0 by omega) (show ¬ x2 = 1 by omega) (show ¬ x2 = 2 by omega) (show ¬ x2 = 3 by omega) (show ¬ x2 = 4 by omega)
    · exact h7 c0 c1
theorem qq_305 {E : mO × tW} {K : tK} {d : mD} {x0 x1 x2 : Int} (hS : Safe d) (hx0 : wbB x0) (p1 : -2147483648 ≤ x1 ∧ x1 ≤ 2147483647) (h0 : v_305 x0 x1 x2 d = 0 → ∀ v M, v = g_305 x0 x1 x2 d x2 0 → (∀ b, ¬ b = x2 → M b = g_305 x0 x1 x2 d b) → K (.inl (some (0, v))) M) (h1_2 : v_305 x0 x1 x2 d = 1 → False) : tCall E 411 [.inr (10, x0), .inl (0, x1)] d K := by
  refine k_411 hS hx0 (m_inR (by omega) (by omega)) (fun z0 e1 => ?_) (fun z0 z1 e2 => ?_) (fun z0 z1 z2 e3 => ?_) (fun z0 z1 z2 z3 e4 => ?_) (fun z0 z1 z2 z3 z4 e5 => ?_) (fun z0 z1 z2 z3 z4 z5 e6 => ?_) (fun z0 z1 z2 z3 z4 z5 z6 e7 => ?_) (fun z0 z1 z2 z3 z4 z5 z6 z7 e8 => ?_) (fun z0 z1 z2 z3 z4 z5 z6 z7 z8 e9 => ?_) (fun z0 z1 z2 z3 z4 z5 z6 z7 z8 z9 e10 => ?_) (fun z0 z1 z2 z3 z4 z5 z6 z7 z8 z9 z10 e11 => ?_) (fun z0 z1 z2 z3 z4 z5 z6 z7 z8 z9 z10 z11 e12 => ?_) (fun z0 z1 z2 z3 z4 z5 z6 z7 z8 z9 z10 z11 z12 e13 => ?_) (fun z0 z1 z2 z3 z4 z5 z6 z7 z8 z9 z10 z11 z12 => ?_)
  · have y0 : v_305 x0 x1 x2 d = 0 := by simp only [v_305, if_pos (show x1 = 0 from z0)]
    have y1 : g_305 x0 x1 x2 d = mset d x2 0 (d (x0 + 1 + 2) 0) := by simp only [g_305, if_pos (show x1 = 0 from z0)]
    exact h0 y0 _ _ (by rw [y1]; exact (ms_e rfl rfl).symm) (fun b hb => by rw [y1]; exact (mset_ne hb).symm)
  · have y0 : v_305 x0 x1 x2 d = 0 := by simp only [v_305, if_neg (show ¬ x1 = 0 by omega), if_pos (show x1 = 1 from z1)]
    have y1 : g_305 x0 x1 x2 d = mset d x2 0 (d (x0 + 1 + 10) 0) := by simp only [g_305, if_neg (show ¬ x1 = 0 by omega), if_pos (show x1 = 1 from z1)]
    exact h0 y0 _ _ (by rw [y1]; exact (ms_e rfl rfl).symm) (fun b hb => by rw [y1]; exact (mset_ne hb).symm)
  · have y0 : v_305 x0 x1 x2 d = 0 := by simp only [v_305, if_neg (show ¬ x1 = 0 by omega), if_neg (show ¬ x1 = 1 by omega), if_pos (show x1 = 2 from z2)]
    have y1 : g_305 x0 x1 x2 d = mset d x2 0 (d (x0 + 1 + 49) 0) := by simp only [g_305, if_neg (show ¬ x1 = 0 by omega), if_neg (show ¬ x1 = 1 by omega), if_pos (show x1 = 2 from z2)]
    exact h0 y0 _ _ (by rw [y1]; exact (ms_e rfl rfl).symm) (fun b hb => by rw [y1]; exact (mset_ne hb).symm)
  · have y0 : v_305 x0 x1 x2 d = 0 := by simp only [v_305, if_neg (show ¬ x1 = 0 by omega), if_neg (show ¬ x1 = 1 by omega), if_neg (show ¬ x1 = 2 by omega), if_pos (show x1 = 3 from z3)]
    have y1 : g_305 x0 x1 x2 d = mset d x2 0 (d (x0 + 1) 2) := by simp only [g_305, if_neg (show ¬ x1 = 0 by omega), if_neg (show ¬ x1 = 1 by omega), if_neg (show ¬ x1 = 2 by omega), if_pos (show x1 = 3 from z3)]
    exact h0 y0 _ _ (by rw [y1]; exact (ms_e rfl rfl).symm) (fun b hb => by rw [y1]; exact (mset_ne hb).symm)
  · have y0 : v_305 x0 x1 x2 d = 0 := by simp only [v_305, if_neg (show ¬ x1 = 0 by omega), if_neg (show ¬ x1 = 1 by omega), if_neg (show ¬ x1 = 2 by omega), if_neg (show ¬ x1 = 3 by omega), if_pos (show x1 = 4 from z4)]
    have y1 : g_305 x0 x1 x2 d = mset d x2 0 (20 - ((d (x0 + 1) 2) % 20)) := by simp only [g_305, if_neg (show ¬ x1 = 0 by omega), if_neg (show ¬ x1 = 1 by omega), if_neg (show ¬ x1 = 2 by omega), if_neg (show ¬ x1 = 3 by omega), if_pos (show x1 = 4 from z4)]
    exact h0 y0 _ _ (by rw [y1]; exact (ms_e rfl rfl).symm) (fun b hb => by rw [y1]; exact (mset_ne hb).symm)
  · have y0 : v_305 x0 x1 x2 d = 0 := by simp only [v_305, if_neg (show ¬ x1 = 0 by omega), if_neg (show ¬ x1 = 1 by omega), if_neg (show ¬ x1 = 2 by omega), if_neg (show ¬ x1 = 3 by omega), if_neg (show ¬ x1 = 4 by omega), if_pos (show x1 = 5 from z5)]
    have y1 : g_305 x0 x1 x2 d = mset d x2 0 (v_101 (x0 + 1 + 49) 0 d) := by simp only [g_305, if_neg (show ¬ x1 = 0 by omega), if_neg (show ¬ x1 = 1 by omega), if_neg (show ¬ x1 = 2 by omega), if_neg (show ¬ x1 = 3 by omega), if_neg (show ¬ x1 = 4 by omega), if_pos (show x1 = 5 from z5)]
    exact h0 y0 _ _ (by rw [y1]; exact (ms_e rfl rfl).symm) (fun b hb => by rw [y1]; exact (mset_ne hb).symm)
  · have y0 : v_305 x0 x1 x2 d = 0 := by simp only [v_305, if_neg (show ¬ x1 = 0 by omega), if_neg (show ¬ x1 = 1 by omega), if_neg (show ¬ x1 = 2 by omega), if_neg (show ¬ x1 = 3 by omega), if_neg (show ¬ x1 = 4 by omega), if_neg (show ¬ x1 = 5 by omega), if_pos (show x1 = 6 from z6)]
    have y1 : g_305 x0 x1 x2 d = mset d x2 0 (v_102 (x0 + 1 + 49) 1 d) := by simp only [g_305, if_neg (show ¬ x1 = 0 by omega), if_neg (show ¬ x1 = 1 by omega), if_neg (show ¬ x1 = 2 by omega), if_neg (show ¬ x1 = 3 by omega), if_neg (show ¬ x1 = 4 by omega), if_neg (show ¬ x1 = 5 by omega), if_pos (show x1 = 6 from z6)]
    exact h0 y0 _ _ (by rw [y1]; exact (ms_e rfl rfl).symm) (fun b hb => by rw [y1]; exact (mset_ne hb).symm)
  · have y0 : v_305 x0 x1 x2 d = 0 := by simp only [v_305, if_neg (show ¬ x1 = 0 by omega), if_neg (show ¬ x1 = 1 by omega), if_neg (show ¬ x1 = 2 by omega), if_neg (show ¬ x1 = 3 by omega), if_neg (show ¬ x1 = 4 by omega), if_neg (show ¬ x1 = 5 by omega), if_neg (show ¬ x1 = 6 by omega), if_pos (show x1 = 7 from z7)]
    have y1 : g_305 x0 x1 x2 d = mset d x2 0 (v_102 (x0 + 1 + 49) 2 d) := by simp only [g_305, if_neg (show ¬ x1 = 0 by omega), if_neg (show ¬ x1 = 1 by omega), if_neg (show ¬ x1 = 2 by omega), if_neg (show ¬ x1 = 3 by omega), if_neg (show ¬ x1 = 4 by omega), if_neg (show ¬ x1 = 5 by omega), if_neg (show ¬ x1 = 6 by omega), if_pos (show x1 = 7 from z7)]
    exact h0 y0 _ _ (by rw [y1]; exact (ms_e rfl rfl).symm) (fun b hb => by rw [y1]; exact (mset_ne hb).symm)
  · have y0 : v_305 x0 x1 x2 d = 0 := by simp only [v_305, if_neg (show ¬ x1 = 0 by omega), if_neg (show ¬ x1 = 1 by omega), if_neg (show ¬ x1 = 2 by omega), if_neg (show ¬ x1 = 3 by omega), if_neg (show ¬ x1 = 4 by omega), if_neg (show ¬ x1 = 5 by omega), if_neg (show ¬ x1 = 6 by omega), if_neg (show ¬ x1 = 7 by omega), if_pos (show x1 = 8 from z8)]
    have y1 : g_305 x0 x1 x2 d = mset d x2 0 (d (x0 + 1 + 57) 0) := by simp only [g_305, if_neg (show ¬ x1 = 0 by omega), if_neg (show ¬ x1 = 1 by omega), if_neg (show ¬ x1 = 2 by omega), if_neg (show ¬ x1 = 3 by omega), if_neg (show ¬ x1 = 4 by omega), if_neg (show ¬ x1 = 5 by omega), if_neg (show ¬ x1 = 6 by omega), if_neg (show ¬ x1 = 7 by omega), if_pos (show x1 = 8 from z8)]
    exact h0 y0 _ _ (by rw [y1]; exact (ms_e rfl rfl).symm) (fun b hb => by rw [y1]; exact (mset_ne hb).symm)
  · have y0 : v_305 x0 x1 x2 d = 0 := by simp only [v_305, if_neg (show ¬ x1 = 0 by omega), if_neg (show ¬ x1 = 1 by omega), if_neg (show ¬ x1 = 2 by omega), if_neg (show ¬ x1 = 3 by omega), if_neg (show ¬ x1 = 4 by omega), if_neg (show ¬ x1 = 5 by omega), if_neg (show ¬ x1 = 6 by omega), if_neg (show ¬ x1 = 7 by omega), if_neg (show ¬ x1 = 8 by omega), if_pos (show x1 = 9 from z9)]
    have y1 : g_305 x0 x1 x2 d = mset d x2 0 (v_110 (x0 + 1 + 57) 1 d) := by simp only [g_305, if_neg (show ¬ x1 = 0 by omega), if_neg (show ¬ x1 = 1 by omega), if_neg (show ¬ x1 = 2 by omega), if_neg (show ¬ x1 = 3 by omega), if_neg (show ¬ x1 = 4 by omega), if_neg (show ¬ x1 = 5 by omega), if_neg (show ¬ x1 = 6 by omega), if_neg (show ¬ x1 = 7 by omega), if_neg (show ¬ x1 = 8 by omega), if_pos (show x1 = 9 from z9)]
    exact h0 y0 _ _ (by rw [y1]; exact (ms_e rfl rfl).symm) (fun b hb => by rw [y1]; exact (mset_ne hb).symm)
  · have y0 : v_305 x0 x1 x2 d = 0 := by simp only [v_305, if_neg (show ¬ x1 = 0 by omega), if_neg (show ¬ x1 = 1 by omega), if_neg (show ¬ x1 = 2 by omega), if_neg (show ¬ x1 = 3 by omega), if_neg (show ¬ x1 = 4 by omega), if_neg (show ¬ x1 = 5 by omega), if_neg (show ¬ x1 = 6 by omega), if_neg (show ¬ x1 = 7 by omega), if_neg (show ¬ x1 = 8 by omega), if_neg (show ¬ x1 = 9 by omega), if_pos (show x1 = 10 from z10)]
    have y1 : g_305 x0 x1 x2 d = mset d x2 0 (v_110 (x0 + 1 + 57) 2 d) := by simp only [g_305, if_neg (show ¬ x1 = 0 by omega), if_neg (show ¬ x1 = 1 by omega), if_neg (show ¬ x1 = 2 by omega), if_neg (show ¬ x1 = 3 by omega), if_neg (show ¬ x1 = 4 by omega), if_neg (show ¬ x1 = 5 by omega), if_neg (show ¬ x1 = 6 by omega), if_neg (show ¬ x1 = 7 by omega), if_neg (show ¬ x1 = 8 by omega), if_neg (show ¬ x1 = 9 by omega), if_pos (show x1 = 10 from z10)]
    exact h0 y0 _ _ (by rw [y1]; exact (ms_e rfl rfl).symm) (fun b hb => by rw [y1]; exact (mset_ne hb).symm)
  · have y0 : v_305 x0 x1 x2 d = 0 := by simp only [v_305, if_neg (show ¬ x1 = 0 by omega), if_neg (show ¬ x1 = 1 by omega), if_neg (show ¬ x1 = 2 by omega), if_neg (show ¬ x1 = 3 by omega), if_neg (show ¬ x1 = 4 by omega), if_neg (show ¬ x1 = 5 by omega), if_neg (show ¬ x1 = 6 by omega), if_neg (show ¬ x1 = 7 by omega), if_neg (show ¬ x1 = 8 by omega), if_neg (show ¬ x1 = 9 by omega), if_neg (show ¬ x1 = 10 by omega), if_pos (show x1 = 11 from z11)]
    have y1 : g_305 x0 x1 x2 d = mset d x2 0 (d (x0 + 1) 1) := by simp only [g_305, if_neg (show ¬ x1 = 0 by omega), if_neg (show ¬ x1 = 1 by omega), if_neg (show ¬ x1 = 2 by omega), if_neg (show ¬ x1 = 3 by omega), if_neg (show ¬ x1 = 4 by omega), if_neg (show ¬ x1 = 5 by omega), if_neg (show ¬ x1 = 6 by omega), if_neg (show ¬ x1 = 7 by omega), if_neg (show ¬ x1 = 8 by omega), if_neg (show ¬ x1 = 9 by omega), if_neg (show ¬ x1 = 10 by omega), if_pos (show x1 = 11 from z11)]
    exact h0 y0 _ _ (by rw [y1]; exact (ms_e rfl rfl).symm) (fun b hb => by rw [y1]; exact (mset_ne hb).symm)
  · have y0 : v_305 x0 x1 x2 d = 0 := by simp only [v_305, if_neg (show ¬ x1 = 0 by omega), if_neg (show ¬ x1 = 1 by omega), if_neg (show ¬ x1 = 2 by omega), if_neg (show ¬ x1 = 3 by omega), if_neg (show ¬ x1 = 4 by omega), if_neg (show ¬ x1 = 5 by omega), if_neg (show ¬ x1 = 6 by omega), if_neg (show ¬ x1 = 7 by omega), if_neg (show ¬ x1 = 8 by omega), if_neg (show ¬ x1 = 9 by omega), if_neg (show ¬ x1 = 10 by omega), if_neg (show ¬ x1 = 11 by omega), if_pos (show x1 = 12 from z12)]
    have y1 : g_305 x0 x1 x2 d = mset d x2 0 (d (x0 + 64) 2) := by simp only [g_305, if_neg (show ¬ x1 = 0 by omega), if_neg (show ¬ x1 = 1 by omega), if_neg (show ¬ x1 = 2 by omega), if_neg (show ¬ x1 = 3 by omega), if_neg (show ¬ x1 = 4 by omega), if_neg (show ¬ x1 = 5 by omega), if_neg (show ¬ x1 = 6 by omega), if_neg (show ¬ x1 = 7 by omega), if_neg (show ¬ x1 = 8 by omega), if_neg (show ¬ x1 = 9 by omega), if_neg (show ¬ x1 = 10 by omega), if_neg (show ¬ x1 = 11 by omega), if_pos (show x1 = 12 from z12)]
    exact h0 y0 _ _ (by rw [y1]; exact (ms_e rfl rfl).symm) (fun b hb => by rw [y1]; exact (mset_ne hb).symm)
  · have y0 : v_305 x0 x1 x2 d = 1 := by simp only [v_305, if_neg (show ¬ x1 = 0 by omega), if_neg (show ¬ x1 = 1 by omega), if_neg (show ¬ x1 = 2 by omega), if_neg (show ¬ x1 = 3 by omega), if_neg (show ¬ x1 = 4 by omega), if_neg (show ¬ x1 = 5 by omega), if_neg (show ¬ x1 = 6 by omega), if_neg (show ¬ x1 = 7 by omega), if_neg (show ¬ x1 = 8 by omega), if_neg (show ¬ x1 = 9 by omega), if_neg (show ¬ x1 = 10 by omega), if_neg (show ¬ x1 = 11 by omega), if_neg (show ¬ x1 = 12 by omega)]
    have y1 : g_305 x0 x1 x2 d = d := by simp only [g_305, if_neg (show ¬ x1 = 0 by omega), if_neg (show ¬ x1 = 1 by omega), if_neg (show ¬ x1 = 2 by omega), if_neg (show ¬ x1 = 3 by omega), if_neg (show ¬ x1 = 4 by omega), if_neg (show ¬ x1 = 5 by omega), if_neg (show ¬ x1 = 6 by omega), if_neg (show ¬ x1 = 7 by omega), if_neg (show ¬ x1 = 8 by omega), if_neg (show ¬ x1 = 9 by omega), if_neg (show ¬ x1 = 10 by omega), if_neg (show ¬ x1 = 11 by omega), if_neg (show ¬ x1 = 12 by omega)]
    exact h1_2 y0
theorem qq_307 {E : mO × tW} {K : tK} {d : mD} {x0 x1 x2 x3 : Int} (hS : Safe d) (hx0 : wbB x0) (p1 : -2147483648 ≤ x1 ∧ x1 ≤ 2147483647) (p2 : -2147483648 ≤ x2 ∧ x2 ≤ 2147483647) (h0 : v_307 x0 x1 x2 x3 d = 0 → ∀ v M, v = g_307 x0 x1 x2 x3 d x3 0 → (∀ b, ¬ b = x3 → M b = g_307 x0 x1 x2 x3 d b) → K (.inl (some (0, v))) M) (h1_1 : v_307 x0 x1 x2 x3 d = 1 → False) (h2_2 : v_307 x0 x1 x2 x3 d = 2 → False) : tCall E 412 [.inr (10, x0), .inl (0, x1), .inl (0, x2)] d K := by
  refine k_412 hS hx0 (m_inR (by omega) (by omega)) (m_inR (by omega) (by omega)) (fun z0 => ?_) (fun z0 z1 z2 e1 => ?_) (fun z0 z1 z2 z3 e2 => ?_) (fun z0 z1 z2 z3 z4 e3 => ?_) (fun z0 z1 z2 z3 z4 z5 z6 e4 => ?_) (fun z0 z1 z2 z3 z4 z5 z6 e5 => ?_) (fun z0 z1 z2 z3 z4 z5 z6 e6 => ?_) (fun z0 z1 z2 z3 z4 z5 z6 z7 e7 => ?_) (fun z0 z1 z2 z3 z4 z5 z6 z7 => ?_) (fun z0 z1 => ?_)
  · have y0 : v_307 x0 x1 x2 x3 d = 1 := by simp only [v_307, if_pos (show x1 < 0 from z0)]
    have y1 : g_307 x0 x1 x2 x3 d = d := by simp only [g_307, if_pos (show x1 < 0 from z0)]
    exact h1_1 y0
  · have y0 : v_307 x0 x1 x2 x3 d = 0 := by simp only [v_307, if_neg (show ¬ x1 < 0 from Int.not_lt.mpr z0), if_pos (show x1 < d (x0 + 1 + 2) 0 from z1), if_pos (show x2 = 0 from z2)]
    have y1 : g_307 x0 x1 x2 x3 d = mset d x3 0 (d (x0 + 1 + 2 + 2) x1) := by simp only [g_307, if_neg (show ¬ x1 < 0 from Int.not_lt.mpr z0), if_pos (show x1 < d (x0 + 1 + 2) 0 from z1), if_pos (show x2 = 0 from z2)]
    exact h0 y0 _ _ (by rw [y1]; exact (ms_e rfl rfl).symm) (fun b hb => by rw [y1]; exact (mset_ne hb).symm)
  · have y0 : v_307 x0 x1 x2 x3 d = 0 := by simp only [v_307, if_neg (show ¬ x1 < 0 from Int.not_lt.mpr z0), if_pos (show x1 < d (x0 + 1 + 2) 0 from z1), if_neg (show ¬ x2 = 0 by omega), if_pos (show x2 = 1 from z3)]
    have y1 : g_307 x0 x1 x2 x3 d = mset d x3 0 (d (x0 + 1 + 2 + 3) x1) := by simp only [g_307, if_neg (show ¬ x1 < 0 from Int.not_lt.mpr z0), if_pos (show x1 < d (x0 + 1 + 2) 0 from z1), if_neg (show ¬ x2 = 0 by omega), if_pos (show x2 = 1 from z3)]
    exact h0 y0 _ _ (by rw [y1]; exact (ms_e rfl rfl).symm) (fun b hb => by rw [y1]; exact (mset_ne hb).symm)
  · have y0 : v_307 x0 x1 x2 x3 d = 0 := by simp only [v_307, if_neg (show ¬ x1 < 0 from Int.not_lt.mpr z0), if_pos (show x1 < d (x0 + 1 + 2) 0 from z1), if_neg (show ¬ x2 = 0 by omega), if_neg (show ¬ x2 = 1 by omega), if_pos (show x2 = 2 from z4)]
    have y1 : g_307 x0 x1 x2 x3 d = mset d x3 0 (d (x0 + 1 + 2 + 4) x1) := by simp only [g_307, if_neg (show ¬ x1 < 0 from Int.not_lt.mpr z0), if_pos (show x1 < d (x0 + 1 + 2) 0 from z1), if_neg (show ¬ x2 = 0 by omega), if_neg (show ¬ x2 = 1 by omega), if_pos (show x2 = 2 from z4)]
    exact h0 y0 _ _ (by rw [y1]; exact (ms_e rfl rfl).symm) (fun b hb => by rw [y1]; exact (mset_ne hb).symm)
  · have y0 : v_307 x0 x1 x2 x3 d = 0 := by simp only [v_307, if_neg (show ¬ x1 < 0 from Int.not_lt.mpr z0), if_pos (show x1 < d (x0 + 1 + 2) 0 from z1), if_neg (show ¬ x2 = 0 by omega), if_neg (show ¬ x2 = 1 by omega), if_neg (show ¬ x2 = 2 by omega), if_pos (show x2 = 3 from z5), if_pos (show d (x0 + 1 + 2 + 5) x1 = 0 from z6)]
    have y1 : g_307 x0 x1 x2 x3 d = mset d x3 0 0 := by simp only [g_307, if_neg (show ¬ x1 < 0 from Int.not_lt.mpr z0), if_pos (show x1 < d (x0 + 1 + 2) 0 from z1), if_neg (show ¬ x2 = 0 by omega), if_neg (show ¬ x2 = 1 by omega), if_neg (show ¬ x2 = 2 by omega), if_pos (show x2 = 3 from z5), if_pos (show d (x0 + 1 + 2 + 5) x1 = 0 from z6)]
    exact h0 y0 _ _ (by rw [y1]; exact (ms_e rfl rfl).symm) (fun b hb => by rw [y1]; exact (mset_ne hb).symm)
  · have y0 : v_307 x0 x1 x2 x3 d = 0 := by simp only [v_307, if_neg (show ¬ x1 < 0 from Int.not_lt.mpr z0), if_pos (show x1 < d (x0 + 1 + 2) 0 from z1), if_neg (show ¬ x2 = 0 by omega), if_neg (show ¬ x2 = 1 by omega), if_neg (show ¬ x2 = 2 by omega), if_pos (show x2 = 3 from z5), if_neg (show ¬ d (x0 + 1 + 2 + 5) x1 = 0 from z6)]
    have y1 : g_307 x0 x1 x2 x3 d = mset d x3 0 1 := by simp only [g_307, if_neg (show ¬ x1 < 0 from Int.not_lt.mpr z0), if_pos (show x1 < d (x0 + 1 + 2) 0 from z1), if_neg (show ¬ x2 = 0 by omega), if_neg (show ¬ x2 = 1 by omega), if_neg (show ¬ x2 = 2 by omega), if_pos (show x2 = 3 from z5), if_neg (show ¬ d (x0 + 1 + 2 + 5) x1 = 0 from z6)]
    exact h0 y0 _ _ (by rw [y1]; exact (ms_e rfl rfl).symm) (fun b hb => by rw [y1]; exact (mset_ne hb).symm)
  · have y0 : v_307 x0 x1 x2 x3 d = 0 := by simp only [v_307, if_neg (show ¬ x1 < 0 from Int.not_lt.mpr z0), if_pos (show x1 < d (x0 + 1 + 2) 0 from z1), if_neg (show ¬ x2 = 0 by omega), if_neg (show ¬ x2 = 1 by omega), if_neg (show ¬ x2 = 2 by omega), if_neg (show ¬ x2 = 3 by omega), if_pos (show x2 = 4 from z6)]
    have y1 : g_307 x0 x1 x2 x3 d = mset d x3 0 (d (x0 + 1 + 2 + 6) x1) := by simp only [g_307, if_neg (show ¬ x1 < 0 from Int.not_lt.mpr z0), if_pos (show x1 < d (x0 + 1 + 2) 0 from z1), if_neg (show ¬ x2 = 0 by omega), if_neg (show ¬ x2 = 1 by omega), if_neg (show ¬ x2 = 2 by omega), if_neg (show ¬ x2 = 3 by omega), if_pos (show x2 = 4 from z6)]
    exact h0 y0 _ _ (by rw [y1]; exact (ms_e rfl rfl).symm) (fun b hb => by rw [y1]; exact (mset_ne hb).symm)
  · have y0 : v_307 x0 x1 x2 x3 d = 0 := by simp only [v_307, if_neg (show ¬ x1 < 0 from Int.not_lt.mpr z0), if_pos (show x1 < d (x0 + 1 + 2) 0 from z1), if_neg (show ¬ x2 = 0 by omega), if_neg (show ¬ x2 = 1 by omega), if_neg (show ¬ x2 = 2 by omega), if_neg (show ¬ x2 = 3 by omega), if_neg (show ¬ x2 = 4 by omega), if_pos (show x2 = 5 from z7)]
    have y1 : g_307 x0 x1 x2 x3 d = mset d x3 0 (v_103 (x0 + 1 + 49) x1 d) := by simp only [g_307, if_neg (show ¬ x1 < 0 from Int.not_lt.mpr z0), if_pos (show x1 < d (x0 + 1 + 2) 0 from z1), if_neg (show ¬ x2 = 0 by omega), if_neg (show ¬ x2 = 1 by omega), if_neg (show ¬ x2 = 2 by omega), if_neg (show ¬ x2 = 3 by omega), if_neg (show ¬ x2 = 4 by omega), if_pos (show x2 = 5 from z7)]
    exact h0 y0 _ _ (by rw [y1]; exact (ms_e rfl rfl).symm) (fun b hb => by rw [y1]; exact (mset_ne hb).symm)
  · have y0 : v_307 x0 x1 x2 x3 d = 2 := by simp only [v_307, if_neg (show ¬ x1 < 0 from Int.not_lt.mpr z0), if_pos (show x1 < d (x0 + 1 + 2) 0 from z1), if_neg (show ¬ x2 = 0 by omega), if_neg (show ¬ x2 = 1 by omega), if_neg (show ¬ x2 = 2 by omega), if_neg (show ¬ x2 = 3 by omega), if_neg (show ¬ x2 = 4 by omega), if_neg (show ¬ x2 = 5 by omega)]
    have y1 : g_307 x0 x1 x2 x3 d = d := by simp only [g_307, if_neg (show ¬ x1 < 0 from Int.not_lt.mpr z0), if_pos (show x1 < d (x0 + 1 + 2) 0 from z1), if_neg (show ¬ x2 = 0 by omega), if_neg (show ¬ x2 = 1 by omega), if_neg (show ¬ x2 = 2 by omega), if_neg (show ¬ x2 = 3 by omega), if_neg (show ¬ x2 = 4 by omega), if_neg (show ¬ x2 = 5 by omega)]
    exact h2_2 y0
  · have y0 : v_307 x0 x1 x2 x3 d = 1 := by simp only [v_307, if_neg (show ¬ x1 < 0 from Int.not_lt.mpr z0), if_neg (show ¬ x1 < d (x0 + 1 + 2) 0 from Int.not_lt.mpr z1)]
    have y1 : g_307 x0 x1 x2 x3 d = d := by simp only [g_307, if_neg (show ¬ x1 < 0 from Int.not_lt.mpr z0), if_neg (show ¬ x1 < d (x0 + 1 + 2) 0 from Int.not_lt.mpr z1)]
    exact h1_1 y0
theorem qq_308 {E : mO × tW} {K : tK} {d : mD} {x0 x1 x2 x3 : Int} (hS : Safe d) (hx0 : wbB x0) (p1 : -2147483648 ≤ x1 ∧ x1 ≤ 2147483647) (p2 : -2147483648 ≤ x2 ∧ x2 ≤ 2147483647) (h0 : v_308 x0 x1 x2 x3 d = 0 → ∀ v M, v = g_308 x0 x1 x2 x3 d x3 0 → (∀ b, ¬ b = x3 → M b = g_308 x0 x1 x2 x3 d b) → K (.inl (some (0, v))) M) (h1_1 : v_308 x0 x1 x2 x3 d = 1 → False) : tCall E 413 [.inr (10, x0), .inl (0, x1), .inl (0, x2)] d K := by
  refine k_413 hS hx0 (m_inR (by omega) (by omega)) (m_inR (by omega) (by omega)) (fun z0 => ?_) (fun z0 z1 z2 => ?_) (fun z0 z1 z2 z3 e1 => ?_) (fun z0 z1 z2 z3 => ?_) (fun z0 z1 => ?_)
  · have y0 : v_308 x0 x1 x2 x3 d = 1 := by simp only [v_308, if_pos (show x1 < 0 from z0)]
    have y1 : g_308 x0 x1 x2 x3 d = d := by simp only [g_308, if_pos (show x1 < 0 from z0)]
    exact h1_1 y0
  · have y0 : v_308 x0 x1 x2 x3 d = 1 := by simp only [v_308, if_neg (show ¬ x1 < 0 from Int.not_lt.mpr z0), if_pos (show x1 < d (x0 + 1 + 2) 0 from z1), if_pos (show x2 < 0 from z2)]
    have y1 : g_308 x0 x1 x2 x3 d = d := by simp only [g_308, if_neg (show ¬ x1 < 0 from Int.not_lt.mpr z0), if_pos (show x1 < d (x0 + 1 + 2) 0 from z1), if_pos (show x2 < 0 from z2)]
    exact h1_1 y0
  · have y0 : v_308 x0 x1 x2 x3 d = 0 := by simp only [v_308, if_neg (show ¬ x1 < 0 from Int.not_lt.mpr z0), if_pos (show x1 < d (x0 + 1 + 2) 0 from z1), if_neg (show ¬ x2 < 0 from Int.not_lt.mpr z2), if_pos (show x2 < d (x0 + 1 + 2 + 6) x1 from z3)]
    have y1 : g_308 x0 x1 x2 x3 d = mset d x3 0 (v_38 (x0 + 1 + 2) x1 x2 d) := by simp only [g_308, if_neg (show ¬ x1 < 0 from Int.not_lt.mpr z0), if_pos (show x1 < d (x0 + 1 + 2) 0 from z1), if_neg (show ¬ x2 < 0 from Int.not_lt.mpr z2), if_pos (show x2 < d (x0 + 1 + 2 + 6) x1 from z3)]
    exact h0 y0 _ _ (by rw [y1]; exact (ms_e rfl rfl).symm) (fun b hb => by rw [y1]; exact (mset_ne hb).symm)
  · have y0 : v_308 x0 x1 x2 x3 d = 1 := by simp only [v_308, if_neg (show ¬ x1 < 0 from Int.not_lt.mpr z0), if_pos (show x1 < d (x0 + 1 + 2) 0 from z1), if_neg (show ¬ x2 < 0 from Int.not_lt.mpr z2), if_neg (show ¬ x2 < d (x0 + 1 + 2 + 6) x1 from Int.not_lt.mpr z3)]
    have y1 : g_308 x0 x1 x2 x3 d = d := by simp only [g_308, if_neg (show ¬ x1 < 0 from Int.not_lt.mpr z0), if_pos (show x1 < d (x0 + 1 + 2) 0 from z1), if_neg (show ¬ x2 < 0 from Int.not_lt.mpr z2), if_neg (show ¬ x2 < d (x0 + 1 + 2 + 6) x1 from Int.not_lt.mpr z3)]
    exact h1_1 y0
  · have y0 : v_308 x0 x1 x2 x3 d = 1 := by simp only [v_308, if_neg (show ¬ x1 < 0 from Int.not_lt.mpr z0), if_neg (show ¬ x1 < d (x0 + 1 + 2) 0 from Int.not_lt.mpr z1)]
    have y1 : g_308 x0 x1 x2 x3 d = d := by simp only [g_308, if_neg (show ¬ x1 < 0 from Int.not_lt.mpr z0), if_neg (show ¬ x1 < d (x0 + 1 + 2) 0 from Int.not_lt.mpr z1)]
    exact h1_1 y0
theorem qq_309 {E : mO × tW} {K : tK} {d : mD} {x0 x1 x2 x3 : Int} (hS : Safe d) (hx0 : wbB x0) (p1 : -2147483648 ≤ x1 ∧ x1 ≤ 2147483647) (p2 : -2147483648 ≤ x2 ∧ x2 ≤ 2147483647) (hpu : puR x0 x1 d) (h0 : v_309 x0 x1 x2 x3 d = 0 → ∀ v M, v = g_309 x0 x1 x2 x3 d x3 0 → (∀ b, ¬ b = x3 → M b = g_309 x0 x1 x2 x3 d b) → K (.inl (some (0, v))) M) (h1_1 : v_309 x0 x1 x2 x3 d = 1 → False) (h2_2 : v_309 x0 x1 x2 x3 d = 2 → False) : tCall E 414 [.inr (10, x0), .inl (0, x1), .inl (0, x2)] d K := by
  refine k_414 hS hx0 (m_inR (by omega) (by omega)) (m_inR (by omega) (by omega)) hpu (fun z0 => ?_) (fun z0 z1 z2 e1 => ?_) (fun z0 z1 z2 z3 e2 => ?_) (fun z0 z1 z2 z3 z4 e3 => ?_) (fun z0 z1 z2 z3 z4 z5 e4 => ?_) (fun z0 z1 z2 z3 z4 z5 z6 e5 => ?_) (fun z0 z1 z2 z3 z4 z5 z6 z7 e6 => ?_) (fun z0 z1 z2 z3 z4 z5 z6 z7 z8 e7 => ?_) (fun z0 z1 z2 z3 z4 z5 z6 z7 z8 z9 e8 => ?_) (fun z0 z1 z2 z3 z4 z5 z6 z7 z8 z9 z10 e9 => ?_) (fun z0 z1 z2 z3 z4 z5 z6 z7 z8 z9 z10 z11 e10 F1 hS1 => ?_) (fun z0 z1 z2 z3 z4 z5 z6 z7 z8 z9 z10 z11 => ?_) (fun z0 z1 => ?_)
  · have y0 : v_309 x0 x1 x2 x3 d = 1 := by simp only [v_309, if_pos (show x1 < 0 from z0)]
    have y1 : g_309 x0 x1 x2 x3 d = d := by simp only [g_309, if_pos (show x1 < 0 from z0)]
    exact h1_1 y0
  · have y0 : v_309 x0 x1 x2 x3 d = 0 := by simp only [v_309, if_neg (show ¬ x1 < 0 from Int.not_lt.mpr z0), if_pos (show x1 < d (x0 + 1 + 10) 0 from z1), if_pos (show x2 = 0 from z2)]
    have y1 : g_309 x0 x1 x2 x3 d = mset d x3 0 (d (x0 + 1 + 10 + 2) x1) := by simp only [g_309, if_neg (show ¬ x1 < 0 from Int.not_lt.mpr z0), if_pos (show x1 < d (x0 + 1 + 10) 0 from z1), if_pos (show x2 = 0 from z2)]
    exact h0 y0 _ _ (by rw [y1]; exact (ms_e rfl rfl).symm) (fun b hb => by rw [y1]; exact (mset_ne hb).symm)
  · have y0 : v_309 x0 x1 x2 x3 d = 0 := by simp only [v_309, if_neg (show ¬ x1 < 0 from Int.not_lt.mpr z0), if_pos (show x1 < d (x0 + 1 + 10) 0 from z1), if_neg (show ¬ x2 = 0 by omega), if_pos (show x2 = 1 from z3)]
    have y1 : g_309 x0 x1 x2 x3 d = mset d x3 0 (v_104 (x0 + 1 + 49) x1 d) := by simp only [g_309, if_neg (show ¬ x1 < 0 from Int.not_lt.mpr z0), if_pos (show x1 < d (x0 + 1 + 10) 0 from z1), if_neg (show ¬ x2 = 0 by omega), if_pos (show x2 = 1 from z3)]
    exact h0 y0 _ _ (by rw [y1]; exact (ms_e rfl rfl).symm) (fun b hb => by rw [y1]; exact (mset_ne hb).symm)
  · have y0 : v_309 x0 x1 x2 x3 d = 0 := by simp only [v_309, if_neg (show ¬ x1 < 0 from Int.not_lt.mpr z0), if_pos (show x1 < d (x0 + 1 + 10) 0 from z1), if_neg (show ¬ x2 = 0 by omega), if_neg (show ¬ x2 = 1 by omega), if_pos (show x2 = 2 from z4)]
    have y1 : g_309 x0 x1 x2 x3 d = mset d x3 0 (v_105 (x0 + 1 + 49) x1 d) := by simp only [g_309, if_neg (show ¬ x1 < 0 from Int.not_lt.mpr z0), if_pos (show x1 < d (x0 + 1 + 10) 0 from z1), if_neg (show ¬ x2 = 0 by omega), if_neg (show ¬ x2 = 1 by omega), if_pos (show x2 = 2 from z4)]
    exact h0 y0 _ _ (by rw [y1]; exact (ms_e rfl rfl).symm) (fun b hb => by rw [y1]; exact (mset_ne hb).symm)
  · have y0 : v_309 x0 x1 x2 x3 d = 0 := by simp only [v_309, if_neg (show ¬ x1 < 0 from Int.not_lt.mpr z0), if_pos (show x1 < d (x0 + 1 + 10) 0 from z1), if_neg (show ¬ x2 = 0 by omega), if_neg (show ¬ x2 = 1 by omega), if_neg (show ¬ x2 = 2 by omega), if_pos (show x2 = 3 from z5)]
    have y1 : g_309 x0 x1 x2 x3 d = mset d x3 0 (v_111 (x0 + 1 + 57) x1 0 d) := by simp only [g_309, if_neg (show ¬ x1 < 0 from Int.not_lt.mpr z0), if_pos (show x1 < d (x0 + 1 + 10) 0 from z1), if_neg (show ¬ x2 = 0 by omega), if_neg (show ¬ x2 = 1 by omega), if_neg (show ¬ x2 = 2 by omega), if_pos (show x2 = 3 from z5)]
    exact h0 y0 _ _ (by rw [y1]; exact (ms_e rfl rfl).symm) (fun b hb => by rw [y1]; exact (mset_ne hb).symm)
  · have y0 : v_309 x0 x1 x2 x3 d = 0 := by simp only [v_309, if_neg (show ¬ x1 < 0 from Int.not_lt.mpr z0), if_pos (show x1 < d (x0 + 1 + 10) 0 from z1), if_neg (show ¬ x2 = 0 by omega), if_neg (show ¬ x2 = 1 by omega), if_neg (show ¬ x2 = 2 by omega), if_neg (show ¬ x2 = 3 by omega), if_pos (show x2 = 4 from z6)]
    have y1 : g_309 x0 x1 x2 x3 d = mset d x3 0 (v_111 (x0 + 1 + 57) x1 1 d) := by simp only [g_309, if_neg (show ¬ x1 < 0 from Int.not_lt.mpr z0), if_pos (show x1 < d (x0 + 1 + 10) 0 from z1), if_neg (show ¬ x2 = 0 by omega), if_neg (show ¬ x2 = 1 by omega), if_neg (show ¬ x2 = 2 by omega), if_neg (show ¬ x2 = 3 by omega), if_pos (show x2 = 4 from z6)]
    exact h0 y0 _ _ (by rw [y1]; exact (ms_e rfl rfl).symm) (fun b hb => by rw [y1]; exact (mset_ne hb).symm)
  · have y0 : v_309 x0 x1 x2 x3 d = 0 := by simp only [v_309, if_neg (show ¬ x1 < 0 from Int.not_lt.mpr z0), if_pos (show x1 < d (x0 + 1 + 10) 0 from z1), if_neg (show ¬ x2 = 0 by omega), if_neg (show ¬ x2 = 1 by omega), if_neg (show ¬ x2 = 2 by omega), if_neg (show ¬ x2 = 3 by omega), if_neg (show ¬ x2 = 4 by omega), if_pos (show x2 = 5 from z7)]
    have y1 : g_309 x0 x1 x2 x3 d = mset d x3 0 (v_111 (x0 + 1 + 57) x1 2 d) := by simp only [g_309, if_neg (show ¬ x1 < 0 from Int.not_lt.mpr z0), if_pos (show x1 < d (x0 + 1 + 10) 0 from z1), if_neg (show ¬ x2 = 0 by omega), if_neg (show ¬ x2 = 1 by omega), if_neg (show ¬ x2 = 2 by omega), if_neg (show ¬ x2 = 3 by omega), if_neg (show ¬ x2 = 4 by omega), if_pos (show x2 = 5 from z7)]
    exact h0 y0 _ _ (by rw [y1]; exact (ms_e rfl rfl).symm) (fun b hb => by rw [y1]; exact (mset_ne hb).symm)
  · have y0 : v_309 x0 x1 x2 x3 d = 0 := by simp only [v_309, if_neg (show ¬ x1 < 0 from Int.not_lt.mpr z0), if_pos (show x1 < d (x0 + 1 + 10) 0 from z1), if_neg (show ¬ x2 = 0 by omega), if_neg (show ¬ x2 = 1 by omega), if_neg (show ¬ x2 = 2 by omega), if_neg (show ¬ x2 = 3 by omega), if_neg (show ¬ x2 = 4 by omega), if_neg (show ¬ x2 = 5 by omega), if_pos (show x2 = 6 from z8)]
    have y1 : g_309 x0 x1 x2 x3 d = mset d x3 0 (v_83 (x0 + 1) x1 d) := by simp only [g_309, if_neg (show ¬ x1 < 0 from Int.not_lt.mpr z0), if_pos (show x1 < d (x0 + 1 + 10) 0 from z1), if_neg (show ¬ x2 = 0 by omega), if_neg (show ¬ x2 = 1 by omega), if_neg (show ¬ x2 = 2 by omega), if_neg (show ¬ x2 = 3 by omega), if_neg (show ¬ x2 = 4 by omega), if_neg (show ¬ x2 = 5 by omega), if_pos (show x2 = 6 from z8)]
    exact h0 y0 _ _ (by rw [y1]; exact (ms_e rfl rfl).symm) (fun b hb => by rw [y1]; exact (mset_ne hb).symm)
  · have y0 : v_309 x0 x1 x2 x3 d = 0 := by simp only [v_309, if_neg (show ¬ x1 < 0 from Int.not_lt.mpr z0), if_pos (show x1 < d (x0 + 1 + 10) 0 from z1), if_neg (show ¬ x2 = 0 by omega), if_neg (show ¬ x2 = 1 by omega), if_neg (show ¬ x2 = 2 by omega), if_neg (show ¬ x2 = 3 by omega), if_neg (show ¬ x2 = 4 by omega), if_neg (show ¬ x2 = 5 by omega), if_neg (show ¬ x2 = 6 by omega), if_pos (show x2 = 7 from z9)]
    have y1 : g_309 x0 x1 x2 x3 d = mset d x3 0 (d (x0 + 1 + 10 + 3) x1) := by simp only [g_309, if_neg (show ¬ x1 < 0 from Int.not_lt.mpr z0), if_pos (show x1 < d (x0 + 1 + 10) 0 from z1), if_neg (show ¬ x2 = 0 by omega), if_neg (show ¬ x2 = 1 by omega), if_neg (show ¬ x2 = 2 by omega), if_neg (show ¬ x2 = 3 by omega), if_neg (show ¬ x2 = 4 by omega), if_neg (show ¬ x2 = 5 by omega), if_neg (show ¬ x2 = 6 by omega), if_pos (show x2 = 7 from z9)]
    exact h0 y0 _ _ (by rw [y1]; exact (ms_e rfl rfl).symm) (fun b hb => by rw [y1]; exact (mset_ne hb).symm)
  · have y0 : v_309 x0 x1 x2 x3 d = 0 := by simp only [v_309, if_neg (show ¬ x1 < 0 from Int.not_lt.mpr z0), if_pos (show x1 < d (x0 + 1 + 10) 0 from z1), if_neg (show ¬ x2 = 0 by omega), if_neg (show ¬ x2 = 1 by omega), if_neg (show ¬ x2 = 2 by omega), if_neg (show ¬ x2 = 3 by omega), if_neg (show ¬ x2 = 4 by omega), if_neg (show ¬ x2 = 5 by omega), if_neg (show ¬ x2 = 6 by omega), if_neg (show ¬ x2 = 7 by omega), if_pos (show x2 = 8 from z10)]
    have y1 : g_309 x0 x1 x2 x3 d = mset d x3 0 (d (x0 + 1 + 10 + 4) x1) := by simp only [g_309, if_neg (show ¬ x1 < 0 from Int.not_lt.mpr z0), if_pos (show x1 < d (x0 + 1 + 10) 0 from z1), if_neg (show ¬ x2 = 0 by omega), if_neg (show ¬ x2 = 1 by omega), if_neg (show ¬ x2 = 2 by omega), if_neg (show ¬ x2 = 3 by omega), if_neg (show ¬ x2 = 4 by omega), if_neg (show ¬ x2 = 5 by omega), if_neg (show ¬ x2 = 6 by omega), if_neg (show ¬ x2 = 7 by omega), if_pos (show x2 = 8 from z10)]
    exact h0 y0 _ _ (by rw [y1]; exact (ms_e rfl rfl).symm) (fun b hb => by rw [y1]; exact (mset_ne hb).symm)
  · have y0 : v_309 x0 x1 x2 x3 d = 0 := by simp only [v_309, if_neg (show ¬ x1 < 0 from Int.not_lt.mpr z0), if_pos (show x1 < d (x0 + 1 + 10) 0 from z1), if_neg (show ¬ x2 = 0 by omega), if_neg (show ¬ x2 = 1 by omega), if_neg (show ¬ x2 = 2 by omega), if_neg (show ¬ x2 = 3 by omega), if_neg (show ¬ x2 = 4 by omega), if_neg (show ¬ x2 = 5 by omega), if_neg (show ¬ x2 = 6 by omega), if_neg (show ¬ x2 = 7 by omega), if_neg (show ¬ x2 = 8 by omega), if_pos (show x2 = 9 from z11)]
    have y1 : g_309 x0 x1 x2 x3 d = mset (g_72 (x0 + 1) x1 (x0 + 574) d) x3 0 (v_10 (x0 + 574) (x0 + 1 + 10 + 6 + (1 + 2 * x1)) (g_72 (x0 + 1) x1 (x0 + 574) d)) := by simp only [g_309, if_neg (show ¬ x1 < 0 from Int.not_lt.mpr z0), if_pos (show x1 < d (x0 + 1 + 10) 0 from z1), if_neg (show ¬ x2 = 0 by omega), if_neg (show ¬ x2 = 1 by omega), if_neg (show ¬ x2 = 2 by omega), if_neg (show ¬ x2 = 3 by omega), if_neg (show ¬ x2 = 4 by omega), if_neg (show ¬ x2 = 5 by omega), if_neg (show ¬ x2 = 6 by omega), if_neg (show ¬ x2 = 7 by omega), if_neg (show ¬ x2 = 8 by omega), if_pos (show x2 = 9 from z11)]
    exact h0 y0 _ _ (by rw [y1]; exact (ms_e rfl rfl).symm) (fun b hb => by rw [y1]; exact (mset_ne hb).symm)
  · have y0 : v_309 x0 x1 x2 x3 d = 2 := by simp only [v_309, if_neg (show ¬ x1 < 0 from Int.not_lt.mpr z0), if_pos (show x1 < d (x0 + 1 + 10) 0 from z1), if_neg (show ¬ x2 = 0 by omega), if_neg (show ¬ x2 = 1 by omega), if_neg (show ¬ x2 = 2 by omega), if_neg (show ¬ x2 = 3 by omega), if_neg (show ¬ x2 = 4 by omega), if_neg (show ¬ x2 = 5 by omega), if_neg (show ¬ x2 = 6 by omega), if_neg (show ¬ x2 = 7 by omega), if_neg (show ¬ x2 = 8 by omega), if_neg (show ¬ x2 = 9 by omega)]
    have y1 : g_309 x0 x1 x2 x3 d = d := by simp only [g_309, if_neg (show ¬ x1 < 0 from Int.not_lt.mpr z0), if_pos (show x1 < d (x0 + 1 + 10) 0 from z1), if_neg (show ¬ x2 = 0 by omega), if_neg (show ¬ x2 = 1 by omega), if_neg (show ¬ x2 = 2 by omega), if_neg (show ¬ x2 = 3 by omega), if_neg (show ¬ x2 = 4 by omega), if_neg (show ¬ x2 = 5 by omega), if_neg (show ¬ x2 = 6 by omega), if_neg (show ¬ x2 = 7 by omega), if_neg (show ¬ x2 = 8 by omega), if_neg (show ¬ x2 = 9 by omega)]
    exact h2_2 y0
  · have y0 : v_309 x0 x1 x2 x3 d = 1 := by simp only [v_309, if_neg (show ¬ x1 < 0 from Int.not_lt.mpr z0), if_neg (show ¬ x1 < d (x0 + 1 + 10) 0 from Int.not_lt.mpr z1)]
    have y1 : g_309 x0 x1 x2 x3 d = d := by simp only [g_309, if_neg (show ¬ x1 < 0 from Int.not_lt.mpr z0), if_neg (show ¬ x1 < d (x0 + 1 + 10) 0 from Int.not_lt.mpr z1)]
    exact h1_1 y0
theorem qq_310 {E : mO × tW} {K : tK} {d : mD} {x0 x1 x2 x3 : Int} (hS : Safe d) (hx0 : wbB x0) (p1 : -2147483648 ≤ x1 ∧ x1 ≤ 2147483647) (p2 : -2147483648 ≤ x2 ∧ x2 ≤ 2147483647) (h0 : v_310 x0 x1 x2 x3 d = 0 → ∀ v M, v = g_310 x0 x1 x2 x3 d x3 0 → (∀ b, ¬ b = x3 → M b = g_310 x0 x1 x2 x3 d b) → K (.inl (some (0, v))) M) (h1_1 : v_310 x0 x1 x2 x3 d = 1 → False) (h2_2 : v_310 x0 x1 x2 x3 d = 2 → False) : tCall E 415 [.inr (10, x0), .inl (0, x1), .inl (0, x2)] d K := by
  refine k_415 hS hx0 (m_inR (by omega) (by omega)) (m_inR (by omega) (by omega)) (fun z0 => ?_) (fun z0 z1 z2 e1 => ?_) (fun z0 z1 z2 z3 e2 => ?_) (fun z0 z1 z2 z3 z4 e3 => ?_) (fun z0 z1 z2 z3 z4 z5 e4 => ?_) (fun z0 z1 z2 z3 z4 z5 z6 e5 => ?_) (fun z0 z1 z2 z3 z4 z5 z6 z7 z8 e6 => ?_) (fun z0 z1 z2 z3 z4 z5 z6 z7 z8 e7 => ?_) (fun z0 z1 z2 z3 z4 z5 z6 z7 z8 z9 e8 => ?_) (fun z0 z1 z2 z3 z4 z5 z6 z7 z8 z9 e9 => ?_) (fun z0 z1 z2 z3 z4 z5 z6 z7 z8 z9 e10 => ?_) (fun z0 z1 z2 z3 z4 z5 z6 z7 z8 z9 z10 e11 => ?_) (fun z0 z1 z2 z3 z4 z5 z6 z7 z8 z9 z10 z11 e12 => ?_) (fun z0 z1 z2 z3 z4 z5 z6 z7 z8 z9 z10 z11 z12 e13 => ?_) (fun z0 z1 z2 z3 z4 z5 z6 z7 z8 z9 z10 z11 z12 => ?_) (fun z0 z1 => ?_)
  · have y0 : v_310 x0 x1 x2 x3 d = 1 := by simp only [v_310, if_pos (show x1 < 0 from z0)]
    have y1 : g_310 x0 x1 x2 x3 d = d := by simp only [g_310, if_pos (show x1 < 0 from z0)]
    exact h1_1 y0
  · have y0 : v_310 x0 x1 x2 x3 d = 0 := by simp only [v_310, if_neg (show ¬ x1 < 0 from Int.not_lt.mpr z0), if_pos (show x1 < d (x0 + 1 + 49) 0 from z1), if_pos (show x2 = 0 from z2)]
    have y1 : g_310 x0 x1 x2 x3 d = mset d x3 0 (d (x0 + 1 + 49 + 1) x1) := by simp only [g_310, if_neg (show ¬ x1 < 0 from Int.not_lt.mpr z0), if_pos (show x1 < d (x0 + 1 + 49) 0 from z1), if_pos (show x2 = 0 from z2)]
    exact h0 y0 _ _ (by rw [y1]; exact (ms_e rfl rfl).symm) (fun b hb => by rw [y1]; exact (mset_ne hb).symm)
  · have y0 : v_310 x0 x1 x2 x3 d = 0 := by simp only [v_310, if_neg (show ¬ x1 < 0 from Int.not_lt.mpr z0), if_pos (show x1 < d (x0 + 1 + 49) 0 from z1), if_neg (show ¬ x2 = 0 by omega), if_pos (show x2 = 1 from z3)]
    have y1 : g_310 x0 x1 x2 x3 d = mset d x3 0 (d (x0 + 1 + 49 + 2) x1) := by simp only [g_310, if_neg (show ¬ x1 < 0 from Int.not_lt.mpr z0), if_pos (show x1 < d (x0 + 1 + 49) 0 from z1), if_neg (show ¬ x2 = 0 by omega), if_pos (show x2 = 1 from z3)]
    exact h0 y0 _ _ (by rw [y1]; exact (ms_e rfl rfl).symm) (fun b hb => by rw [y1]; exact (mset_ne hb).symm)
  · have y0 : v_310 x0 x1 x2 x3 d = 0 := by simp only [v_310, if_neg (show ¬ x1 < 0 from Int.not_lt.mpr z0), if_pos (show x1 < d (x0 + 1 + 49) 0 from z1), if_neg (show ¬ x2 = 0 by omega), if_neg (show ¬ x2 = 1 by omega), if_pos (show x2 = 2 from z4)]
    have y1 : g_310 x0 x1 x2 x3 d = mset d x3 0 (d (x0 + 1 + 49 + 3) x1) := by simp only [g_310, if_neg (show ¬ x1 < 0 from Int.not_lt.mpr z0), if_pos (show x1 < d (x0 + 1 + 49) 0 from z1), if_neg (show ¬ x2 = 0 by omega), if_neg (show ¬ x2 = 1 by omega), if_pos (show x2 = 2 from z4)]
    exact h0 y0 _ _ (by rw [y1]; exact (ms_e rfl rfl).symm) (fun b hb => by rw [y1]; exact (mset_ne hb).symm)
  · have y0 : v_310 x0 x1 x2 x3 d = 0 := by simp only [v_310, if_neg (show ¬ x1 < 0 from Int.not_lt.mpr z0), if_pos (show x1 < d (x0 + 1 + 49) 0 from z1), if_neg (show ¬ x2 = 0 by omega), if_neg (show ¬ x2 = 1 by omega), if_neg (show ¬ x2 = 2 by omega), if_pos (show x2 = 3 from z5)]
    have y1 : g_310 x0 x1 x2 x3 d = mset d x3 0 (d (x0 + 1 + 49 + 4) x1) := by simp only [g_310, if_neg (show ¬ x1 < 0 from Int.not_lt.mpr z0), if_pos (show x1 < d (x0 + 1 + 49) 0 from z1), if_neg (show ¬ x2 = 0 by omega), if_neg (show ¬ x2 = 1 by omega), if_neg (show ¬ x2 = 2 by omega), if_pos (show x2 = 3 from z5)]
    exact h0 y0 _ _ (by rw [y1]; exact (ms_e rfl rfl).symm) (fun b hb => by rw [y1]; exact (mset_ne hb).symm)
  · have y0 : v_310 x0 x1 x2 x3 d = 0 := by simp only [v_310, if_neg (show ¬ x1 < 0 from Int.not_lt.mpr z0), if_pos (show x1 < d (x0 + 1 + 49) 0 from z1), if_neg (show ¬ x2 = 0 by omega), if_neg (show ¬ x2 = 1 by omega), if_neg (show ¬ x2 = 2 by omega), if_neg (show ¬ x2 = 3 by omega), if_pos (show x2 = 4 from z6)]
    have y1 : g_310 x0 x1 x2 x3 d = mset d x3 0 (d (x0 + 1 + 49 + 5) x1) := by simp only [g_310, if_neg (show ¬ x1 < 0 from Int.not_lt.mpr z0), if_pos (show x1 < d (x0 + 1 + 49) 0 from z1), if_neg (show ¬ x2 = 0 by omega), if_neg (show ¬ x2 = 1 by omega), if_neg (show ¬ x2 = 2 by omega), if_neg (show ¬ x2 = 3 by omega), if_pos (show x2 = 4 from z6)]
    exact h0 y0 _ _ (by rw [y1]; exact (ms_e rfl rfl).symm) (fun b hb => by rw [y1]; exact (mset_ne hb).symm)
  · have y0 : v_310 x0 x1 x2 x3 d = 0 := by simp only [v_310, if_neg (show ¬ x1 < 0 from Int.not_lt.mpr z0), if_pos (show x1 < d (x0 + 1 + 49) 0 from z1), if_neg (show ¬ x2 = 0 by omega), if_neg (show ¬ x2 = 1 by omega), if_neg (show ¬ x2 = 2 by omega), if_neg (show ¬ x2 = 3 by omega), if_neg (show ¬ x2 = 4 by omega), if_pos (show x2 = 5 from z7), if_neg (show ¬ d (x0 + 1 + 49 + 6) x1 = 0 from z8)]
    have y1 : g_310 x0 x1 x2 x3 d = mset d x3 0 1 := by simp only [g_310, if_neg (show ¬ x1 < 0 from Int.not_lt.mpr z0), if_pos (show x1 < d (x0 + 1 + 49) 0 from z1), if_neg (show ¬ x2 = 0 by omega), if_neg (show ¬ x2 = 1 by omega), if_neg (show ¬ x2 = 2 by omega), if_neg (show ¬ x2 = 3 by omega), if_neg (show ¬ x2 = 4 by omega), if_pos (show x2 = 5 from z7), if_neg (show ¬ d (x0 + 1 + 49 + 6) x1 = 0 from z8)]
    exact h0 y0 _ _ (by rw [y1]; exact (ms_e rfl rfl).symm) (fun b hb => by rw [y1]; exact (mset_ne hb).symm)
  · have y0 : v_310 x0 x1 x2 x3 d = 0 := by simp only [v_310, if_neg (show ¬ x1 < 0 from Int.not_lt.mpr z0), if_pos (show x1 < d (x0 + 1 + 49) 0 from z1), if_neg (show ¬ x2 = 0 by omega), if_neg (show ¬ x2 = 1 by omega), if_neg (show ¬ x2 = 2 by omega), if_neg (show ¬ x2 = 3 by omega), if_neg (show ¬ x2 = 4 by omega), if_pos (show x2 = 5 from z7), if_pos (show d (x0 + 1 + 49 + 6) x1 = 0 from z8)]
    have y1 : g_310 x0 x1 x2 x3 d = mset d x3 0 0 := by simp only [g_310, if_neg (show ¬ x1 < 0 from Int.not_lt.mpr z0), if_pos (show x1 < d (x0 + 1 + 49) 0 from z1), if_neg (show ¬ x2 = 0 by omega), if_neg (show ¬ x2 = 1 by omega), if_neg (show ¬ x2 = 2 by omega), if_neg (show ¬ x2 = 3 by omega), if_neg (show ¬ x2 = 4 by omega), if_pos (show x2 = 5 from z7), if_pos (show d (x0 + 1 + 49 + 6) x1 = 0 from z8)]
    exact h0 y0 _ _ (by rw [y1]; exact (ms_e rfl rfl).symm) (fun b hb => by rw [y1]; exact (mset_ne hb).symm)
  · have y0 : v_310 x0 x1 x2 x3 d = 0 := by simp only [v_310, if_neg (show ¬ x1 < 0 from Int.not_lt.mpr z0), if_pos (show x1 < d (x0 + 1 + 49) 0 from z1), if_neg (show ¬ x2 = 0 by omega), if_neg (show ¬ x2 = 1 by omega), if_neg (show ¬ x2 = 2 by omega), if_neg (show ¬ x2 = 3 by omega), if_neg (show ¬ x2 = 4 by omega), if_neg (show ¬ x2 = 5 by omega), if_pos (show x2 = 6 from z8), if_neg (show ¬ d (x0 + 1 + 49 + 6) x1 = 2 from z9)]
    have y1 : g_310 x0 x1 x2 x3 d = mset d x3 0 0 := by simp only [g_310, if_neg (show ¬ x1 < 0 from Int.not_lt.mpr z0), if_pos (show x1 < d (x0 + 1 + 49) 0 from z1), if_neg (show ¬ x2 = 0 by omega), if_neg (show ¬ x2 = 1 by omega), if_neg (show ¬ x2 = 2 by omega), if_neg (show ¬ x2 = 3 by omega), if_neg (show ¬ x2 = 4 by omega), if_neg (show ¬ x2 = 5 by omega), if_pos (show x2 = 6 from z8), if_neg (show ¬ d (x0 + 1 + 49 + 6) x1 = 2 from z9)]
    exact h0 y0 _ _ (by rw [y1]; exact (ms_e rfl rfl).symm) (fun b hb => by rw [y1]; exact (mset_ne hb).symm)
  · have y0 : v_310 x0 x1 x2 x3 d = 0 := by simp only [v_310, if_neg (show ¬ x1 < 0 from Int.not_lt.mpr z0), if_pos (show x1 < d (x0 + 1 + 49) 0 from z1), if_neg (show ¬ x2 = 0 by omega), if_neg (show ¬ x2 = 1 by omega), if_neg (show ¬ x2 = 2 by omega), if_neg (show ¬ x2 = 3 by omega), if_neg (show ¬ x2 = 4 by omega), if_neg (show ¬ x2 = 5 by omega), if_pos (show x2 = 6 from z8), if_pos (show d (x0 + 1 + 49 + 6) x1 = 2 from z9)]
    have y1 : g_310 x0 x1 x2 x3 d = mset d x3 0 1 := by simp only [g_310, if_neg (show ¬ x1 < 0 from Int.not_lt.mpr z0), if_pos (show x1 < d (x0 + 1 + 49) 0 from z1), if_neg (show ¬ x2 = 0 by omega), if_neg (show ¬ x2 = 1 by omega), if_neg (show ¬ x2 = 2 by omega), if_neg (show ¬ x2 = 3 by omega), if_neg (show ¬ x2 = 4 by omega), if_neg (show ¬ x2 = 5 by omega), if_pos (show x2 = 6 from z8), if_pos (show d (x0 + 1 + 49 + 6) x1 = 2 from z9)]
    exact h0 y0 _ _ (by rw [y1]; exact (ms_e rfl rfl).symm) (fun b hb => by rw [y1]; exact (mset_ne hb).symm)
  · have y0 : v_310 x0 x1 x2 x3 d = 0 := by simp only [v_310, if_neg (show ¬ x1 < 0 from Int.not_lt.mpr z0), if_pos (show x1 < d (x0 + 1 + 49) 0 from z1), if_neg (show ¬ x2 = 0 by omega), if_neg (show ¬ x2 = 1 by omega), if_neg (show ¬ x2 = 2 by omega), if_neg (show ¬ x2 = 3 by omega), if_neg (show ¬ x2 = 4 by omega), if_neg (show ¬ x2 = 5 by omega), if_neg (show ¬ x2 = 6 by omega), if_pos (show x2 = 7 from z9)]
    have y1 : g_310 x0 x1 x2 x3 d = mset d x3 0 (v_298 (d (x0 + 1 + 49 + 7) x1) d) := by simp only [g_310, if_neg (show ¬ x1 < 0 from Int.not_lt.mpr z0), if_pos (show x1 < d (x0 + 1 + 49) 0 from z1), if_neg (show ¬ x2 = 0 by omega), if_neg (show ¬ x2 = 1 by omega), if_neg (show ¬ x2 = 2 by omega), if_neg (show ¬ x2 = 3 by omega), if_neg (show ¬ x2 = 4 by omega), if_neg (show ¬ x2 = 5 by omega), if_neg (show ¬ x2 = 6 by omega), if_pos (show x2 = 7 from z9)]
    exact h0 y0 _ _ (by rw [y1]; exact (ms_e rfl rfl).symm) (fun b hb => by rw [y1]; exact (mset_ne hb).symm)
  · have y0 : v_310 x0 x1 x2 x3 d = 0 := by simp only [v_310, if_neg (show ¬ x1 < 0 from Int.not_lt.mpr z0), if_pos (show x1 < d (x0 + 1 + 49) 0 from z1), if_neg (show ¬ x2 = 0 by omega), if_neg (show ¬ x2 = 1 by omega), if_neg (show ¬ x2 = 2 by omega), if_neg (show ¬ x2 = 3 by omega), if_neg (show ¬ x2 = 4 by omega), if_neg (show ¬ x2 = 5 by omega), if_neg (show ¬ x2 = 6 by omega), if_neg (show ¬ x2 = 7 by omega), if_pos (show x2 = 8 from z10)]
    have y1 : g_310 x0 x1 x2 x3 d = mset d x3 0 (v_71 (x0 + 1) x1 d) := by simp only [g_310, if_neg (show ¬ x1 < 0 from Int.not_lt.mpr z0), if_pos (show x1 < d (x0 + 1 + 49) 0 from z1), if_neg (show ¬ x2 = 0 by omega), if_neg (show ¬ x2 = 1 by omega), if_neg (show ¬ x2 = 2 by omega), if_neg (show ¬ x2 = 3 by omega), if_neg (show ¬ x2 = 4 by omega), if_neg (show ¬ x2 = 5 by omega), if_neg (show ¬ x2 = 6 by omega), if_neg (show ¬ x2 = 7 by omega), if_pos (show x2 = 8 from z10)]
    exact h0 y0 _ _ (by rw [y1]; exact (ms_e rfl rfl).symm) (fun b hb => by rw [y1]; exact (mset_ne hb).symm)
  · have y0 : v_310 x0 x1 x2 x3 d = 0 := by simp only [v_310, if_neg (show ¬ x1 < 0 from Int.not_lt.mpr z0), if_pos (show x1 < d (x0 + 1 + 49) 0 from z1), if_neg (show ¬ x2 = 0 by omega), if_neg (show ¬ x2 = 1 by omega), if_neg (show ¬ x2 = 2 by omega), if_neg (show ¬ x2 = 3 by omega), if_neg (show ¬ x2 = 4 by omega), if_neg (show ¬ x2 = 5 by omega), if_neg (show ¬ x2 = 6 by omega), if_neg (show ¬ x2 = 7 by omega), if_neg (show ¬ x2 = 8 by omega), if_pos (show x2 = 9 from z11)]
    have y1 : g_310 x0 x1 x2 x3 d = mset d x3 0 (v_112 (x0 + 1 + 57) x1 d) := by simp only [g_310, if_neg (show ¬ x1 < 0 from Int.not_lt.mpr z0), if_pos (show x1 < d (x0 + 1 + 49) 0 from z1), if_neg (show ¬ x2 = 0 by omega), if_neg (show ¬ x2 = 1 by omega), if_neg (show ¬ x2 = 2 by omega), if_neg (show ¬ x2 = 3 by omega), if_neg (show ¬ x2 = 4 by omega), if_neg (show ¬ x2 = 5 by omega), if_neg (show ¬ x2 = 6 by omega), if_neg (show ¬ x2 = 7 by omega), if_neg (show ¬ x2 = 8 by omega), if_pos (show x2 = 9 from z11)]
    exact h0 y0 _ _ (by rw [y1]; exact (ms_e rfl rfl).symm) (fun b hb => by rw [y1]; exact (mset_ne hb).symm)
  · have y0 : v_310 x0 x1 x2 x3 d = 0 := by simp only [v_310, if_neg (show ¬ x1 < 0 from Int.not_lt.mpr z0), if_pos (show x1 < d (x0 + 1 + 49) 0 from z1), if_neg (show ¬ x2 = 0 by omega), if_neg (show ¬ x2 = 1 by omega), if_neg (show ¬ x2 = 2 by omega), if_neg (show ¬ x2 = 3 by omega), if_neg (show ¬ x2 = 4 by omega), if_neg (show ¬ x2 = 5 by omega), if_neg (show ¬ x2 = 6 by omega), if_neg (show ¬ x2 = 7 by omega), if_neg (show ¬ x2 = 8 by omega), if_neg (show ¬ x2 = 9 by omega), if_pos (show x2 = 10 from z12)]
    have y1 : g_310 x0 x1 x2 x3 d = mset d x3 0 (v_39 (x0 + 1 + 2) (d (x0 + 1 + 49 + 2) x1) x1 d) := by simp only [g_310, if_neg (show ¬ x1 < 0 from Int.not_lt.mpr z0), if_pos (show x1 < d (x0 + 1 + 49) 0 from z1), if_neg (show ¬ x2 = 0 by omega), if_neg (show ¬ x2 = 1 by omega), if_neg (show ¬ x2 = 2 by omega), if_neg (show ¬ x2 = 3 by omega), if_neg (show ¬ x2 = 4 by omega), if_neg (show ¬ x2 = 5 by omega), if_neg (show ¬ x2 = 6 by omega), if_neg (show ¬ x2 = 7 by omega), if_neg (show ¬ x2 = 8 by omega), if_neg (show ¬ x2 = 9 by omega), if_pos (show x2 = 10 from z12)]
    exact h0 y0 _ _ (by rw [y1]; exact (ms_e rfl rfl).symm) (fun b hb => by rw [y1]; exact (mset_ne hb).symm)
  · have y0 : v_310 x0 x1 x2 x3 d = 2 := by simp only [v_310, if_neg (show ¬ x1 < 0 from Int.not_lt.mpr z0), if_pos (show x1 < d (x0 + 1 + 49) 0 from z1), if_neg (show ¬ x2 = 0 by omega), if_neg (show ¬ x2 = 1 by omega), if_neg (show ¬ x2 = 2 by omega), if_neg (show ¬ x2 = 3 by omega), if_neg (show ¬ x2 = 4 by omega), if_neg (show ¬ x2 = 5 by omega), if_neg (show ¬ x2 = 6 by omega), if_neg (show ¬ x2 = 7 by omega), if_neg (show ¬ x2 = 8 by omega), if_neg (show ¬ x2 = 9 by omega), if_neg (show ¬ x2 = 10 by omega)]
    have y1 : g_310 x0 x1 x2 x3 d = d := by simp only [g_310, if_neg (show ¬ x1 < 0 from Int.not_lt.mpr z0), if_pos (show x1 < d (x0 + 1 + 49) 0 from z1), if_neg (show ¬ x2 = 0 by omega), if_neg (show ¬ x2 = 1 by omega), if_neg (show ¬ x2 = 2 by omega), if_neg (show ¬ x2 = 3 by omega), if_neg (show ¬ x2 = 4 by omega), if_neg (show ¬ x2 = 5 by omega), if_neg (show ¬ x2 = 6 by omega), if_neg (show ¬ x2 = 7 by omega), if_neg (show ¬ x2 = 8 by omega), if_neg (show ¬ x2 = 9 by omega), if_neg (show ¬ x2 = 10 by omega)]
    exact h2_2 y0
  · have y0 : v_310 x0 x1 x2 x3 d = 1 := by simp only [v_310, if_neg (show ¬ x1 < 0 from Int.not_lt.mpr z0), if_neg (show ¬ x1 < d (x0 + 1 + 49) 0 from Int.not_lt.mpr z1)]
    have y1 : g_310 x0 x1 x2 x3 d = d := by simp only [g_310, if_neg (show ¬ x1 < 0 from Int.not_lt.mpr z0), if_neg (show ¬ x1 < d (x0 + 1 + 49) 0 from Int.not_lt.mpr z1)]
    exact h1_1 y0
theorem qq_311 {E : mO × tW} {K : tK} {d : mD} {x0 x1 x2 x3 : Int} (hS : Safe d) (hx0 : wbB x0) (p1 : -2147483648 ≤ x1 ∧ x1 ≤ 2147483647) (p2 : -2147483648 ≤ x2 ∧ x2 ≤ 2147483647) (h0 : v_311 x0 x1 x2 x3 d = 0 → ∀ v M, v = g_311 x0 x1 x2 x3 d x3 0 → (∀ b, ¬ b = x3 → M b = g_311 x0 x1 x2 x3 d b) → K (.inl (some (0, v))) M) (h1_1 : v_311 x0 x1 x2 x3 d = 1 → False) (h2_2 : v_311 x0 x1 x2 x3 d = 2 → False) : tCall E 416 [.inr (10, x0), .inl (0, x1), .inl (0, x2)] d K := by
  refine k_416 hS hx0 (m_inR (by omega) (by omega)) (m_inR (by omega) (by omega)) (fun z0 => ?_) (fun z0 z1 z2 e1 => ?_) (fun z0 z1 z2 z3 e2 => ?_) (fun z0 z1 z2 z3 z4 e3 => ?_) (fun z0 z1 z2 z3 z4 z5 e4 => ?_) (fun z0 z1 z2 z3 z4 z5 z6 e5 => ?_) (fun z0 z1 z2 z3 z4 z5 z6 => ?_) (fun z0 z1 => ?_)
  · have y0 : v_311 x0 x1 x2 x3 d = 1 := by simp only [v_311, if_pos (show x1 < 0 from z0)]
    have y1 : g_311 x0 x1 x2 x3 d = d := by simp only [g_311, if_pos (show x1 < 0 from z0)]
    exact h1_1 y0
  · have y0 : v_311 x0 x1 x2 x3 d = 0 := by simp only [v_311, if_neg (show ¬ x1 < 0 from Int.not_lt.mpr z0), if_pos (show x1 < d (x0 + 1 + 57) 0 from z1), if_pos (show x2 = 0 from z2)]
    have y1 : g_311 x0 x1 x2 x3 d = mset d x3 0 (d (x0 + 1 + 57 + 1) x1) := by simp only [g_311, if_neg (show ¬ x1 < 0 from Int.not_lt.mpr z0), if_pos (show x1 < d (x0 + 1 + 57) 0 from z1), if_pos (show x2 = 0 from z2)]
    exact h0 y0 _ _ (by rw [y1]; exact (ms_e rfl rfl).symm) (fun b hb => by rw [y1]; exact (mset_ne hb).symm)
  · have y0 : v_311 x0 x1 x2 x3 d = 0 := by simp only [v_311, if_neg (show ¬ x1 < 0 from Int.not_lt.mpr z0), if_pos (show x1 < d (x0 + 1 + 57) 0 from z1), if_neg (show ¬ x2 = 0 by omega), if_pos (show x2 = 1 from z3)]
    have y1 : g_311 x0 x1 x2 x3 d = mset d x3 0 (d (x0 + 1 + 57 + 2) x1) := by simp only [g_311, if_neg (show ¬ x1 < 0 from Int.not_lt.mpr z0), if_pos (show x1 < d (x0 + 1 + 57) 0 from z1), if_neg (show ¬ x2 = 0 by omega), if_pos (show x2 = 1 from z3)]
    exact h0 y0 _ _ (by rw [y1]; exact (ms_e rfl rfl).symm) (fun b hb => by rw [y1]; exact (mset_ne hb).symm)
  · have y0 : v_311 x0 x1 x2 x3 d = 0 := by simp only [v_311, if_neg (show ¬ x1 < 0 from Int.not_lt.mpr z0), if_pos (show x1 < d (x0 + 1 + 57) 0 from z1), if_neg (show ¬ x2 = 0 by omega), if_neg (show ¬ x2 = 1 by omega), if_pos (show x2 = 2 from z4)]
    have y1 : g_311 x0 x1 x2 x3 d = mset d x3 0 (d (x0 + 1 + 57 + 3) x1) := by simp only [g_311, if_neg (show ¬ x1 < 0 from Int.not_lt.mpr z0), if_pos (show x1 < d (x0 + 1 + 57) 0 from z1), if_neg (show ¬ x2 = 0 by omega), if_neg (show ¬ x2 = 1 by omega), if_pos (show x2 = 2 from z4)]
    exact h0 y0 _ _ (by rw [y1]; exact (ms_e rfl rfl).symm) (fun b hb => by rw [y1]; exact (mset_ne hb).symm)
  · have y0 : v_311 x0 x1 x2 x3 d = 0 := by simp only [v_311, if_neg (show ¬ x1 < 0 from Int.not_lt.mpr z0), if_pos (show x1 < d (x0 + 1 + 57) 0 from z1), if_neg (show ¬ x2 = 0 by omega), if_neg (show ¬ x2 = 1 by omega), if_neg (show ¬ x2 = 2 by omega), if_pos (show x2 = 3 from z5)]
    have y1 : g_311 x0 x1 x2 x3 d = mset d x3 0 (d (x0 + 1 + 57 + 4) x1) := by simp only [g_311, if_neg (show ¬ x1 < 0 from Int.not_lt.mpr z0), if_pos (show x1 < d (x0 + 1 + 57) 0 from z1), if_neg (show ¬ x2 = 0 by omega), if_neg (show ¬ x2 = 1 by omega), if_neg (show ¬ x2 = 2 by omega), if_pos (show x2 = 3 from z5)]
    exact h0 y0 _ _ (by rw [y1]; exact (ms_e rfl rfl).symm) (fun b hb => by rw [y1]; exact (mset_ne hb).symm)
  · have y0 : v_311 x0 x1 x2 x3 d = 0 := by simp only [v_311, if_neg (show ¬ x1 < 0 from Int.not_lt.mpr z0), if_pos (show x1 < d (x0 + 1 + 57) 0 from z1), if_neg (show ¬ x2 = 0 by omega), if_neg (show ¬ x2 = 1 by omega), if_neg (show ¬ x2 = 2 by omega), if_neg (show ¬ x2 = 3 by omega), if_pos (show x2 = 4 from z6)]
    have y1 : g_311 x0 x1 x2 x3 d = mset d x3 0 (v_113 (x0 + 1 + 57) x1 d) := by simp only [g_311, if_neg (show ¬ x1 < 0 from Int.not_lt.mpr z0), if_pos (show x1 < d (x0 + 1 + 57) 0 from z1), if_neg (show ¬ x2 = 0 by omega), if_neg (show ¬ x2 = 1 by omega), if_neg (show ¬ x2 = 2 by omega), if_neg (show ¬ x2 = 3 by omega), if_pos (show x2 = 4 from z6)]
    exact h0 y0 _ _ (by rw [y1]; exact (ms_e rfl rfl).symm) (fun b hb => by rw [y1]; exact (mset_ne hb).symm)
  · have y0 : v_311 x0 x1 x2 x3 d = 2 := by simp only [v_311, if_neg (show ¬ x1 < 0 from Int.not_lt.mpr z0), if_pos (show x1 < d (x0 + 1 + 57) 0 from z1), if_neg (show ¬ x2 = 0 by omega), if_neg (show ¬ x2 = 1 by omega), if_neg (show ¬ x2 = 2 by omega), if_neg (show ¬ x2 = 3 by omega), if_neg (show ¬ x2 = 4 by omega)]
    have y1 : g_311 x0 x1 x2 x3 d = d := by simp only [g_311, if_neg (show ¬ x1 < 0 from Int.not_lt.mpr z0), if_pos (show x1 < d (x0 + 1 + 57) 0 from z1), if_neg (show ¬ x2 = 0 by omega), if_neg (show ¬ x2 = 1 by omega), if_neg (show ¬ x2 = 2 by omega), if_neg (show ¬ x2 = 3 by omega), if_neg (show ¬ x2 = 4 by omega)]
    exact h2_2 y0
  · have y0 : v_311 x0 x1 x2 x3 d = 1 := by simp only [v_311, if_neg (show ¬ x1 < 0 from Int.not_lt.mpr z0), if_neg (show ¬ x1 < d (x0 + 1 + 57) 0 from Int.not_lt.mpr z1)]
    have y1 : g_311 x0 x1 x2 x3 d = d := by simp only [g_311, if_neg (show ¬ x1 < 0 from Int.not_lt.mpr z0), if_neg (show ¬ x1 < d (x0 + 1 + 57) 0 from Int.not_lt.mpr z1)]
    exact h1_1 y0
