/-! ===== contracts of the methods: printed by a program of mine ===== -/
def puR (x0 x1 : Int) (d : mD) : Prop := x1 < 0 ∨ d (x0 + 1 + 10) 0 ≤ x1 ∨ (-2147483648 ≤ d (x0 + 1 + 10 + 2) x1 ∧ d (x0 + 1 + 10 + 2) x1 ≤ 2147483647)
theorem puR.use {x0 x1 : Int} {d : mD} (h : puR x0 x1 d) (h0 : 0 ≤ x1) (h1 : x1 < d (x0 + 1 + 10) 0) : -2147483648 ≤ d (x0 + 1 + 10 + 2) x1 ∧ d (x0 + 1 + 10 + 2) x1 ≤ 2147483647 := by
  unfold puR at h; omega
theorem k_165 {E : mO × tW} {K : tK} {d : mD} {x0 x1 : Int} (hS : Safe d) (hx0 : wbB x0) (p1 : -2147483648 ≤ x1 ∧ x1 ≤ 2147483647) (h0 : (x1 < 0) → K (.inr 1) d) (h1 : (0 ≤ x1) → (x1 < d (x0 + 1 + 2) 0) → K (.inl none) d) (h2 : (0 ≤ x1) → (d (x0 + 1 + 2) 0 ≤ x1) → K (.inr 1) d) : tCall E 165 [.inr (10, x0), .inl (0, x1)] d K := by
  refine t_165_0 ?_
  have w0 : x0 = 0 := hx0
  have w2 := r_6_f2 hS (wbB.nw hx0)
  have w3 := r_3_f0 hS (stB.of (wbB.nw hx0))
  have w4 := r_4_f0 hS (stB.pe (wbB.nw hx0))
  have w5 := r_8_f0 hS (stB.ti (wbB.nw hx0))
  have w6 := r_9_f0 hS (stB.to (wbB.nw hx0))
  have w7 := r_7_f1 hS (wbB.tx hx0)
  refine ⟨m_inR (by omega) (by omega), fun c0 => ?_, fun c0 => ?_⟩
  · exact h0 c0
  · have q1 := r_3_f0 hS (stB.of (wbB.nw hx0))
    refine ⟨⟨m_inR (by omega) (by omega), m_inR (by omega) (by omega)⟩, fun c1 => ?_, fun c1 => ?_⟩
    · exact h1 c0 c1
    · exact h2 c0 c1
theorem k_166 {E : mO × tW} {K : tK} {d : mD} {x0 x1 : Int} (hS : Safe d) (hx0 : wbB x0) (p1 : -2147483648 ≤ x1 ∧ x1 ≤ 2147483647) (h0 : (x1 < 0) → K (.inr 1) d) (h1 : (0 ≤ x1) → (x1 < d (x0 + 1 + 10) 0) → K (.inl none) d) (h2 : (0 ≤ x1) → (d (x0 + 1 + 10) 0 ≤ x1) → K (.inr 1) d) : tCall E 166 [.inr (10, x0), .inl (0, x1)] d K := by
  refine t_166_0 ?_
  have w0 : x0 = 0 := hx0
  have w2 := r_6_f2 hS (wbB.nw hx0)
  have w3 := r_3_f0 hS (stB.of (wbB.nw hx0))
  have w4 := r_4_f0 hS (stB.pe (wbB.nw hx0))
  have w5 := r_8_f0 hS (stB.ti (wbB.nw hx0))
  have w6 := r_9_f0 hS (stB.to (wbB.nw hx0))
  have w7 := r_7_f1 hS (wbB.tx hx0)
  refine ⟨m_inR (by omega) (by omega), fun c0 => ?_, fun c0 => ?_⟩
  · exact h0 c0
  · have q1 := r_4_f0 hS (stB.pe (wbB.nw hx0))
    refine ⟨⟨m_inR (by omega) (by omega), m_inR (by omega) (by omega)⟩, fun c1 => ?_, fun c1 => ?_⟩
    · exact h1 c0 c1
    · exact h2 c0 c1
theorem k_167 {E : mO × tW} {K : tK} {d : mD} {x0 x1 : Int} (hS : Safe d) (hx0 : wbB x0) (p1 : -2147483648 ≤ x1 ∧ x1 ≤ 2147483647) (h0 : (x1 < 0) → K (.inr 1) d) (h1 : (0 ≤ x1) → (x1 < d (x0 + 1 + 49) 0) → K (.inl none) d) (h2 : (0 ≤ x1) → (d (x0 + 1 + 49) 0 ≤ x1) → K (.inr 1) d) : tCall E 167 [.inr (10, x0), .inl (0, x1)] d K := by
  refine t_167_0 ?_
  have w0 : x0 = 0 := hx0
  have w2 := r_6_f2 hS (wbB.nw hx0)
  have w3 := r_3_f0 hS (stB.of (wbB.nw hx0))
  have w4 := r_4_f0 hS (stB.pe (wbB.nw hx0))
  have w5 := r_8_f0 hS (stB.ti (wbB.nw hx0))
  have w6 := r_9_f0 hS (stB.to (wbB.nw hx0))
  have w7 := r_7_f1 hS (wbB.tx hx0)
  refine ⟨m_inR (by omega) (by omega), fun c0 => ?_, fun c0 => ?_⟩
  · exact h0 c0
  · have q1 := r_8_f0 hS (stB.ti (wbB.nw hx0))
    refine ⟨⟨m_inR (by omega) (by omega), m_inR (by omega) (by omega)⟩, fun c1 => ?_, fun c1 => ?_⟩
    · exact h1 c0 c1
    · exact h2 c0 c1
theorem k_168 {E : mO × tW} {K : tK} {d : mD} {x0 x1 : Int} (hS : Safe d) (hx0 : wbB x0) (p1 : -2147483648 ≤ x1 ∧ x1 ≤ 2147483647) (h0 : (x1 < 0) → K (.inr 1) d) (h1 : (0 ≤ x1) → (x1 < 2) → K (.inl none) d) (h2 : (0 ≤ x1) → (2 ≤ x1) → K (.inr 1) d) : tCall E 168 [.inr (10, x0), .inl (0, x1)] d K := by
  refine t_168_0 ?_
  have w0 : x0 = 0 := hx0
  have w2 := r_6_f2 hS (wbB.nw hx0)
  have w3 := r_3_f0 hS (stB.of (wbB.nw hx0))
  have w4 := r_4_f0 hS (stB.pe (wbB.nw hx0))
  have w5 := r_8_f0 hS (stB.ti (wbB.nw hx0))
  have w6 := r_9_f0 hS (stB.to (wbB.nw hx0))
  have w7 := r_7_f1 hS (wbB.tx hx0)
  refine ⟨m_inR (by omega) (by omega), fun c0 => ?_, fun c0 => ?_⟩
  · exact h0 c0
  · refine ⟨⟨m_inR (by omega) (by omega), m_inR (by omega) (by omega)⟩, fun c1 => ?_, fun c1 => ?_⟩
    · exact h1 c0 c1
    · exact h2 c0 c1
theorem k_169 {E : mO × tW} {K : tK} {d : mD} {x0 x1 : Int} (hS : Safe d) (hx0 : wbB x0) (p1 : -2147483648 ≤ x1 ∧ x1 ≤ 2147483647) (h0 : (x1 < 0) → K (.inr 2) d) (h1 : (0 ≤ x1) → (x1 < 5) → K (.inl none) d) (h2 : (0 ≤ x1) → (5 ≤ x1) → K (.inr 2) d) : tCall E 169 [.inr (10, x0), .inl (0, x1)] d K := by
  refine t_169_0 ?_
  have w0 : x0 = 0 := hx0
  have w2 := r_6_f2 hS (wbB.nw hx0)
  have w3 := r_3_f0 hS (stB.of (wbB.nw hx0))
  have w4 := r_4_f0 hS (stB.pe (wbB.nw hx0))
  have w5 := r_8_f0 hS (stB.ti (wbB.nw hx0))
  have w6 := r_9_f0 hS (stB.to (wbB.nw hx0))
  have w7 := r_7_f1 hS (wbB.tx hx0)
  refine ⟨m_inR (by omega) (by omega), fun c0 => ?_, fun c0 => ?_⟩
  · exact h0 c0
  · refine ⟨⟨m_inR (by omega) (by omega), m_inR (by omega) (by omega)⟩, fun c1 => ?_, fun c1 => ?_⟩
    · exact h1 c0 c1
    · exact h2 c0 c1
theorem k_170 {E : mO × tW} {K : tK} {d : mD} {x0 x1 : Int} (hS : Safe d) (hx0 : wbB x0) (p1 : -2147483648 ≤ x1 ∧ x1 ≤ 2147483647) (h0 : (x1 < 0) → K (.inr 2) d) (h1 : (0 ≤ x1) → (x1 ≤ (200 : Int)) → K (.inl none) d) (h2 : (0 ≤ x1) → ((200 : Int) < x1) → K (.inr 2) d) : tCall E 170 [.inr (10, x0), .inl (0, x1)] d K := by
  refine t_170_0 ?_
  have w0 : x0 = 0 := hx0
  have w2 := r_6_f2 hS (wbB.nw hx0)
  have w3 := r_3_f0 hS (stB.of (wbB.nw hx0))
  have w4 := r_4_f0 hS (stB.pe (wbB.nw hx0))
  have w5 := r_8_f0 hS (stB.ti (wbB.nw hx0))
  have w6 := r_9_f0 hS (stB.to (wbB.nw hx0))
  have w7 := r_7_f1 hS (wbB.tx hx0)
  refine ⟨m_inR (by omega) (by omega), fun c0 => ?_, fun c0 => ?_⟩
  · exact h0 c0
  · refine ⟨⟨m_inR (by omega) (by omega), m_inR (by omega) (by omega)⟩, fun c1 => ?_, fun c1 => ?_⟩
    · exact h1 c0 c1
    · exact h2 c0 c1
theorem k_171 {E : mO × tW} {K : tK} {d : mD} {x0 x1 : Int} (hS : Safe d) (hx0 : wbB x0) (p1 : -2147483648 ≤ x1 ∧ x1 ≤ 2147483647) (h0 : (x1 < 1) → K (.inr 2) d) (h1 : (1 ≤ x1) → (x1 ≤ (200 : Int)) → K (.inl none) d) (h2 : (1 ≤ x1) → ((200 : Int) < x1) → K (.inr 2) d) : tCall E 171 [.inr (10, x0), .inl (0, x1)] d K := by
  refine t_171_0 ?_
  have w0 : x0 = 0 := hx0
  have w2 := r_6_f2 hS (wbB.nw hx0)
  have w3 := r_3_f0 hS (stB.of (wbB.nw hx0))
  have w4 := r_4_f0 hS (stB.pe (wbB.nw hx0))
  have w5 := r_8_f0 hS (stB.ti (wbB.nw hx0))
  have w6 := r_9_f0 hS (stB.to (wbB.nw hx0))
  have w7 := r_7_f1 hS (wbB.tx hx0)
  refine ⟨⟨m_inR (by omega) (by omega), m_inR (by omega) (by omega)⟩, fun c0 => ?_, fun c0 => ?_⟩
  · exact h0 c0
  · refine ⟨⟨m_inR (by omega) (by omega), m_inR (by omega) (by omega)⟩, fun c1 => ?_, fun c1 => ?_⟩
    · exact h1 c0 c1
    · exact h2 c0 c1
theorem k_172 {E : mO × tW} {K : tK} {d : mD} {x0 x1 x2 : Int} (hS : Safe d) (hx0 : wbB x0) (p1 : -2147483648 ≤ x1 ∧ x1 ≤ 2147483647) (p2 : -2147483648 ≤ x2 ∧ x2 ≤ 2147483647) (h0 : (x1 < 0) → K (.inr 1) d) (h1 : (0 ≤ x1) → (x1 < d (x0 + 1 + 2) 0) → (x2 < 0) → K (.inr 1) d) (h2 : (0 ≤ x1) → (x1 < d (x0 + 1 + 2) 0) → (0 ≤ x2) → (x2 < d (x0 + 1 + 2) 0) → (x1 = x2) → K (.inr 0) d) (h3 : (0 ≤ x1) → (x1 < d (x0 + 1 + 2) 0) → (0 ≤ x2) → (x2 < d (x0 + 1 + 2) 0) → (¬ x1 = x2) → (d (x0 + 1 + 2 + 5) x1 = 0) → K (.inr 0) d) (h4 : (0 ≤ x1) → (x1 < d (x0 + 1 + 2) 0) → (0 ≤ x2) → (x2 < d (x0 + 1 + 2) 0) → (¬ x1 = x2) → (¬ d (x0 + 1 + 2 + 5) x1 = 0) → (¬ d (x0 + 1 + 2 + 5) x2 = 0) → K (.inl none) d) (h5 : (0 ≤ x1) → (x1 < d (x0 + 1 + 2) 0) → (0 ≤ x2) → (x2 < d (x0 + 1 + 2) 0) → (¬ x1 = x2) → (¬ d (x0 + 1 + 2 + 5) x1 = 0) → (d (x0 + 1 + 2 + 5) x2 = 0) → K (.inr 0) d) (h6 : (0 ≤ x1) → (x1 < d (x0 + 1 + 2) 0) → (0 ≤ x2) → (d (x0 + 1 + 2) 0 ≤ x2) → K (.inr 1) d) (h7 : (0 ≤ x1) → (d (x0 + 1 + 2) 0 ≤ x1) → K (.inr 1) d) : tCall E 172 [.inr (10, x0), .inl (0, x1), .inl (0, x2)] d K := by
  refine t_172_0 ?_
  have w0 : x0 = 0 := hx0
  have w2 := r_6_f2 hS (wbB.nw hx0)
  have w3 := r_3_f0 hS (stB.of (wbB.nw hx0))
  have w4 := r_4_f0 hS (stB.pe (wbB.nw hx0))
  have w5 := r_8_f0 hS (stB.ti (wbB.nw hx0))
  have w6 := r_9_f0 hS (stB.to (wbB.nw hx0))
  have w7 := r_7_f1 hS (wbB.tx hx0)
  refine k_165 hS hx0 (m_inR (by omega) (by omega)) (fun z0 => ?_) (fun z0 z1 => ?_) (fun z0 z1 => ?_)
  · exact h0 z0
  · refine t_172_5 ?_
    refine k_165 hS hx0 (m_inR (by omega) (by omega)) (fun z2 => ?_) (fun z2 z3 => ?_) (fun z2 z3 => ?_)
    · exact h1 z0 z1 z2
    · refine t_172_10 ?_
      refine ⟨⟨m_inR (by omega) (by omega), m_inR (by omega) (by omega)⟩, fun c4 => ?_, fun c4 => ?_⟩
      · exact h2 z0 z1 z2 z3 c4
      · have q1 := r_3_5 hS (stB.of (wbB.nw hx0)) x1
        refine ⟨by omega, m_inR (by omega) (by omega), fun c5 => ?_, fun c5 => ?_⟩
        · exact h3 z0 z1 z2 z3 c4 c5
        · have q2 := r_3_5 hS (stB.of (wbB.nw hx0)) x2
          refine ⟨by omega, m_inR (by omega) (by omega), fun c6 => ?_, fun c6 => ?_⟩
          · exact h4 z0 z1 z2 z3 c4 c5 c6
          · exact h5 z0 z1 z2 z3 c4 c5 c6
    · exact h6 z0 z1 z2 z3
  · exact h7 z0 z1
def v_173 (x0 x1 : Int) (d : mD) : Int := if d (x0 + 1 + 2 + 5) x1 = 0 then (-1) else if (200 : Int) < v_43 (x0 + 1 + 2) x1 (d (x0 + 1 + 2 + 6) x1) (d (x0 + 1) 2) d then (-1) else v_43 (x0 + 1 + 2) x1 (d (x0 + 1 + 2 + 6) x1) (d (x0 + 1) 2) d
theorem k_173 {E : mO × tW} {K : tK} {d : mD} {x0 x1 : Int} (hS : Safe d) (hx0 : wbB x0) (p1 : 0 ≤ x1 ∧ x1 ≤ 5) (h : (-1 ≤ (v_173 x0 x1 d) ∧ (v_173 x0 x1 d) ≤ 200) → K (.inl (some (0, (v_173 x0 x1 d)))) d) : tCall E 173 [.inr (10, x0), .inl (0, x1)] d K := by
  refine t_173_0 ?_
  have w0 : x0 = 0 := hx0
  have w2 := r_6_f2 hS (wbB.nw hx0)
  have w3 := r_3_f0 hS (stB.of (wbB.nw hx0))
  have w4 := r_4_f0 hS (stB.pe (wbB.nw hx0))
  have w5 := r_8_f0 hS (stB.ti (wbB.nw hx0))
  have w6 := r_9_f0 hS (stB.to (wbB.nw hx0))
  have w7 := r_7_f1 hS (wbB.tx hx0)
  have q1 := r_3_5 hS (stB.of (wbB.nw hx0)) x1
  refine ⟨by omega, m_inR (by omega) (by omega), fun c0 => ?_, fun c0 => ?_⟩
  · refine ⟨by omega, ?_⟩
    have q2 := r_3_6 hS (stB.of (wbB.nw hx0)) x1
    have q3 := r_6_f2 hS (wbB.nw hx0)
    refine k_43 hS (stB.of (wbB.nw hx0)) (by omega) (by omega) (by omega) (fun e1 => ?_)
    refine t_173_47 ?_
    refine ⟨⟨m_inR (by omega) (by omega), m_inR (by omega) (by omega)⟩, fun c1 => ?_, fun c1 => ?_⟩
    · have y0 : v_173 x0 x1 d = v_43 (x0 + 1 + 2) x1 (d (x0 + 1 + 2 + 6) x1) (d (x0 + 1) 2) d := by simp only [v_173, if_neg (show ¬ d (x0 + 1 + 2 + 5) x1 = 0 from c0), if_neg (show ¬ (200 : Int) < v_43 (x0 + 1 + 2) x1 (d (x0 + 1 + 2 + 6) x1) (d (x0 + 1) 2) d from Int.not_lt.mpr c1)]
      rw [y0] at h
      exact h (show -1 ≤ (v_43 (x0 + 1 + 2) x1 (d (x0 + 1 + 2 + 6) x1) (d (x0 + 1) 2) d) ∧ (v_43 (x0 + 1 + 2) x1 (d (x0 + 1 + 2 + 6) x1) (d (x0 + 1) 2) d) ≤ 200 from (by omega))
    · have y0 : v_173 x0 x1 d = (-1) := by simp only [v_173, if_neg (show ¬ d (x0 + 1 + 2 + 5) x1 = 0 from c0), if_pos (show (200 : Int) < v_43 (x0 + 1 + 2) x1 (d (x0 + 1 + 2 + 6) x1) (d (x0 + 1) 2) d from c1)]
      rw [y0] at h
      exact h (show -1 ≤ ((-1 : Int)) ∧ ((-1 : Int)) ≤ 200 from (by omega))
  · have y0 : v_173 x0 x1 d = (-1) := by simp only [v_173, if_pos (show d (x0 + 1 + 2 + 5) x1 = 0 from c0)]
    rw [y0] at h
    exact h (show -1 ≤ ((-1 : Int)) ∧ ((-1 : Int)) ≤ 200 from (by omega))
theorem k_118 {E : mO × tW} {K : tK} {d : mD} {x0 x1 x2 x3 x4 x5 : Int} (hS : Safe d) (hx0 : wbB x0) (p1 : -2147483648 ≤ x1 ∧ x1 ≤ 2147483647) (p2 : -2147483648 ≤ x2 ∧ x2 ≤ 2147483647) (p3 : -2147483648 ≤ x3 ∧ x3 ≤ 2147483647) (p4 : -2147483648 ≤ x4 ∧ x4 ≤ 2147483647) (p5 : -2147483648 ≤ x5 ∧ x5 ≤ 2147483647) (h0 : ((d (x0 + 578) 1) + 20 ≤ (1000 : Int)) → (0 ≤ ((g_87 (x0 + 578) x5 (g_87 (x0 + 578) x4 (g_87 (x0 + 578) x3 (g_87 (x0 + 578) x2 (g_87 (x0 + 578) x1 d))))) (x0 + 578) 1) ∧ ((g_87 (x0 + 578) x5 (g_87 (x0 + 578) x4 (g_87 (x0 + 578) x3 (g_87 (x0 + 578) x2 (g_87 (x0 + 578) x1 d))))) (x0 + 578) 1) ≤ 1000) → (∀ b : Int, (b < x0 + 578 ∨ x0 + 579 < b) → (g_87 (x0 + 578) x5 (g_87 (x0 + 578) x4 (g_87 (x0 + 578) x3 (g_87 (x0 + 578) x2 (g_87 (x0 + 578) x1 d))))) b = d b) → Safe (g_87 (x0 + 578) x5 (g_87 (x0 + 578) x4 (g_87 (x0 + 578) x3 (g_87 (x0 + 578) x2 (g_87 (x0 + 578) x1 d))))) → K (.inl (some (0, (g_87 (x0 + 578) x5 (g_87 (x0 + 578) x4 (g_87 (x0 + 578) x3 (g_87 (x0 + 578) x2 (g_87 (x0 + 578) x1 d))))) (x0 + 578) 1))) (g_87 (x0 + 578) x5 (g_87 (x0 + 578) x4 (g_87 (x0 + 578) x3 (g_87 (x0 + 578) x2 (g_87 (x0 + 578) x1 d)))))) (h1 : ((1000 : Int) < (d (x0 + 578) 1) + 20) → K (.inr 0) d) : tCall E 118 [.inr (10, x0), .inl (0, x1), .inl (0, x2), .inl (0, x3), .inl (0, x4), .inl (0, x5)] d K := by
  refine t_118_0 ?_
  have w0 : x0 = 0 := hx0
  have w2 := r_6_f2 hS (wbB.nw hx0)
  have w3 := r_3_f0 hS (stB.of (wbB.nw hx0))
  have w4 := r_4_f0 hS (stB.pe (wbB.nw hx0))
  have w5 := r_8_f0 hS (stB.ti (wbB.nw hx0))
  have w6 := r_9_f0 hS (stB.to (wbB.nw hx0))
  have w7 := r_7_f1 hS (wbB.tx hx0)
  have q1 := r_7_f1 hS (wbB.tx hx0)
  refine ⟨⟨m_inR (by omega) (by omega), m_inR (by omega) (by omega)⟩, fun c0 => ?_, fun c0 => ?_⟩
  · refine k_87 hS (wbB.tx hx0) (m_inR (by omega) (by omega)) (fun F1 hS1 => ?_)
    refine t_118_34 ?_
    refine k_87 hS1 (wbB.tx hx0) (m_inR (by omega) (by omega)) (fun F2 hS2 => ?_)
    refine t_118_42 ?_
    refine k_87 hS2 (wbB.tx hx0) (m_inR (by omega) (by omega)) (fun F3 hS3 => ?_)
    refine t_118_50 ?_
    refine k_87 hS3 (wbB.tx hx0) (m_inR (by omega) (by omega)) (fun F4 hS4 => ?_)
    refine t_118_59 ?_
    refine k_87 hS4 (wbB.tx hx0) (m_inR (by omega) (by omega)) (fun F5 hS5 => ?_)
    refine t_118_68 ?_
    have q2 := r_7_f1 hS5 (wbB.tx hx0)
    exact h0 c0 (by omega) (fun b hb => (F5 b (by omega)).trans ((F4 b (by omega)).trans ((F3 b (by omega)).trans ((F2 b (by omega)).trans (F1 b (by omega)))))) hS5
  · exact h1 c0
theorem k_119 {E : mO × tW} {K : tK} {d : mD} {x0 x1 : Int} (hS : Safe d) (hx0 : wbB x0) (p1 : -2147483648 ≤ x1 ∧ x1 ≤ 2147483647) (h0 : (x1 < 0) → K (.inr 1) d) (h1 : (0 ≤ x1) → (x1 ≤ d (x0 + 578) 1) → (0 ≤ x1 ∧ x1 ≤ 1000) → (∀ b : Int, (b < x0 + 578 ∨ x0 + 578 < b) → (mset d (x0 + 578) 1 x1) b = d b) → Safe (mset d (x0 + 578) 1 x1) → K (.inl (some (0, x1))) (mset d (x0 + 578) 1 x1)) (h2 : (0 ≤ x1) → (d (x0 + 578) 1 < x1) → K (.inr 1) d) : tCall E 119 [.inr (10, x0), .inl (0, x1)] d K := by
  refine t_119_0 ?_
  have w0 : x0 = 0 := hx0
  have w2 := r_6_f2 hS (wbB.nw hx0)
  have w3 := r_3_f0 hS (stB.of (wbB.nw hx0))
  have w4 := r_4_f0 hS (stB.pe (wbB.nw hx0))
  have w5 := r_8_f0 hS (stB.ti (wbB.nw hx0))
  have w6 := r_9_f0 hS (stB.to (wbB.nw hx0))
  have w7 := r_7_f1 hS (wbB.tx hx0)
  refine ⟨m_inR (by omega) (by omega), fun c0 => ?_, fun c0 => ?_⟩
  · exact h0 c0
  · have q1 := r_7_f1 hS (wbB.tx hx0)
    refine ⟨⟨m_inR (by omega) (by omega), m_inR (by omega) (by omega)⟩, fun c1 => ?_, fun c1 => ?_⟩
    · have hS1 : Safe (mset d (x0 + 578) 1 x1) := s_7_f1 hS (wbB.tx hx0) (by omega)
      exact h1 c0 c1 (by omega) (fun b hb => mset_ne (by omega)) hS1
    · exact h2 c0 c1
def v_121 (x0 : Int) (d : mD) : Int := d (x0 + 576) 2
theorem k_121 {E : mO × tW} {K : tK} {d : mD} {x0 : Int} (hS : Safe d) (hx0 : wbB x0) (h : (0 ≤ (v_121 x0 d) ∧ (v_121 x0 d) ≤ 6) → K (.inl (some (0, (v_121 x0 d)))) d) : tCall E 121 [.inr (10, x0)] d K := by
  refine t_121_0 ?_
  have w0 : x0 = 0 := hx0
  have w2 := r_6_f2 hS (wbB.nw hx0)
  have w3 := r_3_f0 hS (stB.of (wbB.nw hx0))
  have w4 := r_4_f0 hS (stB.pe (wbB.nw hx0))
  have w5 := r_8_f0 hS (stB.ti (wbB.nw hx0))
  have w6 := r_9_f0 hS (stB.to (wbB.nw hx0))
  have w7 := r_7_f1 hS (wbB.tx hx0)
  have q1 := r_2_f2 hS (wbB.ld hx0)
  have y0 : v_121 x0 d = d (x0 + 576) 2 := by simp only [v_121]
  rw [y0] at h
  exact h (show 0 ≤ (d (x0 + 576) 2) ∧ (d (x0 + 576) 2) ≤ 6 from (by omega))
def v_122 (x0 : Int) (d : mD) : Int := d (x0 + 576) 3
theorem k_122 {E : mO × tW} {K : tK} {d : mD} {x0 : Int} (hS : Safe d) (hx0 : wbB x0) (h : (-1 ≤ (v_122 x0 d) ∧ (v_122 x0 d) ≤ 1000) → K (.inl (some (0, (v_122 x0 d)))) d) : tCall E 122 [.inr (10, x0)] d K := by
  refine t_122_0 ?_
  have w0 : x0 = 0 := hx0
  have w2 := r_6_f2 hS (wbB.nw hx0)
  have w3 := r_3_f0 hS (stB.of (wbB.nw hx0))
  have w4 := r_4_f0 hS (stB.pe (wbB.nw hx0))
  have w5 := r_8_f0 hS (stB.ti (wbB.nw hx0))
  have w6 := r_9_f0 hS (stB.to (wbB.nw hx0))
  have w7 := r_7_f1 hS (wbB.tx hx0)
  have q1 := r_2_f3 hS (wbB.ld hx0)
  have y0 : v_122 x0 d = d (x0 + 576) 3 := by simp only [v_122]
  rw [y0] at h
  exact h (show -1 ≤ (d (x0 + 576) 3) ∧ (d (x0 + 576) 3) ≤ 1000 from (by omega))
theorem k_123 {E : mO × tW} {K : tK} {d : mD} {x0 x1 : Int} (hS : Safe d) (hx0 : wbB x0) (p1 : -2147483648 ≤ x1 ∧ x1 ≤ 2147483647) (h0 : (x1 = 0) → (¬ v_48 (x0 + 1 + 10) (v_93 (x0 + 578) 0 (d (x0 + 578) 1) d) (mset d (x0 + 578) 1 0) = (-1)) → (0 ≤ (v_48 (x0 + 1 + 10) (v_93 (x0 + 578) 0 (d (x0 + 578) 1) d) (mset d (x0 + 578) 1 0)) ∧ (v_48 (x0 + 1 + 10) (v_93 (x0 + 578) 0 (d (x0 + 578) 1) d) (mset d (x0 + 578) 1 0)) ≤ 59) → (∀ b : Int, (b < x0 + 578 ∨ x0 + 578 < b) → (mset d (x0 + 578) 1 0) b = d b) → Safe (mset d (x0 + 578) 1 0) → K (.inl (some (0, v_48 (x0 + 1 + 10) (v_93 (x0 + 578) 0 (d (x0 + 578) 1) d) (mset d (x0 + 578) 1 0)))) (mset d (x0 + 578) 1 0)) (h1 : (x1 = 0) → (v_48 (x0 + 1 + 10) (v_93 (x0 + 578) 0 (d (x0 + 578) 1) d) (mset d (x0 + 578) 1 0) = (-1)) → (∀ b : Int, (b < x0 + 578 ∨ x0 + 578 < b) → (mset d (x0 + 578) 1 0) b = d b) → Safe (mset d (x0 + 578) 1 0) → K (.inr 3) (mset d (x0 + 578) 1 0)) (h2 : (¬ x1 = 0) → (¬ v_36 (x0 + 1 + 2) (v_93 (x0 + 578) 0 (d (x0 + 578) 1) d) (mset d (x0 + 578) 1 0) = (-1)) → (0 ≤ (v_36 (x0 + 1 + 2) (v_93 (x0 + 578) 0 (d (x0 + 578) 1) d) (mset d (x0 + 578) 1 0)) ∧ (v_36 (x0 + 1 + 2) (v_93 (x0 + 578) 0 (d (x0 + 578) 1) d) (mset d (x0 + 578) 1 0)) ≤ 59) → (∀ b : Int, (b < x0 + 578 ∨ x0 + 578 < b) → (mset d (x0 + 578) 1 0) b = d b) → Safe (mset d (x0 + 578) 1 0) → K (.inl (some (0, v_36 (x0 + 1 + 2) (v_93 (x0 + 578) 0 (d (x0 + 578) 1) d) (mset d (x0 + 578) 1 0)))) (mset d (x0 + 578) 1 0)) (h3 : (¬ x1 = 0) → (v_36 (x0 + 1 + 2) (v_93 (x0 + 578) 0 (d (x0 + 578) 1) d) (mset d (x0 + 578) 1 0) = (-1)) → (∀ b : Int, (b < x0 + 578 ∨ x0 + 578 < b) → (mset d (x0 + 578) 1 0) b = d b) → Safe (mset d (x0 + 578) 1 0) → K (.inr 3) (mset d (x0 + 578) 1 0)) : tCall E 123 [.inr (10, x0), .inl (0, x1)] d K := by
  refine t_123_0 ?_
  have w0 : x0 = 0 := hx0
  have w2 := r_6_f2 hS (wbB.nw hx0)
  have w3 := r_3_f0 hS (stB.of (wbB.nw hx0))
  have w4 := r_4_f0 hS (stB.pe (wbB.nw hx0))
  have w5 := r_8_f0 hS (stB.ti (wbB.nw hx0))
  have w6 := r_9_f0 hS (stB.to (wbB.nw hx0))
  have w7 := r_7_f1 hS (wbB.tx hx0)
  have q1 := r_7_f1 hS (wbB.tx hx0)
  refine k_93 hS (wbB.tx hx0) (by omega) (by omega) (fun e1 => ?_)
  refine t_123_15 ?_
  have hS1 : Safe (mset d (x0 + 578) 1 0) := s_7_f1 hS (wbB.tx hx0) (by omega)
  refine ⟨m_inR (by omega) (by omega), fun c0 => ?_, fun c0 => ?_⟩
  · refine k_48 hS1 (stB.pe (wbB.nw hx0)) (m_inR (by omega) (by omega)) (fun e2 => ?_)
    refine t_123_53 ?_
    refine ⟨⟨m_inR (by omega) (by omega), m_inR (by omega) (by omega)⟩, fun c1 => ?_, fun c1 => ?_⟩
    · exact h0 c0 c1 (by omega) (fun b hb => mset_ne (by omega)) hS1
    · exact h1 c0 c1 (fun b hb => mset_ne (by omega)) hS1
  · refine k_36 hS1 (stB.of (wbB.nw hx0)) (m_inR (by omega) (by omega)) (fun e3 => ?_)
    refine t_123_39 ?_
    refine t_123_53 ?_
    refine ⟨⟨m_inR (by omega) (by omega), m_inR (by omega) (by omega)⟩, fun c1 => ?_, fun c1 => ?_⟩
    · exact h2 c0 c1 (by omega) (fun b hb => mset_ne (by omega)) hS1
    · exact h3 c0 c1 (fun b hb => mset_ne (by omega)) hS1
theorem k_124 {E : mO × tW} {K : tK} {d : mD} {x0 x1 : Int} (hS : Safe d) (hx0 : wbB x0) (p1 : -2147483648 ≤ x1 ∧ x1 ≤ 2147483647) (h0 : (x1 = 0) → (0 ≤ (d (x0 + 1 + 2) 0) ∧ (d (x0 + 1 + 2) 0) ≤ 99999) → K (.inl (some (0, d (x0 + 1 + 2) 0))) d) (h1 : (¬ x1 = 0) → (x1 = 1) → (0 ≤ (d (x0 + 1 + 10) 0) ∧ (d (x0 + 1 + 10) 0) ≤ 99999) → K (.inl (some (0, d (x0 + 1 + 10) 0))) d) (h2 : (¬ x1 = 0) → (¬ x1 = 1) → (x1 = 2) → (0 ≤ (d (x0 + 1 + 49) 0) ∧ (d (x0 + 1 + 49) 0) ≤ 99999) → K (.inl (some (0, d (x0 + 1 + 49) 0))) d) (h3 : (¬ x1 = 0) → (¬ x1 = 1) → (¬ x1 = 2) → (x1 = 3) → (0 ≤ (d (x0 + 1) 2) ∧ (d (x0 + 1) 2) ≤ 99999) → K (.inl (some (0, d (x0 + 1) 2))) d) (h4 : (¬ x1 = 0) → (¬ x1 = 1) → (¬ x1 = 2) → (¬ x1 = 3) → (x1 = 4) → (0 ≤ (20 - ((d (x0 + 1) 2) % 20)) ∧ (20 - ((d (x0 + 1) 2) % 20)) ≤ 99999) → K (.inl (some (0, 20 - ((d (x0 + 1) 2) % 20)))) d) (h5 : (¬ x1 = 0) → (¬ x1 = 1) → (¬ x1 = 2) → (¬ x1 = 3) → (¬ x1 = 4) → (x1 = 5) → (0 ≤ (v_101 (x0 + 1 + 49) 0 d) ∧ (v_101 (x0 + 1 + 49) 0 d) ≤ 99999) → K (.inl (some (0, v_101 (x0 + 1 + 49) 0 d))) d) (h6 : (¬ x1 = 0) → (¬ x1 = 1) → (¬ x1 = 2) → (¬ x1 = 3) → (¬ x1 = 4) → (¬ x1 = 5) → (x1 = 6) → (0 ≤ (v_102 (x0 + 1 + 49) 1 d) ∧ (v_102 (x0 + 1 + 49) 1 d) ≤ 99999) → K (.inl (some (0, v_102 (x0 + 1 + 49) 1 d))) d) (h7 : (¬ x1 = 0) → (¬ x1 = 1) → (¬ x1 = 2) → (¬ x1 = 3) → (¬ x1 = 4) → (¬ x1 = 5) → (¬ x1 = 6) → (x1 = 7) → (0 ≤ (v_102 (x0 + 1 + 49) 2 d) ∧ (v_102 (x0 + 1 + 49) 2 d) ≤ 99999) → K (.inl (some (0, v_102 (x0 + 1 + 49) 2 d))) d) (h8 : (¬ x1 = 0) → (¬ x1 = 1) → (¬ x1 = 2) → (¬ x1 = 3) → (¬ x1 = 4) → (¬ x1 = 5) → (¬ x1 = 6) → (¬ x1 = 7) → (x1 = 8) → (0 ≤ (d (x0 + 1 + 57) 0) ∧ (d (x0 + 1 + 57) 0) ≤ 99999) → K (.inl (some (0, d (x0 + 1 + 57) 0))) d) (h9 : (¬ x1 = 0) → (¬ x1 = 1) → (¬ x1 = 2) → (¬ x1 = 3) → (¬ x1 = 4) → (¬ x1 = 5) → (¬ x1 = 6) → (¬ x1 = 7) → (¬ x1 = 8) → (x1 = 9) → (0 ≤ (v_110 (x0 + 1 + 57) 1 d) ∧ (v_110 (x0 + 1 + 57) 1 d) ≤ 99999) → K (.inl (some (0, v_110 (x0 + 1 + 57) 1 d))) d) (h10 : (¬ x1 = 0) → (¬ x1 = 1) → (¬ x1 = 2) → (¬ x1 = 3) → (¬ x1 = 4) → (¬ x1 = 5) → (¬ x1 = 6) → (¬ x1 = 7) → (¬ x1 = 8) → (¬ x1 = 9) → (x1 = 10) → (0 ≤ (v_110 (x0 + 1 + 57) 2 d) ∧ (v_110 (x0 + 1 + 57) 2 d) ≤ 99999) → K (.inl (some (0, v_110 (x0 + 1 + 57) 2 d))) d) (h11 : (¬ x1 = 0) → (¬ x1 = 1) → (¬ x1 = 2) → (¬ x1 = 3) → (¬ x1 = 4) → (¬ x1 = 5) → (¬ x1 = 6) → (¬ x1 = 7) → (¬ x1 = 8) → (¬ x1 = 9) → (¬ x1 = 10) → (x1 = 11) → (0 ≤ (d (x0 + 1) 1) ∧ (d (x0 + 1) 1) ≤ 99999) → K (.inl (some (0, d (x0 + 1) 1))) d) (h12 : (¬ x1 = 0) → (¬ x1 = 1) → (¬ x1 = 2) → (¬ x1 = 3) → (¬ x1 = 4) → (¬ x1 = 5) → (¬ x1 = 6) → (¬ x1 = 7) → (¬ x1 = 8) → (¬ x1 = 9) → (¬ x1 = 10) → (¬ x1 = 11) → (x1 = 12) → (0 ≤ (d (x0 + 64) 2) ∧ (d (x0 + 64) 2) ≤ 99999) → K (.inl (some (0, d (x0 + 64) 2))) d) (h13 : (¬ x1 = 0) → (¬ x1 = 1) → (¬ x1 = 2) → (¬ x1 = 3) → (¬ x1 = 4) → (¬ x1 = 5) → (¬ x1 = 6) → (¬ x1 = 7) → (¬ x1 = 8) → (¬ x1 = 9) → (¬ x1 = 10) → (¬ x1 = 11) → (¬ x1 = 12) → K (.inr 2) d) : tCall E 124 [.inr (10, x0), .inl (0, x1)] d K := by
  refine t_124_0 ?_
  have w0 : x0 = 0 := hx0
  have w2 := r_6_f2 hS (wbB.nw hx0)
  have w3 := r_3_f0 hS (stB.of (wbB.nw hx0))
  have w4 := r_4_f0 hS (stB.pe (wbB.nw hx0))
  have w5 := r_8_f0 hS (stB.ti (wbB.nw hx0))
  have w6 := r_9_f0 hS (stB.to (wbB.nw hx0))
  have w7 := r_7_f1 hS (wbB.tx hx0)
  refine ⟨m_inR (by omega) (by omega), fun c0 => ?_, fun c0 => ?_, fun c0 => ?_, fun c0 => ?_, fun c0 => ?_, fun c0 => ?_, fun c0 => ?_, fun c0 => ?_, fun c0 => ?_, fun c0 => ?_, fun c0 => ?_, fun c0 => ?_, fun c0 => ?_, fun c0 => ?_⟩
  · have q1 := r_3_f0 hS (stB.of (wbB.nw hx0))
    exact h0 c0 (by omega)
  · have q2 := r_4_f0 hS (stB.pe (wbB.nw hx0))
    exact h1 (show ¬ x1 = 0 by omega) c0 (by omega)
  · have q3 := r_8_f0 hS (stB.ti (wbB.nw hx0))
    exact h2 (show ¬ x1 = 0 by omega) (show ¬ x1 = 1 by omega) c0 (by omega)
  · have q4 := r_6_f2 hS (wbB.nw hx0)
    exact h3 (show ¬ x1 = 0 by omega) (show ¬ x1 = 1 by omega) (show ¬ x1 = 2 by omega) c0 (by omega)
  · have q5 := r_6_f2 hS (wbB.nw hx0)
    refine ⟨by omega, ?_⟩
    exact h4 (show ¬ x1 = 0 by omega) (show ¬ x1 = 1 by omega) (show ¬ x1 = 2 by omega) (show ¬ x1 = 3 by omega) c0 (by omega)
  · refine k_101 hS (stB.ti (wbB.nw hx0)) (m_inR (by omega) (by omega)) (fun e1 => ?_)
    refine t_124_134 ?_
    exact h5 (show ¬ x1 = 0 by omega) (show ¬ x1 = 1 by omega) (show ¬ x1 = 2 by omega) (show ¬ x1 = 3 by omega) (show ¬ x1 = 4 by omega) c0 (by omega)
  · refine k_102 hS (stB.ti (wbB.nw hx0)) (m_inR (by omega) (by omega)) (fun e2 => ?_)
    refine t_124_146 ?_
    exact h6 (show ¬ x1 = 0 by omega) (show ¬ x1 = 1 by omega) (show ¬ x1 = 2 by omega) (show ¬ x1 = 3 by omega) (show ¬ x1 = 4 by omega) (show ¬ x1 = 5 by omega) c0 (by omega)
  · refine k_102 hS (stB.ti (wbB.nw hx0)) (m_inR (by omega) (by omega)) (fun e3 => ?_)
    refine t_124_158 ?_
    exact h7 (show ¬ x1 = 0 by omega) (show ¬ x1 = 1 by omega) (show ¬ x1 = 2 by omega) (show ¬ x1 = 3 by omega) (show ¬ x1 = 4 by omega) (show ¬ x1 = 5 by omega) (show ¬ x1 = 6 by omega) c0 (by omega)
  · have q6 := r_9_f0 hS (stB.to (wbB.nw hx0))
    exact h8 (show ¬ x1 = 0 by omega) (show ¬ x1 = 1 by omega) (show ¬ x1 = 2 by omega) (show ¬ x1 = 3 by omega) (show ¬ x1 = 4 by omega) (show ¬ x1 = 5 by omega) (show ¬ x1 = 6 by omega) (show ¬ x1 = 7 by omega) c0 (by omega)
  · refine k_110 hS (stB.to (wbB.nw hx0)) (m_inR (by omega) (by omega)) (fun e4 => ?_)
    refine t_124_181 ?_
    exact h9 (show ¬ x1 = 0 by omega) (show ¬ x1 = 1 by omega) (show ¬ x1 = 2 by omega) (show ¬ x1 = 3 by omega) (show ¬ x1 = 4 by omega) (show ¬ x1 = 5 by omega) (show ¬ x1 = 6 by omega) (show ¬ x1 = 7 by omega) (show ¬ x1 = 8 by omega) c0 (by omega)
  · refine k_110 hS (stB.to (wbB.nw hx0)) (m_inR (by omega) (by omega)) (fun e5 => ?_)
    refine t_124_193 ?_
    exact h10 (show ¬ x1 = 0 by omega) (show ¬ x1 = 1 by omega) (show ¬ x1 = 2 by omega) (show ¬ x1 = 3 by omega) (show ¬ x1 = 4 by omega) (show ¬ x1 = 5 by omega) (show ¬ x1 = 6 by omega) (show ¬ x1 = 7 by omega) (show ¬ x1 = 8 by omega) (show ¬ x1 = 9 by omega) c0 (by omega)
  · have q7 := r_6_f1 hS (wbB.nw hx0)
    exact h11 (show ¬ x1 = 0 by omega) (show ¬ x1 = 1 by omega) (show ¬ x1 = 2 by omega) (show ¬ x1 = 3 by omega) (show ¬ x1 = 4 by omega) (show ¬ x1 = 5 by omega) (show ¬ x1 = 6 by omega) (show ¬ x1 = 7 by omega) (show ¬ x1 = 8 by omega) (show ¬ x1 = 9 by omega) (show ¬ x1 = 10 by omega) c0 (by omega)
  · have q8 := r_0_f2 hS (wbB.hi hx0)
    exact h12 (show ¬ x1 = 0 by omega) (show ¬ x1 = 1 by omega) (show ¬ x1 = 2 by omega) (show ¬ x1 = 3 by omega) (show ¬ x1 = 4 by omega) (show ¬ x1 = 5 by omega) (show ¬ x1 = 6 by omega) (show ¬ x1 = 7 by omega) (show ¬ x1 = 8 by omega) (show ¬ x1 = 9 by omega) (show ¬ x1 = 10 by omega) (show ¬ x1 = 11 by omega) c0 (by omega)
  · exact h13 (show ¬ x1 = 0 by omega) (show ¬ x1 = 1 by omega) (show ¬ x1 = 2 by omega) (show ¬ x1 = 3 by omega) (show ¬ x1 = 4 by omega) (show ¬ x1 = 5 by omega) (show ¬ x1 = 6 by omega) (show ¬ x1 = 7 by omega) (show ¬ x1 = 8 by omega) (show ¬ x1 = 9 by omega) (show ¬ x1 = 10 by omega) (show ¬ x1 = 11 by omega) (show ¬ x1 = 12 by omega)
theorem k_125 {E : mO × tW} {K : tK} {d : mD} {x0 x1 : Int} (hS : Safe d) (hx0 : wbB x0) (p1 : -2147483648 ≤ x1 ∧ x1 ≤ 2147483647) (h0 : (x1 < 0) → K (.inr 2) d) (h1 : (0 ≤ x1) → (x1 < 5) → (0 ≤ (d (x0 + 1 + 1) x1) ∧ (d (x0 + 1 + 1) x1) ≤ 99) → K (.inl (some (0, d (x0 + 1 + 1) x1))) d) (h2 : (0 ≤ x1) → (5 ≤ x1) → K (.inr 2) d) : tCall E 125 [.inr (10, x0), .inl (0, x1)] d K := by
  refine t_125_0 ?_
  have w0 : x0 = 0 := hx0
  have w2 := r_6_f2 hS (wbB.nw hx0)
  have w3 := r_3_f0 hS (stB.of (wbB.nw hx0))
  have w4 := r_4_f0 hS (stB.pe (wbB.nw hx0))
  have w5 := r_8_f0 hS (stB.ti (wbB.nw hx0))
  have w6 := r_9_f0 hS (stB.to (wbB.nw hx0))
  have w7 := r_7_f1 hS (wbB.tx hx0)
  refine k_169 hS hx0 (m_inR (by omega) (by omega)) (fun z0 => ?_) (fun z0 z1 => ?_) (fun z0 z1 => ?_)
  · exact h0 z0
  · refine t_125_5 ?_
    have q1 := r_6_1 hS (wbB.nw hx0) x1
    refine ⟨by omega, ?_⟩
    exact h1 z0 z1 (by omega)
  · exact h2 z0 z1
theorem k_126 {E : mO × tW} {K : tK} {d : mD} {x0 x1 x2 : Int} (hS : Safe d) (hx0 : wbB x0) (p1 : -2147483648 ≤ x1 ∧ x1 ≤ 2147483647) (p2 : -2147483648 ≤ x2 ∧ x2 ≤ 2147483647) (h0 : (x1 < 0) → K (.inr 1) d) (h1 : (0 ≤ x1) → (x1 < d (x0 + 1 + 2) 0) → (x2 = 0) → (0 ≤ (d (x0 + 1 + 2 + 2) x1) ∧ (d (x0 + 1 + 2 + 2) x1) ≤ 60) → K (.inl (some (0, d (x0 + 1 + 2 + 2) x1))) d) (h2 : (0 ≤ x1) → (x1 < d (x0 + 1 + 2) 0) → (¬ x2 = 0) → (x2 = 1) → (0 ≤ (d (x0 + 1 + 2 + 3) x1) ∧ (d (x0 + 1 + 2 + 3) x1) ≤ 60) → K (.inl (some (0, d (x0 + 1 + 2 + 3) x1))) d) (h3 : (0 ≤ x1) → (x1 < d (x0 + 1 + 2) 0) → (¬ x2 = 0) → (¬ x2 = 1) → (x2 = 2) → (0 ≤ (d (x0 + 1 + 2 + 4) x1) ∧ (d (x0 + 1 + 2 + 4) x1) ≤ 60) → K (.inl (some (0, d (x0 + 1 + 2 + 4) x1))) d) (h4 : (0 ≤ x1) → (x1 < d (x0 + 1 + 2) 0) → (¬ x2 = 0) → (¬ x2 = 1) → (¬ x2 = 2) → (x2 = 3) → (d (x0 + 1 + 2 + 5) x1 = 0) → (0 ≤ 0 ∧ 0 ≤ 60) → K (.inl (some (0, 0))) d) (h5 : (0 ≤ x1) → (x1 < d (x0 + 1 + 2) 0) → (¬ x2 = 0) → (¬ x2 = 1) → (¬ x2 = 2) → (x2 = 3) → (¬ d (x0 + 1 + 2 + 5) x1 = 0) → (0 ≤ 1 ∧ 1 ≤ 60) → K (.inl (some (0, 1))) d) (h6 : (0 ≤ x1) → (x1 < d (x0 + 1 + 2) 0) → (¬ x2 = 0) → (¬ x2 = 1) → (¬ x2 = 2) → (¬ x2 = 3) → (x2 = 4) → (0 ≤ (d (x0 + 1 + 2 + 6) x1) ∧ (d (x0 + 1 + 2 + 6) x1) ≤ 60) → K (.inl (some (0, d (x0 + 1 + 2 + 6) x1))) d) (h7 : (0 ≤ x1) → (x1 < d (x0 + 1 + 2) 0) → (¬ x2 = 0) → (¬ x2 = 1) → (¬ x2 = 2) → (¬ x2 = 3) → (¬ x2 = 4) → (x2 = 5) → (0 ≤ (v_103 (x0 + 1 + 49) x1 d) ∧ (v_103 (x0 + 1 + 49) x1 d) ≤ 60) → K (.inl (some (0, v_103 (x0 + 1 + 49) x1 d))) d) (h8 : (0 ≤ x1) → (x1 < d (x0 + 1 + 2) 0) → (¬ x2 = 0) → (¬ x2 = 1) → (¬ x2 = 2) → (¬ x2 = 3) → (¬ x2 = 4) → (¬ x2 = 5) → K (.inr 2) d) (h9 : (0 ≤ x1) → (d (x0 + 1 + 2) 0 ≤ x1) → K (.inr 1) d) : tCall E 126 [.inr (10, x0), .inl (0, x1), .inl (0, x2)] d K := by
  refine t_126_0 ?_
  have w0 : x0 = 0 := hx0
  have w2 := r_6_f2 hS (wbB.nw hx0)
  have w3 := r_3_f0 hS (stB.of (wbB.nw hx0))
  have w4 := r_4_f0 hS (stB.pe (wbB.nw hx0))
  have w5 := r_8_f0 hS (stB.ti (wbB.nw hx0))
  have w6 := r_9_f0 hS (stB.to (wbB.nw hx0))
  have w7 := r_7_f1 hS (wbB.tx hx0)
  refine k_165 hS hx0 (m_inR (by omega) (by omega)) (fun z0 => ?_) (fun z0 z1 => ?_) (fun z0 z1 => ?_)
  · exact h0 z0
  · refine t_126_5 ?_
    refine ⟨m_inR (by omega) (by omega), fun c2 => ?_, fun c2 => ?_, fun c2 => ?_, fun c2 => ?_, fun c2 => ?_, fun c2 => ?_, fun c2 => ?_⟩
    · have q1 := r_3_2 hS (stB.of (wbB.nw hx0)) x1
      refine ⟨by omega, ?_⟩
      exact h1 z0 z1 c2 (by omega)
    · have q2 := r_3_3 hS (stB.of (wbB.nw hx0)) x1
      refine ⟨by omega, ?_⟩
      exact h2 z0 z1 (show ¬ x2 = 0 by omega) c2 (by omega)
    · have q3 := r_3_4 hS (stB.of (wbB.nw hx0)) x1
      refine ⟨by omega, ?_⟩
      exact h3 z0 z1 (show ¬ x2 = 0 by omega) (show ¬ x2 = 1 by omega) c2 (by omega)
    · have q4 := r_3_5 hS (stB.of (wbB.nw hx0)) x1
      refine ⟨by omega, m_inR (by omega) (by omega), fun c6 => ?_, fun c6 => ?_⟩
      · exact h4 z0 z1 (show ¬ x2 = 0 by omega) (show ¬ x2 = 1 by omega) (show ¬ x2 = 2 by omega) c2 c6 (by omega)
      · exact h5 z0 z1 (show ¬ x2 = 0 by omega) (show ¬ x2 = 1 by omega) (show ¬ x2 = 2 by omega) c2 c6 (by omega)
    · have q5 := r_3_6 hS (stB.of (wbB.nw hx0)) x1
      refine ⟨by omega, ?_⟩
      exact h6 z0 z1 (show ¬ x2 = 0 by omega) (show ¬ x2 = 1 by omega) (show ¬ x2 = 2 by omega) (show ¬ x2 = 3 by omega) c2 (by omega)
    · refine k_103 hS (stB.ti (wbB.nw hx0)) (m_inR (by omega) (by omega)) (fun e1 => ?_)
      refine t_126_128 ?_
      exact h7 z0 z1 (show ¬ x2 = 0 by omega) (show ¬ x2 = 1 by omega) (show ¬ x2 = 2 by omega) (show ¬ x2 = 3 by omega) (show ¬ x2 = 4 by omega) c2 (by omega)
    · exact h8 z0 z1 (show ¬ x2 = 0 by omega) (show ¬ x2 = 1 by omega) (show ¬ x2 = 2 by omega) (show ¬ x2 = 3 by omega) (show ¬ x2 = 4 by omega) (show ¬ x2 = 5 by omega)
  · exact h9 z0 z1
theorem k_127 {E : mO × tW} {K : tK} {d : mD} {x0 x1 x2 : Int} (hS : Safe d) (hx0 : wbB x0) (p1 : -2147483648 ≤ x1 ∧ x1 ≤ 2147483647) (p2 : -2147483648 ≤ x2 ∧ x2 ≤ 2147483647) (h0 : (x1 < 0) → K (.inr 1) d) (h1 : (0 ≤ x1) → (x1 < d (x0 + 1 + 2) 0) → (x2 < 0) → K (.inr 1) d) (h2 : (0 ≤ x1) → (x1 < d (x0 + 1 + 2) 0) → (0 ≤ x2) → (x2 < d (x0 + 1 + 2 + 6) x1) → (0 ≤ (v_38 (x0 + 1 + 2) x1 x2 d) ∧ (v_38 (x0 + 1 + 2) x1 x2 d) ≤ 59) → K (.inl (some (0, v_38 (x0 + 1 + 2) x1 x2 d))) d) (h3 : (0 ≤ x1) → (x1 < d (x0 + 1 + 2) 0) → (0 ≤ x2) → (d (x0 + 1 + 2 + 6) x1 ≤ x2) → K (.inr 1) d) (h4 : (0 ≤ x1) → (d (x0 + 1 + 2) 0 ≤ x1) → K (.inr 1) d) : tCall E 127 [.inr (10, x0), .inl (0, x1), .inl (0, x2)] d K := by
  refine t_127_0 ?_
  have w0 : x0 = 0 := hx0
  have w2 := r_6_f2 hS (wbB.nw hx0)
  have w3 := r_3_f0 hS (stB.of (wbB.nw hx0))
  have w4 := r_4_f0 hS (stB.pe (wbB.nw hx0))
  have w5 := r_8_f0 hS (stB.ti (wbB.nw hx0))
  have w6 := r_9_f0 hS (stB.to (wbB.nw hx0))
  have w7 := r_7_f1 hS (wbB.tx hx0)
  refine k_165 hS hx0 (m_inR (by omega) (by omega)) (fun z0 => ?_) (fun z0 z1 => ?_) (fun z0 z1 => ?_)
  · exact h0 z0
  · refine t_127_5 ?_
    refine ⟨m_inR (by omega) (by omega), fun c2 => ?_, fun c2 => ?_⟩
    · exact h1 z0 z1 c2
    · have q1 := r_3_6 hS (stB.of (wbB.nw hx0)) x1
      refine ⟨by omega, ⟨m_inR (by omega) (by omega), m_inR (by omega) (by omega)⟩, fun c3 => ?_, fun c3 => ?_⟩
      · refine k_38 hS (stB.of (wbB.nw hx0)) (by omega) (by omega) (fun e1 => ?_)
        refine t_127_47 ?_
        exact h2 z0 z1 c2 c3 (by omega)
      · exact h3 z0 z1 c2 c3
  · exact h4 z0 z1
theorem k_128 {E : mO × tW} {K : tK} {d : mD} {x0 x1 x2 : Int} (hS : Safe d) (hx0 : wbB x0) (p1 : -2147483648 ≤ x1 ∧ x1 ≤ 2147483647) (p2 : -2147483648 ≤ x2 ∧ x2 ≤ 2147483647) (hpu : puR x0 x1 d) (h0 : (x1 < 0) → K (.inr 1) d) (h1 : (0 ≤ x1) → (x1 < d (x0 + 1 + 10) 0) → (x2 = 0) → (-2147483648 ≤ (d (x0 + 1 + 10 + 2) x1) ∧ (d (x0 + 1 + 10 + 2) x1) ≤ 2147483647) → K (.inl (some (0, d (x0 + 1 + 10 + 2) x1))) d) (h2 : (0 ≤ x1) → (x1 < d (x0 + 1 + 10) 0) → (¬ x2 = 0) → (x2 = 1) → (-2147483648 ≤ (v_104 (x0 + 1 + 49) x1 d) ∧ (v_104 (x0 + 1 + 49) x1 d) ≤ 2147483647) → K (.inl (some (0, v_104 (x0 + 1 + 49) x1 d))) d) (h3 : (0 ≤ x1) → (x1 < d (x0 + 1 + 10) 0) → (¬ x2 = 0) → (¬ x2 = 1) → (x2 = 2) → (-2147483648 ≤ (v_105 (x0 + 1 + 49) x1 d) ∧ (v_105 (x0 + 1 + 49) x1 d) ≤ 2147483647) → K (.inl (some (0, v_105 (x0 + 1 + 49) x1 d))) d) (h4 : (0 ≤ x1) → (x1 < d (x0 + 1 + 10) 0) → (¬ x2 = 0) → (¬ x2 = 1) → (¬ x2 = 2) → (x2 = 3) → (-2147483648 ≤ (v_111 (x0 + 1 + 57) x1 0 d) ∧ (v_111 (x0 + 1 + 57) x1 0 d) ≤ 2147483647) → K (.inl (some (0, v_111 (x0 + 1 + 57) x1 0 d))) d) (h5 : (0 ≤ x1) → (x1 < d (x0 + 1 + 10) 0) → (¬ x2 = 0) → (¬ x2 = 1) → (¬ x2 = 2) → (¬ x2 = 3) → (x2 = 4) → (-2147483648 ≤ (v_111 (x0 + 1 + 57) x1 1 d) ∧ (v_111 (x0 + 1 + 57) x1 1 d) ≤ 2147483647) → K (.inl (some (0, v_111 (x0 + 1 + 57) x1 1 d))) d) (h6 : (0 ≤ x1) → (x1 < d (x0 + 1 + 10) 0) → (¬ x2 = 0) → (¬ x2 = 1) → (¬ x2 = 2) → (¬ x2 = 3) → (¬ x2 = 4) → (x2 = 5) → (-2147483648 ≤ (v_111 (x0 + 1 + 57) x1 2 d) ∧ (v_111 (x0 + 1 + 57) x1 2 d) ≤ 2147483647) → K (.inl (some (0, v_111 (x0 + 1 + 57) x1 2 d))) d) (h7 : (0 ≤ x1) → (x1 < d (x0 + 1 + 10) 0) → (¬ x2 = 0) → (¬ x2 = 1) → (¬ x2 = 2) → (¬ x2 = 3) → (¬ x2 = 4) → (¬ x2 = 5) → (x2 = 6) → (-2147483648 ≤ (v_83 (x0 + 1) x1 d) ∧ (v_83 (x0 + 1) x1 d) ≤ 2147483647) → K (.inl (some (0, v_83 (x0 + 1) x1 d))) d) (h8 : (0 ≤ x1) → (x1 < d (x0 + 1 + 10) 0) → (¬ x2 = 0) → (¬ x2 = 1) → (¬ x2 = 2) → (¬ x2 = 3) → (¬ x2 = 4) → (¬ x2 = 5) → (¬ x2 = 6) → (x2 = 7) → (-2147483648 ≤ (d (x0 + 1 + 10 + 3) x1) ∧ (d (x0 + 1 + 10 + 3) x1) ≤ 2147483647) → K (.inl (some (0, d (x0 + 1 + 10 + 3) x1))) d) (h9 : (0 ≤ x1) → (x1 < d (x0 + 1 + 10) 0) → (¬ x2 = 0) → (¬ x2 = 1) → (¬ x2 = 2) → (¬ x2 = 3) → (¬ x2 = 4) → (¬ x2 = 5) → (¬ x2 = 6) → (¬ x2 = 7) → (x2 = 8) → (-2147483648 ≤ (d (x0 + 1 + 10 + 4) x1) ∧ (d (x0 + 1 + 10 + 4) x1) ≤ 2147483647) → K (.inl (some (0, d (x0 + 1 + 10 + 4) x1))) d) (h10 : (0 ≤ x1) → (x1 < d (x0 + 1 + 10) 0) → (¬ x2 = 0) → (¬ x2 = 1) → (¬ x2 = 2) → (¬ x2 = 3) → (¬ x2 = 4) → (¬ x2 = 5) → (¬ x2 = 6) → (¬ x2 = 7) → (¬ x2 = 8) → (x2 = 9) → (-2147483648 ≤ (v_10 (x0 + 574) (x0 + 1 + 10 + 6 + (1 + 2 * x1)) (g_72 (x0 + 1) x1 (x0 + 574) d)) ∧ (v_10 (x0 + 574) (x0 + 1 + 10 + 6 + (1 + 2 * x1)) (g_72 (x0 + 1) x1 (x0 + 574) d)) ≤ 2147483647) → (∀ b : Int, (b < x0 + 575 ∨ x0 + 575 < b) → (g_72 (x0 + 1) x1 (x0 + 574) d) b = d b) → Safe (g_72 (x0 + 1) x1 (x0 + 574) d) → K (.inl (some (0, v_10 (x0 + 574) (x0 + 1 + 10 + 6 + (1 + 2 * x1)) (g_72 (x0 + 1) x1 (x0 + 574) d)))) (g_72 (x0 + 1) x1 (x0 + 574) d)) (h11 : (0 ≤ x1) → (x1 < d (x0 + 1 + 10) 0) → (¬ x2 = 0) → (¬ x2 = 1) → (¬ x2 = 2) → (¬ x2 = 3) → (¬ x2 = 4) → (¬ x2 = 5) → (¬ x2 = 6) → (¬ x2 = 7) → (¬ x2 = 8) → (¬ x2 = 9) → K (.inr 2) d) (h12 : (0 ≤ x1) → (d (x0 + 1 + 10) 0 ≤ x1) → K (.inr 1) d) : tCall E 128 [.inr (10, x0), .inl (0, x1), .inl (0, x2)] d K := by
  refine t_128_0 ?_
  have w0 : x0 = 0 := hx0
  have w2 := r_6_f2 hS (wbB.nw hx0)
  have w3 := r_3_f0 hS (stB.of (wbB.nw hx0))
  have w4 := r_4_f0 hS (stB.pe (wbB.nw hx0))
  have w5 := r_8_f0 hS (stB.ti (wbB.nw hx0))
  have w6 := r_9_f0 hS (stB.to (wbB.nw hx0))
  have w7 := r_7_f1 hS (wbB.tx hx0)
  refine k_166 hS hx0 (m_inR (by omega) (by omega)) (fun z0 => ?_) (fun z0 z1 => ?_) (fun z0 z1 => ?_)
  · exact h0 z0
  · refine t_128_5 ?_
    refine ⟨m_inR (by omega) (by omega), fun c2 => ?_, fun c2 => ?_, fun c2 => ?_, fun c2 => ?_, fun c2 => ?_, fun c2 => ?_, fun c2 => ?_, fun c2 => ?_, fun c2 => ?_, fun c2 => ?_, fun c2 => ?_⟩
    · refine ⟨by omega, ?_⟩
      exact h1 z0 z1 c2 (by first | exact puR.use hpu z0 z1 | exact ⟨by omega, by omega⟩)
    · refine k_104 hS (stB.ti (wbB.nw hx0)) (m_inR (by omega) (by omega)) (fun e1 => ?_)
      refine t_128_84 ?_
      exact h2 z0 z1 (show ¬ x2 = 0 by omega) c2 (by first | exact puR.use hpu z0 z1 | exact ⟨by omega, by omega⟩)
    · refine k_105 hS (stB.ti (wbB.nw hx0)) (m_inR (by omega) (by omega)) (fun e2 => ?_)
      refine t_128_96 ?_
      exact h3 z0 z1 (show ¬ x2 = 0 by omega) (show ¬ x2 = 1 by omega) c2 (by first | exact puR.use hpu z0 z1 | exact ⟨by omega, by omega⟩)
    · refine k_111 hS (stB.to (wbB.nw hx0)) (m_inR (by omega) (by omega)) (m_inR (by omega) (by omega)) (fun e3 => ?_)
      refine t_128_109 ?_
      exact h4 z0 z1 (show ¬ x2 = 0 by omega) (show ¬ x2 = 1 by omega) (show ¬ x2 = 2 by omega) c2 (by first | exact puR.use hpu z0 z1 | exact ⟨by omega, by omega⟩)
    · refine k_111 hS (stB.to (wbB.nw hx0)) (m_inR (by omega) (by omega)) (m_inR (by omega) (by omega)) (fun e4 => ?_)
      refine t_128_122 ?_
      exact h5 z0 z1 (show ¬ x2 = 0 by omega) (show ¬ x2 = 1 by omega) (show ¬ x2 = 2 by omega) (show ¬ x2 = 3 by omega) c2 (by first | exact puR.use hpu z0 z1 | exact ⟨by omega, by omega⟩)
    · refine k_111 hS (stB.to (wbB.nw hx0)) (m_inR (by omega) (by omega)) (m_inR (by omega) (by omega)) (fun e5 => ?_)
      refine t_128_135 ?_
      exact h6 z0 z1 (show ¬ x2 = 0 by omega) (show ¬ x2 = 1 by omega) (show ¬ x2 = 2 by omega) (show ¬ x2 = 3 by omega) (show ¬ x2 = 4 by omega) c2 (by first | exact puR.use hpu z0 z1 | exact ⟨by omega, by omega⟩)
    · refine k_83 hS (wbB.nw hx0) (m_inR (by omega) (by omega)) (fun e6 => ?_)
      refine t_128_144 ?_
      exact h7 z0 z1 (show ¬ x2 = 0 by omega) (show ¬ x2 = 1 by omega) (show ¬ x2 = 2 by omega) (show ¬ x2 = 3 by omega) (show ¬ x2 = 4 by omega) (show ¬ x2 = 5 by omega) c2 (by first | exact puR.use hpu z0 z1 | exact ⟨by omega, by omega⟩)
    · have q1 := r_4_3 hS (stB.pe (wbB.nw hx0)) x1
      refine ⟨by omega, ?_⟩
      exact h8 z0 z1 (show ¬ x2 = 0 by omega) (show ¬ x2 = 1 by omega) (show ¬ x2 = 2 by omega) (show ¬ x2 = 3 by omega) (show ¬ x2 = 4 by omega) (show ¬ x2 = 5 by omega) (show ¬ x2 = 6 by omega) c2 (by first | exact puR.use hpu z0 z1 | exact ⟨by omega, by omega⟩)
    · have q2 := r_4_4 hS (stB.pe (wbB.nw hx0)) x1
      refine ⟨by omega, ?_⟩
      exact h9 z0 z1 (show ¬ x2 = 0 by omega) (show ¬ x2 = 1 by omega) (show ¬ x2 = 2 by omega) (show ¬ x2 = 3 by omega) (show ¬ x2 = 4 by omega) (show ¬ x2 = 5 by omega) (show ¬ x2 = 6 by omega) (show ¬ x2 = 7 by omega) c2 (by first | exact puR.use hpu z0 z1 | exact ⟨by omega, by omega⟩)
    · refine k_72 hS (wbB.nw hx0) (wbB.lo hx0) (m_inR (by omega) (by omega)) (fun F1 hS1 => ?_)
      refine t_128_183 ?_
      refine ⟨by omega, ?_⟩
      have hp2 : hsB (x0 + 1 + 10 + 6 + (1 + 2 * x1)) := peB.hs (stB.pe (wbB.nw hx0)) (by omega) (by omega)
      refine k_10 hS1 (wbB.lo hx0) hp2 (fun e7 => ?_)
      refine t_128_202 ?_
      exact h10 z0 z1 (show ¬ x2 = 0 by omega) (show ¬ x2 = 1 by omega) (show ¬ x2 = 2 by omega) (show ¬ x2 = 3 by omega) (show ¬ x2 = 4 by omega) (show ¬ x2 = 5 by omega) (show ¬ x2 = 6 by omega) (show ¬ x2 = 7 by omega) (show ¬ x2 = 8 by omega) c2 (by first | exact puR.use hpu z0 z1 | exact ⟨by omega, by omega⟩) (fun b hb => F1 b (by omega)) hS1
    · exact h11 z0 z1 (show ¬ x2 = 0 by omega) (show ¬ x2 = 1 by omega) (show ¬ x2 = 2 by omega) (show ¬ x2 = 3 by omega) (show ¬ x2 = 4 by omega) (show ¬ x2 = 5 by omega) (show ¬ x2 = 6 by omega) (show ¬ x2 = 7 by omega) (show ¬ x2 = 8 by omega) (show ¬ x2 = 9 by omega)
  · exact h12 z0 z1
theorem k_129 {E : mO × tW} {K : tK} {d : mD} {x0 x1 x2 : Int} (hS : Safe d) (hx0 : wbB x0) (p1 : -2147483648 ≤ x1 ∧ x1 ≤ 2147483647) (p2 : -2147483648 ≤ x2 ∧ x2 ≤ 2147483647) (h0 : (x1 < 0) → K (.inr 1) d) (h1 : (0 ≤ x1) → (x1 < d (x0 + 1 + 49) 0) → (x2 = 0) → (-1 ≤ (d (x0 + 1 + 49 + 1) x1) ∧ (d (x0 + 1 + 49 + 1) x1) ≤ 1199) → K (.inl (some (0, d (x0 + 1 + 49 + 1) x1))) d) (h2 : (0 ≤ x1) → (x1 < d (x0 + 1 + 49) 0) → (¬ x2 = 0) → (x2 = 1) → (-1 ≤ (d (x0 + 1 + 49 + 2) x1) ∧ (d (x0 + 1 + 49 + 2) x1) ≤ 1199) → K (.inl (some (0, d (x0 + 1 + 49 + 2) x1))) d) (h3 : (0 ≤ x1) → (x1 < d (x0 + 1 + 49) 0) → (¬ x2 = 0) → (¬ x2 = 1) → (x2 = 2) → (-1 ≤ (d (x0 + 1 + 49 + 3) x1) ∧ (d (x0 + 1 + 49 + 3) x1) ≤ 1199) → K (.inl (some (0, d (x0 + 1 + 49 + 3) x1))) d) (h4 : (0 ≤ x1) → (x1 < d (x0 + 1 + 49) 0) → (¬ x2 = 0) → (¬ x2 = 1) → (¬ x2 = 2) → (x2 = 3) → (-1 ≤ (d (x0 + 1 + 49 + 4) x1) ∧ (d (x0 + 1 + 49 + 4) x1) ≤ 1199) → K (.inl (some (0, d (x0 + 1 + 49 + 4) x1))) d) (h5 : (0 ≤ x1) → (x1 < d (x0 + 1 + 49) 0) → (¬ x2 = 0) → (¬ x2 = 1) → (¬ x2 = 2) → (¬ x2 = 3) → (x2 = 4) → (-1 ≤ (d (x0 + 1 + 49 + 5) x1) ∧ (d (x0 + 1 + 49 + 5) x1) ≤ 1199) → K (.inl (some (0, d (x0 + 1 + 49 + 5) x1))) d) (h6 : (0 ≤ x1) → (x1 < d (x0 + 1 + 49) 0) → (¬ x2 = 0) → (¬ x2 = 1) → (¬ x2 = 2) → (¬ x2 = 3) → (¬ x2 = 4) → (x2 = 5) → (¬ d (x0 + 1 + 49 + 6) x1 = 0) → (-1 ≤ 1 ∧ 1 ≤ 1199) → K (.inl (some (0, 1))) d) (h7 : (0 ≤ x1) → (x1 < d (x0 + 1 + 49) 0) → (¬ x2 = 0) → (¬ x2 = 1) → (¬ x2 = 2) → (¬ x2 = 3) → (¬ x2 = 4) → (x2 = 5) → (d (x0 + 1 + 49 + 6) x1 = 0) → (-1 ≤ 0 ∧ 0 ≤ 1199) → K (.inl (some (0, 0))) d) (h8 : (0 ≤ x1) → (x1 < d (x0 + 1 + 49) 0) → (¬ x2 = 0) → (¬ x2 = 1) → (¬ x2 = 2) → (¬ x2 = 3) → (¬ x2 = 4) → (¬ x2 = 5) → (x2 = 6) → (¬ d (x0 + 1 + 49 + 6) x1 = 2) → (-1 ≤ 0 ∧ 0 ≤ 1199) → K (.inl (some (0, 0))) d) (h9 : (0 ≤ x1) → (x1 < d (x0 + 1 + 49) 0) → (¬ x2 = 0) → (¬ x2 = 1) → (¬ x2 = 2) → (¬ x2 = 3) → (¬ x2 = 4) → (¬ x2 = 5) → (x2 = 6) → (d (x0 + 1 + 49 + 6) x1 = 2) → (-1 ≤ 1 ∧ 1 ≤ 1199) → K (.inl (some (0, 1))) d) (h10 : (0 ≤ x1) → (x1 < d (x0 + 1 + 49) 0) → (¬ x2 = 0) → (¬ x2 = 1) → (¬ x2 = 2) → (¬ x2 = 3) → (¬ x2 = 4) → (¬ x2 = 5) → (¬ x2 = 6) → (x2 = 7) → (-1 ≤ (v_298 (d (x0 + 1 + 49 + 7) x1) d) ∧ (v_298 (d (x0 + 1 + 49 + 7) x1) d) ≤ 1199) → K (.inl (some (0, v_298 (d (x0 + 1 + 49 + 7) x1) d))) d) (h11 : (0 ≤ x1) → (x1 < d (x0 + 1 + 49) 0) → (¬ x2 = 0) → (¬ x2 = 1) → (¬ x2 = 2) → (¬ x2 = 3) → (¬ x2 = 4) → (¬ x2 = 5) → (¬ x2 = 6) → (¬ x2 = 7) → (x2 = 8) → (-1 ≤ (v_71 (x0 + 1) x1 d) ∧ (v_71 (x0 + 1) x1 d) ≤ 1199) → K (.inl (some (0, v_71 (x0 + 1) x1 d))) d) (h12 : (0 ≤ x1) → (x1 < d (x0 + 1 + 49) 0) → (¬ x2 = 0) → (¬ x2 = 1) → (¬ x2 = 2) → (¬ x2 = 3) → (¬ x2 = 4) → (¬ x2 = 5) → (¬ x2 = 6) → (¬ x2 = 7) → (¬ x2 = 8) → (x2 = 9) → (-1 ≤ (v_112 (x0 + 1 + 57) x1 d) ∧ (v_112 (x0 + 1 + 57) x1 d) ≤ 1199) → K (.inl (some (0, v_112 (x0 + 1 + 57) x1 d))) d) (h13 : (0 ≤ x1) → (x1 < d (x0 + 1 + 49) 0) → (¬ x2 = 0) → (¬ x2 = 1) → (¬ x2 = 2) → (¬ x2 = 3) → (¬ x2 = 4) → (¬ x2 = 5) → (¬ x2 = 6) → (¬ x2 = 7) → (¬ x2 = 8) → (¬ x2 = 9) → (x2 = 10) → (-1 ≤ (v_39 (x0 + 1 + 2) (d (x0 + 1 + 49 + 2) x1) x1 d) ∧ (v_39 (x0 + 1 + 2) (d (x0 + 1 + 49 + 2) x1) x1 d) ≤ 1199) → K (.inl (some (0, v_39 (x0 + 1 + 2) (d (x0 + 1 + 49 + 2) x1) x1 d))) d) (h14 : (0 ≤ x1) → (x1 < d (x0 + 1 + 49) 0) → (¬ x2 = 0) → (¬ x2 = 1) → (¬ x2 = 2) → (¬ x2 = 3) → (¬ x2 = 4) → (¬ x2 = 5) → (¬ x2 = 6) → (¬ x2 = 7) → (¬ x2 = 8) → (¬ x2 = 9) → (¬ x2 = 10) → K (.inr 2) d) (h15 : (0 ≤ x1) → (d (x0 + 1 + 49) 0 ≤ x1) → K (.inr 1) d) : tCall E 129 [.inr (10, x0), .inl (0, x1), .inl (0, x2)] d K := by
  refine t_129_0 ?_
  have w0 : x0 = 0 := hx0
  have w2 := r_6_f2 hS (wbB.nw hx0)
  have w3 := r_3_f0 hS (stB.of (wbB.nw hx0))
  have w4 := r_4_f0 hS (stB.pe (wbB.nw hx0))
  have w5 := r_8_f0 hS (stB.ti (wbB.nw hx0))
  have w6 := r_9_f0 hS (stB.to (wbB.nw hx0))
  have w7 := r_7_f1 hS (wbB.tx hx0)
  refine k_167 hS hx0 (m_inR (by omega) (by omega)) (fun z0 => ?_) (fun z0 z1 => ?_) (fun z0 z1 => ?_)
  · exact h0 z0
  · refine t_129_5 ?_
    refine ⟨m_inR (by omega) (by omega), fun c2 => ?_, fun c2 => ?_, fun c2 => ?_, fun c2 => ?_, fun c2 => ?_, fun c2 => ?_, fun c2 => ?_, fun c2 => ?_, fun c2 => ?_, fun c2 => ?_, fun c2 => ?_, fun c2 => ?_⟩
    · have q1 := r_8_1 hS (stB.ti (wbB.nw hx0)) x1
      refine ⟨by omega, ?_⟩
      exact h1 z0 z1 c2 (by omega)
    · have q2 := r_8_2 hS (stB.ti (wbB.nw hx0)) x1
      refine ⟨by omega, ?_⟩
      exact h2 z0 z1 (show ¬ x2 = 0 by omega) c2 (by omega)
    · have q3 := r_8_3 hS (stB.ti (wbB.nw hx0)) x1
      refine ⟨by omega, ?_⟩
      exact h3 z0 z1 (show ¬ x2 = 0 by omega) (show ¬ x2 = 1 by omega) c2 (by omega)
    · have q4 := r_8_4 hS (stB.ti (wbB.nw hx0)) x1
      refine ⟨by omega, ?_⟩
      exact h4 z0 z1 (show ¬ x2 = 0 by omega) (show ¬ x2 = 1 by omega) (show ¬ x2 = 2 by omega) c2 (by omega)
    · have q5 := r_8_5 hS (stB.ti (wbB.nw hx0)) x1
      refine ⟨by omega, ?_⟩
      exact h5 z0 z1 (show ¬ x2 = 0 by omega) (show ¬ x2 = 1 by omega) (show ¬ x2 = 2 by omega) (show ¬ x2 = 3 by omega) c2 (by omega)
    · have q6 := r_8_6 hS (stB.ti (wbB.nw hx0)) x1
      refine ⟨by omega, m_inR (by omega) (by omega), fun c8 => ?_, fun c8 => ?_⟩
      · exact h6 z0 z1 (show ¬ x2 = 0 by omega) (show ¬ x2 = 1 by omega) (show ¬ x2 = 2 by omega) (show ¬ x2 = 3 by omega) (show ¬ x2 = 4 by omega) c2 c8 (by omega)
      · exact h7 z0 z1 (show ¬ x2 = 0 by omega) (show ¬ x2 = 1 by omega) (show ¬ x2 = 2 by omega) (show ¬ x2 = 3 by omega) (show ¬ x2 = 4 by omega) c2 c8 (by omega)
    · have q7 := r_8_6 hS (stB.ti (wbB.nw hx0)) x1
      refine ⟨by omega, ⟨m_inR (by omega) (by omega), m_inR (by omega) (by omega)⟩, fun c9 => ?_, fun c9 => ?_⟩
      · exact h8 z0 z1 (show ¬ x2 = 0 by omega) (show ¬ x2 = 1 by omega) (show ¬ x2 = 2 by omega) (show ¬ x2 = 3 by omega) (show ¬ x2 = 4 by omega) (show ¬ x2 = 5 by omega) c2 c9 (by omega)
      · exact h9 z0 z1 (show ¬ x2 = 0 by omega) (show ¬ x2 = 1 by omega) (show ¬ x2 = 2 by omega) (show ¬ x2 = 3 by omega) (show ¬ x2 = 4 by omega) (show ¬ x2 = 5 by omega) c2 c9 (by omega)
    · refine ⟨by omega, ?_⟩
      refine k_298 hS (fun e1 => ?_)
      refine t_129_147 ?_
      exact h10 z0 z1 (show ¬ x2 = 0 by omega) (show ¬ x2 = 1 by omega) (show ¬ x2 = 2 by omega) (show ¬ x2 = 3 by omega) (show ¬ x2 = 4 by omega) (show ¬ x2 = 5 by omega) (show ¬ x2 = 6 by omega) c2 (by omega)
    · refine k_71 hS (wbB.nw hx0) (by omega) (fun e2 => ?_)
      refine t_129_156 ?_
      exact h11 z0 z1 (show ¬ x2 = 0 by omega) (show ¬ x2 = 1 by omega) (show ¬ x2 = 2 by omega) (show ¬ x2 = 3 by omega) (show ¬ x2 = 4 by omega) (show ¬ x2 = 5 by omega) (show ¬ x2 = 6 by omega) (show ¬ x2 = 7 by omega) c2 (by omega)
    · refine k_112 hS (stB.to (wbB.nw hx0)) (m_inR (by omega) (by omega)) (fun e3 => ?_)
      refine t_129_168 ?_
      exact h12 z0 z1 (show ¬ x2 = 0 by omega) (show ¬ x2 = 1 by omega) (show ¬ x2 = 2 by omega) (show ¬ x2 = 3 by omega) (show ¬ x2 = 4 by omega) (show ¬ x2 = 5 by omega) (show ¬ x2 = 6 by omega) (show ¬ x2 = 7 by omega) (show ¬ x2 = 8 by omega) c2 (by omega)
    · refine ⟨by omega, ?_⟩
      have q8 := r_8_2 hS (stB.ti (wbB.nw hx0)) x1
      refine k_39 hS (stB.of (wbB.nw hx0)) (by omega) (m_inR (by omega) (by omega)) (fun e4 => ?_)
      refine t_129_186 ?_
      exact h13 z0 z1 (show ¬ x2 = 0 by omega) (show ¬ x2 = 1 by omega) (show ¬ x2 = 2 by omega) (show ¬ x2 = 3 by omega) (show ¬ x2 = 4 by omega) (show ¬ x2 = 5 by omega) (show ¬ x2 = 6 by omega) (show ¬ x2 = 7 by omega) (show ¬ x2 = 8 by omega) (show ¬ x2 = 9 by omega) c2 (by omega)
    · exact h14 z0 z1 (show ¬ x2 = 0 by omega) (show ¬ x2 = 1 by omega) (show ¬ x2 = 2 by omega) (show ¬ x2 = 3 by omega) (show ¬ x2 = 4 by omega) (show ¬ x2 = 5 by omega) (show ¬ x2 = 6 by omega) (show ¬ x2 = 7 by omega) (show ¬ x2 = 8 by omega) (show ¬ x2 = 9 by omega) (show ¬ x2 = 10 by omega)
  · exact h15 z0 z1
theorem k_130 {E : mO × tW} {K : tK} {d : mD} {x0 x1 x2 : Int} (hS : Safe d) (hx0 : wbB x0) (p1 : -2147483648 ≤ x1 ∧ x1 ≤ 2147483647) (p2 : -2147483648 ≤ x2 ∧ x2 ≤ 2147483647) (h0 : (x1 < 0) → K (.inr 1) d) (h1 : (0 ≤ x1) → (x1 < d (x0 + 1 + 57) 0) → (x2 = 0) → (-1 ≤ (d (x0 + 1 + 57 + 1) x1) ∧ (d (x0 + 1 + 57 + 1) x1) ≤ 1300) → K (.inl (some (0, d (x0 + 1 + 57 + 1) x1))) d) (h2 : (0 ≤ x1) → (x1 < d (x0 + 1 + 57) 0) → (¬ x2 = 0) → (x2 = 1) → (-1 ≤ (d (x0 + 1 + 57 + 2) x1) ∧ (d (x0 + 1 + 57 + 2) x1) ≤ 1300) → K (.inl (some (0, d (x0 + 1 + 57 + 2) x1))) d) (h3 : (0 ≤ x1) → (x1 < d (x0 + 1 + 57) 0) → (¬ x2 = 0) → (¬ x2 = 1) → (x2 = 2) → (-1 ≤ (d (x0 + 1 + 57 + 3) x1) ∧ (d (x0 + 1 + 57 + 3) x1) ≤ 1300) → K (.inl (some (0, d (x0 + 1 + 57 + 3) x1))) d) (h4 : (0 ≤ x1) → (x1 < d (x0 + 1 + 57) 0) → (¬ x2 = 0) → (¬ x2 = 1) → (¬ x2 = 2) → (x2 = 3) → (-1 ≤ (d (x0 + 1 + 57 + 4) x1) ∧ (d (x0 + 1 + 57 + 4) x1) ≤ 1300) → K (.inl (some (0, d (x0 + 1 + 57 + 4) x1))) d) (h5 : (0 ≤ x1) → (x1 < d (x0 + 1 + 57) 0) → (¬ x2 = 0) → (¬ x2 = 1) → (¬ x2 = 2) → (¬ x2 = 3) → (x2 = 4) → (-1 ≤ (v_113 (x0 + 1 + 57) x1 d) ∧ (v_113 (x0 + 1 + 57) x1 d) ≤ 1300) → K (.inl (some (0, v_113 (x0 + 1 + 57) x1 d))) d) (h6 : (0 ≤ x1) → (x1 < d (x0 + 1 + 57) 0) → (¬ x2 = 0) → (¬ x2 = 1) → (¬ x2 = 2) → (¬ x2 = 3) → (¬ x2 = 4) → K (.inr 2) d) (h7 : (0 ≤ x1) → (d (x0 + 1 + 57) 0 ≤ x1) → K (.inr 1) d) : tCall E 130 [.inr (10, x0), .inl (0, x1), .inl (0, x2)] d K := by
  refine t_130_0 ?_
  have w0 : x0 = 0 := hx0
  have w2 := r_6_f2 hS (wbB.nw hx0)
  have w3 := r_3_f0 hS (stB.of (wbB.nw hx0))
  have w4 := r_4_f0 hS (stB.pe (wbB.nw hx0))
  have w5 := r_8_f0 hS (stB.ti (wbB.nw hx0))
  have w6 := r_9_f0 hS (stB.to (wbB.nw hx0))
  have w7 := r_7_f1 hS (wbB.tx hx0)
  refine ⟨m_inR (by omega) (by omega), fun c0 => ?_, fun c0 => ?_⟩
  · exact h0 c0
  · have q1 := r_9_f0 hS (stB.to (wbB.nw hx0))
    refine ⟨⟨m_inR (by omega) (by omega), m_inR (by omega) (by omega)⟩, fun c1 => ?_, fun c1 => ?_⟩
    · refine ⟨m_inR (by omega) (by omega), fun c2 => ?_, fun c2 => ?_, fun c2 => ?_, fun c2 => ?_, fun c2 => ?_, fun c2 => ?_⟩
      · have q2 := r_9_1 hS (stB.to (wbB.nw hx0)) x1
        refine ⟨by omega, ?_⟩
        exact h1 c0 c1 c2 (by omega)
      · have q3 := r_9_2 hS (stB.to (wbB.nw hx0)) x1
        refine ⟨by omega, ?_⟩
        exact h2 c0 c1 (show ¬ x2 = 0 by omega) c2 (by omega)
      · have q4 := r_9_3 hS (stB.to (wbB.nw hx0)) x1
        refine ⟨by omega, ?_⟩
        exact h3 c0 c1 (show ¬ x2 = 0 by omega) (show ¬ x2 = 1 by omega) c2 (by omega)
      · have q5 := r_9_4 hS (stB.to (wbB.nw hx0)) x1
        refine ⟨by omega, ?_⟩
        exact h4 c0 c1 (show ¬ x2 = 0 by omega) (show ¬ x2 = 1 by omega) (show ¬ x2 = 2 by omega) c2 (by omega)
      · refine k_113 hS (stB.to (wbB.nw hx0)) (m_inR (by omega) (by omega)) (fun e1 => ?_)
        refine t_130_127 ?_
        exact h5 c0 c1 (show ¬ x2 = 0 by omega) (show ¬ x2 = 1 by omega) (show ¬ x2 = 2 by omega) (show ¬ x2 = 3 by omega) c2 (by omega)
      · exact h6 c0 c1 (show ¬ x2 = 0 by omega) (show ¬ x2 = 1 by omega) (show ¬ x2 = 2 by omega) (show ¬ x2 = 3 by omega) (show ¬ x2 = 4 by omega)
    · exact h7 c0 c1
theorem k_131 {E : mO × tW} {K : tK} {d : mD} {x0 x1 x2 : Int} (hS : Safe d) (hx0 : wbB x0) (p1 : -2147483648 ≤ x1 ∧ x1 ≤ 2147483647) (p2 : -2147483648 ≤ x2 ∧ x2 ≤ 2147483647) (h0 : (x1 < 0) → K (.inr 1) d) (h1 : (0 ≤ x1) → (x1 < d (x0 + 1 + 10) 0) → (x2 < 0) → K (.inr 2) d) (h2 : (0 ≤ x1) → (x1 < d (x0 + 1 + 10) 0) → (0 ≤ x2) → (x2 ≤ (999 : Int)) → (0 ≤ (v_6 (x0 + 1 + 10 + 6 + (1 + 2 * x1)) x2 d) ∧ (v_6 (x0 + 1 + 10 + 6 + (1 + 2 * x1)) x2 d) ≤ 1) → K (.inl (some (0, v_6 (x0 + 1 + 10 + 6 + (1 + 2 * x1)) x2 d))) d) (h3 : (0 ≤ x1) → (x1 < d (x0 + 1 + 10) 0) → (0 ≤ x2) → ((999 : Int) < x2) → K (.inr 2) d) (h4 : (0 ≤ x1) → (d (x0 + 1 + 10) 0 ≤ x1) → K (.inr 1) d) : tCall E 131 [.inr (10, x0), .inl (0, x1), .inl (0, x2)] d K := by
  refine t_131_0 ?_
  have w0 : x0 = 0 := hx0
  have w2 := r_6_f2 hS (wbB.nw hx0)
  have w3 := r_3_f0 hS (stB.of (wbB.nw hx0))
  have w4 := r_4_f0 hS (stB.pe (wbB.nw hx0))
  have w5 := r_8_f0 hS (stB.ti (wbB.nw hx0))
  have w6 := r_9_f0 hS (stB.to (wbB.nw hx0))
  have w7 := r_7_f1 hS (wbB.tx hx0)
  refine k_166 hS hx0 (m_inR (by omega) (by omega)) (fun z0 => ?_) (fun z0 z1 => ?_) (fun z0 z1 => ?_)
  · exact h0 z0
  · refine t_131_5 ?_
    refine ⟨m_inR (by omega) (by omega), fun c2 => ?_, fun c2 => ?_⟩
    · exact h1 z0 z1 c2
    · refine ⟨⟨m_inR (by omega) (by omega), m_inR (by omega) (by omega)⟩, fun c3 => ?_, fun c3 => ?_⟩
      · refine ⟨by omega, ?_⟩
        have hp1 : hsB (x0 + 1 + 10 + 6 + (1 + 2 * x1)) := peB.hs (stB.pe (wbB.nw hx0)) (by omega) (by omega)
        refine k_6 hS hp1 (m_inR (by omega) (by omega)) (fun e1 => ?_)
        refine t_131_43 ?_
        refine ⟨by omega, ?_⟩
        exact h2 z0 z1 c2 c3 (by omega)
      · exact h3 z0 z1 c2 c3
  · exact h4 z0 z1
theorem k_132 {E : mO × tW} {K : tK} {d : mD} {x0 x1 x2 : Int} (hS : Safe d) (hx0 : wbB x0) (p1 : -2147483648 ≤ x1 ∧ x1 ≤ 2147483647) (p2 : -2147483648 ≤ x2 ∧ x2 ≤ 2147483647) (h0 : (x1 < 0) → K (.inr 1) d) (h1 : (0 ≤ x1) → (x1 < d (x0 + 1 + 49) 0) → (x2 < 0) → K (.inr 1) d) (h2 : (0 ≤ x1) → (x1 < d (x0 + 1 + 49) 0) → (0 ≤ x2) → (x2 < d (x0 + 1 + 10) 0) → (0 ≤ (v_77 (x0 + 1) x1 x2 d) ∧ (v_77 (x0 + 1) x1 x2 d) ≤ 7) → K (.inl (some (0, v_77 (x0 + 1) x1 x2 d))) d) (h3 : (0 ≤ x1) → (x1 < d (x0 + 1 + 49) 0) → (0 ≤ x2) → (d (x0 + 1 + 10) 0 ≤ x2) → K (.inr 1) d) (h4 : (0 ≤ x1) → (d (x0 + 1 + 49) 0 ≤ x1) → K (.inr 1) d) : tCall E 132 [.inr (10, x0), .inl (0, x1), .inl (0, x2)] d K := by
  refine t_132_0 ?_
  have w0 : x0 = 0 := hx0
  have w2 := r_6_f2 hS (wbB.nw hx0)
  have w3 := r_3_f0 hS (stB.of (wbB.nw hx0))
  have w4 := r_4_f0 hS (stB.pe (wbB.nw hx0))
  have w5 := r_8_f0 hS (stB.ti (wbB.nw hx0))
  have w6 := r_9_f0 hS (stB.to (wbB.nw hx0))
  have w7 := r_7_f1 hS (wbB.tx hx0)
  refine k_167 hS hx0 (m_inR (by omega) (by omega)) (fun z0 => ?_) (fun z0 z1 => ?_) (fun z0 z1 => ?_)
  · exact h0 z0
  · refine t_132_5 ?_
    refine k_166 hS hx0 (m_inR (by omega) (by omega)) (fun z2 => ?_) (fun z2 z3 => ?_) (fun z2 z3 => ?_)
    · exact h1 z0 z1 z2
    · refine t_132_10 ?_
      refine k_77 hS (wbB.nw hx0) (by omega) (by omega) (fun e1 => ?_)
      refine t_132_19 ?_
      exact h2 z0 z1 z2 z3 (by omega)
    · exact h3 z0 z1 z2 z3
  · exact h4 z0 z1
theorem k_133 {E : mO × tW} {K : tK} {d : mD} {x0 x1 x2 : Int} (hS : Safe d) (hx0 : wbB x0) (p1 : -2147483648 ≤ x1 ∧ x1 ≤ 2147483647) (p2 : -2147483648 ≤ x2 ∧ x2 ≤ 2147483647) (h0 : (x1 < 0) → K (.inr 1) d) (h1 : (0 ≤ x1) → (x1 < d (x0 + 1 + 49) 0) → (x2 < 0) → K (.inr 1) d) (h2 : (0 ≤ x1) → (x1 < d (x0 + 1 + 49) 0) → (0 ≤ x2) → (x2 < d (x0 + 1 + 10) 0) → (0 ≤ (v_78 (x0 + 1) x1 x2 d) ∧ (v_78 (x0 + 1) x1 x2 d) ≤ 2000) → K (.inl (some (0, v_78 (x0 + 1) x1 x2 d))) d) (h3 : (0 ≤ x1) → (x1 < d (x0 + 1 + 49) 0) → (0 ≤ x2) → (d (x0 + 1 + 10) 0 ≤ x2) → K (.inr 1) d) (h4 : (0 ≤ x1) → (d (x0 + 1 + 49) 0 ≤ x1) → K (.inr 1) d) : tCall E 133 [.inr (10, x0), .inl (0, x1), .inl (0, x2)] d K := by
  refine t_133_0 ?_
  have w0 : x0 = 0 := hx0
  have w2 := r_6_f2 hS (wbB.nw hx0)
  have w3 := r_3_f0 hS (stB.of (wbB.nw hx0))
  have w4 := r_4_f0 hS (stB.pe (wbB.nw hx0))
  have w5 := r_8_f0 hS (stB.ti (wbB.nw hx0))
  have w6 := r_9_f0 hS (stB.to (wbB.nw hx0))
  have w7 := r_7_f1 hS (wbB.tx hx0)
  refine k_167 hS hx0 (m_inR (by omega) (by omega)) (fun z0 => ?_) (fun z0 z1 => ?_) (fun z0 z1 => ?_)
  · exact h0 z0
  · refine t_133_5 ?_
    refine k_166 hS hx0 (m_inR (by omega) (by omega)) (fun z2 => ?_) (fun z2 z3 => ?_) (fun z2 z3 => ?_)
    · exact h1 z0 z1 z2
    · refine t_133_10 ?_
      refine k_78 hS (wbB.nw hx0) (by omega) (m_inR (by omega) (by omega)) (fun e1 => ?_)
      refine t_133_19 ?_
      exact h2 z0 z1 z2 z3 (by omega)
    · exact h3 z0 z1 z2 z3
  · exact h4 z0 z1
theorem k_135 {E : mO × tW} {K : tK} {d : mD} {x0 x1 x2 : Int} (hS : Safe d) (hx0 : wbB x0) (p1 : -2147483648 ≤ x1 ∧ x1 ≤ 2147483647) (p2 : -2147483648 ≤ x2 ∧ x2 ≤ 2147483647) (h0 : (x1 < 0) → K (.inr 1) d) (h1 : (0 ≤ x1) → (x1 < d (x0 + 1 + 49) 0) → (x2 < 0) → K (.inr 1) d) (h2 : (0 ≤ x1) → (x1 < d (x0 + 1 + 49) 0) → (0 ≤ x2) → (x2 < d (x0 + 1 + 10) 0) → (0 ≤ (v_99 (x0 + 1 + 49) x1 x2 d) ∧ (v_99 (x0 + 1 + 49) x1 x2 d) ≤ 1) → K (.inl (some (0, v_99 (x0 + 1 + 49) x1 x2 d))) d) (h3 : (0 ≤ x1) → (x1 < d (x0 + 1 + 49) 0) → (0 ≤ x2) → (d (x0 + 1 + 10) 0 ≤ x2) → K (.inr 1) d) (h4 : (0 ≤ x1) → (d (x0 + 1 + 49) 0 ≤ x1) → K (.inr 1) d) : tCall E 135 [.inr (10, x0), .inl (0, x1), .inl (0, x2)] d K := by
  refine t_135_0 ?_
  have w0 : x0 = 0 := hx0
  have w2 := r_6_f2 hS (wbB.nw hx0)
  have w3 := r_3_f0 hS (stB.of (wbB.nw hx0))
  have w4 := r_4_f0 hS (stB.pe (wbB.nw hx0))
  have w5 := r_8_f0 hS (stB.ti (wbB.nw hx0))
  have w6 := r_9_f0 hS (stB.to (wbB.nw hx0))
  have w7 := r_7_f1 hS (wbB.tx hx0)
  refine k_167 hS hx0 (m_inR (by omega) (by omega)) (fun z0 => ?_) (fun z0 z1 => ?_) (fun z0 z1 => ?_)
  · exact h0 z0
  · refine t_135_5 ?_
    refine k_166 hS hx0 (m_inR (by omega) (by omega)) (fun z2 => ?_) (fun z2 z3 => ?_) (fun z2 z3 => ?_)
    · exact h1 z0 z1 z2
    · refine t_135_10 ?_
      refine k_99 hS (stB.ti (wbB.nw hx0)) (by omega) (m_inR (by omega) (by omega)) (fun e1 => ?_)
      refine t_135_22 ?_
      refine ⟨by omega, ?_⟩
      exact h2 z0 z1 z2 z3 (by omega)
    · exact h3 z0 z1 z2 z3
  · exact h4 z0 z1
theorem k_136 {E : mO × tW} {K : tK} {d : mD} {x0 x1 : Int} (hS : Safe d) (hx0 : wbB x0) (p1 : -2147483648 ≤ x1 ∧ x1 ≤ 2147483647) (h0 : (x1 < 0) → K (.inr 1) d) (h1 : (0 ≤ x1) → (x1 < d (x0 + 1 + 49) 0) → (¬ d (x0 + 1 + 49 + 5) x1 = 1) → (0 ≤ 0 ∧ 0 ≤ 1300) → K (.inl (some (0, 0))) d) (h2 : (0 ≤ x1) → (x1 < d (x0 + 1 + 49) 0) → (d (x0 + 1 + 49 + 5) x1 = 1) → (0 ≤ (v_80 (x0 + 1) x1 d) ∧ (v_80 (x0 + 1) x1 d) ≤ 1300) → K (.inl (some (0, v_80 (x0 + 1) x1 d))) d) (h3 : (0 ≤ x1) → (d (x0 + 1 + 49) 0 ≤ x1) → K (.inr 1) d) : tCall E 136 [.inr (10, x0), .inl (0, x1)] d K := by
  refine t_136_0 ?_
  have w0 : x0 = 0 := hx0
  have w2 := r_6_f2 hS (wbB.nw hx0)
  have w3 := r_3_f0 hS (stB.of (wbB.nw hx0))
  have w4 := r_4_f0 hS (stB.pe (wbB.nw hx0))
  have w5 := r_8_f0 hS (stB.ti (wbB.nw hx0))
  have w6 := r_9_f0 hS (stB.to (wbB.nw hx0))
  have w7 := r_7_f1 hS (wbB.tx hx0)
  refine k_167 hS hx0 (m_inR (by omega) (by omega)) (fun z0 => ?_) (fun z0 z1 => ?_) (fun z0 z1 => ?_)
  · exact h0 z0
  · refine t_136_5 ?_
    have q1 := r_8_5 hS (stB.ti (wbB.nw hx0)) x1
    refine ⟨by omega, ⟨m_inR (by omega) (by omega), m_inR (by omega) (by omega)⟩, fun c2 => ?_, fun c2 => ?_⟩
    · exact h1 z0 z1 c2 (by omega)
    · refine k_80 hS (wbB.nw hx0) (by omega) (fun e1 => ?_)
      refine t_136_29 ?_
      exact h2 z0 z1 c2 (by omega)
  · exact h3 z0 z1
def v_137 (x0 : Int) (d : mD) : Int := ((d (x0 + 1 + 57) 0) - (v_110 (x0 + 1 + 57) 2 d)) * (d (x0 + 1 + 1) 4)
theorem k_137 {E : mO × tW} {K : tK} {d : mD} {x0 : Int} (hS : Safe d) (hx0 : wbB x0) (h : (-19800 ≤ (v_137 x0 d) ∧ (v_137 x0 d) ≤ 19800) → K (.inl (some (0, (v_137 x0 d)))) d) : tCall E 137 [.inr (10, x0)] d K := by
  refine t_137_0 ?_
  have w0 : x0 = 0 := hx0
  have w2 := r_6_f2 hS (wbB.nw hx0)
  have w3 := r_3_f0 hS (stB.of (wbB.nw hx0))
  have w4 := r_4_f0 hS (stB.pe (wbB.nw hx0))
  have w5 := r_8_f0 hS (stB.ti (wbB.nw hx0))
  have w6 := r_9_f0 hS (stB.to (wbB.nw hx0))
  have w7 := r_7_f1 hS (wbB.tx hx0)
  refine k_110 hS (stB.to (wbB.nw hx0)) (m_inR (by omega) (by omega)) (fun e1 => ?_)
  refine t_137_21 ?_
  have q1 := r_9_f0 hS (stB.to (wbB.nw hx0))
  have q2 := r_6_1 hS (wbB.nw hx0) ((4 : Int))
  refine ⟨by omega, ?_⟩
  have y0 : v_137 x0 d = ((d (x0 + 1 + 57) 0) - (v_110 (x0 + 1 + 57) 2 d)) * (d (x0 + 1 + 1) 4) := by simp only [v_137]
  rw [y0] at h
  exact h (show -19800 ≤ (((d (x0 + 1 + 57) 0) - (v_110 (x0 + 1 + 57) 2 d)) * (d (x0 + 1 + 1) 4)) ∧ (((d (x0 + 1 + 57) 0) - (v_110 (x0 + 1 + 57) 2 d)) * (d (x0 + 1 + 1) 4)) ≤ 19800 from (mul_r (by omega) (by omega)))
def v_138 (x0 : Int) (d : mD) : Int := if v_101 (x0 + 1 + 49) 1 d = 0 then 0 else mddiv (mi2d (v_106 (x0 + 1 + 49) d)) (mi2d (v_101 (x0 + 1 + 49) 1 d))
theorem k_138 {E : mO × tW} {K : tK} {d : mD} {x0 : Int} (hS : Safe d) (hx0 : wbB x0) (h : K (.inl (some (2, (v_138 x0 d)))) d) : tCall E 138 [.inr (10, x0)] d K := by
  refine t_138_0 ?_
  have w0 : x0 = 0 := hx0
  have w2 := r_6_f2 hS (wbB.nw hx0)
  have w3 := r_3_f0 hS (stB.of (wbB.nw hx0))
  have w4 := r_4_f0 hS (stB.pe (wbB.nw hx0))
  have w5 := r_8_f0 hS (stB.ti (wbB.nw hx0))
  have w6 := r_9_f0 hS (stB.to (wbB.nw hx0))
  have w7 := r_7_f1 hS (wbB.tx hx0)
  refine k_101 hS (stB.ti (wbB.nw hx0)) (m_inR (by omega) (by omega)) (fun e1 => ?_)
  refine t_138_11 ?_
  refine ⟨m_inR (by omega) (by omega), fun c0 => ?_, fun c0 => ?_⟩
  · refine k_106 hS (stB.ti (wbB.nw hx0)) (fun e2 => ?_)
    refine t_138_30 ?_
    refine ⟨dd_ok (by omega), ?_⟩
    have y0 : v_138 x0 d = mddiv (mi2d (v_106 (x0 + 1 + 49) d)) (mi2d (v_101 (x0 + 1 + 49) 1 d)) := by simp only [v_138, if_neg (show ¬ v_101 (x0 + 1 + 49) 1 d = 0 from c0)]
    rw [y0] at h
    exact h
  · have y0 : v_138 x0 d = 0 := by simp only [v_138, if_pos (show v_101 (x0 + 1 + 49) 1 d = 0 from c0)]
    rw [y0] at h
    exact h
def v_141 (x0 : Int) (d : mD) : Int := ((((d (x0 + 1 + 57) 0) - (v_110 (x0 + 1 + 57) 0 d)) - (v_110 (x0 + 1 + 57) 1 d)) - (v_110 (x0 + 1 + 57) 2 d)) + (v_84 (x0 + 1) d)
theorem k_141 {E : mO × tW} {K : tK} {d : mD} {x0 : Int} (hS : Safe d) (hx0 : wbB x0) (h : (-600 ≤ (v_141 x0 d) ∧ (v_141 x0 d) ≤ 40200) → K (.inl (some (0, (v_141 x0 d)))) d) : tCall E 141 [.inr (10, x0)] d K := by
  refine t_141_0 ?_
  have w0 : x0 = 0 := hx0
  have w2 := r_6_f2 hS (wbB.nw hx0)
  have w3 := r_3_f0 hS (stB.of (wbB.nw hx0))
  have w4 := r_4_f0 hS (stB.pe (wbB.nw hx0))
  have w5 := r_8_f0 hS (stB.ti (wbB.nw hx0))
  have w6 := r_9_f0 hS (stB.to (wbB.nw hx0))
  have w7 := r_7_f1 hS (wbB.tx hx0)
  refine k_110 hS (stB.to (wbB.nw hx0)) (m_inR (by omega) (by omega)) (fun e1 => ?_)
  refine t_141_17 ?_
  refine k_110 hS (stB.to (wbB.nw hx0)) (m_inR (by omega) (by omega)) (fun e2 => ?_)
  refine t_141_23 ?_
  refine k_110 hS (stB.to (wbB.nw hx0)) (m_inR (by omega) (by omega)) (fun e3 => ?_)
  refine t_141_29 ?_
  refine k_84 hS (wbB.nw hx0) (fun e4 => ?_)
  refine t_141_39 ?_
  have q1 := r_9_f0 hS (stB.to (wbB.nw hx0))
  have y0 : v_141 x0 d = ((((d (x0 + 1 + 57) 0) - (v_110 (x0 + 1 + 57) 0 d)) - (v_110 (x0 + 1 + 57) 1 d)) - (v_110 (x0 + 1 + 57) 2 d)) + (v_84 (x0 + 1) d) := by simp only [v_141]
  rw [y0] at h
  exact h (show -600 ≤ (((((d (x0 + 1 + 57) 0) - (v_110 (x0 + 1 + 57) 0 d)) - (v_110 (x0 + 1 + 57) 1 d)) - (v_110 (x0 + 1 + 57) 2 d)) + (v_84 (x0 + 1) d)) ∧ (((((d (x0 + 1 + 57) 0) - (v_110 (x0 + 1 + 57) 0 d)) - (v_110 (x0 + 1 + 57) 1 d)) - (v_110 (x0 + 1 + 57) 2 d)) + (v_84 (x0 + 1) d)) ≤ 40200 from (by omega))
theorem k_142 {E : mO × tW} {K : tK} {d : mD} {x0 x1 : Int} (hS : Safe d) (hx0 : wbB x0) (p1 : -2147483648 ≤ x1 ∧ x1 ≤ 2147483647) (h0 : (x1 < 0) → K (.inr 1) d) (h1 : (0 ≤ x1) → (x1 < d (x0 + 1 + 49) 0) → (¬ d (x0 + 1 + 49 + 5) x1 = 1) → (¬ v_39 (x0 + 1 + 2) (d (x0 + 1 + 49 + 2) x1) x1 d = (-1)) → (v_43 (x0 + 1 + 2) (d (x0 + 1 + 49 + 2) x1) (v_39 (x0 + 1 + 2) (d (x0 + 1 + 49 + 2) x1) x1 d) (d (x0 + 1) 2) d ≤ (200 : Int)) → (0 ≤ (v_43 (x0 + 1 + 2) (d (x0 + 1 + 49 + 2) x1) (v_39 (x0 + 1 + 2) (d (x0 + 1 + 49 + 2) x1) x1 d) (d (x0 + 1) 2) d) ∧ (v_43 (x0 + 1 + 2) (d (x0 + 1 + 49 + 2) x1) (v_39 (x0 + 1 + 2) (d (x0 + 1 + 49 + 2) x1) x1 d) (d (x0 + 1) 2) d) ≤ 200) → K (.inl (some (0, v_43 (x0 + 1 + 2) (d (x0 + 1 + 49 + 2) x1) (v_39 (x0 + 1 + 2) (d (x0 + 1 + 49 + 2) x1) x1 d) (d (x0 + 1) 2) d))) d) (h2 : (0 ≤ x1) → (x1 < d (x0 + 1 + 49) 0) → (¬ d (x0 + 1 + 49 + 5) x1 = 1) → (¬ v_39 (x0 + 1 + 2) (d (x0 + 1 + 49 + 2) x1) x1 d = (-1)) → ((200 : Int) < v_43 (x0 + 1 + 2) (d (x0 + 1 + 49 + 2) x1) (v_39 (x0 + 1 + 2) (d (x0 + 1 + 49 + 2) x1) x1 d) (d (x0 + 1) 2) d) → K (.inr 3) d) (h3 : (0 ≤ x1) → (x1 < d (x0 + 1 + 49) 0) → (¬ d (x0 + 1 + 49 + 5) x1 = 1) → (v_39 (x0 + 1 + 2) (d (x0 + 1 + 49 + 2) x1) x1 d = (-1)) → K (.inr 3) d) (h4 : (0 ≤ x1) → (x1 < d (x0 + 1 + 49) 0) → (d (x0 + 1 + 49 + 5) x1 = 1) → (0 ≤ 0 ∧ 0 ≤ 200) → K (.inl (some (0, 0))) d) (h5 : (0 ≤ x1) → (d (x0 + 1 + 49) 0 ≤ x1) → K (.inr 1) d) : tCall E 142 [.inr (10, x0), .inl (0, x1)] d K := by
  refine t_142_0 ?_
  have w0 : x0 = 0 := hx0
  have w2 := r_6_f2 hS (wbB.nw hx0)
  have w3 := r_3_f0 hS (stB.of (wbB.nw hx0))
  have w4 := r_4_f0 hS (stB.pe (wbB.nw hx0))
  have w5 := r_8_f0 hS (stB.ti (wbB.nw hx0))
  have w6 := r_9_f0 hS (stB.to (wbB.nw hx0))
  have w7 := r_7_f1 hS (wbB.tx hx0)
  refine k_167 hS hx0 (m_inR (by omega) (by omega)) (fun z0 => ?_) (fun z0 z1 => ?_) (fun z0 z1 => ?_)
  · exact h0 z0
  · refine t_142_5 ?_
    have q1 := r_8_5 hS (stB.ti (wbB.nw hx0)) x1
    refine ⟨by omega, ⟨m_inR (by omega) (by omega), m_inR (by omega) (by omega)⟩, fun c2 => ?_, fun c2 => ?_⟩
    · refine ⟨by omega, ?_⟩
      have q2 := r_8_2 hS (stB.ti (wbB.nw hx0)) x1
      refine k_39 hS (stB.of (wbB.nw hx0)) (by omega) (m_inR (by omega) (by omega)) (fun e1 => ?_)
      refine t_142_48 ?_
      refine ⟨⟨m_inR (by omega) (by omega), m_inR (by omega) (by omega)⟩, fun c3 => ?_, fun c3 => ?_⟩
      · have q3 := r_6_f2 hS (wbB.nw hx0)
        refine k_43 hS (stB.of (wbB.nw hx0)) (by omega) (by omega) (by omega) (fun e2 => ?_)
        refine t_142_84 ?_
        refine ⟨⟨m_inR (by omega) (by omega), m_inR (by omega) (by omega)⟩, fun c4 => ?_, fun c4 => ?_⟩
        · exact h1 z0 z1 c2 c3 c4 (by omega)
        · exact h2 z0 z1 c2 c3 c4
      · exact h3 z0 z1 c2 c3
    · exact h4 z0 z1 c2 (by omega)
  · exact h5 z0 z1
theorem k_143 {E : mO × tW} {K : tK} {d : mD} {x0 x1 x2 : Int} (hS : Safe d) (hx0 : wbB x0) (p1 : -2147483648 ≤ x1 ∧ x1 ≤ 2147483647) (p2 : -2147483648 ≤ x2 ∧ x2 ≤ 2147483647) (h0 : (x1 < 0) → K (.inr 1) d) (h1 : (0 ≤ x1) → (x1 < d (x0 + 1 + 2) 0) → (x2 < 0) → K (.inr 2) d) (h2 : (0 ≤ x1) → (x1 < d (x0 + 1 + 2) 0) → (0 ≤ x2) → (x2 ≤ (200 : Int)) → (0 ≤ (v_44 (x0 + 1 + 2) x1 x2 (d (x0 + 1) 2) d) ∧ (v_44 (x0 + 1 + 2) x1 x2 (d (x0 + 1) 2) d) ≤ 16) → K (.inl (some (0, v_44 (x0 + 1 + 2) x1 x2 (d (x0 + 1) 2) d))) d) (h3 : (0 ≤ x1) → (x1 < d (x0 + 1 + 2) 0) → (0 ≤ x2) → ((200 : Int) < x2) → K (.inr 2) d) (h4 : (0 ≤ x1) → (d (x0 + 1 + 2) 0 ≤ x1) → K (.inr 1) d) : tCall E 143 [.inr (10, x0), .inl (0, x1), .inl (0, x2)] d K := by
  refine t_143_0 ?_
  have w0 : x0 = 0 := hx0
  have w2 := r_6_f2 hS (wbB.nw hx0)
  have w3 := r_3_f0 hS (stB.of (wbB.nw hx0))
  have w4 := r_4_f0 hS (stB.pe (wbB.nw hx0))
  have w5 := r_8_f0 hS (stB.ti (wbB.nw hx0))
  have w6 := r_9_f0 hS (stB.to (wbB.nw hx0))
  have w7 := r_7_f1 hS (wbB.tx hx0)
  refine k_165 hS hx0 (m_inR (by omega) (by omega)) (fun z0 => ?_) (fun z0 z1 => ?_) (fun z0 z1 => ?_)
  · exact h0 z0
  · refine t_143_5 ?_
    refine k_170 hS hx0 (m_inR (by omega) (by omega)) (fun z2 => ?_) (fun z2 z3 => ?_) (fun z2 z3 => ?_)
    · exact h1 z0 z1 z2
    · refine t_143_10 ?_
      have q1 := r_6_f2 hS (wbB.nw hx0)
      refine k_44 hS (stB.of (wbB.nw hx0)) (by omega) (by omega) (by omega) (fun e1 => ?_)
      refine t_143_29 ?_
      exact h2 z0 z1 z2 z3 (by omega)
    · exact h3 z0 z1 z2 z3
  · exact h4 z0 z1
theorem k_144 {E : mO × tW} {K : tK} {d : mD} {x0 x1 : Int} (hS : Safe d) (hx0 : wbB x0) (p1 : -2147483648 ≤ x1 ∧ x1 ≤ 2147483647) (h0 : (x1 < 0) → K (.inr 2) d) (h1 : (0 ≤ x1) → (x1 ≤ (200 : Int)) → (0 ≤ ((g_68 (x0 + 580) x1 (g_59 (x0 + 580) (x0 + 1) d)) (x0 + 580 + 57) 0) ∧ ((g_68 (x0 + 580) x1 (g_59 (x0 + 580) (x0 + 1) d)) (x0 + 580 + 57) 0) ≤ 200) → (∀ b : Int, (b < x0 + 580 ∨ x0 + 595 < b) ∧ (b < x0 + 598 ∨ x0 + 642 < b) → (g_68 (x0 + 580) x1 (g_59 (x0 + 580) (x0 + 1) d)) b = d b) → Safe (g_68 (x0 + 580) x1 (g_59 (x0 + 580) (x0 + 1) d)) → K (.inl (some (0, (g_68 (x0 + 580) x1 (g_59 (x0 + 580) (x0 + 1) d)) (x0 + 580 + 57) 0))) (g_68 (x0 + 580) x1 (g_59 (x0 + 580) (x0 + 1) d))) (h2 : (0 ≤ x1) → ((200 : Int) < x1) → K (.inr 2) d) : tCall E 144 [.inr (10, x0), .inl (0, x1)] d K := by
  refine t_144_0 ?_
  have w0 : x0 = 0 := hx0
  have w2 := r_6_f2 hS (wbB.nw hx0)
  have w3 := r_3_f0 hS (stB.of (wbB.nw hx0))
  have w4 := r_4_f0 hS (stB.pe (wbB.nw hx0))
  have w5 := r_8_f0 hS (stB.ti (wbB.nw hx0))
  have w6 := r_9_f0 hS (stB.to (wbB.nw hx0))
  have w7 := r_7_f1 hS (wbB.tx hx0)
  refine k_170 hS hx0 (m_inR (by omega) (by omega)) (fun z0 => ?_) (fun z0 z1 => ?_) (fun z0 z1 => ?_)
  · exact h0 z0
  · refine t_144_5 ?_
    refine k_59 hS (wbB.sp hx0) (wbB.nw hx0) (by omega) (fun F1 k1_0 hS1 => ?_)
    refine t_144_16 ?_
    have q1 : (g_59 (x0 + 580) (x0 + 1) d) (x0 + 580) 2 = d (x0 + 1) 2 := k1_0
    refine k_68 hS1 (wbB.sp hx0) (by omega) (by omega) (by omega) (fun e1 F2 n2_0 hS2 => ?_)
    refine t_144_24 ?_
    have q2 := r_9_f0 hS2 (stB.to (wbB.sp hx0))
    exact h1 z0 z1 (by omega) (fun b hb => (F2 b (by omega)).trans (F1 b (by omega))) hS2
  · exact h2 z0 z1
theorem k_145 {E : mO × tW} {K : tK} {d : mD} {x0 x1 : Int} (hS : Safe d) (hx0 : wbB x0) (p1 : -2147483648 ≤ x1 ∧ x1 ≤ 2147483647) (h0 : (x1 < 0) → K (.inr 1) d) (h1 : (0 ≤ x1) → (x1 < d (x0 + 1 + 2) 0) → (¬ v_173 x0 x1 d = (-1)) → (0 ≤ (v_173 x0 x1 d) ∧ (v_173 x0 x1 d) ≤ 200) → K (.inl (some (0, v_173 x0 x1 d))) d) (h2 : (0 ≤ x1) → (x1 < d (x0 + 1 + 2) 0) → (v_173 x0 x1 d = (-1)) → K (.inr 3) d) (h3 : (0 ≤ x1) → (d (x0 + 1 + 2) 0 ≤ x1) → K (.inr 1) d) : tCall E 145 [.inr (10, x0), .inl (0, x1)] d K := by
  refine t_145_0 ?_
  have w0 : x0 = 0 := hx0
  have w2 := r_6_f2 hS (wbB.nw hx0)
  have w3 := r_3_f0 hS (stB.of (wbB.nw hx0))
  have w4 := r_4_f0 hS (stB.pe (wbB.nw hx0))
  have w5 := r_8_f0 hS (stB.ti (wbB.nw hx0))
  have w6 := r_9_f0 hS (stB.to (wbB.nw hx0))
  have w7 := r_7_f1 hS (wbB.tx hx0)
  refine k_165 hS hx0 (m_inR (by omega) (by omega)) (fun z0 => ?_) (fun z0 z1 => ?_) (fun z0 z1 => ?_)
  · exact h0 z0
  · refine t_145_5 ?_
    refine k_173 hS hx0 (by omega) (fun e1 => ?_)
    refine t_145_10 ?_
    refine ⟨⟨m_inR (by omega) (by omega), m_inR (by omega) (by omega)⟩, fun c2 => ?_, fun c2 => ?_⟩
    · exact h1 z0 z1 c2 (by omega)
    · exact h2 z0 z1 c2
  · exact h3 z0 z1
theorem k_147 {E : mO × tW} {K : tK} {d : mD} {x0 x1 x2 : Int} (hS : Safe d) (hx0 : wbB x0) (p1 : -2147483648 ≤ x1 ∧ x1 ≤ 2147483647) (p2 : -2147483648 ≤ x2 ∧ x2 ≤ 2147483647) (h0 : (x1 < 0) → K (.inr 1) d) (h1 : (0 ≤ x1) → (x1 < d (x0 + 1 + 2) 0) → (x2 < 0) → K (.inr 1) d) (h2 : (0 ≤ x1) → (x1 < d (x0 + 1 + 2) 0) → (0 ≤ x2) → (x2 < d (x0 + 1 + 2) 0) → (x1 = x2) → K (.inr 0) d) (h3 : (0 ≤ x1) → (x1 < d (x0 + 1 + 2) 0) → (0 ≤ x2) → (x2 < d (x0 + 1 + 2) 0) → (¬ x1 = x2) → (d (x0 + 1 + 2 + 5) x1 = 0) → K (.inr 0) d) (h4 : (0 ≤ x1) → (x1 < d (x0 + 1 + 2) 0) → (0 ≤ x2) → (x2 < d (x0 + 1 + 2) 0) → (¬ x1 = x2) → (¬ d (x0 + 1 + 2 + 5) x1 = 0) → (¬ d (x0 + 1 + 2 + 5) x2 = 0) → (¬ v_66 (x0 + 580) (g_63 (x0 + 580) x1 x2 (g_59 (x0 + 580) (x0 + 1) d)) = (-1)) → (0 ≤ (v_66 (x0 + 580) (g_63 (x0 + 580) x1 x2 (g_59 (x0 + 580) (x0 + 1) d))) ∧ (v_66 (x0 + 580) (g_63 (x0 + 580) x1 x2 (g_59 (x0 + 580) (x0 + 1) d))) ≤ 2000) → (∀ b : Int, (b < x0 + 580 ∨ x0 + 595 < b) ∧ (b < x0 + 598 ∨ x0 + 642 < b) → (g_63 (x0 + 580) x1 x2 (g_59 (x0 + 580) (x0 + 1) d)) b = d b) → Safe (g_63 (x0 + 580) x1 x2 (g_59 (x0 + 580) (x0 + 1) d)) → K (.inl (some (0, v_66 (x0 + 580) (g_63 (x0 + 580) x1 x2 (g_59 (x0 + 580) (x0 + 1) d))))) (g_63 (x0 + 580) x1 x2 (g_59 (x0 + 580) (x0 + 1) d))) (h5 : (0 ≤ x1) → (x1 < d (x0 + 1 + 2) 0) → (0 ≤ x2) → (x2 < d (x0 + 1 + 2) 0) → (¬ x1 = x2) → (¬ d (x0 + 1 + 2 + 5) x1 = 0) → (¬ d (x0 + 1 + 2 + 5) x2 = 0) → (v_66 (x0 + 580) (g_63 (x0 + 580) x1 x2 (g_59 (x0 + 580) (x0 + 1) d)) = (-1)) → (∀ b : Int, (b < x0 + 580 ∨ x0 + 595 < b) ∧ (b < x0 + 598 ∨ x0 + 642 < b) → (g_63 (x0 + 580) x1 x2 (g_59 (x0 + 580) (x0 + 1) d)) b = d b) → Safe (g_63 (x0 + 580) x1 x2 (g_59 (x0 + 580) (x0 + 1) d)) → K (.inr 3) (g_63 (x0 + 580) x1 x2 (g_59 (x0 + 580) (x0 + 1) d))) (h6 : (0 ≤ x1) → (x1 < d (x0 + 1 + 2) 0) → (0 ≤ x2) → (x2 < d (x0 + 1 + 2) 0) → (¬ x1 = x2) → (¬ d (x0 + 1 + 2 + 5) x1 = 0) → (d (x0 + 1 + 2 + 5) x2 = 0) → K (.inr 0) d) (h7 : (0 ≤ x1) → (x1 < d (x0 + 1 + 2) 0) → (0 ≤ x2) → (d (x0 + 1 + 2) 0 ≤ x2) → K (.inr 1) d) (h8 : (0 ≤ x1) → (d (x0 + 1 + 2) 0 ≤ x1) → K (.inr 1) d) : tCall E 147 [.inr (10, x0), .inl (0, x1), .inl (0, x2)] d K := by
  refine t_147_0 ?_
  have w0 : x0 = 0 := hx0
  have w2 := r_6_f2 hS (wbB.nw hx0)
  have w3 := r_3_f0 hS (stB.of (wbB.nw hx0))
  have w4 := r_4_f0 hS (stB.pe (wbB.nw hx0))
  have w5 := r_8_f0 hS (stB.ti (wbB.nw hx0))
  have w6 := r_9_f0 hS (stB.to (wbB.nw hx0))
  have w7 := r_7_f1 hS (wbB.tx hx0)
  refine k_172 hS hx0 (m_inR (by omega) (by omega)) (m_inR (by omega) (by omega)) (fun z0 => ?_) (fun z0 z1 z2 => ?_) (fun z0 z1 z2 z3 z4 => ?_) (fun z0 z1 z2 z3 z4 z5 => ?_) (fun z0 z1 z2 z3 z4 z5 z6 => ?_) (fun z0 z1 z2 z3 z4 z5 z6 => ?_) (fun z0 z1 z2 z3 => ?_) (fun z0 z1 => ?_)
  · exact h0 z0
  · exact h1 z0 z1 z2
  · exact h2 z0 z1 z2 z3 z4
  · exact h3 z0 z1 z2 z3 z4 z5
  · refine t_147_6 ?_
    refine k_59 hS (wbB.sp hx0) (wbB.nw hx0) (by omega) (fun F1 k1_0 hS1 => ?_)
    refine t_147_17 ?_
    refine k_63 hS1 (wbB.sp hx0) (by omega) (by omega) (fun F2 hS2 => ?_)
    refine t_147_26 ?_
    refine k_66 hS2 (wbB.sp hx0) (fun e1 => ?_)
    refine t_147_33 ?_
    refine ⟨⟨m_inR (by omega) (by omega), m_inR (by omega) (by omega)⟩, fun c7 => ?_, fun c7 => ?_⟩
    · exact h4 z0 z1 z2 z3 z4 z5 z6 c7 (by omega) (fun b hb => (F2 b (by omega)).trans (F1 b (by omega))) hS2
    · exact h5 z0 z1 z2 z3 z4 z5 z6 c7 (fun b hb => (F2 b (by omega)).trans (F1 b (by omega))) hS2
  · exact h6 z0 z1 z2 z3 z4 z5 z6
  · exact h7 z0 z1 z2 z3
  · exact h8 z0 z1
theorem k_149 {E : mO × tW} {K : tK} {d : mD} {x0 x1 : Int} (hS : Safe d) (hx0 : wbB x0) (p1 : -2147483648 ≤ x1 ∧ x1 ≤ 2147483647) (h0 : (x1 < 0) → K (.inr 1) d) (h1 : (0 ≤ x1) → (x1 < d (x0 + 572) 1) → (-128 ≤ (d (x0 + 572 + 1) x1) ∧ (d (x0 + 572 + 1) x1) ≤ 127) → K (.inl (some (0, d (x0 + 572 + 1) x1))) d) (h2 : (0 ≤ x1) → (d (x0 + 572) 1 ≤ x1) → K (.inr 1) d) : tCall E 149 [.inr (10, x0), .inl (0, x1)] d K := by
  refine t_149_0 ?_
  have w0 : x0 = 0 := hx0
  have w2 := r_6_f2 hS (wbB.nw hx0)
  have w3 := r_3_f0 hS (stB.of (wbB.nw hx0))
  have w4 := r_4_f0 hS (stB.pe (wbB.nw hx0))
  have w5 := r_8_f0 hS (stB.ti (wbB.nw hx0))
  have w6 := r_9_f0 hS (stB.to (wbB.nw hx0))
  have w7 := r_7_f1 hS (wbB.tx hx0)
  refine ⟨m_inR (by omega) (by omega), fun c0 => ?_, fun c0 => ?_⟩
  · exact h0 c0
  · have q1 := r_7_f1 hS (wbB.ou hx0)
    refine ⟨⟨m_inR (by omega) (by omega), m_inR (by omega) (by omega)⟩, fun c1 => ?_, fun c1 => ?_⟩
    · have q2 := r_7_1 hS (wbB.ou hx0) x1
      refine ⟨by omega, ?_⟩
      exact h1 c0 c1 (by omega)
    · exact h2 c0 c1
theorem k_150 {E : mO × tW} {K : tK} {d : mD} {x0 x1 x2 : Int} (hS : Safe d) (hx0 : wbB x0) (p1 : -2147483648 ≤ x1 ∧ x1 ≤ 2147483647) (p2 : -2147483648 ≤ x2 ∧ x2 ≤ 2147483647) (h0 : (x1 < 0) → K (.inr 1) d) (h1 : (0 ≤ x1) → (x1 < d (x0 + 1 + 10) 0) → (x2 < 0) → K (.inr 1) d) (h2 : (0 ≤ x1) → (x1 < d (x0 + 1 + 10) 0) → (0 ≤ x2) → (x2 < d (x0 + 1 + 2) 0) → (¬ v_60 (x0 + 1) x1 x2 d = 0) → (0 ≤ (v_61 (x0 + 1) x1 x2 (g_2 (x0 + 64) (x0 + 1) d)) ∧ (v_61 (x0 + 1) x1 x2 (g_2 (x0 + 64) (x0 + 1) d)) ≤ 59) → (∀ b : Int, (b < x0 + 9 ∨ x0 + 10 < b) ∧ (b < x0 + 50 ∨ x0 + 57 < b) ∧ (b < x0 + 64 ∨ x0 + 64 < b) ∧ (b < x0 + 66 ∨ x0 + 569 < b) → (g_61 (x0 + 1) x1 x2 (g_2 (x0 + 64) (x0 + 1) d)) b = d b) → Safe (g_61 (x0 + 1) x1 x2 (g_2 (x0 + 64) (x0 + 1) d)) → K (.inl (some (0, v_61 (x0 + 1) x1 x2 (g_2 (x0 + 64) (x0 + 1) d)))) (g_61 (x0 + 1) x1 x2 (g_2 (x0 + 64) (x0 + 1) d))) (h3 : (0 ≤ x1) → (x1 < d (x0 + 1 + 10) 0) → (0 ≤ x2) → (x2 < d (x0 + 1 + 2) 0) → (v_60 (x0 + 1) x1 x2 d = 0) → K (.inr 0) d) (h4 : (0 ≤ x1) → (x1 < d (x0 + 1 + 10) 0) → (0 ≤ x2) → (d (x0 + 1 + 2) 0 ≤ x2) → K (.inr 1) d) (h5 : (0 ≤ x1) → (d (x0 + 1 + 10) 0 ≤ x1) → K (.inr 1) d) : tCall E 150 [.inr (10, x0), .inl (0, x1), .inl (0, x2)] d K := by
  refine t_150_0 ?_
  have w0 : x0 = 0 := hx0
  have w2 := r_6_f2 hS (wbB.nw hx0)
  have w3 := r_3_f0 hS (stB.of (wbB.nw hx0))
  have w4 := r_4_f0 hS (stB.pe (wbB.nw hx0))
  have w5 := r_8_f0 hS (stB.ti (wbB.nw hx0))
  have w6 := r_9_f0 hS (stB.to (wbB.nw hx0))
  have w7 := r_7_f1 hS (wbB.tx hx0)
  refine k_166 hS hx0 (m_inR (by omega) (by omega)) (fun z0 => ?_) (fun z0 z1 => ?_) (fun z0 z1 => ?_)
  · exact h0 z0
  · refine t_150_5 ?_
    refine k_165 hS hx0 (m_inR (by omega) (by omega)) (fun z2 => ?_) (fun z2 z3 => ?_) (fun z2 z3 => ?_)
    · exact h1 z0 z1 z2
    · refine t_150_10 ?_
      refine k_60 hS (wbB.nw hx0) (m_inR (by omega) (by omega)) (by omega) (fun e1 => ?_)
      refine t_150_19 ?_
      refine ⟨m_inR (by omega) (by omega), fun c4 => ?_, fun c4 => ?_⟩
      · refine k_2 hS (wbB.hi hx0) (wbB.nw hx0) (by omega) (fun F1 hS1 => ?_)
        refine t_150_44 ?_
        have q1 : (g_2 (x0 + 64) (x0 + 1) d) (x0 + 1 + 49) 0 = d (x0 + 1 + 49) 0 := congrFun (F1 (x0 + 1 + 49) (by omega)) 0
        have q2 : (g_2 (x0 + 64) (x0 + 1) d) (x0 + 1) 2 = d (x0 + 1) 2 := congrFun (F1 (x0 + 1) (by omega)) 2
        refine k_61 hS1 (wbB.nw hx0) (by omega) (by omega) (by omega) (by omega) (fun e2 F2 hS2 => ?_)
        refine t_150_53 ?_
        exact h2 z0 z1 z2 z3 c4 (by omega) (fun b hb => (F2 b (by omega)).trans (F1 b (by omega))) hS2
      · exact h3 z0 z1 z2 z3 c4
    · exact h4 z0 z1 z2 z3
  · exact h5 z0 z1
theorem k_151 {E : mO × tW} {K : tK} {d : mD} {x0 x1 : Int} (hS : Safe d) (hx0 : wbB x0) (p1 : -2147483648 ≤ x1 ∧ x1 ≤ 2147483647) (h0 : (x1 < 0) → K (.inr 1) d) (h1 : (0 ≤ x1) → (x1 < d (x0 + 1 + 49) 0) → (d (x0 + 1 + 49 + 5) x1 = 0) → (-1000 ≤ ((d (x0 + 1) 2) - (d (x0 + 1 + 49 + 3) x1)) ∧ ((d (x0 + 1) 2) - (d (x0 + 1 + 49 + 3) x1)) ≤ 1199) → (∀ b : Int, (b < x0 + 9 ∨ x0 + 10 < b) ∧ (b < x0 + 54 ∨ x0 + 55 < b) ∧ (b < x0 + 64 ∨ x0 + 64 < b) ∧ (b < x0 + 66 ∨ x0 + 569 < b) → (g_97 (x0 + 1 + 49) x1 2 (d (x0 + 1) 2) (g_41 (x0 + 1 + 2) (d (x0 + 1 + 49 + 2) x1) (v_39 (x0 + 1 + 2) (d (x0 + 1 + 49 + 2) x1) x1 (g_2 (x0 + 64) (x0 + 1) d)) (g_2 (x0 + 64) (x0 + 1) d))) b = d b) → Safe (g_97 (x0 + 1 + 49) x1 2 (d (x0 + 1) 2) (g_41 (x0 + 1 + 2) (d (x0 + 1 + 49 + 2) x1) (v_39 (x0 + 1 + 2) (d (x0 + 1 + 49 + 2) x1) x1 (g_2 (x0 + 64) (x0 + 1) d)) (g_2 (x0 + 64) (x0 + 1) d))) → K (.inl (some (0, (d (x0 + 1) 2) - (d (x0 + 1 + 49 + 3) x1)))) (g_97 (x0 + 1 + 49) x1 2 (d (x0 + 1) 2) (g_41 (x0 + 1 + 2) (d (x0 + 1 + 49 + 2) x1) (v_39 (x0 + 1 + 2) (d (x0 + 1 + 49 + 2) x1) x1 (g_2 (x0 + 64) (x0 + 1) d)) (g_2 (x0 + 64) (x0 + 1) d)))) (h2 : (0 ≤ x1) → (x1 < d (x0 + 1 + 49) 0) → (¬ d (x0 + 1 + 49 + 5) x1 = 0) → K (.inr 0) d) (h3 : (0 ≤ x1) → (d (x0 + 1 + 49) 0 ≤ x1) → K (.inr 1) d) : tCall E 151 [.inr (10, x0), .inl (0, x1)] d K := by
  refine t_151_0 ?_
  have w0 : x0 = 0 := hx0
  have w2 := r_6_f2 hS (wbB.nw hx0)
  have w3 := r_3_f0 hS (stB.of (wbB.nw hx0))
  have w4 := r_4_f0 hS (stB.pe (wbB.nw hx0))
  have w5 := r_8_f0 hS (stB.ti (wbB.nw hx0))
  have w6 := r_9_f0 hS (stB.to (wbB.nw hx0))
  have w7 := r_7_f1 hS (wbB.tx hx0)
  refine k_167 hS hx0 (m_inR (by omega) (by omega)) (fun z0 => ?_) (fun z0 z1 => ?_) (fun z0 z1 => ?_)
  · exact h0 z0
  · refine t_151_5 ?_
    have q1 := r_8_5 hS (stB.ti (wbB.nw hx0)) x1
    refine ⟨by omega, m_inR (by omega) (by omega), fun c2 => ?_, fun c2 => ?_⟩
    · refine k_2 hS (wbB.hi hx0) (wbB.nw hx0) (by omega) (fun F1 hS1 => ?_)
      refine t_151_42 ?_
      rw [F1 (x0 + 1 + 49 + 2) (by omega)]
      refine ⟨by omega, ?_⟩
      have q2 := r_8_2 hS (stB.ti (wbB.nw hx0)) x1
      refine k_39 hS1 (stB.of (wbB.nw hx0)) (by omega) (m_inR (by omega) (by omega)) (fun e1 => ?_)
      refine t_151_75 ?_
      refine k_41 hS1 (stB.of (wbB.nw hx0)) (by omega) (m_inR (by omega) (by omega)) (fun F2 hS2 => ?_)
      refine t_151_78 ?_
      rw [F2 (x0 + 1) (by omega)]
      rw [F1 (x0 + 1) (by omega)]
      have q3 := r_6_f2 hS (wbB.nw hx0)
      refine k_97 hS2 (stB.ti (wbB.nw hx0)) (by omega) (by omega) (by omega) (fun F3 hS3 => ?_)
      refine t_151_97 ?_
      rw [F3 (x0 + 1) (by omega)]
      rw [F2 (x0 + 1) (by omega)]
      rw [F1 (x0 + 1) (by omega)]
      rw [F3 (x0 + 1 + 49 + 3) (by omega)]
      rw [F2 (x0 + 1 + 49 + 3) (by omega)]
      rw [F1 (x0 + 1 + 49 + 3) (by omega)]
      have q4 := r_8_3 hS (stB.ti (wbB.nw hx0)) x1
      refine ⟨by omega, ?_⟩
      exact h1 z0 z1 c2 (by omega) (fun b hb => (F3 b (by omega)).trans ((F2 b (by omega)).trans (F1 b (by omega)))) hS3
    · exact h2 z0 z1 c2
  · exact h3 z0 z1
theorem k_152 {E : mO × tW} {K : tK} {d : mD} {x0 x1 : Int} (hS : Safe d) (hx0 : wbB x0) (p1 : -2147483648 ≤ x1 ∧ x1 ≤ 2147483647) (h0 : (x1 < 1) → K (.inr 2) d) (h1 : (1 ≤ x1) → (x1 ≤ (99 : Int)) → (¬ v_67 (x0 + 1) x1 d = 0) → (0 ≤ (v_68 (x0 + 1) x1 (g_2 (x0 + 64) (x0 + 1) d)) ∧ (v_68 (x0 + 1) x1 (g_2 (x0 + 64) (x0 + 1) d)) ≤ 4800) → (∀ b : Int, (b < x0 + 1 ∨ x0 + 1 < b) ∧ (b < x0 + 9 ∨ x0 + 10 < b) ∧ (b < x0 + 13 ∨ x0 + 16 < b) ∧ (b < x0 + 19 ∨ x0 + 49 < b) ∧ (b < x0 + 54 ∨ x0 + 55 < b) ∧ (b < x0 + 58 ∨ x0 + 64 < b) ∧ (b < x0 + 66 ∨ x0 + 569 < b) → (g_68 (x0 + 1) x1 (g_2 (x0 + 64) (x0 + 1) d)) b = d b) → Safe (g_68 (x0 + 1) x1 (g_2 (x0 + 64) (x0 + 1) d)) → K (.inl (some (0, v_68 (x0 + 1) x1 (g_2 (x0 + 64) (x0 + 1) d)))) (g_68 (x0 + 1) x1 (g_2 (x0 + 64) (x0 + 1) d))) (h2 : (1 ≤ x1) → (x1 ≤ (99 : Int)) → (v_67 (x0 + 1) x1 d = 0) → K (.inr 0) d) (h3 : (1 ≤ x1) → ((99 : Int) < x1) → K (.inr 2) d) : tCall E 152 [.inr (10, x0), .inl (0, x1)] d K := by
  refine t_152_0 ?_
  have w0 : x0 = 0 := hx0
  have w2 := r_6_f2 hS (wbB.nw hx0)
  have w3 := r_3_f0 hS (stB.of (wbB.nw hx0))
  have w4 := r_4_f0 hS (stB.pe (wbB.nw hx0))
  have w5 := r_8_f0 hS (stB.ti (wbB.nw hx0))
  have w6 := r_9_f0 hS (stB.to (wbB.nw hx0))
  have w7 := r_7_f1 hS (wbB.tx hx0)
  refine ⟨⟨m_inR (by omega) (by omega), m_inR (by omega) (by omega)⟩, fun c0 => ?_, fun c0 => ?_⟩
  · exact h0 c0
  · refine ⟨⟨m_inR (by omega) (by omega), m_inR (by omega) (by omega)⟩, fun c1 => ?_, fun c1 => ?_⟩
    · refine k_67 hS (wbB.nw hx0) (by omega) (fun e1 => ?_)
      refine t_152_30 ?_
      refine ⟨m_inR (by omega) (by omega), fun c2 => ?_, fun c2 => ?_⟩
      · refine k_2 hS (wbB.hi hx0) (wbB.nw hx0) (by omega) (fun F1 hS1 => ?_)
        refine t_152_55 ?_
        have q1 : (g_2 (x0 + 64) (x0 + 1) d) (x0 + 1) 2 = d (x0 + 1) 2 := congrFun (F1 (x0 + 1) (by omega)) 2
        refine k_68 hS1 (wbB.nw hx0) (by omega) (by omega) (by omega) (fun e2 F2 n2_0 hS2 => ?_)
        refine t_152_63 ?_
        exact h1 c0 c1 c2 (by omega) (fun b hb => (F2 b (by omega)).trans (F1 b (by omega))) hS2
      · exact h2 c0 c1 c2
    · exact h3 c0 c1
theorem k_153 {E : mO × tW} {K : tK} {d : mD} {x0 x1 : Int} (hS : Safe d) (hx0 : wbB x0) (p1 : -2147483648 ≤ x1 ∧ x1 ≤ 2147483647) (h0 : (x1 < 0) → K (.inr 1) d) (h1 : (0 ≤ x1) → (x1 < d (x0 + 1 + 49) 0) → (¬ v_73 (x0 + 1) x1 d = 0) → (0 ≤ (v_74 (x0 + 1) x1 (g_2 (x0 + 64) (x0 + 1) d)) ∧ (v_74 (x0 + 1) x1 (g_2 (x0 + 64) (x0 + 1) d)) ≤ 200) → (∀ b : Int, (b < x0 + 14 ∨ x0 + 14 < b) ∧ (b < x0 + 19 ∨ x0 + 49 < b) ∧ (b < x0 + 56 ∨ x0 + 56 < b) ∧ (b < x0 + 58 ∨ x0 + 62 < b) ∧ (b < x0 + 64 ∨ x0 + 64 < b) ∧ (b < x0 + 66 ∨ x0 + 569 < b) → (g_74 (x0 + 1) x1 (g_2 (x0 + 64) (x0 + 1) d)) b = d b) → Safe (g_74 (x0 + 1) x1 (g_2 (x0 + 64) (x0 + 1) d)) → K (.inl (some (0, v_74 (x0 + 1) x1 (g_2 (x0 + 64) (x0 + 1) d)))) (g_74 (x0 + 1) x1 (g_2 (x0 + 64) (x0 + 1) d))) (h2 : (0 ≤ x1) → (x1 < d (x0 + 1 + 49) 0) → (v_73 (x0 + 1) x1 d = 0) → K (.inr 0) d) (h3 : (0 ≤ x1) → (d (x0 + 1 + 49) 0 ≤ x1) → K (.inr 1) d) : tCall E 153 [.inr (10, x0), .inl (0, x1)] d K := by
  refine t_153_0 ?_
  have w0 : x0 = 0 := hx0
  have w2 := r_6_f2 hS (wbB.nw hx0)
  have w3 := r_3_f0 hS (stB.of (wbB.nw hx0))
  have w4 := r_4_f0 hS (stB.pe (wbB.nw hx0))
  have w5 := r_8_f0 hS (stB.ti (wbB.nw hx0))
  have w6 := r_9_f0 hS (stB.to (wbB.nw hx0))
  have w7 := r_7_f1 hS (wbB.tx hx0)
  refine k_167 hS hx0 (m_inR (by omega) (by omega)) (fun z0 => ?_) (fun z0 z1 => ?_) (fun z0 z1 => ?_)
  · exact h0 z0
  · refine t_153_5 ?_
    refine k_73 hS (wbB.nw hx0) (by omega) (fun e1 => ?_)
    refine t_153_13 ?_
    refine ⟨m_inR (by omega) (by omega), fun c2 => ?_, fun c2 => ?_⟩
    · refine k_2 hS (wbB.hi hx0) (wbB.nw hx0) (by omega) (fun F1 hS1 => ?_)
      refine t_153_38 ?_
      refine k_74 hS1 (wbB.nw hx0) (by omega) (fun e2 F2 hS2 => ?_)
      refine t_153_46 ?_
      exact h1 z0 z1 c2 (by omega) (fun b hb => (F2 b (by omega)).trans (F1 b (by omega))) hS2
    · exact h2 z0 z1 c2
  · exact h3 z0 z1
theorem k_154 {E : mO × tW} {K : tK} {d : mD} {x0 x1 x2 : Int} (hS : Safe d) (hx0 : wbB x0) (p1 : -2147483648 ≤ x1 ∧ x1 ≤ 2147483647) (p2 : -2147483648 ≤ x2 ∧ x2 ≤ 2147483647) (h0 : (x1 < 0) → K (.inr 1) d) (h1 : (0 ≤ x1) → (x1 < d (x0 + 1 + 49) 0) → (x2 < 0) → K (.inr 1) d) (h2 : (0 ≤ x1) → (x1 < d (x0 + 1 + 49) 0) → (0 ≤ x2) → (x2 < d (x0 + 1 + 10) 0) → (v_77 (x0 + 1) x1 x2 d = 0) → (0 ≤ (v_75 (x0 + 1) x1 x2 (g_2 (x0 + 64) (x0 + 1) d)) ∧ (v_75 (x0 + 1) x1 x2 (g_2 (x0 + 64) (x0 + 1) d)) ≤ 200) → (∀ b : Int, (b < x0 + 14 ∨ x0 + 16 < b) ∧ (b < x0 + 19 ∨ x0 + 49 < b) ∧ (b < x0 + 56 ∨ x0 + 62 < b) ∧ (b < x0 + 64 ∨ x0 + 64 < b) ∧ (b < x0 + 66 ∨ x0 + 569 < b) → (g_75 (x0 + 1) x1 x2 (g_2 (x0 + 64) (x0 + 1) d)) b = d b) → Safe (g_75 (x0 + 1) x1 x2 (g_2 (x0 + 64) (x0 + 1) d)) → K (.inl (some (0, v_75 (x0 + 1) x1 x2 (g_2 (x0 + 64) (x0 + 1) d)))) (g_75 (x0 + 1) x1 x2 (g_2 (x0 + 64) (x0 + 1) d))) (h3 : (0 ≤ x1) → (x1 < d (x0 + 1 + 49) 0) → (0 ≤ x2) → (x2 < d (x0 + 1 + 10) 0) → (¬ v_77 (x0 + 1) x1 x2 d = 0) → K (.inr 0) d) (h4 : (0 ≤ x1) → (x1 < d (x0 + 1 + 49) 0) → (0 ≤ x2) → (d (x0 + 1 + 10) 0 ≤ x2) → K (.inr 1) d) (h5 : (0 ≤ x1) → (d (x0 + 1 + 49) 0 ≤ x1) → K (.inr 1) d) : tCall E 154 [.inr (10, x0), .inl (0, x1), .inl (0, x2)] d K := by
  refine t_154_0 ?_
  have w0 : x0 = 0 := hx0
  have w2 := r_6_f2 hS (wbB.nw hx0)
  have w3 := r_3_f0 hS (stB.of (wbB.nw hx0))
  have w4 := r_4_f0 hS (stB.pe (wbB.nw hx0))
  have w5 := r_8_f0 hS (stB.ti (wbB.nw hx0))
  have w6 := r_9_f0 hS (stB.to (wbB.nw hx0))
  have w7 := r_7_f1 hS (wbB.tx hx0)
  refine k_167 hS hx0 (m_inR (by omega) (by omega)) (fun z0 => ?_) (fun z0 z1 => ?_) (fun z0 z1 => ?_)
  · exact h0 z0
  · refine t_154_5 ?_
    refine k_166 hS hx0 (m_inR (by omega) (by omega)) (fun z2 => ?_) (fun z2 z3 => ?_) (fun z2 z3 => ?_)
    · exact h1 z0 z1 z2
    · refine t_154_10 ?_
      refine k_77 hS (wbB.nw hx0) (by omega) (by omega) (fun e1 => ?_)
      refine t_154_19 ?_
      refine ⟨m_inR (by omega) (by omega), fun c4 => ?_, fun c4 => ?_⟩
      · refine k_2 hS (wbB.hi hx0) (wbB.nw hx0) (by omega) (fun F1 hS1 => ?_)
        refine t_154_44 ?_
        have q1 : (g_2 (x0 + 64) (x0 + 1) d) (x0 + 1 + 10 + 4) x2 = d (x0 + 1 + 10 + 4) x2 := congrFun (F1 (x0 + 1 + 10 + 4) (by omega)) x2
        refine k_75 hS1 (wbB.nw hx0) (by omega) (by omega) (by omega) (fun e2 F2 hS2 => ?_)
        refine t_154_53 ?_
        exact h2 z0 z1 z2 z3 c4 (by omega) (fun b hb => (F2 b (by omega)).trans (F1 b (by omega))) hS2
      · exact h3 z0 z1 z2 z3 c4
    · exact h4 z0 z1 z2 z3
  · exact h5 z0 z1
theorem k_155 {E : mO × tW} {K : tK} {d : mD} {x0 x1 x2 x3 : Int} (hS : Safe d) (hx0 : wbB x0) (p1 : -2147483648 ≤ x1 ∧ x1 ≤ 2147483647) (p2 : -2147483648 ≤ x2 ∧ x2 ≤ 2147483647) (p3 : -2147483648 ≤ x3 ∧ x3 ≤ 2147483647) (h0 : (x1 < 0) → K (.inr 1) d) (h1 : (0 ≤ x1) → (x1 < d (x0 + 1 + 10) 0) → (x2 < 0) → K (.inr 1) d) (h2 : (0 ≤ x1) → (x1 < d (x0 + 1 + 10) 0) → (0 ≤ x2) → (x2 < d (x0 + 1 + 10) 0) → (x3 < 1) → K (.inr 2) d) (h3 : (0 ≤ x1) → (x1 < d (x0 + 1 + 10) 0) → (0 ≤ x2) → (x2 < d (x0 + 1 + 10) 0) → (1 ≤ x3) → (x3 ≤ (200 : Int)) → (x1 = x2) → K (.inr 0) d) (h4 : (0 ≤ x1) → (x1 < d (x0 + 1 + 10) 0) → (0 ≤ x2) → (x2 < d (x0 + 1 + 10) 0) → (1 ≤ x3) → (x3 ≤ (200 : Int)) → (¬ x1 = x2) → (x3 ≤ v_111 (x0 + 1 + 57) x1 0 d) → (0 ≤ (v_111 (x0 + 1 + 57) x2 0 (g_114 (x0 + 1 + 57) x1 x2 x3 (g_2 (x0 + 64) (x0 + 1) d))) ∧ (v_111 (x0 + 1 + 57) x2 0 (g_114 (x0 + 1 + 57) x1 x2 x3 (g_2 (x0 + 64) (x0 + 1) d))) ≤ 200) → (∀ b : Int, (b < x0 + 59 ∨ x0 + 59 < b) ∧ (b < x0 + 64 ∨ x0 + 64 < b) ∧ (b < x0 + 66 ∨ x0 + 569 < b) → (g_114 (x0 + 1 + 57) x1 x2 x3 (g_2 (x0 + 64) (x0 + 1) d)) b = d b) → Safe (g_114 (x0 + 1 + 57) x1 x2 x3 (g_2 (x0 + 64) (x0 + 1) d)) → K (.inl (some (0, v_111 (x0 + 1 + 57) x2 0 (g_114 (x0 + 1 + 57) x1 x2 x3 (g_2 (x0 + 64) (x0 + 1) d))))) (g_114 (x0 + 1 + 57) x1 x2 x3 (g_2 (x0 + 64) (x0 + 1) d))) (h5 : (0 ≤ x1) → (x1 < d (x0 + 1 + 10) 0) → (0 ≤ x2) → (x2 < d (x0 + 1 + 10) 0) → (1 ≤ x3) → (x3 ≤ (200 : Int)) → (¬ x1 = x2) → (v_111 (x0 + 1 + 57) x1 0 d < x3) → K (.inr 0) d) (h6 : (0 ≤ x1) → (x1 < d (x0 + 1 + 10) 0) → (0 ≤ x2) → (x2 < d (x0 + 1 + 10) 0) → (1 ≤ x3) → ((200 : Int) < x3) → K (.inr 2) d) (h7 : (0 ≤ x1) → (x1 < d (x0 + 1 + 10) 0) → (0 ≤ x2) → (d (x0 + 1 + 10) 0 ≤ x2) → K (.inr 1) d) (h8 : (0 ≤ x1) → (d (x0 + 1 + 10) 0 ≤ x1) → K (.inr 1) d) : tCall E 155 [.inr (10, x0), .inl (0, x1), .inl (0, x2), .inl (0, x3)] d K := by
  refine t_155_0 ?_
  have w0 : x0 = 0 := hx0
  have w2 := r_6_f2 hS (wbB.nw hx0)
  have w3 := r_3_f0 hS (stB.of (wbB.nw hx0))
  have w4 := r_4_f0 hS (stB.pe (wbB.nw hx0))
  have w5 := r_8_f0 hS (stB.ti (wbB.nw hx0))
  have w6 := r_9_f0 hS (stB.to (wbB.nw hx0))
  have w7 := r_7_f1 hS (wbB.tx hx0)
  refine k_166 hS hx0 (m_inR (by omega) (by omega)) (fun z0 => ?_) (fun z0 z1 => ?_) (fun z0 z1 => ?_)
  · exact h0 z0
  · refine t_155_5 ?_
    refine k_166 hS hx0 (m_inR (by omega) (by omega)) (fun z2 => ?_) (fun z2 z3 => ?_) (fun z2 z3 => ?_)
    · exact h1 z0 z1 z2
    · refine t_155_10 ?_
      refine k_171 hS hx0 (m_inR (by omega) (by omega)) (fun z4 => ?_) (fun z4 z5 => ?_) (fun z4 z5 => ?_)
      · exact h2 z0 z1 z2 z3 z4
      · refine t_155_15 ?_
        refine ⟨⟨m_inR (by omega) (by omega), m_inR (by omega) (by omega)⟩, fun c6 => ?_, fun c6 => ?_⟩
        · exact h3 z0 z1 z2 z3 z4 z5 c6
        · refine k_111 hS (stB.to (wbB.nw hx0)) (m_inR (by omega) (by omega)) (m_inR (by omega) (by omega)) (fun e1 => ?_)
          refine t_155_32 ?_
          refine ⟨⟨m_inR (by omega) (by omega), m_inR (by omega) (by omega)⟩, fun c7 => ?_, fun c7 => ?_⟩
          · refine k_2 hS (wbB.hi hx0) (wbB.nw hx0) (by omega) (fun F1 hS1 => ?_)
            refine t_155_58 ?_
            refine k_114 hS1 (stB.to (wbB.nw hx0)) (by omega) (by omega) (by omega) (fun F2 hS2 => ?_)
            refine t_155_71 ?_
            refine k_111 hS2 (stB.to (wbB.nw hx0)) (m_inR (by omega) (by omega)) (m_inR (by omega) (by omega)) (fun e2 => ?_)
            refine t_155_83 ?_
            exact h4 z0 z1 z2 z3 z4 z5 c6 c7 (by omega) (fun b hb => (F2 b (by omega)).trans (F1 b (by omega))) hS2
          · exact h5 z0 z1 z2 z3 z4 z5 c6 c7
      · exact h6 z0 z1 z2 z3 z4 z5
    · exact h7 z0 z1 z2 z3
  · exact h8 z0 z1
theorem k_156 {E : mO × tW} {K : tK} {d : mD} {x0 x1 x2 : Int} (hS : Safe d) (hx0 : wbB x0) (p1 : -2147483648 ≤ x1 ∧ x1 ≤ 2147483647) (p2 : -2147483648 ≤ x2 ∧ x2 ≤ 2147483647) (h0 : (x1 < 0) → K (.inr 1) d) (h1 : (0 ≤ x1) → (x1 < d (x0 + 1 + 10) 0) → (x2 < 1) → K (.inr 2) d) (h2 : (0 ≤ x1) → (x1 < d (x0 + 1 + 10) 0) → (1 ≤ x2) → (x2 ≤ (200 : Int)) → (x2 ≤ v_111 (x0 + 1 + 57) x1 0 d) → (0 ≤ (v_82 (x0 + 1) (g_115 (x0 + 1 + 57) x1 x2 (g_2 (x0 + 64) (x0 + 1) d))) ∧ (v_82 (x0 + 1) (g_115 (x0 + 1 + 57) x1 x2 (g_2 (x0 + 64) (x0 + 1) d))) ≤ 200) → (∀ b : Int, (b < x0 + 1 ∨ x0 + 1 < b) ∧ (b < x0 + 13 ∨ x0 + 13 < b) ∧ (b < x0 + 58 ∨ x0 + 58 < b) ∧ (b < x0 + 62 ∨ x0 + 64 < b) ∧ (b < x0 + 66 ∨ x0 + 569 < b) → (g_82 (x0 + 1) (g_115 (x0 + 1 + 57) x1 x2 (g_2 (x0 + 64) (x0 + 1) d))) b = d b) → Safe (g_82 (x0 + 1) (g_115 (x0 + 1 + 57) x1 x2 (g_2 (x0 + 64) (x0 + 1) d))) → K (.inl (some (0, v_82 (x0 + 1) (g_115 (x0 + 1 + 57) x1 x2 (g_2 (x0 + 64) (x0 + 1) d))))) (g_82 (x0 + 1) (g_115 (x0 + 1 + 57) x1 x2 (g_2 (x0 + 64) (x0 + 1) d)))) (h3 : (0 ≤ x1) → (x1 < d (x0 + 1 + 10) 0) → (1 ≤ x2) → (x2 ≤ (200 : Int)) → (v_111 (x0 + 1 + 57) x1 0 d < x2) → K (.inr 0) d) (h4 : (0 ≤ x1) → (x1 < d (x0 + 1 + 10) 0) → (1 ≤ x2) → ((200 : Int) < x2) → K (.inr 2) d) (h5 : (0 ≤ x1) → (d (x0 + 1 + 10) 0 ≤ x1) → K (.inr 1) d) : tCall E 156 [.inr (10, x0), .inl (0, x1), .inl (0, x2)] d K := by
  refine t_156_0 ?_
  have w0 : x0 = 0 := hx0
  have w2 := r_6_f2 hS (wbB.nw hx0)
  have w3 := r_3_f0 hS (stB.of (wbB.nw hx0))
  have w4 := r_4_f0 hS (stB.pe (wbB.nw hx0))
  have w5 := r_8_f0 hS (stB.ti (wbB.nw hx0))
  have w6 := r_9_f0 hS (stB.to (wbB.nw hx0))
  have w7 := r_7_f1 hS (wbB.tx hx0)
  refine k_166 hS hx0 (m_inR (by omega) (by omega)) (fun z0 => ?_) (fun z0 z1 => ?_) (fun z0 z1 => ?_)
  · exact h0 z0
  · refine t_156_5 ?_
    refine k_171 hS hx0 (m_inR (by omega) (by omega)) (fun z2 => ?_) (fun z2 z3 => ?_) (fun z2 z3 => ?_)
    · exact h1 z0 z1 z2
    · refine t_156_10 ?_
      refine k_111 hS (stB.to (wbB.nw hx0)) (m_inR (by omega) (by omega)) (m_inR (by omega) (by omega)) (fun e1 => ?_)
      refine t_156_22 ?_
      refine ⟨⟨m_inR (by omega) (by omega), m_inR (by omega) (by omega)⟩, fun c4 => ?_, fun c4 => ?_⟩
      · refine k_2 hS (wbB.hi hx0) (wbB.nw hx0) (by omega) (fun F1 hS1 => ?_)
        refine t_156_48 ?_
        refine k_115 hS1 (stB.to (wbB.nw hx0)) (by omega) (by omega) (fun F2 hS2 => ?_)
        refine t_156_60 ?_
        refine k_82 hS2 (wbB.nw hx0) (fun e2 F3 k3_0 hS3 => ?_)
        refine t_156_67 ?_
        exact h2 z0 z1 z2 z3 c4 (by omega) (fun b hb => (F3 b (by omega)).trans ((F2 b (by omega)).trans (F1 b (by omega)))) hS3
      · exact h3 z0 z1 z2 z3 c4
    · exact h4 z0 z1 z2 z3
  · exact h5 z0 z1
theorem k_157 {E : mO × tW} {K : tK} {d : mD} {x0 x1 : Int} (hS : Safe d) (hx0 : wbB x0) (p1 : -2147483648 ≤ x1 ∧ x1 ≤ 2147483647) (h0 : (x1 < 1) → K (.inr 2) d) (h1 : (1 ≤ x1) → (x1 ≤ (9999 : Int)) → ((d (x0 + 1) 1) + x1 ≤ (99999 : Int)) → (0 ≤ ((g_82 (x0 + 1) (mset (g_2 (x0 + 64) (x0 + 1) d) (x0 + 1) 1 ((d (x0 + 1) 1) + x1))) (x0 + 1) 1) ∧ ((g_82 (x0 + 1) (mset (g_2 (x0 + 64) (x0 + 1) d) (x0 + 1) 1 ((d (x0 + 1) 1) + x1))) (x0 + 1) 1) ≤ 99999) → (∀ b : Int, (b < x0 + 1 ∨ x0 + 1 < b) ∧ (b < x0 + 13 ∨ x0 + 13 < b) ∧ (b < x0 + 58 ∨ x0 + 58 < b) ∧ (b < x0 + 62 ∨ x0 + 64 < b) ∧ (b < x0 + 66 ∨ x0 + 569 < b) → (g_82 (x0 + 1) (mset (g_2 (x0 + 64) (x0 + 1) d) (x0 + 1) 1 ((d (x0 + 1) 1) + x1))) b = d b) → Safe (g_82 (x0 + 1) (mset (g_2 (x0 + 64) (x0 + 1) d) (x0 + 1) 1 ((d (x0 + 1) 1) + x1))) → K (.inl (some (0, (g_82 (x0 + 1) (mset (g_2 (x0 + 64) (x0 + 1) d) (x0 + 1) 1 ((d (x0 + 1) 1) + x1))) (x0 + 1) 1))) (g_82 (x0 + 1) (mset (g_2 (x0 + 64) (x0 + 1) d) (x0 + 1) 1 ((d (x0 + 1) 1) + x1)))) (h2 : (1 ≤ x1) → (x1 ≤ (9999 : Int)) → ((99999 : Int) < (d (x0 + 1) 1) + x1) → K (.inr 0) d) (h3 : (1 ≤ x1) → ((9999 : Int) < x1) → K (.inr 2) d) : tCall E 157 [.inr (10, x0), .inl (0, x1)] d K := by
  refine t_157_0 ?_
  have w0 : x0 = 0 := hx0
  have w2 := r_6_f2 hS (wbB.nw hx0)
  have w3 := r_3_f0 hS (stB.of (wbB.nw hx0))
  have w4 := r_4_f0 hS (stB.pe (wbB.nw hx0))
  have w5 := r_8_f0 hS (stB.ti (wbB.nw hx0))
  have w6 := r_9_f0 hS (stB.to (wbB.nw hx0))
  have w7 := r_7_f1 hS (wbB.tx hx0)
  refine ⟨⟨m_inR (by omega) (by omega), m_inR (by omega) (by omega)⟩, fun c0 => ?_, fun c0 => ?_⟩
  · exact h0 c0
  · refine ⟨⟨m_inR (by omega) (by omega), m_inR (by omega) (by omega)⟩, fun c1 => ?_, fun c1 => ?_⟩
    · have q1 := r_6_f1 hS (wbB.nw hx0)
      refine ⟨⟨m_inR (by omega) (by omega), m_inR (by omega) (by omega)⟩, fun c2 => ?_, fun c2 => ?_⟩
      · refine k_2 hS (wbB.hi hx0) (wbB.nw hx0) (by omega) (fun F1 hS1 => ?_)
        refine t_157_60 ?_
        rw [F1 (x0 + 1) (by omega)]
        have hS2 : Safe (mset (g_2 (x0 + 64) (x0 + 1) d) (x0 + 1) 1 ((d (x0 + 1) 1) + x1)) := s_6_f1 hS1 (wbB.nw hx0) (by omega)
        refine k_82 hS2 (wbB.nw hx0) (fun e1 F2 k2_0 hS3 => ?_)
        refine t_157_80 ?_
        have q2 := r_6_f1 hS3 (wbB.nw hx0)
        exact h1 c0 c1 c2 (by omega) (fun b hb => (F2 b (by omega)).trans ((mset_ne (by omega)).trans (F1 b (by omega)))) hS3
      · exact h2 c0 c1 c2
    · exact h3 c0 c1
theorem k_158 {E : mO × tW} {K : tK} {d : mD} {x0 x1 x2 : Int} (hS : Safe d) (hx0 : wbB x0) (p1 : -2147483648 ≤ x1 ∧ x1 ≤ 2147483647) (p2 : -2147483648 ≤ x2 ∧ x2 ≤ 2147483647) (h0 : (x1 < 0) → K (.inr 1) d) (h1 : (0 ≤ x1) → (x1 < d (x0 + 1 + 2) 0) → (x2 < 0) → K (.inr 1) d) (h2 : (0 ≤ x1) → (x1 < d (x0 + 1 + 2) 0) → (0 ≤ x2) → (x2 < d (x0 + 1 + 2) 0) → (x1 = x2) → K (.inr 0) d) (h3 : (0 ≤ x1) → (x1 < d (x0 + 1 + 2) 0) → (0 ≤ x2) → (x2 < d (x0 + 1 + 2) 0) → (¬ x1 = x2) → (d (x0 + 1 + 2 + 5) x1 = 0) → K (.inr 0) d) (h4 : (0 ≤ x1) → (x1 < d (x0 + 1 + 2) 0) → (0 ≤ x2) → (x2 < d (x0 + 1 + 2) 0) → (¬ x1 = x2) → (¬ d (x0 + 1 + 2 + 5) x1 = 0) → (¬ d (x0 + 1 + 2 + 5) x2 = 0) → (0 ≤ ((g_63 (x0 + 1) x1 x2 (g_2 (x0 + 64) (x0 + 1) d)) (x0 + 1 + 2 + 6) x2) ∧ ((g_63 (x0 + 1) x1 x2 (g_2 (x0 + 64) (x0 + 1) d)) (x0 + 1 + 2 + 6) x2) ≤ 16) → (∀ b : Int, (b < x0 + 8 ∨ x0 + 10 < b) ∧ (b < x0 + 52 ∨ x0 + 52 < b) ∧ (b < x0 + 54 ∨ x0 + 55 < b) ∧ (b < x0 + 64 ∨ x0 + 64 < b) ∧ (b < x0 + 66 ∨ x0 + 569 < b) → (g_63 (x0 + 1) x1 x2 (g_2 (x0 + 64) (x0 + 1) d)) b = d b) → Safe (g_63 (x0 + 1) x1 x2 (g_2 (x0 + 64) (x0 + 1) d)) → K (.inl (some (0, (g_63 (x0 + 1) x1 x2 (g_2 (x0 + 64) (x0 + 1) d)) (x0 + 1 + 2 + 6) x2))) (g_63 (x0 + 1) x1 x2 (g_2 (x0 + 64) (x0 + 1) d))) (h5 : (0 ≤ x1) → (x1 < d (x0 + 1 + 2) 0) → (0 ≤ x2) → (x2 < d (x0 + 1 + 2) 0) → (¬ x1 = x2) → (¬ d (x0 + 1 + 2 + 5) x1 = 0) → (d (x0 + 1 + 2 + 5) x2 = 0) → K (.inr 0) d) (h6 : (0 ≤ x1) → (x1 < d (x0 + 1 + 2) 0) → (0 ≤ x2) → (d (x0 + 1 + 2) 0 ≤ x2) → K (.inr 1) d) (h7 : (0 ≤ x1) → (d (x0 + 1 + 2) 0 ≤ x1) → K (.inr 1) d) : tCall E 158 [.inr (10, x0), .inl (0, x1), .inl (0, x2)] d K := by
  refine t_158_0 ?_
  have w0 : x0 = 0 := hx0
  have w2 := r_6_f2 hS (wbB.nw hx0)
  have w3 := r_3_f0 hS (stB.of (wbB.nw hx0))
  have w4 := r_4_f0 hS (stB.pe (wbB.nw hx0))
  have w5 := r_8_f0 hS (stB.ti (wbB.nw hx0))
  have w6 := r_9_f0 hS (stB.to (wbB.nw hx0))
  have w7 := r_7_f1 hS (wbB.tx hx0)
  refine k_172 hS hx0 (m_inR (by omega) (by omega)) (m_inR (by omega) (by omega)) (fun z0 => ?_) (fun z0 z1 z2 => ?_) (fun z0 z1 z2 z3 z4 => ?_) (fun z0 z1 z2 z3 z4 z5 => ?_) (fun z0 z1 z2 z3 z4 z5 z6 => ?_) (fun z0 z1 z2 z3 z4 z5 z6 => ?_) (fun z0 z1 z2 z3 => ?_) (fun z0 z1 => ?_)
  · exact h0 z0
  · exact h1 z0 z1 z2
  · exact h2 z0 z1 z2 z3 z4
  · exact h3 z0 z1 z2 z3 z4 z5
  · refine t_158_6 ?_
    refine k_2 hS (wbB.hi hx0) (wbB.nw hx0) (by omega) (fun F1 hS1 => ?_)
    refine t_158_17 ?_
    refine k_63 hS1 (wbB.nw hx0) (by omega) (by omega) (fun F2 hS2 => ?_)
    refine t_158_26 ?_
    have q1 := r_3_6 hS2 (stB.of (wbB.nw hx0)) x2
    refine ⟨by omega, ?_⟩
    exact h4 z0 z1 z2 z3 z4 z5 z6 (by omega) (fun b hb => (F2 b (by omega)).trans (F1 b (by omega))) hS2
  · exact h5 z0 z1 z2 z3 z4 z5 z6
  · exact h6 z0 z1 z2 z3
  · exact h7 z0 z1
theorem k_159 {E : mO × tW} {K : tK} {d : mD} {x0 x1 : Int} (hS : Safe d) (hx0 : wbB x0) (p1 : -2147483648 ≤ x1 ∧ x1 ≤ 2147483647) (h0 : (x1 < 0) → K (.inr 1) d) (h1 : (0 ≤ x1) → (x1 < d (x0 + 1 + 2) 0) → (d (x0 + 1 + 2 + 5) x1 = 0) → (0 ≤ (v_37 (x0 + 1 + 2) (mset (g_2 (x0 + 64) (x0 + 1) d) (x0 + 1 + 2 + 5) x1 1)) ∧ (v_37 (x0 + 1 + 2) (mset (g_2 (x0 + 64) (x0 + 1) d) (x0 + 1 + 2 + 5) x1 1)) ≤ 6) → (∀ b : Int, (b < x0 + 8 ∨ x0 + 8 < b) ∧ (b < x0 + 64 ∨ x0 + 64 < b) ∧ (b < x0 + 66 ∨ x0 + 569 < b) → (mset (g_2 (x0 + 64) (x0 + 1) d) (x0 + 1 + 2 + 5) x1 1) b = d b) → Safe (mset (g_2 (x0 + 64) (x0 + 1) d) (x0 + 1 + 2 + 5) x1 1) → K (.inl (some (0, v_37 (x0 + 1 + 2) (mset (g_2 (x0 + 64) (x0 + 1) d) (x0 + 1 + 2 + 5) x1 1)))) (mset (g_2 (x0 + 64) (x0 + 1) d) (x0 + 1 + 2 + 5) x1 1)) (h2 : (0 ≤ x1) → (x1 < d (x0 + 1 + 2) 0) → (¬ d (x0 + 1 + 2 + 5) x1 = 0) → K (.inr 0) d) (h3 : (0 ≤ x1) → (d (x0 + 1 + 2) 0 ≤ x1) → K (.inr 1) d) : tCall E 159 [.inr (10, x0), .inl (0, x1)] d K := by
  refine t_159_0 ?_
  have w0 : x0 = 0 := hx0
  have w2 := r_6_f2 hS (wbB.nw hx0)
  have w3 := r_3_f0 hS (stB.of (wbB.nw hx0))
  have w4 := r_4_f0 hS (stB.pe (wbB.nw hx0))
  have w5 := r_8_f0 hS (stB.ti (wbB.nw hx0))
  have w6 := r_9_f0 hS (stB.to (wbB.nw hx0))
  have w7 := r_7_f1 hS (wbB.tx hx0)
  refine k_165 hS hx0 (m_inR (by omega) (by omega)) (fun z0 => ?_) (fun z0 z1 => ?_) (fun z0 z1 => ?_)
  · exact h0 z0
  · refine t_159_5 ?_
    have q1 := r_3_5 hS (stB.of (wbB.nw hx0)) x1
    refine ⟨by omega, m_inR (by omega) (by omega), fun c2 => ?_, fun c2 => ?_⟩
    · refine k_2 hS (wbB.hi hx0) (wbB.nw hx0) (by omega) (fun F1 hS1 => ?_)
      refine t_159_42 ?_
      refine ⟨by omega, ?_⟩
      have hS2 : Safe (mset (g_2 (x0 + 64) (x0 + 1) d) (x0 + 1 + 2 + 5) x1 1) := s_3_5 hS1 (stB.of (wbB.nw hx0)) (by omega)
      refine k_37 hS2 (stB.of (wbB.nw hx0)) (fun e1 => ?_)
      refine t_159_65 ?_
      exact h1 z0 z1 c2 (by omega) (fun b hb => (mset_ne (by omega)).trans (F1 b (by omega))) hS2
    · exact h2 z0 z1 c2
  · exact h3 z0 z1
theorem k_160 {E : mO × tW} {K : tK} {d : mD} {x0 : Int} (hS : Safe d) (hx0 : wbB x0) (h0 : (¬ v_93 (x0 + 578) 0 (d (x0 + 578) 1) d = (-1)) → (16 ≤ d (x0 + 1 + 10) 0) → (∀ b : Int, (b < x0 + 11 ∨ x0 + 16 < b) ∧ (b < x0 + 19 ∨ x0 + 49 < b) ∧ (b < x0 + 64 ∨ x0 + 64 < b) ∧ (b < x0 + 66 ∨ x0 + 569 < b) ∧ (b < x0 + 578 ∨ x0 + 578 < b) → (mset d (x0 + 578) 1 0) b = d b) → Safe (mset d (x0 + 578) 1 0) → K (.inr 0) (mset d (x0 + 578) 1 0)) (h1 : (¬ v_93 (x0 + 578) 0 (d (x0 + 578) 1) d = (-1)) → (d (x0 + 1 + 10) 0 < 16) → (v_48 (x0 + 1 + 10) (v_93 (x0 + 578) 0 (d (x0 + 578) 1) d) (mset d (x0 + 578) 1 0) = (-1)) → (-1 ≤ (((g_47 (x0 + 1 + 10) (v_93 (x0 + 578) 0 (d (x0 + 578) 1) d) (g_2 (x0 + 64) (x0 + 1) (mset d (x0 + 578) 1 0))) (x0 + 1 + 10) 0) - 1) ∧ (((g_47 (x0 + 1 + 10) (v_93 (x0 + 578) 0 (d (x0 + 578) 1) d) (g_2 (x0 + 64) (x0 + 1) (mset d (x0 + 578) 1 0))) (x0 + 1 + 10) 0) - 1) ≤ 16) → (∀ b : Int, (b < x0 + 11 ∨ x0 + 16 < b) ∧ (b < x0 + 19 ∨ x0 + 49 < b) ∧ (b < x0 + 64 ∨ x0 + 64 < b) ∧ (b < x0 + 66 ∨ x0 + 569 < b) ∧ (b < x0 + 578 ∨ x0 + 578 < b) → (g_47 (x0 + 1 + 10) (v_93 (x0 + 578) 0 (d (x0 + 578) 1) d) (g_2 (x0 + 64) (x0 + 1) (mset d (x0 + 578) 1 0))) b = d b) → Safe (g_47 (x0 + 1 + 10) (v_93 (x0 + 578) 0 (d (x0 + 578) 1) d) (g_2 (x0 + 64) (x0 + 1) (mset d (x0 + 578) 1 0))) → K (.inl (some (0, ((g_47 (x0 + 1 + 10) (v_93 (x0 + 578) 0 (d (x0 + 578) 1) d) (g_2 (x0 + 64) (x0 + 1) (mset d (x0 + 578) 1 0))) (x0 + 1 + 10) 0) - 1))) (g_47 (x0 + 1 + 10) (v_93 (x0 + 578) 0 (d (x0 + 578) 1) d) (g_2 (x0 + 64) (x0 + 1) (mset d (x0 + 578) 1 0)))) (h2 : (¬ v_93 (x0 + 578) 0 (d (x0 + 578) 1) d = (-1)) → (d (x0 + 1 + 10) 0 < 16) → (¬ v_48 (x0 + 1 + 10) (v_93 (x0 + 578) 0 (d (x0 + 578) 1) d) (mset d (x0 + 578) 1 0) = (-1)) → (∀ b : Int, (b < x0 + 11 ∨ x0 + 16 < b) ∧ (b < x0 + 19 ∨ x0 + 49 < b) ∧ (b < x0 + 64 ∨ x0 + 64 < b) ∧ (b < x0 + 66 ∨ x0 + 569 < b) ∧ (b < x0 + 578 ∨ x0 + 578 < b) → (mset d (x0 + 578) 1 0) b = d b) → Safe (mset d (x0 + 578) 1 0) → K (.inr 0) (mset d (x0 + 578) 1 0)) (h3 : (v_93 (x0 + 578) 0 (d (x0 + 578) 1) d = (-1)) → (∀ b : Int, (b < x0 + 11 ∨ x0 + 16 < b) ∧ (b < x0 + 19 ∨ x0 + 49 < b) ∧ (b < x0 + 64 ∨ x0 + 64 < b) ∧ (b < x0 + 66 ∨ x0 + 569 < b) ∧ (b < x0 + 578 ∨ x0 + 578 < b) → (mset d (x0 + 578) 1 0) b = d b) → Safe (mset d (x0 + 578) 1 0) → K (.inr 2) (mset d (x0 + 578) 1 0)) : tCall E 160 [.inr (10, x0)] d K := by
  refine t_160_0 ?_
  have w0 : x0 = 0 := hx0
  have w2 := r_6_f2 hS (wbB.nw hx0)
  have w3 := r_3_f0 hS (stB.of (wbB.nw hx0))
  have w4 := r_4_f0 hS (stB.pe (wbB.nw hx0))
  have w5 := r_8_f0 hS (stB.ti (wbB.nw hx0))
  have w6 := r_9_f0 hS (stB.to (wbB.nw hx0))
  have w7 := r_7_f1 hS (wbB.tx hx0)
  have q1 := r_7_f1 hS (wbB.tx hx0)
  refine k_93 hS (wbB.tx hx0) (by omega) (by omega) (fun e1 => ?_)
  refine t_160_15 ?_
  have hS1 : Safe (mset d (x0 + 578) 1 0) := s_7_f1 hS (wbB.tx hx0) (by omega)
  refine ⟨⟨m_inR (by omega) (by omega), m_inR (by omega) (by omega)⟩, fun c0 => ?_, fun c0 => ?_⟩
  · rw [mset_ni (d := d) (a := x0 + 578) (i := (1 : Int)) (v := (0 : Int)) (b := x0 + 1 + 10) (j := (0 : Int)) (by omega)]
    have q2 := r_4_f0 hS (stB.pe (wbB.nw hx0))
    refine ⟨⟨m_inR (by omega) (by omega), m_inR (by omega) (by omega)⟩, fun c1 => ?_, fun c1 => ?_⟩
    · exact h0 c0 c1 (fun b hb => mset_ne (by omega)) hS1
    · refine k_48 hS1 (stB.pe (wbB.nw hx0)) (m_inR (by omega) (by omega)) (fun e2 => ?_)
      refine t_160_66 ?_
      refine ⟨⟨m_inR (by omega) (by omega), m_inR (by omega) (by omega)⟩, fun c2 => ?_, fun c2 => ?_⟩
      · have q3 : (mset d (x0 + 578) 1 0) (x0 + 1) 2 = d (x0 + 1) 2 := congrFun (mset_ne (by omega)) 2
        refine k_2 hS1 (wbB.hi hx0) (wbB.nw hx0) (by omega) (fun F1 hS2 => ?_)
        refine t_160_92 ?_
        refine k_47 hS2 (stB.pe (wbB.nw hx0)) (by omega) (fun F2 hS3 => ?_)
        refine t_160_103 ?_
        have q4 := r_4_f0 hS3 (stB.pe (wbB.nw hx0))
        exact h1 c0 c1 c2 (by omega) (fun b hb => (F2 b (by omega)).trans ((F1 b (by omega)).trans (mset_ne (by omega)))) hS3
      · exact h2 c0 c1 c2 (fun b hb => mset_ne (by omega)) hS1
  · exact h3 c0 (fun b hb => mset_ne (by omega)) hS1
theorem k_161 {E : mO × tW} {K : tK} {d : mD} {x0 x1 x2 : Int} (hE : EOK E) (hS : Safe d) (hx0 : wbB x0) (p1 : -2147483648 ≤ x1 ∧ x1 ≤ 2147483647) (p2 : -2147483648 ≤ x2 ∧ x2 ≤ 2147483647) (h0 : (x1 < 0) → K (.inr 2) d) (h1 : (0 ≤ x1) → (x1 < 5) → (x2 < E.1.2 0 x1) → K (.inr 2) d) (h2 : (0 ≤ x1) → (x1 < 5) → (E.1.2 0 x1 ≤ x2) → (x2 ≤ E.1.2 1 x1) → (0 ≤ (d (x0 + 1 + 1) x1) ∧ (d (x0 + 1 + 1) x1) ≤ 99) → (∀ b : Int, (b < x0 + 2 ∨ x0 + 2 < b) ∧ (b < x0 + 64 ∨ x0 + 64 < b) ∧ (b < x0 + 66 ∨ x0 + 569 < b) → (mset (g_2 (x0 + 64) (x0 + 1) d) (x0 + 1 + 1) x1 x2) b = d b) → Safe (mset (g_2 (x0 + 64) (x0 + 1) d) (x0 + 1 + 1) x1 x2) → K (.inl (some (0, d (x0 + 1 + 1) x1))) (mset (g_2 (x0 + 64) (x0 + 1) d) (x0 + 1 + 1) x1 x2)) (h3 : (0 ≤ x1) → (x1 < 5) → (E.1.2 0 x1 ≤ x2) → (E.1.2 1 x1 < x2) → K (.inr 2) d) (h4 : (0 ≤ x1) → (5 ≤ x1) → K (.inr 2) d) : tCall E 161 [.inr (10, x0), .inl (0, x1), .inl (0, x2)] d K := by
  refine t_161_0 ?_
  have w0 : x0 = 0 := hx0
  have w2 := r_6_f2 hS (wbB.nw hx0)
  have w3 := r_3_f0 hS (stB.of (wbB.nw hx0))
  have w4 := r_4_f0 hS (stB.pe (wbB.nw hx0))
  have w5 := r_8_f0 hS (stB.ti (wbB.nw hx0))
  have w6 := r_9_f0 hS (stB.to (wbB.nw hx0))
  have w7 := r_7_f1 hS (wbB.tx hx0)
  refine k_169 hS hx0 (m_inR (by omega) (by omega)) (fun z0 => ?_) (fun z0 z1 => ?_) (fun z0 z1 => ?_)
  · exact h0 z0
  · refine t_161_5 ?_
    have q1 := EOK.rd hE (i := x1) (by omega)
    refine ⟨(by have := hE.1; have := hE.2.1; omega), ⟨m_inR (by omega) (by omega), m_inR (by omega) (by omega)⟩, fun c2 => ?_, fun c2 => ?_⟩
    · exact h1 z0 z1 c2
    · refine ⟨(by have := hE.1; have := hE.2.1; omega), ⟨m_inR (by omega) (by omega), m_inR (by omega) (by omega)⟩, fun c3 => ?_, fun c3 => ?_⟩
      · refine k_2 hS (wbB.hi hx0) (wbB.nw hx0) (by omega) (fun F1 hS1 => ?_)
        refine t_161_45 ?_
        rw [F1 (x0 + 1 + 1) (by omega)]
        refine ⟨by omega, by omega, ?_⟩
        have hS2 : Safe (mset (g_2 (x0 + 64) (x0 + 1) d) (x0 + 1 + 1) x1 x2) := s_6_1 hS1 (wbB.nw hx0) (by omega)
        have q2 := r_6_1 hS (wbB.nw hx0) x1
        exact h2 z0 z1 c2 c3 (by omega) (fun b hb => (mset_ne (by omega)).trans (F1 b (by omega))) hS2
      · exact h3 z0 z1 c2 c3
  · exact h4 z0 z1
theorem k_162 {E : mO × tW} {K : tK} {d : mD} {x0 : Int} (hS : Safe d) (hx0 : wbB x0) (h0 : (¬ d (x0 + 64) 2 = 0) → (0 ≤ ((g_3 (x0 + 64) (x0 + 1) d) (x0 + 64) 2) ∧ ((g_3 (x0 + 64) (x0 + 1) d) (x0 + 64) 2) ≤ 8) → (∀ b : Int, (b < x0 + 1 ∨ x0 + 16 < b) ∧ (b < x0 + 19 ∨ x0 + 64 < b) → (g_3 (x0 + 64) (x0 + 1) d) b = d b) → Safe (g_3 (x0 + 64) (x0 + 1) d) → K (.inl (some (0, (g_3 (x0 + 64) (x0 + 1) d) (x0 + 64) 2))) (g_3 (x0 + 64) (x0 + 1) d)) (h1 : (d (x0 + 64) 2 = 0) → K (.inr 0) d) : tCall E 162 [.inr (10, x0)] d K := by
  refine t_162_0 ?_
  have w0 : x0 = 0 := hx0
  have w2 := r_6_f2 hS (wbB.nw hx0)
  have w3 := r_3_f0 hS (stB.of (wbB.nw hx0))
  have w4 := r_4_f0 hS (stB.pe (wbB.nw hx0))
  have w5 := r_8_f0 hS (stB.ti (wbB.nw hx0))
  have w6 := r_9_f0 hS (stB.to (wbB.nw hx0))
  have w7 := r_7_f1 hS (wbB.tx hx0)
  have q1 := r_0_f2 hS (wbB.hi hx0)
  refine ⟨m_inR (by omega) (by omega), fun c0 => ?_, fun c0 => ?_⟩
  · refine k_3 hS (wbB.hi hx0) (wbB.nw hx0) (by omega) (fun F1 hS1 => ?_)
    refine t_162_32 ?_
    have q2 := r_0_f2 hS1 (wbB.hi hx0)
    exact h0 c0 (by omega) (fun b hb => F1 b (by omega)) hS1
  · exact h1 c0
theorem k_163 {E : mO × tW} {K : tK} {d : mD} {x0 x1 : Int} (hS : Safe d) (hx0 : wbB x0) (p1 : -2147483648 ≤ x1 ∧ x1 ≤ 2147483647) (h0 : (x1 < 0) → K (.inr 1) d) (h1 : (0 ≤ x1) → (x1 < 2) → (∀ b : Int, (b < x0 + 571 ∨ x0 + 571 < b) ∧ (b < x0 + 643 ∨ x0 + 768 < b) → (mset (g_59 (x0 + 570 + (73 + 63 * x1)) (x0 + 1) d) (x0 + 571) x1 1) b = d b) → Safe (mset (g_59 (x0 + 570 + (73 + 63 * x1)) (x0 + 1) d) (x0 + 571) x1 1) → K (.inl none) (mset (g_59 (x0 + 570 + (73 + 63 * x1)) (x0 + 1) d) (x0 + 571) x1 1)) (h2 : (0 ≤ x1) → (2 ≤ x1) → K (.inr 1) d) : tCall E 163 [.inr (10, x0), .inl (0, x1)] d K := by
  refine t_163_0 ?_
  have w0 : x0 = 0 := hx0
  have w2 := r_6_f2 hS (wbB.nw hx0)
  have w3 := r_3_f0 hS (stB.of (wbB.nw hx0))
  have w4 := r_4_f0 hS (stB.pe (wbB.nw hx0))
  have w5 := r_8_f0 hS (stB.ti (wbB.nw hx0))
  have w6 := r_9_f0 hS (stB.to (wbB.nw hx0))
  have w7 := r_7_f1 hS (wbB.tx hx0)
  refine k_168 hS hx0 (m_inR (by omega) (by omega)) (fun z0 => ?_) (fun z0 z1 => ?_) (fun z0 z1 => ?_)
  · exact h0 z0
  · refine t_163_5 ?_
    refine ⟨by omega, ?_⟩
    have hp1 : stB (x0 + 570 + (73 + 63 * x1)) := wbB.sv hx0 (by omega) (by omega)
    refine k_59 hS hp1 (wbB.nw hx0) (by omega) (fun F1 k1_0 hS2 => ?_)
    refine t_163_18 ?_
    refine ⟨by omega, ?_⟩
    have hS3 : Safe (mset (g_59 (x0 + 570 + (73 + 63 * x1)) (x0 + 1) d) (x0 + 571) x1 1) := s_10_571 hS2 hx0 (by omega)
    exact h1 z0 z1 (fun b hb => (mset_ne (by omega)).trans (F1 b (by omega))) hS3
  · exact h2 z0 z1
theorem k_164 {E : mO × tW} {K : tK} {d : mD} {x0 x1 : Int} (hS : Safe d) (hx0 : wbB x0) (p1 : -2147483648 ≤ x1 ∧ x1 ≤ 2147483647) (h0 : (x1 < 0) → K (.inr 1) d) (h1 : (0 ≤ x1) → (x1 < 2) → (¬ d (x0 + 571) x1 = 0) → (∀ b : Int, (b < x0 + 1 ∨ x0 + 16 < b) ∧ (b < x0 + 19 ∨ x0 + 64 < b) → (g_4 (x0 + 64) (g_59 (x0 + 1) (x0 + 570 + (73 + 63 * x1)) d)) b = d b) → Safe (g_4 (x0 + 64) (g_59 (x0 + 1) (x0 + 570 + (73 + 63 * x1)) d)) → K (.inl none) (g_4 (x0 + 64) (g_59 (x0 + 1) (x0 + 570 + (73 + 63 * x1)) d))) (h2 : (0 ≤ x1) → (x1 < 2) → (d (x0 + 571) x1 = 0) → K (.inr 3) d) (h3 : (0 ≤ x1) → (2 ≤ x1) → K (.inr 1) d) : tCall E 164 [.inr (10, x0), .inl (0, x1)] d K := by
  refine t_164_0 ?_
  have w0 : x0 = 0 := hx0
  have w2 := r_6_f2 hS (wbB.nw hx0)
  have w3 := r_3_f0 hS (stB.of (wbB.nw hx0))
  have w4 := r_4_f0 hS (stB.pe (wbB.nw hx0))
  have w5 := r_8_f0 hS (stB.ti (wbB.nw hx0))
  have w6 := r_9_f0 hS (stB.to (wbB.nw hx0))
  have w7 := r_7_f1 hS (wbB.tx hx0)
  refine k_168 hS hx0 (m_inR (by omega) (by omega)) (fun z0 => ?_) (fun z0 z1 => ?_) (fun z0 z1 => ?_)
  · exact h0 z0
  · refine t_164_5 ?_
    have q1 := r_10_571 hS hx0 x1
    refine ⟨by omega, m_inR (by omega) (by omega), fun c2 => ?_, fun c2 => ?_⟩
    · refine ⟨by omega, ?_⟩
      have hp1 : stB (x0 + 570 + (73 + 63 * x1)) := wbB.sv hx0 (by omega) (by omega)
      refine k_59 hS (wbB.nw hx0) hp1 (by have w := r_6_f2 hS hp1; omega) (fun F1 k1_0 hS2 => ?_)
      refine t_164_38 ?_
      refine k_4 hS2 (wbB.hi hx0) (fun F2 hS3 => ?_)
      refine t_164_45 ?_
      exact h1 z0 z1 c2 (fun b hb => (F2 b (by omega)).trans (F1 b (by omega))) hS3
    · exact h2 z0 z1 c2
  · exact h3 z0 z1
