/-! ===== contracts of the methods: printed by a program of mine ===== -/
def puR (x0 x1 : Int) (d : mD) : Prop := x1 < 0 ∨ d (x0 + 1 + 10) 0 ≤ x1 ∨ (-2147483648 ≤ d (x0 + 1 + 10 + 2) x1 ∧ d (x0 + 1 + 10 + 2) x1 ≤ 2147483647)
theorem puR.use {x0 x1 : Int} {d : mD} (h : puR x0 x1 d) (h0 : 0 ≤ x1) (h1 : x1 < d (x0 + 1 + 10) 0) : -2147483648 ≤ d (x0 + 1 + 10 + 2) x1 ∧ d (x0 + 1 + 10 + 2) x1 ≤ 2147483647 := by
  unfold puR at h; omega
theorem k_165 {E : mO × tW} {K : tK} {d : mD} {x0 x1 : Int} (hS : Safe d) (hx0 : wbB x0) (p1 : -2147483648 ≤ x1 ∧ x1 ≤ 2147483647) (h0 : (x1 < 0) → K (.inr 1) d) (h1 : (0 ≤ x1) → (x1 < d (x0 + 1 + 2) 0) → K (.inl none) d) (h2 : (0 ≤ x1) → (d (x0 + 1 + 2) 0 ≤ x1) → K (.inr 1) d) : tCall E 165 [.inr (10, x0), .inl (0, x1)] d K := by
  refine t_165_0 ?_
  have w0 : x0 = 0 := hx0
  have w2 := r_6_f2 hS (wbB.nw hx0)
  have w3 := r_3_f0 hS (stB.of (wbB.nw hx0))
  have w4 := r_4_f0 hS (stB.pe (wbB.nw hx0))
  have w5 := r_8_f0 hS (stB.ti (wbB.nw hx0))
  have w6 := r_9_f0 hS (stB.to (wbB.nw hx0))
  have w7 := r_7_f1 hS (wbB.tx hx0)
  refine ⟨m_inR (by omega) (by omega), fun c0 => ?_, fun c0 => ?_⟩
  · exact h0 c0
  · have q1 := r_3_f0 hS (stB.of (wbB.nw hx0))
    refine ⟨⟨m_inR (by omega) (by omega), m_inR (by omega) (by omega)⟩, fun c1 => ?_, fun c1 => ?_⟩
    · exact h1 c0 c1
    · exact h2 c0 c1
theorem k_166 {E : mO × tW} {K : tK} {d : mD} {x0 x1 : Int} (hS : Safe d) (hx0 : wbB x0) (p1 : -2147483648 ≤ x1 ∧ x1 ≤ 2147483647) (h0 : (x1 < 0) → K (.inr 1) d) (h1 : (0 ≤ x1) → (x1 < d (x0 + 1 + 10) 0) → K (.inl none) d) (h2 : (0 ≤ x1) → (d (x0 + 1 + 10) 0 ≤ x1) → K (.inr 1) d) : tCall E 166 [.inr (10, x0), .inl (0, x1)] d K := by
  refine t_166_0 ?_
  have w0 : x0 = 0 := hx0
  have w2 := r_6_f2 hS (wbB.nw hx0)
  have w3 := r_3_f0 hS (stB.of (wbB.nw hx0))
  have w4 := r_4_f0 hS (stB.pe (wbB.nw hx0))
  have w5 := r_8_f0 hS (stB.ti (wbB.nw hx0))
  have w6 := r_9_f0 hS (stB.to (wbB.nw hx0))
  have w7 := r_7_f1 hS (wbB.tx hx0)
  refine ⟨m_inR (by omega) (by omega), fun c0 => ?_, fun c0 => ?_⟩
  · exact h0 c0
  · have q1 := r_4_f0 hS (stB.pe (wbB.nw hx0))
    refine ⟨⟨m_inR (by omega) (by omega), m_inR (by omega) (by omega)⟩, fun c1 => ?_, fun c1 => ?_⟩
    · exact h1 c0 c1
    · exact h2 c0 c1
theorem k_167 {E : mO × tW} {K : tK} {d : mD} {x0 x1 : Int} (hS : Safe d) (hx0 : wbB x0) (p1 : -2147483648 ≤ x1 ∧ x1 ≤ 2147483647) (h0 : (x1 < 0) → K (.inr 1) d) (h1 : (0 ≤ x1) → (x1 < d (x0 + 1 + 49) 0) → K (.inl none) d) (h2 : (0 ≤ x1) → (d (x0 + 1 + 49) 0 ≤ x1) → K (.inr 1) d) : tCall E 167 [.inr (10, x0), .inl (0, x1)] d K := by
  refine t_167_0 ?_
  have w0 : x0 = 0 := hx0
  have w2 := r_6_f2 hS (wbB.nw hx0)
  have w3 := r_3_f0 hS (stB.of (wbB.nw hx0))
  have w4 := r_4_f0 hS (stB.pe (wbB.nw hx0))
  have w5 := r_8_f0 hS (stB.ti (wbB.nw hx0))
  have w6 := r_9_f0 hS (stB.to (wbB.nw hx0))
  have w7 := r_7_f1 hS (wbB.tx hx0)
  refine ⟨m_inR (by omega) (by omega), fun c0 => ?_, fun c0 => ?_⟩
  · exact h0 c0
  · have q1 := r_8_f0 hS (stB.ti (wbB.nw hx0))
    refine ⟨⟨m_inR (by omega) (by omega), m_inR (by omega) (by omega)⟩, fun c1 => ?_, fun c1 => ?_⟩
    · exact h1 c0 c1
    · exact h2 c0 c1
theorem k_168 {E : mO × tW} {K : tK} {d : mD} {x0 x1 : Int} (hS : Safe d) (hx0 : wbB x0) (p1 : -2147483648 ≤ x1 ∧ x1 ≤ 2147483647) (h0 : (x1 < 0) → K (.inr 1) d) (h1 : (0 ≤ x1) → (x1 < 2) → K (.inl none) d) (h2 : (0 ≤ x1) → (2 ≤ x1) → K (.inr 1) d) : tCall E 168 [.inr (10, x0), .inl (0, x1)] d K := by
  refine t_168_0 ?_
  have w0 : x0 = 0 := hx0
  have w2 := r_6_f2 hS (wbB.nw hx0)
  have w3 := r_3_f0 hS (stB.of (wbB.nw hx0))
  have w4 := r_4_f0 hS (stB.pe (wbB.nw hx0))
  have w5 := r_8_f0 hS (stB.ti (wbB.nw hx0))
  have w6 := r_9_f0 hS (stB.to (wbB.nw hx0))
  have w7 := r_7_f1 hS (wbB.tx hx0)
  refine ⟨m_inR (by omega) (by omega), fun c0 => ?_, fun c0 => ?_⟩
  · exact h0 c0
  · refine ⟨⟨m_inR (by omega) (by omega), m_inR (by omega) (by omega)⟩, fun c1 => ?_, fun c1 => ?_⟩
    · exact h1 c0 c1
    · exact h2 c0 c1
theorem k_169 {E : mO × tW} {K : tK} {d : mD} {x0 x1 : Int} (hS : Safe d) (hx0 : wbB x0) (p1 : -2147483648 ≤ x1 ∧ x1 ≤ 2147483647) (h0 : (x1 < 0) → K (.inr 2) d) (h1 : (0 ≤ x1) → (x1 < 5) → K (.inl none) d) (h2 : (0 ≤ x1) → (5 ≤ x1) → K (.inr 2) d) : tCall E 169 [.inr (10, x0), .inl (0, x1)] d K := by
  refine t_169_0 ?_
  have w0 : x0 = 0 := hx0
  have w2 := r_6_f2 hS (wbB.nw hx0)
  have w3 := r_3_f0 hS (stB.of (wbB.nw hx0))
  have w4 := r_4_f0 hS (stB.pe (wbB.nw hx0))
  have w5 := r_8_f0 hS (stB.ti (wbB.nw hx0))
  have w6 := r_9_f0 hS (stB.to (wbB.nw hx0))
  have w7 := r_7_f1 hS (wbB.tx hx0)
  refine ⟨m_inR (by omega) (by omega), fun c0 => ?_, fun c0 => ?_⟩
  · exact h0 c0
  · refine ⟨⟨m_inR (by omega) (by omega), m_inR (by omega) (by omega)⟩, fun c1 => ?_, fun c1 => ?_⟩
    · exact h1 c0 c1
    · exact h2 c0 c1
theorem k_170 {E : mO × tW} {K : tK} {d : mD} {x0 x1 : Int} (hS : Safe d) (hx0 : wbB x0) (p1 : -2147483648 ≤ x1 ∧ x1 ≤ 2147483647) (h0 : (x1 < 0) → K (.inr 2) d) (h1 : (0 ≤ x1) → (x1 ≤ (200 : Int)) → K (.inl none) d) (h2 : (0 ≤ x1) → ((200 : Int) < x1) → K (.inr 2) d) : tCall E 170 [.inr (10, x0), .inl (0, x1)] d K := by
  refine t_170_0 ?_
  have w0 : x0 = 0 := hx0
  have w2 := r_6_f2 hS (wbB.nw hx0)
  have w3 := r_3_f0 hS (stB.of (wbB.nw hx0))
  have w4 := r_4_f0 hS (stB.pe (wbB.nw hx0))
  have w5 := r_8_f0 hS (stB.ti (wbB.nw hx0))
  have w6 := r_9_f0 hS (stB.to (wbB.nw hx0))
  have w7 := r_7_f1 hS (wbB.tx hx0)
  refine ⟨m_inR (by omega) (by omega), fun c0 => ?_, fun c0 => ?_⟩
  · exact h0 c0
  · refine ⟨⟨m_inR (by omega) (by omega), m_inR (by omega) (by omega)⟩, fun c1 => ?_, fun c1 => ?_⟩
    · exact h1 c0 c1
    · exact h2 c0 c1
theorem k_171 {E : mO × tW} {K : tK} {d : mD} {x0 x1 : Int} (hS : Safe d) (hx0 : wbB x0) (p1 : -2147483648 ≤ x1 ∧ x1 ≤ 2147483647) (h0 : (x1 < 1) → K (.inr 2) d) (h1 : (1 ≤ x1) → (x1 ≤ (200 : Int)) → K (.inl none) d) (h2 : (1 ≤ x1) → ((200 : Int) < x1) → K (.inr 2) d) : tCall E 171 [.inr (10, x0), .inl (0, x1)] d K := by
  refine t_171_0 ?_
  have w0 : x0 = 0 := hx0
  have w2 := r_6_f2 hS (wbB.nw hx0)
  have w3 := r_3_f0 hS (stB.of (wbB.nw hx0))
  have w4 := r_4_f0 hS (stB.pe (wbB.nw hx0))
  have w5 := r_8_f0 hS (stB.ti (wbB.nw hx0))
  have w6 := r_9_f0 hS (stB.to (wbB.nw hx0))
  have w7 := r_7_f1 hS (wbB.tx hx0)
  refine ⟨⟨m_inR (by omega) (by omega), m_inR (by omega) (by omega)⟩, fun c0 => ?_, fun c0 => ?_⟩
  · exact h0 c0
  · refine ⟨⟨m_inR (by omega) (by omega), m_inR (by omega) (by omega)⟩, fun c1 => ?_, fun c1 => ?_⟩
    · exact h1 c0 c1
    · exact h2 c0 c1
theorem k_172 {E : mO × tW} {K : tK} {d : mD} {x0 x1 x2 : Int} (hS : Safe d) (hx0 : wbB x0) (p1 : -2147483648 ≤ x1 ∧ x1 ≤ 2147483647) (p2 : -2147483648 ≤ x2 ∧ x2 ≤ 2147483647) (h0 : (x1 < 0) → K (.inr 1) d) (h1 : (0 ≤ x1) → (x1 < d (x0 + 1 + 2) 0) → (x2 < 0) → K (.inr 1) d) (h2 : (0 ≤ x1) → (x1 < d (x0 + 1 + 2) 0) → (0 ≤ x2) → (x2 < d (x0 + 1 + 2) 0) → (x1 = x2) → K (.inr 0) d) (h3 : (0 ≤ x1) → (x1 < d (x0 + 1 + 2) 0) → (0 ≤ x2) → (x2 < d (x0 + 1 + 2) 0) → (¬ x1 = x2) → (d (x0 + 1 + 2 + 5) x1 = 0) → K (.inr 0) d) (h4 : (0 ≤ x1) → (x1 < d (x0 + 1 + 2) 0) → (0 ≤ x2) → (x2 < d (x0 + 1 + 2) 0) → (¬ x1 = x2) → (¬ d (x0 + 1 + 2 + 5) x1 = 0) → (¬ d (x0 + 1 + 2 + 5) x2 = 0) → K (.inl none) d) (h5 : (0 ≤ x1) → (x1 < d (x0 + 1 + 2) 0) → (0 ≤ x2) → (x2 < d (x0 + 1 + 2) 0) → (¬ x1 = x2) → (¬ d (x0 + 1 + 2 + 5) x1 = 0) → (d (x0 + 1 + 2 + 5) x2 = 0) → K (.inr 0) d) (h6 : (0 ≤ x1) → (x1 < d (x0 + 1 + 2) 0) → (0 ≤ x2) → (d (x0 + 1 + 2) 0 ≤ x2) → K (.inr 1) d) (h7 : (0 ≤ x1) → (d (x0 + 1 + 2) 0 ≤ x1) → K (.inr 1) d) : tCall E 172 [.inr (10, x0), .inl (0, x1), .inl (0, x2)] d K := by
  refine t_172_0 ?_
  have w0 : x0 = 0 := hx0
  have w2 := r_6_f2 hS (wbB.nw hx0)
  have w3 := r_3_f0 hS (stB.of (wbB.nw hx0))
  have w4 := r_4_f0 hS (stB.pe (wbB.nw hx0))
  have w5 := r_8_f0 hS (stB.ti (wbB.nw hx0))
  have w6 := r_9_f0 hS (stB.to (wbB.nw hx0))
  have w7 := r_7_f1 hS (wbB.tx hx0)
  refine k_165 hS hx0 (m_inR (by omega) (by omega)) (fun z0 => ?_) (fun z0 z1 => ?_) (fun z0 z1 => ?_)
  · exact h0 z0
  · refine t_172_5 ?_
    refine k_165 hS hx0 (m_inR (by omega) (by omega)) (fun z2 => ?_) (fun z2 z3 => ?_) (fun z2 z3 => ?_)
    · exact h1 z0 z1 z2
    · refine t_172_10 ?_
      refine ⟨⟨m_inR (by omega) (by omega), m_inR (by omega) (by omega)⟩, fun c4 => ?_, fun c4 => ?_⟩
      · exact h2 z0 z1 z2 z3 c4
      · have q1 := r_3_5 hS (stB.of (wbB.nw hx0)) x1
        refine ⟨by omega, m_inR (by omega) (by omega), fun c5 => ?_, fun c5 => ?_⟩
        · exact h3 z0 z1 z2 z3 c4 c5
        · have q2 := r_3_5 hS (stB.of (wbB.nw hx0)) x2
          refine ⟨by omega, m_inR (by omega) (by omega), fun c6 => ?_, fun c6 => ?_⟩
          · exact h4 z0 z1 z2 z3 c4 c5 c6
          · exact h5 z0 z1 z2 z3 c4 c5 c6
    · exact h6 z0 z1 z2 z3
  · exact h7 z0 z1
def v_173 (x0 x1 : Int) (d : mD) : Int := if d (x0 + 1 + 2 + 5) x1 = 0 then (-1) else if (200 : Int) < v_43 (x0 + 1 + 2) x1 (d (x0 + 1 + 2 + 6) x1) (d (x0 + 1) 2) d then (-1) else v_43 (x0 + 1 + 2) x1 (d (x0 + 1 + 2 + 6) x1) (d (x0 + 1) 2) d
theorem k_173 {E : mO × tW} {K : tK} {d : mD} {x0 x1 : Int} (hS : Safe d) (hx0 : wbB x0) (p1 : 0 ≤ x1 ∧ x1 ≤ 5) (h : (-1 ≤ (v_173 x0 x1 d) ∧ (v_173 x0 x1 d) ≤ 200) → K (.inl (some (0, (v_173 x0 x1 d)))) d) : tCall E 173 [.inr (10, x0), .inl (0, x1)] d K := by
  refine t_173_0 ?_
  have w0 : x0 = 0 := hx0
  have w2 := r_6_f2 hS (wbB.nw hx0)
  have w3 := r_3_f0 hS (stB.of (wbB.nw hx0))
  have w4 := r_4_f0 hS (stB.pe (wbB.nw hx0))
  have w5 := r_8_f0 hS (stB.ti (wbB.nw hx0))
  have w6 := r_9_f0 hS (stB.to (wbB.nw hx0))
  have w7 := r_7_f1 hS (wbB.tx hx0)
  have q1 := r_3_5 hS (stB.of (wbB.nw hx0)) x1
  refine ⟨by omega, m_inR (by omega) (by omega), fun c0 => ?_, fun c0 => ?_⟩
  · refine ⟨by omega, ?_⟩
    have q2 := r_3_6 hS (stB.of (wbB.nw hx0)) x1
    have q3 := r_6_f2 hS (wbB.nw hx0)
    refine k_43 hS (stB.of (wbB.nw hx0)) (by omega) (by omega) (by omega) (fun e1 => ?_)
    refine t_173_47 ?_
    refine ⟨⟨m_inR (by omega) (by omega), m_inR (by omega) (by omega)⟩, fun c1 => ?_, fun c1 => ?_⟩
    · have y0 : v_173 x0 x1 d = v_43 (x0 + 1 + 2) x1 (d (x0 + 1 + 2 + 6) x1) (d (x0 + 1) 2) d := by simp only [v_173, if_neg (show ¬ d (x0 + 1 + 2 + 5) x1 = 0 from c0), if_neg (show ¬ (200 : Int) < v_43 (x0 + 1 + 2) x1 (d (x0 + 1 + 2 + 6) x1) (d (x0 + 1) 2) d from Int.not_lt.mpr c1)]
      rw [y0] at h
      exact h (show -1 ≤ (v_43 (x0 + 1 + 2) x1 (d (x0 + 1 + 2 + 6) x1) (d (x0 + 1) 2) d) ∧ (v_43 (x0 + 1 + 2) x1 (d (x0 + 1 + 2 + 6) x1) (d (x0 + 1) 2) d) ≤ 200 from (by omega))
    · have y0 : v_173 x0 x1 d = (-1) := by simp only [v_173, if_neg (show ¬ d (x0 + 1 + 2 + 5) x1 = 0 from c0), if_pos (show (200 : Int) < v_43 (x0 + 1 + 2) x1 (d (x0 + 1 + 2 + 6) x1) (d (x0 + 1) 2) d from c1)]
      rw [y0] at h
      exact h (show -1 ≤ ((-1 : Int)) ∧ ((-1 : Int)) ≤ 200 from (by omega))
  · have y0 : v_173 x0 x1 d = (-1) := by simp only [v_173, if_pos (show d (x0 + 1 + 2 + 5) x1 = 0 from c0)]
    rw [y0] at h
    exact h (show -1 ≤ ((-1 : Int)) ∧ ((-1 : Int)) ≤ 200 from (by omega))
theorem k_118 {E : mO × tW} {K : tK} {d : mD} {x0 x1 x2 x3 x4 x5 : Int} (hS : Safe d) (hx0 : wbB x0) (p1 : -2147483648 ≤ x1 ∧ x1 ≤ 2147483647) (p2 : -2147483648 ≤ x2 ∧ x2 ≤ 2147483647) (p3 : -2147483648 ≤ x3 ∧ x3 ≤ 2147483647) (p4 : -2147483648 ≤ x4 ∧ x4 ≤ 2147483647) (p5 : -2147483648 ≤ x5 ∧ x5 ≤ 2147483647) (h0 : ((d (x0 + 578) 1) + 20 ≤ (1000 : Int)) → (0 ≤ ((g_87 (x0 + 578) x5 (g_87 (x0 + 578) x4 (g_87 (x0 + 578) x3 (g_87 (x0 + 578) x2 (g_87 (x0 + 578) x1 d))))) (x0 + 578) 1) ∧ ((g_87 (x0 + 578) x5 (g_87 (x0 + 578) x4 (g_87 (x0 + 578) x3 (g_87 (x0 + 578) x2 (g_87 (x0 + 578) x1 d))))) (x0 + 578) 1) ≤ 1000) → (∀ b : Int, (b < x0 + 578 ∨ x0 + 579 < b) → (g_87 (x0 + 578) x5 (g_87 (x0 + 578) x4 (g_87 (x0 + 578) x3 (g_87 (x0 + 578) x2 (g_87 (x0 + 578) x1 d))))) b = d b) → Safe (g_87 (x0 + 578) x5 (g_87 (x0 + 578) x4 (g_87 (x0 + 578) x3 (g_87 (x0 + 578) x2 (g_87 (x0 + 578) x1 d))))) → K (.inl (some (0, (g_87 (x0 + 578) x5 (g_87 (x0 + 578) x4 (g_87 (x0 + 578) x3 (g_87 (x0 + 578) x2 (g_87 (x0 + 578) x1 d))))) (x0 + 578) 1))) (g_87 (x0 + 578) x5 (g_87 (x0 + 578) x4 (g_87 (x0 + 578) x3 (g_87 (x0 + 578) x2 (g_87 (x0 + 578) x1 d)))))) (h1 : ((1000 : Int) < (d (x0 + 578) 1) + 20) → K (.inr 0) d) : tCall E 118 [.inr (10, x0), .inl (0, x1), .inl (0, x2), .inl (0, x3), .inl (0, x4), .inl (0, x5)] d K := by
  refine t_118_0 ?_
  have w0 : x0 = 0 := hx0
  have w2 := r_6_f2 hS (wbB.nw hx0)
  have w3 := r_3_f0 hS (stB.of (wbB.nw hx0))
  have w4 := r_4_f0 hS (stB.pe (wbB.nw hx0))
  have w5 := r_8_f0 hS (stB.ti (wbB.nw hx0))
  have w6 := r_9_f0 hS (stB.to (wbB.nw hx0))
  have w7 := r_7_f1 hS (wbB.tx hx0)
  have q1 := r_7_f1 hS (wbB.tx hx0)
  refine ⟨⟨m_inR (by omega) (by omega), m_inR (by omega) (by omega)⟩, fun c0 => ?_, fun c0 => ?_⟩
  · refine k_87 hS (wbB.tx hx0) (m_inR (by omega) (by omega)) (fun F1 hS1 => ?_)
    refine t_118_34 ?_
    refine k_87 hS1 (wbB.tx hx0) (m_inR (by omega) (by omega)) (fun F2 hS2 => ?_)
    refine t_118_42 ?_
    refine k_87 hS2 (wbB.tx hx0) (m_inR (by omega) (by omega)) (fun F3 hS3 => ?_)
    refine t_118_50 ?_
    refine k_87 hS3 (wbB.tx hx0) (m_inR (by omega) (by omega)) (fun F4 hS4 => ?_)
    refine t_118_59 ?_
    refine k_87 hS4 (wbB.tx hx0) (m_inR (by omega) (by omega)) (fun F5 hS5 => ?_)
    refine t_118_68 ?_
    have q2 := r_7_f1 hS5 (wbB.tx hx0)
    exact h0 c0 (by omega) (fun b hb => (F5 b (by omega)).trans ((F4 b (by omega)).trans ((F3 b (by omega)).trans ((F2 b (by omega)).trans (F1 b (by omega)))))) hS5
  · exact h1 c0
theorem k_119 {E : mO × tW} {K : tK} {d : mD} {x0 x1 : Int} (hS : Safe d) (hx0 : wbB x0) (p1 : -2147483648 ≤ x1 ∧ x1 ≤ 2147483647) (h0 : (x1 < 0) → K (.inr 1) d) (h1 : (0 ≤ x1) → (x1 ≤ d (x0 + 578) 1) → (0 ≤ x1 ∧ x1 ≤ 1000) → (∀ b : Int, (b < x0 + 578 ∨ x0 + 578 < b) → (mset d (x0 + 578) 1 x1) b = d b) → Safe (mset d (x0 + 578) 1 x1) → K (.inl (some (0, x1))) (mset d (x0 + 578) 1 x1)) (h2 : (0 ≤ x1) → (d (x0 + 578) 1 < x1) → K (.inr 1) d) : tCall E 119 [.inr (10, x0), .inl (0, x1)] d K := by
  refine t_119_0 ?_
  have w0 : x0 = 0 := hx0
  have w2 := r_6_f2 hS (wbB.nw hx0)
  have w3 := r_3_f0 hS (stB.of (wbB.nw hx0))
  have w4 := r_4_f0 hS (stB.pe (wbB.nw hx0))
  have w5 := r_8_f0 hS (stB.ti (wbB.nw hx0))
  have w6 := r_9_f0 hS (stB.to (wbB.nw hx0))
  have w7 := r_7_f1 hS (wbB.tx hx0)
  refine ⟨m_inR (by omega) (by omega), fun c0 => ?_, fun c0 => ?_⟩
  · exact h0 c0
  · have q1 := r_7_f1 hS (wbB.tx hx0)
    refine ⟨⟨m_inR (by omega) (by omega), m_inR (by omega) (by omega)⟩, fun c1 => ?_, fun c1 => ?_⟩
    · have hS1 : Safe (mset d (x0 + 578) 1 x1) := s_7_f1 hS (wbB.tx hx0) (by omega)
      exact h1 c0 c1 (by omega) (fun b hb => mset_ne (by omega)) hS1
    · exact h2 c0 c1
def v_121 (x0 : Int) (d : mD) : Int := d (x0 + 576) 2
theorem k_121 {E : mO × tW} {K : tK} {d : mD} {x0 : Int} (hS : Safe d) (hx0 : wbB x0) (h : (0 ≤ (v_121 x0 d) ∧ (v_121 x0 d) ≤ 6) → K (.inl (some (0, (v_121 x0 d)))) d) : tCall E 121 [.inr (10, x0)] d K := by
  refine t_121_0 ?_
  have w0 : x0 = 0 := hx0
  have w2 := r_6_f2 hS (wbB.nw hx0)
  have w3 := r_3_f0 hS (stB.of (wbB.nw hx0))
  have w4 := r_4_f0 hS (stB.pe (wbB.nw hx0))
  have w5 := r_8_f0 hS (stB.ti (wbB.nw hx0))
  have w6 := r_9_f0 hS (stB.to (wbB.nw hx0))
  have w7 := r_7_f1 hS (wbB.tx hx0)
  have q1 := r_2_f2 hS (wbB.ld hx0)
  have y0 : v_121 x0 d = d (x0 + 576) 2 := by simp only [v_121]
  rw [y0] at h
  exact h (show 0 ≤ (d (x0 + 576) 2) ∧ (d (x0 + 576) 2) ≤ 6 from (by omega))
def v_122 (x0 : Int) (d : mD) : Int := d (x0 + 576) 3
theorem k_122 {E : mO × tW} {K : tK} {d : mD} {x0 : Int} (hS : Safe d) (hx0 : wbB x0) (h : (-1 ≤ (v_122 x0 d) ∧ (v_122 x0 d) ≤ 1000) → K (.inl (some (0, (v_122 x0 d)))) d) : tCall E 122 [.inr (10, x0)] d K := by
  refine t_122_0 ?_
  have w0 : x0 = 0 := hx0
  have w2 := r_6_f2 hS (wbB.nw hx0)
  have w3 := r_3_f0 hS (stB.of (wbB.nw hx0))
  have w4 := r_4_f0 hS (stB.pe (wbB.nw hx0))
  have w5 := r_8_f0 hS (stB.ti (wbB.nw hx0))
  have w6 := r_9_f0 hS (stB.to (wbB.nw hx0))
  have w7 := r_7_f1 hS (wbB.tx hx0)
  have q1 := r_2_f3 hS (wbB.ld hx0)
  have y0 : v_122 x0 d = d (x0 + 576) 3 := by simp only [v_122]
  rw [y0] at h
  exact h (show -1 ≤ (d (x0 + 576) 3) ∧ (d (x0 + 576) 3) ≤ 1000 from (by omega))
theorem k_123 {E : mO × tW} {K : tK} {d : mD} {x0 x1 : Int} (hS : Safe d) (hx0 : wbB x0) (p1 : -2147483648 ≤ x1 ∧ x1 ≤ 2147483647) (h0 : (x1 = 0) → (¬ v_48 (x0 + 1 + 10) (v_93 (x0 + 578) 0 (d (x0 + 578) 1) d) (mset d (x0 + 578) 1 0) = (-1)) → (0 ≤ (v_48 (x0 + 1 + 10) (v_93 (x0 + 578) 0 (d (x0 + 578) 1) d) (mset d (x0 + 578) 1 0)) ∧ (v_48 (x0 + 1 + 10) (v_93 (x0 + 578) 0 (d (x0 + 578) 1) d) (mset d (x0 + 578) 1 0)) ≤ 59) → (∀ b : Int, (b < x0 + 578 ∨ x0 + 578 < b) → (mset d (x0 + 578) 1 0) b = d b) → Safe (mset d (x0 + 578) 1 0) → K (.inl (some (0, v_48 (x0 + 1 + 10) (v_93 (x0 + 578) 0 (d (x0 + 578) 1) d) (mset d (x0 + 578) 1 0)))) (mset d (x0 + 578) 1 0)) (h1 : (x1 = 0) → (v_48 (x0 + 1 + 10) (v_93 (x0 + 578) 0 (d (x0 + 578) 1) d) (mset d (x0 + 578) 1 0) = (-1)) → (∀ b : Int, (b < x0 + 578 ∨ x0 + 578 < b) → (mset d (x0 + 578) 1 0) b = d b) → Safe (mset d (x0 + 578) 1 0) → K (.inr 3) (mset d (x0 + 578) 1 0)) (h2 : (¬ x1 = 0) → (¬ v_36 (x0 + 1 + 2) (v_93 (x0 + 578) 0 (d (x0 + 578) 1) d) (mset d (x0 + 578) 1 0) = (-1)) → (0 ≤ (v_36 (x0 + 1 + 2) (v_93 (x0 + 578) 0 (d (x0 + 578) 1) d) (mset d (x0 + 578) 1 0)) ∧ (v_36 (x0 + 1 + 2) (v_93 (x0 + 578) 0 (d (x0 + 578) 1) d) (mset d (x0 + 578) 1 0)) ≤ 59) → (∀ b : Int, (b < x0 + 578 ∨ x0 + 578 < b) → (mset d (x0 + 578) 1 0) b = d b) → Safe (mset d (x0 + 578) 1 0) → K (.inl (some (0, v_36 (x0 + 1 + 2) (v_93 (x0 + 578) 0 (d (x0 + 578) 1) d) (mset d (x0 + 578) 1 0)))) (mset d (x0 + 578) 1 0)) (h3 : (¬ x1 = 0) → (v_36 (x0 + 1 + 2) (v_93 (x0 + 578) 0 (d (x0 + 578) 1) d) (mset d (x0 + 578) 1 0) = (-1)) → (∀ b : Int, (b < x0 + 578 ∨ x0 + 578 < b) → (mset d (x0 + 578) 1 0) b = d b) → Safe (mset d (x0 + 578) 1 0) → K (.inr 3) (mset d (x0 + 578) 1 0)) : tCall E 123 [.inr (10, x0), .inl (0, x1)] d K := by
  refine t_123_0 ?_
  have w0 : x0 = 0 := hx0
  have w2 := r_6_f2 hS (wbB.nw hx0)
  have w3 := r_3_f0 hS (stB.of (wbB.nw hx0))
  have w4 := r_4_f0 hS (stB.pe (wbB.nw hx0))
  have w5 := r_8_f0 hS (stB.ti (wbB.nw hx0))
  have w6 := r_9_f0 hS (stB.to (wbB.nw hx0))
  have w7 := r_7_f1 hS (wbB.tx hx0)
  have q1 := r_7_f1 hS (wbB.tx hx0)
  refine k_93 hS (wbB.tx hx0) (by omega) (by omega) (fun e1 => ?_)
  refine t_123_15 ?_
  have hS1 : Safe (mset d (x0 + 578) 1 0) := s_7_f1 hS (wbB.tx hx0) (by omega)
  refine ⟨m_inR (by omega) (by omega), fun c0 => ?_, fun c0 => ?_⟩
  · refine k_48 hS1 (stB.pe (wbB.nw hx0)) (m_inR (by omega) (by omega)) (fun e2 => ?_)
    refine t_123_53 ?_
    refine ⟨⟨m_inR (by omega) (by omega), m_inR (by omega) (by omega)⟩, fun c1 => ?_, fun c1 => ?_⟩
    · exact h0 c0 c1 (by omega) (fun b hb => mset_ne (by omega)) hS1
    · exact h1 c0 c1 (fun b hb => mset_ne (by omega)) hS1
  · refine k_36 hS1 (stB.of (wbB.nw hx0)) (m_inR (by omega) (by omega)) (fun e3 => ?_)
    refine t_123_39 ?_
    refine t_123_53 ?_
    refine ⟨⟨m_inR (by omega) (by omega), m_inR (by omega) (by omega)⟩, fun c1 => ?_, fun c1 => ?_⟩
    · exact h2 c0 c1 (by omega) (fun b hb => mset_ne (by omega)) hS1
    · exact h3 c0 c1 (fun b hb => mset_ne (by omega)) hS1
theorem k_124 {E : mO × tW} {K : tK} {d : mD} {x0 x1 : Int} (hS : Safe d) (hx0 : wbB x0) (p1 : -2147483648 ≤ x1 ∧ x1 ≤ 2147483647) (h0 : (x1 = 0) → (0 ≤ (d (x0 + 1 + 2) 0) ∧ (d (x0 + 1 + 2) 0) ≤ 99999) → K (.inl (some (0, d (x0 + 1 + 2) 0))) d) (h1 : (¬ x1 = 0) → (x1 = 1) → (0 ≤ (d (x0 + 1 + 10) 0) ∧ (d (x0 + 1 + 10) 0) ≤ 99999) → K (.inl (some (0, d (x0 + 1 + 10) 0))) d) (h2 : (¬ x1 = 0) → (¬ x1 = 1) → (x1 = 2) → (0 ≤ (d (x0 + 1 + 49) 0) ∧ (d (x0 + 1 + 49) 0) ≤ 99999) → K (.inl (some (0, d (x0 + 1 + 49) 0))) d) (h3 : (¬ x1 = 0) → (¬ x1 = 1) → (¬ x1 = 2) → (x1 = 3) → (0 ≤ (d (x0 + 1) 2) ∧ (d (x0 + 1) 2) ≤ 99999) → K (.inl (some (0, d (x0 + 1) 2))) d) (h4 : (¬ x1 = 0) → (¬ x1 = 1) → (¬ x1 = 2) → (¬ x1 = 3) → (x1 = 4) → (0 ≤ (20 - ((d (x0 + 1) 2) % 20)) ∧ (20 - ((d (x0 + 1) 2) % 20)) ≤ 99999) → K (.inl (some (0, 20 - ((d (x0 + 1) 2) % 20)))) d) (h5 : (¬ x1 = 0) → (¬ x1 = 1) → (¬ x1 = 2) → (¬ x1 = 3) → (¬ x1 = 4) → (x1 = 5) → (0 ≤ (v_101 (x0 + 1 + 49) 0 d) ∧ (v_101 (x0 + 1 + 49) 0 d) ≤ 99999) → K (.inl (some (0, v_101 (x0 + 1 + 49) 0 d))) d) (h6 : (¬ x1 = 0) → (¬ x1 = 1) → (¬ x1 = 2) → (¬ x1 = 3) → (¬ x1 = 4) → (¬ x1 = 5) → (x1 = 6) → (0 ≤ (v_102 (x0 + 1 + 49) 1 d) ∧ (v_102 (x0 + 1 + 49) 1 d) ≤ 99999) → K (.inl (some (0, v_102 (x0 + 1 + 49) 1 d))) d) (h7 : (¬ x1 = 0) → (¬ x1 = 1) → (¬ x1 = 2) → (¬ x1 = 3) → (¬ x1 = 4) → (¬ x1 = 5) → (¬ x1 = 6) → (x1 = 7) → (0 ≤ (v_102 (x0 + 1 + 49) 2 d) ∧ (v_102 (x0 + 1 + 49) 2 d) ≤ 99999) → K (.inl (some (0, v_102 (x0 + 1 + 49) 2 d))) d) (h8 : (¬ x1 = 0) → (¬ x1 = 1) → (¬ x1 = 2) → (¬ x1 = 3) → (¬ x1 = 4) → (¬ x1 = 5) → (¬ x1 = 6) → (¬ x1 = 7) → (x1 = 8) → (0 ≤ (d (x0 + 1 + 57) 0) ∧ (d (x0 + 1 + 57) 0) ≤ 99999) → K (.inl (some (0, d (x0 + 1 + 57) 0))) d) (h9 : (¬ x1 = 0) → (¬ x1 = 1) → (¬ x1 = 2) → (¬ x1 = 3) → (¬ x1 = 4) → (¬ x1 = 5) → (¬ x1 = 6) → (¬ x1 = 7) → (¬ x1 = 8) → (x1 = 9) → (0 ≤ (v_110 (x0 + 1 + 57) 1 d) ∧ (v_110 (x0 + 1 + 57) 1 d) ≤ 99999) → K (.inl (some (0, v_110 (x0 + 1 + 57) 1 d))) d) (h10 : (¬ x1 = 0) → (¬ x1 = 1) → (¬ x1 = 2) → (¬ x1 = 3) → (¬ x1 = 4) → (¬ x1 = 5) → (¬ x1 = 6) → (¬ x1 = 7) → (¬ x1 = 8) → (¬ x1 = 9) → (x1 = 10) → (0 ≤ (v_110 (x0 + 1 + 57) 2 d) ∧ (v_110 (x0 + 1 + 57) 2 d) ≤ 99999) → K (.inl (some (0, v_110 (x0 + 1 + 57) 2 d))) d) (h11 : (¬ x1 = 0) → (¬ x1 = 1) → (¬ x1 = 2) → (¬ x1 = 3) → (¬ x1 = 4) → (¬ x1 = 5) → (¬ x1 = 6) → (¬ x1 = 7) → (¬ x1 = 8) → (¬ x1 = 9) → (¬ x1 = 10) → (x1 = 11) → (0 ≤ (d (x0 + 1) 1) ∧ (d (x0 + 1) 1) ≤ 99999) → K (.inl (some (0, d (x0 + 1) 1))) d) (h12 : (¬ x1 = 0) → (¬ x1 = 1) → (¬ x1 = 2) → (¬ x1 = 3) → (¬ x1 = 4) → (¬ x1 = 5) → (¬ x1 = 6) → (¬ x1 = 7) → (¬ x1 = 8) → (¬ x1 = 9) → (¬ x1 = 10) → (¬ x1 = 11) → (x1 = 12) → (0 ≤ (d (x0 + 64) 2) ∧ (d (x0 + 64) 2) ≤ 99999) → K (.inl (some (0, d (x0 + 64) 2))) d) (h13 : (¬ x1 = 0) → (¬ x1 = 1) → (¬ x1 = 2) → (¬ x1 = 3) → (¬ x1 = 4) → (¬ x1 = 5) → (¬ x1 = 6) → (¬ x1 = 7) → (¬ x1 = 8) → (¬ x1 = 9) → (¬ x1 = 10) → (¬ x1 = 11) → (¬ x1 = 12) → K (.inr 2) d) : tCall E 124 [.inr (10, x0), .inl (0, x1)] d K := by
  refine t_124_0 ?_
  have w0 : x0 = 0 := hx0
  have w2 := r_6_f2 hS (wbB.nw hx0)
  have w3 := r_3_f0 hS (stB.of (wbB.nw hx0))
  have w4 := r_4_f0 hS (stB.pe (wbB.nw hx0))
  have w5 := r_8_f0 hS (stB.ti (wbB.nw hx0))
  have w6 := r_9_f0 hS (stB.to (wbB.nw hx0))
  have w7 := r_7_f1 hS (wbB.tx hx0)
  refine ⟨m_inR (by omega) (by omega), fun c0 => ?_, fun c0 => ?_, fun c0 => ?_, fun c0 => ?_, fun c0 => ?_, fun c0 => ?_, fun c0 => ?_, fun c0 => ?_, fun c0 => ?_, fun c0 => ?_, fun c0 => ?_, fun c0 => ?_, fun c0 => ?_, fun c0 => ?_⟩
  · have q1 := r_3_f0 hS (stB.of (wbB.nw hx0))
    exact h0 c0 (by omega)
  · have q2 := r_4_f0 hS (stB.pe (wbB.nw hx0))
    exact h1 (show ¬ x1 = 0 by omega) c0 (by omega)
  · have q3 := r_8_f0 hS (stB.ti (wbB.nw hx0))
    exact h2 (show ¬ x1 = 0 by omega) (show ¬ x1 = 1 by omega) c0 (by omega)
  · have q4 := r_6_f2 hS (wbB.nw hx0)
    exact h3 (show ¬ x1 = 0 by omega) (show ¬ x1 = 1 by omega) (show ¬ x1 = 2 by omega) c0 (by omega)
  · have q5 := r_6_f2 hS (wbB.nw hx0)
    refine ⟨by omega, ?_⟩
    exact h4 (show ¬ x1 = 0 by omega) (show ¬ x1 = 1 by omega) (show ¬ x1 = 2 by omega) (show ¬ x1 = 3 by omega) c0 (by omega)
  · refine k_101 hS (stB.ti (wbB.nw hx0)) (m_inR (by omega) (by omega)) (fun e1 => ?_)
    refine t_124_134 ?_
    exact h5 (show ¬ x1 = 0 by omega) (show ¬ x1 = 1 by omega) (show ¬ x1 = 2 by omega) (show ¬ x1 = 3 by omega) (show ¬ x1 = 4 by omega) c0 (by omega)
  · refine k_102 hS (stB.ti (wbB.nw hx0)) (m_inR (by omega) (by omega)) (fun e2 => ?_)
    refine t_124_146 ?_
    exact h6 (show ¬ x1 = 0 by omega) (show ¬ x1 = 1 by omega) (show ¬ x1 = 2 by omega) (show ¬ x1 = 3 by omega) (show ¬ x1 = 4 by omega) (show ¬ x1 = 5 by omega) c0 (by omega)
  · refine k_102 hS (stB.ti (wbB.nw hx0)) (m_inR (by omega) (by omega)) (fun e3 => ?_)
    refine t_124_158 ?_
    exact h7 (show ¬ x1 = 0 by omega) (show ¬ x1 = 1 by omega) (show ¬ x1 = 2 by omega) (show ¬ x1 = 3 by omega) (show ¬ x1 = 4 by omega) (show ¬ x1 = 5 by omega) (show ¬ x1 = 6 by omega) c0 (by omega)
  · have q6 := r_9_f0 hS (stB.to (wbB.nw hx0))
    exact h8 (show ¬ x1 = 0 by omega) (show ¬ x1 = 1 by omega) (show ¬ x1 = 2 by omega) (show ¬ x1 = 3 by omega) (show ¬ x1 = 4 by omega) (show ¬ x1 = 5 by omega) (show ¬ x1 = 6 by omega) (show ¬ x1 = 7 by omega) c0 (by omega)
  · refine k_110 hS (stB.to (wbB.nw hx0)) (m_inR (by omega) (by omega)) (fun e4 => ?_)
    refine t_124_181 ?_
    exact h9 (show ¬ x1 = 0 by omega) (show ¬ x1 = 1 by omega) (show ¬ x1 = 2 by omega) (show ¬ x1 = 3 by omega) (show ¬ x1 = 4 by omega) (show ¬ x1 = 5 by omega) (show ¬ x1 = 6 by omega) (show ¬ x1 = 7 by omega) (show ¬ x1 = 8 by omega) c0 (by omega)
  · refine k_110 hS (stB.to (wbB.nw hx0)) (m_inR (by omega) (by omega)) (fun e5 => ?_)
    refine t_124_193 ?_
    exact h10 (show ¬ x1 = 0 by omega) (show ¬ x1 = 1 by omega) (show ¬ x1 = 2 by omega) (show ¬ x1 = 3 by omega) (show ¬ x1 = 4 by omega) (show ¬ x1 = 5 by omega) (show ¬ x1 = 6 by omega) (show ¬ x1 = 7 by omega) (show ¬ x1 = 8 by omega) (show ¬ x1 = 9 by omega) c0 (by omega)
  · have q7 := r_6_f1 hS (wbB.nw hx0)
    exact h11 (show ¬ x1 = 0 by omega) (show ¬ x1 = 1 by omega) (show ¬ x1 = 2 by omega) (show ¬ x1 = 3 by omega) (show ¬ x1 = 4 by omega) (show ¬ x1 = 5 by omega) (show ¬ x1 = 6 by omega) (show ¬ x1 = 7 by omega) (show ¬ x1 = 8 by omega) (show ¬ x1 = 9 by omega) (show ¬ x1 = 10 by omega) c0 (by omega)
  · have q8 := r_0_f2 hS (wbB.hi hx0)
    exact h12 (show ¬ x1 = 0 by omega) (show ¬ x1 = 1 by omega) (show ¬ x1 = 2 by omega) (show ¬ x1 = 3 by omega) (show ¬ x1 = 4 by omega) (show ¬ x1 = 5 by omega) (show ¬ x1 = 6 by omega) (show ¬ x1 = 7 by omega) (show ¬ x1 = 8 by omega) (show ¬ x1 = 9 by omega) (show ¬ x1 = 10 by omega) (show ¬ x1 = 11 by omega) c0 (by omega)
  · exact h13 (show ¬ x1 = 0 by omega) (show ¬ x1 = 1 by omega) (show ¬ x1 = 2 by omega) (show ¬ x1 = 3 by omega) (show ¬ x1 = 4 by omega) (show ¬ x1 = 5 by omega) (show ¬ x1 = 6 by omega) (show ¬ x1 = 7 by omega) (show ¬ x1 = 8 by omega) (show ¬ x1 = 9 by omega) (show ¬ x1 = 10 by omega) (show ¬ x1 = 11 by omega) (show ¬ x1 = 12 by omega)
theorem k_125 {E : mO × tW} {K : tK} {d : mD} {x0 x1 : Int} (hS : Safe d) (hx0 : wbB x0) (p1 : -2147483648 ≤ x1 ∧ x1 ≤ 2147483647) (h0 : (x1 < 0) → K (.inr 2) d) (h1 : (0 ≤ x1) → (x1 < 5) → (0 ≤ (d (x0 + 1 + 1) x1) ∧ (d (x0 + 1 + 1) x1) ≤ 99) → K (.inl (some (0, d (x0 + 1 + 1) x1))) d) (h2 : (0 ≤ x1) → (5 ≤ x1) → K (.inr 2) d) : tCall E 125 [.inr (10, x0), .inl (0, x1)] d K := by
  refine t_125_0 ?_
  have w0 : x0 = 0 := hx0
  have w2 := r_6_f2 hS (wbB.nw hx0)
  have w3 := r_3_f0 hS (stB.of (wbB.nw hx0))
  have w4 := r_4_f0 hS (stB.pe (wbB.nw hx0))
  have w5 := r_8_f0 hS (stB.ti (wbB.nw hx0))
  have w6 := r_9_f0 hS (stB.to (wbB.nw hx0))
  have w7 := r_7_f1 hS (wbB.tx hx0)
  refine k_169 hS hx0 (m_inR (by omega) (by omega)) (fun z0 => ?_) (fun z0 z1 => ?_) (fun z0 z1 => ?_)
  · exact h0 z0
  · refine t_125_5 ?_
    have q1 := r_6_1 hS (wbB.nw hx0) x1
    refine ⟨by omega, ?_⟩
    exact h1 z0 z1 (by omega)
  · exact h2 z0 z1
theorem k_126 {E : mO × tW} {K : tK} {d : mD} {x0 x1 x2 : Int} (hS : Safe d) (hx0 : wbB x0) (p1 : -2147483648 ≤ x1 ∧ x1 ≤ 2147483647) (p2 : -2147483648 ≤ x2 ∧ x2 ≤ 2147483647) (h0 : (x1 < 0) → K (.inr 1) d) (h1 : (0 ≤ x1) → (x1 < d (x0 + 1 + 2) 0) → (x2 = 0) → (0 ≤ (d (x0 + 1 + 2 + 2) x1) ∧ (d (x0 + 1 + 2 + 2) x1) ≤ 60) → K (.inl (some (0, d (x0 + 1 + 2 + 2) x1))) d) (h2 : (0 ≤ x1) → (x1 < d (x0 + 1 + 2) 0) → (¬ x2 = 0) → (x2 = 1) → (0 ≤ (d (x0 + 1 + 2 + 3) x1) ∧ (d (x0 + 1 + 2 + 3) x1) ≤ 60) → K (.inl (some (0, d (x0 + 1 + 2 + 3) x1))) d) (h3 : (0 ≤ x1) → (x1 < d (x0 + 1 + 2) 0) → (¬ x2 = 0) → (¬ x2 = 1) → (x2 = 2) → (0 ≤ (d (x0 + 1 + 2 + 4) x1) ∧ (d (x0 + 1 + 2 + 4) x1) ≤ 60) → K (.inl (some (0, d (x0 + 1 + 2 + 4) x1))) d) (h4 : (0 ≤ x1) → (x1 < d (x0 + 1 + 2) 0) → (¬ x2 = 0) → (¬ x2 = 1) → (¬ x2 = 2) → (x2 = 3) → (d (x0 + 1 + 2 + 5) x1 = 0) → (0 ≤ 0 ∧ 0 ≤ 60) → K (.inl (some (0, 0))) d) (h5 : (0 ≤ x1) → (x1 < d (x0 + 1 + 2) 0) → (¬ x2 = 0) → (¬ x2 = 1) → (¬ x2 = 2) → (x2 = 3) → (¬ d (x0 + 1 + 2 + 5) x1 = 0) → (0 ≤ 1 ∧ 1 ≤ 60) → K (.inl (some (0, 1))) d) (h6 : (0 ≤ x1) → (x1 < d (x0 + 1 + 2) 0) → (¬ x2 = 0) → (¬ x2 = 1) → (¬ x2 = 2) → (¬ x2 = 3) → (x2 = 4) → (0 ≤ (d (x0 + 1 + 2 + 6) x1) ∧ (d (x0 + 1 + 2 + 6) x1) ≤ 60) → K (.inl (some (0, d (x0 + 1 + 2 + 6) x1))) d) (h7 : (0 ≤ x1) → (x1 < d (x0 + 1 + 2) 0) → (¬ x2 = 0) → (¬ x2 = 1) → (¬ x2 = 2) → (¬ x2 = 3) → (¬ x2 = 4) → (x2 = 5) → (0 ≤ (v_103 (x0 + 1 + 49) x1 d) ∧ (v_103 (x0 + 1 + 49) x1 d) ≤ 60) → K (.inl (some (0, v_103 (x0 + 1 + 49) x1 d))) d) (h8 : (0 ≤ x1) → (x1 < d (x0 + 1 + 2) 0) → (¬ x2 = 0) → (¬ x2 = 1) → (¬ x2 = 2) → (¬ x2 = 3) → (¬ x2 = 4) → (¬ x2 = 5) → K (.inr 2) d) (h9 : (0 ≤ x1) → (d (x0 + 1 + 2) 0 ≤ x1) → K (.inr 1) d) : tCall E 126 [.inr (10, x0), .inl (0, x1), .inl (0, x2)] d K := by
  refine t_126_0 ?_
  have w0 : x0 = 0 := hx0
  have w2 := r_6_f2 hS (wbB.nw hx0)
  have w3 := r_3_f0 hS (stB.of (wbB.nw hx0))
  have w4 := r_4_f0 hS (stB.pe (wbB.nw hx0))
  have w5 := r_8_f0 hS (stB.ti (wbB.nw hx0))
  have w6 := r_9_f0 hS (stB.to (wbB.nw hx0))
  have w7 := r_7_f1 hS (wbB.tx hx0)
  refine k_165 hS hx0 (m_inR (by omega) (by omega)) (fun z0 => ?_) (fun z0 z1 => ?_) (fun z0 z1 => ?_)
  · exact h0 z0
  · refine t_126_5 ?_
    refine ⟨m_inR (by omega) (by omega), fun c2 => ?_, fun c2 => ?_, fun c2 => ?_, fun c2 => ?_, fun c2 => ?_, fun c2 => ?_, fun c2 => ?_⟩
    · have q1 := r_3_2 hS (stB.of (wbB.nw hx0)) x1
      refine ⟨by omega, ?_⟩
      exact h1 z0 z1 c2 (by omega)
    · have q2 := r_3_3 hS (stB.of (wbB.nw hx0)) x1
      refine ⟨by omega, ?_⟩
      exact h2 z0 z1 (show ¬ x2 = 0 by omega) c2 (by omega)
    · have q3 := r_3_4 hS (stB.of (wbB.nw hx0)) x1
      refine ⟨by omega, ?_⟩
      exact h3 z0 z1 (show ¬ x2 = 0 by omega) (show ¬ x2 = 1 by omega) c2 (by omega)
    · have q4 := r_3_5 hS (stB.of (wbB.nw hx0)) x1
      refine ⟨by omega, m_inR (by omega) (by omega), fun c6 => ?_, fun c6 => ?_⟩
      · exact h4 z0 z1 (show ¬ x2 = 0 by omega) (show ¬ x2 = 1 by omega) (show ¬ x2 = 2 by omega) c2 c6 (by omega)
      · exact h5 z0 z1 (show ¬ x2 = 0 by omega) (show ¬ x2 = 1 by omega) (show ¬ x2 = 2 by omega) c2 c6 (by omega)
    · have q5 := r_3_6 hS (stB.of (wbB.nw hx0)) x1
      refine ⟨by omega, ?_⟩
      exact h6 z0 z1 (show ¬ x2 = 0 by omega) (show ¬ x2 = 1 by omega) (show ¬ x2 = 2 by omega) (show ¬ x2 = 3 by omega) c2 (by omega)
    · refine k_103 hS (stB.ti (wbB.nw hx0)) (m_inR (by omega) (by omega)) (fun e1 => ?_)
      refine t_126_128 ?_
      exact h7 z0 z1 (show ¬ x2 = 0 by omega) (show ¬ x2 = 1 by omega) (show ¬ x2 = 2 by omega) (show ¬ x2 = 3 by omega) (show ¬ x2 = 4 by omega) c2 (by omega)
    · exact h8 z0 z1 (show ¬ x2 = 0 by omega) (show ¬ x2 = 1 by omega) (show ¬ x2 = 2 by omega) (show ¬ x2 = 3 by omega) (show ¬ x2 = 4 by omega) (show ¬ x2 = 5 by omega)
  · exact h9 z0 z1
theorem k_127 {E : mO × tW} {K : tK} {d : mD} {x0 x1 x2 : Int} (hS : Safe d) (hx0 : wbB x0) (p1 : -2147483648 ≤ x1 ∧ x1 ≤ 2147483647) (p2 : -2147483648 ≤ x2 ∧ x2 ≤ 2147483647) (h0 : (x1 < 0) → K (.inr 1) d) (h1 : (0 ≤ x1) → (x1 < d (x0 + 1 + 2) 0) → (x2 < 0) → K (.inr 1) d) (h2 : (0 ≤ x1) → (x1 < d (x0 + 1 + 2) 0) → (0 ≤ x2) → (x2 < d (x0 + 1 + 2 + 6) x1) → (0 ≤ (v_38 (x0 + 1 + 2) x1 x2 d) ∧ (v_38 (x0 + 1 + 2) x1 x2 d) ≤ 59) → K (.inl (some (0, v_38 (x0 + 1 + 2) x1 x2 d))) d) (h3 : (0 ≤ x1) → (x1 < d (x0 + 1 + 2) 0) → (0 ≤ x2) → (d (x0 + 1 + 2 + 6) x1 ≤ x2) → K (.inr 1) d) (h4 : (0 ≤ x1) → (d (x0 + 1 + 2) 0 ≤ x1) → K (.inr 1) d) : tCall E 127 [.inr (10, x0), .inl (0, x1), .inl (0, x2)] d K := by
  refine t_127_0 ?_
  have w0 : x0 = 0 := hx0
  have w2 := r_6_f2 hS (wbB.nw hx0)
  have w3 := r_3_f0 hS (stB.of (wbB.nw hx0))
  have w4 := r_4_f0 hS (stB.pe (wbB.nw hx0))
  have w5 := r_8_f0 hS (stB.ti (wbB.nw hx0))
  have w6 := r_9_f0 hS (stB.to (wbB.nw hx0))
  have w7 := r_7_f1 hS (wbB.tx hx0)
  refine k_165 hS hx0 (m_inR (by omega) (by omega)) (fun z0 => ?_) (fun z0 z1 => ?_) (fun z0 z1 => ?_)
  · exact h0 z0
  · refine t_127_5 ?_
    refine ⟨m_inR (by omega) (by omega), fun c2 => ?_, fun c2 => ?_⟩
    · exact h1 z0 z1 c2
    · have q1 := r_3_6 hS (stB.of (wbB.nw hx0)) x1
      refine ⟨by omega, ⟨m_inR (by omega) (by omega), m_inR (by omega) (by omega)⟩, fun c3 => ?_, fun c3 => ?_⟩
      · refine k_38 hS (stB.of (wbB.nw hx0)) (by omega) (by omega) (fun e1 => ?_)
        refine t_127_47 ?_
        exact h2 z0 z1 c2 c3 (by omega)
      · exact h3 z0 z1 c2 c3
  · exact h4 z0 z1
theorem k_128 {E : mO × tW} {K : tK} {d : mD} {x0 x1 x2 : Int} (hS : Safe d) (hx0 : wbB x0) (p1 : -2147483648 ≤ x1 ∧ x1 ≤ 2147483647) (p2 : -2147483648 ≤ x2 ∧ x2 ≤ 2147483647) (hpu : puR x0 x1 d) (h0 : (x1 < 0) → K (.inr 1) d) (h1 : (0 ≤ x1) → (x1 < d (x0 + 1 + 10) 0) → (x2 = 0) → (-2147483648 ≤ (d (x0 + 1 + 10 + 2) x1) ∧ (d (x0 + 1 + 10 + 2) x1) ≤ 2147483647) → K (.inl (some (0, d (x0 + 1 + 10 + 2) x1))) d) (h2 : (0 ≤ x1) → (x1 < d (x0 + 1 + 10) 0) → (¬ x2 = 0) → (x2 = 1) → (-2147483648 ≤ (v_104 (x0 + 1 + 49) x1 d) ∧ (v_104 (x0 + 1 + 49) x1 d) ≤ 2147483647) → K (.inl (some (0, v_104 (x0 + 1 + 49) x1 d))) d) (h3 : (0 ≤ x1) → (x1 < d (x0 + 1 + 10) 0) → (¬ x2 = 0) → (¬ x2 = 1) → (x2 = 2) → (-2147483648 ≤ (v_105 (x0 + 1 + 49) x1 d) ∧ (v_105 (x0 + 1 + 49) x1 d) ≤ 2147483647) → K (.inl (some (0, v_105 (x0 + 1 + 49) x1 d))) d) (h4 : (0 ≤ x1) → (x1 < d (x0 + 1 + 10) 0) → (¬ x2 = 0) → (¬ x2 = 1) → (¬ x2 = 2) → (x2 = 3) → (-2147483648 ≤ (v_111 (x0 + 1 + 57) x1 0 d) ∧ (v_111 (x0 + 1 + 57) x1 0 d) ≤ 2147483647) → K (.inl (some (0, v_111 (x0 + 1 + 57) x1 0 d))) d) (h5 : (0 ≤ x1) → (x1 < d (x0 + 1 + 10) 0) → (¬ x2 = 0) → (¬ x2 = 1) → (¬ x2 = 2) → (¬ x2 = 3) → (x2 = 4) → (-2147483648 ≤ (v_111 (x0 + 1 + 57) x1 1 d) ∧ (v_111 (x0 + 1 + 57) x1 1 d) ≤ 2147483647) → K (.inl (some (0, v_111 (x0 + 1 + 57) x1 1 d))) d) (h6 : (0 ≤ x1) → (x1 < d (x0 + 1 + 10) 0) → (¬ x2 = 0) → (¬ x2 = 1) → (¬ x2 = 2) → (¬ x2 = 3) → (¬ x2 = 4) → (x2 = 5) → (-2147483648 ≤ (v_111 (x0 + 1 + 57) x1 2 d) ∧ (v_111 (x0 + 1 + 57) x1 2 d) ≤ 2147483647) → K (.inl (some (0, v_111 (x0 + 1 + 57) x1 2 d))) d) (h7 : (0 ≤ x1) → (x1 < d (x0 + 1 + 10) 0) → (¬ x2 = 0) → (¬ x2 = 1) → (¬ x2 = 2) → (¬ x2 = 3) → (¬ x2 = 4) → (¬ x2 = 5) → (x2 = 6) → (-2147483648 ≤ (v_83 (x0 + 1) x1 d) ∧ (v_83 (x0 + 1) x1 d) ≤ 2147483647) → K (.inl (some (0, v_83 (x0 + 1) x1 d))) d) (h8 : (0 ≤ x1) → (x1 < d (x0 + 1 + 10) 0) → (¬ x2 = 0) → (¬ x2 = 1) → (¬ x2 = 2) → (¬ x2 = 3) → (¬ x2 = 4) → (¬ x2 = 5) → (¬ x2 = 6) → (x2 = 7) → (-2147483648 ≤ (d (x0 + 1 + 10 + 3) x1) ∧ (d (x0 + 1 + 10 + 3) x1) ≤ 2147483647) → K (.inl (some (0, d (x0 + 1 + 10 + 3) x1))) d) (h9 : (0 ≤ x1) → (x1 < d (x0 + 1 + 10) 0) → (¬ x2 = 0) → (¬ x2 = 1) → (¬ x2 = 2) → (¬ x2 = 3) → (¬ x2 = 4) → (¬ x2 = 5) → (¬ x2 = 6) → (¬ x2 = 7) → (x2 = 8) → (-2147483648 ≤ (d (x0 + 1 + 10 + 4) x1) ∧ (d (x0 + 1 + 10 + 4) x1) ≤ 2147483647) → K (.inl (some (0, d (x0 + 1 + 10 + 4) x1))) d) (h10 : (0 ≤ x1) → (x1 < d (x0 + 1 + 10) 0) → (¬ x2 = 0) → (¬ x2 = 1) → (¬ x2 = 2) → (¬ x2 = 3) → (¬ x2 = 4) → (¬ x2 = 5) → (¬ x2 = 6) → (¬ x2 = 7) → (¬ x2 = 8) → (x2 = 9) → (-2147483648 ≤ (v_10 (x0 + 574) (x0 + 1 + 10 + 6 + (1 + 2 * x1)) (g_72 (x0 + 1) x1 (x0 + 574) d)) ∧ (v_10 (x0 + 574) (x0 + 1 + 10 + 6 + (1 + 2 * x1)) (g_72 (x0 + 1) x1 (x0 + 574) d)) ≤ 2147483647) → (∀ b : Int, (b < x0 + 575 ∨ x0 + 575 < b) → (g_72 (x0 + 1) x1 (x0 + 574) d) b = d b) → Safe (g_72 (x0 + 1) x1 (x0 + 574) d) → K (.inl (some (0, v_10 (x0 + 574) (x0 + 1 + 10 + 6 + (1 + 2 * x1)) (g_72 (x0 + 1) x1 (x0 + 574) d)))) (g_72 (x0 + 1) x1 (x0 + 574) d)) (h11 : (0 ≤ x1) → (x1 < d (x0 + 1 + 10) 0) → (¬ x2 = 0) → (¬ x2 = 1) → (¬ x2 = 2) → (¬ x2 = 3) → (¬ x2 = 4) → (¬ x2 = 5) → (¬ x2 = 6) → (¬ x2 = 7) → (¬ x2 = 8) → (¬ x2 = 9) → K (.inr 2) d) (h12 : (0 ≤ x1) → (d (x0 + 1 + 10) 0 ≤ x1) → K (.inr 1) d) : tCall E 128 [.inr (10, x0), .inl (0, x1), .inl (0, x2)] d K := by
  refine t_128_0 ?_
  have w0 : x0 = 0 := hx0
  have w2 := r_6_f2 hS (wbB.nw hx0)
  have w3 := r_3_f0 hS (stB.of (wbB.nw hx0))
  have w4 := r_4_f0 hS (stB.pe (wbB.nw hx0))
  have w5 := r_8_f0 hS (stB.ti (wbB.nw hx0))
  have w6 := r_9_f0 hS (stB.to (wbB.nw hx0))
  have w7 := r_7_f1 hS (wbB.tx hx0)
  refine k_166 hS hx0 (m_inR (by omega) (by omega)) (fun z0 => ?_) (fun z0 z1 => ?_) (fun z0 z1 => ?_)
  · exact h0 z0
  · refine t_128_5 ?_
    refine ⟨m_inR (by omega) (by omega), fun c2 => ?_, fun c2 => ?_, fun c2 => ?_, fun c2 => ?_, fun c2 => ?_, fun c2 => ?_, fun c2 => ?_, fun c2 => ?_, fun c2 => ?_, fun c2 => ?_, fun c2 => ?_⟩
    · refine ⟨by omega, ?_⟩
      exact h1 z0 z1 c2 (by first | exact puR.use hpu z0 z1 | exact ⟨by omega, by omega⟩)
    · refine k_104 hS (stB.ti (wbB.nw hx0)) (m_inR (by omega) (by omega)) (fun e1 => ?_)
      refine t_128_84 ?_
      exact h2 z0 z1 (show ¬ x2 = 0 by omega) c2 (by first | exact puR.use hpu z0 z1 | exact ⟨by omega, by omega⟩)
    · refine k_105 hS (stB.ti (wbB.nw hx0)) (m_inR (by omega) (by omega)) (fun e2 => ?_)
      refine t_128_96 ?_
      exact h3 z0 z1 (show ¬ x2 = 0 by omega) (show ¬ x2 = 1 by omega) c2 (by first | exact puR.use hpu z0 z1 | exact ⟨by omega, by omega⟩)
    · refine k_111 hS (stB.to (wbB.nw hx0)) (m_inR (by omega) (by omega)) (m_inR (by omega) (by omega)) (fun e3 => ?_)
      refine t_128_109 ?_
      exact h4 z0 z1 (show ¬ x2 = 0 by omega) (show ¬ x2 = 1 by omega) (show ¬ x2 = 2 by omega) c2 (by first | exact puR.use hpu z0 z1 | exact ⟨by omega, by omega⟩)
    · refine k_111 hS (stB.to (wbB.nw hx0)) (m_inR (by omega) (by omega)) (m_inR (by omega) (by omega)) (fun e4 => ?_)
      refine t_128_122 ?_
      exact h5 z0 z1 (show ¬ x2 = 0 by omega) (show ¬ x2 = 1 by omega) (show ¬ x2 = 2 by omega) (show ¬ x2 = 3 by omega) c2 (by first | exact puR.use hpu z0 z1 | exact ⟨by omega, by omega⟩)
    · refine k_111 hS (stB.to (wbB.nw hx0)) (m_inR (by omega) (by omega)) (m_inR (by omega) (by omega)) (fun e5 => ?_)
      refine t_128_135 ?_
      exact h6 z0 z1 (show ¬ x2 = 0 by omega) (show ¬ x2 = 1 by omega) (show ¬ x2 = 2 by omega) (show ¬ x2 = 3 by omega) (show ¬ x2 = 4 by omega) c2 (by first | exact puR.use hpu z0 z1 | exact ⟨by omega, by omega⟩)
    · refine k_83 hS (wbB.nw hx0) (m_inR (by omega) (by omega)) (fun e6 => ?_)
      refine t_128_144 ?_
      exact h7 z0 z1 (show ¬ x2 = 0 by omega) (show ¬ x2 = 1 by omega) (show ¬ x2 = 2 by omega) (show ¬ x2 = 3 by omega) (show ¬ x2 = 4 by omega) (show ¬ x2 = 5 by omega) c2 (by first | exact puR.use hpu z0 z1 | exact ⟨by omega, by omega⟩)
    · have q1 := r_4_3 hS (stB.pe (wbB.nw hx0)) x1
      refine ⟨by omega, ?_⟩
      exact h8 z0 z1 (show ¬ x2 = 0 by omega) (show ¬ x2 = 1 by omega) (show ¬ x2 = 2 by omega) (show ¬ x2 = 3 by omega) (show ¬ x2 = 4 by omega) (show ¬ x2 = 5 by omega) (show ¬ x2 = 6 by omega) c2 (by first | exact puR.use hpu z0 z1 | exact ⟨by omega, by omega⟩)
    · have q2 := r_4_4 hS (stB.pe (wbB.nw hx0)) x1
      refine ⟨by omega, ?_⟩
      exact h9 z0 z1 (show ¬ x2 = 0 by omega) (show ¬ x2 = 1 by omega) (show ¬ x2 = 2 by omega) (show ¬ x2 = 3 by omega) (show ¬ x2 = 4 by omega) (show ¬ x2 = 5 by omega) (show ¬ x2 = 6 by omega) (show ¬ x2 = 7 by omega) c2 (by first | exact puR.use hpu z0 z1 | exact ⟨by omega, by omega⟩)
    · refine k_72 hS (wbB.nw hx0) (wbB.lo hx0) (m_inR (by omega) (by omega)) (fun F1 hS1 => ?_)
      refine t_128_183 ?_
      refine ⟨by omega, ?_⟩
      have hp2 : hsB (x0 + 1 + 10 + 6 + (1 + 2 * x1)) := peB.hs (stB.pe (wbB.nw hx0)) (by omega) (by omega)
      refine k_10 hS1 (wbB.lo hx0) hp2 (fun e7 => ?_)
      refine t_128_202 ?_
      exact h10 z0 z1 (show ¬ x2 = 0 by omega) (show ¬ x2 = 1 by omega) (show ¬ x2 = 2 by omega) (show ¬ x2 = 3 by omega) (show ¬ x2 = 4 by omega) (show ¬ x2 = 5 by omega) (show ¬ x2 = 6 by omega) (show ¬ x2 = 7 by omega) (show ¬ x2 = 8 by omega) c2 (by first | exact puR.use hpu z0 z1 | exact ⟨by omega, by omega⟩) (fun b hb => F1 b (by omega)) hS1
    · exact h11 z0 z1 (show ¬ x2 = 0 by omega) (show ¬ x2 = 1 by omega) (show ¬ x2 = 2 by omega) (show ¬ x2 = 3 by omega) (show ¬ x2 = 4 by omega) (show ¬ x2 = 5 by omega) (show ¬ x2 = 6 by omega) (show ¬ x2 = 7 by omega) (show ¬ x2 = 8 by omega) (show ¬ x2 = 9 by omega)
  · exact h12 z0 z1
theorem k_129 {E : mO × tW} {K : tK} {d : mD} {x0 x1 x2 : Int} (hS : Safe d) (hx0 : wbB x0) (p1 : -2147483648 ≤ x1 ∧ x1 ≤ 2147483647) (p2 : -2147483648 ≤ x2 ∧ x2 ≤ 2147483647) (h0 : (x1 < 0) → K (.inr 1) d) (h1 : (0 ≤ x1) → (x1 < d (x0 + 1 + 49) 0) → (x2 = 0) → (-1 ≤ (d (x0 + 1 + 49 + 1) x1) ∧ (d (x0 + 1 + 49 + 1) x1) ≤ 1199) → K (.inl (some (0, d (x0 + 1 + 49 + 1) x1))) d) (h2 : (0 ≤ x1) → (x1 < d (x0 + 1 + 49) 0) → (¬ x2 = 0) → (x2 = 1) → (-1 ≤ (d (x0 + 1 + 49 + 2) x1) ∧ (d (x0 + 1 + 49 + 2) x1) ≤ 1199) → K (.inl (some (0, d (x0 + 1 + 49 + 2) x1))) d) (h3 : (0 ≤ x1) → (x1 < d (x0 + 1 + 49) 0) → (¬ x2 = 0) → (¬ x2 = 1) → (x2 = 2) → (-1 ≤ (d (x0 + 1 + 49 + 3) x1) ∧ (d (x0 + 1 + 49 + 3) x1) ≤ 1199) → K (.inl (some (0, d (x0 + 1 + 49 + 3) x1))) d) (h4 : (0 ≤ x1) → (x1 < d (x0 + 1 + 49) 0) → (¬ x2 = 0) → (¬ x2 = 1) → (¬ x2 = 2) → (x2 = 3) → (-1 ≤ (d (x0 + 1 + 49 + 4) x1) ∧ (d (x0 + 1 + 49 + 4) x1) ≤ 1199) → K (.inl (some (0, d (x0 + 1 + 49 + 4) x1))) d) (h5 : (0 ≤ x1) → (x1 < d (x0 + 1 + 49) 0) → (¬ x2 = 0) → (¬ x2 = 1) → (¬ x2 = 2) → (¬ x2 = 3) → (x2 = 4) → (-1 ≤ (d (x0 + 1 + 49 + 5) x1) ∧ (d (x0 + 1 + 49 + 5) x1) ≤ 1199) → K (.inl (some (0, d (x0 + 1 + 49 + 5) x1))) d) (h6 : (0 ≤ x1) → (x1 < d (x0 + 1 + 49) 0) → (¬ x2 = 0) → (¬ x2 = 1) → (¬ x2 = 2) → (¬ x2 = 3) → (¬ x2 = 4) → (x2 = 5) → (¬ d (x0 + 1 + 49 + 6) x1 = 0) → (-1 ≤ 1 ∧ 1 ≤ 1199) → K (.inl (some (0, 1))) d) (h7 : (0 ≤ x1) → (x1 < d (x0 + 1 + 49) 0) → (¬ x2 = 0) → (¬ x2 = 1) → (¬ x2 = 2) → (¬ x2 = 3) → (¬ x2 = 4) → (x2 = 5) → (d (x0 + 1 + 49 + 6) x1 = 0) → (-1 ≤ 0 ∧ 0 ≤ 1199) → K (.inl (some (0, 0))) d) (h8 : (0 ≤ x1) → (x1 < d (x0 + 1 + 49) 0) → (¬ x2 = 0) → (¬ x2 = 1) → (¬ x2 = 2) → (¬ x2 = 3) → (¬ x2 = 4) → (¬ x2 = 5) → (x2 = 6) → (¬ d (x0 + 1 + 49 + 6) x1 = 2) → (-1 ≤ 0 ∧ 0 ≤ 1199) → K (.inl (some (0, 0))) d) (h9 : (0 ≤ x1) → (x1 < d (x0 + 1 + 49) 0) → (¬ x2 = 0) → (¬ x2 = 1) → (¬ x2 = 2) → (¬ x2 = 3) → (¬ x2 = 4) → (¬ x2 = 5) → (x2 = 6) → (d (x0 + 1 + 49 + 6) x1 = 2) → (-1 ≤ 1 ∧ 1 ≤ 1199) → K (.inl (some (0, 1))) d) (h10 : (0 ≤ x1) → (x1 < d (x0 + 1 + 49) 0) → (¬ x2 = 0) → (¬ x2 = 1) → (¬ x2 = 2) → (¬ x2 = 3) → (¬ x2 = 4) → (¬ x2 = 5) → (¬ x2 = 6) → (x2 = 7) → (-1 ≤ (v_298 (d (x0 + 1 + 49 + 7) x1) d) ∧ (v_298 (d (x0 + 1 + 49 + 7) x1) d) ≤ 1199) → K (.inl (some (0, v_298 (d (x0 + 1 + 49 + 7) x1) d))) d) (h11 : (0 ≤ x1) → (x1 < d (x0 + 1 + 49) 0) → (¬ x2 = 0) → (¬ x2 = 1) → (¬ x2 = 2) → (¬ x2 = 3) → (¬ x2 = 4) → (¬ x2 = 5) → (¬ x2 = 6) → (¬ x2 = 7) → (x2 = 8) → (-1 ≤ (v_71 (x0 + 1) x1 d) ∧ (v_71 (x0 + 1) x1 d) ≤ 1199) → K (.inl (some (0, v_71 (x0 + 1) x1 d))) d) (h12 : (0 ≤ x1) → (x1 < d (x0 + 1 + 49) 0) → (¬ x2 = 0) → (¬ x2 = 1) → (¬ x2 = 2) → (¬ x2 = 3) → (¬ x2 = 4) → (¬ x2 = 5) → (¬ x2 = 6) → (¬ x2 = 7) → (¬ x2 = 8) → (x2 = 9) → (-1 ≤ (v_112 (x0 + 1 + 57) x1 d) ∧ (v_112 (x0 + 1 + 57) x1 d) ≤ 1199) → K (.inl (some (0, v_112 (x0 + 1 + 57) x1 d))) d) (h13 : (0 ≤ x1) → (x1 < d (x0 + 1 + 49) 0) → (¬ x2 = 0) → (¬ x2 = 1) → (¬ x2 = 2) → (¬ x2 = 3) → (¬ x2 = 4) → (¬ x2 = 5) → (¬ x2 = 6) → (¬ x2 = 7) → (¬ x2 = 8) → (¬ x2 = 9) → (x2 = 10) → (-1 ≤ (v_39 (x0 + 1 + 2) (d (x0 + 1 + 49 + 2) x1) x1 d) ∧ (v_39 (x0 + 1 + 2) (d (x0 + 1 + 49 + 2) x1) x1 d) ≤ 1199) → K (.inl (some (0, v_39 (x0 + 1 + 2) (d (x0 + 1 + 49 + 2) x1) x1 d))) d) (h14 : (0 ≤ x1) → (x1 < d (x0 + 1 + 49) 0) → (¬ x2 = 0) → (¬ x2 = 1) → (¬ x2 = 2) → (¬ x2 = 3) → (¬ x2 = 4) → (¬ x2 = 5) → (¬ x2 = 6) → (¬ x2 = 7) → (¬ x2 = 8) → (¬ x2 = 9) → (¬ x2 = 10) → K (.inr 2) d) (h15 : (0 ≤ x1) → (d (x0 + 1 + 49) 0 ≤ x1) → K (.inr 1) d) : tCall E 129 [.inr (10, x0), .inl (0, x1), .inl (0, x2)] d K := by
  refine t_129_0 ?_
  have w0 : x0 = 0 := hx0
  have w2 := r_6_f2 hS (wbB.nw hx0)
  have w3 := r_3_f0 hS (stB.of (wbB.nw hx0))
  have w4 := r_4_f0 hS (stB.pe (wbB.nw hx0))
  have w5 := r_8_f0 hS (stB.ti (wbB.nw hx0))
  have w6 := r_9_f0 hS (stB.to (wbB.nw hx0))
  have w7 := r_7_f1 hS (wbB.tx hx0)
  refine k_167 hS hx0 (m_inR (by omega) (by omega)) (fun z0 => ?_) (fun z0 z1 => ?_) (fun z0 z1 => ?_)
  · exact h0 z0
  · refine t_129_5 ?_
    refine ⟨m_inR (by omega) (by omega), fun c2 => ?_, fun c2 => ?_, fun c2 => ?_, fun c2 => ?_, fun c2 => ?_, fun c2 => ?_, fun c2 => ?_, fun c2 => ?_, fun c2 => ?_, fun c2 => ?_, fun c2 => ?_, fun c2 => ?_⟩
    · have q1 := r_8_1 hS (stB.ti (wbB.nw hx0)) x1
      refine ⟨by omega, ?_⟩
      exact h1 z0 z1 c2 (by omega)
    · have q2 := r_8_2 hS (stB.ti (wbB.nw hx0)) x1
      refine ⟨by omega, ?_⟩
      exact h2 z0 z1 (show ¬ x2 = 0 by omega) c2 (by omega)
    · have q3 := r_8_3 hS (stB.ti (wbB.nw hx0)) x1
      refine ⟨by omega, ?_⟩
      exact h3 z0 z1 (show ¬ x2 = 0 by omega) (show ¬ x2 = 1 by omega) c2 (by omega)
    · have q4 := r_8_4 hS (stB.ti (wbB.nw hx0)) x1
      refine ⟨by omega, ?_⟩
      exact h4 z0 z1 (show ¬ x2 = 0 by omega) (show ¬ x2 = 1 by omega) (show ¬ x2 = 2 by omega) c2 (by omega)
    · have q5 := r_8_5 hS (stB.ti (wbB.nw hx0)) x1
      refine ⟨by omega, ?_⟩
      exact h5 z0 z1 (show ¬ x2 = 0 by omega) (show ¬ x2 = 1 by omega) (show ¬ x2 = 2 by omega) (show ¬ x2 = 3 by omega) c2 (by omega)
    · have q6 := r_8_6 hS (stB.ti (wbB.nw hx0)) x1
      refine ⟨by omega, m_inR (by omega) (by omega), fun c8 => ?_, fun c8 => ?_⟩
      · exact h6 z0 z1 (show ¬ x2 = 0 by omega) (show ¬ x2 = 1 by omega) (show ¬ x2 = 2 by omega) (show ¬ x2 = 3 by omega) (show ¬ x2 = 4 by omega) c2 c8 (by omega)
      · exact h7 z0 z1 (show ¬ x2 = 0 by omega) (show ¬ x2 = 1 by omega) (show ¬ x2 = 2 by omega) (show ¬ x2 = 3 by omega) (show ¬ x2 = 4 by omega) c2 c8 (by omega)
    · have q7 := r_8_6 hS (stB.ti (wbB.nw hx0)) x1
      refine ⟨by omega, ⟨m_inR (by omega) (by omega), m_inR (by omega) (by omega)⟩, fun c9 => ?_, fun c9 => ?_⟩
      · exact h8 z0 z1 (show ¬ x2 = 0 by omega) (show ¬ x2 = 1 by omega) (show ¬ x2 = 2 by omega) (show ¬ x2 = 3 by omega) (show ¬ x2 = 4 by omega) (show ¬ x2 = 5 by omega) c2 c9 (by omega)
      · exact h9 z0 z1 (show ¬ x2 = 0 by omega) (show ¬ x2 = 1 by omega) (show ¬ x2 = 2 by omega) (show ¬ x2 = 3 by omega) (show ¬ x2 = 4 by omega) (show ¬ x2 = 5 by omega) c2 c9 (by omega)
    · refine ⟨by omega, ?_⟩
      refine k_298 hS (fun e1 => ?_)
      refine t_129_147 ?_
      exact h10 z0 z1 (show ¬ x2 = 0 by omega) (show ¬ x2 = 1 by omega) (show ¬ x2 = 2 by omega) (show ¬ x2 = 3 by omega) (show ¬ x2 = 4 by omega) (show ¬ x2 = 5 by omega) (show ¬ x2 = 6 by omega) c2 (by omega)
    · refine k_71 hS (wbB.nw hx0) (by omega) (fun e2 => ?_)
      refine t_129_156 ?_
      exact h11 z0 z1 (show ¬ x2 = 0 by omega) (show ¬ x2 = 1 by omega) (show ¬ x2 = 2 by omega) (show ¬ x2 = 3 by omega) (show ¬ x2 = 4 by omega) (show ¬ x2 = 5 by omega) (show ¬ x2 = 6 by omega) (show ¬ x2 = 7 by omega) c2 (by omega)
    · refine k_112 hS (stB.to (wbB.nw hx0)) (m_inR (by omega) (by omega)) (fun e3 => ?_)
      refine t_129_168 ?_
      exact h12 z0 z1 (show ¬ x2 = 0 by omega) (show ¬ x2 = 1 by omega) (show ¬ x2 = 2 by omega) (show ¬ x2 = 3 by omega) (show ¬ x2 = 4 by omega) (show ¬ x2 = 5 by omega) (show ¬ x2 = 6 by omega) (show ¬ x2 = 7 by omega) (show ¬ x2 = 8 by omega) c2 (by omega)
    · refine ⟨by omega, ?_⟩
      have q8 := r_8_2 hS (stB.ti (wbB.nw hx0)) x1
      refine k_39 hS (stB.of (wbB.nw hx0)) (by omega) (m_inR (by omega) (by omega)) (fun e4 => ?_)
      refine t_129_186 ?_
      exact h13 z0 z1 (show ¬ x2 = 0 by omega) (show ¬ x2 = 1 by omega) (show ¬ x2 = 2 by omega) (show ¬ x2 = 3 by omega) (show ¬ x2 = 4 by omega) (show ¬ x2 = 5 by omega) (show ¬ x2 = 6 by omega) (show ¬ x2 = 7 by omega) (show ¬ x2 = 8 by omega) (show ¬ x2 = 9 by omega) c2 (by omega)
    · exact h14 z0 z1 (show ¬ x2 = 0 by omega) (show ¬ x2 = 1 by omega) (show ¬ x2 = 2 by omega) (show ¬ x2 = 3 by omega) (show ¬ x2 = 4 by omega) (show ¬ x2 = 5 by omega) (show ¬ x2 = 6 by omega) (show ¬ x2 = 7 by omega) (show ¬ x2 = 8 by omega) (show ¬ x2 = 9 by omega) (show ¬ x2 = 10 by omega)
  · exact h15 z0 z1
theorem k_130 {E : mO × tW} {K : tK} {d : mD} {x0 x1 x2 : Int} (hS : Safe d) (hx0 : wbB x0) (p1 : -2147483648 ≤ x1 ∧ x1 ≤ 2147483647) (p2 : -2147483648 ≤ x2 ∧ x2 ≤ 2147483647) (h0 : (x1 < 0) → K (.inr 1) d) (h1 : (0 ≤ x1) → (x1 < d (x0 + 1 + 57) 0) → (x2 = 0) → (-1 ≤ (d (x0 + 1 + 57 + 1) x1) ∧ (d (x0 + 1 + 57 + 1) x1) ≤ 1300) → K (.inl (some (0, d (x0 + 1 + 57 + 1) x1))) d) (h2 : (0 ≤ x1) → (x1 < d (x0 + 1 + 57) 0) → (¬ x2 = 0) → (x2 = 1) → (-1 ≤ (d (x0 + 1 + 57 + 2) x1) ∧ (d (x0 + 1 + 57 + 2) x1) ≤ 1300) → K (.inl (some (0, d (x0 + 1 + 57 + 2) x1))) d) (h3 : (0 ≤ x1) → (x1 < d (x0 + 1 + 57) 0) → (¬ x2 = 0) → (¬ x2 = 1) → (x2 = 2) → (-1 ≤ (d (x0 + 1 + 57 + 3) x1) ∧ (d (x0 + 1 + 57 + 3) x1) ≤ 1300) → K (.inl (some (0, d (x0 + 1 + 57 + 3) x1))) d) (h4 : (0 ≤ x1) → (x1 < d (x0 + 1 + 57) 0) → (¬ x2 = 0) → (¬ x2 = 1) → (¬ x2 = 2) → (x2 = 3) → (-1 ≤ (d (x0 + 1 + 57 + 4) x1) ∧ (d (x0 + 1 + 57 + 4) x1) ≤ 1300) → K (.inl (some (0, d (x0 + 1 + 57 + 4) x1))) d) (h5 : (0 ≤ x1) → (x1 < d (x0 + 1 + 57) 0) → (¬ x2 = 0) → (¬ x2 = 1) → (¬ x2 = 2) → (¬ x2 = 3) → (x2 = 4) → (-1 ≤ (v_113 (x0 + 1 + 57) x1 d) ∧ (v_113 (x0 + 1 + 57) x1 d) ≤ 1300) → K (.inl (some (0, v_113 (x0 + 1 + 57) x1 d))) d) (h6 : (0 ≤ x1) → (x1 < d (x0 + 1 + 57) 0) → (¬ x2 = 0) → (¬ x2 = 1) → (¬ x2 = 2) → (¬ x2 = 3) → (¬ x2 = 4) → K (.inr 2) d) (h7 : (0 ≤ x1) → (d (x0 + 1 + 57) 0 ≤ x1) → K (.inr 1) d) : tCall E 130 [.inr (10, x0), .inl (0, x1), .inl (0, x2)] d K := by
  refine t_130_0 ?_
  have w0 : x0 = 0 := hx0
  have w2 := r_6_f2 hS (wbB.nw hx0)
  have w3 := r_3_f0 hS (stB.of (wbB.nw hx0))
  have w4 := r_4_f0 hS (stB.pe (wbB.nw hx0))
  have w5 := r_8_f0 hS (stB.ti (wbB.nw hx0))
  have w6 := r_9_f0 hS (stB.to (wbB.nw hx0))
  have w7 := r_7_f1 hS (wbB.tx hx0)
  refine ⟨m_inR (by omega) (by omega), fun c0 => ?_, fun c0 => ?_⟩
  · exact h0 c0
  · have q1 := r_9_f0 hS (stB.to (wbB.nw hx0))
    refine ⟨⟨m_inR (by omega) (by omega), m_inR (by omega) (by omega)⟩, fun c1 => ?_, fun c1 => ?_⟩
    · refine ⟨m_inR (by omega) (by omega), fun c2 => ?_, fun c2 => ?_, fun c2 => ?_, fun c2 => ?_, fun c2 => ?_, fun c2 => ?_⟩
      · have q2 := r_9_1 hS (stB.to (wbB.nw hx0)) x1
        refine ⟨by omega, ?_⟩
        exact h1 c0 c1 c2 (by omega)
      · have q3 := r_9_2 hS (stB.to (wbB.nw hx0)) x1
        refine ⟨by omega, ?_⟩
        exact h2 c0 c1 (show ¬ x2 = 0 by omega) c2 (by omega)
      · have q4 := r_9_3 hS (stB.to (wbB.nw hx0)) x1
        refine ⟨by omega, ?_⟩
        exact h3 c0 c1 (show ¬ x2 = 0 by omega) (show ¬ x2 = 1 by omega) c2 (by omega)
      · have q5 := r_9_4 hS (stB.to (wbB.nw hx0)) x1
        refine ⟨by omega, ?_⟩
        exact h4 c0 c1 (show ¬ x2 = 0 by omega) (show ¬ x2 = 1 by omega) (show ¬ x2 = 2 by omega) c2 (by omega)
      · refine k_113 hS (stB.to (wbB.nw hx0)) (m_inR (by omega) (by omega)) (fun e1 => ?_)
        refine t_130_127 ?_
        exact h5 c0 c1 (show ¬ x2 = 0 by omega) (show ¬ x2 = 1 by omega) (show ¬ x2 = 2 by omega) (show ¬ x2 = 3 by omega) c2 (by omega)
      · exact h6 c0 c1 (show ¬ x2 = 0 by omega) (show ¬ x2 = 1 by omega) (show ¬ x2 = 2 by omega) (show ¬ x2 = 3 by omega) (show ¬ x2 = 4 by omega)
    · exact h7 c0 c1
theorem k_131 {E : mO × tW} {K : tK} {d : mD} {x0 x1 x2 : Int} (hS : Safe d) (hx0 : wbB x0) (p1 : -2147483648 ≤ x1 ∧ x1 ≤ 2147483647) (p2 : -2147483648 ≤ x2 ∧ x2 ≤ 2147483647) (h0 : (x1 < 0) → K (.inr 1) d) (h1 : (0 ≤ x1) → (x1 < d (x0 + 1 + 10) 0) → (x2 < 0) → K (.inr 2) d) (h2 : (0 ≤ x1) → (x1 < d (x0 + 1 + 10) 0) → (0 ≤ x2) → (x2 ≤ (999 : Int)) → (0 ≤ (v_6 (x0 + 1 + 10 + 6 + (1 + 2 * x1)) x2 d) ∧ (v_6 (x0 + 1 + 10 + 6 + (1 + 2 * x1)) x2 d) ≤ 1) → K (.inl (some (0, v_6 (x0 + 1 + 10 + 6 + (1 + 2 * x1)) x2 d))) d) (h3 : (0 ≤ x1) → (x1 < d (x0 + 1 + 10) 0) → (0 ≤ x2) → ((999 : Int) < x2) → K (.inr 2) d) (h4 : (0 ≤ x1) → (d (x0 + 1 + 10) 0 ≤ x1) → K (.inr 1) d) : tCall E 131 [.inr (10, x0), .inl (0, x1), .inl (0, x2)] d K := by
  refine t_131_0 ?_
  have w0 : x0 = 0 := hx0
  have w2 := r_6_f2 hS (wbB.nw hx0)
  have w3 := r_3_f0 hS (stB.of (wbB.nw hx0))
  have w4 := r_4_f0 hS (stB.pe (wbB.nw hx0))
  have w5 := r_8_f0 hS (stB.ti (wbB.nw hx0))
  have w6 := r_9_f0 hS (stB.to (wbB.nw hx0))
  have w7 := r_7_f1 hS (wbB.tx hx0)
  refine k_166 hS hx0 (m_inR (by omega) (by omega)) (fun z0 => ?_) (fun z0 z1 => ?_) (fun z0 z1 => ?_)
  · exact h0 z0
  · refine t_131_5 ?_
    refine ⟨m_inR (by omega) (by omega), fun c2 => ?_, fun c2 => ?_⟩
    · exact h1 z0 z1 c2
    · refine ⟨⟨m_inR (by omega) (by omega), m_inR (by omega) (by omega)⟩, fun c3 => ?_, fun c3 => ?_⟩
      · refine ⟨by omega, ?_⟩
        have hp1 : hsB (x0 + 1 + 10 + 6 + (1 + 2 * x1)) := peB.hs (stB.pe (wbB.nw hx0)) (by omega) (by omega)
        refine k_6 hS hp1 (m_inR (by omega) (by omega)) (fun e1 => ?_)
        refine t_131_43 ?_
        refine ⟨by omega, ?_⟩
        exact h2 z0 z1 c2 c3 (by omega)
      · exact h3 z0 z1 c2 c3
  · exact h4 z0 z1
theorem k_132 {E : mO × tW} {K : tK} {d : mD} {x0 x1 x2 : Int} (hS : Safe d) (hx0 : wbB x0) (p1 : -2147483648 ≤ x1 ∧ x1 ≤ 2147483647) (p2 : -2147483648 ≤ x2 ∧ x2 ≤ 2147483647) (h0 : (x1 < 0) → K (.inr 1) d) (h1 : (0 ≤ x1) → (x1 < d (x0 + 1 + 49) 0) → (x2 < 0) → K (.inr 1) d) (h2 : (0 ≤ x1) → (x1 < d (x0 + 1 + 49) 0) → (0 ≤ x2) → (x2 < d (x0 + 1 + 10) 0) → (0 ≤ (v_77 (x0 + 1) x1 x2 d) ∧ (v_77 (x0 + 1) x1 x2 d) ≤ 7) → K (.inl (some (0, v_77 (x0 + 1) x1 x2 d))) d) (h3 : (0 ≤ x1) → (x1 < d (x0 + 1 + 49) 0) → (0 ≤ x2) → (d (x0 + 1 + 10) 0 ≤ x2) → K (.inr 1) d) (h4 : (0 ≤ x1) → (d (x0 + 1 + 49) 0 ≤ x1) → K (.inr 1) d) : tCall E 132 [.inr (10, x0), .inl (0, x1), .inl (0, x2)] d K := by
  refine t_132_0 ?_
  have w0 : x0 = 0 := hx0
  have w2 := r_6_f2 hS (wbB.nw hx0)
  have w3 := r_3_f0 hS (stB.of (wbB.nw hx0))
  have w4 := r_4_f0 hS (stB.pe (wbB.nw hx0))
  have w5 := r_8_f0 hS (stB.ti (wbB.nw hx0))
  have w6 := r_9_f0 hS (stB.to (wbB.nw hx0))
  have w7 := r_7_f1 hS (wbB.tx hx0)
  refine k_167 hS hx0 (m_inR (by omega) (by omega)) (fun z0 => ?_) (fun z0 z1 => ?_) (fun z0 z1 => ?_)
  · exact h0 z0
  · refine t_132_5 ?_
    refine k_166 hS hx0 (m_inR (by omega) (by omega)) (fun z2 => ?_) (fun z2 z3 => ?_) (fun z2 z3 => ?_)
    · exact h1 z0 z1 z2
    · refine t_132_10 ?_
      refine k_77 hS (wbB.nw hx0) (by omega) (by omega) (fun e1 => ?_)
      refine t_132_19 ?_
      exact h2 z0 z1 z2 z3 (by omega)
    · exact h3 z0 z1 z2 z3
  · exact h4 z0 z1
theorem k_133 {E : mO × tW} {K : tK} {d : mD} {x0 x1 x2 : Int} (hS : Safe d) (hx0 : wbB x0) (p1 : -2147483648 ≤ x1 ∧ x1 ≤ 2147483647) (p2 : -2147483648 ≤ x2 ∧ x2 ≤ 2147483647) (h0 : (x1 < 0) → K (.inr 1) d) (h1 : (0 ≤ x1) → (x1 < d (x0 + 1 + 49) 0) → (x2 < 0) → K (.inr 1) d) (h2 : (0 ≤ x1) → (x1 < d (x0 + 1 + 49) 0) → (0 ≤ x2) → (x2 < d (x0 + 1 + 10) 0) → (0 ≤ (v_78 (x0 + 1) x1 x2 d) ∧ (v_78 (x0 + 1) x1 x2 d) ≤ 2000) → K (.inl (some (0, v_78 (x0 + 1) x1 x2 d))) d) (h3 : (0 ≤ x1) → (x1 < d (x0 + 1 + 49) 0) → (0 ≤ x2) → (d (x0 + 1 + 10) 0 ≤ x2) → K (.inr 1) d) (h4 : (0 ≤ x1) → (d (x0 + 1 + 49) 0 ≤ x1) → K (.inr 1) d) : tCall E 133 [.inr (10, x0), .inl (0, x1), .inl (0, x2)] d K := by
  refine t_133_0 ?_
  have w0 : x0 = 0 := hx0
  have w2 := r_6_f2 hS (wbB.nw hx0)
  have w3 := r_3_f0 hS (stB.of (wbB.nw hx0))
  have w4 := r_4_f0 hS (stB.pe (wbB.nw hx0))
  have w5 := r_8_f0 hS (stB.ti (wbB.nw hx0))
  have w6 := r_9_f0 hS (stB.to (wbB.nw hx0))
  have w7 := r_7_f1 hS (wbB.tx hx0)
  refine k_167 hS hx0 (m_inR (by omega) (by omega)) (fun z0 => ?_) (fun z0 z1 => ?_) (fun z0 z1 => ?_)
  · exact h0 z0
  · refine t_133_5 ?_
    refine k_166 hS hx0 (m_inR (by omega) (by omega)) (fun z2 => ?_) (fun z2 z3 => ?_) (fun z2 z3 => ?_)
    · exact h1 z0 z1 z2
    · refine t_133_10 ?_
      refine k_78 hS (wbB.nw hx0) (by omega) (m_inR (by omega) (by omega)) (fun e1 => ?_)
      refine t_133_19 ?_
      exact h2 z0 z1 z2 z3 (by omega)
    · exact h3 z0 z1 z2 z3
  · exact h4 z0 z1
theorem k_135 {E : mO × tW} {K : tK} {d : mD} {x0 x1 x2 : Int} (hS : Safe d) (hx0 : wbB x0) (p1 : -2147483648 ≤ x1 ∧ x1 ≤ 2147483647) (p2 : -2147483648 ≤ x2 ∧ x2 ≤ 2147483647) (h0 : (x1 < 0) → K (.inr 1) d) (h1 : (0 ≤ x1) → (x1 < d (x0 + 1 + 49) 0) → (x2 < 0) → K (.inr 1) d) (h2 : (0 ≤ x1) → (x1 < d (x0 + 1 + 49) 0) → (0 ≤ x2) → (x2 < d (x0 + 1 + 10) 0) → (0 ≤ (v_99 (x0 + 1 + 49) x1 x2 d) ∧ (v_99 (x0 + 1 + 49) x1 x2 d) ≤ 1) → K (.inl (some (0, v_99 (x0 + 1 + 49) x1 x2 d))) d) (h3 : (0 ≤ x1) → (x1 < d (x0 + 1 + 49) 0) → (0 ≤ x2) → (d (x0 + 1 + 10) 0 ≤ x2) → K (.inr 1) d) (h4 : (0 ≤ x1) → (d (x0 + 1 + 49) 0 ≤ x1) → K (.inr 1) d) : tCall E 135 [.inr (10, x0), .inl (0, x1), .inl (0, x2)] d K := by
  refine t_135_0 ?_
  have w0 : x0 = 0 := hx0
  have w2 := r_6_f2 hS (wbB.nw hx0)
  have w3 := r_3_f0 hS (stB.of (wbB.nw hx0))
  have w4 := r_4_f0 hS (stB.pe (wbB.nw hx0))
  have w5 := r_8_f0 hS (stB.ti (wbB.nw hx0))
  have w6 := r_9_f0 hS (stB.to (wbB.nw hx0))
  have w7 := r_7_f1 hS (wbB.tx hx0)
  refine k_167 hS hx0 (m_inR (by omega) (by omega)) (fun z0 => ?_) (fun z0 z1 => ?_) (fun z0 z1 => ?_)
  · exact h0 z0
  · refine t_135_5 ?_
    refine k_166 hS hx0 (m_inR (by omega) (by omega)) (fun z2 => ?_) (fun z2 z3 => ?_) (fun z2 z3 => ?_)
    · exact h1 z0 z1 z2
    · refine t_135_10 ?_
      refine k_99 hS (stB.ti (wbB.nw hx0)) (by omega) (m_inR (by omega) (by omega)) (fun e1 => ?_)
      refine t_135_22 ?_
      refine ⟨by omega, ?_⟩
      exact h2 z0 z1 z2 z3 (by omega)
    · exact h3 z0 z1 z2 z3
  · exact h4 z0 z1
theorem k_136 {E : mO × tW} {K : tK} {d : mD} {x0 x1 : Int} (hS : Safe d) (hx0 : wbB x0) (p1 : -2147483648 ≤ x1 ∧ x1 ≤ 2147483647) (h0 : (x1 < 0) → K (.inr 1) d) (h1 : (0 ≤ x1) → (x1 < d (x0 + 1 + 49) 0) → (¬ d (x0 + 1 + 49 + 5) x1 = 1) → (0 ≤ 0 ∧ 0 ≤ 1300) → K (.inl (some (0, 0))) d) (h2 : (0 ≤ x1) → (x1 < d (x0 + 1 + 49) 0) → (d (x0 + 1 + 49 + 5) x1 = 1) → (0 ≤ (v_80 (x0 + 1) x1 d) ∧ (v_80 (x0 + 1) x1 d) ≤ 1300) → K (.inl (some (0, v_80 (x0 + 1) x1 d))) d) (h3 : (0 ≤ x1) → (d (x0 + 1 + 49) 0 ≤ x1) → K (.inr 1) d) : tCall E 136 [.inr (10, x0), .inl (0, x1)] d K := by
  refine t_136_0 ?_
  have w0 : x0 = 0 := hx0
  have w2 := r_6_f2 hS (wbB.nw hx0)
  have w3 := r_3_f0 hS (stB.of (wbB.nw hx0))
  have w4 := r_4_f0 hS (stB.pe (wbB.nw hx0))
  have w5 := r_8_f0 hS (stB.ti (wbB.nw hx0))
  have w6 := r_9_f0 hS (stB.to (wbB.nw hx0))
  have w7 := r_7_f1 hS (wbB.tx hx0)
  refine k_167 hS hx0 (m_inR (by omega) (by omega)) (fun z0 => ?_) (fun z0 z1 => ?_) (fun z0 z1 => ?_)
  · exact h0 z0
  · refine t_136_5 ?_
    have q1 := r_8_5 hS (stB.ti (wbB.nw hx0)) x1
    refine ⟨by omega, ⟨m_inR (by omega) (by omega), m_inR (by omega) (by omega)⟩, fun c2 => ?_, fun c2 => ?_⟩
    · exact h1 z0 z1 c2 (by omega)
    · refine k_80 hS (wbB.nw hx0) (by omega) (fun e1 => ?_)
      refine t_136_29 ?_
      exact h2 z0 z1 c2 (by omega)
  · exact h3 z0 z1
def v_137 (x0 : Int) (d : mD) : Int := ((d (x0 + 1 + 57) 0) - (v_110 (x0 + 1 + 57) 2 d)) * (d (x0 + 1 + 1) 4)
theorem k_137 {E : mO × tW} {K : tK} {d : mD} {x0 : Int} (hS : Safe d) (hx0 : wbB x0) (h : (-19800 ≤ (v_137 x0 d) ∧ (v_137 x0 d) ≤ 19800) → K (.inl (some (0, (v_137 x0 d)))) d) : tCall E 137 [.inr (10, x0)] d K := by
  refine t_137_0 ?_
  have w0 : x0 = 0 := hx0
  have w2 := r_6_f2 hS (wbB.nw hx0)
  have w3 := r_3_f0 hS (stB.of (wbB.nw hx0))
  have w4 := r_4_f0 hS (stB.pe (wbB.nw hx0))
  have w5 := r_8_f0 hS (stB.ti (wbB.nw hx0))
  have w6 := r_9_f0 hS (stB.to (wbB.nw hx0))
  have w7 := r_7_f1 hS (wbB.tx hx0)
  refine k_110 hS (stB.to (wbB.nw hx0)) (m_inR (by omega) (by omega)) (fun e1 => ?_)
  refine t_137_21 ?_
  have q1 := r_9_f0 hS (stB.to (wbB.nw hx0))
  have q2 := r_6_1 hS (wbB.nw hx0) ((4 : Int))
  refine ⟨by omega, ?_⟩
  have y0 : v_137 x0 d = ((d (x0 + 1 + 57) 0) - (v_110 (x0 + 1 + 57) 2 d)) * (d (x0 + 1 + 1) 4) := by simp only [v_137]
  rw [y0] at h
  exact h (show -19800 ≤ (((d (x0 + 1 + 57) 0) - (v_110 (x0 + 1 + 57) 2 d)) * (d (x0 + 1 + 1) 4)) ∧ (((d (x0 + 1 + 57) 0) - (v_110 (x0 + 1 + 57) 2 d)) * (d (x0 + 1 + 1) 4)) ≤ 19800 from (mul_r (by omega) (by omega)))
def v_138 (x0 : Int) (d : mD) : Int := if v_101 (x0 + 1 + 49) 1 d = 0 then 0 else mddiv (mi2d (v_106 (x0 + 1 + 49) d)) (mi2d (v_101 (x0 + 1 + 49) 1 d))
theorem k_138 {E : mO × tW} {K : tK} {d : mD} {x0 : Int} (hS : Safe d) (hx0 : wbB x0) (h : K (.inl (some (2, (v_138 x0 d)))) d) : tCall E 138 [.inr (10, x0)] d K := by
  refine t_138_0 ?_
  have w0 : x0 = 0 := hx0
  have w2 := r_6_f2 hS (wbB.nw hx0)
  have w3 := r_3_f0 hS (stB.of (wbB.nw hx0))
  have w4 := r_4_f0 hS (stB.pe (wbB.nw hx0))
  have w5 := r_8_f0 hS (stB.ti (wbB.nw hx0))
  have w6 := r_9_f0 hS (stB.to (wbB.nw hx0))
  have w7 := r_7_f1 hS (wbB.tx hx0)
  refine k_101 hS (stB.ti (wbB.nw hx0)) (m_inR (by omega) (by omega)) (fun e1 => ?_)
  refine t_138_11 ?_
  refine ⟨m_inR (by omega) (by omega), fun c0 => ?_, fun c0 => ?_⟩
  · refine k_106 hS (stB.ti (wbB.nw hx0)) (fun e2 => ?_)
    refine t_138_30 ?_
    refine ⟨dd_ok (by omega), ?_⟩
    have y0 : v_138 x0 d = mddiv (mi2d (v_106 (x0 + 1 + 49) d)) (mi2d (v_101 (x0 + 1 + 49) 1 d)) := by simp only [v_138, if_neg (show ¬ v_101 (x0 + 1 + 49) 1 d = 0 from c0)]
    rw [y0] at h
    exact h
  · have y0 : v_138 x0 d = 0 := by simp only [v_138, if_pos (show v_101 (x0 + 1 + 49) 1 d = 0 from c0)]
    rw [y0] at h
    exact h
def v_141 (x0 : Int) (d : mD) : Int := ((((d (x0 + 1 + 57) 0) - (v_110 (x0 + 1 + 57) 0 d)) - (v_110 (x0 + 1 + 57) 1 d)) - (v_110 (x0 + 1 + 57) 2 d)) + (v_84 (x0 + 1) d)
theorem k_141 {E : mO × tW} {K : tK} {d : mD} {x0 : Int} (hS : Safe d) (hx0 : wbB x0) (h : (-600 ≤ (v_141 x0 d) ∧ (v_141 x0 d) ≤ 40200) → K (.inl (some (0, (v_141 x0 d)))) d) : tCall E 141 [.inr (10, x0)] d K := by
  refine t_141_0 ?_
  have w0 : x0 = 0 := hx0
  have w2 := r_6_f2 hS (wbB.nw hx0)
  have w3 := r_3_f0 hS (stB.of (wbB.nw hx0))
  have w4 := r_4_f0 hS (stB.pe (wbB.nw hx0))
  have w5 := r_8_f0 hS (stB.ti (wbB.nw hx0))
  have w6 := r_9_f0 hS (stB.to (wbB.nw hx0))
  have w7 := r_7_f1 hS (wbB.tx hx0)
  refine k_110 hS (stB.to (wbB.nw hx0)) (m_inR (by omega) (by omega)) (fun e1 => ?_)
  refine t_141_17 ?_
  refine k_110 hS (stB.to (wbB.nw hx0)) (m_inR (by omega) (by omega)) (fun e2 => ?_)
  refine t_141_23 ?_
  refine k_110 hS (stB.to (wbB.nw hx0)) (m_inR (by omega) (by omega)) (fun e3 => ?_)
  refine t_141_29 ?_
  refine k_84 hS (wbB.nw hx0) (fun e4 => ?_)
  refine t_141_39 ?_
  have q1 := r_9_f0 hS (stB.to (wbB.nw hx0))
  have y0 : v_141 x0 d = ((((d (x0 + 1 + 57) 0) - (v_110 (x0 + 1 + 57) 0 d)) - (v_110 (x0 + 1 + 57) 1 d)) - (v_110 (x0 + 1 + 57) 2 d)) + (v_84 (x0 + 1) d) := by simp only [v_141]
  rw [y0] at h
  exact h (show -600 ≤ (((((d (x0 + 1 + 57) 0) - (v_110 (x0 + 1 + 57) 0 d)) - (v_110 (x0 + 1 + 57) 1 d)) - (v_110 (x0 + 1 + 57) 2 d)) + (v_84 (x0 + 1) d)) ∧ (((((d (x0 + 1 + 57) 0) - (v_110 (x0 + 1 + 57) 0 d)) - (v_110 (x0 + 1 + 57) 1 d)) - (v_110 (x0 + 1 + 57) 2 d)) + (v_84 (x0 + 1) d)) ≤ 40200 from (by omega))
theorem k_142 {E : mO × tW} {K : tK} {d : mD} {x0 x1 : Int} (hS : Safe d) (hx0 : wbB x0) (p1 : -2147483648 ≤ x1 ∧ x1 ≤ 2147483647) (h0 : (x1 < 0) → K (.inr 1) d) (h1 : (0 ≤ x1) → (x1 < d (x0 + 1 + 49) 0) → (¬ d (x0 + 1 + 49 + 5) x1 = 1) → (¬ v_39 (x0 + 1 + 2) (d (x0 + 1 + 49 + 2) x1) x1 d = (-1)) → (v_43 (x0 + 1 + 2) (d (x0 + 1 + 49 + 2) x1) (v_39 (x0 + 1 + 2) (d (x0 + 1 + 49 + 2) x1) x1 d) (d (x0 + 1) 2) d ≤ (200 : Int)) → (0 ≤ (v_43 (x0 + 1 + 2) (d (x0 + 1 + 49 + 2) x1) (v_39 (x0 + 1 + 2) (d (x0 + 1 + 49 + 2) x1) x1 d) (d (x0 + 1) 2) d) ∧ (v_43 (x0 + 1 + 2) (d (x0 + 1 + 49 + 2) x1) (v_39 (x0 + 1 + 2) (d (x0 + 1 + 49 + 2) x1) x1 d) (d (x0 + 1) 2) d) ≤ 200) → K (.inl (some (0, v_43 (x0 + 1 + 2) (d (x0 + 1 + 49 + 2) x1) (v_39 (x0 + 1 + 2) (d (x0 + 1 + 49 + 2) x1) x1 d) (d (x0 + 1) 2) d))) d) (h2 : (0 ≤ x1) → (x1 < d (x0 + 1 + 49) 0) → (¬ d (x0 + 1 + 49 + 5) x1 = 1) → (¬ v_39 (x0 + 1 + 2) (d (x0 + 1 + 49 + 2) x1) x1 d = (-1)) → ((200 : Int) < v_43 (x0 + 1 + 2) (d (x0 + 1 + 49 + 2) x1) (v_39 (x0 + 1 + 2) (d (x0 + 1 + 49 + 2) x1) x1 d) (d (x0 + 1) 2) d) → K (.inr 3) d) (h3 : (0 ≤ x1) → (x1 < d (x0 + 1 + 49) 0) → (¬ d (x0 + 1 + 49 + 5) x1 = 1) → (v_39 (x0 + 1 + 2) (d (x0 + 1 + 49 + 2) x1) x1 d = (-1)) → K (.inr 3) d) (h4 : (0 ≤ x1) → (x1 < d (x0 + 1 + 49) 0) → (d (x0 + 1 + 49 + 5) x1 = 1) → (0 ≤ 0 ∧ 0 ≤ 200) → K (.inl (some (0, 0))) d) (h5 : (0 ≤ x1) → (d (x0 + 1 + 49) 0 ≤ x1) → K (.inr 1) d) : tCall E 142 [.inr (10, x0), .inl (0, x1)] d K := by
  refine t_142_0 ?_
  have w0 : x0 = 0 := hx0
  have w2 := r_6_f2 hS (wbB.nw hx0)
  have w3 := r_3_f0 hS (stB.of (wbB.nw hx0))
  have w4 := r_4_f0 hS (stB.pe (wbB.nw hx0))
  have w5 := r_8_f0 hS (stB.ti (wbB.nw hx0))
  have w6 := r_9_f0 hS (stB.to (wbB.nw hx0))
  have w7 := r_7_f1 hS (wbB.tx hx0)
  refine k_167 hS hx0 (m_inR (by omega) (by omega)) (fun z0 => ?_) (fun z0 z1 => ?_) (fun z0 z1 => ?_)
  · exact h0 z0
  · refine t_142_5 ?_
    have q1 := r_8_5 hS (stB.ti (wbB.nw hx0)) x1
    refine ⟨by omega, ⟨m_inR (by omega) (by omega), m_inR (by omega) (by omega)⟩, fun c2 => ?_, fun c2 => ?_⟩
    · refine ⟨by omega, ?_⟩
      have q2 := r_8_2 hS (stB.ti (wbB.nw hx0)) x1
      refine k_39 hS (stB.of (wbB.nw hx0)) (by omega) (m_inR (by omega) (by omega)) (fun e1 => ?_)
      refine t_142_48 ?_
      refine ⟨⟨m_inR (by omega) (by omega), m_inR (by omega) (by omega)⟩, fun c3 => ?_, fun c3 => ?_⟩
      · have q3 := r_6_f2 hS (wbB.nw hx0)
        refine k_43 hS (stB.of (wbB.nw hx0)) (by omega) (by omega) (by omega) (fun e2 => ?_)
        refine t_142_84 ?_
        refine ⟨⟨m_inR (by omega) (by omega), m_inR (by omega) (by omega)⟩, fun c4 => ?_, fun c4 => ?_⟩
        · exact h1 z0 z1 c2 c3 c4 (by omega)
        · exact h2 z0 z1 c2 c3 c4
      · exact h3 z0 z1 c2 c3
    · exact h4 z0 z1 c2 (by omega)
  · exact h5 z0 z1
theorem k_143 {E : mO × tW} {K : tK} {d : mD} {x0 x1 x2 : Int} (hS : Safe d) (hx0 : wbB x0) (p1 : -2147483648 ≤ x1 ∧ x1 ≤ 2147483647) (p2 : -2147483648 ≤ x2 ∧ x2 ≤ 2147483647) (h0 : (x1 < 0) → K (.inr 1) d) (h1 : (0 ≤ x1) → (x1 < d (x0 + 1 + 2) 0) → (x2 < 0) → K (.inr 2) d) (h2 : (0 ≤ x1) → (x1 < d (x0 + 1 + 2) 0) → (0 ≤ x2) → (x2 ≤ (200 : Int)) → (0 ≤ (v_44 (x0 + 1 + 2) x1 x2 (d (x0 + 1) 2) d) ∧ (v_44 (x0 + 1 + 2) x1 x2 (d (x0 + 1) 2) d) ≤ 16) → K (.inl (some (0, v_44 (x0 + 1 + 2) x1 x2 (d (x0 + 1) 2) d))) d) (h3 : (0 ≤ x1) → (x1 < d (x0 + 1 + 2) 0) → (0 ≤ x2) → ((200 : Int) < x2) → K (.inr 2) d) (h4 : (0 ≤ x1) → (d (x0 + 1 + 2) 0 ≤ x1) → K (.inr 1) d) : tCall E 143 [.inr (10, x0), .inl (0, x1), .inl (0, x2)] d K := by
  refine t_143_0 ?_
  have w0 : x0 = 0 := hx0
  have w2 := r_6_f2 hS (wbB.nw hx0)
  have w3 := r_3_f0 hS (stB.of (wbB.nw hx0))
  have w4 := r_4_f0 hS (stB.pe (wbB.nw hx0))
  have w5 := r_8_f0 hS (stB.ti (wbB.nw hx0))
  have w6 := r_9_f0 hS (stB.to (wbB.nw hx0))
  have w7 := r_7_f1 hS (wbB.tx hx0)
  refine k_165 hS hx0 (m_inR (by omega) (by omega)) (fun z0 => ?_) (fun z0 z1 => ?_) (fun z0 z1 => ?_)
  · exact h0 z0
  · refine t_143_5 ?_
    refine k_170 hS hx0 (m_inR (by omega) (by omega)) (fun z2 => ?_) (fun z2 z3 => ?_) (fun z2 z3 => ?_)
    · exact h1 z0 z1 z2
    · refine t_143_10 ?_
      have q1 := r_6_f2 hS (wbB.nw hx0)
      refine k_44 hS (stB.of (wbB.nw hx0)) (by omega) (by omega) (by omega) (fun e1 => ?_)
      refine t_143_29 ?_
      exact h2 z0 z1 z2 z3 (by omega)
    · exact h3 z0 z1 z2 z3
  · exact h4 z0 z1
theorem k_144 {E : mO × tW} {K : tK} {d : mD} {x0 x1 : Int} (hS : Safe d) (hx0 : wbB x0) (p1 : -2147483648 ≤ x1 ∧ x1 ≤ 2147483647) (h0 : (x1 < 0) → K (.inr 2) d) (h1 : (0 ≤ x1) → (x1 ≤ (200 : Int)) → (0 ≤ ((g_68 (x0 + 580) x1 (g_59 (x0 + 580) (x0 + 1) d)) (x0 + 580 + 57) 0) ∧ ((g_68 (x0 + 580) x1 (g_59 (x0 + 580) (x0 + 1) d)) (x0 + 580 + 57) 0) ≤ 200) → (∀ b : Int, (b < x0 + 580 ∨ x0 + 595 < b) ∧ (b < x0 + 598 ∨ x0 + 642 < b) → (g_68 (x0 + 580) x1 (g_59 (x0 + 580) (x0 + 1) d)) b = d b) → Safe (g_68 (x0 + 580) x1 (g_59 (x0 + 580) (x0 + 1) d)) → K (.inl (some (0, (g_68 (x0 + 580) x1 (g_59 (x0 + 580) (x0 + 1) d)) (x0 + 580 + 57) 0))) (g_68 (x0 + 580) x1 (g_59 (x0 + 580) (x0 + 1) d))) (h2 : (0 ≤ x1) → ((200 : Int) < x1) → K (.inr 2) d) : tCall E 144 [.inr (10, x0), .inl (0, x1)] d K := by
  refine t_144_0 ?_
  have w0 : x0 = 0 := hx0
  have w2 := r_6_f2 hS (wbB.nw hx0)
  have w3 := r_3_f0 hS (stB.of (wbB.nw hx0))
  have w4 := r_4_f0 hS (stB.pe (wbB.nw hx0))
  have w5 := r_8_f0 hS (stB.ti (wbB.nw hx0))
  have w6 := r_9_f0 hS (stB.to (wbB.nw hx0))
  have w7 := r_7_f1 hS (wbB.tx hx0)
  refine k_170 hS hx0 (m_inR (by omega) (by omega)) (fun z0 => ?_) (fun z0 z1 => ?_) (fun z0 z1 => ?_)
  · exact h0 z0
  · refine t_144_5 ?_
    refine k_59 hS (wbB.sp hx0) (wbB.nw hx0) (by omega) (fun F1 k1_0 hS1 => ?_)
    refine t_144_16 ?_
    have q1 : (g_59 (x0 + 580) (x0 + 1) d) (x0 + 580) 2 = d (x0 + 1) 2 := k1_0
    refine k_68 hS1 (wbB.sp hx0) (by omega) (by omega) (by omega) (fun e1 F2 n2_0 hS2 => ?_)
    refine t_144_24 ?_
    have q2 := r_9_f0 hS2 (stB.to (wbB.sp hx0))
    exact h1 z0 z1 (by omega) (fun b hb => (F2 b (by omega)).trans (F1 b (by omega))) hS2
  · exact h2 z0 z1
theorem k_145 {E : mO × tW} {K : tK} {d : mD} {x0 x1 : Int} (hS : Safe d) (hx0 : wbB x0) (p1 : -2147483648 ≤ x1 ∧ x1 ≤ 2147483647) (h0 : (x1 < 0) → K (.inr 1) d) (h1 : (0 ≤ x1) → (x1 < d (x0 + 1 + 2) 0) → (¬ v_173 x0 x1 d = (-1)) → (0 ≤ (v_173 x0 x1 d) ∧ (v_173 x0 x1 d) ≤ 200) → K (.inl (some (0, v_173 x0 x1 d))) d) (h2 : (0 ≤ x1) → (x1 < d (x0 + 1 + 2) 0) → (v_173 x0 x1 d = (-1)) → K (.inr 3) d) (h3 : (0 ≤ x1) → (d (x0 + 1 + 2) 0 ≤ x1) → K (.inr 1) d) : tCall E 145 [.inr (10, x0), .inl (0, x1)] d K := by
  refine t_145_0 ?_
  have w0 : x0 = 0 := hx0
  have w2 := r_6_f2 hS (wbB.nw hx0)
  have w3 := r_3_f0 hS (stB.of (wbB.nw hx0))
  have w4 := r_4_f0 hS (stB.pe (wbB.nw hx0))
  have w5 := r_8_f0 hS (stB.ti (wbB.nw hx0))
  have w6 := r_9_f0 hS (stB.to (wbB.nw hx0))
  have w7 := r_7_f1 hS (wbB.tx hx0)
  refine k_165 hS hx0 (m_inR (by omega) (by omega)) (fun z0 => ?_) (fun z0 z1 => ?_) (fun z0 z1 => ?_)
  · exact h0 z0
  · refine t_145_5 ?_
    refine k_173 hS hx0 (by omega) (fun e1 => ?_)
    refine t_145_10 ?_
    refine ⟨⟨m_inR (by omega) (by omega), m_inR (by omega) (by omega)⟩, fun c2 => ?_, fun c2 => ?_⟩
    · exact h1 z0 z1 c2 (by omega)
    · exact h2 z0 z1 c2
  · exact h3 z0 z1
theorem k_147 {E : mO × tW} {K : tK} {d : mD} {x0 x1 x2 : Int} (hS : Safe d) (hx0 : wbB x0) (p1 : -2147483648 ≤ x1 ∧ x1 ≤ 2147483647) (p2 : -2147483648 ≤ x2 ∧ x2 ≤ 2147483647) (h0 : (x1 < 0) → K (.inr 1) d) (h1 : (0 ≤ x1) → (x1 < d (x0 + 1 + 2) 0) → (x2 < 0) → K (.inr 1) d) (h2 : (0 ≤ x1) → (x1 < d (x0 + 1 + 2) 0) → (0 ≤ x2) → (x2 < d (x0 + 1 + 2) 0) → (x1 = x2) → K (.inr 0) d) (h3 : (0 ≤ x1) → (x1 < d (x0 + 1 + 2) 0) → (0 ≤ x2) → (x2 < d (x0 + 1 + 2) 0) → (¬ x1 = x2) → (d (x0 + 1 + 2 + 5) x1 = 0) → K (.inr 0) d) (h4 : (0 ≤ x1) → (x1 < d (x0 + 1 + 2) 0) → (0 ≤ x2) → (x2 < d (x0 + 1 + 2) 0) → (¬ x1 = x2) → (¬ d (x0 + 1 + 2 + 5) x1 = 0) → (¬ d (x0 + 1 + 2 + 5) x2 = 0) → (¬ v_66 (x0 + 580) (g_63 (x0 + 580) x1 x2 (g_59 (x0 + 580) (x0 + 1) d)) = (-1)) → (0 ≤ (v_66 (x0 + 580) (g_63 (x0 + 580) x1 x2 (g_59 (x0 + 580) (x0 + 1) d))) ∧ (v_66 (x0 + 580) (g_63 (x0 + 580) x1 x2 (g_59 (x0 + 580) (x0 + 1) d))) ≤ 2000) → (∀ b : Int, (b < x0 + 580 ∨ x0 + 595 < b) ∧ (b < x0 + 598 ∨ x0 + 642 < b) → (g_63 (x0 + 580) x1 x2 (g_59 (x0 + 580) (x0 + 1) d)) b = d b) → Safe (g_63 (x0 + 580) x1 x2 (g_59 (x0 + 580) (x0 + 1) d)) → K (.inl (some (0, v_66 (x0 + 580) (g_63 (x0 + 580) x1 x2 (g_59 (x0 + 580) (x0 + 1) d))))) (g_63 (x0 + 580) x1 x2 (g_59 (x0 + 580) (x0 + 1) d))) (h5 : (0 ≤ x1) → (x1 < d (x0 + 1 + 2) 0) → (0 ≤ x2) → (x2 < d (x0 + 1 + 2) 0) → (¬ x1 = x2) → (¬ d (x0 + 1 + 2 + 5) x1 = 0) → (¬ d (x0 + 1 + 2 + 5) x2 = 0) → (v_66 (x0 + 580) (g_63 (x0 + 580) x1 x2 (g_59 (x0 + 580) (x0 + 1) d)) = (-1)) → (∀ b : Int, (b < x0 + 580 ∨ x0 + 595 < b) ∧ (b < x0 + 598 ∨ x0 + 642 < b) → (g_63 (x0 + 580) x1 x2 (g_59 (x0 + 580) (x0 + 1) d)) b = d b) → Safe (g_63 (x0 + 580) x1 x2 (g_59 (x0 + 580) (x0 + 1) d)) → K (.inr 3) (g_63 (x0 + 580) x1 x2 (g_59 (x0 + 580) (x0 + 1) d))) (h6 : (0 ≤ x1) → (x1 < d (x0 + 1 + 2) 0) → (0 ≤ x2) → (x2 < d (x0 + 1 + 2) 0) → (¬ x1 = x2) → (¬ d (x0 + 1 + 2 + 5) x1 = 0) → (d (x0 + 1 + 2 + 5) x2 = 0) → K (.inr 0) d) (h7 : (0 ≤ x1) → (x1 < d (x0 + 1 + 2) 0) → (0 ≤ x2) → (d (x0 + 1 + 2) 0 ≤ x2) → K (.inr 1) d) (h8 : (0 ≤ x1) → (d (x0 + 1 + 2) 0 ≤ x1) → K (.inr 1) d) : tCall E 147 [.inr (10, x0), .inl (0, x1), .inl (0, x2)] d K := by
  refine t_147_0 ?_
  have w0 : x0 = 0 := hx0
  have w2 := r_6_f2 hS (wbB.nw hx0)
  have w3 := r_3_f0 hS (stB.of (wbB.nw hx0))
  have w4 := r_4_f0 hS (stB.pe (wbB.nw hx0))
  have w5 := r_8_f0 hS (stB.ti (wbB.nw hx0))
  have w6 := r_9_f0 hS (stB.to (wbB.nw hx0))
  have w7 := r_7_f1 hS (wbB.tx hx0)
  refine k_172 hS hx0 (m_inR (by omega) (by omega)) (m_inR (by omega) (by omega)) (fun z0 => ?_) (fun z0 z1 z2 => ?_) (fun z0 z1 z2 z3 z4 => ?_) (fun z0 z1 z2 z3 z4 z5 => ?_) (fun z0 z1 z2 z3 z4 z5 z6 => ?_) (fun z0 z1 z2 z3 z4 z5 z6 => ?_) (fun z0 z1 z2 z3 => ?_) (fun z0 z1 => ?_)
  · exact h0 z0
  · exact h1 z0 z1 z2
  · exact h2 z0 z1 z2 z3 z4
  · exact h3 z0 z1 z2 z3 z4 z5
  · refine t_147_6 ?_
    refine k_59 hS (wbB.sp hx0) (wbB.nw hx0) (by omega) (fun F1 k1_0 hS1 => ?_)
    refine t_147_17 ?_
    refine k_63 hS1 (wbB.sp hx0) (by omega) (by omega) (fun F2 hS2 => ?_)
    refine t_147_26 ?_
    refine k_66 hS2 (wbB.sp hx0) (fun e1 => ?_)
    refine t_147_33 ?_
    refine ⟨⟨m_inR (by omega) (by omega), m_inR (by omega) (by omega)⟩, fun c7 => ?_, fun c7 => ?_⟩
    · exact h4 z0 z1 z2 z3 z4 z5 z6 c7 (by omega) (fun b hb => (F2 b (by omega)).trans (F1 b (by omega))) hS2
    · exact h5 z0 z1 z2 z3 z4 z5 z6 c7 (fun b hb => (F2 b (by omega)).trans (F1 b (by omega))) hS2
  · exact h6 z0 z1 z2 z3 z4 z5 z6
  · exact h7 z0 z1 z2 z3
  · exact h8 z0 z1
theorem k_149 {E : mO × tW} {K : tK} {d : mD} {x0 x1 : Int} (hS : Safe d) (hx0 : wbB x0) (p1 : -2147483648 ≤ x1 ∧ x1 ≤ 2147483647) (h0 : (x1 < 0) → K (.inr 1) d) (h1 : (0 ≤ x1) → (x1 < d (x0 + 572) 1) → (-128 ≤ (d (x0 + 572 + 1) x1) ∧ (d (x0 + 572 + 1) x1) ≤ 127) → K (.inl (some (0, d (x0 + 572 + 1) x1))) d) (h2 : (0 ≤ x1) → (d (x0 + 572) 1 ≤ x1) → K (.inr 1) d) : tCall E 149 [.inr (10, x0), .inl (0, x1)] d K := by
  refine t_149_0 ?_
  have w0 : x0 = 0 := hx0
  have w2 := r_6_f2 hS (wbB.nw hx0)
  have w3 := r_3_f0 hS (stB.of (wbB.nw hx0))
  have w4 := r_4_f0 hS (stB.pe (wbB.nw hx0))
  have w5 := r_8_f0 hS (stB.ti (wbB.nw hx0))
  have w6 := r_9_f0 hS (stB.to (wbB.nw hx0))
  have w7 := r_7_f1 hS (wbB.tx hx0)
  refine ⟨m_inR (by omega) (by omega), fun c0 => ?_, fun c0 => ?_⟩
  · exact h0 c0
  · have q1 := r_7_f1 hS (wbB.ou hx0)
    refine ⟨⟨m_inR (by omega) (by omega), m_inR (by omega) (by omega)⟩, fun c1 => ?_, fun c1 => ?_⟩
    · have q2 := r_7_1 hS (wbB.ou hx0) x1
      refine ⟨by omega, ?_⟩
      exact h1 c0 c1 (by omega)
    · exact h2 c0 c1
theorem k_150 {E : mO × tW} {K : tK} {d : mD} {x0 x1 x2 : Int} (hS : Safe d) (hx0 : wbB x0) (p1 : -2147483648 ≤ x1 ∧ x1 ≤ 2147483647) (p2 : -2147483648 ≤ x2 ∧ x2 ≤ 2147483647) (h0 : (x1 < 0) → K (.inr 1) d) (h1 : (0 ≤ x1) → (x1 < d (x0 + 1 + 10) 0) → (x2 < 0) → K (.inr 1) d) (h2 : (0 ≤ x1) → (x1 < d (x0 + 1 + 10) 0) → (0 ≤ x2) → (x2 < d (x0 + 1 + 2) 0) → (¬ v_60 (x0 + 1) x1 x2 d = 0) → (0 ≤ (v_61 (x0 + 1) x1 x2 (g_2 (x0 + 64) (x0 + 1) d)) ∧ (v_61 (x0 + 1) x1 x2 (g_2 (x0 + 64) (x0 + 1) d)) ≤ 59) → (∀ b : Int, (b < x0 + 9 ∨ x0 + 10 < b) ∧ (b < x0 + 50 ∨ x0 + 57 < b) ∧ (b < x0 + 64 ∨ x0 + 64 < b) ∧ (b < x0 + 66 ∨ x0 + 569 < b) → (g_61 (x0 + 1) x1 x2 (g_2 (x0 + 64) (x0 + 1) d)) b = d b) → Safe (g_61 (x0 + 1) x1 x2 (g_2 (x0 + 64) (x0 + 1) d)) → K (.inl (some (0, v_61 (x0 + 1) x1 x2 (g_2 (x0 + 64) (x0 + 1) d)))) (g_61 (x0 + 1) x1 x2 (g_2 (x0 + 64) (x0 + 1) d))) (h3 : (0 ≤ x1) → (x1 < d (x0 + 1 + 10) 0) → (0 ≤ x2) → (x2 < d (x0 + 1 + 2) 0) → (v_60 (x0 + 1) x1 x2 d = 0) → K (.inr 0) d) (h4 : (0 ≤ x1) → (x1 < d (x0 + 1 + 10) 0) → (0 ≤ x2) → (d (x0 + 1 + 2) 0 ≤ x2) → K (.inr 1) d) (h5 : (0 ≤ x1) → (d (x0 + 1 + 10) 0 ≤ x1) → K (.inr 1) d) : tCall E 150 [.inr (10, x0), .inl (0, x1), .inl (0, x2)] d K := by
  refine t_150_0 ?_
  have w0 : x0 = 0 := hx0
  have w2 := r_6_f2 hS (wbB.nw hx0)
  have w3 := r_3_f0 hS (stB.of (wbB.nw hx0))
  have w4 := r_4_f0 hS (stB.pe (wbB.nw hx0))
  have w5 := r_8_f0 hS (stB.ti (wbB.nw hx0))
  have w6 := r_9_f0 hS (stB.to (wbB.nw hx0))
  have w7 := r_7_f1 hS (wbB.tx hx0)
  refine k_166 hS hx0 (m_inR (by omega) (by omega)) (fun z0 => ?_) (fun z0 z1 => ?_) (fun z0 z1 => ?_)
  · exact h0 z0
  · refine t_150_5 ?_
    refine k_165 hS hx0 (m_inR (by omega) (by omega)) (fun z2 => ?_) (fun z2 z3 => ?_) (fun z2 z3 => ?_)
    · exact h1 z0 z1 z2
    · refine t_150_10 ?_
      refine k_60 hS (wbB.nw hx0) (m_inR (by omega) (by omega)) (by omega) (fun e1 => ?_)
      refine t_150_19 ?_
      refine ⟨m_inR (by omega) (by omega), fun c4 => ?_, fun c4 => ?_⟩
      · refine k_2 hS (wbB.hi hx0) (wbB.nw hx0) (by omega) (fun F1 hS1 => ?_)
        refine t_150_44 ?_
        have q1 : (g_2 (x0 + 64) (x0 + 1) d) (x0 + 1 + 49) 0 = d (x0 + 1 + 49) 0 := congrFun (F1 (x0 + 1 + 49) (by omega)) 0
        have q2 : (g_2 (x0 + 64) (x0 + 1) d) (x0 + 1) 2 = d (x0 + 1) 2 := congrFun (F1 (x0 + 1) (by omega)) 2
        refine k_61 hS1 (wbB.nw hx0) (by omega) (by omega) (by omega) (by omega) (fun e2 F2 hS2 => ?_)
        refine t_150_53 ?_
        exact h2 z0 z1 z2 z3 c4 (by omega) (fun b hb => (F2 b (by omega)).trans (F1 b (by omega))) hS2
      · exact h3 z0 z1 z2 z3 c4
    · exact h4 z0 z1 z2 z3
  · exact h5 z0 z1
theorem k_151 {E : mO × tW} {K : tK} {d : mD} {x0 x1 : Int} (hS : Safe d) (hx0 : wbB x0) (p1 : -2147483648 ≤ x1 ∧ x1 ≤ 2147483647) (h0 : (x1 < 0) → K (.inr 1) d) (h1 : (0 ≤ x1) → (x1 < d (x0 + 1 + 49) 0) → (d (x0 + 1 + 49 + 5) x1 = 0) → (-1000 ≤ ((d (x0 + 1) 2) - (d (x0 + 1 + 49 + 3) x1)) ∧ ((d (x0 + 1) 2) - (d (x0 + 1 + 49 + 3) x1)) ≤ 1199) → (∀ b : Int, (b < x0 + 9 ∨ x0 + 10 < b) ∧ (b < x0 + 54 ∨ x0 + 55 < b) ∧ (b < x0 + 64 ∨ x0 + 64 < b) ∧ (b < x0 + 66 ∨ x0 + 569 < b) → (g_97 (x0 + 1 + 49) x1 2 (d (x0 + 1) 2) (g_41 (x0 + 1 + 2) (d (x0 + 1 + 49 + 2) x1) (v_39 (x0 + 1 + 2) (d (x0 + 1 + 49 + 2) x1) x1 (g_2 (x0 + 64) (x0 + 1) d)) (g_2 (x0 + 64) (x0 + 1) d))) b = d b) → Safe (g_97 (x0 + 1 + 49) x1 2 (d (x0 + 1) 2) (g_41 (x0 + 1 + 2) (d (x0 + 1 + 49 + 2) x1) (v_39 (x0 + 1 + 2) (d (x0 + 1 + 49 + 2) x1) x1 (g_2 (x0 + 64) (x0 + 1) d)) (g_2 (x0 + 64) (x0 + 1) d))) → K (.inl (some (0, (d (x0 + 1) 2) - (d (x0 + 1 + 49 + 3) x1)))) (g_97 (x0 + 1 + 49) x1 2 (d (x0 + 1) 2) (g_41 (x0 + 1 + 2) (d (x0 + 1 + 49 + 2) x1) (v_39 (x0 + 1 + 2) (d (x0 + 1 + 49 + 2) x1) x1 (g_2 (x0 + 64) (x0 + 1) d)) (g_2 (x0 + 64) (x0 + 1) d)))) (h2 : (0 ≤ x1) → (x1 < d (x0 + 1 + 49) 0) → (¬ d (x0 + 1 + 49 + 5) x1 = 0) → K (.inr 0) d) (h3 : (0 ≤ x1) → (d (x0 + 1 + 49) 0 ≤ x1) → K (.inr 1) d) : tCall E 151 [.inr (10, x0), .inl (0, x1)] d K := by
  refine t_151_0 ?_
  have w0 : x0 = 0 := hx0
  have w2 := r_6_f2 hS (wbB.nw hx0)
  have w3 := r_3_f0 hS (stB.of (wbB.nw hx0))
  have w4 := r_4_f0 hS (stB.pe (wbB.nw hx0))
  have w5 := r_8_f0 hS (stB.ti (wbB.nw hx0))
  have w6 := r_9_f0 hS (stB.to (wbB.nw hx0))
  have w7 := r_7_f1 hS (wbB.tx hx0)
  refine k_167 hS hx0 (m_inR (by omega) (by omega)) (fun z0 => ?_) (fun z0 z1 => ?_) (fun z0 z1 => ?_)
  · exact h0 z0
  · refine t_151_5 ?_
    have q1 := r_8_5 hS (stB.ti (wbB.nw hx0)) x1
    refine ⟨by omega, m_inR (by omega) (by omega), fun c2 => ?_, fun c2 => ?_⟩
    · refine k_2 hS (wbB.hi hx0) (wbB.nw hx0) (by omega) (fun F1 hS1 => ?_)
      refine t_151_42 ?_
      rw [F1 (x0 + 1 + 49 + 2) (by omega)]
      refine ⟨by omega, ?_⟩
      have q2 := r_8_2 hS (stB.ti (wbB.nw hx0)) x1
      refine k_39 hS1 (stB.of (wbB.nw hx0)) (by omega) (m_inR (by omega) (by omega)) (fun e1 => ?_)
      refine t_151_75 ?_
      refine k_41 hS1 (stB.of (wbB.nw hx0)) (by omega) (m_inR (by omega) (by omega)) (fun F2 hS2 => ?_)
      refine t_151_78 ?_
      rw [F2 (x0 + 1) (by omega)]
      rw [F1 (x0 + 1) (by omega)]
      have q3 := r_6_f2 hS (wbB.nw hx0)
      refine k_97 hS2 (stB.ti (wbB.nw hx0)) (by omega) (by omega) (by omega) (fun F3 hS3 => ?_)
      refine t_151_97 ?_
      rw [F3 (x0 + 1) (by omega)]
      rw [F2 (x0 + 1) (by omega)]
      rw [F1 (x0 + 1) (by omega)]
      rw [F3 (x0 + 1 + 49 + 3) (by omega)]
      rw [F2 (x0 + 1 + 49 + 3) (by omega)]
      rw [F1 (x0 + 1 + 49 + 3) (by omega)]
      have q4 := r_8_3 hS (stB.ti (wbB.nw hx0)) x1
      refine ⟨by omega, ?_⟩
      exact h1 z0 z1 c2 (by omega) (fun b hb => (F3 b (by omega)).trans ((F2 b (by omega)).trans (F1 b (by omega)))) hS3
    · exact h2 z0 z1 c2
  · exact h3 z0 z1
theorem k_152 {E : mO × tW} {K : tK} {d : mD} {x0 x1 : Int} (hS : Safe d) (hx0 : wbB x0) (p1 : -2147483648 ≤ x1 ∧ x1 ≤ 2147483647) (h0 : (x1 < 1) → K (.inr 2) d) (h1 : (1 ≤ x1) → (x1 ≤ (99 : Int)) → (¬ v_67 (x0 + 1) x1 d = 0) → (0 ≤ (v_68 (x0 + 1) x1 (g_2 (x0 + 64) (x0 + 1) d)) ∧ (v_68 (x0 + 1) x1 (g_2 (x0 + 64) (x0 + 1) d)) ≤ 4800) → (∀ b : Int, (b < x0 + 1 ∨ x0 + 1 < b) ∧ (b < x0 + 9 ∨ x0 + 10 < b) ∧ (b < x0 + 13 ∨ x0 + 16 < b) ∧ (b < x0 + 19 ∨ x0 + 49 < b) ∧ (b < x0 + 54 ∨ x0 + 55 < b) ∧ (b < x0 + 58 ∨ x0 + 64 < b) ∧ (b < x0 + 66 ∨ x0 + 569 < b) → (g_68 (x0 + 1) x1 (g_2 (x0 + 64) (x0 + 1) d)) b = d b) → Safe (g_68 (x0 + 1) x1 (g_2 (x0 + 64) (x0 + 1) d)) → K (.inl (some (0, v_68 (x0 + 1) x1 (g_2 (x0 + 64) (x0 + 1) d)))) (g_68 (x0 + 1) x1 (g_2 (x0 + 64) (x0 + 1) d))) (h2 : (1 ≤ x1) → (x1 ≤ (99 : Int)) → (v_67 (x0 + 1) x1 d = 0) → K (.inr 0) d) (h3 : (1 ≤ x1) → ((99 : Int) < x1) → K (.inr 2) d) : tCall E 152 [.inr (10, x0), .inl (0, x1)] d K := by
  refine t_152_0 ?_
  have w0 : x0 = 0 := hx0
  have w2 := r_6_f2 hS (wbB.nw hx0)
  have w3 := r_3_f0 hS (stB.of (wbB.nw hx0))
  have w4 := r_4_f0 hS (stB.pe (wbB.nw hx0))
  have w5 := r_8_f0 hS (stB.ti (wbB.nw hx0))
  have w6 := r_9_f0 hS (stB.to (wbB.nw hx0))
  have w7 := r_7_f1 hS (wbB.tx hx0)
  refine ⟨⟨m_inR (by omega) (by omega), m_inR (by omega) (by omega)⟩, fun c0 => ?_, fun c0 => ?_⟩
  · exact h0 c0
  · refine ⟨⟨m_inR (by omega) (by omega), m_inR (by omega) (by omega)⟩, fun c1 => ?_, fun c1 => ?_⟩
    · refine k_67 hS (wbB.nw hx0) (by omega) (fun e1 => ?_)
      refine t_152_30 ?_
      refine ⟨m_inR (by omega) (by omega), fun c2 => ?_, fun c2 => ?_⟩
      · refine k_2 hS (wbB.hi hx0) (wbB.nw hx0) (by omega) (fun F1 hS1 => ?_)
        refine t_152_55 ?_
        have q1 : (g_2 (x0 + 64) (x0 + 1) d) (x0 + 1) 2 = d (x0 + 1) 2 := congrFun (F1 (x0 + 1) (by omega)) 2
        refine k_68 hS1 (wbB.nw hx0) (by omega) (by omega) (by omega) (fun e2 F2 n2_0 hS2 => ?_)
        refine t_152_63 ?_
        exact h1 c0 c1 c2 (by omega) (fun b hb => (F2 b (by omega)).trans (F1 b (by omega))) hS2
      · exact h2 c0 c1 c2
    · exact h3 c0 c1
theorem k_153 {E : mO × tW} {K : tK} {d : mD} {x0 x1 : Int} (hS : Safe d) (hx0 : wbB x0) (p1 : -2147483648 ≤ x1 ∧ x1 ≤ 2147483647) (h0 : (x1 < 0) → K (.inr 1) d) (h1 : (0 ≤ x1) → (x1 < d (x0 + 1 + 49) 0) → (¬ v_73 (x0 + 1) x1 d = 0) → (0 ≤ (v_74 (x0 + 1) x1 (g_2 (x0 + 64) (x0 + 1) d)) ∧ (v_74 (x0 + 1) x1 (g_2 (x0 + 64) (x0 + 1) d)) ≤ 200) → (∀ b : Int, (b < x0 + 14 ∨ x0 + 14 < b) ∧ (b < x0 + 19 ∨ x0 + 49 < b) ∧ (b < x0 + 56 ∨ x0 + 56 < b) ∧ (b < x0 + 58 ∨ x0 + 62 < b) ∧ (b < x0 + 64 ∨ x0 + 64 < b) ∧ (b < x0 + 66 ∨ x0 + 569 < b) → (g_74 (x0 + 1) x1 (g_2 (x0 + 64) (x0 + 1) d)) b = d b) → Safe (g_74 (x0 + 1) x1 (g_2 (x0 + 64) (x0 + 1) d)) → K (.inl (some (0, v_74 (x0 + 1) x1 (g_2 (x0 + 64) (x0 + 1) d)))) (g_74 (x0 + 1) x1 (g_2 (x0 + 64) (x0 + 1) d))) (h2 : (0 ≤ x1) → (x1 < d (x0 + 1 + 49) 0) → (v_73 (x0 + 1) x1 d = 0) → K (.inr 0) d) (h3 : (0 ≤ x1) → (d (x0 + 1 + 49) 0 ≤ x1) → K (.inr 1) d) : tCall E 153 [.inr (10, x0), .inl (0, x1)] d K := by
  refine t_153_0 ?_
  have w0 : x0 = 0 := hx0
  have w2 := r_6_f2 hS (wbB.nw hx0)
  have w3 := r_3_f0 hS (stB.of (wbB.nw hx0))
  have w4 := r_4_f0 hS (stB.pe (wbB.nw hx0))
  have w5 := r_8_f0 hS (stB.ti (wbB.nw hx0))
  have w6 := r_9_f0 hS (stB.to (wbB.nw hx0))
  have w7 := r_7_f1 hS (wbB.tx hx0)
  refine k_167 hS hx0 (m_inR (by omega) (by omega)) (fun z0 => ?_) (fun z0 z1 => ?_) (fun z0 z1 => ?_)
  · exact h0 z0
  · refine t_153_5 ?_
    refine k_73 hS (wbB.nw hx0) (by omega) (fun e1 => ?_)
    refine t_153_13 ?_
    refine ⟨m_inR (by omega) (by omega), fun c2 => ?_, fun c2 => ?_⟩
    · refine k_2 hS (wbB.hi hx0) (wbB.nw hx0) (by omega) (fun F1 hS1 => ?_)
      refine t_153_38 ?_
      refine k_74 hS1 (wbB.nw hx0) (by omega) (fun e2 F2 hS2 => ?_)
      refine t_153_46 ?_
      exact h1 z0 z1 c2 (by omega) (fun b hb => (F2 b (by omega)).trans (F1 b (by omega))) hS2
    · exact h2 z0 z1 c2
  · exact h3 z0 z1
theorem k_154 {E : mO × tW} {K : tK} {d : mD} {x0 x1 x2 : Int} (hS : Safe d) (hx0 : wbB x0) (p1 : -2147483648 ≤ x1 ∧ x1 ≤ 2147483647) (p2 : -2147483648 ≤ x2 ∧ x2 ≤ 2147483647) (h0 : (x1 < 0) → K (.inr 1) d) (h1 : (0 ≤ x1) → (x1 < d (x0 + 1 + 49) 0) → (x2 < 0) → K (.inr 1) d) (h2 : (0 ≤ x1) → (x1 < d (x0 + 1 + 49) 0) → (0 ≤ x2) → (x2 < d (x0 + 1 + 10) 0) → (v_77 (x0 + 1) x1 x2 d = 0) → (0 ≤ (v_75 (x0 + 1) x1 x2 (g_2 (x0 + 64) (x0 + 1) d)) ∧ (v_75 (x0 + 1) x1 x2 (g_2 (x0 + 64) (x0 + 1) d)) ≤ 200) → (∀ b : Int, (b < x0 + 14 ∨ x0 + 16 < b) ∧ (b < x0 + 19 ∨ x0 + 49 < b) ∧ (b < x0 + 56 ∨ x0 + 62 < b) ∧ (b < x0 + 64 ∨ x0 + 64 < b) ∧ (b < x0 + 66 ∨ x0 + 569 < b) → (g_75 (x0 + 1) x1 x2 (g_2 (x0 + 64) (x0 + 1) d)) b = d b) → Safe (g_75 (x0 + 1) x1 x2 (g_2 (x0 + 64) (x0 + 1) d)) → K (.inl (some (0, v_75 (x0 + 1) x1 x2 (g_2 (x0 + 64) (x0 + 1) d)))) (g_75 (x0 + 1) x1 x2 (g_2 (x0 + 64) (x0 + 1) d))) (h3 : (0 ≤ x1) → (x1 < d (x0 + 1 + 49) 0) → (0 ≤ x2) → (x2 < d (x0 + 1 + 10) 0) → (¬ v_77 (x0 + 1) x1 x2 d = 0) → K (.inr 0) d) (h4 : (0 ≤ x1) → (x1 < d (x0 + 1 + 49) 0) → (0 ≤ x2) → (d (x0 + 1 + 10) 0 ≤ x2) → K (.inr 1) d) (h5 : (0 ≤ x1) → (d (x0 + 1 + 49) 0 ≤ x1) → K (.inr 1) d) : tCall E 154 [.inr (10, x0), .inl (0, x1), .inl (0, x2)] d K := by
  refine t_154_0 ?_
  have w0 : x0 = 0 := hx0
  have w2 := r_6_f2 hS (wbB.nw hx0)
  have w3 := r_3_f0 hS (stB.of (wbB.nw hx0))
  have w4 := r_4_f0 hS (stB.pe (wbB.nw hx0))
  have w5 := r_8_f0 hS (stB.ti (wbB.nw hx0))
  have w6 := r_9_f0 hS (stB.to (wbB.nw hx0))
  have w7 := r_7_f1 hS (wbB.tx hx0)
  refine k_167 hS hx0 (m_inR (by omega) (by omega)) (fun z0 => ?_) (fun z0 z1 => ?_) (fun z0 z1 => ?_)
  · exact h0 z0
  · refine t_154_5 ?_
    refine k_166 hS hx0 (m_inR (by omega) (by omega)) (fun z2 => ?_) (fun z2 z3 => ?_) (fun z2 z3 => ?_)
    · exact h1 z0 z1 z2
    · refine t_154_10 ?_
      refine k_77 hS (wbB.nw hx0) (by omega) (by omega) (fun e1 => ?_)
      refine t_154_19 ?_
      refine ⟨m_inR (by omega) (by omega), fun c4 => ?_, fun c4 => ?_⟩
      · refine k_2 hS (wbB.hi hx0) (wbB.nw hx0) (by omega) (fun F1 hS1 => ?_)
        refine t_154_44 ?_
        have q1 : (g_2 (x0 + 64) (x0 + 1) d) (x0 + 1 + 10 + 4) x2 = d (x0 + 1 + 10 + 4) x2 := congrFun (F1 (x0 + 1 + 10 + 4) (by omega)) x2
        refine k_75 hS1 (wbB.nw hx0) (by omega) (by omega) (by omega) (fun e2 F2 hS2 => ?_)
        refine t_154_53 ?_
        exact h2 z0 z1 z2 z3 c4 (by omega) (fun b hb => (F2 b (by omega)).trans (F1 b (by omega))) hS2
      · exact h3 z0 z1 z2 z3 c4
    · exact h4 z0 z1 z2 z3
  · exact h5 z0 z1
theorem k_155 {E : mO × tW} {K : tK} {d : mD} {x0 x1 x2 x3 : Int} (hS : Safe d) (hx0 : wbB x0) (p1 : -2147483648 ≤ x1 ∧ x1 ≤ 2147483647) (p2 : -2147483648 ≤ x2 ∧ x2 ≤ 2147483647) (p3 : -2147483648 ≤ x3 ∧ x3 ≤ 2147483647) (h0 : (x1 < 0) → K (.inr 1) d) (h1 : (0 ≤ x1) → (x1 < d (x0 + 1 + 10) 0) → (x2 < 0) → K (.inr 1) d) (h2 : (0 ≤ x1) → (x1 < d (x0 + 1 + 10) 0) → (0 ≤ x2) → (x2 < d (x0 + 1 + 10) 0) → (x3 < 1) → K (.inr 2) d) (h3 : (0 ≤ x1) → (x1 < d (x0 + 1 + 10) 0) → (0 ≤ x2) → (x2 < d (x0 + 1 + 10) 0) → (1 ≤ x3) → (x3 ≤ (200 : Int)) → (x1 = x2) → K (.inr 0) d) (h4 : (0 ≤ x1) → (x1 < d (x0 + 1 + 10) 0) → (0 ≤ x2) → (x2 < d (x0 + 1 + 10) 0) → (1 ≤ x3) → (x3 ≤ (200 : Int)) → (¬ x1 = x2) → (x3 ≤ v_111 (x0 + 1 + 57) x1 0 d) → (0 ≤ (v_111 (x0 + 1 + 57) x2 0 (g_114 (x0 + 1 + 57) x1 x2 x3 (g_2 (x0 + 64) (x0 + 1) d))) ∧ (v_111 (x0 + 1 + 57) x2 0 (g_114 (x0 + 1 + 57) x1 x2 x3 (g_2 (x0 + 64) (x0 + 1) d))) ≤ 200) → (∀ b : Int, (b < x0 + 59 ∨ x0 + 59 < b) ∧ (b < x0 + 64 ∨ x0 + 64 < b) ∧ (b < x0 + 66 ∨ x0 + 569 < b) → (g_114 (x0 + 1 + 57) x1 x2 x3 (g_2 (x0 + 64) (x0 + 1) d)) b = d b) → Safe (g_114 (x0 + 1 + 57) x1 x2 x3 (g_2 (x0 + 64) (x0 + 1) d)) → K (.inl (some (0, v_111 (x0 + 1 + 57) x2 0 (g_114 (x0 + 1 + 57) x1 x2 x3 (g_2 (x0 + 64) (x0 + 1) d))))) (g_114 (x0 + 1 + 57) x1 x2 x3 (g_2 (x0 + 64) (x0 + 1) d))) (h5 : (0 ≤ x1) → (x1 < d (x0 + 1 + 10) 0) → (0 ≤ x2) → (x2 < d (x0 + 1 + 10) 0) → (1 ≤ x3) → (x3 ≤ (200 : Int)) → (¬ x1 = x2) → (v_111 (x0 + 1 + 57) x1 0 d < x3) → K (.inr 0) d) (h6 : (0 ≤ x1) → (x1 < d (x0 + 1 + 10) 0) → (0 ≤ x2) → (x2 < d (x0 + 1 + 10) 0) → (1 ≤ x3) → ((200 : Int) < x3) → K (.inr 2) d) (h7 : (0 ≤ x1) → (x1 < d (x0 + 1 + 10) 0) → (0 ≤ x2) → (d (x0 + 1 + 10) 0 ≤ x2) → K (.inr 1) d) (h8 : (0 ≤ x1) → (d (x0 + 1 + 10) 0 ≤ x1) → K (.inr 1) d) : tCall E 155 [.inr (10, x0), .inl (0, x1), .inl (0, x2), .inl (0, x3)] d K := by
  refine t_155_0 ?_
  have w0 : x0 = 0 := hx0
  have w2 := r_6_f2 hS (wbB.nw hx0)
  have w3 := r_3_f0 hS (stB.of (wbB.nw hx0))
  have w4 := r_4_f0 hS (stB.pe (wbB.nw hx0))
  have w5 := r_8_f0 hS (stB.ti (wbB.nw hx0))
  have w6 := r_9_f0 hS (stB.to (wbB.nw hx0))
  have w7 := r_7_f1 hS (wbB.tx hx0)
  refine k_166 hS hx0 (m_inR (by omega) (by omega)) (fun z0 => ?_) (fun z0 z1 => ?_) (fun z0 z1 => ?_)
  · exact h0 z0
  · refine t_155_5 ?_
    refine k_166 hS hx0 (m_inR (by omega) (by omega)) (fun z2 => ?_) (fun z2 z3 => ?_) (fun z2 z3 => ?_)
    · exact h1 z0 z1 z2
    · refine t_155_10 ?_
      refine k_171 hS hx0 (m_inR (by omega) (by omega)) (fun z4 => ?_) (fun z4 z5 => ?_) (fun z4 z5 => ?_)
      · exact h2 z0 z1 z2 z3 z4
      · refine t_155_15 ?_
        refine ⟨⟨m_inR (by omega) (by omega), m_inR (by omega) (by omega)⟩, fun c6 => ?_, fun c6 => ?_⟩
        · exact h3 z0 z1 z2 z3 z4 z5 c6
        · refine k_111 hS (stB.to (wbB.nw hx0)) (m_inR (by omega) (by omega)) (m_inR (by omega) (by omega)) (fun e1 => ?_)
          refine t_155_32 ?_
          refine ⟨⟨m_inR (by omega) (by omega), m_inR (by omega) (by omega)⟩, fun c7 => ?_, fun c7 => ?_⟩
          · refine k_2 hS (wbB.hi hx0) (wbB.nw hx0) (by omega) (fun F1 hS1 => ?_)
            refine t_155_58 ?_
            refine k_114 hS1 (stB.to (wbB.nw hx0)) (by omega) (by omega) (by omega) (fun F2 hS2 => ?_)
            refine t_155_71 ?_
            refine k_111 hS2 (stB.to (wbB.nw hx0)) (m_inR (by omega) (by omega)) (m_inR (by omega) (by omega)) (fun e2 => ?_)
            refine t_155_83 ?_
            exact h4 z0 z1 z2 z3 z4 z5 c6 c7 (by omega) (fun b hb => (F2 b (by omega)).trans (F1 b (by omega))) hS2
          · exact h5 z0 z1 z2 z3 z4 z5 c6 c7
      · exact h6 z0 z1 z2 z3 z4 z5
    · exact h7 z0 z1 z2 z3
  · exact h8 z0 z1
theorem k_156 {E : mO × tW} {K : tK} {d : mD} {x0 x1 x2 : Int} (hS : Safe d) (hx0 : wbB x0) (p1 : -2147483648 ≤ x1 ∧ x1 ≤ 2147483647) (p2 : -2147483648 ≤ x2 ∧ x2 ≤ 2147483647) (h0 : (x1 < 0) → K (.inr 1) d) (h1 : (0 ≤ x1) → (x1 < d (x0 + 1 + 10) 0) → (x2 < 1) → K (.inr 2) d) (h2 : (0 ≤ x1) → (x1 < d (x0 + 1 + 10) 0) → (1 ≤ x2) → (x2 ≤ (200 : Int)) → (x2 ≤ v_111 (x0 + 1 + 57) x1 0 d) → (0 ≤ (v_82 (x0 + 1) (g_115 (x0 + 1 + 57) x1 x2 (g_2 (x0 + 64) (x0 + 1) d))) ∧ (v_82 (x0 + 1) (g_115 (x0 + 1 + 57) x1 x2 (g_2 (x0 + 64) (x0 + 1) d))) ≤ 200) → (∀ b : Int, (b < x0 + 1 ∨ x0 + 1 < b) ∧ (b < x0 + 13 ∨ x0 + 13 < b) ∧ (b < x0 + 58 ∨ x0 + 58 < b) ∧ (b < x0 + 62 ∨ x0 + 64 < b) ∧ (b < x0 + 66 ∨ x0 + 569 < b) → (g_82 (x0 + 1) (g_115 (x0 + 1 + 57) x1 x2 (g_2 (x0 + 64) (x0 + 1) d))) b = d b) → Safe (g_82 (x0 + 1) (g_115 (x0 + 1 + 57) x1 x2 (g_2 (x0 + 64) (x0 + 1) d))) → K (.inl (some (0, v_82 (x0 + 1) (g_115 (x0 + 1 + 57) x1 x2 (g_2 (x0 + 64) (x0 + 1) d))))) (g_82 (x0 + 1) (g_115 (x0 + 1 + 57) x1 x2 (g_2 (x0 + 64) (x0 + 1) d)))) (h3 : (0 ≤ x1) → (x1 < d (x0 + 1 + 10) 0) → (1 ≤ x2) → (x2 ≤ (200 : Int)) → (v_111 (x0 + 1 + 57) x1 0 d < x2) → K (.inr 0) d) (h4 : (0 ≤ x1) → (x1 < d (x0 + 1 + 10) 0) → (1 ≤ x2) → ((200 : Int) < x2) → K (.inr 2) d) (h5 : (0 ≤ x1) → (d (x0 + 1 + 10) 0 ≤ x1) → K (.inr 1) d) : tCall E 156 [.inr (10, x0), .inl (0, x1), .inl (0, x2)] d K := by
  refine t_156_0 ?_
  have w0 : x0 = 0 := hx0
  have w2 := r_6_f2 hS (wbB.nw hx0)
  have w3 := r_3_f0 hS (stB.of (wbB.nw hx0))
  have w4 := r_4_f0 hS (stB.pe (wbB.nw hx0))
  have w5 := r_8_f0 hS (stB.ti (wbB.nw hx0))
  have w6 := r_9_f0 hS (stB.to (wbB.nw hx0))
  have w7 := r_7_f1 hS (wbB.tx hx0)
  refine k_166 hS hx0 (m_inR (by omega) (by omega)) (fun z0 => ?_) (fun z0 z1 => ?_) (fun z0 z1 => ?_)
  · exact h0 z0
  · refine t_156_5 ?_
    refine k_171 hS hx0 (m_inR (by omega) (by omega)) (fun z2 => ?_) (fun z2 z3 => ?_) (fun z2 z3 => ?_)
    · exact h1 z0 z1 z2
    · refine t_156_10 ?_
      refine k_111 hS (stB.to (wbB.nw hx0)) (m_inR (by omega) (by omega)) (m_inR (by omega) (by omega)) (fun e1 => ?_)
      refine t_156_22 ?_
      refine ⟨⟨m_inR (by omega) (by omega), m_inR (by omega) (by omega)⟩, fun c4 => ?_, fun c4 => ?_⟩
      · refine k_2 hS (wbB.hi hx0) (wbB.nw hx0) (by omega) (fun F1 hS1 => ?_)
        refine t_156_48 ?_
        refine k_115 hS1 (stB.to (wbB.nw hx0)) (by omega) (by omega) (fun F2 hS2 => ?_)
        refine t_156_60 ?_
        refine k_82 hS2 (wbB.nw hx0) (fun e2 F3 k3_0 hS3 => ?_)
        refine t_156_67 ?_
        exact h2 z0 z1 z2 z3 c4 (by omega) (fun b hb => (F3 b (by omega)).trans ((F2 b (by omega)).trans (F1 b (by omega)))) hS3
      · exact h3 z0 z1 z2 z3 c4
    · exact h4 z0 z1 z2 z3
  · exact h5 z0 z1
theorem k_157 {E : mO × tW} {K : tK} {d : mD} {x0 x1 : Int} (hS : Safe d) (hx0 : wbB x0) (p1 : -2147483648 ≤ x1 ∧ x1 ≤ 2147483647) (h0 : (x1 < 1) → K (.inr 2) d) (h1 : (1 ≤ x1) → (x1 ≤ (9999 : Int)) → ((d (x0 + 1) 1) + x1 ≤ (99999 : Int)) → (0 ≤ ((g_82 (x0 + 1) (mset (g_2 (x0 + 64) (x0 + 1) d) (x0 + 1) 1 ((d (x0 + 1) 1) + x1))) (x0 + 1) 1) ∧ ((g_82 (x0 + 1) (mset (g_2 (x0 + 64) (x0 + 1) d) (x0 + 1) 1 ((d (x0 + 1) 1) + x1))) (x0 + 1) 1) ≤ 99999) → (∀ b : Int, (b < x0 + 1 ∨ x0 + 1 < b) ∧ (b < x0 + 13 ∨ x0 + 13 < b) ∧ (b < x0 + 58 ∨ x0 + 58 < b) ∧ (b < x0 + 62 ∨ x0 + 64 < b) ∧ (b < x0 + 66 ∨ x0 + 569 < b) → (g_82 (x0 + 1) (mset (g_2 (x0 + 64) (x0 + 1) d) (x0 + 1) 1 ((d (x0 + 1) 1) + x1))) b = d b) → Safe (g_82 (x0 + 1) (mset (g_2 (x0 + 64) (x0 + 1) d) (x0 + 1) 1 ((d (x0 + 1) 1) + x1))) → K (.inl (some (0, (g_82 (x0 + 1) (mset (g_2 (x0 + 64) (x0 + 1) d) (x0 + 1) 1 ((d (x0 + 1) 1) + x1))) (x0 + 1) 1))) (g_82 (x0 + 1) (mset (g_2 (x0 + 64) (x0 + 1) d) (x0 + 1) 1 ((d (x0 + 1) 1) + x1)))) (h2 : (1 ≤ x1) → (x1 ≤ (9999 : Int)) → ((99999 : Int) < (d (x0 + 1) 1) + x1) → K (.inr 0) d) (h3 : (1 ≤ x1) → ((9999 : Int) < x1) → K (.inr 2) d) : tCall E 157 [.inr (10, x0), .inl (0, x1)] d K := by
  refine t_157_0 ?_
  have w0 : x0 = 0 := hx0
  have w2 := r_6_f2 hS (wbB.nw hx0)
  have w3 := r_3_f0 hS (stB.of (wbB.nw hx0))
  have w4 := r_4_f0 hS (stB.pe (wbB.nw hx0))
  have w5 := r_8_f0 hS (stB.ti (wbB.nw hx0))
  have w6 := r_9_f0 hS (stB.to (wbB.nw hx0))
  have w7 := r_7_f1 hS (wbB.tx hx0)
  refine ⟨⟨m_inR (by omega) (by omega), m_inR (by omega) (by omega)⟩, fun c0 => ?_, fun c0 => ?_⟩
  · exact h0 c0
  · refine ⟨⟨m_inR (by omega) (by omega), m_inR (by omega) (by omega)⟩, fun c1 => ?_, fun c1 => ?_⟩
    · have q1 := r_6_f1 hS (wbB.nw hx0)
      refine ⟨⟨m_inR (by omega) (by omega), m_inR (by omega) (by omega)⟩, fun c2 => ?_, fun c2 => ?_⟩
      · refine k_2 hS (wbB.hi hx0) (wbB.nw hx0) (by omega) (fun F1 hS1 => ?_)
        refine t_157_60 ?_
        rw [F1 (x0 + 1) (by omega)]
        have hS2 : Safe (mset (g_2 (x0 + 64) (x0 + 1) d) (x0 + 1) 1 ((d (x0 + 1) 1) + x1)) := s_6_f1 hS1 (wbB.nw hx0) (by omega)
        refine k_82 hS2 (wbB.nw hx0) (fun e1 F2 k2_0 hS3 => ?_)
        refine t_157_80 ?_
        have q2 := r_6_f1 hS3 (wbB.nw hx0)
        exact h1 c0 c1 c2 (by omega) (fun b hb => (F2 b (by omega)).trans ((mset_ne (by omega)).trans (F1 b (by omega)))) hS3
      · exact h2 c0 c1 c2
    · exact h3 c0 c1
theorem k_158 {E : mO × tW} {K : tK} {d : mD} {x0 x1 x2 : Int} (hS : Safe d) (hx0 : wbB x0) (p1 : -2147483648 ≤ x1 ∧ x1 ≤ 2147483647) (p2 : -2147483648 ≤ x2 ∧ x2 ≤ 2147483647) (h0 : (x1 < 0) → K (.inr 1) d) (h1 : (0 ≤ x1) → (x1 < d (x0 + 1 + 2) 0) → (x2 < 0) → K (.inr 1) d) (h2 : (0 ≤ x1) → (x1 < d (x0 + 1 + 2) 0) → (0 ≤ x2) → (x2 < d (x0 + 1 + 2) 0) → (x1 = x2) → K (.inr 0) d) (h3 : (0 ≤ x1) → (x1 < d (x0 + 1 + 2) 0) → (0 ≤ x2) → (x2 < d (x0 + 1 + 2) 0) → (¬ x1 = x2) → (d (x0 + 1 + 2 + 5) x1 = 0) → K (.inr 0) d) (h4 : (0 ≤ x1) → (x1 < d (x0 + 1 + 2) 0) → (0 ≤ x2) → (x2 < d (x0 + 1 + 2) 0) → (¬ x1 = x2) → (¬ d (x0 + 1 + 2 + 5) x1 = 0) → (¬ d (x0 + 1 + 2 + 5) x2 = 0) → (0 ≤ ((g_63 (x0 + 1) x1 x2 (g_2 (x0 + 64) (x0 + 1) d)) (x0 + 1 + 2 + 6) x2) ∧ ((g_63 (x0 + 1) x1 x2 (g_2 (x0 + 64) (x0 + 1) d)) (x0 + 1 + 2 + 6) x2) ≤ 16) → (∀ b : Int, (b < x0 + 8 ∨ x0 + 10 < b) ∧ (b < x0 + 52 ∨ x0 + 52 < b) ∧ (b < x0 + 54 ∨ x0 + 55 < b) ∧ (b < x0 + 64 ∨ x0 + 64 < b) ∧ (b < x0 + 66 ∨ x0 + 569 < b) → (g_63 (x0 + 1) x1 x2 (g_2 (x0 + 64) (x0 + 1) d)) b = d b) → Safe (g_63 (x0 + 1) x1 x2 (g_2 (x0 + 64) (x0 + 1) d)) → K (.inl (some (0, (g_63 (x0 + 1) x1 x2 (g_2 (x0 + 64) (x0 + 1) d)) (x0 + 1 + 2 + 6) x2))) (g_63 (x0 + 1) x1 x2 (g_2 (x0 + 64) (x0 + 1) d))) (h5 : (0 ≤ x1) → (x1 < d (x0 + 1 + 2) 0) → (0 ≤ x2) → (x2 < d (x0 + 1 + 2) 0) → (¬ x1 = x2) → (¬ d (x0 + 1 + 2 + 5) x1 = 0) → (d (x0 + 1 + 2 + 5) x2 = 0) → K (.inr 0) d) (h6 : (0 ≤ x1) → (x1 < d (x0 + 1 + 2) 0) → (0 ≤ x2) → (d (x0 + 1 + 2) 0 ≤ x2) → K (.inr 1) d) (h7 : (0 ≤ x1) → (d (x0 + 1 + 2) 0 ≤ x1) → K (.inr 1) d) : tCall E 158 [.inr (10, x0), .inl (0, x1), .inl (0, x2)] d K := by
  refine t_158_0 ?_
  have w0 : x0 = 0 := hx0
  have w2 := r_6_f2 hS (wbB.nw hx0)
  have w3 := r_3_f0 hS (stB.of (wbB.nw hx0))
  have w4 := r_4_f0 hS (stB.pe (wbB.nw hx0))
  have w5 := r_8_f0 hS (stB.ti (wbB.nw hx0))
  have w6 := r_9_f0 hS (stB.to (wbB.nw hx0))
  have w7 := r_7_f1 hS (wbB.tx hx0)
  refine k_172 hS hx0 (m_inR (by omega) (by omega)) (m_inR (by omega) (by omega)) (fun z0 => ?_) (fun z0 z1 z2 => ?_) (fun z0 z1 z2 z3 z4 => ?_) (fun z0 z1 z2 z3 z4 z5 => ?_) (fun z0 z1 z2 z3 z4 z5 z6 => ?_) (fun z0 z1 z2 z3 z4 z5 z6 => ?_) (fun z0 z1 z2 z3 => ?_) (fun z0 z1 => ?_)
  · exact h0 z0
  · exact h1 z0 z1 z2
  · exact h2 z0 z1 z2 z3 z4
  · exact h3 z0 z1 z2 z3 z4 z5
  · refine t_158_6 ?_
    refine k_2 hS (wbB.hi hx0) (wbB.nw hx0) (by omega) (fun F1 hS1 => ?_)
    refine t_158_17 ?_
    refine k_63 hS1 (wbB.nw hx0) (by omega) (by omega) (fun F2 hS2 => ?_)
    refine t_158_26 ?_
    have q1 := r_3_6 hS2 (stB.of (wbB.nw hx0)) x2
    refine ⟨by omega, ?_⟩
    exact h4 z0 z1 z2 z3 z4 z5 z6 (by omega) (fun b hb => (F2 b (by omega)).trans (F1 b (by omega))) hS2
  · exact h5 z0 z1 z2 z3 z4 z5 z6
  · exact h6 z0 z1 z2 z3
  · exact h7 z0 z1
theorem k_159 {E : mO × tW} {K : tK} {d : mD} {x0 x1 : Int} (hS : Safe d) (hx0 : wbB x0) (p1 : -2147483648 ≤ x1 ∧ x1 ≤ 2147483647) (h0 : (x1 < 0) → K (.inr 1) d) (h1 : (0 ≤ x1) → (x1 < d (x0 + 1 + 2) 0) → (d (x0 + 1 + 2 + 5) x1 = 0) → (0 ≤ (v_37 (x0 + 1 + 2) (mset (g_2 (x0 + 64) (x0 + 1) d) (x0 + 1 + 2 + 5) x1 1)) ∧ (v_37 (x0 + 1 + 2) (mset (g_2 (x0 + 64) (x0 + 1) d) (x0 + 1 + 2 + 5) x1 1)) ≤ 6) → (∀ b : Int, (b < x0 + 8 ∨ x0 + 8 < b) ∧ (b < x0 + 64 ∨ x0 + 64 < b) ∧ (b < x0 + 66 ∨ x0 + 569 < b) → (mset (g_2 (x0 + 64) (x0 + 1) d) (x0 + 1 + 2 + 5) x1 1) b = d b) → Safe (mset (g_2 (x0 + 64) (x0 + 1) d) (x0 + 1 + 2 + 5) x1 1) → K (.inl (some (0, v_37 (x0 + 1 + 2) (mset (g_2 (x0 + 64) (x0 + 1) d) (x0 + 1 + 2 + 5) x1 1)))) (mset (g_2 (x0 + 64) (x0 + 1) d) (x0 + 1 + 2 + 5) x1 1)) (h2 : (0 ≤ x1) → (x1 < d (x0 + 1 + 2) 0) → (¬ d (x0 + 1 + 2 + 5) x1 = 0) → K (.inr 0) d) (h3 : (0 ≤ x1) → (d (x0 + 1 + 2) 0 ≤ x1) → K (.inr 1) d) : tCall E 159 [.inr (10, x0), .inl (0, x1)] d K := by
  refine t_159_0 ?_
  have w0 : x0 = 0 := hx0
  have w2 := r_6_f2 hS (wbB.nw hx0)
  have w3 := r_3_f0 hS (stB.of (wbB.nw hx0))
  have w4 := r_4_f0 hS (stB.pe (wbB.nw hx0))
  have w5 := r_8_f0 hS (stB.ti (wbB.nw hx0))
  have w6 := r_9_f0 hS (stB.to (wbB.nw hx0))
  have w7 := r_7_f1 hS (wbB.tx hx0)
  refine k_165 hS hx0 (m_inR (by omega) (by omega)) (fun z0 => ?_) (fun z0 z1 => ?_) (fun z0 z1 => ?_)
  · exact h0 z0
  · refine t_159_5 ?_
    have q1 := r_3_5 hS (stB.of (wbB.nw hx0)) x1
    refine ⟨by omega, m_inR (by omega) (by omega), fun c2 => ?_, fun c2 => ?_⟩
    · refine k_2 hS (wbB.hi hx0) (wbB.nw hx0) (by omega) (fun F1 hS1 => ?_)
      refine t_159_42 ?_
      refine ⟨by omega, ?_⟩
      have hS2 : Safe (mset (g_2 (x0 + 64) (x0 + 1) d) (x0 + 1 + 2 + 5) x1 1) := s_3_5 hS1 (stB.of (wbB.nw hx0)) (by omega)
      refine k_37 hS2 (stB.of (wbB.nw hx0)) (fun e1 => ?_)
      refine t_159_65 ?_
      exact h1 z0 z1 c2 (by omega) (fun b hb => (mset_ne (by omega)).trans (F1 b (by omega))) hS2
    · exact h2 z0 z1 c2
  · exact h3 z0 z1
theorem k_160 {E : mO × tW} {K : tK} {d : mD} {x0 : Int} (hS : Safe d) (hx0 : wbB x0) (h0 : (¬ v_93 (x0 + 578) 0 (d (x0 + 578) 1) d = (-1)) → (16 ≤ d (x0 + 1 + 10) 0) → (∀ b : Int, (b < x0 + 11 ∨ x0 + 16 < b) ∧ (b < x0 + 19 ∨ x0 + 49 < b) ∧ (b < x0 + 64 ∨ x0 + 64 < b) ∧ (b < x0 + 66 ∨ x0 + 569 < b) ∧ (b < x0 + 578 ∨ x0 + 578 < b) → (mset d (x0 + 578) 1 0) b = d b) → Safe (mset d (x0 + 578) 1 0) → K (.inr 0) (mset d (x0 + 578) 1 0)) (h1 : (¬ v_93 (x0 + 578) 0 (d (x0 + 578) 1) d = (-1)) → (d (x0 + 1 + 10) 0 < 16) → (v_48 (x0 + 1 + 10) (v_93 (x0 + 578) 0 (d (x0 + 578) 1) d) (mset d (x0 + 578) 1 0) = (-1)) → (-1 ≤ (((g_47 (x0 + 1 + 10) (v_93 (x0 + 578) 0 (d (x0 + 578) 1) d) (g_2 (x0 + 64) (x0 + 1) (mset d (x0 + 578) 1 0))) (x0 + 1 + 10) 0) - 1) ∧ (((g_47 (x0 + 1 + 10) (v_93 (x0 + 578) 0 (d (x0 + 578) 1) d) (g_2 (x0 + 64) (x0 + 1) (mset d (x0 + 578) 1 0))) (x0 + 1 + 10) 0) - 1) ≤ 16) → (∀ b : Int, (b < x0 + 11 ∨ x0 + 16 < b) ∧ (b < x0 + 19 ∨ x0 + 49 < b) ∧ (b < x0 + 64 ∨ x0 + 64 < b) ∧ (b < x0 + 66 ∨ x0 + 569 < b) ∧ (b < x0 + 578 ∨ x0 + 578 < b) → (g_47 (x0 + 1 + 10) (v_93 (x0 + 578) 0 (d (x0 + 578) 1) d) (g_2 (x0 + 64) (x0 + 1) (mset d (x0 + 578) 1 0))) b = d b) → Safe (g_47 (x0 + 1 + 10) (v_93 (x0 + 578) 0 (d (x0 + 578) 1) d) (g_2 (x0 + 64) (x0 + 1) (mset d (x0 + 578) 1 0))) → K (.inl (some (0, ((g_47 (x0 + 1 + 10) (v_93 (x0 + 578) 0 (d (x0 + 578) 1) d) (g_2 (x0 + 64) (x0 + 1) (mset d (x0 + 578) 1 0))) (x0 + 1 + 10) 0) - 1))) (g_47 (x0 + 1 + 10) (v_93 (x0 + 578) 0 (d (x0 + 578) 1) d) (g_2 (x0 + 64) (x0 + 1) (mset d (x0 + 578) 1 0)))) (h2 : (¬ v_93 (x0 + 578) 0 (d (x0 + 578) 1) d = (-1)) → (d (x0 + 1 + 10) 0 < 16) → (¬ v_48 (x0 + 1 + 10) (v_93 (x0 + 578) 0 (d (x0 + 578) 1) d) (mset d (x0 + 578) 1 0) = (-1)) → (∀ b : Int, (b < x0 + 11 ∨ x0 + 16 < b) ∧ (b < x0 + 19 ∨ x0 + 49 < b) ∧ (b < x0 + 64 ∨ x0 + 64 < b) ∧ (b < x0 + 66 ∨ x0 + 569 < b) ∧ (b < x0 + 578 ∨ x0 + 578 < b) → (mset d (x0 + 578) 1 0) b = d b) → Safe (mset d (x0 + 578) 1 0) → K (.inr 0) (mset d (x0 + 578) 1 0)) (h3 : (v_93 (x0 + 578) 0 (d (x0 + 578) 1) d = (-1)) → (∀ b : Int, (b < x0 + 11 ∨ x0 + 16 < b) ∧ (b < x0 + 19 ∨ x0 + 49 < b) ∧ (b < x0 + 64 ∨ x0 + 64 < b) ∧ (b < x0 + 66 ∨ x0 + 569 < b) ∧ (b < x0 + 578 ∨ x0 + 578 < b) → (mset d (x0 + 578) 1 0) b = d b) → Safe (mset d (x0 + 578) 1 0) → K (.inr 2) (mset d (x0 + 578) 1 0)) : tCall E 160 [.inr (10, x0)] d K := by
  refine t_160_0 ?_
  have w0 : x0 = 0 := hx0
  have w2 := r_6_f2 hS (wbB.nw hx0)
  have w3 := r_3_f0 hS (stB.of (wbB.nw hx0))
  have w4 := r_4_f0 hS (stB.pe (wbB.nw hx0))
  have w5 := r_8_f0 hS (stB.ti (wbB.nw hx0))
  have w6 := r_9_f0 hS (stB.to (wbB.nw hx0))
  have w7 := r_7_f1 hS (wbB.tx hx0)
  have q1 := r_7_f1 hS (wbB.tx hx0)
  refine k_93 hS (wbB.tx hx0) (by omega) (by omega) (fun e1 => ?_)
  refine t_160_15 ?_
  have hS1 : Safe (mset d (x0 + 578) 1 0) := s_7_f1 hS (wbB.tx hx0) (by omega)
  refine ⟨⟨m_inR (by omega) (by omega), m_inR (by omega) (by omega)⟩, fun c0 => ?_, fun c0 => ?_⟩
  · rw [mset_ni (d := d) (a := x0 + 578) (i := (1 : Int)) (v := (0 : Int)) (b := x0 + 1 + 10) (j := (0 : Int)) (by omega)]
    have q2 := r_4_f0 hS (stB.pe (wbB.nw hx0))
    refine ⟨⟨m_inR (by omega) (by omega), m_inR (by omega) (by omega)⟩, fun c1 => ?_, fun c1 => ?_⟩
    · exact h0 c0 c1 (fun b hb => mset_ne (by omega)) hS1
    · refine k_48 hS1 (stB.pe (wbB.nw hx0)) (m_inR (by omega) (by omega)) (fun e2 => ?_)
      refine t_160_66 ?_
      refine ⟨⟨m_inR (by omega) (by omega), m_inR (by omega) (by omega)⟩, fun c2 => ?_, fun c2 => ?_⟩
      · have q3 : (mset d (x0 + 578) 1 0) (x0 + 1) 2 = d (x0 + 1) 2 := congrFun (mset_ne (by omega)) 2
        refine k_2 hS1 (wbB.hi hx0) (wbB.nw hx0) (by omega) (fun F1 hS2 => ?_)
        refine t_160_92 ?_
        refine k_47 hS2 (stB.pe (wbB.nw hx0)) (by omega) (fun F2 hS3 => ?_)
        refine t_160_103 ?_
        have q4 := r_4_f0 hS3 (stB.pe (wbB.nw hx0))
        exact h1 c0 c1 c2 (by omega) (fun b hb => (F2 b (by omega)).trans ((F1 b (by omega)).trans (mset_ne (by omega)))) hS3
      · exact h2 c0 c1 c2 (fun b hb => mset_ne (by omega)) hS1
  · exact h3 c0 (fun b hb => mset_ne (by omega)) hS1
theorem k_161 {E : mO × tW} {K : tK} {d : mD} {x0 x1 x2 : Int} (hE : EOK E) (hS : Safe d) (hx0 : wbB x0) (p1 : -2147483648 ≤ x1 ∧ x1 ≤ 2147483647) (p2 : -2147483648 ≤ x2 ∧ x2 ≤ 2147483647) (h0 : (x1 < 0) → K (.inr 2) d) (h1 : (0 ≤ x1) → (x1 < 5) → (x2 < E.1.2 0 x1) → K (.inr 2) d) (h2 : (0 ≤ x1) → (x1 < 5) → (E.1.2 0 x1 ≤ x2) → (x2 ≤ E.1.2 1 x1) → (0 ≤ (d (x0 + 1 + 1) x1) ∧ (d (x0 + 1 + 1) x1) ≤ 99) → (∀ b : Int, (b < x0 + 2 ∨ x0 + 2 < b) ∧ (b < x0 + 64 ∨ x0 + 64 < b) ∧ (b < x0 + 66 ∨ x0 + 569 < b) → (mset (g_2 (x0 + 64) (x0 + 1) d) (x0 + 1 + 1) x1 x2) b = d b) → Safe (mset (g_2 (x0 + 64) (x0 + 1) d) (x0 + 1 + 1) x1 x2) → K (.inl (some (0, d (x0 + 1 + 1) x1))) (mset (g_2 (x0 + 64) (x0 + 1) d) (x0 + 1 + 1) x1 x2)) (h3 : (0 ≤ x1) → (x1 < 5) → (E.1.2 0 x1 ≤ x2) → (E.1.2 1 x1 < x2) → K (.inr 2) d) (h4 : (0 ≤ x1) → (5 ≤ x1) → K (.inr 2) d) : tCall E 161 [.inr (10, x0), .inl (0, x1), .inl (0, x2)] d K := by
  refine t_161_0 ?_
  have w0 : x0 = 0 := hx0
  have w2 := r_6_f2 hS (wbB.nw hx0)
  have w3 := r_3_f0 hS (stB.of (wbB.nw hx0))
  have w4 := r_4_f0 hS (stB.pe (wbB.nw hx0))
  have w5 := r_8_f0 hS (stB.ti (wbB.nw hx0))
  have w6 := r_9_f0 hS (stB.to (wbB.nw hx0))
  have w7 := r_7_f1 hS (wbB.tx hx0)
  refine k_169 hS hx0 (m_inR (by omega) (by omega)) (fun z0 => ?_) (fun z0 z1 => ?_) (fun z0 z1 => ?_)
  · exact h0 z0
  · refine t_161_5 ?_
    have q1 := EOK.rd hE (i := x1) (by omega)
    refine ⟨(by have := hE.1; have := hE.2.1; omega), ⟨m_inR (by omega) (by omega), m_inR (by omega) (by omega)⟩, fun c2 => ?_, fun c2 => ?_⟩
    · exact h1 z0 z1 c2
    · refine ⟨(by have := hE.1; have := hE.2.1; omega), ⟨m_inR (by omega) (by omega), m_inR (by omega) (by omega)⟩, fun c3 => ?_, fun c3 => ?_⟩
      · refine k_2 hS (wbB.hi hx0) (wbB.nw hx0) (by omega) (fun F1 hS1 => ?_)
        refine t_161_45 ?_
        rw [F1 (x0 + 1 + 1) (by omega)]
        refine ⟨by omega, by omega, ?_⟩
        have hS2 : Safe (mset (g_2 (x0 + 64) (x0 + 1) d) (x0 + 1 + 1) x1 x2) := s_6_1 hS1 (wbB.nw hx0) (by omega)
        have q2 := r_6_1 hS (wbB.nw hx0) x1
        exact h2 z0 z1 c2 c3 (by omega) (fun b hb => (mset_ne (by omega)).trans (F1 b (by omega))) hS2
      · exact h3 z0 z1 c2 c3
  · exact h4 z0 z1
theorem k_162 {E : mO × tW} {K : tK} {d : mD} {x0 : Int} (hS : Safe d) (hx0 : wbB x0) (h0 : (¬ d (x0 + 64) 2 = 0) → (0 ≤ ((g_3 (x0 + 64) (x0 + 1) d) (x0 + 64) 2) ∧ ((g_3 (x0 + 64) (x0 + 1) d) (x0 + 64) 2) ≤ 8) → (∀ b : Int, (b < x0 + 1 ∨ x0 + 16 < b) ∧ (b < x0 + 19 ∨ x0 + 64 < b) → (g_3 (x0 + 64) (x0 + 1) d) b = d b) → Safe (g_3 (x0 + 64) (x0 + 1) d) → K (.inl (some (0, (g_3 (x0 + 64) (x0 + 1) d) (x0 + 64) 2))) (g_3 (x0 + 64) (x0 + 1) d)) (h1 : (d (x0 + 64) 2 = 0) → K (.inr 0) d) : tCall E 162 [.inr (10, x0)] d K := by
  refine t_162_0 ?_
  have w0 : x0 = 0 := hx0
  have w2 := r_6_f2 hS (wbB.nw hx0)
  have w3 := r_3_f0 hS (stB.of (wbB.nw hx0))
  have w4 := r_4_f0 hS (stB.pe (wbB.nw hx0))
  have w5 := r_8_f0 hS (stB.ti (wbB.nw hx0))
  have w6 := r_9_f0 hS (stB.to (wbB.nw hx0))
  have w7 := r_7_f1 hS (wbB.tx hx0)
  have q1 := r_0_f2 hS (wbB.hi hx0)
  refine ⟨m_inR (by omega) (by omega), fun c0 => ?_, fun c0 => ?_⟩
  · refine k_3 hS (wbB.hi hx0) (wbB.nw hx0) (by omega) (fun F1 hS1 => ?_)
    refine t_162_32 ?_
    have q2 := r_0_f2 hS1 (wbB.hi hx0)
    exact h0 c0 (by omega) (fun b hb => F1 b (by omega)) hS1
  · exact h1 c0
theorem k_163 {E : mO × tW} {K : tK} {d : mD} {x0 x1 : Int} (hS : Safe d) (hx0 : wbB x0) (p1 : -2147483648 ≤ x1 ∧ x1 ≤ 2147483647) (h0 : (x1 < 0) → K (.inr 1) d) (h1 : (0 ≤ x1) → (x1 < 2) → (∀ b : Int, (b < x0 + 571 ∨ x0 + 571 < b) ∧ (b < x0 + 643 ∨ x0 + 768 < b) → (mset (g_59 (x0 + 570 + (73 + 63 * x1)) (x0 + 1) d) (x0 + 571) x1 1) b = d b) → Safe (mset (g_59 (x0 + 570 + (73 + 63 * x1)) (x0 + 1) d) (x0 + 571) x1 1) → K (.inl none) (mset (g_59 (x0 + 570 + (73 + 63 * x1)) (x0 + 1) d) (x0 + 571) x1 1)) (h2 : (0 ≤ x1) → (2 ≤ x1) → K (.inr 1) d) : tCall E 163 [.inr (10, x0), .inl (0, x1)] d K := by
  refine t_163_0 ?_
  have w0 : x0 = 0 := hx0
  have w2 := r_6_f2 hS (wbB.nw hx0)
  have w3 := r_3_f0 hS (stB.of (wbB.nw hx0))
  have w4 := r_4_f0 hS (stB.pe (wbB.nw hx0))
  have w5 := r_8_f0 hS (stB.ti (wbB.nw hx0))
  have w6 := r_9_f0 hS (stB.to (wbB.nw hx0))
  have w7 := r_7_f1 hS (wbB.tx hx0)
  refine k_168 hS hx0 (m_inR (by omega) (by omega)) (fun z0 => ?_) (fun z0 z1 => ?_) (fun z0 z1 => ?_)
  · exact h0 z0
  · refine t_163_5 ?_
    refine ⟨by omega, ?_⟩
    have hp1 : stB (x0 + 570 + (73 + 63 * x1)) := wbB.sv hx0 (by omega) (by omega)
    refine k_59 hS hp1 (wbB.nw hx0) (by omega) (fun F1 k1_0 hS2 => ?_)
    refine t_163_18 ?_
    refine ⟨by omega, ?_⟩
    have hS3 : Safe (mset (g_59 (x0 + 570 + (73 + 63 * x1)) (x0 + 1) d) (x0 + 571) x1 1) := s_10_571 hS2 hx0 (by omega)
    exact h1 z0 z1 (fun b hb => (mset_ne (by omega)).trans (F1 b (by omega))) hS3
  · exact h2 z0 z1
theorem k_164 {E : mO × tW} {K : tK} {d : mD} {x0 x1 : Int} (hS : Safe d) (hx0 : wbB x0) (p1 : -2147483648 ≤ x1 ∧ x1 ≤ 2147483647) (h0 : (x1 < 0) → K (.inr 1) d) (h1 : (0 ≤ x1) → (x1 < 2) → (¬ d (x0 + 571) x1 = 0) → (∀ b : Int, (b < x0 + 1 ∨ x0 + 16 < b) ∧ (b < x0 + 19 ∨ x0 + 64 < b) → (g_4 (x0 + 64) (g_59 (x0 + 1) (x0 + 570 + (73 + 63 * x1)) d)) b = d b) → Safe (g_4 (x0 + 64) (g_59 (x0 + 1) (x0 + 570 + (73 + 63 * x1)) d)) → K (.inl none) (g_4 (x0 + 64) (g_59 (x0 + 1) (x0 + 570 + (73 + 63 * x1)) d))) (h2 : (0 ≤ x1) → (x1 < 2) → (d (x0 + 571) x1 = 0) → K (.inr 3) d) (h3 : (0 ≤ x1) → (2 ≤ x1) → K (.inr 1) d) : tCall E 164 [.inr (10, x0), .inl (0, x1)] d K := by
  refine t_164_0 ?_
  have w0 : x0 = 0 := hx0
  have w2 := r_6_f2 hS (wbB.nw hx0)
  have w3 := r_3_f0 hS (stB.of (wbB.nw hx0))
  have w4 := r_4_f0 hS (stB.pe (wbB.nw hx0))
  have w5 := r_8_f0 hS (stB.ti (wbB.nw hx0))
  have w6 := r_9_f0 hS (stB.to (wbB.nw hx0))
  have w7 := r_7_f1 hS (wbB.tx hx0)
  refine k_168 hS hx0 (m_inR (by omega) (by omega)) (fun z0 => ?_) (fun z0 z1 => ?_) (fun z0 z1 => ?_)
  · exact h0 z0
  · refine t_164_5 ?_
    have q1 := r_10_571 hS hx0 x1
    refine ⟨by omega, m_inR (by omega) (by omega), fun c2 => ?_, fun c2 => ?_⟩
    · refine ⟨by omega, ?_⟩
      have hp1 : stB (x0 + 570 + (73 + 63 * x1)) := wbB.sv hx0 (by omega) (by omega)
      refine k_59 hS (wbB.nw hx0) hp1 (by have w := r_6_f2 hS hp1; omega) (fun F1 k1_0 hS2 => ?_)
      refine t_164_38 ?_
      refine k_4 hS2 (wbB.hi hx0) (fun F2 hS3 => ?_)
      refine t_164_45 ?_
      exact h1 z0 z1 c2 (fun b hb => (F2 b (by omega)).trans (F1 b (by omega))) hS3
    · exact h2 z0 z1 c2
  · exact h3 z0 z1
/-! ===== contracts of the methods: printed by a program of mine ===== -/
def st_134_10 (x0 x1 x2 : Int) (r10 : Int → Int → mD → Int) (x3 x4 : Int) (d : mD) : Int := if x4 < d (x0 + 1 + 10) 0 then (if v_77 (x0 + 1) x1 x4 d = 0 then (if x3 = x2 then x4 else r10 (x3 + 1) (x4 + 1) d) else r10 x3 (x4 + 1) d) else (-103)
def lp_134_10 (x0 x1 x2 : Int) : Nat → Int → Int → mD → Int
  | 0 => st_134_10 x0 x1 x2 (fun _ _ d => 0)
  | n + 1 => st_134_10 x0 x1 x2 (lp_134_10 x0 x1 x2 n)
theorem ls_134_10 {E : mO × tW} {K : tK} {x0 x1 x2 : Int} (hx0 : wbB x0) (p1 : -2147483648 ≤ x1 ∧ x1 ≤ 2147483647) (p2 : -2147483648 ≤ x2 ∧ x2 ≤ 2147483647) (N10 : Int) (r10 : Int → Int → mD → Int) (ih10 : ∀ (x3 x4 : Int) (d : mD), Safe d → (0 ≤ x4 ∧ x4 ≤ 16) → (0 ≤ x1 ∧ x1 ≤ 59) → (0 ≤ x3 ∧ x3 ≤ x4) → 0 ≤ 16 - x4 → 16 - x4 < N10 → ((0 ≤ (r10 x3 x4 d) → (0 ≤ (r10 x3 x4 d) ∧ (r10 x3 x4 d) ≤ 15) → K (.inl (some (0, (r10 x3 x4 d)))) d) ∧ ((r10 x3 x4 d) = -103 → K (.inr 3) d)) → tRun E 134 (10, [.inr (10, x0), .inl (0, x1), .inl (0, x2), .inl (0, x3), .inl (0, x4)], [], 1, 6, d) K) (x3 x4 : Int) (d : mD) (hS : Safe d) (i0 : 0 ≤ x4 ∧ x4 ≤ 16) (i1 : 0 ≤ x1 ∧ x1 ≤ 59) (i2 : 0 ≤ x3 ∧ x3 ≤ x4) (hm : 16 - x4 ≤ N10) (h : (0 ≤ (st_134_10 x0 x1 x2 r10 x3 x4 d) → (0 ≤ (st_134_10 x0 x1 x2 r10 x3 x4 d) ∧ (st_134_10 x0 x1 x2 r10 x3 x4 d) ≤ 15) → K (.inl (some (0, (st_134_10 x0 x1 x2 r10 x3 x4 d)))) d) ∧ ((st_134_10 x0 x1 x2 r10 x3 x4 d) = -103 → K (.inr 3) d)) : tRun E 134 (10, [.inr (10, x0), .inl (0, x1), .inl (0, x2), .inl (0, x3), .inl (0, x4)], [], 1, 6, d) K := by
  refine t_134_10 ?_
  have q1 := r_4_f0 hS (stB.pe (wbB.nw hx0))
  refine ⟨⟨m_inR (by omega) (by omega), m_inR (by omega) (by omega)⟩, fun c0 => ?_, fun c0 => ?_⟩
  · have y0 : st_134_10 x0 x1 x2 r10 x3 x4 d = (-103) := by simp only [st_134_10, if_neg (show ¬ x4 < d (x0 + 1 + 10) 0 from Int.not_lt.mpr c0)]
    rw [y0] at h
    exact h.2 rfl
  · refine k_77 hS (wbB.nw hx0) (by omega) (by omega) (fun e1 => ?_)
    refine t_134_35 ?_
    refine ⟨m_inR (by omega) (by omega), fun c1 => ?_, fun c1 => ?_⟩
    · refine ih10 x3 (x4 + 1)  d hS (by omega) (by omega) (by omega) (by omega) (by omega) ?_
      have y0 : st_134_10 x0 x1 x2 r10 x3 x4 d = r10 x3 (x4 + 1) d := by simp only [st_134_10, if_pos (show x4 < d (x0 + 1 + 10) 0 from c0), if_neg (show ¬ v_77 (x0 + 1) x1 x4 d = 0 from c1)]
      rw [y0] at h
      exact h
    · refine ⟨⟨m_inR (by omega) (by omega), m_inR (by omega) (by omega)⟩, fun c2 => ?_, fun c2 => ?_⟩
      · refine ih10 (x3 + 1) (x4 + 1)  d hS (by omega) (by omega) (by omega) (by omega) (by omega) ?_
        have y0 : st_134_10 x0 x1 x2 r10 x3 x4 d = r10 (x3 + 1) (x4 + 1) d := by simp only [st_134_10, if_pos (show x4 < d (x0 + 1 + 10) 0 from c0), if_pos (show v_77 (x0 + 1) x1 x4 d = 0 from c1), if_neg (show ¬ x3 = x2 from c2)]
        rw [y0] at h
        exact h
      · have y0 : st_134_10 x0 x1 x2 r10 x3 x4 d = x4 := by simp only [st_134_10, if_pos (show x4 < d (x0 + 1 + 10) 0 from c0), if_pos (show v_77 (x0 + 1) x1 x4 d = 0 from c1), if_pos (show x3 = x2 from c2)]
        rw [y0] at h
        exact h.1 (by omega) (show 0 ≤ x4 ∧ x4 ≤ 15 from (by omega))
theorem l_134_10 {E : mO × tW} {K : tK} {x0 x1 x2 : Int} (hx0 : wbB x0) (p1 : -2147483648 ≤ x1 ∧ x1 ≤ 2147483647) (p2 : -2147483648 ≤ x2 ∧ x2 ≤ 2147483647) : ∀ (n : Nat) (x3 x4 : Int) (d : mD), Safe d → (0 ≤ x4 ∧ x4 ≤ 16) → (0 ≤ x1 ∧ x1 ≤ 59) → (0 ≤ x3 ∧ x3 ≤ x4) → 16 - x4 ≤ (n : Int) → ((0 ≤ (lp_134_10 x0 x1 x2 n x3 x4 d) → (0 ≤ (lp_134_10 x0 x1 x2 n x3 x4 d) ∧ (lp_134_10 x0 x1 x2 n x3 x4 d) ≤ 15) → K (.inl (some (0, (lp_134_10 x0 x1 x2 n x3 x4 d)))) d) ∧ ((lp_134_10 x0 x1 x2 n x3 x4 d) = -103 → K (.inr 3) d)) → tRun E 134 (10, [.inr (10, x0), .inl (0, x1), .inl (0, x2), .inl (0, x3), .inl (0, x4)], [], 1, 6, d) K := by
  intro n
  induction n with
  | zero =>
    intro x3 x4  d hS i0 i1 i2 hm  h
    exact ls_134_10 hx0 p1 p2 0 _ (fun _ _  _ _ _ _ _ m0 m1 _ => absurd m1 (by omega)) x3 x4  d hS i0 i1 i2 hm  h
  | succ n ih =>
    intro x3 x4  d hS i0 i1 i2 hm  h
    exact ls_134_10 hx0 p1 p2 ((n + 1 : Nat) : Int) _ (fun x3 x4  d hS i0 i1 i2  m0 m1 h => ih x3 x4  d hS i0 i1 i2 (by omega)  h) x3 x4  d hS i0 i1 i2 hm  h
theorem k_134 {E : mO × tW} {K : tK} {d : mD} {x0 x1 x2 : Int} (hS : Safe d) (hx0 : wbB x0) (p1 : -2147483648 ≤ x1 ∧ x1 ≤ 2147483647) (p2 : -2147483648 ≤ x2 ∧ x2 ≤ 2147483647) (h0 : (x1 < 0) → K (.inr 1) d) (h1 : (0 ≤ x1) → (x1 < d (x0 + 1 + 49) 0) → (0 ≤ (lp_134_10 x0 x1 x2 (16 - 0 : Int).toNat 0 0 d) → (0 ≤ (lp_134_10 x0 x1 x2 (16 - 0 : Int).toNat 0 0 d) ∧ (lp_134_10 x0 x1 x2 (16 - 0 : Int).toNat 0 0 d) ≤ 15) → K (.inl (some (0, (lp_134_10 x0 x1 x2 (16 - 0 : Int).toNat 0 0 d)))) d) ∧ ((lp_134_10 x0 x1 x2 (16 - 0 : Int).toNat 0 0 d) = -103 → K (.inr 3) d)) (h2 : (0 ≤ x1) → (d (x0 + 1 + 49) 0 ≤ x1) → K (.inr 1) d) : tCall E 134 [.inr (10, x0), .inl (0, x1), .inl (0, x2)] d K := by
  refine t_134_0 ?_
  have w0 : x0 = 0 := hx0
  have w2 := r_6_f2 hS (wbB.nw hx0)
  have w3 := r_3_f0 hS (stB.of (wbB.nw hx0))
  have w4 := r_4_f0 hS (stB.pe (wbB.nw hx0))
  have w5 := r_8_f0 hS (stB.ti (wbB.nw hx0))
  have w6 := r_9_f0 hS (stB.to (wbB.nw hx0))
  have w7 := r_7_f1 hS (wbB.tx hx0)
  refine k_167 hS hx0 (m_inR (by omega) (by omega)) (fun z0 => ?_) (fun z0 z1 => ?_) (fun z0 z1 => ?_)
  · exact h0 z0
  · refine t_134_5 ?_
    refine l_134_10 hx0 p1 p2 (16 - 0 : Int).toNat 0 0  d hS (by omega) (by omega) (by omega) (by omega) ?_
    exact h1 z0 z1
  · exact h2 z0 z1
def st_139_4 (x0 : Int) (r4 : Int → Int → mD → Int × mD) (x1 x2 : Int) (d : mD) : Int × mD := if x2 < d (x0 + 1 + 10) 0 then r4 (x1 + (v_9 (x0 + 574) (g_72 (x0 + 1) x2 (x0 + 574) d))) (x2 + 1) (g_72 (x0 + 1) x2 (x0 + 574) d) else if x1 = 0 then (0, d) else (mddiv (mi2d (d (x0 + 1 + 57) 0)) (mi2d x1), d)
def lp_139_4 (x0 : Int) : Nat → Int → Int → mD → Int × mD
  | 0 => st_139_4 x0 (fun _ _ d => (0, d))
  | n + 1 => st_139_4 x0 (lp_139_4 x0 n)
theorem ls_139_4 {E : mO × tW} {K : tK} {x0 : Int} (hx0 : wbB x0) (N4 : Int) (r4 : Int → Int → mD → Int × mD) (ih4 : ∀ (x1 x2 : Int) (d : mD), Safe d → (0 ≤ x2 ∧ x2 ≤ 16) → (0 ≤ x1 ∧ x1 ≤ 2032 * x2) → 0 ≤ 16 - x2 → 16 - x2 < N4 → ((∀ b : Int, (b < x0 + 575 ∨ x0 + 575 < b) → (r4 x1 x2 d).2 b = d b) → Safe (r4 x1 x2 d).2 → K (.inl (some (2, (r4 x1 x2 d).1))) (r4 x1 x2 d).2) → tRun E 139 (4, [.inr (10, x0), .inl (0, x1), .inl (0, x2)], [], 0, 0, d) K) (x1 x2 : Int) (d : mD) (hS : Safe d) (i0 : 0 ≤ x2 ∧ x2 ≤ 16) (i1 : 0 ≤ x1 ∧ x1 ≤ 2032 * x2) (hm : 16 - x2 ≤ N4) (h : (∀ b : Int, (b < x0 + 575 ∨ x0 + 575 < b) → (st_139_4 x0 r4 x1 x2 d).2 b = d b) → Safe (st_139_4 x0 r4 x1 x2 d).2 → K (.inl (some (2, (st_139_4 x0 r4 x1 x2 d).1))) (st_139_4 x0 r4 x1 x2 d).2) : tRun E 139 (4, [.inr (10, x0), .inl (0, x1), .inl (0, x2)], [], 0, 0, d) K := by
  refine t_139_4 ?_
  have q1 := r_4_f0 hS (stB.pe (wbB.nw hx0))
  refine ⟨⟨m_inR (by omega) (by omega), m_inR (by omega) (by omega)⟩, fun c0 => ?_, fun c0 => ?_⟩
  · refine ⟨m_inR (by omega) (by omega), fun c1 => ?_, fun c1 => ?_⟩
    · refine ⟨dd_ok (by omega), ?_⟩
      have y0 : st_139_4 x0 r4 x1 x2 d = (mddiv (mi2d (d (x0 + 1 + 57) 0)) (mi2d x1), d) := by simp only [st_139_4, if_neg (show ¬ x2 < d (x0 + 1 + 10) 0 from Int.not_lt.mpr c0), if_neg (show ¬ x1 = 0 from c1)]
      rw [y0] at h
      exact h (show ∀ b : Int, (b < x0 + 575 ∨ x0 + 575 < b) → d b = d b from fun _ _ => rfl) hS
    · have y0 : st_139_4 x0 r4 x1 x2 d = (0, d) := by simp only [st_139_4, if_neg (show ¬ x2 < d (x0 + 1 + 10) 0 from Int.not_lt.mpr c0), if_pos (show x1 = 0 from c1)]
      rw [y0] at h
      exact h (show ∀ b : Int, (b < x0 + 575 ∨ x0 + 575 < b) → d b = d b from fun _ _ => rfl) hS
  · refine k_72 hS (wbB.nw hx0) (wbB.lo hx0) (m_inR (by omega) (by omega)) (fun F1 hS1 => ?_)
    refine t_139_30 ?_
    refine k_9 hS1 (wbB.lo hx0) (fun e1 => ?_)
    refine t_139_38 ?_
    refine ih4 (x1 + (v_9 (x0 + 574) (g_72 (x0 + 1) x2 (x0 + 574) d))) (x2 + 1)  (g_72 (x0 + 1) x2 (x0 + 574) d) hS1 (by omega) (by omega) (by omega) (by omega) ?_
    intro F hS_
    have y0 : st_139_4 x0 r4 x1 x2 d = r4 (x1 + (v_9 (x0 + 574) (g_72 (x0 + 1) x2 (x0 + 574) d))) (x2 + 1) (g_72 (x0 + 1) x2 (x0 + 574) d) := by simp only [st_139_4, if_pos (show x2 < d (x0 + 1 + 10) 0 from c0)]
    rw [y0] at h
    exact h (fun b hb => (F b hb).trans ((show ∀ b : Int, (b < x0 + 575 ∨ x0 + 575 < b) → (g_72 (x0 + 1) x2 (x0 + 574) d) b = d b from fun b hb => F1 b (by omega)) b hb)) hS_
theorem l_139_4 {E : mO × tW} {K : tK} {x0 : Int} (hx0 : wbB x0) : ∀ (n : Nat) (x1 x2 : Int) (d : mD), Safe d → (0 ≤ x2 ∧ x2 ≤ 16) → (0 ≤ x1 ∧ x1 ≤ 2032 * x2) → 16 - x2 ≤ (n : Int) → ((∀ b : Int, (b < x0 + 575 ∨ x0 + 575 < b) → (lp_139_4 x0 n x1 x2 d).2 b = d b) → Safe (lp_139_4 x0 n x1 x2 d).2 → K (.inl (some (2, (lp_139_4 x0 n x1 x2 d).1))) (lp_139_4 x0 n x1 x2 d).2) → tRun E 139 (4, [.inr (10, x0), .inl (0, x1), .inl (0, x2)], [], 0, 0, d) K := by
  intro n
  induction n with
  | zero =>
    intro x1 x2  d hS i0 i1 hm  h
    exact ls_139_4 hx0 0 _ (fun _ _  _ _ _ _ m0 m1 _ => absurd m1 (by omega)) x1 x2  d hS i0 i1 hm  h
  | succ n ih =>
    intro x1 x2  d hS i0 i1 hm  h
    exact ls_139_4 hx0 ((n + 1 : Nat) : Int) _ (fun x1 x2  d hS i0 i1  m0 m1 h => ih x1 x2  d hS i0 i1 (by omega)  h) x1 x2  d hS i0 i1 hm  h
def f_139 (x0 : Int) (d : mD) : Int × mD := lp_139_4 x0 (16 - 0 : Int).toNat 0 0 d
def v_139 (x0 : Int) (d : mD) : Int := (f_139 x0 d).1
def g_139 (x0 : Int) (d : mD) : mD := (f_139 x0 d).2
theorem k_139 {E : mO × tW} {K : tK} {d : mD} {x0 : Int} (hS : Safe d) (hx0 : wbB x0) (h : (∀ b : Int, (b < x0 + 575 ∨ x0 + 575 < b) → (g_139 x0 d) b = d b) → Safe (g_139 x0 d) → K (.inl (some (2, (v_139 x0 d)))) (g_139 x0 d)) : tCall E 139 [.inr (10, x0)] d K := by
  simp only [v_139, g_139] at h
  refine t_139_0 ?_
  have w0 : x0 = 0 := hx0
  have w2 := r_6_f2 hS (wbB.nw hx0)
  have w3 := r_3_f0 hS (stB.of (wbB.nw hx0))
  have w4 := r_4_f0 hS (stB.pe (wbB.nw hx0))
  have w5 := r_8_f0 hS (stB.ti (wbB.nw hx0))
  have w6 := r_9_f0 hS (stB.to (wbB.nw hx0))
  have w7 := r_7_f1 hS (wbB.tx hx0)
  refine l_139_4 hx0 (16 - 0 : Int).toNat 0 0  d hS (by omega) (by omega) (by omega) ?_
  intro F hS_
  have y0 : f_139 x0 d = lp_139_4 x0 (16 - 0 : Int).toNat 0 0 d := by simp only [f_139]
  rw [y0] at h
  exact h F hS_
def st_140_6 (x0 : Int) (r6 : Int → Int → Int → mD → Int × mD) (x1 x2 x3 : Int) (d : mD) : Int × mD := if x3 < d (x0 + 1 + 10) 0 then (if x2 < v_9 (x0 + 574) (g_72 (x0 + 1) x3 (x0 + 574) d) then r6 x3 (v_9 (x0 + 574) (g_72 (x0 + 1) x3 (x0 + 574) d)) (x3 + 1) (g_72 (x0 + 1) x3 (x0 + 574) d) else r6 x1 x2 (x3 + 1) (g_72 (x0 + 1) x3 (x0 + 574) d)) else (x1, d)
def lp_140_6 (x0 : Int) : Nat → Int → Int → Int → mD → Int × mD
  | 0 => st_140_6 x0 (fun _ _ _ d => (0, d))
  | n + 1 => st_140_6 x0 (lp_140_6 x0 n)
theorem ls_140_6 {E : mO × tW} {K : tK} {x0 : Int} (hx0 : wbB x0) (N6 : Int) (r6 : Int → Int → Int → mD → Int × mD) (ih6 : ∀ (x1 x2 x3 : Int) (v4 : tV) (d : mD), Safe d → (0 ≤ x3 ∧ x3 ≤ 16) → (-1 ≤ x1 ∧ x1 ≤ 15) → (0 ≤ x2 ∧ x2 ≤ 2032) → 0 ≤ 16 - x3 → 16 - x3 < N6 → ((-1 ≤ (r6 x1 x2 x3 d).1 ∧ (r6 x1 x2 x3 d).1 ≤ 15) → (∀ b : Int, (b < x0 + 575 ∨ x0 + 575 < b) → (r6 x1 x2 x3 d).2 b = d b) → Safe (r6 x1 x2 x3 d).2 → K (.inl (some (0, (r6 x1 x2 x3 d).1))) (r6 x1 x2 x3 d).2) → tRun E 140 (6, [.inr (10, x0), .inl (0, x1), .inl (0, x2), .inl (0, x3), v4], [], 0, 0, d) K) (x1 x2 x3 : Int) (v4 : tV) (d : mD) (hS : Safe d) (i0 : 0 ≤ x3 ∧ x3 ≤ 16) (i1 : -1 ≤ x1 ∧ x1 ≤ 15) (i2 : 0 ≤ x2 ∧ x2 ≤ 2032) (hm : 16 - x3 ≤ N6) (h : (-1 ≤ (st_140_6 x0 r6 x1 x2 x3 d).1 ∧ (st_140_6 x0 r6 x1 x2 x3 d).1 ≤ 15) → (∀ b : Int, (b < x0 + 575 ∨ x0 + 575 < b) → (st_140_6 x0 r6 x1 x2 x3 d).2 b = d b) → Safe (st_140_6 x0 r6 x1 x2 x3 d).2 → K (.inl (some (0, (st_140_6 x0 r6 x1 x2 x3 d).1))) (st_140_6 x0 r6 x1 x2 x3 d).2) : tRun E 140 (6, [.inr (10, x0), .inl (0, x1), .inl (0, x2), .inl (0, x3), v4], [], 0, 0, d) K := by
  refine t_140_6 ?_
  have q1 := r_4_f0 hS (stB.pe (wbB.nw hx0))
  refine ⟨⟨m_inR (by omega) (by omega), m_inR (by omega) (by omega)⟩, fun c0 => ?_, fun c0 => ?_⟩
  · have y0 : st_140_6 x0 r6 x1 x2 x3 d = (x1, d) := by simp only [st_140_6, if_neg (show ¬ x3 < d (x0 + 1 + 10) 0 from Int.not_lt.mpr c0)]
    rw [y0] at h
    exact h (show -1 ≤ x1 ∧ x1 ≤ 15 from (by omega)) (show ∀ b : Int, (b < x0 + 575 ∨ x0 + 575 < b) → d b = d b from fun _ _ => rfl) hS
  · refine k_72 hS (wbB.nw hx0) (wbB.lo hx0) (m_inR (by omega) (by omega)) (fun F1 hS1 => ?_)
    refine t_140_32 ?_
    refine k_9 hS1 (wbB.lo hx0) (fun e1 => ?_)
    refine t_140_39 ?_
    refine ⟨⟨m_inR (by omega) (by omega), m_inR (by omega) (by omega)⟩, fun c1 => ?_, fun c1 => ?_⟩
    · refine ih6 x1 x2 (x3 + 1) (.inl (0, v_9 (x0 + 574) (g_72 (x0 + 1) x3 (x0 + 574) d))) (g_72 (x0 + 1) x3 (x0 + 574) d) hS1 (by omega) (by omega) (by omega) (by omega) (by omega) ?_
      intro e F hS_
      have y0 : st_140_6 x0 r6 x1 x2 x3 d = r6 x1 x2 (x3 + 1) (g_72 (x0 + 1) x3 (x0 + 574) d) := by simp only [st_140_6, if_pos (show x3 < d (x0 + 1 + 10) 0 from c0), if_neg (show ¬ x2 < v_9 (x0 + 574) (g_72 (x0 + 1) x3 (x0 + 574) d) from Int.not_lt.mpr c1)]
      rw [y0] at h
      exact h e (fun b hb => (F b hb).trans ((show ∀ b : Int, (b < x0 + 575 ∨ x0 + 575 < b) → (g_72 (x0 + 1) x3 (x0 + 574) d) b = d b from fun b hb => F1 b (by omega)) b hb)) hS_
    · refine ih6 x3 (v_9 (x0 + 574) (g_72 (x0 + 1) x3 (x0 + 574) d)) (x3 + 1) (.inl (0, v_9 (x0 + 574) (g_72 (x0 + 1) x3 (x0 + 574) d))) (g_72 (x0 + 1) x3 (x0 + 574) d) hS1 (by omega) (by omega) (by omega) (by omega) (by omega) ?_
      intro e F hS_
      have y0 : st_140_6 x0 r6 x1 x2 x3 d = r6 x3 (v_9 (x0 + 574) (g_72 (x0 + 1) x3 (x0 + 574) d)) (x3 + 1) (g_72 (x0 + 1) x3 (x0 + 574) d) := by simp only [st_140_6, if_pos (show x3 < d (x0 + 1 + 10) 0 from c0), if_pos (show x2 < v_9 (x0 + 574) (g_72 (x0 + 1) x3 (x0 + 574) d) from c1)]
      rw [y0] at h
      exact h e (fun b hb => (F b hb).trans ((show ∀ b : Int, (b < x0 + 575 ∨ x0 + 575 < b) → (g_72 (x0 + 1) x3 (x0 + 574) d) b = d b from fun b hb => F1 b (by omega)) b hb)) hS_
theorem l_140_6 {E : mO × tW} {K : tK} {x0 : Int} (hx0 : wbB x0) : ∀ (n : Nat) (x1 x2 x3 : Int) (v4 : tV) (d : mD), Safe d → (0 ≤ x3 ∧ x3 ≤ 16) → (-1 ≤ x1 ∧ x1 ≤ 15) → (0 ≤ x2 ∧ x2 ≤ 2032) → 16 - x3 ≤ (n : Int) → ((-1 ≤ (lp_140_6 x0 n x1 x2 x3 d).1 ∧ (lp_140_6 x0 n x1 x2 x3 d).1 ≤ 15) → (∀ b : Int, (b < x0 + 575 ∨ x0 + 575 < b) → (lp_140_6 x0 n x1 x2 x3 d).2 b = d b) → Safe (lp_140_6 x0 n x1 x2 x3 d).2 → K (.inl (some (0, (lp_140_6 x0 n x1 x2 x3 d).1))) (lp_140_6 x0 n x1 x2 x3 d).2) → tRun E 140 (6, [.inr (10, x0), .inl (0, x1), .inl (0, x2), .inl (0, x3), v4], [], 0, 0, d) K := by
  intro n
  induction n with
  | zero =>
    intro x1 x2 x3 v4 d hS i0 i1 i2 hm  h
    exact ls_140_6 hx0 0 _ (fun _ _ _ _ _ _ _ _ _ m0 m1 _ => absurd m1 (by omega)) x1 x2 x3 v4 d hS i0 i1 i2 hm  h
  | succ n ih =>
    intro x1 x2 x3 v4 d hS i0 i1 i2 hm  h
    exact ls_140_6 hx0 ((n + 1 : Nat) : Int) _ (fun x1 x2 x3 v4 d hS i0 i1 i2  m0 m1 h => ih x1 x2 x3 v4 d hS i0 i1 i2 (by omega)  h) x1 x2 x3 v4 d hS i0 i1 i2 hm  h
def f_140 (x0 : Int) (d : mD) : Int × mD := lp_140_6 x0 (16 - 0 : Int).toNat ((-1)) 0 0 d
def v_140 (x0 : Int) (d : mD) : Int := (f_140 x0 d).1
def g_140 (x0 : Int) (d : mD) : mD := (f_140 x0 d).2
theorem k_140 {E : mO × tW} {K : tK} {d : mD} {x0 : Int} (hS : Safe d) (hx0 : wbB x0) (h : (-1 ≤ (v_140 x0 d) ∧ (v_140 x0 d) ≤ 15) → (∀ b : Int, (b < x0 + 575 ∨ x0 + 575 < b) → (g_140 x0 d) b = d b) → Safe (g_140 x0 d) → K (.inl (some (0, (v_140 x0 d)))) (g_140 x0 d)) : tCall E 140 [.inr (10, x0)] d K := by
  simp only [v_140, g_140] at h
  refine t_140_0 ?_
  have w0 : x0 = 0 := hx0
  have w2 := r_6_f2 hS (wbB.nw hx0)
  have w3 := r_3_f0 hS (stB.of (wbB.nw hx0))
  have w4 := r_4_f0 hS (stB.pe (wbB.nw hx0))
  have w5 := r_8_f0 hS (stB.ti (wbB.nw hx0))
  have w6 := r_9_f0 hS (stB.to (wbB.nw hx0))
  have w7 := r_7_f1 hS (wbB.tx hx0)
  refine l_140_6 hx0 (16 - 0 : Int).toNat ((-1)) 0 0 tu d hS (by omega) (by omega) (by omega) (by omega) ?_
  intro e F hS_
  have y0 : f_140 x0 d = lp_140_6 x0 (16 - 0 : Int).toNat ((-1)) 0 0 d := by simp only [f_140]
  rw [y0] at h
  exact h e F hS_
def st_146_8 (x0 : Int) (r8 : Int → Int → Int → mD → Int) (x1 x2 x3 : Int) (d : mD) : Int := if x3 < d (x0 + 1 + 2) 0 then (if v_173 x0 x3 d = (-1) then r8 x1 x2 (x3 + 1) d else if v_173 x0 x3 d < x2 then r8 x3 (v_173 x0 x3 d) (x3 + 1) d else r8 x1 x2 (x3 + 1) d) else if x1 = (-1) then (-103) else x1
def lp_146_8 (x0 : Int) : Nat → Int → Int → Int → mD → Int
  | 0 => st_146_8 x0 (fun _ _ _ d => 0)
  | n + 1 => st_146_8 x0 (lp_146_8 x0 n)
theorem ls_146_8 {E : mO × tW} {K : tK} {x0 : Int} (hx0 : wbB x0) (N8 : Int) (r8 : Int → Int → Int → mD → Int) (ih8 : ∀ (x1 x2 x3 : Int) (v4 : tV) (d : mD), Safe d → (0 ≤ x3 ∧ x3 ≤ 6) → (-1 ≤ x1 ∧ x1 ≤ 5) → (0 ≤ x2 ∧ x2 ≤ 201) → 0 ≤ 6 - x3 → 6 - x3 < N8 → ((0 ≤ (r8 x1 x2 x3 d) → (0 ≤ (r8 x1 x2 x3 d) ∧ (r8 x1 x2 x3 d) ≤ 5) → K (.inl (some (0, (r8 x1 x2 x3 d)))) d) ∧ ((r8 x1 x2 x3 d) = -103 → K (.inr 3) d)) → tRun E 146 (8, [.inr (10, x0), .inl (0, x1), .inl (0, x2), .inl (0, x3), v4], [], 0, 0, d) K) (x1 x2 x3 : Int) (v4 : tV) (d : mD) (hS : Safe d) (i0 : 0 ≤ x3 ∧ x3 ≤ 6) (i1 : -1 ≤ x1 ∧ x1 ≤ 5) (i2 : 0 ≤ x2 ∧ x2 ≤ 201) (hm : 6 - x3 ≤ N8) (h : (0 ≤ (st_146_8 x0 r8 x1 x2 x3 d) → (0 ≤ (st_146_8 x0 r8 x1 x2 x3 d) ∧ (st_146_8 x0 r8 x1 x2 x3 d) ≤ 5) → K (.inl (some (0, (st_146_8 x0 r8 x1 x2 x3 d)))) d) ∧ ((st_146_8 x0 r8 x1 x2 x3 d) = -103 → K (.inr 3) d)) : tRun E 146 (8, [.inr (10, x0), .inl (0, x1), .inl (0, x2), .inl (0, x3), v4], [], 0, 0, d) K := by
  refine t_146_8 ?_
  have q1 := r_3_f0 hS (stB.of (wbB.nw hx0))
  refine ⟨⟨m_inR (by omega) (by omega), m_inR (by omega) (by omega)⟩, fun c0 => ?_, fun c0 => ?_⟩
  · refine ⟨⟨m_inR (by omega) (by omega), m_inR (by omega) (by omega)⟩, fun c1 => ?_, fun c1 => ?_⟩
    · have y0 : st_146_8 x0 r8 x1 x2 x3 d = x1 := by simp only [st_146_8, if_neg (show ¬ x3 < d (x0 + 1 + 2) 0 from Int.not_lt.mpr c0), if_neg (show ¬ x1 = (-1) from c1)]
      rw [y0] at h
      exact h.1 (by omega) (show 0 ≤ x1 ∧ x1 ≤ 5 from (by omega))
    · have y0 : st_146_8 x0 r8 x1 x2 x3 d = (-103) := by simp only [st_146_8, if_neg (show ¬ x3 < d (x0 + 1 + 2) 0 from Int.not_lt.mpr c0), if_pos (show x1 = (-1) from c1)]
      rw [y0] at h
      exact h.2 rfl
  · refine k_173 hS hx0 (by omega) (fun e1 => ?_)
    refine t_146_27 ?_
    refine ⟨⟨m_inR (by omega) (by omega), m_inR (by omega) (by omega)⟩, fun c1 => ?_, fun c1 => ?_⟩
    · refine ih8 x1 x2 (x3 + 1) (.inl (0, v_173 x0 x3 d)) d hS (by omega) (by omega) (by omega) (by omega) (by omega) ?_
      have y0 : st_146_8 x0 r8 x1 x2 x3 d = r8 x1 x2 (x3 + 1) d := by simp only [st_146_8, if_pos (show x3 < d (x0 + 1 + 2) 0 from c0), if_pos (show v_173 x0 x3 d = (-1) from c1)]
      rw [y0] at h
      exact h
    · refine ⟨⟨m_inR (by omega) (by omega), m_inR (by omega) (by omega)⟩, fun c2 => ?_, fun c2 => ?_⟩
      · refine ih8 x1 x2 (x3 + 1) (.inl (0, v_173 x0 x3 d)) d hS (by omega) (by omega) (by omega) (by omega) (by omega) ?_
        have y0 : st_146_8 x0 r8 x1 x2 x3 d = r8 x1 x2 (x3 + 1) d := by simp only [st_146_8, if_pos (show x3 < d (x0 + 1 + 2) 0 from c0), if_neg (show ¬ v_173 x0 x3 d = (-1) from c1), if_neg (show ¬ v_173 x0 x3 d < x2 from Int.not_lt.mpr c2)]
        rw [y0] at h
        exact h
      · refine ih8 x3 (v_173 x0 x3 d) (x3 + 1) (.inl (0, v_173 x0 x3 d)) d hS (by omega) (by omega) (by omega) (by omega) (by omega) ?_
        have y0 : st_146_8 x0 r8 x1 x2 x3 d = r8 x3 (v_173 x0 x3 d) (x3 + 1) d := by simp only [st_146_8, if_pos (show x3 < d (x0 + 1 + 2) 0 from c0), if_neg (show ¬ v_173 x0 x3 d = (-1) from c1), if_pos (show v_173 x0 x3 d < x2 from c2)]
        rw [y0] at h
        exact h
theorem l_146_8 {E : mO × tW} {K : tK} {x0 : Int} (hx0 : wbB x0) : ∀ (n : Nat) (x1 x2 x3 : Int) (v4 : tV) (d : mD), Safe d → (0 ≤ x3 ∧ x3 ≤ 6) → (-1 ≤ x1 ∧ x1 ≤ 5) → (0 ≤ x2 ∧ x2 ≤ 201) → 6 - x3 ≤ (n : Int) → ((0 ≤ (lp_146_8 x0 n x1 x2 x3 d) → (0 ≤ (lp_146_8 x0 n x1 x2 x3 d) ∧ (lp_146_8 x0 n x1 x2 x3 d) ≤ 5) → K (.inl (some (0, (lp_146_8 x0 n x1 x2 x3 d)))) d) ∧ ((lp_146_8 x0 n x1 x2 x3 d) = -103 → K (.inr 3) d)) → tRun E 146 (8, [.inr (10, x0), .inl (0, x1), .inl (0, x2), .inl (0, x3), v4], [], 0, 0, d) K := by
  intro n
  induction n with
  | zero =>
    intro x1 x2 x3 v4 d hS i0 i1 i2 hm  h
    exact ls_146_8 hx0 0 _ (fun _ _ _ _ _ _ _ _ _ m0 m1 _ => absurd m1 (by omega)) x1 x2 x3 v4 d hS i0 i1 i2 hm  h
  | succ n ih =>
    intro x1 x2 x3 v4 d hS i0 i1 i2 hm  h
    exact ls_146_8 hx0 ((n + 1 : Nat) : Int) _ (fun x1 x2 x3 v4 d hS i0 i1 i2  m0 m1 h => ih x1 x2 x3 v4 d hS i0 i1 i2 (by omega)  h) x1 x2 x3 v4 d hS i0 i1 i2 hm  h
theorem k_146 {E : mO × tW} {K : tK} {d : mD} {x0 : Int} (hS : Safe d) (hx0 : wbB x0) (h0 : (0 ≤ (lp_146_8 x0 (6 - 0 : Int).toNat ((-1)) 201 0 d) → (0 ≤ (lp_146_8 x0 (6 - 0 : Int).toNat ((-1)) 201 0 d) ∧ (lp_146_8 x0 (6 - 0 : Int).toNat ((-1)) 201 0 d) ≤ 5) → K (.inl (some (0, (lp_146_8 x0 (6 - 0 : Int).toNat ((-1)) 201 0 d)))) d) ∧ ((lp_146_8 x0 (6 - 0 : Int).toNat ((-1)) 201 0 d) = -103 → K (.inr 3) d)) : tCall E 146 [.inr (10, x0)] d K := by
  refine t_146_0 ?_
  have w0 : x0 = 0 := hx0
  have w2 := r_6_f2 hS (wbB.nw hx0)
  have w3 := r_3_f0 hS (stB.of (wbB.nw hx0))
  have w4 := r_4_f0 hS (stB.pe (wbB.nw hx0))
  have w5 := r_8_f0 hS (stB.ti (wbB.nw hx0))
  have w6 := r_9_f0 hS (stB.to (wbB.nw hx0))
  have w7 := r_7_f1 hS (wbB.tx hx0)
  refine l_146_8 hx0 (6 - 0 : Int).toNat ((-1)) 201 0 tu d hS (by omega) (by omega) (by omega) (by omega) ?_
  exact h0 
def st_148_15 (x0 x1 : Int) (r15 : Int → mD → Int × mD) (x2 : Int) (d : mD) : Int × mD := if x2 < d (x0 + 1 + 2 + 6) x1 then (if (0 : Int) < x2 then r15 (x2 + 1) (g_89 (x0 + 572) (d (x0 + 1 + 49 + 3) (v_38 (x0 + 1 + 2) x1 x2 d)) (g_86 (x0 + 572) 64 (g_88 (x0 + 572) (d (x0 + 1 + 10 + 1) (d (x0 + 1 + 49 + 1) (v_38 (x0 + 1 + 2) x1 x2 d))) (g_86 (x0 + 572) 32 d)))) else r15 (x2 + 1) (g_89 (x0 + 572) (d (x0 + 1 + 49 + 3) (v_38 (x0 + 1 + 2) x1 x2 d)) (g_86 (x0 + 572) 64 (g_88 (x0 + 572) (d (x0 + 1 + 10 + 1) (d (x0 + 1 + 49 + 1) (v_38 (x0 + 1 + 2) x1 x2 d))) d)))) else if d (x0 + 1 + 2 + 5) x1 = 0 then ((g_86 (x0 + 572) 33 d) (x0 + 572) 1, g_86 (x0 + 572) 33 d) else (d (x0 + 572) 1, d)
def lp_148_15 (x0 x1 : Int) : Nat → Int → mD → Int × mD
  | 0 => st_148_15 x0 x1 (fun _ d => (0, d))
  | n + 1 => st_148_15 x0 x1 (lp_148_15 x0 x1 n)
theorem ls_148_15 {E : mO × tW} {K : tK} {x0 x1 : Int} (hx0 : wbB x0) (p1 : -2147483648 ≤ x1 ∧ x1 ≤ 2147483647) (N15 : Int) (r15 : Int → mD → Int × mD) (ih15 : ∀ (x2 : Int) (v3 : tV) (d : mD), Safe d → (0 ≤ x2 ∧ x2 ≤ 16) → (0 ≤ x1 ∧ x1 ≤ 5) → 0 ≤ 16 - x2 → 16 - x2 < N15 → ((0 ≤ (r15 x2 d).1 ∧ (r15 x2 d).1 ≤ 1000) → (∀ b : Int, (b < x0 + 572 ∨ x0 + 573 < b) → (r15 x2 d).2 b = d b) → Safe (r15 x2 d).2 → K (.inl (some (0, (r15 x2 d).1))) (r15 x2 d).2) → tRun E 148 (15, [.inr (10, x0), .inl (0, x1), .inl (0, x2), v3], [], 1, 6, d) K) (x2 : Int) (v3 : tV) (d : mD) (hS : Safe d) (i0 : 0 ≤ x2 ∧ x2 ≤ 16) (i1 : 0 ≤ x1 ∧ x1 ≤ 5) (hm : 16 - x2 ≤ N15) (h : (0 ≤ (st_148_15 x0 x1 r15 x2 d).1 ∧ (st_148_15 x0 x1 r15 x2 d).1 ≤ 1000) → (∀ b : Int, (b < x0 + 572 ∨ x0 + 573 < b) → (st_148_15 x0 x1 r15 x2 d).2 b = d b) → Safe (st_148_15 x0 x1 r15 x2 d).2 → K (.inl (some (0, (st_148_15 x0 x1 r15 x2 d).1))) (st_148_15 x0 x1 r15 x2 d).2) : tRun E 148 (15, [.inr (10, x0), .inl (0, x1), .inl (0, x2), v3], [], 1, 6, d) K := by
  refine t_148_15 ?_
  have q1 := r_3_6 hS (stB.of (wbB.nw hx0)) x1
  refine ⟨by omega, ⟨m_inR (by omega) (by omega), m_inR (by omega) (by omega)⟩, fun c0 => ?_, fun c0 => ?_⟩
  · have q2 := r_3_5 hS (stB.of (wbB.nw hx0)) x1
    refine ⟨by omega, m_inR (by omega) (by omega), fun c1 => ?_, fun c1 => ?_⟩
    · refine t_148_145 ?_
      have q3 := r_7_f1 hS (wbB.ou hx0)
      have y0 : st_148_15 x0 x1 r15 x2 d = (d (x0 + 572) 1, d) := by simp only [st_148_15, if_neg (show ¬ x2 < d (x0 + 1 + 2 + 6) x1 from Int.not_lt.mpr c0), if_neg (show ¬ d (x0 + 1 + 2 + 5) x1 = 0 from c1)]
      rw [y0] at h
      exact h (show 0 ≤ (d (x0 + 572) 1) ∧ (d (x0 + 572) 1) ≤ 1000 from (by omega)) (show ∀ b : Int, (b < x0 + 572 ∨ x0 + 573 < b) → d b = d b from fun _ _ => rfl) hS
    · refine k_86 hS (wbB.ou hx0) (fun F1 hS1 => ?_)
      refine t_148_145 ?_
      have q4 := r_7_f1 hS1 (wbB.ou hx0)
      have y0 : st_148_15 x0 x1 r15 x2 d = ((g_86 (x0 + 572) 33 d) (x0 + 572) 1, g_86 (x0 + 572) 33 d) := by simp only [st_148_15, if_neg (show ¬ x2 < d (x0 + 1 + 2 + 6) x1 from Int.not_lt.mpr c0), if_pos (show d (x0 + 1 + 2 + 5) x1 = 0 from c1)]
      rw [y0] at h
      exact h (show 0 ≤ ((g_86 (x0 + 572) 33 d) (x0 + 572) 1) ∧ ((g_86 (x0 + 572) 33 d) (x0 + 572) 1) ≤ 1000 from (by omega)) (show ∀ b : Int, (b < x0 + 572 ∨ x0 + 573 < b) → (g_86 (x0 + 572) 33 d) b = d b from fun b hb => F1 b (by omega)) hS1
  · refine k_38 hS (stB.of (wbB.nw hx0)) (by omega) (by omega) (fun e1 => ?_)
    refine t_148_43 ?_
    refine ⟨m_inR (by omega) (by omega), fun c1 => ?_, fun c1 => ?_⟩
    · refine t_148_57 ?_
      have q5 := r_8_1 hS (stB.ti (wbB.nw hx0)) (v_38 (x0 + 1 + 2) x1 x2 d)
      refine ⟨by omega, by omega, ?_⟩
      have q6 := r_4_1 hS (stB.pe (wbB.nw hx0)) (d (x0 + 1 + 49 + 1) (v_38 (x0 + 1 + 2) x1 x2 d))
      refine k_88 hS (wbB.ou hx0) (m_inR (by omega) (by omega)) (fun F2 hS2 => ?_)
      refine t_148_87 ?_
      refine k_86 hS2 (wbB.ou hx0) (fun F3 hS3 => ?_)
      refine t_148_96 ?_
      rw [F3 (x0 + 1 + 49 + 3) (by omega)]
      rw [F2 (x0 + 1 + 49 + 3) (by omega)]
      refine ⟨by omega, ?_⟩
      have q7 := r_8_3 hS (stB.ti (wbB.nw hx0)) (v_38 (x0 + 1 + 2) x1 x2 d)
      refine k_89 hS3 (wbB.ou hx0) (by omega) (fun F4 hS4 => ?_)
      refine t_148_115 ?_
      refine ih15 (x2 + 1) (.inl (0, v_38 (x0 + 1 + 2) x1 x2 d)) (g_89 (x0 + 572) (d (x0 + 1 + 49 + 3) (v_38 (x0 + 1 + 2) x1 x2 d)) (g_86 (x0 + 572) 64 (g_88 (x0 + 572) (d (x0 + 1 + 10 + 1) (d (x0 + 1 + 49 + 1) (v_38 (x0 + 1 + 2) x1 x2 d))) d))) hS4 (by omega) (by omega) (by omega) (by omega) ?_
      intro e F hS_
      have y0 : st_148_15 x0 x1 r15 x2 d = r15 (x2 + 1) (g_89 (x0 + 572) (d (x0 + 1 + 49 + 3) (v_38 (x0 + 1 + 2) x1 x2 d)) (g_86 (x0 + 572) 64 (g_88 (x0 + 572) (d (x0 + 1 + 10 + 1) (d (x0 + 1 + 49 + 1) (v_38 (x0 + 1 + 2) x1 x2 d))) d))) := by simp only [st_148_15, if_pos (show x2 < d (x0 + 1 + 2 + 6) x1 from c0), if_neg (show ¬ (0 : Int) < x2 from Int.not_lt.mpr c1)]
      rw [y0] at h
      exact h e (fun b hb => (F b hb).trans ((show ∀ b : Int, (b < x0 + 572 ∨ x0 + 573 < b) → (g_89 (x0 + 572) (d (x0 + 1 + 49 + 3) (v_38 (x0 + 1 + 2) x1 x2 d)) (g_86 (x0 + 572) 64 (g_88 (x0 + 572) (d (x0 + 1 + 10 + 1) (d (x0 + 1 + 49 + 1) (v_38 (x0 + 1 + 2) x1 x2 d))) d))) b = d b from fun b hb => (F4 b (by omega)).trans ((F3 b (by omega)).trans (F2 b (by omega)))) b hb)) hS_
    · refine k_86 hS (wbB.ou hx0) (fun F5 hS5 => ?_)
      refine t_148_57 ?_
      rw [F5 (x0 + 1 + 49 + 1) (by omega)]
      have q8 := r_8_1 hS (stB.ti (wbB.nw hx0)) (v_38 (x0 + 1 + 2) x1 x2 d)
      rw [F5 (x0 + 1 + 10 + 1) (by omega)]
      refine ⟨by omega, by omega, ?_⟩
      have q9 := r_4_1 hS (stB.pe (wbB.nw hx0)) (d (x0 + 1 + 49 + 1) (v_38 (x0 + 1 + 2) x1 x2 d))
      refine k_88 hS5 (wbB.ou hx0) (m_inR (by omega) (by omega)) (fun F6 hS6 => ?_)
      refine t_148_87 ?_
      refine k_86 hS6 (wbB.ou hx0) (fun F7 hS7 => ?_)
      refine t_148_96 ?_
      rw [F7 (x0 + 1 + 49 + 3) (by omega)]
      rw [F6 (x0 + 1 + 49 + 3) (by omega)]
      rw [F5 (x0 + 1 + 49 + 3) (by omega)]
      refine ⟨by omega, ?_⟩
      have q10 := r_8_3 hS (stB.ti (wbB.nw hx0)) (v_38 (x0 + 1 + 2) x1 x2 d)
      refine k_89 hS7 (wbB.ou hx0) (by omega) (fun F8 hS8 => ?_)
      refine t_148_115 ?_
      refine ih15 (x2 + 1) (.inl (0, v_38 (x0 + 1 + 2) x1 x2 d)) (g_89 (x0 + 572) (d (x0 + 1 + 49 + 3) (v_38 (x0 + 1 + 2) x1 x2 d)) (g_86 (x0 + 572) 64 (g_88 (x0 + 572) (d (x0 + 1 + 10 + 1) (d (x0 + 1 + 49 + 1) (v_38 (x0 + 1 + 2) x1 x2 d))) (g_86 (x0 + 572) 32 d)))) hS8 (by omega) (by omega) (by omega) (by omega) ?_
      intro e F hS_
      have y0 : st_148_15 x0 x1 r15 x2 d = r15 (x2 + 1) (g_89 (x0 + 572) (d (x0 + 1 + 49 + 3) (v_38 (x0 + 1 + 2) x1 x2 d)) (g_86 (x0 + 572) 64 (g_88 (x0 + 572) (d (x0 + 1 + 10 + 1) (d (x0 + 1 + 49 + 1) (v_38 (x0 + 1 + 2) x1 x2 d))) (g_86 (x0 + 572) 32 d)))) := by simp only [st_148_15, if_pos (show x2 < d (x0 + 1 + 2 + 6) x1 from c0), if_pos (show (0 : Int) < x2 from c1)]
      rw [y0] at h
      exact h e (fun b hb => (F b hb).trans ((show ∀ b : Int, (b < x0 + 572 ∨ x0 + 573 < b) → (g_89 (x0 + 572) (d (x0 + 1 + 49 + 3) (v_38 (x0 + 1 + 2) x1 x2 d)) (g_86 (x0 + 572) 64 (g_88 (x0 + 572) (d (x0 + 1 + 10 + 1) (d (x0 + 1 + 49 + 1) (v_38 (x0 + 1 + 2) x1 x2 d))) (g_86 (x0 + 572) 32 d)))) b = d b from fun b hb => (F8 b (by omega)).trans ((F7 b (by omega)).trans ((F6 b (by omega)).trans (F5 b (by omega))))) b hb)) hS_
theorem l_148_15 {E : mO × tW} {K : tK} {x0 x1 : Int} (hx0 : wbB x0) (p1 : -2147483648 ≤ x1 ∧ x1 ≤ 2147483647) : ∀ (n : Nat) (x2 : Int) (v3 : tV) (d : mD), Safe d → (0 ≤ x2 ∧ x2 ≤ 16) → (0 ≤ x1 ∧ x1 ≤ 5) → 16 - x2 ≤ (n : Int) → ((0 ≤ (lp_148_15 x0 x1 n x2 d).1 ∧ (lp_148_15 x0 x1 n x2 d).1 ≤ 1000) → (∀ b : Int, (b < x0 + 572 ∨ x0 + 573 < b) → (lp_148_15 x0 x1 n x2 d).2 b = d b) → Safe (lp_148_15 x0 x1 n x2 d).2 → K (.inl (some (0, (lp_148_15 x0 x1 n x2 d).1))) (lp_148_15 x0 x1 n x2 d).2) → tRun E 148 (15, [.inr (10, x0), .inl (0, x1), .inl (0, x2), v3], [], 1, 6, d) K := by
  intro n
  induction n with
  | zero =>
    intro x2 v3 d hS i0 i1 hm  h
    exact ls_148_15 hx0 p1 0 _ (fun _ _ _ _ _ _ m0 m1 _ => absurd m1 (by omega)) x2 v3 d hS i0 i1 hm  h
  | succ n ih =>
    intro x2 v3 d hS i0 i1 hm  h
    exact ls_148_15 hx0 p1 ((n + 1 : Nat) : Int) _ (fun x2 v3 d hS i0 i1  m0 m1 h => ih x2 v3 d hS i0 i1 (by omega)  h) x2 v3 d hS i0 i1 hm  h
theorem k_148 {E : mO × tW} {K : tK} {d : mD} {x0 x1 : Int} (hS : Safe d) (hx0 : wbB x0) (p1 : -2147483648 ≤ x1 ∧ x1 ≤ 2147483647) (h0 : (x1 < 0) → K (.inr 1) d) (h1 : (0 ≤ x1) → (x1 < d (x0 + 1 + 2) 0) → (0 ≤ (lp_148_15 x0 x1 (16 - 0 : Int).toNat 0 (mset d (x0 + 572) 1 0)).1 ∧ (lp_148_15 x0 x1 (16 - 0 : Int).toNat 0 (mset d (x0 + 572) 1 0)).1 ≤ 1000) → (∀ b : Int, (b < x0 + 572 ∨ x0 + 573 < b) → (lp_148_15 x0 x1 (16 - 0 : Int).toNat 0 (mset d (x0 + 572) 1 0)).2 b = d b) → Safe (lp_148_15 x0 x1 (16 - 0 : Int).toNat 0 (mset d (x0 + 572) 1 0)).2 → K (.inl (some (0, (lp_148_15 x0 x1 (16 - 0 : Int).toNat 0 (mset d (x0 + 572) 1 0)).1))) (lp_148_15 x0 x1 (16 - 0 : Int).toNat 0 (mset d (x0 + 572) 1 0)).2) (h2 : (0 ≤ x1) → (d (x0 + 1 + 2) 0 ≤ x1) → K (.inr 1) d) : tCall E 148 [.inr (10, x0), .inl (0, x1)] d K := by
  refine t_148_0 ?_
  have w0 : x0 = 0 := hx0
  have w2 := r_6_f2 hS (wbB.nw hx0)
  have w3 := r_3_f0 hS (stB.of (wbB.nw hx0))
  have w4 := r_4_f0 hS (stB.pe (wbB.nw hx0))
  have w5 := r_8_f0 hS (stB.ti (wbB.nw hx0))
  have w6 := r_9_f0 hS (stB.to (wbB.nw hx0))
  have w7 := r_7_f1 hS (wbB.tx hx0)
  refine k_165 hS hx0 (m_inR (by omega) (by omega)) (fun z0 => ?_) (fun z0 z1 => ?_) (fun z0 z1 => ?_)
  · exact h0 z0
  · refine t_148_5 ?_
    have hS9 : Safe (mset d (x0 + 572) 1 0) := s_7_f1 hS (wbB.ou hx0) (by omega)
    refine l_148_15 hx0 p1 (16 - 0 : Int).toNat 0 tu (mset d (x0 + 572) 1 0) hS9 (by omega) (by omega) (by omega) ?_
    intro e F hS_
    exact h1 z0 z1 e (fun b hb => (F b hb).trans ((show ∀ b : Int, (b < x0 + 572 ∨ x0 + 573 < b) → (mset d (x0 + 572) 1 0) b = d b from fun b hb => mset_ne (by omega)) b hb)) hS_
  · exact h2 z0 z1
/-! ===== contracts of the reference's methods: printed by a program of mine ===== -/
def v_175 (x0 : Int) (d : mD) : Int := d x0 0
theorem k_175 {E : mO × tW} {K : tK} {d : mD} {x0 : Int} (hS : Safe d) (hx0 : mdB x0) (h : (0 ≤ (v_175 x0 d) ∧ (v_175 x0 d) ≤ 3) → K (.inl (some (0, (v_175 x0 d)))) d) : tCall E 175 [.inr (11, x0)] d K := by
  refine t_175_0 ?_
  have q1 := r_11_f0 hS hx0
  have y0 : v_175 x0 d = d x0 0 := by simp only [v_175]
  rw [y0] at h
  exact h (show 0 ≤ (d x0 0) ∧ (d x0 0) ≤ 3 from (by omega))
def v_176 (x0 x2 x4 : Int) (d : mD) : Int := if mcmp x0 x2 < 0 then 0 else if (0 : Int) < mcmp x0 x4 then 0 else 1
theorem k_176 {E : mO × tW} {K : tK} {d : mD} {x0 x2 x4 : Int} (hS : Safe d) (p0 : -2147483648 ≤ x0 ∧ x0 ≤ 2147483647) (p1 : -2147483648 ≤ x2 ∧ x2 ≤ 2147483647) (p2 : -2147483648 ≤ x4 ∧ x4 ≤ 2147483647) (h : ((0 ≤ (v_176 x0 x2 x4 d) ∧ (v_176 x0 x2 x4 d) ≤ 1) ∧ ((v_176 x0 x2 x4 d) = 0 ∨ (x2 ≤ x0 ∧ x0 ≤ x4)) ∧ ((v_176 x0 x2 x4 d) = 1 ∨ x0 < x2 ∨ x4 < x0)) → K (.inl (some (0, (v_176 x0 x2 x4 d)))) d) : tCall E 176 [.inl (1, x0), .inl (1, x2), .inl (1, x4)] d K := by
  refine t_176_0 ?_
  have q1 := mcmp_r x0 x2
  refine ⟨⟨⟨by omega, by omega⟩, ⟨by omega, by omega⟩⟩, m_inR (by omega) (by omega), fun c0 => ?_, fun c0 => ?_⟩
  · refine ⟨by omega, ?_⟩
    have y0 : v_176 x0 x2 x4 d = 0 := by simp only [v_176, if_pos (show mcmp x0 x2 < 0 from c0)]
    rw [y0] at h
    exact h (show (0 ≤ ((0 : Int)) ∧ ((0 : Int)) ≤ 1) ∧ (((0 : Int)) = 0 ∨ (x2 ≤ x0 ∧ x0 ≤ x4)) ∧ (((0 : Int)) = 1 ∨ x0 < x2 ∨ x4 < x0) from (by omega))
  · have q2 := mcmp_r x0 x4
    refine ⟨⟨⟨by omega, by omega⟩, ⟨by omega, by omega⟩⟩, m_inR (by omega) (by omega), fun c1 => ?_, fun c1 => ?_⟩
    · refine ⟨by omega, ?_⟩
      have y0 : v_176 x0 x2 x4 d = 0 := by simp only [v_176, if_neg (show ¬ mcmp x0 x2 < 0 from Int.not_lt.mpr c0), if_pos (show (0 : Int) < mcmp x0 x4 from c1)]
      rw [y0] at h
      exact h (show (0 ≤ ((0 : Int)) ∧ ((0 : Int)) ≤ 1) ∧ (((0 : Int)) = 0 ∨ (x2 ≤ x0 ∧ x0 ≤ x4)) ∧ (((0 : Int)) = 1 ∨ x0 < x2 ∨ x4 < x0) from (by omega))
    · refine ⟨by omega, ?_⟩
      have y0 : v_176 x0 x2 x4 d = 1 := by simp only [v_176, if_neg (show ¬ mcmp x0 x2 < 0 from Int.not_lt.mpr c0), if_neg (show ¬ (0 : Int) < mcmp x0 x4 from Int.not_lt.mpr c1)]
      rw [y0] at h
      exact h (show (0 ≤ ((1 : Int)) ∧ ((1 : Int)) ≤ 1) ∧ (((1 : Int)) = 0 ∨ (x2 ≤ x0 ∧ x0 ≤ x4)) ∧ (((1 : Int)) = 1 ∨ x0 < x2 ∨ x4 < x0) from (by omega))
theorem k_177 {E : mO × tW} {K : tK} {d : mD} {x0 : Int} (hS : Safe d) (h : K (.inl (some (0, 12 + (68 * x0)))) d) : tCall E 177 [.inl (0, x0)] d K := t_177_0 h
theorem k_178 {E : mO × tW} {K : tK} {d : mD} {x0 : Int} (hS : Safe d) (h : K (.inl (some (0, 420 + (2 * x0)))) d) : tCall E 178 [.inl (0, x0)] d K := t_178_0 h
theorem k_179 {E : mO × tW} {K : tK} {d : mD} {x0 : Int} (hS : Safe d) (h : K (.inl (some (0, 452 + (24 * x0)))) d) : tCall E 179 [.inl (0, x0)] d K := t_179_0 h
theorem k_180 {E : mO × tW} {K : tK} {d : mD} {x0 : Int} (hS : Safe d) (h : K (.inl (some (0, 1916 + (5 * x0)))) d) : tCall E 180 [.inl (0, x0)] d K := t_180_0 h
def mpP (f : Int → Int) : Prop := ∀ o, 0 ≤ o → o < f 7 → 1 ≤ f (12 + 68 * o + 2)
theorem mpP.of {f g : Int → Int} (h7 : 0 ≤ g 7 ∧ g 7 ≤ 6) (Q : ∀ i : Int, i = 7 ∨ (12 ≤ i ∧ i < 420 ∧ (i - 12) % 68 = 2) → f i = g i) (h : mpP g) : mpP f := by
  intro o h0 h1
  rw [Q 7 (by omega)] at h1
  rw [Q _ (by omega)]
  exact h o h0 h1
theorem mpP.grow {f g : Int → Int} (h7 : f 7 = g 7 + 1) (hn : 1 ≤ f (12 + 68 * g 7 + 2)) (ho : ∀ o, 0 ≤ o → o < g 7 → f (12 + 68 * o + 2) = g (12 + 68 * o + 2)) (h : mpP g) : mpP f := by
  intro o h0 h1
  rw [h7] at h1
  by_cases e : o = g 7
  · subst e; exact hn
  · rw [ho o h0 (by omega)]; exact h o h0 (by omega)
def g_181 (x0 x1 x2 x3 x4 : Int) (d : mD) : mD := mset (mset (mset (mset (mset (mset d (x0 + 1) ((12 + (68 * (d (x0 + 1) 7))) + 0) x1) (x0 + 1) ((12 + (68 * (d (x0 + 1) 7))) + 1) x2) (x0 + 1) ((12 + (68 * (d (x0 + 1) 7))) + 2) x3) (x0 + 1) ((12 + (68 * (d (x0 + 1) 7))) + 3) x4) (x0 + 1) ((12 + (68 * (d (x0 + 1) 7))) + 4) 1) (x0 + 1) 7 ((d (x0 + 1) 7) + 1)
theorem k_181 {E : mO × tW} {K : tK} {d : mD} {x0 x1 x2 x3 x4 : Int} (hS : Safe d) (hx0 : mdB x0) (p1 : 0 ≤ x1 ∧ x1 ≤ 387420488) (p2 : 0 ≤ x2 ∧ x2 ≤ 4) (p3 : 0 ≤ x3 ∧ x3 ≤ 6) (p4 : 0 ≤ x4 ∧ x4 ≤ 20) (ho : d (x0 + 1) 7 ≤ 5) (hpc : 1 ≤ x3) (hmp : mpP (d (x0 + 1))) (h : (∀ b : Int, (b < x0 + 1 ∨ x0 + 1 < b) → (g_181 x0 x1 x2 x3 x4 d) b = d b) → (∀ i : Int, i = 0 ∨ (452 ≤ i ∧ i < 1916) → (g_181 x0 x1 x2 x3 x4 d) (x0 + 1) i = d (x0 + 1) i) → mpP ((g_181 x0 x1 x2 x3 x4 d) (x0 + 1)) → Safe (g_181 x0 x1 x2 x3 x4 d) → K (.inl none) (g_181 x0 x1 x2 x3 x4 d)) : tCall E 181 [.inr (11, x0), .inl (0, x1), .inl (0, x2), .inl (0, x3), .inl (0, x4)] d K := by
  refine t_181_0 ?_
  refine ⟨by omega, ?_⟩
  refine k_177 hS ?_
  refine t_181_10 ?_
  have q1 := mh_7 hS hx0 _ rfl
  refine ⟨by omega, ?_⟩
  have hS1 : Safe (mset d (x0 + 1) ((12 + (68 * (d (x0 + 1) 7))) + 0) x1) := smo_0 hS hx0 (d (x0 + 1) 7) ((12 + (68 * (d (x0 + 1) 7))) + 0) (by omega) (by omega) (by omega)
  refine ⟨by omega, ?_⟩
  have hS2 : Safe (mset (mset d (x0 + 1) ((12 + (68 * (d (x0 + 1) 7))) + 0) x1) (x0 + 1) ((12 + (68 * (d (x0 + 1) 7))) + 1) x2) := smo_1 hS1 hx0 (d (x0 + 1) 7) ((12 + (68 * (d (x0 + 1) 7))) + 1) (by omega) (by omega) (by omega)
  refine ⟨by omega, ?_⟩
  have hS3 : Safe (mset (mset (mset d (x0 + 1) ((12 + (68 * (d (x0 + 1) 7))) + 0) x1) (x0 + 1) ((12 + (68 * (d (x0 + 1) 7))) + 1) x2) (x0 + 1) ((12 + (68 * (d (x0 + 1) 7))) + 2) x3) := smo_2 hS2 hx0 (d (x0 + 1) 7) ((12 + (68 * (d (x0 + 1) 7))) + 2) (by omega) (by omega) (by omega)
  refine ⟨by omega, ?_⟩
  have hS4 : Safe (mset (mset (mset (mset d (x0 + 1) ((12 + (68 * (d (x0 + 1) 7))) + 0) x1) (x0 + 1) ((12 + (68 * (d (x0 + 1) 7))) + 1) x2) (x0 + 1) ((12 + (68 * (d (x0 + 1) 7))) + 2) x3) (x0 + 1) ((12 + (68 * (d (x0 + 1) 7))) + 3) x4) := smo_3 hS3 hx0 (d (x0 + 1) 7) ((12 + (68 * (d (x0 + 1) 7))) + 3) (by omega) (by omega) (by omega)
  refine ⟨by omega, ?_⟩
  have hS5 : Safe (mset (mset (mset (mset (mset d (x0 + 1) ((12 + (68 * (d (x0 + 1) 7))) + 0) x1) (x0 + 1) ((12 + (68 * (d (x0 + 1) 7))) + 1) x2) (x0 + 1) ((12 + (68 * (d (x0 + 1) 7))) + 2) x3) (x0 + 1) ((12 + (68 * (d (x0 + 1) 7))) + 3) x4) (x0 + 1) ((12 + (68 * (d (x0 + 1) 7))) + 4) 1) := smo_4 hS4 hx0 (d (x0 + 1) 7) ((12 + (68 * (d (x0 + 1) 7))) + 4) (by omega) (by omega) (by omega)
  rw [mset_ni (d := mset (mset (mset (mset d (x0 + 1) ((12 + (68 * (d (x0 + 1) 7))) + 0) x1) (x0 + 1) ((12 + (68 * (d (x0 + 1) 7))) + 1) x2) (x0 + 1) ((12 + (68 * (d (x0 + 1) 7))) + 2) x3) (x0 + 1) ((12 + (68 * (d (x0 + 1) 7))) + 3) x4) (a := x0 + 1) (i := (12 + (68 * (d (x0 + 1) 7))) + 4) (v := (1 : Int)) (b := x0 + 1) (j := (7 : Int)) (by omega)]
  rw [mset_ni (d := mset (mset (mset d (x0 + 1) ((12 + (68 * (d (x0 + 1) 7))) + 0) x1) (x0 + 1) ((12 + (68 * (d (x0 + 1) 7))) + 1) x2) (x0 + 1) ((12 + (68 * (d (x0 + 1) 7))) + 2) x3) (a := x0 + 1) (i := (12 + (68 * (d (x0 + 1) 7))) + 3) (v := x4) (b := x0 + 1) (j := (7 : Int)) (by omega)]
  rw [mset_ni (d := mset (mset d (x0 + 1) ((12 + (68 * (d (x0 + 1) 7))) + 0) x1) (x0 + 1) ((12 + (68 * (d (x0 + 1) 7))) + 1) x2) (a := x0 + 1) (i := (12 + (68 * (d (x0 + 1) 7))) + 2) (v := x3) (b := x0 + 1) (j := (7 : Int)) (by omega)]
  rw [mset_ni (d := mset d (x0 + 1) ((12 + (68 * (d (x0 + 1) 7))) + 0) x1) (a := x0 + 1) (i := (12 + (68 * (d (x0 + 1) 7))) + 1) (v := x2) (b := x0 + 1) (j := (7 : Int)) (by omega)]
  rw [mset_ni (d := d) (a := x0 + 1) (i := (12 + (68 * (d (x0 + 1) 7))) + 0) (v := x1) (b := x0 + 1) (j := (7 : Int)) (by omega)]
  refine ⟨by omega, by omega, ?_⟩
  have hS6 : Safe (mset (mset (mset (mset (mset (mset d (x0 + 1) ((12 + (68 * (d (x0 + 1) 7))) + 0) x1) (x0 + 1) ((12 + (68 * (d (x0 + 1) 7))) + 1) x2) (x0 + 1) ((12 + (68 * (d (x0 + 1) 7))) + 2) x3) (x0 + 1) ((12 + (68 * (d (x0 + 1) 7))) + 3) x4) (x0 + 1) ((12 + (68 * (d (x0 + 1) 7))) + 4) 1) (x0 + 1) 7 ((d (x0 + 1) 7) + 1)) := smh_7 hS5 hx0 _ rfl (by omega)
  have y0 : g_181 x0 x1 x2 x3 x4 d = mset (mset (mset (mset (mset (mset d (x0 + 1) ((12 + (68 * (d (x0 + 1) 7))) + 0) x1) (x0 + 1) ((12 + (68 * (d (x0 + 1) 7))) + 1) x2) (x0 + 1) ((12 + (68 * (d (x0 + 1) 7))) + 2) x3) (x0 + 1) ((12 + (68 * (d (x0 + 1) 7))) + 3) x4) (x0 + 1) ((12 + (68 * (d (x0 + 1) 7))) + 4) 1) (x0 + 1) 7 ((d (x0 + 1) 7) + 1) := by simp only [g_181]
  rw [y0] at h
  exact h (show ∀ b : Int, (b < x0 + 1 ∨ x0 + 1 < b) → (mset (mset (mset (mset (mset (mset d (x0 + 1) ((12 + (68 * (d (x0 + 1) 7))) + 0) x1) (x0 + 1) ((12 + (68 * (d (x0 + 1) 7))) + 1) x2) (x0 + 1) ((12 + (68 * (d (x0 + 1) 7))) + 2) x3) (x0 + 1) ((12 + (68 * (d (x0 + 1) 7))) + 3) x4) (x0 + 1) ((12 + (68 * (d (x0 + 1) 7))) + 4) 1) (x0 + 1) 7 ((d (x0 + 1) 7) + 1)) b = d b from fun b hb => (mset_ne (by omega)).trans ((mset_ne (by omega)).trans ((mset_ne (by omega)).trans ((mset_ne (by omega)).trans ((mset_ne (by omega)).trans (mset_ne (by omega))))))) (show ∀ i : Int, i = 0 ∨ (452 ≤ i ∧ i < 1916) → (mset (mset (mset (mset (mset (mset d (x0 + 1) ((12 + (68 * (d (x0 + 1) 7))) + 0) x1) (x0 + 1) ((12 + (68 * (d (x0 + 1) 7))) + 1) x2) (x0 + 1) ((12 + (68 * (d (x0 + 1) 7))) + 2) x3) (x0 + 1) ((12 + (68 * (d (x0 + 1) 7))) + 3) x4) (x0 + 1) ((12 + (68 * (d (x0 + 1) 7))) + 4) 1) (x0 + 1) 7 ((d (x0 + 1) 7) + 1)) (x0 + 1) i = d (x0 + 1) i from fun i hi => (((((mset_ni (by omega)).trans (mset_ni (by omega))).trans (mset_ni (by omega))).trans (mset_ni (by omega))).trans (mset_ni (by omega))).trans (mset_ni (by omega))) (mpP.grow mset_eq (Int.le_trans hpc (Int.le_of_eq ((mset_ni (by omega)).trans ((mset_ni (by omega)).trans ((mset_ni (by omega)).trans mset_eq))).symm)) (fun o o0 o1 => (mset_ni (by omega)).trans ((mset_ni (by omega)).trans ((mset_ni (by omega)).trans ((mset_ni (by omega)).trans ((mset_ni (by omega)).trans (mset_ni (by omega))))))) hmp) hS6
def g_182 (x0 x1 : Int) (d : mD) : mD := mset (mset (mset d (x0 + 1) ((420 + (2 * (d (x0 + 1) 8))) + 0) x1) (x0 + 1) ((420 + (2 * (d (x0 + 1) 8))) + 1) 0) (x0 + 1) 8 ((d (x0 + 1) 8) + 1)
theorem k_182 {E : mO × tW} {K : tK} {d : mD} {x0 x1 : Int} (hS : Safe d) (hx0 : mdB x0) (p1 : 0 ≤ x1 ∧ x1 ≤ 387420488) (ho : d (x0 + 1) 8 ≤ 15) (h : (∀ b : Int, (b < x0 + 1 ∨ x0 + 1 < b) → (g_182 x0 x1 d) b = d b) → (∀ i : Int, i = 7 ∨ (12 ≤ i ∧ i < 420 ∧ (i - 12) % 68 = 2) ∨ i = 0 ∨ (452 ≤ i ∧ i < 1916) → (g_182 x0 x1 d) (x0 + 1) i = d (x0 + 1) i) → Safe (g_182 x0 x1 d) → K (.inl none) (g_182 x0 x1 d)) : tCall E 182 [.inr (11, x0), .inl (0, x1)] d K := by
  refine t_182_0 ?_
  refine ⟨by omega, ?_⟩
  refine k_178 hS ?_
  refine t_182_14 ?_
  have q1 := mh_8 hS hx0 _ rfl
  refine ⟨by omega, ?_⟩
  have hS1 : Safe (mset d (x0 + 1) ((420 + (2 * (d (x0 + 1) 8))) + 0) x1) := smp_0 hS hx0 (d (x0 + 1) 8) ((420 + (2 * (d (x0 + 1) 8))) + 0) (by omega) (by omega) (by omega)
  rw [mset_ni (d := d) (a := x0 + 1) (i := (420 + (2 * (d (x0 + 1) 8))) + 0) (v := x1) (b := x0 + 1) (j := (8 : Int)) (by omega)]
  refine ⟨by omega, ?_⟩
  refine k_178 hS1 ?_
  refine t_182_32 ?_
  refine ⟨by omega, ?_⟩
  have hS2 : Safe (mset (mset d (x0 + 1) ((420 + (2 * (d (x0 + 1) 8))) + 0) x1) (x0 + 1) ((420 + (2 * (d (x0 + 1) 8))) + 1) 0) := smz hS1 hx0 ((420 + (2 * (d (x0 + 1) 8))) + 1)
  rw [mset_ni (d := mset d (x0 + 1) ((420 + (2 * (d (x0 + 1) 8))) + 0) x1) (a := x0 + 1) (i := (420 + (2 * (d (x0 + 1) 8))) + 1) (v := (0 : Int)) (b := x0 + 1) (j := (8 : Int)) (by omega)]
  rw [mset_ni (d := d) (a := x0 + 1) (i := (420 + (2 * (d (x0 + 1) 8))) + 0) (v := x1) (b := x0 + 1) (j := (8 : Int)) (by omega)]
  refine ⟨by omega, by omega, ?_⟩
  have hS3 : Safe (mset (mset (mset d (x0 + 1) ((420 + (2 * (d (x0 + 1) 8))) + 0) x1) (x0 + 1) ((420 + (2 * (d (x0 + 1) 8))) + 1) 0) (x0 + 1) 8 ((d (x0 + 1) 8) + 1)) := smh_8 hS2 hx0 _ rfl (by omega)
  have y0 : g_182 x0 x1 d = mset (mset (mset d (x0 + 1) ((420 + (2 * (d (x0 + 1) 8))) + 0) x1) (x0 + 1) ((420 + (2 * (d (x0 + 1) 8))) + 1) 0) (x0 + 1) 8 ((d (x0 + 1) 8) + 1) := by simp only [g_182]
  rw [y0] at h
  exact h (show ∀ b : Int, (b < x0 + 1 ∨ x0 + 1 < b) → (mset (mset (mset d (x0 + 1) ((420 + (2 * (d (x0 + 1) 8))) + 0) x1) (x0 + 1) ((420 + (2 * (d (x0 + 1) 8))) + 1) 0) (x0 + 1) 8 ((d (x0 + 1) 8) + 1)) b = d b from fun b hb => (mset_ne (by omega)).trans ((mset_ne (by omega)).trans (mset_ne (by omega)))) (show ∀ i : Int, i = 7 ∨ (12 ≤ i ∧ i < 420 ∧ (i - 12) % 68 = 2) ∨ i = 0 ∨ (452 ≤ i ∧ i < 1916) → (mset (mset (mset d (x0 + 1) ((420 + (2 * (d (x0 + 1) 8))) + 0) x1) (x0 + 1) ((420 + (2 * (d (x0 + 1) 8))) + 1) 0) (x0 + 1) 8 ((d (x0 + 1) 8) + 1)) (x0 + 1) i = d (x0 + 1) i from fun i hi => ((mset_ni (by omega)).trans (mset_ni (by omega))).trans (mset_ni (by omega))) hS3
def st_183_2 (x0 x1 : Int) (r2 : Int → mD → Int) (x2 : Int) (d : mD) : Int := if x2 < d (x0 + 1) 8 then (if d (x0 + 1) ((420 + (2 * x2)) + 0) = x1 then x2 else r2 (x2 + 1) d) else (-1)
def lp_183_2 (x0 x1 : Int) : Nat → Int → mD → Int
  | 0 => st_183_2 x0 x1 (fun _ d => 0)
  | n + 1 => st_183_2 x0 x1 (lp_183_2 x0 x1 n)
theorem ls_183_2 {E : mO × tW} {K : tK} {x0 x1 : Int} (hx0 : mdB x0) (p1 : -2147483648 ≤ x1 ∧ x1 ≤ 2147483647) (N2 : Int) (r2 : Int → mD → Int) (ih2 : ∀ (x2 : Int) (d : mD), Safe d → (0 ≤ x2 ∧ x2 ≤ 16) → 0 ≤ 16 - x2 → 16 - x2 < N2 → ((-1 ≤ (r2 x2 d) ∧ (r2 x2 d) ≤ 15) → K (.inl (some (0, (r2 x2 d)))) d) → tRun E 183 (2, [.inr (11, x0), .inl (0, x1), .inl (0, x2)], [], 0, 0, d) K) (x2 : Int) (d : mD) (hS : Safe d) (i0 : 0 ≤ x2 ∧ x2 ≤ 16) (hm : 16 - x2 ≤ N2) (h : (-1 ≤ (st_183_2 x0 x1 r2 x2 d) ∧ (st_183_2 x0 x1 r2 x2 d) ≤ 15) → K (.inl (some (0, (st_183_2 x0 x1 r2 x2 d)))) d) : tRun E 183 (2, [.inr (11, x0), .inl (0, x1), .inl (0, x2)], [], 0, 0, d) K := by
  refine t_183_2 ?_
  have q1 := mh_8 hS hx0 _ rfl
  refine ⟨by omega, ⟨m_inR (by omega) (by omega), m_inR (by omega) (by omega)⟩, fun c0 => ?_, fun c0 => ?_⟩
  · have y0 : st_183_2 x0 x1 r2 x2 d = (-1) := by simp only [st_183_2, if_neg (show ¬ x2 < d (x0 + 1) 8 from Int.not_lt.mpr c0)]
    rw [y0] at h
    exact h (show -1 ≤ ((-1 : Int)) ∧ ((-1 : Int)) ≤ 15 from (by omega))
  · refine k_178 hS ?_
    refine t_183_21 ?_
    have q2 := mp_0 hS hx0 x2 ((420 + (2 * x2)) + 0) (by omega) (by omega)
    refine ⟨by omega, ⟨m_inR (by omega) (by omega), m_inR (by omega) (by omega)⟩, fun c1 => ?_, fun c1 => ?_⟩
    · refine ih2 (x2 + 1)  d hS (by omega) (by omega) (by omega) ?_
      intro e
      have y0 : st_183_2 x0 x1 r2 x2 d = r2 (x2 + 1) d := by simp only [st_183_2, if_pos (show x2 < d (x0 + 1) 8 from c0), if_neg (show ¬ d (x0 + 1) ((420 + (2 * x2)) + 0) = x1 from c1)]
      rw [y0] at h
      exact h e
    · have y0 : st_183_2 x0 x1 r2 x2 d = x2 := by simp only [st_183_2, if_pos (show x2 < d (x0 + 1) 8 from c0), if_pos (show d (x0 + 1) ((420 + (2 * x2)) + 0) = x1 from c1)]
      rw [y0] at h
      exact h (show -1 ≤ x2 ∧ x2 ≤ 15 from (by omega))
theorem l_183_2 {E : mO × tW} {K : tK} {x0 x1 : Int} (hx0 : mdB x0) (p1 : -2147483648 ≤ x1 ∧ x1 ≤ 2147483647) : ∀ (n : Nat) (x2 : Int) (d : mD), Safe d → (0 ≤ x2 ∧ x2 ≤ 16) → 16 - x2 ≤ (n : Int) → ((-1 ≤ (lp_183_2 x0 x1 n x2 d) ∧ (lp_183_2 x0 x1 n x2 d) ≤ 15) → K (.inl (some (0, (lp_183_2 x0 x1 n x2 d)))) d) → tRun E 183 (2, [.inr (11, x0), .inl (0, x1), .inl (0, x2)], [], 0, 0, d) K := by
  intro n
  induction n with
  | zero =>
    intro x2  d hS i0 hm  h
    exact ls_183_2 hx0 p1 0 _ (fun _  _ _ _ m0 m1 _ => absurd m1 (by omega)) x2  d hS i0 hm  h
  | succ n ih =>
    intro x2  d hS i0 hm  h
    exact ls_183_2 hx0 p1 ((n + 1 : Nat) : Int) _ (fun x2  d hS i0  m0 m1 h => ih x2  d hS i0 (by omega)  h) x2  d hS i0 hm  h
def v_183 (x0 x1 : Int) (d : mD) : Int := lp_183_2 x0 x1 (16 - 0 : Int).toNat 0 d
theorem k_183 {E : mO × tW} {K : tK} {d : mD} {x0 x1 : Int} (hS : Safe d) (hx0 : mdB x0) (p1 : -2147483648 ≤ x1 ∧ x1 ≤ 2147483647) (h : (-1 ≤ (v_183 x0 x1 d) ∧ (v_183 x0 x1 d) ≤ 15) → K (.inl (some (0, (v_183 x0 x1 d)))) d) : tCall E 183 [.inr (11, x0), .inl (0, x1)] d K := by
  refine t_183_0 ?_
  have q3 := mh_8 hS hx0 _ rfl
  refine l_183_2 hx0 p1 (16 - 0 : Int).toNat 0  d hS (by omega) (by omega) ?_
  intro e
  have y0 : v_183 x0 x1 d = lp_183_2 x0 x1 (16 - 0 : Int).toNat 0 d := by simp only [v_183]
  rw [y0] at h
  exact h e
def st_184_2 (x0 x1 : Int) (r2 : Int → mD → Int) (x2 : Int) (d : mD) : Int := if x2 < d (x0 + 1) 7 then (if d (x0 + 1) ((12 + (68 * x2)) + 0) = x1 then x2 else r2 (x2 + 1) d) else (-1)
def lp_184_2 (x0 x1 : Int) : Nat → Int → mD → Int
  | 0 => st_184_2 x0 x1 (fun _ d => 0)
  | n + 1 => st_184_2 x0 x1 (lp_184_2 x0 x1 n)
theorem ls_184_2 {E : mO × tW} {K : tK} {x0 x1 : Int} (hx0 : mdB x0) (p1 : -2147483648 ≤ x1 ∧ x1 ≤ 2147483647) (N2 : Int) (r2 : Int → mD → Int) (ih2 : ∀ (x2 : Int) (d : mD), Safe d → (0 ≤ x2 ∧ x2 ≤ 6) → 0 ≤ 6 - x2 → 6 - x2 < N2 → ((-1 ≤ (r2 x2 d) ∧ (r2 x2 d) ≤ 5) → K (.inl (some (0, (r2 x2 d)))) d) → tRun E 184 (2, [.inr (11, x0), .inl (0, x1), .inl (0, x2)], [], 0, 0, d) K) (x2 : Int) (d : mD) (hS : Safe d) (i0 : 0 ≤ x2 ∧ x2 ≤ 6) (hm : 6 - x2 ≤ N2) (h : (-1 ≤ (st_184_2 x0 x1 r2 x2 d) ∧ (st_184_2 x0 x1 r2 x2 d) ≤ 5) → K (.inl (some (0, (st_184_2 x0 x1 r2 x2 d)))) d) : tRun E 184 (2, [.inr (11, x0), .inl (0, x1), .inl (0, x2)], [], 0, 0, d) K := by
  refine t_184_2 ?_
  have q1 := mh_7 hS hx0 _ rfl
  refine ⟨by omega, ⟨m_inR (by omega) (by omega), m_inR (by omega) (by omega)⟩, fun c0 => ?_, fun c0 => ?_⟩
  · have y0 : st_184_2 x0 x1 r2 x2 d = (-1) := by simp only [st_184_2, if_neg (show ¬ x2 < d (x0 + 1) 7 from Int.not_lt.mpr c0)]
    rw [y0] at h
    exact h (show -1 ≤ ((-1 : Int)) ∧ ((-1 : Int)) ≤ 5 from (by omega))
  · refine k_177 hS ?_
    refine t_184_21 ?_
    have q2 := mo_0 hS hx0 x2 ((12 + (68 * x2)) + 0) (by omega) (by omega)
    refine ⟨by omega, ⟨m_inR (by omega) (by omega), m_inR (by omega) (by omega)⟩, fun c1 => ?_, fun c1 => ?_⟩
    · refine ih2 (x2 + 1)  d hS (by omega) (by omega) (by omega) ?_
      intro e
      have y0 : st_184_2 x0 x1 r2 x2 d = r2 (x2 + 1) d := by simp only [st_184_2, if_pos (show x2 < d (x0 + 1) 7 from c0), if_neg (show ¬ d (x0 + 1) ((12 + (68 * x2)) + 0) = x1 from c1)]
      rw [y0] at h
      exact h e
    · have y0 : st_184_2 x0 x1 r2 x2 d = x2 := by simp only [st_184_2, if_pos (show x2 < d (x0 + 1) 7 from c0), if_pos (show d (x0 + 1) ((12 + (68 * x2)) + 0) = x1 from c1)]
      rw [y0] at h
      exact h (show -1 ≤ x2 ∧ x2 ≤ 5 from (by omega))
theorem l_184_2 {E : mO × tW} {K : tK} {x0 x1 : Int} (hx0 : mdB x0) (p1 : -2147483648 ≤ x1 ∧ x1 ≤ 2147483647) : ∀ (n : Nat) (x2 : Int) (d : mD), Safe d → (0 ≤ x2 ∧ x2 ≤ 6) → 6 - x2 ≤ (n : Int) → ((-1 ≤ (lp_184_2 x0 x1 n x2 d) ∧ (lp_184_2 x0 x1 n x2 d) ≤ 5) → K (.inl (some (0, (lp_184_2 x0 x1 n x2 d)))) d) → tRun E 184 (2, [.inr (11, x0), .inl (0, x1), .inl (0, x2)], [], 0, 0, d) K := by
  intro n
  induction n with
  | zero =>
    intro x2  d hS i0 hm  h
    exact ls_184_2 hx0 p1 0 _ (fun _  _ _ _ m0 m1 _ => absurd m1 (by omega)) x2  d hS i0 hm  h
  | succ n ih =>
    intro x2  d hS i0 hm  h
    exact ls_184_2 hx0 p1 ((n + 1 : Nat) : Int) _ (fun x2  d hS i0  m0 m1 h => ih x2  d hS i0 (by omega)  h) x2  d hS i0 hm  h
def v_184 (x0 x1 : Int) (d : mD) : Int := lp_184_2 x0 x1 (6 - 0 : Int).toNat 0 d
theorem k_184 {E : mO × tW} {K : tK} {d : mD} {x0 x1 : Int} (hS : Safe d) (hx0 : mdB x0) (p1 : -2147483648 ≤ x1 ∧ x1 ≤ 2147483647) (h : (-1 ≤ (v_184 x0 x1 d) ∧ (v_184 x0 x1 d) ≤ 5) → K (.inl (some (0, (v_184 x0 x1 d)))) d) : tCall E 184 [.inr (11, x0), .inl (0, x1)] d K := by
  refine t_184_0 ?_
  refine l_184_2 hx0 p1 (6 - 0 : Int).toNat 0  d hS (by omega) (by omega) ?_
  intro e
  have y0 : v_184 x0 x1 d = lp_184_2 x0 x1 (6 - 0 : Int).toNat 0 d := by simp only [v_184]
  rw [y0] at h
  exact h e
def st_185_3 (x0 x1 : Int) (r3 : Int → mD → mD) (x2 : Int) (d : mD) : mD := if x2 < 0 then d else r3 (x2 + (-8)) (mset (mset d (x0 + 7) (d x0 9) (miand (mishr x1 x2) 255)) x0 9 ((d x0 9) + 1))
def lp_185_3 (x0 x1 : Int) : Nat → Int → mD → mD
  | 0 => st_185_3 x0 x1 (fun _ d => d)
  | n + 1 => st_185_3 x0 x1 (lp_185_3 x0 x1 n)
theorem ls_185_3 {E : mO × tW} {K : tK} {x0 x1 : Int} (hx0 : mdB x0) (p1 : -2147483648 ≤ x1 ∧ x1 ≤ 2147483647) (N3 : Int) (r3 : Int → mD → mD) (ih3 : ∀ (x2 : Int) (d : mD), Safe d → (-8 ≤ x2 ∧ x2 ≤ 24 ∧ x2 % 8 = 0) → (d x0 9 + x2 / 8 + 1 ≤ 1000) → 0 ≤ x2 + 8 → x2 + 8 < N3 → ((∀ b : Int, (b < x0 ∨ x0 < b) ∧ (b < x0 + 7 ∨ x0 + 7 < b) → (r3 x2 d) b = d b) → ((r3 x2 d) x0 9 = d x0 9 + x2 / 8 + 1) → Safe (r3 x2 d) → K (.inl none) (r3 x2 d)) → tRun E 185 (3, [.inr (11, x0), .inl (0, x1), .inl (0, x2)], [], 0, 0, d) K) (x2 : Int) (d : mD) (hS : Safe d) (i0 : -8 ≤ x2 ∧ x2 ≤ 24 ∧ x2 % 8 = 0) (i1 : d x0 9 + x2 / 8 + 1 ≤ 1000) (hm : x2 + 8 ≤ N3) (h : (∀ b : Int, (b < x0 ∨ x0 < b) ∧ (b < x0 + 7 ∨ x0 + 7 < b) → (st_185_3 x0 x1 r3 x2 d) b = d b) → ((st_185_3 x0 x1 r3 x2 d) x0 9 = d x0 9 + x2 / 8 + 1) → Safe (st_185_3 x0 x1 r3 x2 d) → K (.inl none) (st_185_3 x0 x1 r3 x2 d)) : tRun E 185 (3, [.inr (11, x0), .inl (0, x1), .inl (0, x2)], [], 0, 0, d) K := by
  refine t_185_3 ?_
  refine ⟨m_inR (by omega) (by omega), fun c0 => ?_, fun c0 => ?_⟩
  · have y0 : st_185_3 x0 x1 r3 x2 d = d := by simp only [st_185_3, if_pos (show x2 < 0 from c0)]
    rw [y0] at h
    exact h (show ∀ b : Int, (b < x0 ∨ x0 < b) ∧ (b < x0 + 7 ∨ x0 + 7 < b) → d b = d b from fun _ _ => rfl) (show d x0 9 = d x0 9 + x2 / 8 + 1 by omega) hS
  · have q1 := r_11_f9 hS hx0
    have q2 := miand_r (mishr x1 x2) 255 (by decide) (by decide)
    refine ⟨by omega, ?_⟩
    have hS1 : Safe (mset d (x0 + 7) (d x0 9) (miand (mishr x1 x2) 255)) := s_11_7 hS hx0 (by omega)
    rw [mset_ne (d := d) (a := x0 + 7) (i := d x0 9) (v := miand (mishr x1 x2) 255) (b := x0) (by omega)]
    have hS2 : Safe (mset (mset d (x0 + 7) (d x0 9) (miand (mishr x1 x2) 255)) x0 9 ((d x0 9) + 1)) := s_11_f9 hS1 hx0 (by omega)
    have q3 : (mset (mset d (x0 + 7) (d x0 9) (miand (mishr x1 x2) 255)) x0 9 ((d x0 9) + 1)) x0 9 = (d x0 9) + 1 := mset_eq
    refine ih3 (x2 + (-8))  (mset (mset d (x0 + 7) (d x0 9) (miand (mishr x1 x2) 255)) x0 9 ((d x0 9) + 1)) hS2 (by omega) (by omega) (by omega) (by omega) ?_
    intro F n0 hS_
    have y0 : st_185_3 x0 x1 r3 x2 d = r3 (x2 + (-8)) (mset (mset d (x0 + 7) (d x0 9) (miand (mishr x1 x2) 255)) x0 9 ((d x0 9) + 1)) := by simp only [st_185_3, if_neg (show ¬ x2 < 0 from Int.not_lt.mpr c0)]
    rw [y0] at h
    exact h (fun b hb => (F b hb).trans ((show ∀ b : Int, (b < x0 ∨ x0 < b) ∧ (b < x0 + 7 ∨ x0 + 7 < b) → (mset (mset d (x0 + 7) (d x0 9) (miand (mishr x1 x2) 255)) x0 9 ((d x0 9) + 1)) b = d b from fun b hb => (mset_ne (by omega)).trans (mset_ne (by omega))) b hb)) (by omega) hS_
theorem l_185_3 {E : mO × tW} {K : tK} {x0 x1 : Int} (hx0 : mdB x0) (p1 : -2147483648 ≤ x1 ∧ x1 ≤ 2147483647) : ∀ (n : Nat) (x2 : Int) (d : mD), Safe d → (-8 ≤ x2 ∧ x2 ≤ 24 ∧ x2 % 8 = 0) → (d x0 9 + x2 / 8 + 1 ≤ 1000) → x2 + 8 ≤ (n : Int) → ((∀ b : Int, (b < x0 ∨ x0 < b) ∧ (b < x0 + 7 ∨ x0 + 7 < b) → (lp_185_3 x0 x1 n x2 d) b = d b) → ((lp_185_3 x0 x1 n x2 d) x0 9 = d x0 9 + x2 / 8 + 1) → Safe (lp_185_3 x0 x1 n x2 d) → K (.inl none) (lp_185_3 x0 x1 n x2 d)) → tRun E 185 (3, [.inr (11, x0), .inl (0, x1), .inl (0, x2)], [], 0, 0, d) K := by
  intro n
  induction n with
  | zero =>
    intro x2  d hS i0 i1 hm  h
    exact ls_185_3 hx0 p1 0 _ (fun _  _ _ _ _ m0 m1 _ => absurd m1 (by omega)) x2  d hS i0 i1 hm  h
  | succ n ih =>
    intro x2  d hS i0 i1 hm  h
    exact ls_185_3 hx0 p1 ((n + 1 : Nat) : Int) _ (fun x2  d hS i0 i1  m0 m1 h => ih x2  d hS i0 i1 (by omega)  h) x2  d hS i0 i1 hm  h
def g_185 (x0 x1 : Int) (d : mD) : mD := lp_185_3 x0 x1 (24 + 8 : Int).toNat 24 d
theorem k_185 {E : mO × tW} {K : tK} {d : mD} {x0 x1 : Int} (hS : Safe d) (hx0 : mdB x0) (p1 : -2147483648 ≤ x1 ∧ x1 ≤ 2147483647) (hl : d x0 9 + 4 ≤ 1000) (h : (∀ b : Int, (b < x0 ∨ x0 < b) ∧ (b < x0 + 7 ∨ x0 + 7 < b) → (g_185 x0 x1 d) b = d b) → ((g_185 x0 x1 d) x0 9 = d x0 9 + 4) → Safe (g_185 x0 x1 d) → K (.inl none) (g_185 x0 x1 d)) : tCall E 185 [.inr (11, x0), .inl (0, x1)] d K := by
  refine t_185_0 ?_
  refine l_185_3 hx0 p1 (24 + 8 : Int).toNat 24  d hS (by omega) (by omega) (by omega) ?_
  intro F n0 hS_
  have y0 : g_185 x0 x1 d = lp_185_3 x0 x1 (24 + 8 : Int).toNat 24 d := by simp only [g_185]
  rw [y0] at h
  exact h F (by omega) hS_
def v_186 (x0 x1 x2 x3 x4 x5 : Int) (d : mD) : Int := if (1000 : Int) < (d x0 9) + 20 then 0 else (g_185 x0 x5 (g_185 x0 x4 (g_185 x0 x3 (g_185 x0 x2 (g_185 x0 x1 (mset d x0 0 0)))))) x0 9
def g_186 (x0 x1 x2 x3 x4 x5 : Int) (d : mD) : mD := if (1000 : Int) < (d x0 9) + 20 then mset d x0 0 1 else g_185 x0 x5 (g_185 x0 x4 (g_185 x0 x3 (g_185 x0 x2 (g_185 x0 x1 (mset d x0 0 0)))))
theorem k_186 {E : mO × tW} {K : tK} {d : mD} {x0 x1 x2 x3 x4 x5 : Int} (hS : Safe d) (hx0 : mdB x0) (p1 : -2147483648 ≤ x1 ∧ x1 ≤ 2147483647) (p2 : -2147483648 ≤ x2 ∧ x2 ≤ 2147483647) (p3 : -2147483648 ≤ x3 ∧ x3 ≤ 2147483647) (p4 : -2147483648 ≤ x4 ∧ x4 ≤ 2147483647) (p5 : -2147483648 ≤ x5 ∧ x5 ≤ 2147483647) (h : (0 ≤ (v_186 x0 x1 x2 x3 x4 x5 d) ∧ (v_186 x0 x1 x2 x3 x4 x5 d) ≤ 1000) → (∀ b : Int, (b < x0 ∨ x0 < b) ∧ (b < x0 + 7 ∨ x0 + 7 < b) → (g_186 x0 x1 x2 x3 x4 x5 d) b = d b) → Safe (g_186 x0 x1 x2 x3 x4 x5 d) → K (.inl (some (0, (v_186 x0 x1 x2 x3 x4 x5 d)))) (g_186 x0 x1 x2 x3 x4 x5 d)) : tCall E 186 [.inr (11, x0), .inl (0, x1), .inl (0, x2), .inl (0, x3), .inl (0, x4), .inl (0, x5)] d K := by
  refine t_186_0 ?_
  have q1 := r_11_f9 hS hx0
  refine ⟨⟨m_inR (by omega) (by omega), m_inR (by omega) (by omega)⟩, fun c0 => ?_, fun c0 => ?_⟩
  · have hS1 : Safe (mset d x0 0 0) := s_11_f0 hS hx0 (by omega)
    rw [mset_eq (d := d) (a := x0) (i := (0 : Int)) (v := (0 : Int))]
    refine ⟨m_inR (by omega) (by omega), fun c1 => ?_, fun c1 => ?_⟩
    · have q2 : (mset d x0 0 0) x0 9 = d x0 9 := mset_ni (by omega)
      refine k_185 hS1 hx0 (m_inR (by omega) (by omega)) (by omega) (fun F1 n1_0 hS2 => ?_)
      refine t_186_36 ?_
      refine k_185 hS2 hx0 (m_inR (by omega) (by omega)) (by omega) (fun F2 n2_0 hS3 => ?_)
      refine t_186_41 ?_
      refine k_185 hS3 hx0 (m_inR (by omega) (by omega)) (by omega) (fun F3 n3_0 hS4 => ?_)
      refine t_186_46 ?_
      refine k_185 hS4 hx0 (m_inR (by omega) (by omega)) (by omega) (fun F4 n4_0 hS5 => ?_)
      refine t_186_52 ?_
      refine k_185 hS5 hx0 (m_inR (by omega) (by omega)) (by omega) (fun F5 n5_0 hS6 => ?_)
      refine t_186_58 ?_
      have q3 := r_11_f9 hS6 hx0
      have y0 : v_186 x0 x1 x2 x3 x4 x5 d = (g_185 x0 x5 (g_185 x0 x4 (g_185 x0 x3 (g_185 x0 x2 (g_185 x0 x1 (mset d x0 0 0)))))) x0 9 := by simp only [v_186, if_neg (show ¬ (1000 : Int) < (d x0 9) + 20 from Int.not_lt.mpr c0), if_neg (show ¬ (0 : Int) < 0 from Int.not_lt.mpr c1)]
      have y1 : g_186 x0 x1 x2 x3 x4 x5 d = g_185 x0 x5 (g_185 x0 x4 (g_185 x0 x3 (g_185 x0 x2 (g_185 x0 x1 (mset d x0 0 0))))) := by simp only [g_186, if_neg (show ¬ (1000 : Int) < (d x0 9) + 20 from Int.not_lt.mpr c0), if_neg (show ¬ (0 : Int) < 0 from Int.not_lt.mpr c1)]
      rw [y0] at h
      rw [y1] at h
      exact h (show 0 ≤ ((g_185 x0 x5 (g_185 x0 x4 (g_185 x0 x3 (g_185 x0 x2 (g_185 x0 x1 (mset d x0 0 0)))))) x0 9) ∧ ((g_185 x0 x5 (g_185 x0 x4 (g_185 x0 x3 (g_185 x0 x2 (g_185 x0 x1 (mset d x0 0 0)))))) x0 9) ≤ 1000 from (by omega)) (show ∀ b : Int, (b < x0 ∨ x0 < b) ∧ (b < x0 + 7 ∨ x0 + 7 < b) → (g_185 x0 x5 (g_185 x0 x4 (g_185 x0 x3 (g_185 x0 x2 (g_185 x0 x1 (mset d x0 0 0)))))) b = d b from fun b hb => (F5 b (by omega)).trans ((F4 b (by omega)).trans ((F3 b (by omega)).trans ((F2 b (by omega)).trans ((F1 b (by omega)).trans (mset_ne (by omega))))))) hS6
    · exact (show False by omega).elim
  · have hS7 : Safe (mset d x0 0 1) := s_11_f0 hS hx0 (by omega)
    rw [mset_eq (d := d) (a := x0) (i := (0 : Int)) (v := (1 : Int))]
    refine ⟨m_inR (by omega) (by omega), fun c1 => ?_, fun c1 => ?_⟩
    · exact (show False by omega).elim
    · have y0 : v_186 x0 x1 x2 x3 x4 x5 d = 0 := by simp only [v_186, if_pos (show (1000 : Int) < (d x0 9) + 20 from c0), if_pos (show (0 : Int) < 1 from c1)]
      have y1 : g_186 x0 x1 x2 x3 x4 x5 d = mset d x0 0 1 := by simp only [g_186, if_pos (show (1000 : Int) < (d x0 9) + 20 from c0), if_pos (show (0 : Int) < 1 from c1)]
      rw [y0] at h
      rw [y1] at h
      exact h (show 0 ≤ ((0 : Int)) ∧ ((0 : Int)) ≤ 1000 from (by omega)) (show ∀ b : Int, (b < x0 ∨ x0 < b) ∧ (b < x0 + 7 ∨ x0 + 7 < b) → (mset d x0 0 1) b = d b from fun b hb => mset_ne (by omega)) hS7
def v_187 (x0 x1 : Int) (d : mD) : Int := if v_176 x1 0 (d x0 9) d = 0 then 0 else x1
def g_187 (x0 x1 : Int) (d : mD) : mD := if v_176 x1 0 (d x0 9) d = 0 then mset d x0 0 1 else mset (mset d x0 0 0) x0 9 x1
theorem k_187 {E : mO × tW} {K : tK} {d : mD} {x0 x1 : Int} (hS : Safe d) (hx0 : mdB x0) (p1 : -2147483648 ≤ x1 ∧ x1 ≤ 2147483647) (h : (0 ≤ (v_187 x0 x1 d) ∧ (v_187 x0 x1 d) ≤ 1000) → (∀ b : Int, (b < x0 ∨ x0 < b) → (g_187 x0 x1 d) b = d b) → Safe (g_187 x0 x1 d) → K (.inl (some (0, (v_187 x0 x1 d)))) (g_187 x0 x1 d)) : tCall E 187 [.inr (11, x0), .inl (0, x1)] d K := by
  refine t_187_0 ?_
  have q1 := r_11_f9 hS hx0
  refine ⟨m_inR (by omega) (by omega), m_inR (by omega) (by omega), ?_⟩
  refine k_176 hS (m_inR (by omega) (by omega)) (m_inR (by omega) (by omega)) (m_inR (by omega) (by omega)) (fun e1 => ?_)
  refine t_187_12 ?_
  refine ⟨m_inR (by omega) (by omega), fun c0 => ?_, fun c0 => ?_⟩
  · have hS1 : Safe (mset d x0 0 1) := s_11_f0 hS hx0 (by omega)
    rw [mset_eq (d := d) (a := x0) (i := (0 : Int)) (v := (1 : Int))]
    refine ⟨m_inR (by omega) (by omega), fun c1 => ?_, fun c1 => ?_⟩
    · exact (show False by omega).elim
    · have y0 : v_187 x0 x1 d = 0 := by simp only [v_187, if_pos (show v_176 x1 0 (d x0 9) d = 0 from c0), if_pos (show (0 : Int) < 1 from c1)]
      have y1 : g_187 x0 x1 d = mset d x0 0 1 := by simp only [g_187, if_pos (show v_176 x1 0 (d x0 9) d = 0 from c0), if_pos (show (0 : Int) < 1 from c1)]
      rw [y0] at h
      rw [y1] at h
      exact h (show 0 ≤ ((0 : Int)) ∧ ((0 : Int)) ≤ 1000 from (by omega)) (show ∀ b : Int, (b < x0 ∨ x0 < b) → (mset d x0 0 1) b = d b from fun b hb => mset_ne (by omega)) hS1
  · have hS2 : Safe (mset d x0 0 0) := s_11_f0 hS hx0 (by omega)
    rw [mset_eq (d := d) (a := x0) (i := (0 : Int)) (v := (0 : Int))]
    refine ⟨m_inR (by omega) (by omega), fun c1 => ?_, fun c1 => ?_⟩
    · have hS3 : Safe (mset (mset d x0 0 0) x0 9 x1) := s_11_f9 hS2 hx0 (by omega)
      have y0 : v_187 x0 x1 d = x1 := by simp only [v_187, if_neg (show ¬ v_176 x1 0 (d x0 9) d = 0 from c0), if_neg (show ¬ (0 : Int) < 0 from Int.not_lt.mpr c1)]
      have y1 : g_187 x0 x1 d = mset (mset d x0 0 0) x0 9 x1 := by simp only [g_187, if_neg (show ¬ v_176 x1 0 (d x0 9) d = 0 from c0), if_neg (show ¬ (0 : Int) < 0 from Int.not_lt.mpr c1)]
      rw [y0] at h
      rw [y1] at h
      exact h (show 0 ≤ x1 ∧ x1 ≤ 1000 from (by omega)) (show ∀ b : Int, (b < x0 ∨ x0 < b) → (mset (mset d x0 0 0) x0 9 x1) b = d b from fun b hb => (mset_ne (by omega)).trans (mset_ne (by omega))) hS3
    · exact (show False by omega).elim
def v_190 (x0 x1 : Int) (d : mD) : Int := if x1 < d x0 9 then (if v_176 (d (x0 + 7) x1) 97 122 d = 0 then 0 else 1) else 0
theorem k_190 {E : mO × tW} {K : tK} {d : mD} {x0 x1 : Int} (hS : Safe d) (hx0 : mdB x0) (p1 : 0 ≤ x1 ∧ x1 ≤ 1000) (h : ((0 ≤ (v_190 x0 x1 d) ∧ (v_190 x0 x1 d) ≤ 1) ∧ ((v_190 x0 x1 d) = 0 ∨ (x1 < d x0 9 ∧ 97 ≤ d (x0 + 7) x1 ∧ d (x0 + 7) x1 ≤ 122))) → K (.inl (some (0, (v_190 x0 x1 d)))) d) : tCall E 190 [.inr (11, x0), .inl (0, x1)] d K := by
  refine t_190_0 ?_
  have q1 := r_11_f9 hS hx0
  refine ⟨⟨m_inR (by omega) (by omega), m_inR (by omega) (by omega)⟩, fun c0 => ?_, fun c0 => ?_⟩
  · refine ⟨by omega, ?_⟩
    have y0 : v_190 x0 x1 d = 0 := by simp only [v_190, if_neg (show ¬ x1 < d x0 9 from Int.not_lt.mpr c0)]
    rw [y0] at h
    exact h (show (0 ≤ ((0 : Int)) ∧ ((0 : Int)) ≤ 1) ∧ (((0 : Int)) = 0 ∨ (x1 < d x0 9 ∧ 97 ≤ d (x0 + 7) x1 ∧ d (x0 + 7) x1 ≤ 122)) from (by omega))
  · have q2 := r_11_7 hS hx0 x1
    refine ⟨by omega, m_inR (by omega) (by omega), ?_⟩
    refine k_176 hS (m_inR (by omega) (by omega)) (m_inR (by omega) (by omega)) (m_inR (by omega) (by omega)) (fun e1 => ?_)
    refine t_190_24 ?_
    refine ⟨m_inR (by omega) (by omega), fun c1 => ?_, fun c1 => ?_⟩
    · refine ⟨by omega, ?_⟩
      have y0 : v_190 x0 x1 d = 0 := by simp only [v_190, if_pos (show x1 < d x0 9 from c0), if_pos (show v_176 (d (x0 + 7) x1) 97 122 d = 0 from c1)]
      rw [y0] at h
      exact h (show (0 ≤ ((0 : Int)) ∧ ((0 : Int)) ≤ 1) ∧ (((0 : Int)) = 0 ∨ (x1 < d x0 9 ∧ 97 ≤ d (x0 + 7) x1 ∧ d (x0 + 7) x1 ≤ 122)) from (by omega))
    · refine ⟨by omega, ?_⟩
      have y0 : v_190 x0 x1 d = 1 := by simp only [v_190, if_pos (show x1 < d x0 9 from c0), if_neg (show ¬ v_176 (d (x0 + 7) x1) 97 122 d = 0 from c1)]
      rw [y0] at h
      exact h (show (0 ≤ ((1 : Int)) ∧ ((1 : Int)) ≤ 1) ∧ (((1 : Int)) = 0 ∨ (x1 < d x0 9 ∧ 97 ≤ d (x0 + 7) x1 ∧ d (x0 + 7) x1 ≤ 122)) from (by omega))
def v_191 (x0 x1 : Int) (d : mD) : Int := if x1 < d x0 9 then (if v_176 (d (x0 + 7) x1) 48 57 d = 0 then 0 else 1) else 0
theorem k_191 {E : mO × tW} {K : tK} {d : mD} {x0 x1 : Int} (hS : Safe d) (hx0 : mdB x0) (p1 : 0 ≤ x1 ∧ x1 ≤ 1000) (h : ((0 ≤ (v_191 x0 x1 d) ∧ (v_191 x0 x1 d) ≤ 1) ∧ ((v_191 x0 x1 d) = 0 ∨ (x1 < d x0 9 ∧ 48 ≤ d (x0 + 7) x1 ∧ d (x0 + 7) x1 ≤ 57))) → K (.inl (some (0, (v_191 x0 x1 d)))) d) : tCall E 191 [.inr (11, x0), .inl (0, x1)] d K := by
  refine t_191_0 ?_
  have q1 := r_11_f9 hS hx0
  refine ⟨⟨m_inR (by omega) (by omega), m_inR (by omega) (by omega)⟩, fun c0 => ?_, fun c0 => ?_⟩
  · refine ⟨by omega, ?_⟩
    have y0 : v_191 x0 x1 d = 0 := by simp only [v_191, if_neg (show ¬ x1 < d x0 9 from Int.not_lt.mpr c0)]
    rw [y0] at h
    exact h (show (0 ≤ ((0 : Int)) ∧ ((0 : Int)) ≤ 1) ∧ (((0 : Int)) = 0 ∨ (x1 < d x0 9 ∧ 48 ≤ d (x0 + 7) x1 ∧ d (x0 + 7) x1 ≤ 57)) from (by omega))
  · have q2 := r_11_7 hS hx0 x1
    refine ⟨by omega, m_inR (by omega) (by omega), ?_⟩
    refine k_176 hS (m_inR (by omega) (by omega)) (m_inR (by omega) (by omega)) (m_inR (by omega) (by omega)) (fun e1 => ?_)
    refine t_191_24 ?_
    refine ⟨m_inR (by omega) (by omega), fun c1 => ?_, fun c1 => ?_⟩
    · refine ⟨by omega, ?_⟩
      have y0 : v_191 x0 x1 d = 0 := by simp only [v_191, if_pos (show x1 < d x0 9 from c0), if_pos (show v_176 (d (x0 + 7) x1) 48 57 d = 0 from c1)]
      rw [y0] at h
      exact h (show (0 ≤ ((0 : Int)) ∧ ((0 : Int)) ≤ 1) ∧ (((0 : Int)) = 0 ∨ (x1 < d x0 9 ∧ 48 ≤ d (x0 + 7) x1 ∧ d (x0 + 7) x1 ≤ 57)) from (by omega))
    · refine ⟨by omega, ?_⟩
      have y0 : v_191 x0 x1 d = 1 := by simp only [v_191, if_pos (show x1 < d x0 9 from c0), if_neg (show ¬ v_176 (d (x0 + 7) x1) 48 57 d = 0 from c1)]
      rw [y0] at h
      exact h (show (0 ≤ ((1 : Int)) ∧ ((1 : Int)) ≤ 1) ∧ (((1 : Int)) = 0 ∨ (x1 < d x0 9 ∧ 48 ≤ d (x0 + 7) x1 ∧ d (x0 + 7) x1 ≤ 57)) from (by omega))
def st_201_10 (x0 x1 : Int) (r10 : Int → mD → Int) (x2 : Int) (d : mD) : Int := if x2 < 0 then (-1) else if d (x0 + 1) ((452 + (24 * x2)) + 0) = x1 then x2 else r10 (x2 + (-1)) d
def lp_201_10 (x0 x1 : Int) : Nat → Int → mD → Int
  | 0 => st_201_10 x0 x1 (fun _ d => 0)
  | n + 1 => st_201_10 x0 x1 (lp_201_10 x0 x1 n)
theorem ls_201_10 {E : mO × tW} {K : tK} {x0 x1 : Int} (hx0 : mdB x0) (p1 : -2147483648 ≤ x1 ∧ x1 ≤ 2147483647) (N10 : Int) (r10 : Int → mD → Int) (ih10 : ∀ (x2 : Int) (d : mD), Safe d → (-1 ≤ x2 ∧ x2 ≤ 60) → 0 ≤ x2 + 1 → x2 + 1 < N10 → ((-1 ≤ (r10 x2 d) ∧ (r10 x2 d) ≤ 60) → K (.inl (some (0, (r10 x2 d)))) d) → tRun E 201 (10, [.inr (11, x0), .inl (0, x1), .inl (0, x2)], [], 0, 0, d) K) (x2 : Int) (d : mD) (hS : Safe d) (i0 : -1 ≤ x2 ∧ x2 ≤ 60) (hm : x2 + 1 ≤ N10) (h : (-1 ≤ (st_201_10 x0 x1 r10 x2 d) ∧ (st_201_10 x0 x1 r10 x2 d) ≤ 60) → K (.inl (some (0, (st_201_10 x0 x1 r10 x2 d)))) d) : tRun E 201 (10, [.inr (11, x0), .inl (0, x1), .inl (0, x2)], [], 0, 0, d) K := by
  refine t_201_10 ?_
  refine ⟨m_inR (by omega) (by omega), fun c0 => ?_, fun c0 => ?_⟩
  · have y0 : st_201_10 x0 x1 r10 x2 d = (-1) := by simp only [st_201_10, if_pos (show x2 < 0 from c0)]
    rw [y0] at h
    exact h (show -1 ≤ ((-1 : Int)) ∧ ((-1 : Int)) ≤ 60 from (by omega))
  · refine k_179 hS ?_
    refine t_201_22 ?_
    have q1 := mt_0 hS hx0 x2 ((452 + (24 * x2)) + 0) (by omega) (by omega)
    refine ⟨by omega, ⟨m_inR (by omega) (by omega), m_inR (by omega) (by omega)⟩, fun c1 => ?_, fun c1 => ?_⟩
    · refine ih10 (x2 + (-1))  d hS (by omega) (by omega) (by omega) ?_
      intro e
      have y0 : st_201_10 x0 x1 r10 x2 d = r10 (x2 + (-1)) d := by simp only [st_201_10, if_neg (show ¬ x2 < 0 from Int.not_lt.mpr c0), if_neg (show ¬ d (x0 + 1) ((452 + (24 * x2)) + 0) = x1 from c1)]
      rw [y0] at h
      exact h e
    · have y0 : st_201_10 x0 x1 r10 x2 d = x2 := by simp only [st_201_10, if_neg (show ¬ x2 < 0 from Int.not_lt.mpr c0), if_pos (show d (x0 + 1) ((452 + (24 * x2)) + 0) = x1 from c1)]
      rw [y0] at h
      exact h (show -1 ≤ x2 ∧ x2 ≤ 60 from (by omega))
theorem l_201_10 {E : mO × tW} {K : tK} {x0 x1 : Int} (hx0 : mdB x0) (p1 : -2147483648 ≤ x1 ∧ x1 ≤ 2147483647) : ∀ (n : Nat) (x2 : Int) (d : mD), Safe d → (-1 ≤ x2 ∧ x2 ≤ 60) → x2 + 1 ≤ (n : Int) → ((-1 ≤ (lp_201_10 x0 x1 n x2 d) ∧ (lp_201_10 x0 x1 n x2 d) ≤ 60) → K (.inl (some (0, (lp_201_10 x0 x1 n x2 d)))) d) → tRun E 201 (10, [.inr (11, x0), .inl (0, x1), .inl (0, x2)], [], 0, 0, d) K := by
  intro n
  induction n with
  | zero =>
    intro x2  d hS i0 hm  h
    exact ls_201_10 hx0 p1 0 _ (fun _  _ _ _ m0 m1 _ => absurd m1 (by omega)) x2  d hS i0 hm  h
  | succ n ih =>
    intro x2  d hS i0 hm  h
    exact ls_201_10 hx0 p1 ((n + 1 : Nat) : Int) _ (fun x2  d hS i0  m0 m1 h => ih x2  d hS i0 (by omega)  h) x2  d hS i0 hm  h
def v_201 (x0 x1 : Int) (d : mD) : Int := lp_201_10 x0 x1 (((d (x0 + 1) 9) - 1) + 1 : Int).toNat ((d (x0 + 1) 9) - 1) d
theorem k_201 {E : mO × tW} {K : tK} {d : mD} {x0 x1 : Int} (hS : Safe d) (hx0 : mdB x0) (p1 : -2147483648 ≤ x1 ∧ x1 ≤ 2147483647) (h : (-1 ≤ (v_201 x0 x1 d) ∧ (v_201 x0 x1 d) ≤ 60) → K (.inl (some (0, (v_201 x0 x1 d)))) d) : tCall E 201 [.inr (11, x0), .inl (0, x1)] d K := by
  refine t_201_0 ?_
  refine ⟨by omega, ?_⟩
  have q2 := mh_9 hS hx0 _ rfl
  refine l_201_10 hx0 p1 (((d (x0 + 1) 9) - 1) + 1 : Int).toNat ((d (x0 + 1) 9) - 1)  d hS (by omega) (by omega) ?_
  intro e
  have y0 : v_201 x0 x1 d = lp_201_10 x0 x1 (((d (x0 + 1) 9) - 1) + 1 : Int).toNat ((d (x0 + 1) 9) - 1) d := by simp only [v_201]
  rw [y0] at h
  exact h e
/-! ===== contracts of the reference's methods: printed by a program of mine ===== -/
def v_212 (x0 x1 : Int) (d : mD) : Int := if d (x0 + 1) ((452 + (24 * x1)) + 3) = (-1) then d (x0 + 1) 0 else d (x0 + 1) ((452 + (24 * x1)) + 3)
theorem k_212 {E : mO × tW} {K : tK} {d : mD} {x0 x1 : Int} (hS : Safe d) (hx0 : mdB x0) (p1 : 0 ≤ x1 ∧ x1 ≤ 60) (h : (0 ≤ (v_212 x0 x1 d) ∧ (v_212 x0 x1 d) ≤ 1200) → K (.inl (some (0, (v_212 x0 x1 d)))) d) : tCall E 212 [.inr (11, x0), .inl (0, x1)] d K := by
  refine t_212_0 ?_
  refine k_179 hS ?_
  refine t_212_8 ?_
  have q1 := mt_3 hS hx0 x1 ((452 + (24 * x1)) + 3) (by omega) (by omega)
  refine ⟨by omega, ⟨m_inR (by omega) (by omega), m_inR (by omega) (by omega)⟩, fun c0 => ?_, fun c0 => ?_⟩
  · have y0 : v_212 x0 x1 d = d (x0 + 1) ((452 + (24 * x1)) + 3) := by simp only [v_212, if_neg (show ¬ d (x0 + 1) ((452 + (24 * x1)) + 3) = (-1) from c0)]
    rw [y0] at h
    exact h (show 0 ≤ (d (x0 + 1) ((452 + (24 * x1)) + 3)) ∧ (d (x0 + 1) ((452 + (24 * x1)) + 3)) ≤ 1200 from (by omega))
  · have q2 := mh_0 hS hx0 _ rfl
    refine ⟨by omega, ?_⟩
    have y0 : v_212 x0 x1 d = d (x0 + 1) 0 := by simp only [v_212, if_pos (show d (x0 + 1) ((452 + (24 * x1)) + 3) = (-1) from c0)]
    rw [y0] at h
    exact h (show 0 ≤ (d (x0 + 1) 0) ∧ (d (x0 + 1) 0) ≤ 1200 from (by omega))
def v_213 (x0 x1 : Int) (d : mD) : Int := if ((v_212 x0 x1 d) - (d (x0 + 1) ((452 + (24 * x1)) + 2))) - (d (x0 + 1) 2) < 0 then 0 else ((v_212 x0 x1 d) - (d (x0 + 1) ((452 + (24 * x1)) + 2))) - (d (x0 + 1) 2)
theorem k_213 {E : mO × tW} {K : tK} {d : mD} {x0 x1 : Int} (hS : Safe d) (hx0 : mdB x0) (p1 : 0 ≤ x1 ∧ x1 ≤ 60) (h : (0 ≤ (v_213 x0 x1 d) ∧ (v_213 x0 x1 d) ≤ 1200) → K (.inl (some (0, (v_213 x0 x1 d)))) d) : tCall E 213 [.inr (11, x0), .inl (0, x1)] d K := by
  refine t_213_0 ?_
  refine k_212 hS hx0 (by omega) (fun e1 => ?_)
  refine t_213_5 ?_
  refine k_179 hS ?_
  refine t_213_13 ?_
  have q1 := mt_2 hS hx0 x1 ((452 + (24 * x1)) + 2) (by omega) (by omega)
  have q2 := mh_2 hS hx0 _ rfl
  refine ⟨by omega, by omega, m_inR (by omega) (by omega), fun c0 => ?_, fun c0 => ?_⟩
  · have y0 : v_213 x0 x1 d = ((v_212 x0 x1 d) - (d (x0 + 1) ((452 + (24 * x1)) + 2))) - (d (x0 + 1) 2) := by simp only [v_213, if_neg (show ¬ ((v_212 x0 x1 d) - (d (x0 + 1) ((452 + (24 * x1)) + 2))) - (d (x0 + 1) 2) < 0 from Int.not_lt.mpr c0)]
    rw [y0] at h
    exact h (show 0 ≤ (((v_212 x0 x1 d) - (d (x0 + 1) ((452 + (24 * x1)) + 2))) - (d (x0 + 1) 2)) ∧ (((v_212 x0 x1 d) - (d (x0 + 1) ((452 + (24 * x1)) + 2))) - (d (x0 + 1) 2)) ≤ 1200 from (by omega))
  · have y0 : v_213 x0 x1 d = 0 := by simp only [v_213, if_pos (show ((v_212 x0 x1 d) - (d (x0 + 1) ((452 + (24 * x1)) + 2))) - (d (x0 + 1) 2) < 0 from c0)]
    rw [y0] at h
    exact h (show 0 ≤ ((0 : Int)) ∧ ((0 : Int)) ≤ 1200 from (by omega))
def v_214 (x0 x1 x2 : Int) (d : mD) : Int := if x2 < (d (x0 + 1) ((452 + (24 * x1)) + 2)) + (d (x0 + 1) 2) then 0 else if x2 < v_212 x0 x1 d then 1 else 0
theorem k_214 {E : mO × tW} {K : tK} {d : mD} {x0 x1 x2 : Int} (hS : Safe d) (hx0 : mdB x0) (p1 : 0 ≤ x1 ∧ x1 ≤ 60) (p2 : -2147483648 ≤ x2 ∧ x2 ≤ 2147483647) (h : (0 ≤ (v_214 x0 x1 x2 d) ∧ (v_214 x0 x1 x2 d) ≤ 1) → K (.inl (some (0, (v_214 x0 x1 x2 d)))) d) : tCall E 214 [.inr (11, x0), .inl (0, x1), .inl (0, x2)] d K := by
  refine t_214_0 ?_
  refine k_179 hS ?_
  refine t_214_9 ?_
  have q1 := mt_2 hS hx0 x1 ((452 + (24 * x1)) + 2) (by omega) (by omega)
  have q2 := mh_2 hS hx0 _ rfl
  refine ⟨by omega, by omega, ⟨m_inR (by omega) (by omega), m_inR (by omega) (by omega)⟩, fun c0 => ?_, fun c0 => ?_⟩
  · refine ⟨by omega, ?_⟩
    have y0 : v_214 x0 x1 x2 d = 0 := by simp only [v_214, if_pos (show x2 < (d (x0 + 1) ((452 + (24 * x1)) + 2)) + (d (x0 + 1) 2) from c0)]
    rw [y0] at h
    exact h (show 0 ≤ ((0 : Int)) ∧ ((0 : Int)) ≤ 1 from (by omega))
  · refine k_212 hS hx0 (by omega) (fun e1 => ?_)
    refine t_214_28 ?_
    refine ⟨⟨m_inR (by omega) (by omega), m_inR (by omega) (by omega)⟩, fun c1 => ?_, fun c1 => ?_⟩
    · refine ⟨by omega, ?_⟩
      have y0 : v_214 x0 x1 x2 d = 0 := by simp only [v_214, if_neg (show ¬ x2 < (d (x0 + 1) ((452 + (24 * x1)) + 2)) + (d (x0 + 1) 2) from Int.not_lt.mpr c0), if_neg (show ¬ x2 < v_212 x0 x1 d from Int.not_lt.mpr c1)]
      rw [y0] at h
      exact h (show 0 ≤ ((0 : Int)) ∧ ((0 : Int)) ≤ 1 from (by omega))
    · refine ⟨by omega, ?_⟩
      have y0 : v_214 x0 x1 x2 d = 1 := by simp only [v_214, if_neg (show ¬ x2 < (d (x0 + 1) ((452 + (24 * x1)) + 2)) + (d (x0 + 1) 2) from Int.not_lt.mpr c0), if_pos (show x2 < v_212 x0 x1 d from c1)]
      rw [y0] at h
      exact h (show 0 ≤ ((1 : Int)) ∧ ((1 : Int)) ≤ 1 from (by omega))
def v_215 (x0 x1 : Int) (d : mD) : Int := d (x0 + 1) ((452 + (24 * (d (x0 + 1) ((1916 + (5 * x1)) + 1)))) + 0)
theorem k_215 {E : mO × tW} {K : tK} {d : mD} {x0 x1 : Int} (hS : Safe d) (hx0 : mdB x0) (p1 : 0 ≤ x1 ∧ x1 ≤ 199) (h : (0 ≤ (v_215 x0 x1 d) ∧ (v_215 x0 x1 d) ≤ 15) → K (.inl (some (0, (v_215 x0 x1 d)))) d) : tCall E 215 [.inr (11, x0), .inl (0, x1)] d K := by
  refine t_215_0 ?_
  refine k_180 hS ?_
  refine t_215_12 ?_
  refine ⟨by omega, ?_⟩
  refine k_179 hS ?_
  refine t_215_18 ?_
  have q1 := mk_1 hS hx0 x1 ((1916 + (5 * x1)) + 1) (by omega) (by omega)
  have q2 := mt_0 hS hx0 (d (x0 + 1) ((1916 + (5 * x1)) + 1)) ((452 + (24 * (d (x0 + 1) ((1916 + (5 * x1)) + 1)))) + 0) (by omega) (by omega)
  refine ⟨by omega, ?_⟩
  have y0 : v_215 x0 x1 d = d (x0 + 1) ((452 + (24 * (d (x0 + 1) ((1916 + (5 * x1)) + 1)))) + 0) := by simp only [v_215]
  rw [y0] at h
  exact h (show 0 ≤ (d (x0 + 1) ((452 + (24 * (d (x0 + 1) ((1916 + (5 * x1)) + 1)))) + 0)) ∧ (d (x0 + 1) ((452 + (24 * (d (x0 + 1) ((1916 + (5 * x1)) + 1)))) + 0)) ≤ 15 from (by omega))
def st_216_2 (x0 x1 x2 : Int) (r2 : Int → mD → Int) (x3 : Int) (d : mD) : Int := if x3 < d (x0 + 1) 10 then (if d (x0 + 1) ((1916 + (5 * x3)) + 2) = x2 then (if v_215 x0 x3 d = x1 then 1 else r2 (x3 + 1) d) else r2 (x3 + 1) d) else 0
def lp_216_2 (x0 x1 x2 : Int) : Nat → Int → mD → Int
  | 0 => st_216_2 x0 x1 x2 (fun _ d => 0)
  | n + 1 => st_216_2 x0 x1 x2 (lp_216_2 x0 x1 x2 n)
theorem ls_216_2 {E : mO × tW} {K : tK} {x0 x1 x2 : Int} (hx0 : mdB x0) (p1 : -2147483648 ≤ x1 ∧ x1 ≤ 2147483647) (p2 : -2147483648 ≤ x2 ∧ x2 ≤ 2147483647) (N2 : Int) (r2 : Int → mD → Int) (ih2 : ∀ (x3 : Int) (d : mD), Safe d → (0 ≤ x3 ∧ x3 ≤ 200) → 0 ≤ 200 - x3 → 200 - x3 < N2 → ((0 ≤ (r2 x3 d) ∧ (r2 x3 d) ≤ 1) → K (.inl (some (0, (r2 x3 d)))) d) → tRun E 216 (2, [.inr (11, x0), .inl (0, x1), .inl (0, x2), .inl (0, x3)], [], 0, 0, d) K) (x3 : Int) (d : mD) (hS : Safe d) (i0 : 0 ≤ x3 ∧ x3 ≤ 200) (hm : 200 - x3 ≤ N2) (h : (0 ≤ (st_216_2 x0 x1 x2 r2 x3 d) ∧ (st_216_2 x0 x1 x2 r2 x3 d) ≤ 1) → K (.inl (some (0, (st_216_2 x0 x1 x2 r2 x3 d)))) d) : tRun E 216 (2, [.inr (11, x0), .inl (0, x1), .inl (0, x2), .inl (0, x3)], [], 0, 0, d) K := by
  refine t_216_2 ?_
  have q1 := mh_10 hS hx0 _ rfl
  refine ⟨by omega, ⟨m_inR (by omega) (by omega), m_inR (by omega) (by omega)⟩, fun c0 => ?_, fun c0 => ?_⟩
  · refine ⟨by omega, ?_⟩
    have y0 : st_216_2 x0 x1 x2 r2 x3 d = 0 := by simp only [st_216_2, if_neg (show ¬ x3 < d (x0 + 1) 10 from Int.not_lt.mpr c0)]
    rw [y0] at h
    exact h (show 0 ≤ ((0 : Int)) ∧ ((0 : Int)) ≤ 1 from (by omega))
  · refine k_180 hS ?_
    refine t_216_21 ?_
    have q2 := mk_2 hS hx0 x3 ((1916 + (5 * x3)) + 2) (by omega) (by omega)
    refine ⟨by omega, ⟨m_inR (by omega) (by omega), m_inR (by omega) (by omega)⟩, fun c1 => ?_, fun c1 => ?_⟩
    · refine ih2 (x3 + 1)  d hS (by omega) (by omega) (by omega) ?_
      intro e
      have y0 : st_216_2 x0 x1 x2 r2 x3 d = r2 (x3 + 1) d := by simp only [st_216_2, if_pos (show x3 < d (x0 + 1) 10 from c0), if_neg (show ¬ d (x0 + 1) ((1916 + (5 * x3)) + 2) = x2 from c1)]
      rw [y0] at h
      exact h e
    · refine k_215 hS hx0 (by omega) (fun e1 => ?_)
      refine t_216_33 ?_
      refine ⟨⟨m_inR (by omega) (by omega), m_inR (by omega) (by omega)⟩, fun c2 => ?_, fun c2 => ?_⟩
      · refine ih2 (x3 + 1)  d hS (by omega) (by omega) (by omega) ?_
        intro e
        have y0 : st_216_2 x0 x1 x2 r2 x3 d = r2 (x3 + 1) d := by simp only [st_216_2, if_pos (show x3 < d (x0 + 1) 10 from c0), if_pos (show d (x0 + 1) ((1916 + (5 * x3)) + 2) = x2 from c1), if_neg (show ¬ v_215 x0 x3 d = x1 from c2)]
        rw [y0] at h
        exact h e
      · refine ⟨by omega, ?_⟩
        have y0 : st_216_2 x0 x1 x2 r2 x3 d = 1 := by simp only [st_216_2, if_pos (show x3 < d (x0 + 1) 10 from c0), if_pos (show d (x0 + 1) ((1916 + (5 * x3)) + 2) = x2 from c1), if_pos (show v_215 x0 x3 d = x1 from c2)]
        rw [y0] at h
        exact h (show 0 ≤ ((1 : Int)) ∧ ((1 : Int)) ≤ 1 from (by omega))
theorem l_216_2 {E : mO × tW} {K : tK} {x0 x1 x2 : Int} (hx0 : mdB x0) (p1 : -2147483648 ≤ x1 ∧ x1 ≤ 2147483647) (p2 : -2147483648 ≤ x2 ∧ x2 ≤ 2147483647) : ∀ (n : Nat) (x3 : Int) (d : mD), Safe d → (0 ≤ x3 ∧ x3 ≤ 200) → 200 - x3 ≤ (n : Int) → ((0 ≤ (lp_216_2 x0 x1 x2 n x3 d) ∧ (lp_216_2 x0 x1 x2 n x3 d) ≤ 1) → K (.inl (some (0, (lp_216_2 x0 x1 x2 n x3 d)))) d) → tRun E 216 (2, [.inr (11, x0), .inl (0, x1), .inl (0, x2), .inl (0, x3)], [], 0, 0, d) K := by
  intro n
  induction n with
  | zero =>
    intro x3  d hS i0 hm  h
    exact ls_216_2 hx0 p1 p2 0 _ (fun _  _ _ _ m0 m1 _ => absurd m1 (by omega)) x3  d hS i0 hm  h
  | succ n ih =>
    intro x3  d hS i0 hm  h
    exact ls_216_2 hx0 p1 p2 ((n + 1 : Nat) : Int) _ (fun x3  d hS i0  m0 m1 h => ih x3  d hS i0 (by omega)  h) x3  d hS i0 hm  h
def v_216 (x0 x1 x2 : Int) (d : mD) : Int := lp_216_2 x0 x1 x2 (200 - 0 : Int).toNat 0 d
theorem k_216 {E : mO × tW} {K : tK} {d : mD} {x0 x1 x2 : Int} (hS : Safe d) (hx0 : mdB x0) (p1 : -2147483648 ≤ x1 ∧ x1 ≤ 2147483647) (p2 : -2147483648 ≤ x2 ∧ x2 ≤ 2147483647) (h : (0 ≤ (v_216 x0 x1 x2 d) ∧ (v_216 x0 x1 x2 d) ≤ 1) → K (.inl (some (0, (v_216 x0 x1 x2 d)))) d) : tCall E 216 [.inr (11, x0), .inl (0, x1), .inl (0, x2)] d K := by
  refine t_216_0 ?_
  refine l_216_2 hx0 p1 p2 (200 - 0 : Int).toNat 0  d hS (by omega) (by omega) ?_
  intro e
  have y0 : v_216 x0 x1 x2 d = lp_216_2 x0 x1 x2 (200 - 0 : Int).toNat 0 d := by simp only [v_216]
  rw [y0] at h
  exact h e
def st_217_4 (x0 x1 : Int) (r4 : Int → Int → mD → Int) (x2 x3 : Int) (d : mD) : Int := if x3 < d (x0 + 1) 10 then (if v_215 x0 x3 d = x1 then (if (d (x0 + 1) ((1916 + (5 * x3)) + 4)) / 20 = (d (x0 + 1) 0) / 20 then r4 (x2 + 1) (x3 + 1) d else r4 (x2 + 0) (x3 + 1) d) else r4 (x2 + 0) (x3 + 1) d) else x2
def lp_217_4 (x0 x1 : Int) : Nat → Int → Int → mD → Int
  | 0 => st_217_4 x0 x1 (fun _ _ d => 0)
  | n + 1 => st_217_4 x0 x1 (lp_217_4 x0 x1 n)
theorem ls_217_4 {E : mO × tW} {K : tK} {x0 x1 : Int} (hx0 : mdB x0) (p1 : -2147483648 ≤ x1 ∧ x1 ≤ 2147483647) (N4 : Int) (r4 : Int → Int → mD → Int) (ih4 : ∀ (x2 x3 : Int) (d : mD), Safe d → (0 ≤ x3 ∧ x3 ≤ 200) → (0 ≤ x2 ∧ x2 ≤ x3) → 0 ≤ 200 - x3 → 200 - x3 < N4 → ((0 ≤ (r4 x2 x3 d) ∧ (r4 x2 x3 d) ≤ 200) → K (.inl (some (0, (r4 x2 x3 d)))) d) → tRun E 217 (4, [.inr (11, x0), .inl (0, x1), .inl (0, x2), .inl (0, x3)], [], 0, 0, d) K) (x2 x3 : Int) (d : mD) (hS : Safe d) (i0 : 0 ≤ x3 ∧ x3 ≤ 200) (i1 : 0 ≤ x2 ∧ x2 ≤ x3) (hm : 200 - x3 ≤ N4) (h : (0 ≤ (st_217_4 x0 x1 r4 x2 x3 d) ∧ (st_217_4 x0 x1 r4 x2 x3 d) ≤ 200) → K (.inl (some (0, (st_217_4 x0 x1 r4 x2 x3 d)))) d) : tRun E 217 (4, [.inr (11, x0), .inl (0, x1), .inl (0, x2), .inl (0, x3)], [], 0, 0, d) K := by
  refine t_217_4 ?_
  have q1 := mh_10 hS hx0 _ rfl
  refine ⟨by omega, ⟨m_inR (by omega) (by omega), m_inR (by omega) (by omega)⟩, fun c0 => ?_, fun c0 => ?_⟩
  · have y0 : st_217_4 x0 x1 r4 x2 x3 d = x2 := by simp only [st_217_4, if_neg (show ¬ x3 < d (x0 + 1) 10 from Int.not_lt.mpr c0)]
    rw [y0] at h
    exact h (show 0 ≤ x2 ∧ x2 ≤ 200 from (by omega))
  · refine k_215 hS hx0 (by omega) (fun e1 => ?_)
    refine t_217_21 ?_
    refine ⟨⟨m_inR (by omega) (by omega), m_inR (by omega) (by omega)⟩, fun c1 => ?_, fun c1 => ?_⟩
    · refine ih4 (x2 + 0) (x3 + 1)  d hS (by omega) (by omega) (by omega) (by omega) ?_
      intro e
      have y0 : st_217_4 x0 x1 r4 x2 x3 d = r4 (x2 + 0) (x3 + 1) d := by simp only [st_217_4, if_pos (show x3 < d (x0 + 1) 10 from c0), if_neg (show ¬ v_215 x0 x3 d = x1 from c1)]
      rw [y0] at h
      exact h e
    · refine k_180 hS ?_
      refine t_217_33 ?_
      have q2 := mk_4 hS hx0 x3 ((1916 + (5 * x3)) + 4) (by omega) (by omega)
      have q3 := mh_0 hS hx0 _ rfl
      refine ⟨by omega, by omega, by omega, by omega, ⟨m_inR (by omega) (by omega), m_inR (by omega) (by omega)⟩, fun c2 => ?_, fun c2 => ?_⟩
      · refine ih4 (x2 + 0) (x3 + 1)  d hS (by omega) (by omega) (by omega) (by omega) ?_
        intro e
        have y0 : st_217_4 x0 x1 r4 x2 x3 d = r4 (x2 + 0) (x3 + 1) d := by simp only [st_217_4, if_pos (show x3 < d (x0 + 1) 10 from c0), if_pos (show v_215 x0 x3 d = x1 from c1), if_neg (show ¬ (d (x0 + 1) ((1916 + (5 * x3)) + 4)) / 20 = (d (x0 + 1) 0) / 20 from c2)]
        rw [y0] at h
        exact h e
      · refine ih4 (x2 + 1) (x3 + 1)  d hS (by omega) (by omega) (by omega) (by omega) ?_
        intro e
        have y0 : st_217_4 x0 x1 r4 x2 x3 d = r4 (x2 + 1) (x3 + 1) d := by simp only [st_217_4, if_pos (show x3 < d (x0 + 1) 10 from c0), if_pos (show v_215 x0 x3 d = x1 from c1), if_pos (show (d (x0 + 1) ((1916 + (5 * x3)) + 4)) / 20 = (d (x0 + 1) 0) / 20 from c2)]
        rw [y0] at h
        exact h e
theorem l_217_4 {E : mO × tW} {K : tK} {x0 x1 : Int} (hx0 : mdB x0) (p1 : -2147483648 ≤ x1 ∧ x1 ≤ 2147483647) : ∀ (n : Nat) (x2 x3 : Int) (d : mD), Safe d → (0 ≤ x3 ∧ x3 ≤ 200) → (0 ≤ x2 ∧ x2 ≤ x3) → 200 - x3 ≤ (n : Int) → ((0 ≤ (lp_217_4 x0 x1 n x2 x3 d) ∧ (lp_217_4 x0 x1 n x2 x3 d) ≤ 200) → K (.inl (some (0, (lp_217_4 x0 x1 n x2 x3 d)))) d) → tRun E 217 (4, [.inr (11, x0), .inl (0, x1), .inl (0, x2), .inl (0, x3)], [], 0, 0, d) K := by
  intro n
  induction n with
  | zero =>
    intro x2 x3  d hS i0 i1 hm  h
    exact ls_217_4 hx0 p1 0 _ (fun _ _  _ _ _ _ m0 m1 _ => absurd m1 (by omega)) x2 x3  d hS i0 i1 hm  h
  | succ n ih =>
    intro x2 x3  d hS i0 i1 hm  h
    exact ls_217_4 hx0 p1 ((n + 1 : Nat) : Int) _ (fun x2 x3  d hS i0 i1  m0 m1 h => ih x2 x3  d hS i0 i1 (by omega)  h) x2 x3  d hS i0 i1 hm  h
def v_217 (x0 x1 : Int) (d : mD) : Int := lp_217_4 x0 x1 (200 - 0 : Int).toNat 0 0 d
theorem k_217 {E : mO × tW} {K : tK} {d : mD} {x0 x1 : Int} (hS : Safe d) (hx0 : mdB x0) (p1 : -2147483648 ≤ x1 ∧ x1 ≤ 2147483647) (h : (0 ≤ (v_217 x0 x1 d) ∧ (v_217 x0 x1 d) ≤ 200) → K (.inl (some (0, (v_217 x0 x1 d)))) d) : tCall E 217 [.inr (11, x0), .inl (0, x1)] d K := by
  refine t_217_0 ?_
  refine l_217_4 hx0 p1 (200 - 0 : Int).toNat 0 0  d hS (by omega) (by omega) (by omega) ?_
  intro e
  have y0 : v_217 x0 x1 d = lp_217_4 x0 x1 (200 - 0 : Int).toNat 0 0 d := by simp only [v_217]
  rw [y0] at h
  exact h e
def st_218_41 (x0 x1 : Int) (r41 : Int → Int → Int → Int → mD → Int × mD) (x2 x3 x4 x5 : Int) (d : mD) : Int × mD := if x5 < d (x0 + 1) ((452 + (24 * x1)) + 3) then (if x3 < d (x0 + 1) 5 then (if d (x0 + 1) 10 < 200 then (if v_216 x0 x2 x5 d = 0 then r41 x2 (x3 + 1) (x4 + 1) (x5 + 1) (mset (mset (mset (mset (mset (mset d (x0 + 1) ((1916 + (5 * (d (x0 + 1) 10))) + 0) x2) (x0 + 1) ((1916 + (5 * (d (x0 + 1) 10))) + 1) x1) (x0 + 1) ((1916 + (5 * (d (x0 + 1) 10))) + 2) x5) (x0 + 1) ((1916 + (5 * (d (x0 + 1) 10))) + 3) 0) (x0 + 1) ((1916 + (5 * (d (x0 + 1) 10))) + 4) (d (x0 + 1) 0)) (x0 + 1) 10 ((d (x0 + 1) 10) + 1)) else r41 x2 x3 x4 (x5 + 1) d) else r41 x2 x3 x4 (x5 + 1) d) else r41 x2 x3 x4 (x5 + 1) d) else (x4, d)
def lp_218_41 (x0 x1 : Int) : Nat → Int → Int → Int → Int → mD → Int × mD
  | 0 => st_218_41 x0 x1 (fun _ _ _ _ d => (0, d))
  | n + 1 => st_218_41 x0 x1 (lp_218_41 x0 x1 n)
theorem ls_218_41 {E : mO × tW} {K : tK} {x0 x1 : Int} (hx0 : mdB x0) (p1 : 0 ≤ x1 ∧ x1 ≤ 60) (N41 : Int) (r41 : Int → Int → Int → Int → mD → Int × mD) (ih41 : ∀ (x2 x3 x4 x5 : Int) (v6 : tV) (d : mD), Safe d → (0 ≤ x2 ∧ x2 ≤ 15) → (0 ≤ x3 ∧ x3 ≤ 2000 + x5) → (0 ≤ x4 ∧ x4 ≤ x5) → (0 ≤ x5 ∧ x5 ≤ 1301) → 0 ≤ 1301 - x5 → 1301 - x5 < N41 → ((0 ≤ (r41 x2 x3 x4 x5 d).1 ∧ (r41 x2 x3 x4 x5 d).1 ≤ 1400) → (∀ b : Int, (b < x0 + 1 ∨ x0 + 1 < b) → (r41 x2 x3 x4 x5 d).2 b = d b) → (∀ i : Int, (0 ≤ i ∧ i ≤ 9) ∨ (11 ≤ i ∧ i < 1916) → (r41 x2 x3 x4 x5 d).2 (x0 + 1) i = d (x0 + 1) i) → Safe (r41 x2 x3 x4 x5 d).2 → K (.inl (some (0, (r41 x2 x3 x4 x5 d).1))) (r41 x2 x3 x4 x5 d).2) → tRun E 218 (41, [.inr (11, x0), .inl (0, x1), .inl (0, x2), .inl (0, x3), .inl (0, x4), .inl (0, x5), v6], [], 0, 0, d) K) (x2 x3 x4 x5 : Int) (v6 : tV) (d : mD) (hS : Safe d) (i0 : 0 ≤ x2 ∧ x2 ≤ 15) (i1 : 0 ≤ x3 ∧ x3 ≤ 2000 + x5) (i2 : 0 ≤ x4 ∧ x4 ≤ x5) (i3 : 0 ≤ x5 ∧ x5 ≤ 1301) (hm : 1301 - x5 ≤ N41) (h : (0 ≤ (st_218_41 x0 x1 r41 x2 x3 x4 x5 d).1 ∧ (st_218_41 x0 x1 r41 x2 x3 x4 x5 d).1 ≤ 1400) → (∀ b : Int, (b < x0 + 1 ∨ x0 + 1 < b) → (st_218_41 x0 x1 r41 x2 x3 x4 x5 d).2 b = d b) → (∀ i : Int, (0 ≤ i ∧ i ≤ 9) ∨ (11 ≤ i ∧ i < 1916) → (st_218_41 x0 x1 r41 x2 x3 x4 x5 d).2 (x0 + 1) i = d (x0 + 1) i) → Safe (st_218_41 x0 x1 r41 x2 x3 x4 x5 d).2 → K (.inl (some (0, (st_218_41 x0 x1 r41 x2 x3 x4 x5 d).1))) (st_218_41 x0 x1 r41 x2 x3 x4 x5 d).2) : tRun E 218 (41, [.inr (11, x0), .inl (0, x1), .inl (0, x2), .inl (0, x3), .inl (0, x4), .inl (0, x5), v6], [], 0, 0, d) K := by
  refine t_218_41 ?_
  refine k_179 hS ?_
  refine t_218_51 ?_
  have q1 := mt_3 hS hx0 x1 ((452 + (24 * x1)) + 3) (by omega) (by omega)
  refine ⟨by omega, ⟨m_inR (by omega) (by omega), m_inR (by omega) (by omega)⟩, fun c0 => ?_, fun c0 => ?_⟩
  · have y0 : st_218_41 x0 x1 r41 x2 x3 x4 x5 d = (x4, d) := by simp only [st_218_41, if_neg (show ¬ x5 < d (x0 + 1) ((452 + (24 * x1)) + 3) from Int.not_lt.mpr c0)]
    rw [y0] at h
    exact h (show 0 ≤ x4 ∧ x4 ≤ 1400 from (by omega)) (show ∀ b : Int, (b < x0 + 1 ∨ x0 + 1 < b) → d b = d b from fun _ _ => rfl) (show ∀ i : Int, (0 ≤ i ∧ i ≤ 9) ∨ (11 ≤ i ∧ i < 1916) → d (x0 + 1) i = d (x0 + 1) i from fun _ _ => rfl) hS
  · have q2 := mh_5 hS hx0 _ rfl
    refine ⟨by omega, ⟨m_inR (by omega) (by omega), m_inR (by omega) (by omega)⟩, fun c1 => ?_, fun c1 => ?_⟩
    · refine ih41 x2 x3 x4 (x5 + 1) v6 d hS (by omega) (by omega) (by omega) (by omega) (by omega) (by omega) ?_
      intro e F Q hS_
      have y0 : st_218_41 x0 x1 r41 x2 x3 x4 x5 d = r41 x2 x3 x4 (x5 + 1) d := by simp only [st_218_41, if_pos (show x5 < d (x0 + 1) ((452 + (24 * x1)) + 3) from c0), if_neg (show ¬ x3 < d (x0 + 1) 5 from Int.not_lt.mpr c1)]
      rw [y0] at h
      exact h e F Q hS_
    · have q3 := mh_10 hS hx0 _ rfl
      refine ⟨by omega, ⟨m_inR (by omega) (by omega), m_inR (by omega) (by omega)⟩, fun c2 => ?_, fun c2 => ?_⟩
      · refine ih41 x2 x3 x4 (x5 + 1) v6 d hS (by omega) (by omega) (by omega) (by omega) (by omega) (by omega) ?_
        intro e F Q hS_
        have y0 : st_218_41 x0 x1 r41 x2 x3 x4 x5 d = r41 x2 x3 x4 (x5 + 1) d := by simp only [st_218_41, if_pos (show x5 < d (x0 + 1) ((452 + (24 * x1)) + 3) from c0), if_pos (show x3 < d (x0 + 1) 5 from c1), if_neg (show ¬ d (x0 + 1) 10 < 200 from Int.not_lt.mpr c2)]
        rw [y0] at h
        exact h e F Q hS_
      · refine k_216 hS hx0 (m_inR (by omega) (by omega)) (m_inR (by omega) (by omega)) (fun e1 => ?_)
        refine t_218_87 ?_
        refine ⟨m_inR (by omega) (by omega), fun c3 => ?_, fun c3 => ?_⟩
        · refine ih41 x2 x3 x4 (x5 + 1) v6 d hS (by omega) (by omega) (by omega) (by omega) (by omega) (by omega) ?_
          intro e F Q hS_
          have y0 : st_218_41 x0 x1 r41 x2 x3 x4 x5 d = r41 x2 x3 x4 (x5 + 1) d := by simp only [st_218_41, if_pos (show x5 < d (x0 + 1) ((452 + (24 * x1)) + 3) from c0), if_pos (show x3 < d (x0 + 1) 5 from c1), if_pos (show d (x0 + 1) 10 < 200 from c2), if_neg (show ¬ v_216 x0 x2 x5 d = 0 from c3)]
          rw [y0] at h
          exact h e F Q hS_
        · refine ⟨by omega, ?_⟩
          refine k_180 hS ?_
          refine t_218_100 ?_
          refine ⟨by omega, ?_⟩
          have hS1 : Safe (mset d (x0 + 1) ((1916 + (5 * (d (x0 + 1) 10))) + 0) x2) := smk_0 hS hx0 (d (x0 + 1) 10) ((1916 + (5 * (d (x0 + 1) 10))) + 0) (by omega) (by omega) (by omega)
          refine ⟨by omega, ?_⟩
          have hS2 : Safe (mset (mset d (x0 + 1) ((1916 + (5 * (d (x0 + 1) 10))) + 0) x2) (x0 + 1) ((1916 + (5 * (d (x0 + 1) 10))) + 1) x1) := smk_1 hS1 hx0 (d (x0 + 1) 10) ((1916 + (5 * (d (x0 + 1) 10))) + 1) (by omega) (by omega) (by omega)
          refine ⟨by omega, ?_⟩
          have hS3 : Safe (mset (mset (mset d (x0 + 1) ((1916 + (5 * (d (x0 + 1) 10))) + 0) x2) (x0 + 1) ((1916 + (5 * (d (x0 + 1) 10))) + 1) x1) (x0 + 1) ((1916 + (5 * (d (x0 + 1) 10))) + 2) x5) := smk_2 hS2 hx0 (d (x0 + 1) 10) ((1916 + (5 * (d (x0 + 1) 10))) + 2) (by omega) (by omega) (by omega)
          refine ⟨by omega, ?_⟩
          have hS4 : Safe (mset (mset (mset (mset d (x0 + 1) ((1916 + (5 * (d (x0 + 1) 10))) + 0) x2) (x0 + 1) ((1916 + (5 * (d (x0 + 1) 10))) + 1) x1) (x0 + 1) ((1916 + (5 * (d (x0 + 1) 10))) + 2) x5) (x0 + 1) ((1916 + (5 * (d (x0 + 1) 10))) + 3) 0) := smz hS3 hx0 ((1916 + (5 * (d (x0 + 1) 10))) + 3)
          rw [mset_ni (d := mset (mset (mset d (x0 + 1) ((1916 + (5 * (d (x0 + 1) 10))) + 0) x2) (x0 + 1) ((1916 + (5 * (d (x0 + 1) 10))) + 1) x1) (x0 + 1) ((1916 + (5 * (d (x0 + 1) 10))) + 2) x5) (a := x0 + 1) (i := (1916 + (5 * (d (x0 + 1) 10))) + 3) (v := (0 : Int)) (b := x0 + 1) (j := (0 : Int)) (by omega)]
          rw [mset_ni (d := mset (mset d (x0 + 1) ((1916 + (5 * (d (x0 + 1) 10))) + 0) x2) (x0 + 1) ((1916 + (5 * (d (x0 + 1) 10))) + 1) x1) (a := x0 + 1) (i := (1916 + (5 * (d (x0 + 1) 10))) + 2) (v := x5) (b := x0 + 1) (j := (0 : Int)) (by omega)]
          rw [mset_ni (d := mset d (x0 + 1) ((1916 + (5 * (d (x0 + 1) 10))) + 0) x2) (a := x0 + 1) (i := (1916 + (5 * (d (x0 + 1) 10))) + 1) (v := x1) (b := x0 + 1) (j := (0 : Int)) (by omega)]
          rw [mset_ni (d := d) (a := x0 + 1) (i := (1916 + (5 * (d (x0 + 1) 10))) + 0) (v := x2) (b := x0 + 1) (j := (0 : Int)) (by omega)]
          have q4 := mh_0 hS hx0 _ rfl
          refine ⟨by omega, by omega, ?_⟩
          have hS5 : Safe (mset (mset (mset (mset (mset d (x0 + 1) ((1916 + (5 * (d (x0 + 1) 10))) + 0) x2) (x0 + 1) ((1916 + (5 * (d (x0 + 1) 10))) + 1) x1) (x0 + 1) ((1916 + (5 * (d (x0 + 1) 10))) + 2) x5) (x0 + 1) ((1916 + (5 * (d (x0 + 1) 10))) + 3) 0) (x0 + 1) ((1916 + (5 * (d (x0 + 1) 10))) + 4) (d (x0 + 1) 0)) := smk_4 hS4 hx0 (d (x0 + 1) 10) ((1916 + (5 * (d (x0 + 1) 10))) + 4) (by omega) (by omega) (by omega)
          rw [mset_ni (d := mset (mset (mset (mset d (x0 + 1) ((1916 + (5 * (d (x0 + 1) 10))) + 0) x2) (x0 + 1) ((1916 + (5 * (d (x0 + 1) 10))) + 1) x1) (x0 + 1) ((1916 + (5 * (d (x0 + 1) 10))) + 2) x5) (x0 + 1) ((1916 + (5 * (d (x0 + 1) 10))) + 3) 0) (a := x0 + 1) (i := (1916 + (5 * (d (x0 + 1) 10))) + 4) (v := d (x0 + 1) 0) (b := x0 + 1) (j := (10 : Int)) (by omega)]
          rw [mset_ni (d := mset (mset (mset d (x0 + 1) ((1916 + (5 * (d (x0 + 1) 10))) + 0) x2) (x0 + 1) ((1916 + (5 * (d (x0 + 1) 10))) + 1) x1) (x0 + 1) ((1916 + (5 * (d (x0 + 1) 10))) + 2) x5) (a := x0 + 1) (i := (1916 + (5 * (d (x0 + 1) 10))) + 3) (v := (0 : Int)) (b := x0 + 1) (j := (10 : Int)) (by omega)]
          rw [mset_ni (d := mset (mset d (x0 + 1) ((1916 + (5 * (d (x0 + 1) 10))) + 0) x2) (x0 + 1) ((1916 + (5 * (d (x0 + 1) 10))) + 1) x1) (a := x0 + 1) (i := (1916 + (5 * (d (x0 + 1) 10))) + 2) (v := x5) (b := x0 + 1) (j := (10 : Int)) (by omega)]
          rw [mset_ni (d := mset d (x0 + 1) ((1916 + (5 * (d (x0 + 1) 10))) + 0) x2) (a := x0 + 1) (i := (1916 + (5 * (d (x0 + 1) 10))) + 1) (v := x1) (b := x0 + 1) (j := (10 : Int)) (by omega)]
          rw [mset_ni (d := d) (a := x0 + 1) (i := (1916 + (5 * (d (x0 + 1) 10))) + 0) (v := x2) (b := x0 + 1) (j := (10 : Int)) (by omega)]
          refine ⟨by omega, by omega, ?_⟩
          have hS6 : Safe (mset (mset (mset (mset (mset (mset d (x0 + 1) ((1916 + (5 * (d (x0 + 1) 10))) + 0) x2) (x0 + 1) ((1916 + (5 * (d (x0 + 1) 10))) + 1) x1) (x0 + 1) ((1916 + (5 * (d (x0 + 1) 10))) + 2) x5) (x0 + 1) ((1916 + (5 * (d (x0 + 1) 10))) + 3) 0) (x0 + 1) ((1916 + (5 * (d (x0 + 1) 10))) + 4) (d (x0 + 1) 0)) (x0 + 1) 10 ((d (x0 + 1) 10) + 1)) := smh_10 hS5 hx0 _ rfl (by omega)
          refine ih41 x2 (x3 + 1) (x4 + 1) (x5 + 1) (.inl (0, 1916 + (5 * (d (x0 + 1) 10)))) (mset (mset (mset (mset (mset (mset d (x0 + 1) ((1916 + (5 * (d (x0 + 1) 10))) + 0) x2) (x0 + 1) ((1916 + (5 * (d (x0 + 1) 10))) + 1) x1) (x0 + 1) ((1916 + (5 * (d (x0 + 1) 10))) + 2) x5) (x0 + 1) ((1916 + (5 * (d (x0 + 1) 10))) + 3) 0) (x0 + 1) ((1916 + (5 * (d (x0 + 1) 10))) + 4) (d (x0 + 1) 0)) (x0 + 1) 10 ((d (x0 + 1) 10) + 1)) hS6 (by omega) (by omega) (by omega) (by omega) (by omega) (by omega) ?_
          intro e F Q hS_
          have y0 : st_218_41 x0 x1 r41 x2 x3 x4 x5 d = r41 x2 (x3 + 1) (x4 + 1) (x5 + 1) (mset (mset (mset (mset (mset (mset d (x0 + 1) ((1916 + (5 * (d (x0 + 1) 10))) + 0) x2) (x0 + 1) ((1916 + (5 * (d (x0 + 1) 10))) + 1) x1) (x0 + 1) ((1916 + (5 * (d (x0 + 1) 10))) + 2) x5) (x0 + 1) ((1916 + (5 * (d (x0 + 1) 10))) + 3) 0) (x0 + 1) ((1916 + (5 * (d (x0 + 1) 10))) + 4) (d (x0 + 1) 0)) (x0 + 1) 10 ((d (x0 + 1) 10) + 1)) := by simp only [st_218_41, if_pos (show x5 < d (x0 + 1) ((452 + (24 * x1)) + 3) from c0), if_pos (show x3 < d (x0 + 1) 5 from c1), if_pos (show d (x0 + 1) 10 < 200 from c2), if_pos (show v_216 x0 x2 x5 d = 0 from c3)]
          rw [y0] at h
          exact h e (fun b hb => (F b hb).trans ((show ∀ b : Int, (b < x0 + 1 ∨ x0 + 1 < b) → (mset (mset (mset (mset (mset (mset d (x0 + 1) ((1916 + (5 * (d (x0 + 1) 10))) + 0) x2) (x0 + 1) ((1916 + (5 * (d (x0 + 1) 10))) + 1) x1) (x0 + 1) ((1916 + (5 * (d (x0 + 1) 10))) + 2) x5) (x0 + 1) ((1916 + (5 * (d (x0 + 1) 10))) + 3) 0) (x0 + 1) ((1916 + (5 * (d (x0 + 1) 10))) + 4) (d (x0 + 1) 0)) (x0 + 1) 10 ((d (x0 + 1) 10) + 1)) b = d b from fun b hb => (mset_ne (by omega)).trans ((mset_ne (by omega)).trans ((mset_ne (by omega)).trans ((mset_ne (by omega)).trans ((mset_ne (by omega)).trans (mset_ne (by omega))))))) b hb)) (fun i hi => (Q i hi).trans ((show ∀ i : Int, (0 ≤ i ∧ i ≤ 9) ∨ (11 ≤ i ∧ i < 1916) → (mset (mset (mset (mset (mset (mset d (x0 + 1) ((1916 + (5 * (d (x0 + 1) 10))) + 0) x2) (x0 + 1) ((1916 + (5 * (d (x0 + 1) 10))) + 1) x1) (x0 + 1) ((1916 + (5 * (d (x0 + 1) 10))) + 2) x5) (x0 + 1) ((1916 + (5 * (d (x0 + 1) 10))) + 3) 0) (x0 + 1) ((1916 + (5 * (d (x0 + 1) 10))) + 4) (d (x0 + 1) 0)) (x0 + 1) 10 ((d (x0 + 1) 10) + 1)) (x0 + 1) i = d (x0 + 1) i from fun i hi => (((((mset_ni (by omega)).trans (mset_ni (by omega))).trans (mset_ni (by omega))).trans (mset_ni (by omega))).trans (mset_ni (by omega))).trans (mset_ni (by omega))) i hi)) hS_
theorem l_218_41 {E : mO × tW} {K : tK} {x0 x1 : Int} (hx0 : mdB x0) (p1 : 0 ≤ x1 ∧ x1 ≤ 60) : ∀ (n : Nat) (x2 x3 x4 x5 : Int) (v6 : tV) (d : mD), Safe d → (0 ≤ x2 ∧ x2 ≤ 15) → (0 ≤ x3 ∧ x3 ≤ 2000 + x5) → (0 ≤ x4 ∧ x4 ≤ x5) → (0 ≤ x5 ∧ x5 ≤ 1301) → 1301 - x5 ≤ (n : Int) → ((0 ≤ (lp_218_41 x0 x1 n x2 x3 x4 x5 d).1 ∧ (lp_218_41 x0 x1 n x2 x3 x4 x5 d).1 ≤ 1400) → (∀ b : Int, (b < x0 + 1 ∨ x0 + 1 < b) → (lp_218_41 x0 x1 n x2 x3 x4 x5 d).2 b = d b) → (∀ i : Int, (0 ≤ i ∧ i ≤ 9) ∨ (11 ≤ i ∧ i < 1916) → (lp_218_41 x0 x1 n x2 x3 x4 x5 d).2 (x0 + 1) i = d (x0 + 1) i) → Safe (lp_218_41 x0 x1 n x2 x3 x4 x5 d).2 → K (.inl (some (0, (lp_218_41 x0 x1 n x2 x3 x4 x5 d).1))) (lp_218_41 x0 x1 n x2 x3 x4 x5 d).2) → tRun E 218 (41, [.inr (11, x0), .inl (0, x1), .inl (0, x2), .inl (0, x3), .inl (0, x4), .inl (0, x5), v6], [], 0, 0, d) K := by
  intro n
  induction n with
  | zero =>
    intro x2 x3 x4 x5 v6 d hS i0 i1 i2 i3 hm  h
    exact ls_218_41 hx0 p1 0 _ (fun _ _ _ _ _ _ _ _ _ _ _ m0 m1 _ => absurd m1 (by omega)) x2 x3 x4 x5 v6 d hS i0 i1 i2 i3 hm  h
  | succ n ih =>
    intro x2 x3 x4 x5 v6 d hS i0 i1 i2 i3 hm  h
    exact ls_218_41 hx0 p1 ((n + 1 : Nat) : Int) _ (fun x2 x3 x4 x5 v6 d hS i0 i1 i2 i3  m0 m1 h => ih x2 x3 x4 x5 v6 d hS i0 i1 i2 i3 (by omega)  h) x2 x3 x4 x5 v6 d hS i0 i1 i2 i3 hm  h
def f_218 (x0 x1 : Int) (d : mD) : Int × mD := lp_218_41 x0 x1 (1301 - ((d (x0 + 1) ((452 + (24 * x1)) + 2)) + (d (x0 + 1) 2)) : Int).toNat (d (x0 + 1) ((452 + (24 * x1)) + 0)) (v_217 x0 (d (x0 + 1) ((452 + (24 * x1)) + 0)) d) 0 ((d (x0 + 1) ((452 + (24 * x1)) + 2)) + (d (x0 + 1) 2)) d
def v_218 (x0 x1 : Int) (d : mD) : Int := (f_218 x0 x1 d).1
def g_218 (x0 x1 : Int) (d : mD) : mD := (f_218 x0 x1 d).2
theorem k_218 {E : mO × tW} {K : tK} {d : mD} {x0 x1 : Int} (hS : Safe d) (hx0 : mdB x0) (p1 : 0 ≤ x1 ∧ x1 ≤ 60) (h : (0 ≤ (v_218 x0 x1 d) ∧ (v_218 x0 x1 d) ≤ 1400) → (∀ b : Int, (b < x0 + 1 ∨ x0 + 1 < b) → (g_218 x0 x1 d) b = d b) → (∀ i : Int, (0 ≤ i ∧ i ≤ 9) ∨ (11 ≤ i ∧ i < 1916) → (g_218 x0 x1 d) (x0 + 1) i = d (x0 + 1) i) → Safe (g_218 x0 x1 d) → K (.inl (some (0, (v_218 x0 x1 d)))) (g_218 x0 x1 d)) : tCall E 218 [.inr (11, x0), .inl (0, x1)] d K := by
  simp only [v_218, g_218] at h
  refine t_218_0 ?_
  refine k_179 hS ?_
  refine t_218_8 ?_
  refine ⟨by omega, ?_⟩
  have q5 := mt_0 hS hx0 x1 ((452 + (24 * x1)) + 0) (by omega) (by omega)
  refine k_217 hS hx0 (m_inR (by omega) (by omega)) (fun e2 => ?_)
  refine t_218_17 ?_
  refine k_179 hS ?_
  refine t_218_29 ?_
  refine ⟨by omega, by omega, ?_⟩
  have q6 := mt_2 hS hx0 x1 ((452 + (24 * x1)) + 2) (by omega) (by omega)
  have q7 := mh_2 hS hx0 _ rfl
  refine l_218_41 hx0 p1 (1301 - ((d (x0 + 1) ((452 + (24 * x1)) + 2)) + (d (x0 + 1) 2)) : Int).toNat (d (x0 + 1) ((452 + (24 * x1)) + 0)) (v_217 x0 (d (x0 + 1) ((452 + (24 * x1)) + 0)) d) 0 ((d (x0 + 1) ((452 + (24 * x1)) + 2)) + (d (x0 + 1) 2)) tu d hS (by omega) (by omega) (by omega) (by omega) (by omega) ?_
  intro e F Q hS_
  have y0 : f_218 x0 x1 d = lp_218_41 x0 x1 (1301 - ((d (x0 + 1) ((452 + (24 * x1)) + 2)) + (d (x0 + 1) 2)) : Int).toNat (d (x0 + 1) ((452 + (24 * x1)) + 0)) (v_217 x0 (d (x0 + 1) ((452 + (24 * x1)) + 0)) d) 0 ((d (x0 + 1) ((452 + (24 * x1)) + 2)) + (d (x0 + 1) 2)) d := by simp only [f_218]
  rw [y0] at h
  exact h e F Q hS_
def st_219_106 (x0 : Int) (r2 : Int → mD → Int × mD) (r106 : Int → Int → Int → mD → Int × mD) (x1 x2 x3 : Int) (d : mD) : Int × mD := if x3 < d (x0 + 1) 11 then r106 x1 x2 (x3 + 1) (mset d (x0 + 1) (2916 + x3) (d (x0 + 1) ((2916 + x3) + 1))) else r2 (x1 + 1) d
def lp_219_106 (x0 : Int) (r2 : Int → mD → Int × mD) : Nat → Int → Int → Int → mD → Int × mD
  | 0 => st_219_106 x0 r2 (fun _ _ _ d => (0, d))
  | n + 1 => st_219_106 x0 r2 (lp_219_106 x0 r2 n)
theorem ls_219_106 {E : mO × tW} {K : tK} {x0 : Int} (hx0 : mdB x0) (N2 : Int) (r2 : Int → mD → Int × mD) (ih2 : ∀ (x1 : Int) (v2 v3 : tV) (d : mD), Safe d → (0 ≤ x1 ∧ x1 + d (x0 + 1) 11 ≤ 200) → 0 ≤ d (x0 + 1) 11 → d (x0 + 1) 11 < N2 → ((0 ≤ (r2 x1 d).1 ∧ (r2 x1 d).1 ≤ 200) → (∀ b : Int, (b < x0 + 1 ∨ x0 + 1 < b) → (r2 x1 d).2 b = d b) → (∀ i : Int, (0 ≤ i ∧ i ≤ 8 ∧ ¬ i = 1) ∨ (12 ≤ i ∧ i < 420 ∧ (i - 12) % 68 ≤ 4) ∨ (420 ≤ i ∧ i < 452 ∧ i % 2 = 0) ∨ i = 9 ∨ (452 ≤ i ∧ i < 1916 ∧ 5 ≤ (i - 452) % 24) → (r2 x1 d).2 (x0 + 1) i = d (x0 + 1) i) → Safe (r2 x1 d).2 → K (.inl (some (0, (r2 x1 d).1))) (r2 x1 d).2) → tRun E 219 (2, [.inr (11, x0), .inl (0, x1), v2, v3], [], 0, 0, d) K) (N106 : Int) (r106 : Int → Int → Int → mD → Int × mD) (ih106 : ∀ (x1 x2 x3 : Int) (d : mD), Safe d → (0 ≤ x1 ∧ x1 + 1 + d (x0 + 1) 11 ≤ 200) → (0 ≤ x3 ∧ x3 ≤ 200) → (0 ≤ d (x0 + 1) 11) → (d (x0 + 1) 11 + 1 ≤ N2) → d (x0 + 1) 11 ≤ N2 → 0 ≤ 200 - x3 → 200 - x3 < N106 → ((0 ≤ (r106 x1 x2 x3 d).1 ∧ (r106 x1 x2 x3 d).1 ≤ 200) → (∀ b : Int, (b < x0 + 1 ∨ x0 + 1 < b) → (r106 x1 x2 x3 d).2 b = d b) → (∀ i : Int, (0 ≤ i ∧ i ≤ 8 ∧ ¬ i = 1) ∨ (12 ≤ i ∧ i < 420 ∧ (i - 12) % 68 ≤ 4) ∨ (420 ≤ i ∧ i < 452 ∧ i % 2 = 0) ∨ i = 9 ∨ (452 ≤ i ∧ i < 1916 ∧ 5 ≤ (i - 452) % 24) → (r106 x1 x2 x3 d).2 (x0 + 1) i = d (x0 + 1) i) → Safe (r106 x1 x2 x3 d).2 → K (.inl (some (0, (r106 x1 x2 x3 d).1))) (r106 x1 x2 x3 d).2) → tRun E 219 (106, [.inr (11, x0), .inl (0, x1), .inl (0, x2), .inl (0, x3)], [], 0, 0, d) K) (x1 x2 x3 : Int) (d : mD) (hS : Safe d) (i0 : 0 ≤ x1 ∧ x1 + 1 + d (x0 + 1) 11 ≤ 200) (i1 : 0 ≤ x3 ∧ x3 ≤ 200) (i2 : 0 ≤ d (x0 + 1) 11) (i3 : d (x0 + 1) 11 + 1 ≤ N2) (hm : 200 - x3 ≤ N106) (m2 : d (x0 + 1) 11 ≤ N2) (h : (0 ≤ (st_219_106 x0 r2 r106 x1 x2 x3 d).1 ∧ (st_219_106 x0 r2 r106 x1 x2 x3 d).1 ≤ 200) → (∀ b : Int, (b < x0 + 1 ∨ x0 + 1 < b) → (st_219_106 x0 r2 r106 x1 x2 x3 d).2 b = d b) → (∀ i : Int, (0 ≤ i ∧ i ≤ 8 ∧ ¬ i = 1) ∨ (12 ≤ i ∧ i < 420 ∧ (i - 12) % 68 ≤ 4) ∨ (420 ≤ i ∧ i < 452 ∧ i % 2 = 0) ∨ i = 9 ∨ (452 ≤ i ∧ i < 1916 ∧ 5 ≤ (i - 452) % 24) → (st_219_106 x0 r2 r106 x1 x2 x3 d).2 (x0 + 1) i = d (x0 + 1) i) → Safe (st_219_106 x0 r2 r106 x1 x2 x3 d).2 → K (.inl (some (0, (st_219_106 x0 r2 r106 x1 x2 x3 d).1))) (st_219_106 x0 r2 r106 x1 x2 x3 d).2) : tRun E 219 (106, [.inr (11, x0), .inl (0, x1), .inl (0, x2), .inl (0, x3)], [], 0, 0, d) K := by
  refine t_219_106 ?_
  have q1 := mh_11 hS hx0 _ rfl
  refine ⟨by omega, ⟨m_inR (by omega) (by omega), m_inR (by omega) (by omega)⟩, fun c0 => ?_, fun c0 => ?_⟩
  · refine ih2 (x1 + 1) (.inl (0, x2)) (.inl (0, x3)) d hS (by omega) (by omega) (by omega) ?_
    intro e F Q hS_
    have y0 : st_219_106 x0 r2 r106 x1 x2 x3 d = r2 (x1 + 1) d := by simp only [st_219_106, if_neg (show ¬ x3 < d (x0 + 1) 11 from Int.not_lt.mpr c0)]
    rw [y0] at h
    exact h e F Q hS_
  · have q2 := mf hS hx0 (x3 + 1) ((2916 + x3) + 1) (by omega) (by omega)
    refine ⟨by omega, by omega, ?_⟩
    have hS1 : Safe (mset d (x0 + 1) (2916 + x3) (d (x0 + 1) ((2916 + x3) + 1))) := smf hS hx0 x3 (2916 + x3) (by omega) (by omega) (by omega)
    have q3 : (mset d (x0 + 1) (2916 + x3) (d (x0 + 1) ((2916 + x3) + 1))) (x0 + 1) 11 = d (x0 + 1) 11 := mset_ni (by omega)
    refine ih106 x1 x2 (x3 + 1)  (mset d (x0 + 1) (2916 + x3) (d (x0 + 1) ((2916 + x3) + 1))) hS1 (by omega) (by omega) (by omega) (by omega) (by omega) (by omega) (by omega) ?_
    intro e F Q hS_
    have y0 : st_219_106 x0 r2 r106 x1 x2 x3 d = r106 x1 x2 (x3 + 1) (mset d (x0 + 1) (2916 + x3) (d (x0 + 1) ((2916 + x3) + 1))) := by simp only [st_219_106, if_pos (show x3 < d (x0 + 1) 11 from c0)]
    rw [y0] at h
    exact h e (fun b hb => (F b hb).trans ((show ∀ b : Int, (b < x0 + 1 ∨ x0 + 1 < b) → (mset d (x0 + 1) (2916 + x3) (d (x0 + 1) ((2916 + x3) + 1))) b = d b from fun b hb => mset_ne (by omega)) b hb)) (fun i hi => (Q i hi).trans ((show ∀ i : Int, (0 ≤ i ∧ i ≤ 8 ∧ ¬ i = 1) ∨ (12 ≤ i ∧ i < 420 ∧ (i - 12) % 68 ≤ 4) ∨ (420 ≤ i ∧ i < 452 ∧ i % 2 = 0) ∨ i = 9 ∨ (452 ≤ i ∧ i < 1916 ∧ 5 ≤ (i - 452) % 24) → (mset d (x0 + 1) (2916 + x3) (d (x0 + 1) ((2916 + x3) + 1))) (x0 + 1) i = d (x0 + 1) i from fun i hi => mset_ni (by omega)) i hi)) hS_
theorem l_219_106 {E : mO × tW} {K : tK} {x0 : Int} (hx0 : mdB x0) (N2 : Int) (r2 : Int → mD → Int × mD) (ih2 : ∀ (x1 : Int) (v2 v3 : tV) (d : mD), Safe d → (0 ≤ x1 ∧ x1 + d (x0 + 1) 11 ≤ 200) → 0 ≤ d (x0 + 1) 11 → d (x0 + 1) 11 < N2 → ((0 ≤ (r2 x1 d).1 ∧ (r2 x1 d).1 ≤ 200) → (∀ b : Int, (b < x0 + 1 ∨ x0 + 1 < b) → (r2 x1 d).2 b = d b) → (∀ i : Int, (0 ≤ i ∧ i ≤ 8 ∧ ¬ i = 1) ∨ (12 ≤ i ∧ i < 420 ∧ (i - 12) % 68 ≤ 4) ∨ (420 ≤ i ∧ i < 452 ∧ i % 2 = 0) ∨ i = 9 ∨ (452 ≤ i ∧ i < 1916 ∧ 5 ≤ (i - 452) % 24) → (r2 x1 d).2 (x0 + 1) i = d (x0 + 1) i) → Safe (r2 x1 d).2 → K (.inl (some (0, (r2 x1 d).1))) (r2 x1 d).2) → tRun E 219 (2, [.inr (11, x0), .inl (0, x1), v2, v3], [], 0, 0, d) K) : ∀ (n : Nat) (x1 x2 x3 : Int) (d : mD), Safe d → (0 ≤ x1 ∧ x1 + 1 + d (x0 + 1) 11 ≤ 200) → (0 ≤ x3 ∧ x3 ≤ 200) → (0 ≤ d (x0 + 1) 11) → (d (x0 + 1) 11 + 1 ≤ N2) → 200 - x3 ≤ (n : Int) → d (x0 + 1) 11 ≤ N2 → ((0 ≤ (lp_219_106 x0 r2 n x1 x2 x3 d).1 ∧ (lp_219_106 x0 r2 n x1 x2 x3 d).1 ≤ 200) → (∀ b : Int, (b < x0 + 1 ∨ x0 + 1 < b) → (lp_219_106 x0 r2 n x1 x2 x3 d).2 b = d b) → (∀ i : Int, (0 ≤ i ∧ i ≤ 8 ∧ ¬ i = 1) ∨ (12 ≤ i ∧ i < 420 ∧ (i - 12) % 68 ≤ 4) ∨ (420 ≤ i ∧ i < 452 ∧ i % 2 = 0) ∨ i = 9 ∨ (452 ≤ i ∧ i < 1916 ∧ 5 ≤ (i - 452) % 24) → (lp_219_106 x0 r2 n x1 x2 x3 d).2 (x0 + 1) i = d (x0 + 1) i) → Safe (lp_219_106 x0 r2 n x1 x2 x3 d).2 → K (.inl (some (0, (lp_219_106 x0 r2 n x1 x2 x3 d).1))) (lp_219_106 x0 r2 n x1 x2 x3 d).2) → tRun E 219 (106, [.inr (11, x0), .inl (0, x1), .inl (0, x2), .inl (0, x3)], [], 0, 0, d) K := by
  intro n
  induction n with
  | zero =>
    intro x1 x2 x3  d hS i0 i1 i2 i3 hm m2 h
    exact ls_219_106 hx0 N2 r2 ih2 0 _ (fun _ _ _  _ _ _ _ _ _ _ m0 m1 _ => absurd m1 (by omega)) x1 x2 x3  d hS i0 i1 i2 i3 hm m2 h
  | succ n ih =>
    intro x1 x2 x3  d hS i0 i1 i2 i3 hm m2 h
    exact ls_219_106 hx0 N2 r2 ih2 ((n + 1 : Nat) : Int) _ (fun x1 x2 x3  d hS i0 i1 i2 i3 m2 m0 m1 h => ih x1 x2 x3  d hS i0 i1 i2 i3 (by omega) m2 h) x1 x2 x3  d hS i0 i1 i2 i3 hm m2 h
def st_219_2 (x0 : Int) (r2 : Int → mD → Int × mD) (x1 : Int) (d : mD) : Int × mD := if (0 : Int) < d (x0 + 1) 11 then (if d (x0 + 1) 1 < d (x0 + 1) 6 then (x1, d) else lp_219_106 x0 r2 (200 - 0 : Int).toNat x1 (1916 + (5 * (d (x0 + 1) 2916))) 0 (mset (mset (mset (mset d (x0 + 1) 1 ((d (x0 + 1) 1) - (d (x0 + 1) 6))) (x0 + 1) ((420 + (2 * (d (x0 + 1) ((1916 + (5 * (d (x0 + 1) 2916))) + 0)))) + 1) ((d (x0 + 1) ((420 + (2 * (d (x0 + 1) ((1916 + (5 * (d (x0 + 1) 2916))) + 0)))) + 1)) + (d (x0 + 1) 6))) (x0 + 1) ((1916 + (5 * (d (x0 + 1) 2916))) + 3) 2) (x0 + 1) 11 ((d (x0 + 1) 11) - 1))) else (x1, d)
def lp_219_2 (x0 : Int) : Nat → Int → mD → Int × mD
  | 0 => st_219_2 x0 (fun _ d => (0, d))
  | n + 1 => st_219_2 x0 (lp_219_2 x0 n)
theorem ls_219_2 {E : mO × tW} {K : tK} {x0 : Int} (hx0 : mdB x0) (N2 : Int) (r2 : Int → mD → Int × mD) (ih2 : ∀ (x1 : Int) (v2 v3 : tV) (d : mD), Safe d → (0 ≤ x1 ∧ x1 + d (x0 + 1) 11 ≤ 200) → 0 ≤ d (x0 + 1) 11 → d (x0 + 1) 11 < N2 → ((0 ≤ (r2 x1 d).1 ∧ (r2 x1 d).1 ≤ 200) → (∀ b : Int, (b < x0 + 1 ∨ x0 + 1 < b) → (r2 x1 d).2 b = d b) → (∀ i : Int, (0 ≤ i ∧ i ≤ 8 ∧ ¬ i = 1) ∨ (12 ≤ i ∧ i < 420 ∧ (i - 12) % 68 ≤ 4) ∨ (420 ≤ i ∧ i < 452 ∧ i % 2 = 0) ∨ i = 9 ∨ (452 ≤ i ∧ i < 1916 ∧ 5 ≤ (i - 452) % 24) → (r2 x1 d).2 (x0 + 1) i = d (x0 + 1) i) → Safe (r2 x1 d).2 → K (.inl (some (0, (r2 x1 d).1))) (r2 x1 d).2) → tRun E 219 (2, [.inr (11, x0), .inl (0, x1), v2, v3], [], 0, 0, d) K) (x1 : Int) (v2 v3 : tV) (d : mD) (hS : Safe d) (i0 : 0 ≤ x1 ∧ x1 + d (x0 + 1) 11 ≤ 200) (hm : d (x0 + 1) 11 ≤ N2) (h : (0 ≤ (st_219_2 x0 r2 x1 d).1 ∧ (st_219_2 x0 r2 x1 d).1 ≤ 200) → (∀ b : Int, (b < x0 + 1 ∨ x0 + 1 < b) → (st_219_2 x0 r2 x1 d).2 b = d b) → (∀ i : Int, (0 ≤ i ∧ i ≤ 8 ∧ ¬ i = 1) ∨ (12 ≤ i ∧ i < 420 ∧ (i - 12) % 68 ≤ 4) ∨ (420 ≤ i ∧ i < 452 ∧ i % 2 = 0) ∨ i = 9 ∨ (452 ≤ i ∧ i < 1916 ∧ 5 ≤ (i - 452) % 24) → (st_219_2 x0 r2 x1 d).2 (x0 + 1) i = d (x0 + 1) i) → Safe (st_219_2 x0 r2 x1 d).2 → K (.inl (some (0, (st_219_2 x0 r2 x1 d).1))) (st_219_2 x0 r2 x1 d).2) : tRun E 219 (2, [.inr (11, x0), .inl (0, x1), v2, v3], [], 0, 0, d) K := by
  refine t_219_2 ?_
  have q4 := mh_11 hS hx0 _ rfl
  refine ⟨by omega, m_inR (by omega) (by omega), fun c0 => ?_, fun c0 => ?_⟩
  · have y0 : st_219_2 x0 r2 x1 d = (x1, d) := by simp only [st_219_2, if_neg (show ¬ (0 : Int) < d (x0 + 1) 11 from Int.not_lt.mpr c0)]
    rw [y0] at h
    exact h (show 0 ≤ x1 ∧ x1 ≤ 200 from (by omega)) (show ∀ b : Int, (b < x0 + 1 ∨ x0 + 1 < b) → d b = d b from fun _ _ => rfl) (show ∀ i : Int, (0 ≤ i ∧ i ≤ 8 ∧ ¬ i = 1) ∨ (12 ≤ i ∧ i < 420 ∧ (i - 12) % 68 ≤ 4) ∨ (420 ≤ i ∧ i < 452 ∧ i % 2 = 0) ∨ i = 9 ∨ (452 ≤ i ∧ i < 1916 ∧ 5 ≤ (i - 452) % 24) → d (x0 + 1) i = d (x0 + 1) i from fun _ _ => rfl) hS
  · have q5 := mh_1 hS hx0 _ rfl
    have q6 := mh_6 hS hx0 _ rfl
    refine ⟨by omega, by omega, ⟨m_inR (by omega) (by omega), m_inR (by omega) (by omega)⟩, fun c1 => ?_, fun c1 => ?_⟩
    · have y0 : st_219_2 x0 r2 x1 d = (x1, d) := by simp only [st_219_2, if_pos (show (0 : Int) < d (x0 + 1) 11 from c0), if_pos (show d (x0 + 1) 1 < d (x0 + 1) 6 from c1)]
      rw [y0] at h
      exact h (show 0 ≤ x1 ∧ x1 ≤ 200 from (by omega)) (show ∀ b : Int, (b < x0 + 1 ∨ x0 + 1 < b) → d b = d b from fun _ _ => rfl) (show ∀ i : Int, (0 ≤ i ∧ i ≤ 8 ∧ ¬ i = 1) ∨ (12 ≤ i ∧ i < 420 ∧ (i - 12) % 68 ≤ 4) ∨ (420 ≤ i ∧ i < 452 ∧ i % 2 = 0) ∨ i = 9 ∨ (452 ≤ i ∧ i < 1916 ∧ 5 ≤ (i - 452) % 24) → d (x0 + 1) i = d (x0 + 1) i from fun _ _ => rfl) hS
    · refine ⟨by omega, ?_⟩
      refine k_180 hS ?_
      refine t_219_39 ?_
      refine ⟨by omega, by omega, by omega, ?_⟩
      have hS2 : Safe (mset d (x0 + 1) 1 ((d (x0 + 1) 1) - (d (x0 + 1) 6))) := smh_1 hS hx0 _ rfl (by omega)
      have q7 := mf hS hx0 0 2916 (by omega) (by omega)
      rw [mset_ni (d := d) (a := x0 + 1) (i := (1 : Int)) (v := (d (x0 + 1) 1) - (d (x0 + 1) 6)) (b := x0 + 1) (j := (1916 + (5 * (d (x0 + 1) 2916))) + 0) (by omega)]
      refine ⟨by omega, ?_⟩
      refine k_178 hS2 ?_
      refine t_219_71 ?_
      have q8 := mk_0 hS hx0 (d (x0 + 1) 2916) ((1916 + (5 * (d (x0 + 1) 2916))) + 0) (by omega) (by omega)
      rw [mset_ni (d := d) (a := x0 + 1) (i := (1 : Int)) (v := (d (x0 + 1) 1) - (d (x0 + 1) 6)) (b := x0 + 1) (j := (420 + (2 * (d (x0 + 1) ((1916 + (5 * (d (x0 + 1) 2916))) + 0)))) + 1) (by omega)]
      rw [mset_ni (d := d) (a := x0 + 1) (i := (1 : Int)) (v := (d (x0 + 1) 1) - (d (x0 + 1) 6)) (b := x0 + 1) (j := (6 : Int)) (by omega)]
      refine ⟨by omega, by omega, by omega, ?_⟩
      have hS3 : Safe (mset (mset d (x0 + 1) 1 ((d (x0 + 1) 1) - (d (x0 + 1) 6))) (x0 + 1) ((420 + (2 * (d (x0 + 1) ((1916 + (5 * (d (x0 + 1) 2916))) + 0)))) + 1) ((d (x0 + 1) ((420 + (2 * (d (x0 + 1) ((1916 + (5 * (d (x0 + 1) 2916))) + 0)))) + 1)) + (d (x0 + 1) 6))) := smp_1 hS2 hx0 (d (x0 + 1) ((1916 + (5 * (d (x0 + 1) 2916))) + 0)) ((420 + (2 * (d (x0 + 1) ((1916 + (5 * (d (x0 + 1) 2916))) + 0)))) + 1) (by omega) (by omega)
      refine ⟨by omega, ?_⟩
      have hS4 : Safe (mset (mset (mset d (x0 + 1) 1 ((d (x0 + 1) 1) - (d (x0 + 1) 6))) (x0 + 1) ((420 + (2 * (d (x0 + 1) ((1916 + (5 * (d (x0 + 1) 2916))) + 0)))) + 1) ((d (x0 + 1) ((420 + (2 * (d (x0 + 1) ((1916 + (5 * (d (x0 + 1) 2916))) + 0)))) + 1)) + (d (x0 + 1) 6))) (x0 + 1) ((1916 + (5 * (d (x0 + 1) 2916))) + 3) 2) := smk_3 hS3 hx0 (d (x0 + 1) 2916) ((1916 + (5 * (d (x0 + 1) 2916))) + 3) (by omega) (by omega) (by omega)
      rw [mset_ni (d := mset (mset d (x0 + 1) 1 ((d (x0 + 1) 1) - (d (x0 + 1) 6))) (x0 + 1) ((420 + (2 * (d (x0 + 1) ((1916 + (5 * (d (x0 + 1) 2916))) + 0)))) + 1) ((d (x0 + 1) ((420 + (2 * (d (x0 + 1) ((1916 + (5 * (d (x0 + 1) 2916))) + 0)))) + 1)) + (d (x0 + 1) 6))) (a := x0 + 1) (i := (1916 + (5 * (d (x0 + 1) 2916))) + 3) (v := (2 : Int)) (b := x0 + 1) (j := (11 : Int)) (by omega)]
      rw [mset_ni (d := mset d (x0 + 1) 1 ((d (x0 + 1) 1) - (d (x0 + 1) 6))) (a := x0 + 1) (i := (420 + (2 * (d (x0 + 1) ((1916 + (5 * (d (x0 + 1) 2916))) + 0)))) + 1) (v := (d (x0 + 1) ((420 + (2 * (d (x0 + 1) ((1916 + (5 * (d (x0 + 1) 2916))) + 0)))) + 1)) + (d (x0 + 1) 6)) (b := x0 + 1) (j := (11 : Int)) (by omega)]
      rw [mset_ni (d := d) (a := x0 + 1) (i := (1 : Int)) (v := (d (x0 + 1) 1) - (d (x0 + 1) 6)) (b := x0 + 1) (j := (11 : Int)) (by omega)]
      refine ⟨by omega, by omega, ?_⟩
      have hS5 : Safe (mset (mset (mset (mset d (x0 + 1) 1 ((d (x0 + 1) 1) - (d (x0 + 1) 6))) (x0 + 1) ((420 + (2 * (d (x0 + 1) ((1916 + (5 * (d (x0 + 1) 2916))) + 0)))) + 1) ((d (x0 + 1) ((420 + (2 * (d (x0 + 1) ((1916 + (5 * (d (x0 + 1) 2916))) + 0)))) + 1)) + (d (x0 + 1) 6))) (x0 + 1) ((1916 + (5 * (d (x0 + 1) 2916))) + 3) 2) (x0 + 1) 11 ((d (x0 + 1) 11) - 1)) := smh_11 hS4 hx0 _ rfl (by omega)
      have q9 : (mset (mset (mset (mset d (x0 + 1) 1 ((d (x0 + 1) 1) - (d (x0 + 1) 6))) (x0 + 1) ((420 + (2 * (d (x0 + 1) ((1916 + (5 * (d (x0 + 1) 2916))) + 0)))) + 1) ((d (x0 + 1) ((420 + (2 * (d (x0 + 1) ((1916 + (5 * (d (x0 + 1) 2916))) + 0)))) + 1)) + (d (x0 + 1) 6))) (x0 + 1) ((1916 + (5 * (d (x0 + 1) 2916))) + 3) 2) (x0 + 1) 11 ((d (x0 + 1) 11) - 1)) (x0 + 1) 11 = (d (x0 + 1) 11) - 1 := mset_eq
      refine l_219_106 hx0 N2 r2 ih2 (200 - 0 : Int).toNat x1 (1916 + (5 * (d (x0 + 1) 2916))) 0  (mset (mset (mset (mset d (x0 + 1) 1 ((d (x0 + 1) 1) - (d (x0 + 1) 6))) (x0 + 1) ((420 + (2 * (d (x0 + 1) ((1916 + (5 * (d (x0 + 1) 2916))) + 0)))) + 1) ((d (x0 + 1) ((420 + (2 * (d (x0 + 1) ((1916 + (5 * (d (x0 + 1) 2916))) + 0)))) + 1)) + (d (x0 + 1) 6))) (x0 + 1) ((1916 + (5 * (d (x0 + 1) 2916))) + 3) 2) (x0 + 1) 11 ((d (x0 + 1) 11) - 1)) hS5 (by omega) (by omega) (by omega) (by omega) (by omega) (by omega) ?_
      intro e F Q hS_
      have y0 : st_219_2 x0 r2 x1 d = lp_219_106 x0 r2 (200 - 0 : Int).toNat x1 (1916 + (5 * (d (x0 + 1) 2916))) 0 (mset (mset (mset (mset d (x0 + 1) 1 ((d (x0 + 1) 1) - (d (x0 + 1) 6))) (x0 + 1) ((420 + (2 * (d (x0 + 1) ((1916 + (5 * (d (x0 + 1) 2916))) + 0)))) + 1) ((d (x0 + 1) ((420 + (2 * (d (x0 + 1) ((1916 + (5 * (d (x0 + 1) 2916))) + 0)))) + 1)) + (d (x0 + 1) 6))) (x0 + 1) ((1916 + (5 * (d (x0 + 1) 2916))) + 3) 2) (x0 + 1) 11 ((d (x0 + 1) 11) - 1)) := by simp only [st_219_2, if_pos (show (0 : Int) < d (x0 + 1) 11 from c0), if_neg (show ¬ d (x0 + 1) 1 < d (x0 + 1) 6 from Int.not_lt.mpr c1)]
      rw [y0] at h
      exact h e (fun b hb => (F b hb).trans ((show ∀ b : Int, (b < x0 + 1 ∨ x0 + 1 < b) → (mset (mset (mset (mset d (x0 + 1) 1 ((d (x0 + 1) 1) - (d (x0 + 1) 6))) (x0 + 1) ((420 + (2 * (d (x0 + 1) ((1916 + (5 * (d (x0 + 1) 2916))) + 0)))) + 1) ((d (x0 + 1) ((420 + (2 * (d (x0 + 1) ((1916 + (5 * (d (x0 + 1) 2916))) + 0)))) + 1)) + (d (x0 + 1) 6))) (x0 + 1) ((1916 + (5 * (d (x0 + 1) 2916))) + 3) 2) (x0 + 1) 11 ((d (x0 + 1) 11) - 1)) b = d b from fun b hb => (mset_ne (by omega)).trans ((mset_ne (by omega)).trans ((mset_ne (by omega)).trans (mset_ne (by omega))))) b hb)) (fun i hi => (Q i hi).trans ((show ∀ i : Int, (0 ≤ i ∧ i ≤ 8 ∧ ¬ i = 1) ∨ (12 ≤ i ∧ i < 420 ∧ (i - 12) % 68 ≤ 4) ∨ (420 ≤ i ∧ i < 452 ∧ i % 2 = 0) ∨ i = 9 ∨ (452 ≤ i ∧ i < 1916 ∧ 5 ≤ (i - 452) % 24) → (mset (mset (mset (mset d (x0 + 1) 1 ((d (x0 + 1) 1) - (d (x0 + 1) 6))) (x0 + 1) ((420 + (2 * (d (x0 + 1) ((1916 + (5 * (d (x0 + 1) 2916))) + 0)))) + 1) ((d (x0 + 1) ((420 + (2 * (d (x0 + 1) ((1916 + (5 * (d (x0 + 1) 2916))) + 0)))) + 1)) + (d (x0 + 1) 6))) (x0 + 1) ((1916 + (5 * (d (x0 + 1) 2916))) + 3) 2) (x0 + 1) 11 ((d (x0 + 1) 11) - 1)) (x0 + 1) i = d (x0 + 1) i from fun i hi => (((mset_ni (by omega)).trans (mset_ni (by omega))).trans (mset_ni (by omega))).trans (mset_ni (by omega))) i hi)) hS_
theorem l_219_2 {E : mO × tW} {K : tK} {x0 : Int} (hx0 : mdB x0) : ∀ (n : Nat) (x1 : Int) (v2 v3 : tV) (d : mD), Safe d → (0 ≤ x1 ∧ x1 + d (x0 + 1) 11 ≤ 200) → d (x0 + 1) 11 ≤ (n : Int) → ((0 ≤ (lp_219_2 x0 n x1 d).1 ∧ (lp_219_2 x0 n x1 d).1 ≤ 200) → (∀ b : Int, (b < x0 + 1 ∨ x0 + 1 < b) → (lp_219_2 x0 n x1 d).2 b = d b) → (∀ i : Int, (0 ≤ i ∧ i ≤ 8 ∧ ¬ i = 1) ∨ (12 ≤ i ∧ i < 420 ∧ (i - 12) % 68 ≤ 4) ∨ (420 ≤ i ∧ i < 452 ∧ i % 2 = 0) ∨ i = 9 ∨ (452 ≤ i ∧ i < 1916 ∧ 5 ≤ (i - 452) % 24) → (lp_219_2 x0 n x1 d).2 (x0 + 1) i = d (x0 + 1) i) → Safe (lp_219_2 x0 n x1 d).2 → K (.inl (some (0, (lp_219_2 x0 n x1 d).1))) (lp_219_2 x0 n x1 d).2) → tRun E 219 (2, [.inr (11, x0), .inl (0, x1), v2, v3], [], 0, 0, d) K := by
  intro n
  induction n with
  | zero =>
    intro x1 v2 v3 d hS i0 hm  h
    exact ls_219_2 hx0 0 _ (fun _ _ _ _ _ _ m0 m1 _ => absurd m1 (by omega)) x1 v2 v3 d hS i0 hm  h
  | succ n ih =>
    intro x1 v2 v3 d hS i0 hm  h
    exact ls_219_2 hx0 ((n + 1 : Nat) : Int) _ (fun x1 v2 v3 d hS i0  m0 m1 h => ih x1 v2 v3 d hS i0 (by omega)  h) x1 v2 v3 d hS i0 hm  h
def f_219 (x0 : Int) (d : mD) : Int × mD := lp_219_2 x0 (d (x0 + 1) 11 : Int).toNat 0 d
def v_219 (x0 : Int) (d : mD) : Int := (f_219 x0 d).1
def g_219 (x0 : Int) (d : mD) : mD := (f_219 x0 d).2
theorem k_219 {E : mO × tW} {K : tK} {d : mD} {x0 : Int} (hS : Safe d) (hx0 : mdB x0) (h : (0 ≤ (v_219 x0 d) ∧ (v_219 x0 d) ≤ 200) → (∀ b : Int, (b < x0 + 1 ∨ x0 + 1 < b) → (g_219 x0 d) b = d b) → (∀ i : Int, (0 ≤ i ∧ i ≤ 8 ∧ ¬ i = 1) ∨ (12 ≤ i ∧ i < 420 ∧ (i - 12) % 68 ≤ 4) ∨ (420 ≤ i ∧ i < 452 ∧ i % 2 = 0) ∨ i = 9 ∨ (452 ≤ i ∧ i < 1916 ∧ 5 ≤ (i - 452) % 24) → (g_219 x0 d) (x0 + 1) i = d (x0 + 1) i) → Safe (g_219 x0 d) → K (.inl (some (0, (v_219 x0 d)))) (g_219 x0 d)) : tCall E 219 [.inr (11, x0)] d K := by
  simp only [v_219, g_219] at h
  refine t_219_0 ?_
  have q10 := mh_11 hS hx0 _ rfl
  refine l_219_2 hx0 (d (x0 + 1) 11 : Int).toNat 0 tu tu d hS (by omega) (by omega) ?_
  intro e F Q hS_
  have y0 : f_219 x0 d = lp_219_2 x0 (d (x0 + 1) 11 : Int).toNat 0 d := by simp only [f_219]
  rw [y0] at h
  exact h e F Q hS_
def st_220_20 (x0 x1 x2 : Int) (r20 : Int → Int → mD → mD) (x3 x4 : Int) (d : mD) : mD := if x4 < d (x0 + 1) (x3 + 5) then r20 x3 (x4 + 1) (mset d (x0 + 1) ((x3 + 7) + x4) (d (x0 + 1) (((x3 + 7) + x4) + 1))) else d
def lp_220_20 (x0 x1 x2 : Int) : Nat → Int → Int → mD → mD
  | 0 => st_220_20 x0 x1 x2 (fun _ _ d => d)
  | n + 1 => st_220_20 x0 x1 x2 (lp_220_20 x0 x1 x2 n)
theorem ls_220_20 {E : mO × tW} {K : tK} {x0 x1 x2 : Int} (hx0 : mdB x0) (p1 : 0 ≤ x1 ∧ x1 ≤ 5) (p2 : 0 ≤ x2 ∧ x2 ≤ 60) (N20 : Int) (r20 : Int → Int → mD → mD) (ih20 : ∀ (x3 x4 : Int) (d : mD), Safe d → (0 ≤ x4 ∧ x4 ≤ 61) → (x3 = 12 + 68 * x1) → (0 ≤ d (x0 + 1) (12 + 68 * x1 + 5)) → (d (x0 + 1) (12 + 68 * x1 + 5) ≤ 60) → 0 ≤ 61 - x4 → 61 - x4 < N20 → ((∀ b : Int, (b < x0 + 1 ∨ x0 + 1 < b) → (r20 x3 x4 d) b = d b) → (∀ i : Int, (0 ≤ i ∧ i ≤ 8 ∧ ¬ i = 1) ∨ (12 ≤ i ∧ i < 420 ∧ (i - 12) % 68 ≤ 4) ∨ (420 ≤ i ∧ i < 452 ∧ i % 2 = 0) ∨ i = 9 ∨ (452 ≤ i ∧ i < 1916 ∧ 5 ≤ (i - 452) % 24) → (r20 x3 x4 d) (x0 + 1) i = d (x0 + 1) i) → ((r20 x3 x4 d) (x0 + 1) (12 + 68 * x1 + 5) = d (x0 + 1) (12 + 68 * x1 + 5)) → Safe (r20 x3 x4 d) → K (.inl none) (r20 x3 x4 d)) → tRun E 220 (20, [.inr (11, x0), .inl (0, x1), .inl (0, x2), .inl (0, x3), .inl (0, x4)], [], 0, 0, d) K) (x3 x4 : Int) (d : mD) (hS : Safe d) (i0 : 0 ≤ x4 ∧ x4 ≤ 61) (i1 : x3 = 12 + 68 * x1) (i2 : 0 ≤ d (x0 + 1) (12 + 68 * x1 + 5)) (i3 : d (x0 + 1) (12 + 68 * x1 + 5) ≤ 60) (hm : 61 - x4 ≤ N20) (h : (∀ b : Int, (b < x0 + 1 ∨ x0 + 1 < b) → (st_220_20 x0 x1 x2 r20 x3 x4 d) b = d b) → (∀ i : Int, (0 ≤ i ∧ i ≤ 8 ∧ ¬ i = 1) ∨ (12 ≤ i ∧ i < 420 ∧ (i - 12) % 68 ≤ 4) ∨ (420 ≤ i ∧ i < 452 ∧ i % 2 = 0) ∨ i = 9 ∨ (452 ≤ i ∧ i < 1916 ∧ 5 ≤ (i - 452) % 24) → (st_220_20 x0 x1 x2 r20 x3 x4 d) (x0 + 1) i = d (x0 + 1) i) → ((st_220_20 x0 x1 x2 r20 x3 x4 d) (x0 + 1) (12 + 68 * x1 + 5) = d (x0 + 1) (12 + 68 * x1 + 5)) → Safe (st_220_20 x0 x1 x2 r20 x3 x4 d) → K (.inl none) (st_220_20 x0 x1 x2 r20 x3 x4 d)) : tRun E 220 (20, [.inr (11, x0), .inl (0, x1), .inl (0, x2), .inl (0, x3), .inl (0, x4)], [], 0, 0, d) K := by
  refine t_220_20 ?_
  have w1 : d (x0 + 1) (x3 + 5) = d (x0 + 1) (12 + 68 * x1 + 5) := by rw [i1]
  have q1 := mo_5 hS hx0 x1 (x3 + 5) (by omega) (by omega)
  refine ⟨by omega, ⟨m_inR (by omega) (by omega), m_inR (by omega) (by omega)⟩, fun c0 => ?_, fun c0 => ?_⟩
  · have y0 : st_220_20 x0 x1 x2 r20 x3 x4 d = d := by simp only [st_220_20, if_neg (show ¬ x4 < d (x0 + 1) (x3 + 5) from Int.not_lt.mpr c0)]
    rw [y0] at h
    exact h (show ∀ b : Int, (b < x0 + 1 ∨ x0 + 1 < b) → d b = d b from fun _ _ => rfl) (show ∀ i : Int, (0 ≤ i ∧ i ≤ 8 ∧ ¬ i = 1) ∨ (12 ≤ i ∧ i < 420 ∧ (i - 12) % 68 ≤ 4) ∨ (420 ≤ i ∧ i < 452 ∧ i % 2 = 0) ∨ i = 9 ∨ (452 ≤ i ∧ i < 1916 ∧ 5 ≤ (i - 452) % 24) → d (x0 + 1) i = d (x0 + 1) i from fun _ _ => rfl) (show d (x0 + 1) (12 + 68 * x1 + 5) = d (x0 + 1) (12 + 68 * x1 + 5) by omega) hS
  · have q2 := mo_q hS hx0 x1 (x4 + 1) (((x3 + 7) + x4) + 1) (by omega) (by omega) (by omega)
    refine ⟨by omega, by omega, ?_⟩
    have hS1 : Safe (mset d (x0 + 1) ((x3 + 7) + x4) (d (x0 + 1) (((x3 + 7) + x4) + 1))) := smo_q hS hx0 x1 x4 ((x3 + 7) + x4) (by omega) (by omega) (by omega) (by omega)
    have q3 : (mset d (x0 + 1) ((x3 + 7) + x4) (d (x0 + 1) (((x3 + 7) + x4) + 1))) (x0 + 1) (12 + 68 * x1 + 5) = d (x0 + 1) (12 + 68 * x1 + 5) := mset_ni (by omega)
    refine ih20 x3 (x4 + 1)  (mset d (x0 + 1) ((x3 + 7) + x4) (d (x0 + 1) (((x3 + 7) + x4) + 1))) hS1 (by omega) (by omega) (by omega) (by omega) (by omega) (by omega) ?_
    intro F Q n0 hS_
    have y0 : st_220_20 x0 x1 x2 r20 x3 x4 d = r20 x3 (x4 + 1) (mset d (x0 + 1) ((x3 + 7) + x4) (d (x0 + 1) (((x3 + 7) + x4) + 1))) := by simp only [st_220_20, if_pos (show x4 < d (x0 + 1) (x3 + 5) from c0)]
    rw [y0] at h
    exact h (fun b hb => (F b hb).trans ((show ∀ b : Int, (b < x0 + 1 ∨ x0 + 1 < b) → (mset d (x0 + 1) ((x3 + 7) + x4) (d (x0 + 1) (((x3 + 7) + x4) + 1))) b = d b from fun b hb => mset_ne (by omega)) b hb)) (fun i hi => (Q i hi).trans ((show ∀ i : Int, (0 ≤ i ∧ i ≤ 8 ∧ ¬ i = 1) ∨ (12 ≤ i ∧ i < 420 ∧ (i - 12) % 68 ≤ 4) ∨ (420 ≤ i ∧ i < 452 ∧ i % 2 = 0) ∨ i = 9 ∨ (452 ≤ i ∧ i < 1916 ∧ 5 ≤ (i - 452) % 24) → (mset d (x0 + 1) ((x3 + 7) + x4) (d (x0 + 1) (((x3 + 7) + x4) + 1))) (x0 + 1) i = d (x0 + 1) i from fun i hi => mset_ni (by omega)) i hi)) (by omega) hS_
theorem l_220_20 {E : mO × tW} {K : tK} {x0 x1 x2 : Int} (hx0 : mdB x0) (p1 : 0 ≤ x1 ∧ x1 ≤ 5) (p2 : 0 ≤ x2 ∧ x2 ≤ 60) : ∀ (n : Nat) (x3 x4 : Int) (d : mD), Safe d → (0 ≤ x4 ∧ x4 ≤ 61) → (x3 = 12 + 68 * x1) → (0 ≤ d (x0 + 1) (12 + 68 * x1 + 5)) → (d (x0 + 1) (12 + 68 * x1 + 5) ≤ 60) → 61 - x4 ≤ (n : Int) → ((∀ b : Int, (b < x0 + 1 ∨ x0 + 1 < b) → (lp_220_20 x0 x1 x2 n x3 x4 d) b = d b) → (∀ i : Int, (0 ≤ i ∧ i ≤ 8 ∧ ¬ i = 1) ∨ (12 ≤ i ∧ i < 420 ∧ (i - 12) % 68 ≤ 4) ∨ (420 ≤ i ∧ i < 452 ∧ i % 2 = 0) ∨ i = 9 ∨ (452 ≤ i ∧ i < 1916 ∧ 5 ≤ (i - 452) % 24) → (lp_220_20 x0 x1 x2 n x3 x4 d) (x0 + 1) i = d (x0 + 1) i) → ((lp_220_20 x0 x1 x2 n x3 x4 d) (x0 + 1) (12 + 68 * x1 + 5) = d (x0 + 1) (12 + 68 * x1 + 5)) → Safe (lp_220_20 x0 x1 x2 n x3 x4 d) → K (.inl none) (lp_220_20 x0 x1 x2 n x3 x4 d)) → tRun E 220 (20, [.inr (11, x0), .inl (0, x1), .inl (0, x2), .inl (0, x3), .inl (0, x4)], [], 0, 0, d) K := by
  intro n
  induction n with
  | zero =>
    intro x3 x4  d hS i0 i1 i2 i3 hm  h
    exact ls_220_20 hx0 p1 p2 0 _ (fun _ _  _ _ _ _ _ _ m0 m1 _ => absurd m1 (by omega)) x3 x4  d hS i0 i1 i2 i3 hm  h
  | succ n ih =>
    intro x3 x4  d hS i0 i1 i2 i3 hm  h
    exact ls_220_20 hx0 p1 p2 ((n + 1 : Nat) : Int) _ (fun x3 x4  d hS i0 i1 i2 i3  m0 m1 h => ih x3 x4  d hS i0 i1 i2 i3 (by omega)  h) x3 x4  d hS i0 i1 i2 i3 hm  h
def g_220 (x0 x1 x2 : Int) (d : mD) : mD := lp_220_20 x0 x1 x2 (61 - x2 : Int).toNat (12 + (68 * x1)) x2 (mset d (x0 + 1) ((12 + (68 * x1)) + 5) ((d (x0 + 1) ((12 + (68 * x1)) + 5)) - 1))
theorem k_220 {E : mO × tW} {K : tK} {d : mD} {x0 x1 x2 : Int} (hS : Safe d) (hx0 : mdB x0) (p1 : 0 ≤ x1 ∧ x1 ≤ 5) (p2 : 0 ≤ x2 ∧ x2 ≤ 60) (hq : 1 ≤ d (x0 + 1) (12 + 68 * x1 + 5)) (h : (∀ b : Int, (b < x0 + 1 ∨ x0 + 1 < b) → (g_220 x0 x1 x2 d) b = d b) → (∀ i : Int, (0 ≤ i ∧ i ≤ 8 ∧ ¬ i = 1) ∨ (12 ≤ i ∧ i < 420 ∧ (i - 12) % 68 ≤ 4) ∨ (420 ≤ i ∧ i < 452 ∧ i % 2 = 0) ∨ i = 9 ∨ (452 ≤ i ∧ i < 1916 ∧ 5 ≤ (i - 452) % 24) → (g_220 x0 x1 x2 d) (x0 + 1) i = d (x0 + 1) i) → ((g_220 x0 x1 x2 d) (x0 + 1) (12 + 68 * x1 + 5) = d (x0 + 1) (12 + 68 * x1 + 5) - 1) → Safe (g_220 x0 x1 x2 d) → K (.inl none) (g_220 x0 x1 x2 d)) : tCall E 220 [.inr (11, x0), .inl (0, x1), .inl (0, x2)] d K := by
  refine t_220_0 ?_
  refine k_177 hS ?_
  refine t_220_4 ?_
  have q4 := mo_5 hS hx0 x1 ((12 + (68 * x1)) + 5) (by omega) (by omega)
  refine ⟨by omega, by omega, ?_⟩
  have hS2 : Safe (mset d (x0 + 1) ((12 + (68 * x1)) + 5) ((d (x0 + 1) ((12 + (68 * x1)) + 5)) - 1)) := smo_5 hS hx0 x1 ((12 + (68 * x1)) + 5) (by omega) (by omega) (by omega)
  have q5 : (mset d (x0 + 1) ((12 + (68 * x1)) + 5) ((d (x0 + 1) ((12 + (68 * x1)) + 5)) - 1)) (x0 + 1) (12 + 68 * x1 + 5) = (d (x0 + 1) ((12 + (68 * x1)) + 5)) - 1 := mset_eq
  refine l_220_20 hx0 p1 p2 (61 - x2 : Int).toNat (12 + (68 * x1)) x2  (mset d (x0 + 1) ((12 + (68 * x1)) + 5) ((d (x0 + 1) ((12 + (68 * x1)) + 5)) - 1)) hS2 (by omega) (by omega) (by omega) (by omega) (by omega) ?_
  intro F Q n0 hS_
  have y0 : g_220 x0 x1 x2 d = lp_220_20 x0 x1 x2 (61 - x2 : Int).toNat (12 + (68 * x1)) x2 (mset d (x0 + 1) ((12 + (68 * x1)) + 5) ((d (x0 + 1) ((12 + (68 * x1)) + 5)) - 1)) := by simp only [g_220]
  rw [y0] at h
  exact h (fun b hb => (F b hb).trans ((show ∀ b : Int, (b < x0 + 1 ∨ x0 + 1 < b) → (mset d (x0 + 1) ((12 + (68 * x1)) + 5) ((d (x0 + 1) ((12 + (68 * x1)) + 5)) - 1)) b = d b from fun b hb => mset_ne (by omega)) b hb)) (fun i hi => (Q i hi).trans ((show ∀ i : Int, (0 ≤ i ∧ i ≤ 8 ∧ ¬ i = 1) ∨ (12 ≤ i ∧ i < 420 ∧ (i - 12) % 68 ≤ 4) ∨ (420 ≤ i ∧ i < 452 ∧ i % 2 = 0) ∨ i = 9 ∨ (452 ≤ i ∧ i < 1916 ∧ 5 ≤ (i - 452) % 24) → (mset d (x0 + 1) ((12 + (68 * x1)) + 5) ((d (x0 + 1) ((12 + (68 * x1)) + 5)) - 1)) (x0 + 1) i = d (x0 + 1) i from fun i hi => mset_ni (by omega)) i hi)) (by omega) hS_
def st_221_17 (x0 x1 : Int) (r17 : Int → Int → mD → Int) (x2 x3 : Int) (d : mD) : Int := if x3 < d (x0 + 1) (x2 + 5) then (if d (x0 + 1) ((x2 + 7) + x3) = x1 then x3 else r17 x2 (x3 + 1) d) else (-1)
def lp_221_17 (x0 x1 : Int) : Nat → Int → Int → mD → Int
  | 0 => st_221_17 x0 x1 (fun _ _ d => 0)
  | n + 1 => st_221_17 x0 x1 (lp_221_17 x0 x1 n)
theorem ls_221_17 {E : mO × tW} {K : tK} {x0 x1 : Int} (hx0 : mdB x0) (p1 : 0 ≤ x1 ∧ x1 ≤ 60) (N17 : Int) (r17 : Int → Int → mD → Int) (ih17 : ∀ (x2 x3 : Int) (d : mD), Safe d → (0 ≤ x3 ∧ x3 ≤ 61) → (x2 = 12 + 68 * d (x0 + 1) (452 + 24 * x1 + 1)) → 0 ≤ 61 - x3 → 61 - x3 < N17 → ((-1 ≤ (r17 x2 x3 d) ∧ (r17 x2 x3 d) ≤ 60) → K (.inl (some (0, (r17 x2 x3 d)))) d) → tRun E 221 (17, [.inr (11, x0), .inl (0, x1), .inl (0, x2), .inl (0, x3)], [], 0, 0, d) K) (x2 x3 : Int) (d : mD) (hS : Safe d) (i0 : 0 ≤ x3 ∧ x3 ≤ 61) (i1 : x2 = 12 + 68 * d (x0 + 1) (452 + 24 * x1 + 1)) (hm : 61 - x3 ≤ N17) (h : (-1 ≤ (st_221_17 x0 x1 r17 x2 x3 d) ∧ (st_221_17 x0 x1 r17 x2 x3 d) ≤ 60) → K (.inl (some (0, (st_221_17 x0 x1 r17 x2 x3 d)))) d) : tRun E 221 (17, [.inr (11, x0), .inl (0, x1), .inl (0, x2), .inl (0, x3)], [], 0, 0, d) K := by
  refine t_221_17 ?_
  have w1 := mt_1 hS hx0 x1 (452 + 24 * x1 + 1) (by omega) (by omega)
  have q1 := mo_5 hS hx0 (d (x0 + 1) (452 + 24 * x1 + 1)) (x2 + 5) (by omega) (by omega)
  refine ⟨by omega, ⟨m_inR (by omega) (by omega), m_inR (by omega) (by omega)⟩, fun c0 => ?_, fun c0 => ?_⟩
  · have y0 : st_221_17 x0 x1 r17 x2 x3 d = (-1) := by simp only [st_221_17, if_neg (show ¬ x3 < d (x0 + 1) (x2 + 5) from Int.not_lt.mpr c0)]
    rw [y0] at h
    exact h (show -1 ≤ ((-1 : Int)) ∧ ((-1 : Int)) ≤ 60 from (by omega))
  · have q2 := mo_q hS hx0 (d (x0 + 1) (452 + 24 * x1 + 1)) x3 ((x2 + 7) + x3) (by omega) (by omega) (by omega)
    refine ⟨by omega, ⟨m_inR (by omega) (by omega), m_inR (by omega) (by omega)⟩, fun c1 => ?_, fun c1 => ?_⟩
    · refine ih17 x2 (x3 + 1)  d hS (by omega) (by omega) (by omega) (by omega) ?_
      intro e
      have y0 : st_221_17 x0 x1 r17 x2 x3 d = r17 x2 (x3 + 1) d := by simp only [st_221_17, if_pos (show x3 < d (x0 + 1) (x2 + 5) from c0), if_neg (show ¬ d (x0 + 1) ((x2 + 7) + x3) = x1 from c1)]
      rw [y0] at h
      exact h e
    · have y0 : st_221_17 x0 x1 r17 x2 x3 d = x3 := by simp only [st_221_17, if_pos (show x3 < d (x0 + 1) (x2 + 5) from c0), if_pos (show d (x0 + 1) ((x2 + 7) + x3) = x1 from c1)]
      rw [y0] at h
      exact h (show -1 ≤ x3 ∧ x3 ≤ 60 from (by omega))
theorem l_221_17 {E : mO × tW} {K : tK} {x0 x1 : Int} (hx0 : mdB x0) (p1 : 0 ≤ x1 ∧ x1 ≤ 60) : ∀ (n : Nat) (x2 x3 : Int) (d : mD), Safe d → (0 ≤ x3 ∧ x3 ≤ 61) → (x2 = 12 + 68 * d (x0 + 1) (452 + 24 * x1 + 1)) → 61 - x3 ≤ (n : Int) → ((-1 ≤ (lp_221_17 x0 x1 n x2 x3 d) ∧ (lp_221_17 x0 x1 n x2 x3 d) ≤ 60) → K (.inl (some (0, (lp_221_17 x0 x1 n x2 x3 d)))) d) → tRun E 221 (17, [.inr (11, x0), .inl (0, x1), .inl (0, x2), .inl (0, x3)], [], 0, 0, d) K := by
  intro n
  induction n with
  | zero =>
    intro x2 x3  d hS i0 i1 hm  h
    exact ls_221_17 hx0 p1 0 _ (fun _ _  _ _ _ _ m0 m1 _ => absurd m1 (by omega)) x2 x3  d hS i0 i1 hm  h
  | succ n ih =>
    intro x2 x3  d hS i0 i1 hm  h
    exact ls_221_17 hx0 p1 ((n + 1 : Nat) : Int) _ (fun x2 x3  d hS i0 i1  m0 m1 h => ih x2 x3  d hS i0 i1 (by omega)  h) x2 x3  d hS i0 i1 hm  h
def v_221 (x0 x1 : Int) (d : mD) : Int := lp_221_17 x0 x1 (61 - 0 : Int).toNat (12 + (68 * (d (x0 + 1) ((452 + (24 * x1)) + 1)))) 0 d
theorem k_221 {E : mO × tW} {K : tK} {d : mD} {x0 x1 : Int} (hS : Safe d) (hx0 : mdB x0) (p1 : 0 ≤ x1 ∧ x1 ≤ 60) (h : (-1 ≤ (v_221 x0 x1 d) ∧ (v_221 x0 x1 d) ≤ 60) → K (.inl (some (0, (v_221 x0 x1 d)))) d) : tCall E 221 [.inr (11, x0), .inl (0, x1)] d K := by
  refine t_221_0 ?_
  refine k_179 hS ?_
  refine t_221_8 ?_
  refine ⟨by omega, ?_⟩
  refine k_177 hS ?_
  refine t_221_14 ?_
  have q3 := mt_1 hS hx0 x1 ((452 + (24 * x1)) + 1) (by omega) (by omega)
  refine l_221_17 hx0 p1 (61 - 0 : Int).toNat (12 + (68 * (d (x0 + 1) ((452 + (24 * x1)) + 1)))) 0  d hS (by omega) (by omega) (by omega) ?_
  intro e
  have y0 : v_221 x0 x1 d = lp_221_17 x0 x1 (61 - 0 : Int).toNat (12 + (68 * (d (x0 + 1) ((452 + (24 * x1)) + 1)))) 0 d := by simp only [v_221]
  rw [y0] at h
  exact h e
def st_222_7 (x0 x1 : Int) (r7 : Int → Int → mD → mD) (x2 x3 : Int) (d : mD) : mD := if x3 < d (x0 + 1) (x2 + 1) then (if (0 : Int) < d (x0 + 1) (x2 + 5) then r7 x2 (x3 + 1) (g_220 x0 x1 0 (mset (mset (mset d (x0 + 1) ((452 + (24 * (d (x0 + 1) (x2 + 7)))) + 4) 1) (x0 + 1) ((452 + (24 * (d (x0 + 1) (x2 + 7)))) + 3) (d (x0 + 1) 0)) (x0 + 1) (x2 + 6) ((d (x0 + 1) (x2 + 6)) + 1))) else d) else d
def lp_222_7 (x0 x1 : Int) : Nat → Int → Int → mD → mD
  | 0 => st_222_7 x0 x1 (fun _ _ d => d)
  | n + 1 => st_222_7 x0 x1 (lp_222_7 x0 x1 n)
theorem ls_222_7 {E : mO × tW} {K : tK} {x0 x1 : Int} (hx0 : mdB x0) (p1 : 0 ≤ x1 ∧ x1 ≤ 5) (N7 : Int) (r7 : Int → Int → mD → mD) (ih7 : ∀ (x2 x3 : Int) (v4 : tV) (d : mD), Safe d → (0 ≤ x3 ∧ x3 ≤ 4) → (x2 = 12 + 68 * x1) → 0 ≤ 4 - x3 → 4 - x3 < N7 → ((∀ b : Int, (b < x0 + 1 ∨ x0 + 1 < b) → (r7 x2 x3 d) b = d b) → (∀ i : Int, (0 ≤ i ∧ i ≤ 8 ∧ ¬ i = 1) ∨ (12 ≤ i ∧ i < 420 ∧ (i - 12) % 68 ≤ 4) ∨ (420 ≤ i ∧ i < 452 ∧ i % 2 = 0) ∨ i = 9 ∨ (452 ≤ i ∧ i < 1916 ∧ 5 ≤ (i - 452) % 24) → (r7 x2 x3 d) (x0 + 1) i = d (x0 + 1) i) → Safe (r7 x2 x3 d) → K (.inl none) (r7 x2 x3 d)) → tRun E 222 (7, [.inr (11, x0), .inl (0, x1), .inl (0, x2), .inl (0, x3), v4], [], 0, 0, d) K) (x2 x3 : Int) (v4 : tV) (d : mD) (hS : Safe d) (i0 : 0 ≤ x3 ∧ x3 ≤ 4) (i1 : x2 = 12 + 68 * x1) (hm : 4 - x3 ≤ N7) (h : (∀ b : Int, (b < x0 + 1 ∨ x0 + 1 < b) → (st_222_7 x0 x1 r7 x2 x3 d) b = d b) → (∀ i : Int, (0 ≤ i ∧ i ≤ 8 ∧ ¬ i = 1) ∨ (12 ≤ i ∧ i < 420 ∧ (i - 12) % 68 ≤ 4) ∨ (420 ≤ i ∧ i < 452 ∧ i % 2 = 0) ∨ i = 9 ∨ (452 ≤ i ∧ i < 1916 ∧ 5 ≤ (i - 452) % 24) → (st_222_7 x0 x1 r7 x2 x3 d) (x0 + 1) i = d (x0 + 1) i) → Safe (st_222_7 x0 x1 r7 x2 x3 d) → K (.inl none) (st_222_7 x0 x1 r7 x2 x3 d)) : tRun E 222 (7, [.inr (11, x0), .inl (0, x1), .inl (0, x2), .inl (0, x3), v4], [], 0, 0, d) K := by
  refine t_222_7 ?_
  have w1 : d (x0 + 1) (x2 + 5) = d (x0 + 1) (12 + 68 * x1 + 5) := by rw [i1]
  have q1 := mo_1 hS hx0 x1 (x2 + 1) (by omega) (by omega)
  refine ⟨by omega, ⟨m_inR (by omega) (by omega), m_inR (by omega) (by omega)⟩, fun c0 => ?_, fun c0 => ?_⟩
  · have y0 : st_222_7 x0 x1 r7 x2 x3 d = d := by simp only [st_222_7, if_neg (show ¬ x3 < d (x0 + 1) (x2 + 1) from Int.not_lt.mpr c0)]
    rw [y0] at h
    exact h (show ∀ b : Int, (b < x0 + 1 ∨ x0 + 1 < b) → d b = d b from fun _ _ => rfl) (show ∀ i : Int, (0 ≤ i ∧ i ≤ 8 ∧ ¬ i = 1) ∨ (12 ≤ i ∧ i < 420 ∧ (i - 12) % 68 ≤ 4) ∨ (420 ≤ i ∧ i < 452 ∧ i % 2 = 0) ∨ i = 9 ∨ (452 ≤ i ∧ i < 1916 ∧ 5 ≤ (i - 452) % 24) → d (x0 + 1) i = d (x0 + 1) i from fun _ _ => rfl) hS
  · have q2 := mo_5 hS hx0 x1 (x2 + 5) (by omega) (by omega)
    refine ⟨by omega, m_inR (by omega) (by omega), fun c1 => ?_, fun c1 => ?_⟩
    · have y0 : st_222_7 x0 x1 r7 x2 x3 d = d := by simp only [st_222_7, if_pos (show x3 < d (x0 + 1) (x2 + 1) from c0), if_neg (show ¬ (0 : Int) < d (x0 + 1) (x2 + 5) from Int.not_lt.mpr c1)]
      rw [y0] at h
      exact h (show ∀ b : Int, (b < x0 + 1 ∨ x0 + 1 < b) → d b = d b from fun _ _ => rfl) (show ∀ i : Int, (0 ≤ i ∧ i ≤ 8 ∧ ¬ i = 1) ∨ (12 ≤ i ∧ i < 420 ∧ (i - 12) % 68 ≤ 4) ∨ (420 ≤ i ∧ i < 452 ∧ i % 2 = 0) ∨ i = 9 ∨ (452 ≤ i ∧ i < 1916 ∧ 5 ≤ (i - 452) % 24) → d (x0 + 1) i = d (x0 + 1) i from fun _ _ => rfl) hS
    · refine ⟨by omega, ?_⟩
      refine k_179 hS ?_
      refine t_222_42 ?_
      have q3 := mo_q hS hx0 x1 0 (x2 + 7) (by omega) (by omega) (by omega)
      refine ⟨by omega, ?_⟩
      have hS1 : Safe (mset d (x0 + 1) ((452 + (24 * (d (x0 + 1) (x2 + 7)))) + 4) 1) := smt_4 hS hx0 (d (x0 + 1) (x2 + 7)) ((452 + (24 * (d (x0 + 1) (x2 + 7)))) + 4) (by omega) (by omega) (by omega)
      rw [mset_ni (d := d) (a := x0 + 1) (i := (452 + (24 * (d (x0 + 1) (x2 + 7)))) + 4) (v := (1 : Int)) (b := x0 + 1) (j := (0 : Int)) (by omega)]
      have q4 := mh_0 hS hx0 _ rfl
      refine ⟨by omega, by omega, ?_⟩
      have hS2 : Safe (mset (mset d (x0 + 1) ((452 + (24 * (d (x0 + 1) (x2 + 7)))) + 4) 1) (x0 + 1) ((452 + (24 * (d (x0 + 1) (x2 + 7)))) + 3) (d (x0 + 1) 0)) := smt_3 hS1 hx0 (d (x0 + 1) (x2 + 7)) ((452 + (24 * (d (x0 + 1) (x2 + 7)))) + 3) (by omega) (by omega) (by omega)
      rw [mset_ni (d := mset d (x0 + 1) ((452 + (24 * (d (x0 + 1) (x2 + 7)))) + 4) 1) (a := x0 + 1) (i := (452 + (24 * (d (x0 + 1) (x2 + 7)))) + 3) (v := d (x0 + 1) 0) (b := x0 + 1) (j := x2 + 6) (by omega)]
      rw [mset_ni (d := d) (a := x0 + 1) (i := (452 + (24 * (d (x0 + 1) (x2 + 7)))) + 4) (v := (1 : Int)) (b := x0 + 1) (j := x2 + 6) (by omega)]
      refine ⟨by omega, by omega, ?_⟩
      have hS3 : Safe (mset (mset (mset d (x0 + 1) ((452 + (24 * (d (x0 + 1) (x2 + 7)))) + 4) 1) (x0 + 1) ((452 + (24 * (d (x0 + 1) (x2 + 7)))) + 3) (d (x0 + 1) 0)) (x0 + 1) (x2 + 6) ((d (x0 + 1) (x2 + 6)) + 1)) := smo_6 hS2 hx0 x1 (x2 + 6) (by omega) (by omega)
      have q5 : (mset (mset (mset d (x0 + 1) ((452 + (24 * (d (x0 + 1) (x2 + 7)))) + 4) 1) (x0 + 1) ((452 + (24 * (d (x0 + 1) (x2 + 7)))) + 3) (d (x0 + 1) 0)) (x0 + 1) (x2 + 6) ((d (x0 + 1) (x2 + 6)) + 1)) (x0 + 1) (12 + 68 * x1 + 5) = d (x0 + 1) (12 + 68 * x1 + 5) := ((mset_ni (by omega)).trans (mset_ni (by omega))).trans (mset_ni (by omega))
      refine k_220 hS3 hx0 (by omega) (by omega) (by omega) (fun F1 Q1 n1_0 hS4 => ?_)
      refine t_222_88 ?_
      refine ih7 x2 (x3 + 1) (.inl (0, 452 + (24 * (d (x0 + 1) (x2 + 7))))) (g_220 x0 x1 0 (mset (mset (mset d (x0 + 1) ((452 + (24 * (d (x0 + 1) (x2 + 7)))) + 4) 1) (x0 + 1) ((452 + (24 * (d (x0 + 1) (x2 + 7)))) + 3) (d (x0 + 1) 0)) (x0 + 1) (x2 + 6) ((d (x0 + 1) (x2 + 6)) + 1))) hS4 (by omega) (by omega) (by omega) (by omega) ?_
      intro F Q hS_
      have y0 : st_222_7 x0 x1 r7 x2 x3 d = r7 x2 (x3 + 1) (g_220 x0 x1 0 (mset (mset (mset d (x0 + 1) ((452 + (24 * (d (x0 + 1) (x2 + 7)))) + 4) 1) (x0 + 1) ((452 + (24 * (d (x0 + 1) (x2 + 7)))) + 3) (d (x0 + 1) 0)) (x0 + 1) (x2 + 6) ((d (x0 + 1) (x2 + 6)) + 1))) := by simp only [st_222_7, if_pos (show x3 < d (x0 + 1) (x2 + 1) from c0), if_pos (show (0 : Int) < d (x0 + 1) (x2 + 5) from c1)]
      rw [y0] at h
      exact h (fun b hb => (F b hb).trans ((show ∀ b : Int, (b < x0 + 1 ∨ x0 + 1 < b) → (g_220 x0 x1 0 (mset (mset (mset d (x0 + 1) ((452 + (24 * (d (x0 + 1) (x2 + 7)))) + 4) 1) (x0 + 1) ((452 + (24 * (d (x0 + 1) (x2 + 7)))) + 3) (d (x0 + 1) 0)) (x0 + 1) (x2 + 6) ((d (x0 + 1) (x2 + 6)) + 1))) b = d b from fun b hb => (F1 b (by omega)).trans ((mset_ne (by omega)).trans ((mset_ne (by omega)).trans (mset_ne (by omega))))) b hb)) (fun i hi => (Q i hi).trans ((show ∀ i : Int, (0 ≤ i ∧ i ≤ 8 ∧ ¬ i = 1) ∨ (12 ≤ i ∧ i < 420 ∧ (i - 12) % 68 ≤ 4) ∨ (420 ≤ i ∧ i < 452 ∧ i % 2 = 0) ∨ i = 9 ∨ (452 ≤ i ∧ i < 1916 ∧ 5 ≤ (i - 452) % 24) → (g_220 x0 x1 0 (mset (mset (mset d (x0 + 1) ((452 + (24 * (d (x0 + 1) (x2 + 7)))) + 4) 1) (x0 + 1) ((452 + (24 * (d (x0 + 1) (x2 + 7)))) + 3) (d (x0 + 1) 0)) (x0 + 1) (x2 + 6) ((d (x0 + 1) (x2 + 6)) + 1))) (x0 + 1) i = d (x0 + 1) i from fun i hi => (((Q1 i (by omega)).trans (mset_ni (by omega))).trans (mset_ni (by omega))).trans (mset_ni (by omega))) i hi)) hS_
theorem l_222_7 {E : mO × tW} {K : tK} {x0 x1 : Int} (hx0 : mdB x0) (p1 : 0 ≤ x1 ∧ x1 ≤ 5) : ∀ (n : Nat) (x2 x3 : Int) (v4 : tV) (d : mD), Safe d → (0 ≤ x3 ∧ x3 ≤ 4) → (x2 = 12 + 68 * x1) → 4 - x3 ≤ (n : Int) → ((∀ b : Int, (b < x0 + 1 ∨ x0 + 1 < b) → (lp_222_7 x0 x1 n x2 x3 d) b = d b) → (∀ i : Int, (0 ≤ i ∧ i ≤ 8 ∧ ¬ i = 1) ∨ (12 ≤ i ∧ i < 420 ∧ (i - 12) % 68 ≤ 4) ∨ (420 ≤ i ∧ i < 452 ∧ i % 2 = 0) ∨ i = 9 ∨ (452 ≤ i ∧ i < 1916 ∧ 5 ≤ (i - 452) % 24) → (lp_222_7 x0 x1 n x2 x3 d) (x0 + 1) i = d (x0 + 1) i) → Safe (lp_222_7 x0 x1 n x2 x3 d) → K (.inl none) (lp_222_7 x0 x1 n x2 x3 d)) → tRun E 222 (7, [.inr (11, x0), .inl (0, x1), .inl (0, x2), .inl (0, x3), v4], [], 0, 0, d) K := by
  intro n
  induction n with
  | zero =>
    intro x2 x3 v4 d hS i0 i1 hm  h
    exact ls_222_7 hx0 p1 0 _ (fun _ _ _ _ _ _ _ m0 m1 _ => absurd m1 (by omega)) x2 x3 v4 d hS i0 i1 hm  h
  | succ n ih =>
    intro x2 x3 v4 d hS i0 i1 hm  h
    exact ls_222_7 hx0 p1 ((n + 1 : Nat) : Int) _ (fun x2 x3 v4 d hS i0 i1  m0 m1 h => ih x2 x3 v4 d hS i0 i1 (by omega)  h) x2 x3 v4 d hS i0 i1 hm  h
def g_222 (x0 x1 : Int) (d : mD) : mD := lp_222_7 x0 x1 (4 - 0 : Int).toNat (12 + (68 * x1)) 0 d
theorem k_222 {E : mO × tW} {K : tK} {d : mD} {x0 x1 : Int} (hS : Safe d) (hx0 : mdB x0) (p1 : 0 ≤ x1 ∧ x1 ≤ 5) (h : (∀ b : Int, (b < x0 + 1 ∨ x0 + 1 < b) → (g_222 x0 x1 d) b = d b) → (∀ i : Int, (0 ≤ i ∧ i ≤ 8 ∧ ¬ i = 1) ∨ (12 ≤ i ∧ i < 420 ∧ (i - 12) % 68 ≤ 4) ∨ (420 ≤ i ∧ i < 452 ∧ i % 2 = 0) ∨ i = 9 ∨ (452 ≤ i ∧ i < 1916 ∧ 5 ≤ (i - 452) % 24) → (g_222 x0 x1 d) (x0 + 1) i = d (x0 + 1) i) → Safe (g_222 x0 x1 d) → K (.inl none) (g_222 x0 x1 d)) : tCall E 222 [.inr (11, x0), .inl (0, x1)] d K := by
  refine t_222_0 ?_
  refine k_177 hS ?_
  refine t_222_4 ?_
  refine l_222_7 hx0 p1 (4 - 0 : Int).toNat (12 + (68 * x1)) 0 tu d hS (by omega) (by omega) (by omega) ?_
  intro F Q hS_
  have y0 : g_222 x0 x1 d = lp_222_7 x0 x1 (4 - 0 : Int).toNat (12 + (68 * x1)) 0 d := by simp only [g_222]
  rw [y0] at h
  exact h F Q hS_
def v_230 (x0 x1 x2 : Int) (d : mD) : Int := if d (x0 + 1) ((452 + (24 * x2)) + 2) < d (x0 + 1) ((452 + (24 * x1)) + 2) then (if v_212 x0 x1 d < v_212 x0 x2 d then (if d (x0 + 1) ((452 + (24 * x1)) + 2) < v_212 x0 x1 d then (v_212 x0 x1 d) - (d (x0 + 1) ((452 + (24 * x1)) + 2)) else 0) else if d (x0 + 1) ((452 + (24 * x1)) + 2) < v_212 x0 x2 d then (v_212 x0 x2 d) - (d (x0 + 1) ((452 + (24 * x1)) + 2)) else 0) else if v_212 x0 x1 d < v_212 x0 x2 d then (if d (x0 + 1) ((452 + (24 * x2)) + 2) < v_212 x0 x1 d then (v_212 x0 x1 d) - (d (x0 + 1) ((452 + (24 * x2)) + 2)) else 0) else if d (x0 + 1) ((452 + (24 * x2)) + 2) < v_212 x0 x2 d then (v_212 x0 x2 d) - (d (x0 + 1) ((452 + (24 * x2)) + 2)) else 0
theorem k_230 {E : mO × tW} {K : tK} {d : mD} {x0 x1 x2 : Int} (hS : Safe d) (hx0 : mdB x0) (p1 : 0 ≤ x1 ∧ x1 ≤ 60) (p2 : 0 ≤ x2 ∧ x2 ≤ 60) (h : (0 ≤ (v_230 x0 x1 x2 d) ∧ (v_230 x0 x1 x2 d) ≤ 1200) → K (.inl (some (0, (v_230 x0 x1 x2 d)))) d) : tCall E 230 [.inr (11, x0), .inl (0, x1), .inl (0, x2)] d K := by
  refine t_230_0 ?_
  refine k_179 hS ?_
  refine t_230_8 ?_
  refine ⟨by omega, ?_⟩
  refine k_179 hS ?_
  refine t_230_19 ?_
  have q1 := mt_2 hS hx0 x1 ((452 + (24 * x1)) + 2) (by omega) (by omega)
  have q2 := mt_2 hS hx0 x2 ((452 + (24 * x2)) + 2) (by omega) (by omega)
  refine ⟨by omega, ⟨m_inR (by omega) (by omega), m_inR (by omega) (by omega)⟩, fun c0 => ?_, fun c0 => ?_⟩
  · refine k_179 hS ?_
    refine t_230_47 ?_
    refine ⟨by omega, ?_⟩
    refine k_212 hS hx0 (by omega) (fun e1 => ?_)
    refine t_230_56 ?_
    refine k_212 hS hx0 (by omega) (fun e2 => ?_)
    refine t_230_61 ?_
    refine ⟨⟨m_inR (by omega) (by omega), m_inR (by omega) (by omega)⟩, fun c1 => ?_, fun c1 => ?_⟩
    · refine k_212 hS hx0 (by omega) (fun e3 => ?_)
      refine t_230_77 ?_
      refine ⟨⟨m_inR (by omega) (by omega), m_inR (by omega) (by omega)⟩, fun c2 => ?_, fun c2 => ?_⟩
      · have y0 : v_230 x0 x1 x2 d = 0 := by simp only [v_230, if_neg (show ¬ d (x0 + 1) ((452 + (24 * x2)) + 2) < d (x0 + 1) ((452 + (24 * x1)) + 2) from Int.not_lt.mpr c0), if_neg (show ¬ v_212 x0 x1 d < v_212 x0 x2 d from Int.not_lt.mpr c1), if_neg (show ¬ d (x0 + 1) ((452 + (24 * x2)) + 2) < v_212 x0 x2 d from Int.not_lt.mpr c2)]
        rw [y0] at h
        exact h (show 0 ≤ ((0 : Int)) ∧ ((0 : Int)) ≤ 1200 from (by omega))
      · have y0 : v_230 x0 x1 x2 d = (v_212 x0 x2 d) - (d (x0 + 1) ((452 + (24 * x2)) + 2)) := by simp only [v_230, if_neg (show ¬ d (x0 + 1) ((452 + (24 * x2)) + 2) < d (x0 + 1) ((452 + (24 * x1)) + 2) from Int.not_lt.mpr c0), if_neg (show ¬ v_212 x0 x1 d < v_212 x0 x2 d from Int.not_lt.mpr c1), if_pos (show d (x0 + 1) ((452 + (24 * x2)) + 2) < v_212 x0 x2 d from c2)]
        rw [y0] at h
        exact h (show 0 ≤ ((v_212 x0 x2 d) - (d (x0 + 1) ((452 + (24 * x2)) + 2))) ∧ ((v_212 x0 x2 d) - (d (x0 + 1) ((452 + (24 * x2)) + 2))) ≤ 1200 from (by omega))
    · refine k_212 hS hx0 (by omega) (fun e4 => ?_)
      refine t_230_69 ?_
      refine t_230_77 ?_
      refine ⟨⟨m_inR (by omega) (by omega), m_inR (by omega) (by omega)⟩, fun c2 => ?_, fun c2 => ?_⟩
      · have y0 : v_230 x0 x1 x2 d = 0 := by simp only [v_230, if_neg (show ¬ d (x0 + 1) ((452 + (24 * x2)) + 2) < d (x0 + 1) ((452 + (24 * x1)) + 2) from Int.not_lt.mpr c0), if_pos (show v_212 x0 x1 d < v_212 x0 x2 d from c1), if_neg (show ¬ d (x0 + 1) ((452 + (24 * x2)) + 2) < v_212 x0 x1 d from Int.not_lt.mpr c2)]
        rw [y0] at h
        exact h (show 0 ≤ ((0 : Int)) ∧ ((0 : Int)) ≤ 1200 from (by omega))
      · have y0 : v_230 x0 x1 x2 d = (v_212 x0 x1 d) - (d (x0 + 1) ((452 + (24 * x2)) + 2)) := by simp only [v_230, if_neg (show ¬ d (x0 + 1) ((452 + (24 * x2)) + 2) < d (x0 + 1) ((452 + (24 * x1)) + 2) from Int.not_lt.mpr c0), if_pos (show v_212 x0 x1 d < v_212 x0 x2 d from c1), if_pos (show d (x0 + 1) ((452 + (24 * x2)) + 2) < v_212 x0 x1 d from c2)]
        rw [y0] at h
        exact h (show 0 ≤ ((v_212 x0 x1 d) - (d (x0 + 1) ((452 + (24 * x2)) + 2))) ∧ ((v_212 x0 x1 d) - (d (x0 + 1) ((452 + (24 * x2)) + 2))) ≤ 1200 from (by omega))
  · refine k_179 hS ?_
    refine t_230_33 ?_
    refine ⟨by omega, ?_⟩
    refine k_212 hS hx0 (by omega) (fun e5 => ?_)
    refine t_230_56 ?_
    refine k_212 hS hx0 (by omega) (fun e6 => ?_)
    refine t_230_61 ?_
    refine ⟨⟨m_inR (by omega) (by omega), m_inR (by omega) (by omega)⟩, fun c1 => ?_, fun c1 => ?_⟩
    · refine k_212 hS hx0 (by omega) (fun e7 => ?_)
      refine t_230_77 ?_
      refine ⟨⟨m_inR (by omega) (by omega), m_inR (by omega) (by omega)⟩, fun c2 => ?_, fun c2 => ?_⟩
      · have y0 : v_230 x0 x1 x2 d = 0 := by simp only [v_230, if_pos (show d (x0 + 1) ((452 + (24 * x2)) + 2) < d (x0 + 1) ((452 + (24 * x1)) + 2) from c0), if_neg (show ¬ v_212 x0 x1 d < v_212 x0 x2 d from Int.not_lt.mpr c1), if_neg (show ¬ d (x0 + 1) ((452 + (24 * x1)) + 2) < v_212 x0 x2 d from Int.not_lt.mpr c2)]
        rw [y0] at h
        exact h (show 0 ≤ ((0 : Int)) ∧ ((0 : Int)) ≤ 1200 from (by omega))
      · have y0 : v_230 x0 x1 x2 d = (v_212 x0 x2 d) - (d (x0 + 1) ((452 + (24 * x1)) + 2)) := by simp only [v_230, if_pos (show d (x0 + 1) ((452 + (24 * x2)) + 2) < d (x0 + 1) ((452 + (24 * x1)) + 2) from c0), if_neg (show ¬ v_212 x0 x1 d < v_212 x0 x2 d from Int.not_lt.mpr c1), if_pos (show d (x0 + 1) ((452 + (24 * x1)) + 2) < v_212 x0 x2 d from c2)]
        rw [y0] at h
        exact h (show 0 ≤ ((v_212 x0 x2 d) - (d (x0 + 1) ((452 + (24 * x1)) + 2))) ∧ ((v_212 x0 x2 d) - (d (x0 + 1) ((452 + (24 * x1)) + 2))) ≤ 1200 from (by omega))
    · refine k_212 hS hx0 (by omega) (fun e8 => ?_)
      refine t_230_69 ?_
      refine t_230_77 ?_
      refine ⟨⟨m_inR (by omega) (by omega), m_inR (by omega) (by omega)⟩, fun c2 => ?_, fun c2 => ?_⟩
      · have y0 : v_230 x0 x1 x2 d = 0 := by simp only [v_230, if_pos (show d (x0 + 1) ((452 + (24 * x2)) + 2) < d (x0 + 1) ((452 + (24 * x1)) + 2) from c0), if_pos (show v_212 x0 x1 d < v_212 x0 x2 d from c1), if_neg (show ¬ d (x0 + 1) ((452 + (24 * x1)) + 2) < v_212 x0 x1 d from Int.not_lt.mpr c2)]
        rw [y0] at h
        exact h (show 0 ≤ ((0 : Int)) ∧ ((0 : Int)) ≤ 1200 from (by omega))
      · have y0 : v_230 x0 x1 x2 d = (v_212 x0 x1 d) - (d (x0 + 1) ((452 + (24 * x1)) + 2)) := by simp only [v_230, if_pos (show d (x0 + 1) ((452 + (24 * x2)) + 2) < d (x0 + 1) ((452 + (24 * x1)) + 2) from c0), if_pos (show v_212 x0 x1 d < v_212 x0 x2 d from c1), if_pos (show d (x0 + 1) ((452 + (24 * x1)) + 2) < v_212 x0 x1 d from c2)]
        rw [y0] at h
        exact h (show 0 ≤ ((v_212 x0 x1 d) - (d (x0 + 1) ((452 + (24 * x1)) + 2))) ∧ ((v_212 x0 x1 d) - (d (x0 + 1) ((452 + (24 * x1)) + 2))) ≤ 1200 from (by omega))
def st_231_5 (x0 x1 x2 : Int) (r5 : Int → Int → mD → Int) (x3 x4 : Int) (d : mD) : Int := if x4 < d (x0 + 1) 9 then (if x4 = x1 then r5 x3 (x4 + 1) d else if d (x0 + 1) ((452 + (24 * x4)) + 0) = x2 then (if d (x0 + 1) ((452 + (24 * x4)) + 1) = d (x0 + 1) ((452 + (24 * x1)) + 1) then (if x3 < v_230 x0 x1 x4 d then r5 (v_230 x0 x1 x4 d) (x4 + 1) d else r5 x3 (x4 + 1) d) else r5 x3 (x4 + 1) d) else r5 x3 (x4 + 1) d) else x3
def lp_231_5 (x0 x1 x2 : Int) : Nat → Int → Int → mD → Int
  | 0 => st_231_5 x0 x1 x2 (fun _ _ d => 0)
  | n + 1 => st_231_5 x0 x1 x2 (lp_231_5 x0 x1 x2 n)
theorem ls_231_5 {E : mO × tW} {K : tK} {x0 x1 x2 : Int} (hx0 : mdB x0) (p1 : 0 ≤ x1 ∧ x1 ≤ 60) (p2 : -2147483648 ≤ x2 ∧ x2 ≤ 2147483647) (N5 : Int) (r5 : Int → Int → mD → Int) (ih5 : ∀ (x3 x4 : Int) (v5 : tV) (d : mD), Safe d → (0 ≤ x4 ∧ x4 ≤ 61) → (0 ≤ x3 ∧ x3 ≤ 1200) → 0 ≤ 61 - x4 → 61 - x4 < N5 → ((0 ≤ (r5 x3 x4 d) ∧ (r5 x3 x4 d) ≤ 1200) → K (.inl (some (0, (r5 x3 x4 d)))) d) → tRun E 231 (5, [.inr (11, x0), .inl (0, x1), .inl (0, x2), .inl (0, x3), .inl (0, x4), v5], [], 0, 0, d) K) (x3 x4 : Int) (v5 : tV) (d : mD) (hS : Safe d) (i0 : 0 ≤ x4 ∧ x4 ≤ 61) (i1 : 0 ≤ x3 ∧ x3 ≤ 1200) (hm : 61 - x4 ≤ N5) (h : (0 ≤ (st_231_5 x0 x1 x2 r5 x3 x4 d) ∧ (st_231_5 x0 x1 x2 r5 x3 x4 d) ≤ 1200) → K (.inl (some (0, (st_231_5 x0 x1 x2 r5 x3 x4 d)))) d) : tRun E 231 (5, [.inr (11, x0), .inl (0, x1), .inl (0, x2), .inl (0, x3), .inl (0, x4), v5], [], 0, 0, d) K := by
  refine t_231_5 ?_
  have q1 := mh_9 hS hx0 _ rfl
  refine ⟨by omega, ⟨m_inR (by omega) (by omega), m_inR (by omega) (by omega)⟩, fun c0 => ?_, fun c0 => ?_⟩
  · have y0 : st_231_5 x0 x1 x2 r5 x3 x4 d = x3 := by simp only [st_231_5, if_neg (show ¬ x4 < d (x0 + 1) 9 from Int.not_lt.mpr c0)]
    rw [y0] at h
    exact h (show 0 ≤ x3 ∧ x3 ≤ 1200 from (by omega))
  · refine ⟨⟨m_inR (by omega) (by omega), m_inR (by omega) (by omega)⟩, fun c1 => ?_, fun c1 => ?_⟩
    · refine ⟨m_inR (by omega) (by omega), fun c2 => ?_, fun c2 => ?_⟩
      · refine ih5 x3 (x4 + 1) (.inl (0, 0)) d hS (by omega) (by omega) (by omega) (by omega) ?_
        intro e
        have y0 : st_231_5 x0 x1 x2 r5 x3 x4 d = r5 x3 (x4 + 1) d := by simp only [st_231_5, if_pos (show x4 < d (x0 + 1) 9 from c0), if_pos (show x4 = x1 from c1), if_pos (show (0 : Int) = 0 from c2)]
        rw [y0] at h
        exact h e
      · exact (show False by omega).elim
    · refine k_179 hS ?_
      refine t_231_32 ?_
      have q2 := mt_0 hS hx0 x4 ((452 + (24 * x4)) + 0) (by omega) (by omega)
      refine ⟨by omega, ⟨m_inR (by omega) (by omega), m_inR (by omega) (by omega)⟩, fun c2 => ?_, fun c2 => ?_⟩
      · refine ⟨m_inR (by omega) (by omega), fun c3 => ?_, fun c3 => ?_⟩
        · refine ih5 x3 (x4 + 1) (.inl (0, 0)) d hS (by omega) (by omega) (by omega) (by omega) ?_
          intro e
          have y0 : st_231_5 x0 x1 x2 r5 x3 x4 d = r5 x3 (x4 + 1) d := by simp only [st_231_5, if_pos (show x4 < d (x0 + 1) 9 from c0), if_neg (show ¬ x4 = x1 from c1), if_neg (show ¬ d (x0 + 1) ((452 + (24 * x4)) + 0) = x2 from c2), if_pos (show (0 : Int) = 0 from c3)]
          rw [y0] at h
          exact h e
        · exact (show False by omega).elim
      · refine k_179 hS ?_
        refine t_231_48 ?_
        refine ⟨by omega, ?_⟩
        refine k_179 hS ?_
        refine t_231_59 ?_
        have q3 := mt_1 hS hx0 x4 ((452 + (24 * x4)) + 1) (by omega) (by omega)
        have q4 := mt_1 hS hx0 x1 ((452 + (24 * x1)) + 1) (by omega) (by omega)
        refine ⟨by omega, ⟨m_inR (by omega) (by omega), m_inR (by omega) (by omega)⟩, fun c3 => ?_, fun c3 => ?_⟩
        · refine ⟨m_inR (by omega) (by omega), fun c4 => ?_, fun c4 => ?_⟩
          · refine ih5 x3 (x4 + 1) (.inl (0, 0)) d hS (by omega) (by omega) (by omega) (by omega) ?_
            intro e
            have y0 : st_231_5 x0 x1 x2 r5 x3 x4 d = r5 x3 (x4 + 1) d := by simp only [st_231_5, if_pos (show x4 < d (x0 + 1) 9 from c0), if_neg (show ¬ x4 = x1 from c1), if_pos (show d (x0 + 1) ((452 + (24 * x4)) + 0) = x2 from c2), if_neg (show ¬ d (x0 + 1) ((452 + (24 * x4)) + 1) = d (x0 + 1) ((452 + (24 * x1)) + 1) from c3), if_pos (show (0 : Int) = 0 from c4)]
            rw [y0] at h
            exact h e
          · exact (show False by omega).elim
        · refine ⟨m_inR (by omega) (by omega), fun c4 => ?_, fun c4 => ?_⟩
          · exact (show False by omega).elim
          · refine k_230 hS hx0 (by omega) (by omega) (fun e1 => ?_)
            refine t_231_84 ?_
            refine ⟨⟨m_inR (by omega) (by omega), m_inR (by omega) (by omega)⟩, fun c5 => ?_, fun c5 => ?_⟩
            · refine ih5 x3 (x4 + 1) (.inl (0, 1)) d hS (by omega) (by omega) (by omega) (by omega) ?_
              intro e
              have y0 : st_231_5 x0 x1 x2 r5 x3 x4 d = r5 x3 (x4 + 1) d := by simp only [st_231_5, if_pos (show x4 < d (x0 + 1) 9 from c0), if_neg (show ¬ x4 = x1 from c1), if_pos (show d (x0 + 1) ((452 + (24 * x4)) + 0) = x2 from c2), if_pos (show d (x0 + 1) ((452 + (24 * x4)) + 1) = d (x0 + 1) ((452 + (24 * x1)) + 1) from c3), if_neg (show ¬ (1 : Int) = 0 from c4), if_neg (show ¬ x3 < v_230 x0 x1 x4 d from Int.not_lt.mpr c5)]
              rw [y0] at h
              exact h e
            · refine k_230 hS hx0 (by omega) (by omega) (fun e2 => ?_)
              refine t_231_95 ?_
              refine ih5 (v_230 x0 x1 x4 d) (x4 + 1) (.inl (0, 1)) d hS (by omega) (by omega) (by omega) (by omega) ?_
              intro e
              have y0 : st_231_5 x0 x1 x2 r5 x3 x4 d = r5 (v_230 x0 x1 x4 d) (x4 + 1) d := by simp only [st_231_5, if_pos (show x4 < d (x0 + 1) 9 from c0), if_neg (show ¬ x4 = x1 from c1), if_pos (show d (x0 + 1) ((452 + (24 * x4)) + 0) = x2 from c2), if_pos (show d (x0 + 1) ((452 + (24 * x4)) + 1) = d (x0 + 1) ((452 + (24 * x1)) + 1) from c3), if_neg (show ¬ (1 : Int) = 0 from c4), if_pos (show x3 < v_230 x0 x1 x4 d from c5)]
              rw [y0] at h
              exact h e
theorem l_231_5 {E : mO × tW} {K : tK} {x0 x1 x2 : Int} (hx0 : mdB x0) (p1 : 0 ≤ x1 ∧ x1 ≤ 60) (p2 : -2147483648 ≤ x2 ∧ x2 ≤ 2147483647) : ∀ (n : Nat) (x3 x4 : Int) (v5 : tV) (d : mD), Safe d → (0 ≤ x4 ∧ x4 ≤ 61) → (0 ≤ x3 ∧ x3 ≤ 1200) → 61 - x4 ≤ (n : Int) → ((0 ≤ (lp_231_5 x0 x1 x2 n x3 x4 d) ∧ (lp_231_5 x0 x1 x2 n x3 x4 d) ≤ 1200) → K (.inl (some (0, (lp_231_5 x0 x1 x2 n x3 x4 d)))) d) → tRun E 231 (5, [.inr (11, x0), .inl (0, x1), .inl (0, x2), .inl (0, x3), .inl (0, x4), v5], [], 0, 0, d) K := by
  intro n
  induction n with
  | zero =>
    intro x3 x4 v5 d hS i0 i1 hm  h
    exact ls_231_5 hx0 p1 p2 0 _ (fun _ _ _ _ _ _ _ m0 m1 _ => absurd m1 (by omega)) x3 x4 v5 d hS i0 i1 hm  h
  | succ n ih =>
    intro x3 x4 v5 d hS i0 i1 hm  h
    exact ls_231_5 hx0 p1 p2 ((n + 1 : Nat) : Int) _ (fun x3 x4 v5 d hS i0 i1  m0 m1 h => ih x3 x4 v5 d hS i0 i1 (by omega)  h) x3 x4 v5 d hS i0 i1 hm  h
def v_231 (x0 x1 x2 : Int) (d : mD) : Int := lp_231_5 x0 x1 x2 (61 - 0 : Int).toNat 0 0 d
theorem k_231 {E : mO × tW} {K : tK} {d : mD} {x0 x1 x2 : Int} (hS : Safe d) (hx0 : mdB x0) (p1 : 0 ≤ x1 ∧ x1 ≤ 60) (p2 : -2147483648 ≤ x2 ∧ x2 ≤ 2147483647) (h : (0 ≤ (v_231 x0 x1 x2 d) ∧ (v_231 x0 x1 x2 d) ≤ 1200) → K (.inl (some (0, (v_231 x0 x1 x2 d)))) d) : tCall E 231 [.inr (11, x0), .inl (0, x1), .inl (0, x2)] d K := by
  refine t_231_0 ?_
  refine l_231_5 hx0 p1 p2 (61 - 0 : Int).toNat 0 0 tu d hS (by omega) (by omega) (by omega) ?_
  intro e
  have y0 : v_231 x0 x1 x2 d = lp_231_5 x0 x1 x2 (61 - 0 : Int).toNat 0 0 d := by simp only [v_231]
  rw [y0] at h
  exact h e
def v_232 (x0 x1 x2 : Int) (d : mD) : Int := if (0 : Int) < d (x0 + 1) (((452 + (24 * x1)) + 8) + x2) then (if ((d (x0 + 1) (((452 + (24 * x1)) + 8) + x2)) - 1) / 20 = (d (x0 + 1) 0) / 20 then 1 else 0) else 0
theorem k_232 {E : mO × tW} {K : tK} {d : mD} {x0 x1 x2 : Int} (hS : Safe d) (hx0 : mdB x0) (p1 : 0 ≤ x1 ∧ x1 ≤ 60) (p2 : 0 ≤ x2 ∧ x2 ≤ 15) (h : (0 ≤ (v_232 x0 x1 x2 d) ∧ (v_232 x0 x1 x2 d) ≤ 1) → K (.inl (some (0, (v_232 x0 x1 x2 d)))) d) : tCall E 232 [.inr (11, x0), .inl (0, x1), .inl (0, x2)] d K := by
  refine t_232_0 ?_
  refine k_179 hS ?_
  refine t_232_8 ?_
  have q1 := mt_w hS hx0 x1 x2 (((452 + (24 * x1)) + 8) + x2) (by omega) (by omega) (by omega)
  refine ⟨by omega, m_inR (by omega) (by omega), fun c0 => ?_, fun c0 => ?_⟩
  · refine ⟨by omega, ?_⟩
    have y0 : v_232 x0 x1 x2 d = 0 := by simp only [v_232, if_neg (show ¬ (0 : Int) < d (x0 + 1) (((452 + (24 * x1)) + 8) + x2) from Int.not_lt.mpr c0)]
    rw [y0] at h
    exact h (show 0 ≤ ((0 : Int)) ∧ ((0 : Int)) ≤ 1 from (by omega))
  · have q2 := mh_0 hS hx0 _ rfl
    refine ⟨by omega, by omega, by omega, ⟨m_inR (by omega) (by omega), m_inR (by omega) (by omega)⟩, fun c1 => ?_, fun c1 => ?_⟩
    · refine ⟨by omega, ?_⟩
      have y0 : v_232 x0 x1 x2 d = 0 := by simp only [v_232, if_pos (show (0 : Int) < d (x0 + 1) (((452 + (24 * x1)) + 8) + x2) from c0), if_neg (show ¬ ((d (x0 + 1) (((452 + (24 * x1)) + 8) + x2)) - 1) / 20 = (d (x0 + 1) 0) / 20 from c1)]
      rw [y0] at h
      exact h (show 0 ≤ ((0 : Int)) ∧ ((0 : Int)) ≤ 1 from (by omega))
    · refine ⟨by omega, ?_⟩
      have y0 : v_232 x0 x1 x2 d = 1 := by simp only [v_232, if_pos (show (0 : Int) < d (x0 + 1) (((452 + (24 * x1)) + 8) + x2) from c0), if_pos (show ((d (x0 + 1) (((452 + (24 * x1)) + 8) + x2)) - 1) / 20 = (d (x0 + 1) 0) / 20 from c1)]
      rw [y0] at h
      exact h (show 0 ≤ ((1 : Int)) ∧ ((1 : Int)) ≤ 1 from (by omega))
def st_233_4 (x0 x1 : Int) (r4 : Int → Int → mD → Int) (x2 x3 : Int) (d : mD) : Int := if x3 < d (x0 + 1) 9 then (if v_232 x0 x3 x1 d = 0 then r4 (x2 + 0) (x3 + 1) d else r4 (x2 + 1) (x3 + 1) d) else x2
def lp_233_4 (x0 x1 : Int) : Nat → Int → Int → mD → Int
  | 0 => st_233_4 x0 x1 (fun _ _ d => 0)
  | n + 1 => st_233_4 x0 x1 (lp_233_4 x0 x1 n)
theorem ls_233_4 {E : mO × tW} {K : tK} {x0 x1 : Int} (hx0 : mdB x0) (p1 : 0 ≤ x1 ∧ x1 ≤ 15) (N4 : Int) (r4 : Int → Int → mD → Int) (ih4 : ∀ (x2 x3 : Int) (d : mD), Safe d → (0 ≤ x3 ∧ x3 ≤ 61) → (0 ≤ x2 ∧ x2 ≤ x3) → 0 ≤ 61 - x3 → 61 - x3 < N4 → ((0 ≤ (r4 x2 x3 d) ∧ (r4 x2 x3 d) ≤ 61) → K (.inl (some (0, (r4 x2 x3 d)))) d) → tRun E 233 (4, [.inr (11, x0), .inl (0, x1), .inl (0, x2), .inl (0, x3)], [], 0, 0, d) K) (x2 x3 : Int) (d : mD) (hS : Safe d) (i0 : 0 ≤ x3 ∧ x3 ≤ 61) (i1 : 0 ≤ x2 ∧ x2 ≤ x3) (hm : 61 - x3 ≤ N4) (h : (0 ≤ (st_233_4 x0 x1 r4 x2 x3 d) ∧ (st_233_4 x0 x1 r4 x2 x3 d) ≤ 61) → K (.inl (some (0, (st_233_4 x0 x1 r4 x2 x3 d)))) d) : tRun E 233 (4, [.inr (11, x0), .inl (0, x1), .inl (0, x2), .inl (0, x3)], [], 0, 0, d) K := by
  refine t_233_4 ?_
  have q1 := mh_9 hS hx0 _ rfl
  refine ⟨by omega, ⟨m_inR (by omega) (by omega), m_inR (by omega) (by omega)⟩, fun c0 => ?_, fun c0 => ?_⟩
  · have y0 : st_233_4 x0 x1 r4 x2 x3 d = x2 := by simp only [st_233_4, if_neg (show ¬ x3 < d (x0 + 1) 9 from Int.not_lt.mpr c0)]
    rw [y0] at h
    exact h (show 0 ≤ x2 ∧ x2 ≤ 61 from (by omega))
  · refine k_232 hS hx0 (by omega) (by omega) (fun e1 => ?_)
    refine t_233_22 ?_
    refine ⟨m_inR (by omega) (by omega), fun c1 => ?_, fun c1 => ?_⟩
    · refine ih4 (x2 + 0) (x3 + 1)  d hS (by omega) (by omega) (by omega) (by omega) ?_
      intro e
      have y0 : st_233_4 x0 x1 r4 x2 x3 d = r4 (x2 + 0) (x3 + 1) d := by simp only [st_233_4, if_pos (show x3 < d (x0 + 1) 9 from c0), if_pos (show v_232 x0 x3 x1 d = 0 from c1)]
      rw [y0] at h
      exact h e
    · refine ih4 (x2 + 1) (x3 + 1)  d hS (by omega) (by omega) (by omega) (by omega) ?_
      intro e
      have y0 : st_233_4 x0 x1 r4 x2 x3 d = r4 (x2 + 1) (x3 + 1) d := by simp only [st_233_4, if_pos (show x3 < d (x0 + 1) 9 from c0), if_neg (show ¬ v_232 x0 x3 x1 d = 0 from c1)]
      rw [y0] at h
      exact h e
theorem l_233_4 {E : mO × tW} {K : tK} {x0 x1 : Int} (hx0 : mdB x0) (p1 : 0 ≤ x1 ∧ x1 ≤ 15) : ∀ (n : Nat) (x2 x3 : Int) (d : mD), Safe d → (0 ≤ x3 ∧ x3 ≤ 61) → (0 ≤ x2 ∧ x2 ≤ x3) → 61 - x3 ≤ (n : Int) → ((0 ≤ (lp_233_4 x0 x1 n x2 x3 d) ∧ (lp_233_4 x0 x1 n x2 x3 d) ≤ 61) → K (.inl (some (0, (lp_233_4 x0 x1 n x2 x3 d)))) d) → tRun E 233 (4, [.inr (11, x0), .inl (0, x1), .inl (0, x2), .inl (0, x3)], [], 0, 0, d) K := by
  intro n
  induction n with
  | zero =>
    intro x2 x3  d hS i0 i1 hm  h
    exact ls_233_4 hx0 p1 0 _ (fun _ _  _ _ _ _ m0 m1 _ => absurd m1 (by omega)) x2 x3  d hS i0 i1 hm  h
  | succ n ih =>
    intro x2 x3  d hS i0 i1 hm  h
    exact ls_233_4 hx0 p1 ((n + 1 : Nat) : Int) _ (fun x2 x3  d hS i0 i1  m0 m1 h => ih x2 x3  d hS i0 i1 (by omega)  h) x2 x3  d hS i0 i1 hm  h
def v_233 (x0 x1 : Int) (d : mD) : Int := lp_233_4 x0 x1 (61 - 0 : Int).toNat 0 0 d
theorem k_233 {E : mO × tW} {K : tK} {d : mD} {x0 x1 : Int} (hS : Safe d) (hx0 : mdB x0) (p1 : 0 ≤ x1 ∧ x1 ≤ 15) (h : (0 ≤ (v_233 x0 x1 d) ∧ (v_233 x0 x1 d) ≤ 61) → K (.inl (some (0, (v_233 x0 x1 d)))) d) : tCall E 233 [.inr (11, x0), .inl (0, x1)] d K := by
  refine t_233_0 ?_
  refine l_233_4 hx0 p1 (61 - 0 : Int).toNat 0 0  d hS (by omega) (by omega) (by omega) ?_
  intro e
  have y0 : v_233 x0 x1 d = lp_233_4 x0 x1 (61 - 0 : Int).toNat 0 0 d := by simp only [v_233]
  rw [y0] at h
  exact h e
