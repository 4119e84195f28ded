/-! ===== contracts of the methods: printed by a program of mine ===== -/
def st_134_10 (x0 x1 x2 : Int) (r10 : Int → Int → mD → Int) (x3 x4 : Int) (d : mD) : Int := if x4 < d (x0 + 1 + 10) 0 then (if v_77 (x0 + 1) x1 x4 d = 0 then (if x3 = x2 then x4 else r10 (x3 + 1) (x4 + 1) d) else r10 x3 (x4 + 1) d) else (-103)
def lp_134_10 (x0 x1 x2 : Int) : Nat → Int → Int → mD → Int
  | 0 => st_134_10 x0 x1 x2 (fun _ _ d => 0)
  | n + 1 => st_134_10 x0 x1 x2 (lp_134_10 x0 x1 x2 n)
theorem ls_134_10 {E : mO × tW} {K : tK} {x0 x1 x2 : Int} (hx0 : wbB x0) (p1 : -2147483648 ≤ x1 ∧ x1 ≤ 2147483647) (p2 : -2147483648 ≤ x2 ∧ x2 ≤ 2147483647) (N10 : Int) (r10 : Int → Int → mD → Int) (ih10 : ∀ (x3 x4 : Int) (d : mD), Safe d → (0 ≤ x4 ∧ x4 ≤ 16) → (0 ≤ x1 ∧ x1 ≤ 59) → (0 ≤ x3 ∧ x3 ≤ x4) → 0 ≤ 16 - x4 → 16 - x4 < N10 → ((0 ≤ (r10 x3 x4 d) → (0 ≤ (r10 x3 x4 d) ∧ (r10 x3 x4 d) ≤ 15) → K (.inl (some (0, (r10 x3 x4 d)))) d) ∧ ((r10 x3 x4 d) = -103 → K (.inr 3) d)) → tRun E 134 (10, [.inr (10, x0), .inl (0, x1), .inl (0, x2), .inl (0, x3), .inl (0, x4)], [], 1, 6, d) K) (x3 x4 : Int) (d : mD) (hS : Safe d) (i0 : 0 ≤ x4 ∧ x4 ≤ 16) (i1 : 0 ≤ x1 ∧ x1 ≤ 59) (i2 : 0 ≤ x3 ∧ x3 ≤ x4) (hm : 16 - x4 ≤ N10) (h : (0 ≤ (st_134_10 x0 x1 x2 r10 x3 x4 d) → (0 ≤ (st_134_10 x0 x1 x2 r10 x3 x4 d) ∧ (st_134_10 x0 x1 x2 r10 x3 x4 d) ≤ 15) → K (.inl (some (0, (st_134_10 x0 x1 x2 r10 x3 x4 d)))) d) ∧ ((st_134_10 x0 x1 x2 r10 x3 x4 d) = -103 → K (.inr 3) d)) : tRun E 134 (10, [.inr (10, x0), .inl (0, x1), .inl (0, x2), .inl (0, x3), .inl (0, x4)], [], 1, 6, d) K := by
  refine t_134_10 ?_
  have q1 := r_4_f0 hS (stB.pe (wbB.nw hx0))
  refine ⟨⟨m_inR (by omega) (by omega), m_inR (by omega) (by omega)⟩, fun c0 => ?_, fun c0 => ?_⟩
  · have y0 : st_134_10 x0 x1 x2 r10 x3 x4 d = (-103) := by simp only [st_134_10, if_neg (show ¬ x4 < d (x0 + 1 + 10) 0 from Int.not_lt.mpr c0)]
    rw [y0] at h
    exact h.2 rfl
  · refine k_77 hS (wbB.nw hx0) (by omega) (by omega) (fun e1 => ?_)
    refine t_134_35 ?_
    refine ⟨m_inR (by omega) (by omega), fun c1 => ?_, fun c1 => ?_⟩
    · refine ih10 x3 (x4 + 1)  d hS (by omega) (by omega) (by omega) (by omega) (by omega) ?_
      have y0 : st_134_10 x0 x1 x2 r10 x3 x4 d = r10 x3 (x4 + 1) d := by simp only [st_134_10, if_pos (show x4 < d (x0 + 1 + 10) 0 from c0), if_neg (show ¬ v_77 (x0 + 1) x1 x4 d = 0 from c1)]
      rw [y0] at h
      exact h
    · refine ⟨⟨m_inR (by omega) (by omega), m_inR (by omega) (by omega)⟩, fun c2 => ?_, fun c2 => ?_⟩
      · refine ih10 (x3 + 1) (x4 + 1)  d hS (by omega) (by omega) (by omega) (by omega) (by omega) ?_
        have y0 : st_134_10 x0 x1 x2 r10 x3 x4 d = r10 (x3 + 1) (x4 + 1) d := by simp only [st_134_10, if_pos (show x4 < d (x0 + 1 + 10) 0 from c0), if_pos (show v_77 (x0 + 1) x1 x4 d = 0 from c1), if_neg (show ¬ x3 = x2 from c2)]
        rw [y0] at h
        exact h
      · have y0 : st_134_10 x0 x1 x2 r10 x3 x4 d = x4 := by simp only [st_134_10, if_pos (show x4 < d (x0 + 1 + 10) 0 from c0), if_pos (show v_77 (x0 + 1) x1 x4 d = 0 from c1), if_pos (show x3 = x2 from c2)]
        rw [y0] at h
        exact h.1 (by omega) (show 0 ≤ x4 ∧ x4 ≤ 15 from (by omega))
theorem l_134_10 {E : mO × tW} {K : tK} {x0 x1 x2 : Int} (hx0 : wbB x0) (p1 : -2147483648 ≤ x1 ∧ x1 ≤ 2147483647) (p2 : -2147483648 ≤ x2 ∧ x2 ≤ 2147483647) : ∀ (n : Nat) (x3 x4 : Int) (d : mD), Safe d → (0 ≤ x4 ∧ x4 ≤ 16) → (0 ≤ x1 ∧ x1 ≤ 59) → (0 ≤ x3 ∧ x3 ≤ x4) → 16 - x4 ≤ (n : Int) → ((0 ≤ (lp_134_10 x0 x1 x2 n x3 x4 d) → (0 ≤ (lp_134_10 x0 x1 x2 n x3 x4 d) ∧ (lp_134_10 x0 x1 x2 n x3 x4 d) ≤ 15) → K (.inl (some (0, (lp_134_10 x0 x1 x2 n x3 x4 d)))) d) ∧ ((lp_134_10 x0 x1 x2 n x3 x4 d) = -103 → K (.inr 3) d)) → tRun E 134 (10, [.inr (10, x0), .inl (0, x1), .inl (0, x2), .inl (0, x3), .inl (0, x4)], [], 1, 6, d) K := by
  intro n
  induction n with
  | zero =>
    intro x3 x4  d hS i0 i1 i2 hm  h
    exact ls_134_10 hx0 p1 p2 0 _ (fun _ _  _ _ _ _ _ m0 m1 _ => absurd m1 (by omega)) x3 x4  d hS i0 i1 i2 hm  h
  | succ n ih =>
    intro x3 x4  d hS i0 i1 i2 hm  h
    exact ls_134_10 hx0 p1 p2 ((n + 1 : Nat) : Int) _ (fun x3 x4  d hS i0 i1 i2  m0 m1 h => ih x3 x4  d hS i0 i1 i2 (by omega)  h) x3 x4  d hS i0 i1 i2 hm  h
theorem k_134 {E : mO × tW} {K : tK} {d : mD} {x0 x1 x2 : Int} (hS : Safe d) (hx0 : wbB x0) (p1 : -2147483648 ≤ x1 ∧ x1 ≤ 2147483647) (p2 : -2147483648 ≤ x2 ∧ x2 ≤ 2147483647) (h0 : (x1 < 0) → K (.inr 1) d) (h1 : (0 ≤ x1) → (x1 < d (x0 + 1 + 49) 0) → (0 ≤ (lp_134_10 x0 x1 x2 (16 - 0 : Int).toNat 0 0 d) → (0 ≤ (lp_134_10 x0 x1 x2 (16 - 0 : Int).toNat 0 0 d) ∧ (lp_134_10 x0 x1 x2 (16 - 0 : Int).toNat 0 0 d) ≤ 15) → K (.inl (some (0, (lp_134_10 x0 x1 x2 (16 - 0 : Int).toNat 0 0 d)))) d) ∧ ((lp_134_10 x0 x1 x2 (16 - 0 : Int).toNat 0 0 d) = -103 → K (.inr 3) d)) (h2 : (0 ≤ x1) → (d (x0 + 1 + 49) 0 ≤ x1) → K (.inr 1) d) : tCall E 134 [.inr (10, x0), .inl (0, x1), .inl (0, x2)] d K := by
  refine t_134_0 ?_
  have w0 : x0 = 0 := hx0
  have w2 := r_6_f2 hS (wbB.nw hx0)
  have w3 := r_3_f0 hS (stB.of (wbB.nw hx0))
  have w4 := r_4_f0 hS (stB.pe (wbB.nw hx0))
  have w5 := r_8_f0 hS (stB.ti (wbB.nw hx0))
  have w6 := r_9_f0 hS (stB.to (wbB.nw hx0))
  have w7 := r_7_f1 hS (wbB.tx hx0)
  refine k_167 hS hx0 (m_inR (by omega) (by omega)) (fun z0 => ?_) (fun z0 z1 => ?_) (fun z0 z1 => ?_)
  · exact h0 z0
  · refine t_134_5 ?_
    refine l_134_10 hx0 p1 p2 (16 - 0 : Int).toNat 0 0  d hS (by omega) (by omega) (by omega) (by omega) ?_
    exact h1 z0 z1
  · exact h2 z0 z1
def st_139_4 (x0 : Int) (r4 : Int → Int → mD → Int × mD) (x1 x2 : Int) (d : mD) : Int × mD := if x2 < d (x0 + 1 + 10) 0 then r4 (x1 + (v_9 (x0 + 574) (g_72 (x0 + 1) x2 (x0 + 574) d))) (x2 + 1) (g_72 (x0 + 1) x2 (x0 + 574) d) else if x1 = 0 then (0, d) else (mddiv (mi2d (d (x0 + 1 + 57) 0)) (mi2d x1), d)
def lp_139_4 (x0 : Int) : Nat → Int → Int → mD → Int × mD
  | 0 => st_139_4 x0 (fun _ _ d => (0, d))
  | n + 1 => st_139_4 x0 (lp_139_4 x0 n)
theorem ls_139_4 {E : mO × tW} {K : tK} {x0 : Int} (hx0 : wbB x0) (N4 : Int) (r4 : Int → Int → mD → Int × mD) (ih4 : ∀ (x1 x2 : Int) (d : mD), Safe d → (0 ≤ x2 ∧ x2 ≤ 16) → (0 ≤ x1 ∧ x1 ≤ 2032 * x2) → 0 ≤ 16 - x2 → 16 - x2 < N4 → ((∀ b : Int, (b < x0 + 575 ∨ x0 + 575 < b) → (r4 x1 x2 d).2 b = d b) → Safe (r4 x1 x2 d).2 → K (.inl (some (2, (r4 x1 x2 d).1))) (r4 x1 x2 d).2) → tRun E 139 (4, [.inr (10, x0), .inl (0, x1), .inl (0, x2)], [], 0, 0, d) K) (x1 x2 : Int) (d : mD) (hS : Safe d) (i0 : 0 ≤ x2 ∧ x2 ≤ 16) (i1 : 0 ≤ x1 ∧ x1 ≤ 2032 * x2) (hm : 16 - x2 ≤ N4) (h : (∀ b : Int, (b < x0 + 575 ∨ x0 + 575 < b) → (st_139_4 x0 r4 x1 x2 d).2 b = d b) → Safe (st_139_4 x0 r4 x1 x2 d).2 → K (.inl (some (2, (st_139_4 x0 r4 x1 x2 d).1))) (st_139_4 x0 r4 x1 x2 d).2) : tRun E 139 (4, [.inr (10, x0), .inl (0, x1), .inl (0, x2)], [], 0, 0, d) K := by
  refine t_139_4 ?_
  have q1 := r_4_f0 hS (stB.pe (wbB.nw hx0))
  refine ⟨⟨m_inR (by omega) (by omega), m_inR (by omega) (by omega)⟩, fun c0 => ?_, fun c0 => ?_⟩
  · refine ⟨m_inR (by omega) (by omega), fun c1 => ?_, fun c1 => ?_⟩
    · refine ⟨dd_ok (by omega), ?_⟩
      have y0 : st_139_4 x0 r4 x1 x2 d = (mddiv (mi2d (d (x0 + 1 + 57) 0)) (mi2d x1), d) := by simp only [st_139_4, if_neg (show ¬ x2 < d (x0 + 1 + 10) 0 from Int.not_lt.mpr c0), if_neg (show ¬ x1 = 0 from c1)]
      rw [y0] at h
      exact h (show ∀ b : Int, (b < x0 + 575 ∨ x0 + 575 < b) → d b = d b from fun _ _ => rfl) hS
    · have y0 : st_139_4 x0 r4 x1 x2 d = (0, d) := by simp only [st_139_4, if_neg (show ¬ x2 < d (x0 + 1 + 10) 0 from Int.not_lt.mpr c0), if_pos (show x1 = 0 from c1)]
      rw [y0] at h
      exact h (show ∀ b : Int, (b < x0 + 575 ∨ x0 + 575 < b) → d b = d b from fun _ _ => rfl) hS
  · refine k_72 hS (wbB.nw hx0) (wbB.lo hx0) (m_inR (by omega) (by omega)) (fun F1 hS1 => ?_)
    refine t_139_30 ?_
    refine k_9 hS1 (wbB.lo hx0) (fun e1 => ?_)
    refine t_139_38 ?_
    refine ih4 (x1 + (v_9 (x0 + 574) (g_72 (x0 + 1) x2 (x0 + 574) d))) (x2 + 1)  (g_72 (x0 + 1) x2 (x0 + 574) d) hS1 (by omega) (by omega) (by omega) (by omega) ?_
    intro F hS_
    have y0 : st_139_4 x0 r4 x1 x2 d = r4 (x1 + (v_9 (x0 + 574) (g_72 (x0 + 1) x2 (x0 + 574) d))) (x2 + 1) (g_72 (x0 + 1) x2 (x0 + 574) d) := by simp only [st_139_4, if_pos (show x2 < d (x0 + 1 + 10) 0 from c0)]
    rw [y0] at h
    exact h (fun b hb => (F b hb).trans ((show ∀ b : Int, (b < x0 + 575 ∨ x0 + 575 < b) → (g_72 (x0 + 1) x2 (x0 + 574) d) b = d b from fun b hb => F1 b (by omega)) b hb)) hS_
theorem l_139_4 {E : mO × tW} {K : tK} {x0 : Int} (hx0 : wbB x0) : ∀ (n : Nat) (x1 x2 : Int) (d : mD), Safe d → (0 ≤ x2 ∧ x2 ≤ 16) → (0 ≤ x1 ∧ x1 ≤ 2032 * x2) → 16 - x2 ≤ (n : Int) → ((∀ b : Int, (b < x0 + 575 ∨ x0 + 575 < b) → (lp_139_4 x0 n x1 x2 d).2 b = d b) → Safe (lp_139_4 x0 n x1 x2 d).2 → K (.inl (some (2, (lp_139_4 x0 n x1 x2 d).1))) (lp_139_4 x0 n x1 x2 d).2) → tRun E 139 (4, [.inr (10, x0), .inl (0, x1), .inl (0, x2)], [], 0, 0, d) K := by
  intro n
  induction n with
  | zero =>
    intro x1 x2  d hS i0 i1 hm  h
    exact ls_139_4 hx0 0 _ (fun _ _  _ _ _ _ m0 m1 _ => absurd m1 (by omega)) x1 x2  d hS i0 i1 hm  h
  | succ n ih =>
    intro x1 x2  d hS i0 i1 hm  h
    exact ls_139_4 hx0 ((n + 1 : Nat) : Int) _ (fun x1 x2  d hS i0 i1  m0 m1 h => ih x1 x2  d hS i0 i1 (by omega)  h) x1 x2  d hS i0 i1 hm  h
def f_139 (x0 : Int) (d : mD) : Int × mD := lp_139_4 x0 (16 - 0 : Int).toNat 0 0 d
def v_139 (x0 : Int) (d : mD) : Int := (f_139 x0 d).1
def g_139 (x0 : Int) (d : mD) : mD := (f_139 x0 d).2
theorem k_139 {E : mO × tW} {K : tK} {d : mD} {x0 : Int} (hS : Safe d) (hx0 : wbB x0) (h : (∀ b : Int, (b < x0 + 575 ∨ x0 + 575 < b) → (g_139 x0 d) b = d b) → Safe (g_139 x0 d) → K (.inl (some (2, (v_139 x0 d)))) (g_139 x0 d)) : tCall E 139 [.inr (10, x0)] d K := by
  simp only [v_139, g_139] at h
  refine t_139_0 ?_
  have w0 : x0 = 0 := hx0
  have w2 := r_6_f2 hS (wbB.nw hx0)
  have w3 := r_3_f0 hS (stB.of (wbB.nw hx0))
  have w4 := r_4_f0 hS (stB.pe (wbB.nw hx0))
  have w5 := r_8_f0 hS (stB.ti (wbB.nw hx0))
  have w6 := r_9_f0 hS (stB.to (wbB.nw hx0))
  have w7 := r_7_f1 hS (wbB.tx hx0)
  refine l_139_4 hx0 (16 - 0 : Int).toNat 0 0  d hS (by omega) (by omega) (by omega) ?_
  intro F hS_
  have y0 : f_139 x0 d = lp_139_4 x0 (16 - 0 : Int).toNat 0 0 d := by simp only [f_139]
  rw [y0] at h
  exact h F hS_
def st_140_6 (x0 : Int) (r6 : Int → Int → Int → mD → Int × mD) (x1 x2 x3 : Int) (d : mD) : Int × mD := if x3 < d (x0 + 1 + 10) 0 then (if x2 < v_9 (x0 + 574) (g_72 (x0 + 1) x3 (x0 + 574) d) then r6 x3 (v_9 (x0 + 574) (g_72 (x0 + 1) x3 (x0 + 574) d)) (x3 + 1) (g_72 (x0 + 1) x3 (x0 + 574) d) else r6 x1 x2 (x3 + 1) (g_72 (x0 + 1) x3 (x0 + 574) d)) else (x1, d)
def lp_140_6 (x0 : Int) : Nat → Int → Int → Int → mD → Int × mD
  | 0 => st_140_6 x0 (fun _ _ _ d => (0, d))
  | n + 1 => st_140_6 x0 (lp_140_6 x0 n)
theorem ls_140_6 {E : mO × tW} {K : tK} {x0 : Int} (hx0 : wbB x0) (N6 : Int) (r6 : Int → Int → Int → mD → Int × mD) (ih6 : ∀ (x1 x2 x3 : Int) (v4 : tV) (d : mD), Safe d → (0 ≤ x3 ∧ x3 ≤ 16) → (-1 ≤ x1 ∧ x1 ≤ 15) → (0 ≤ x2 ∧ x2 ≤ 2032) → 0 ≤ 16 - x3 → 16 - x3 < N6 → ((-1 ≤ (r6 x1 x2 x3 d).1 ∧ (r6 x1 x2 x3 d).1 ≤ 15) → (∀ b : Int, (b < x0 + 575 ∨ x0 + 575 < b) → (r6 x1 x2 x3 d).2 b = d b) → Safe (r6 x1 x2 x3 d).2 → K (.inl (some (0, (r6 x1 x2 x3 d).1))) (r6 x1 x2 x3 d).2) → tRun E 140 (6, [.inr (10, x0), .inl (0, x1), .inl (0, x2), .inl (0, x3), v4], [], 0, 0, d) K) (x1 x2 x3 : Int) (v4 : tV) (d : mD) (hS : Safe d) (i0 : 0 ≤ x3 ∧ x3 ≤ 16) (i1 : -1 ≤ x1 ∧ x1 ≤ 15) (i2 : 0 ≤ x2 ∧ x2 ≤ 2032) (hm : 16 - x3 ≤ N6) (h : (-1 ≤ (st_140_6 x0 r6 x1 x2 x3 d).1 ∧ (st_140_6 x0 r6 x1 x2 x3 d).1 ≤ 15) → (∀ b : Int, (b < x0 + 575 ∨ x0 + 575 < b) → (st_140_6 x0 r6 x1 x2 x3 d).2 b = d b) → Safe (st_140_6 x0 r6 x1 x2 x3 d).2 → K (.inl (some (0, (st_140_6 x0 r6 x1 x2 x3 d).1))) (st_140_6 x0 r6 x1 x2 x3 d).2) : tRun E 140 (6, [.inr (10, x0), .inl (0, x1), .inl (0, x2), .inl (0, x3), v4], [], 0, 0, d) K := by
  refine t_140_6 ?_
  have q1 := r_4_f0 hS (stB.pe (wbB.nw hx0))
  refine ⟨⟨m_inR (by omega) (by omega), m_inR (by omega) (by omega)⟩, fun c0 => ?_, fun c0 => ?_⟩
  · have y0 : st_140_6 x0 r6 x1 x2 x3 d = (x1, d) := by simp only [st_140_6, if_neg (show ¬ x3 < d (x0 + 1 + 10) 0 from Int.not_lt.mpr c0)]
    rw [y0] at h
    exact h (show -1 ≤ x1 ∧ x1 ≤ 15 from (by omega)) (show ∀ b : Int, (b < x0 + 575 ∨ x0 + 575 < b) → d b = d b from fun _ _ => rfl) hS
  · refine k_72 hS (wbB.nw hx0) (wbB.lo hx0) (m_inR (by omega) (by omega)) (fun F1 hS1 => ?_)
    refine t_140_32 ?_
    refine k_9 hS1 (wbB.lo hx0) (fun e1 => ?_)
    refine t_140_39 ?_
    refine ⟨⟨m_inR (by omega) (by omega), m_inR (by omega) (by omega)⟩, fun c1 => ?_, fun c1 => ?_⟩
    · refine ih6 x1 x2 (x3 + 1) (.inl (0, v_9 (x0 + 574) (g_72 (x0 + 1) x3 (x0 + 574) d))) (g_72 (x0 + 1) x3 (x0 + 574) d) hS1 (by omega) (by omega) (by omega) (by omega) (by omega) ?_
      intro e F hS_
      have y0 : st_140_6 x0 r6 x1 x2 x3 d = r6 x1 x2 (x3 + 1) (g_72 (x0 + 1) x3 (x0 + 574) d) := by simp only [st_140_6, if_pos (show x3 < d (x0 + 1 + 10) 0 from c0), if_neg (show ¬ x2 < v_9 (x0 + 574) (g_72 (x0 + 1) x3 (x0 + 574) d) from Int.not_lt.mpr c1)]
      rw [y0] at h
      exact h e (fun b hb => (F b hb).trans ((show ∀ b : Int, (b < x0 + 575 ∨ x0 + 575 < b) → (g_72 (x0 + 1) x3 (x0 + 574) d) b = d b from fun b hb => F1 b (by omega)) b hb)) hS_
    · refine ih6 x3 (v_9 (x0 + 574) (g_72 (x0 + 1) x3 (x0 + 574) d)) (x3 + 1) (.inl (0, v_9 (x0 + 574) (g_72 (x0 + 1) x3 (x0 + 574) d))) (g_72 (x0 + 1) x3 (x0 + 574) d) hS1 (by omega) (by omega) (by omega) (by omega) (by omega) ?_
      intro e F hS_
      have y0 : st_140_6 x0 r6 x1 x2 x3 d = r6 x3 (v_9 (x0 + 574) (g_72 (x0 + 1) x3 (x0 + 574) d)) (x3 + 1) (g_72 (x0 + 1) x3 (x0 + 574) d) := by simp only [st_140_6, if_pos (show x3 < d (x0 + 1 + 10) 0 from c0), if_pos (show x2 < v_9 (x0 + 574) (g_72 (x0 + 1) x3 (x0 + 574) d) from c1)]
      rw [y0] at h
      exact h e (fun b hb => (F b hb).trans ((show ∀ b : Int, (b < x0 + 575 ∨ x0 + 575 < b) → (g_72 (x0 + 1) x3 (x0 + 574) d) b = d b from fun b hb => F1 b (by omega)) b hb)) hS_
theorem l_140_6 {E : mO × tW} {K : tK} {x0 : Int} (hx0 : wbB x0) : ∀ (n : Nat) (x1 x2 x3 : Int) (v4 : tV) (d : mD), Safe d → (0 ≤ x3 ∧ x3 ≤ 16) → (-1 ≤ x1 ∧ x1 ≤ 15) → (0 ≤ x2 ∧ x2 ≤ 2032) → 16 - x3 ≤ (n : Int) → ((-1 ≤ (lp_140_6 x0 n x1 x2 x3 d).1 ∧ (lp_140_6 x0 n x1 x2 x3 d).1 ≤ 15) → (∀ b : Int, (b < x0 + 575 ∨ x0 + 575 < b) → (lp_140_6 x0 n x1 x2 x3 d).2 b = d b) → Safe (lp_140_6 x0 n x1 x2 x3 d).2 → K (.inl (some (0, (lp_140_6 x0 n x1 x2 x3 d).1))) (lp_140_6 x0 n x1 x2 x3 d).2) → tRun E 140 (6, [.inr (10, x0), .inl (0, x1), .inl (0, x2), .inl (0, x3), v4], [], 0, 0, d) K := by
  intro n
  induction n with
  | zero =>
    intro x1 x2 x3 v4 d hS i0 i1 i2 hm  h
    exact ls_140_6 hx0 0 _ (fun _ _ _ _ _ _ _ _ _ m0 m1 _ => absurd m1 (by omega)) x1 x2 x3 v4 d hS i0 i1 i2 hm  h
  | succ n ih =>
    intro x1 x2 x3 v4 d hS i0 i1 i2 hm  h
    exact ls_140_6 hx0 ((n + 1 : Nat) : Int) _ (fun x1 x2 x3 v4 d hS i0 i1 i2  m0 m1 h => ih x1 x2 x3 v4 d hS i0 i1 i2 (by omega)  h) x1 x2 x3 v4 d hS i0 i1 i2 hm  h
def f_140 (x0 : Int) (d : mD) : Int × mD := lp_140_6 x0 (16 - 0 : Int).toNat ((-1)) 0 0 d
def v_140 (x0 : Int) (d : mD) : Int := (f_140 x0 d).1
def g_140 (x0 : Int) (d : mD) : mD := (f_140 x0 d).2
theorem k_140 {E : mO × tW} {K : tK} {d : mD} {x0 : Int} (hS : Safe d) (hx0 : wbB x0) (h : (-1 ≤ (v_140 x0 d) ∧ (v_140 x0 d) ≤ 15) → (∀ b : Int, (b < x0 + 575 ∨ x0 + 575 < b) → (g_140 x0 d) b = d b) → Safe (g_140 x0 d) → K (.inl (some (0, (v_140 x0 d)))) (g_140 x0 d)) : tCall E 140 [.inr (10, x0)] d K := by
  simp only [v_140, g_140] at h
  refine t_140_0 ?_
  have w0 : x0 = 0 := hx0
  have w2 := r_6_f2 hS (wbB.nw hx0)
  have w3 := r_3_f0 hS (stB.of (wbB.nw hx0))
  have w4 := r_4_f0 hS (stB.pe (wbB.nw hx0))
  have w5 := r_8_f0 hS (stB.ti (wbB.nw hx0))
  have w6 := r_9_f0 hS (stB.to (wbB.nw hx0))
  have w7 := r_7_f1 hS (wbB.tx hx0)
  refine l_140_6 hx0 (16 - 0 : Int).toNat ((-1)) 0 0 tu d hS (by omega) (by omega) (by omega) (by omega) ?_
  intro e F hS_
  have y0 : f_140 x0 d = lp_140_6 x0 (16 - 0 : Int).toNat ((-1)) 0 0 d := by simp only [f_140]
  rw [y0] at h
  exact h e F hS_
def st_146_8 (x0 : Int) (r8 : Int → Int → Int → mD → Int) (x1 x2 x3 : Int) (d : mD) : Int := if x3 < d (x0 + 1 + 2) 0 then (if v_173 x0 x3 d = (-1) then r8 x1 x2 (x3 + 1) d else if v_173 x0 x3 d < x2 then r8 x3 (v_173 x0 x3 d) (x3 + 1) d else r8 x1 x2 (x3 + 1) d) else if x1 = (-1) then (-103) else x1
def lp_146_8 (x0 : Int) : Nat → Int → Int → Int → mD → Int
  | 0 => st_146_8 x0 (fun _ _ _ d => 0)
  | n + 1 => st_146_8 x0 (lp_146_8 x0 n)
theorem ls_146_8 {E : mO × tW} {K : tK} {x0 : Int} (hx0 : wbB x0) (N8 : Int) (r8 : Int → Int → Int → mD → Int) (ih8 : ∀ (x1 x2 x3 : Int) (v4 : tV) (d : mD), Safe d → (0 ≤ x3 ∧ x3 ≤ 6) → (-1 ≤ x1 ∧ x1 ≤ 5) → (0 ≤ x2 ∧ x2 ≤ 201) → 0 ≤ 6 - x3 → 6 - x3 < N8 → ((0 ≤ (r8 x1 x2 x3 d) → (0 ≤ (r8 x1 x2 x3 d) ∧ (r8 x1 x2 x3 d) ≤ 5) → K (.inl (some (0, (r8 x1 x2 x3 d)))) d) ∧ ((r8 x1 x2 x3 d) = -103 → K (.inr 3) d)) → tRun E 146 (8, [.inr (10, x0), .inl (0, x1), .inl (0, x2), .inl (0, x3), v4], [], 0, 0, d) K) (x1 x2 x3 : Int) (v4 : tV) (d : mD) (hS : Safe d) (i0 : 0 ≤ x3 ∧ x3 ≤ 6) (i1 : -1 ≤ x1 ∧ x1 ≤ 5) (i2 : 0 ≤ x2 ∧ x2 ≤ 201) (hm : 6 - x3 ≤ N8) (h : (0 ≤ (st_146_8 x0 r8 x1 x2 x3 d) → (0 ≤ (st_146_8 x0 r8 x1 x2 x3 d) ∧ (st_146_8 x0 r8 x1 x2 x3 d) ≤ 5) → K (.inl (some (0, (st_146_8 x0 r8 x1 x2 x3 d)))) d) ∧ ((st_146_8 x0 r8 x1 x2 x3 d) = -103 → K (.inr 3) d)) : tRun E 146 (8, [.inr (10, x0), .inl (0, x1), .inl (0, x2), .inl (0, x3), v4], [], 0, 0, d) K := by
  refine t_146_8 ?_
  have q1 := r_3_f0 hS (stB.of (wbB.nw hx0))
  refine ⟨⟨m_inR (by omega) (by omega), m_inR (by omega) (by omega)⟩, fun c0 => ?_, fun c0 => ?_⟩
  · refine ⟨⟨m_inR (by omega) (by omega), m_inR (by omega) (by omega)⟩, fun c1 => ?_, fun c1 => ?_⟩
    · have y0 : st_146_8 x0 r8 x1 x2 x3 d = x1 := by simp only [st_146_8, if_neg (show ¬ x3 < d (x0 + 1 + 2) 0 from Int.not_lt.mpr c0), if_neg (show ¬ x1 = (-1) from c1)]
      rw [y0] at h
      exact h.1 (by omega) (show 0 ≤ x1 ∧ x1 ≤ 5 from (by omega))
    · have y0 : st_146_8 x0 r8 x1 x2 x3 d = (-103) := by simp only [st_146_8, if_neg (show ¬ x3 < d (x0 + 1 + 2) 0 from Int.not_lt.mpr c0), if_pos (show x1 = (-1) from c1)]
      rw [y0] at h
      exact h.2 rfl
  · refine k_173 hS hx0 (by omega) (fun e1 => ?_)
    refine t_146_27 ?_
    refine ⟨⟨m_inR (by omega) (by omega), m_inR (by omega) (by omega)⟩, fun c1 => ?_, fun c1 => ?_⟩
    · refine ih8 x1 x2 (x3 + 1) (.inl (0, v_173 x0 x3 d)) d hS (by omega) (by omega) (by omega) (by omega) (by omega) ?_
      have y0 : st_146_8 x0 r8 x1 x2 x3 d = r8 x1 x2 (x3 + 1) d := by simp only [st_146_8, if_pos (show x3 < d (x0 + 1 + 2) 0 from c0), if_pos (show v_173 x0 x3 d = (-1) from c1)]
      rw [y0] at h
      exact h
    · refine ⟨⟨m_inR (by omega) (by omega), m_inR (by omega) (by omega)⟩, fun c2 => ?_, fun c2 => ?_⟩
      · refine ih8 x1 x2 (x3 + 1) (.inl (0, v_173 x0 x3 d)) d hS (by omega) (by omega) (by omega) (by omega) (by omega) ?_
        have y0 : st_146_8 x0 r8 x1 x2 x3 d = r8 x1 x2 (x3 + 1) d := by simp only [st_146_8, if_pos (show x3 < d (x0 + 1 + 2) 0 from c0), if_neg (show ¬ v_173 x0 x3 d = (-1) from c1), if_neg (show ¬ v_173 x0 x3 d < x2 from Int.not_lt.mpr c2)]
        rw [y0] at h
        exact h
      · refine ih8 x3 (v_173 x0 x3 d) (x3 + 1) (.inl (0, v_173 x0 x3 d)) d hS (by omega) (by omega) (by omega) (by omega) (by omega) ?_
        have y0 : st_146_8 x0 r8 x1 x2 x3 d = r8 x3 (v_173 x0 x3 d) (x3 + 1) d := by simp only [st_146_8, if_pos (show x3 < d (x0 + 1 + 2) 0 from c0), if_neg (show ¬ v_173 x0 x3 d = (-1) from c1), if_pos (show v_173 x0 x3 d < x2 from c2)]
        rw [y0] at h
        exact h
theorem l_146_8 {E : mO × tW} {K : tK} {x0 : Int} (hx0 : wbB x0) : ∀ (n : Nat) (x1 x2 x3 : Int) (v4 : tV) (d : mD), Safe d → (0 ≤ x3 ∧ x3 ≤ 6) → (-1 ≤ x1 ∧ x1 ≤ 5) → (0 ≤ x2 ∧ x2 ≤ 201) → 6 - x3 ≤ (n : Int) → ((0 ≤ (lp_146_8 x0 n x1 x2 x3 d) → (0 ≤ (lp_146_8 x0 n x1 x2 x3 d) ∧ (lp_146_8 x0 n x1 x2 x3 d) ≤ 5) → K (.inl (some (0, (lp_146_8 x0 n x1 x2 x3 d)))) d) ∧ ((lp_146_8 x0 n x1 x2 x3 d) = -103 → K (.inr 3) d)) → tRun E 146 (8, [.inr (10, x0), .inl (0, x1), .inl (0, x2), .inl (0, x3), v4], [], 0, 0, d) K := by
  intro n
  induction n with
  | zero =>
    intro x1 x2 x3 v4 d hS i0 i1 i2 hm  h
    exact ls_146_8 hx0 0 _ (fun _ _ _ _ _ _ _ _ _ m0 m1 _ => absurd m1 (by omega)) x1 x2 x3 v4 d hS i0 i1 i2 hm  h
  | succ n ih =>
    intro x1 x2 x3 v4 d hS i0 i1 i2 hm  h
    exact ls_146_8 hx0 ((n + 1 : Nat) : Int) _ (fun x1 x2 x3 v4 d hS i0 i1 i2  m0 m1 h => ih x1 x2 x3 v4 d hS i0 i1 i2 (by omega)  h) x1 x2 x3 v4 d hS i0 i1 i2 hm  h
theorem k_146 {E : mO × tW} {K : tK} {d : mD} {x0 : Int} (hS : Safe d) (hx0 : wbB x0) (h0 : (0 ≤ (lp_146_8 x0 (6 - 0 : Int).toNat ((-1)) 201 0 d) → (0 ≤ (lp_146_8 x0 (6 - 0 : Int).toNat ((-1)) 201 0 d) ∧ (lp_146_8 x0 (6 - 0 : Int).toNat ((-1)) 201 0 d) ≤ 5) → K (.inl (some (0, (lp_146_8 x0 (6 - 0 : Int).toNat ((-1)) 201 0 d)))) d) ∧ ((lp_146_8 x0 (6 - 0 : Int).toNat ((-1)) 201 0 d) = -103 → K (.inr 3) d)) : tCall E 146 [.inr (10, x0)] d K := by
  refine t_146_0 ?_
  have w0 : x0 = 0 := hx0
  have w2 := r_6_f2 hS (wbB.nw hx0)
  have w3 := r_3_f0 hS (stB.of (wbB.nw hx0))
  have w4 := r_4_f0 hS (stB.pe (wbB.nw hx0))
  have w5 := r_8_f0 hS (stB.ti (wbB.nw hx0))
  have w6 := r_9_f0 hS (stB.to (wbB.nw hx0))
  have w7 := r_7_f1 hS (wbB.tx hx0)
  refine l_146_8 hx0 (6 - 0 : Int).toNat ((-1)) 201 0 tu d hS (by omega) (by omega) (by omega) (by omega) ?_
  exact h0 
def st_148_15 (x0 x1 : Int) (r15 : Int → mD → Int × mD) (x2 : Int) (d : mD) : Int × mD := if x2 < d (x0 + 1 + 2 + 6) x1 then (if (0 : Int) < x2 then r15 (x2 + 1) (g_89 (x0 + 572) (d (x0 + 1 + 49 + 3) (v_38 (x0 + 1 + 2) x1 x2 d)) (g_86 (x0 + 572) 64 (g_88 (x0 + 572) (d (x0 + 1 + 10 + 1) (d (x0 + 1 + 49 + 1) (v_38 (x0 + 1 + 2) x1 x2 d))) (g_86 (x0 + 572) 32 d)))) else r15 (x2 + 1) (g_89 (x0 + 572) (d (x0 + 1 + 49 + 3) (v_38 (x0 + 1 + 2) x1 x2 d)) (g_86 (x0 + 572) 64 (g_88 (x0 + 572) (d (x0 + 1 + 10 + 1) (d (x0 + 1 + 49 + 1) (v_38 (x0 + 1 + 2) x1 x2 d))) d)))) else if d (x0 + 1 + 2 + 5) x1 = 0 then ((g_86 (x0 + 572) 33 d) (x0 + 572) 1, g_86 (x0 + 572) 33 d) else (d (x0 + 572) 1, d)
def lp_148_15 (x0 x1 : Int) : Nat → Int → mD → Int × mD
  | 0 => st_148_15 x0 x1 (fun _ d => (0, d))
  | n + 1 => st_148_15 x0 x1 (lp_148_15 x0 x1 n)
theorem ls_148_15 {E : mO × tW} {K : tK} {x0 x1 : Int} (hx0 : wbB x0) (p1 : -2147483648 ≤ x1 ∧ x1 ≤ 2147483647) (N15 : Int) (r15 : Int → mD → Int × mD) (ih15 : ∀ (x2 : Int) (v3 : tV) (d : mD), Safe d → (0 ≤ x2 ∧ x2 ≤ 16) → (0 ≤ x1 ∧ x1 ≤ 5) → 0 ≤ 16 - x2 → 16 - x2 < N15 → ((0 ≤ (r15 x2 d).1 ∧ (r15 x2 d).1 ≤ 1000) → (∀ b : Int, (b < x0 + 572 ∨ x0 + 573 < b) → (r15 x2 d).2 b = d b) → Safe (r15 x2 d).2 → K (.inl (some (0, (r15 x2 d).1))) (r15 x2 d).2) → tRun E 148 (15, [.inr (10, x0), .inl (0, x1), .inl (0, x2), v3], [], 1, 6, d) K) (x2 : Int) (v3 : tV) (d : mD) (hS : Safe d) (i0 : 0 ≤ x2 ∧ x2 ≤ 16) (i1 : 0 ≤ x1 ∧ x1 ≤ 5) (hm : 16 - x2 ≤ N15) (h : (0 ≤ (st_148_15 x0 x1 r15 x2 d).1 ∧ (st_148_15 x0 x1 r15 x2 d).1 ≤ 1000) → (∀ b : Int, (b < x0 + 572 ∨ x0 + 573 < b) → (st_148_15 x0 x1 r15 x2 d).2 b = d b) → Safe (st_148_15 x0 x1 r15 x2 d).2 → K (.inl (some (0, (st_148_15 x0 x1 r15 x2 d).1))) (st_148_15 x0 x1 r15 x2 d).2) : tRun E 148 (15, [.inr (10, x0), .inl (0, x1), .inl (0, x2), v3], [], 1, 6, d) K := by
  refine t_148_15 ?_
  have q1 := r_3_6 hS (stB.of (wbB.nw hx0)) x1
  refine ⟨by omega, ⟨m_inR (by omega) (by omega), m_inR (by omega) (by omega)⟩, fun c0 => ?_, fun c0 => ?_⟩
  · have q2 := r_3_5 hS (stB.of (wbB.nw hx0)) x1
    refine ⟨by omega, m_inR (by omega) (by omega), fun c1 => ?_, fun c1 => ?_⟩
    · refine t_148_145 ?_
      have q3 := r_7_f1 hS (wbB.ou hx0)
      have y0 : st_148_15 x0 x1 r15 x2 d = (d (x0 + 572) 1, d) := by simp only [st_148_15, if_neg (show ¬ x2 < d (x0 + 1 + 2 + 6) x1 from Int.not_lt.mpr c0), if_neg (show ¬ d (x0 + 1 + 2 + 5) x1 = 0 from c1)]
      rw [y0] at h
      exact h (show 0 ≤ (d (x0 + 572) 1) ∧ (d (x0 + 572) 1) ≤ 1000 from (by omega)) (show ∀ b : Int, (b < x0 + 572 ∨ x0 + 573 < b) → d b = d b from fun _ _ => rfl) hS
    · refine k_86 hS (wbB.ou hx0) (fun F1 hS1 => ?_)
      refine t_148_145 ?_
      have q4 := r_7_f1 hS1 (wbB.ou hx0)
      have y0 : st_148_15 x0 x1 r15 x2 d = ((g_86 (x0 + 572) 33 d) (x0 + 572) 1, g_86 (x0 + 572) 33 d) := by simp only [st_148_15, if_neg (show ¬ x2 < d (x0 + 1 + 2 + 6) x1 from Int.not_lt.mpr c0), if_pos (show d (x0 + 1 + 2 + 5) x1 = 0 from c1)]
      rw [y0] at h
      exact h (show 0 ≤ ((g_86 (x0 + 572) 33 d) (x0 + 572) 1) ∧ ((g_86 (x0 + 572) 33 d) (x0 + 572) 1) ≤ 1000 from (by omega)) (show ∀ b : Int, (b < x0 + 572 ∨ x0 + 573 < b) → (g_86 (x0 + 572) 33 d) b = d b from fun b hb => F1 b (by omega)) hS1
  · refine k_38 hS (stB.of (wbB.nw hx0)) (by omega) (by omega) (fun e1 => ?_)
    refine t_148_43 ?_
    refine ⟨m_inR (by omega) (by omega), fun c1 => ?_, fun c1 => ?_⟩
    · refine t_148_57 ?_
      have q5 := r_8_1 hS (stB.ti (wbB.nw hx0)) (v_38 (x0 + 1 + 2) x1 x2 d)
      refine ⟨by omega, by omega, ?_⟩
      have q6 := r_4_1 hS (stB.pe (wbB.nw hx0)) (d (x0 + 1 + 49 + 1) (v_38 (x0 + 1 + 2) x1 x2 d))
      refine k_88 hS (wbB.ou hx0) (m_inR (by omega) (by omega)) (fun F2 hS2 => ?_)
      refine t_148_87 ?_
      refine k_86 hS2 (wbB.ou hx0) (fun F3 hS3 => ?_)
      refine t_148_96 ?_
      rw [F3 (x0 + 1 + 49 + 3) (by omega)]
      rw [F2 (x0 + 1 + 49 + 3) (by omega)]
      refine ⟨by omega, ?_⟩
      have q7 := r_8_3 hS (stB.ti (wbB.nw hx0)) (v_38 (x0 + 1 + 2) x1 x2 d)
      refine k_89 hS3 (wbB.ou hx0) (by omega) (fun F4 hS4 => ?_)
      refine t_148_115 ?_
      refine ih15 (x2 + 1) (.inl (0, v_38 (x0 + 1 + 2) x1 x2 d)) (g_89 (x0 + 572) (d (x0 + 1 + 49 + 3) (v_38 (x0 + 1 + 2) x1 x2 d)) (g_86 (x0 + 572) 64 (g_88 (x0 + 572) (d (x0 + 1 + 10 + 1) (d (x0 + 1 + 49 + 1) (v_38 (x0 + 1 + 2) x1 x2 d))) d))) hS4 (by omega) (by omega) (by omega) (by omega) ?_
      intro e F hS_
      have y0 : st_148_15 x0 x1 r15 x2 d = r15 (x2 + 1) (g_89 (x0 + 572) (d (x0 + 1 + 49 + 3) (v_38 (x0 + 1 + 2) x1 x2 d)) (g_86 (x0 + 572) 64 (g_88 (x0 + 572) (d (x0 + 1 + 10 + 1) (d (x0 + 1 + 49 + 1) (v_38 (x0 + 1 + 2) x1 x2 d))) d))) := by simp only [st_148_15, if_pos (show x2 < d (x0 + 1 + 2 + 6) x1 from c0), if_neg (show ¬ (0 : Int) < x2 from Int.not_lt.mpr c1)]
      rw [y0] at h
      exact h e (fun b hb => (F b hb).trans ((show ∀ b : Int, (b < x0 + 572 ∨ x0 + 573 < b) → (g_89 (x0 + 572) (d (x0 + 1 + 49 + 3) (v_38 (x0 + 1 + 2) x1 x2 d)) (g_86 (x0 + 572) 64 (g_88 (x0 + 572) (d (x0 + 1 + 10 + 1) (d (x0 + 1 + 49 + 1) (v_38 (x0 + 1 + 2) x1 x2 d))) d))) b = d b from fun b hb => (F4 b (by omega)).trans ((F3 b (by omega)).trans (F2 b (by omega)))) b hb)) hS_
    · refine k_86 hS (wbB.ou hx0) (fun F5 hS5 => ?_)
      refine t_148_57 ?_
      rw [F5 (x0 + 1 + 49 + 1) (by omega)]
      have q8 := r_8_1 hS (stB.ti (wbB.nw hx0)) (v_38 (x0 + 1 + 2) x1 x2 d)
      rw [F5 (x0 + 1 + 10 + 1) (by omega)]
      refine ⟨by omega, by omega, ?_⟩
      have q9 := r_4_1 hS (stB.pe (wbB.nw hx0)) (d (x0 + 1 + 49 + 1) (v_38 (x0 + 1 + 2) x1 x2 d))
      refine k_88 hS5 (wbB.ou hx0) (m_inR (by omega) (by omega)) (fun F6 hS6 => ?_)
      refine t_148_87 ?_
      refine k_86 hS6 (wbB.ou hx0) (fun F7 hS7 => ?_)
      refine t_148_96 ?_
      rw [F7 (x0 + 1 + 49 + 3) (by omega)]
      rw [F6 (x0 + 1 + 49 + 3) (by omega)]
      rw [F5 (x0 + 1 + 49 + 3) (by omega)]
      refine ⟨by omega, ?_⟩
      have q10 := r_8_3 hS (stB.ti (wbB.nw hx0)) (v_38 (x0 + 1 + 2) x1 x2 d)
      refine k_89 hS7 (wbB.ou hx0) (by omega) (fun F8 hS8 => ?_)
      refine t_148_115 ?_
      refine ih15 (x2 + 1) (.inl (0, v_38 (x0 + 1 + 2) x1 x2 d)) (g_89 (x0 + 572) (d (x0 + 1 + 49 + 3) (v_38 (x0 + 1 + 2) x1 x2 d)) (g_86 (x0 + 572) 64 (g_88 (x0 + 572) (d (x0 + 1 + 10 + 1) (d (x0 + 1 + 49 + 1) (v_38 (x0 + 1 + 2) x1 x2 d))) (g_86 (x0 + 572) 32 d)))) hS8 (by omega) (by omega) (by omega) (by omega) ?_
      intro e F hS_
      have y0 : st_148_15 x0 x1 r15 x2 d = r15 (x2 + 1) (g_89 (x0 + 572) (d (x0 + 1 + 49 + 3) (v_38 (x0 + 1 + 2) x1 x2 d)) (g_86 (x0 + 572) 64 (g_88 (x0 + 572) (d (x0 + 1 + 10 + 1) (d (x0 + 1 + 49 + 1) (v_38 (x0 + 1 + 2) x1 x2 d))) (g_86 (x0 + 572) 32 d)))) := by simp only [st_148_15, if_pos (show x2 < d (x0 + 1 + 2 + 6) x1 from c0), if_pos (show (0 : Int) < x2 from c1)]
      rw [y0] at h
      exact h e (fun b hb => (F b hb).trans ((show ∀ b : Int, (b < x0 + 572 ∨ x0 + 573 < b) → (g_89 (x0 + 572) (d (x0 + 1 + 49 + 3) (v_38 (x0 + 1 + 2) x1 x2 d)) (g_86 (x0 + 572) 64 (g_88 (x0 + 572) (d (x0 + 1 + 10 + 1) (d (x0 + 1 + 49 + 1) (v_38 (x0 + 1 + 2) x1 x2 d))) (g_86 (x0 + 572) 32 d)))) b = d b from fun b hb => (F8 b (by omega)).trans ((F7 b (by omega)).trans ((F6 b (by omega)).trans (F5 b (by omega))))) b hb)) hS_
theorem l_148_15 {E : mO × tW} {K : tK} {x0 x1 : Int} (hx0 : wbB x0) (p1 : -2147483648 ≤ x1 ∧ x1 ≤ 2147483647) : ∀ (n : Nat) (x2 : Int) (v3 : tV) (d : mD), Safe d → (0 ≤ x2 ∧ x2 ≤ 16) → (0 ≤ x1 ∧ x1 ≤ 5) → 16 - x2 ≤ (n : Int) → ((0 ≤ (lp_148_15 x0 x1 n x2 d).1 ∧ (lp_148_15 x0 x1 n x2 d).1 ≤ 1000) → (∀ b : Int, (b < x0 + 572 ∨ x0 + 573 < b) → (lp_148_15 x0 x1 n x2 d).2 b = d b) → Safe (lp_148_15 x0 x1 n x2 d).2 → K (.inl (some (0, (lp_148_15 x0 x1 n x2 d).1))) (lp_148_15 x0 x1 n x2 d).2) → tRun E 148 (15, [.inr (10, x0), .inl (0, x1), .inl (0, x2), v3], [], 1, 6, d) K := by
  intro n
  induction n with
  | zero =>
    intro x2 v3 d hS i0 i1 hm  h
    exact ls_148_15 hx0 p1 0 _ (fun _ _ _ _ _ _ m0 m1 _ => absurd m1 (by omega)) x2 v3 d hS i0 i1 hm  h
  | succ n ih =>
    intro x2 v3 d hS i0 i1 hm  h
    exact ls_148_15 hx0 p1 ((n + 1 : Nat) : Int) _ (fun x2 v3 d hS i0 i1  m0 m1 h => ih x2 v3 d hS i0 i1 (by omega)  h) x2 v3 d hS i0 i1 hm  h
theorem k_148 {E : mO × tW} {K : tK} {d : mD} {x0 x1 : Int} (hS : Safe d) (hx0 : wbB x0) (p1 : -2147483648 ≤ x1 ∧ x1 ≤ 2147483647) (h0 : (x1 < 0) → K (.inr 1) d) (h1 : (0 ≤ x1) → (x1 < d (x0 + 1 + 2) 0) → (0 ≤ (lp_148_15 x0 x1 (16 - 0 : Int).toNat 0 (mset d (x0 + 572) 1 0)).1 ∧ (lp_148_15 x0 x1 (16 - 0 : Int).toNat 0 (mset d (x0 + 572) 1 0)).1 ≤ 1000) → (∀ b : Int, (b < x0 + 572 ∨ x0 + 573 < b) → (lp_148_15 x0 x1 (16 - 0 : Int).toNat 0 (mset d (x0 + 572) 1 0)).2 b = d b) → Safe (lp_148_15 x0 x1 (16 - 0 : Int).toNat 0 (mset d (x0 + 572) 1 0)).2 → K (.inl (some (0, (lp_148_15 x0 x1 (16 - 0 : Int).toNat 0 (mset d (x0 + 572) 1 0)).1))) (lp_148_15 x0 x1 (16 - 0 : Int).toNat 0 (mset d (x0 + 572) 1 0)).2) (h2 : (0 ≤ x1) → (d (x0 + 1 + 2) 0 ≤ x1) → K (.inr 1) d) : tCall E 148 [.inr (10, x0), .inl (0, x1)] d K := by
  refine t_148_0 ?_
  have w0 : x0 = 0 := hx0
  have w2 := r_6_f2 hS (wbB.nw hx0)
  have w3 := r_3_f0 hS (stB.of (wbB.nw hx0))
  have w4 := r_4_f0 hS (stB.pe (wbB.nw hx0))
  have w5 := r_8_f0 hS (stB.ti (wbB.nw hx0))
  have w6 := r_9_f0 hS (stB.to (wbB.nw hx0))
  have w7 := r_7_f1 hS (wbB.tx hx0)
  refine k_165 hS hx0 (m_inR (by omega) (by omega)) (fun z0 => ?_) (fun z0 z1 => ?_) (fun z0 z1 => ?_)
  · exact h0 z0
  · refine t_148_5 ?_
    have hS9 : Safe (mset d (x0 + 572) 1 0) := s_7_f1 hS (wbB.ou hx0) (by omega)
    refine l_148_15 hx0 p1 (16 - 0 : Int).toNat 0 tu (mset d (x0 + 572) 1 0) hS9 (by omega) (by omega) (by omega) ?_
    intro e F hS_
    exact h1 z0 z1 e (fun b hb => (F b hb).trans ((show ∀ b : Int, (b < x0 + 572 ∨ x0 + 573 < b) → (mset d (x0 + 572) 1 0) b = d b from fun b hb => mset_ne (by omega)) b hb)) hS_
  · exact h2 z0 z1
/-! ===== contracts of the reference's methods: printed by a program of mine ===== -/
def v_175 (x0 : Int) (d : mD) : Int := d x0 0
theorem k_175 {E : mO × tW} {K : tK} {d : mD} {x0 : Int} (hS : Safe d) (hx0 : mdB x0) (h : (0 ≤ (v_175 x0 d) ∧ (v_175 x0 d) ≤ 3) → K (.inl (some (0, (v_175 x0 d)))) d) : tCall E 175 [.inr (11, x0)] d K := by
  refine t_175_0 ?_
  have q1 := r_11_f0 hS hx0
  have y0 : v_175 x0 d = d x0 0 := by simp only [v_175]
  rw [y0] at h
  exact h (show 0 ≤ (d x0 0) ∧ (d x0 0) ≤ 3 from (by omega))
def v_176 (x0 x2 x4 : Int) (d : mD) : Int := if mcmp x0 x2 < 0 then 0 else if (0 : Int) < mcmp x0 x4 then 0 else 1
theorem k_176 {E : mO × tW} {K : tK} {d : mD} {x0 x2 x4 : Int} (hS : Safe d) (p0 : -2147483648 ≤ x0 ∧ x0 ≤ 2147483647) (p1 : -2147483648 ≤ x2 ∧ x2 ≤ 2147483647) (p2 : -2147483648 ≤ x4 ∧ x4 ≤ 2147483647) (h : ((0 ≤ (v_176 x0 x2 x4 d) ∧ (v_176 x0 x2 x4 d) ≤ 1) ∧ ((v_176 x0 x2 x4 d) = 0 ∨ (x2 ≤ x0 ∧ x0 ≤ x4)) ∧ ((v_176 x0 x2 x4 d) = 1 ∨ x0 < x2 ∨ x4 < x0)) → K (.inl (some (0, (v_176 x0 x2 x4 d)))) d) : tCall E 176 [.inl (1, x0), .inl (1, x2), .inl (1, x4)] d K := by
  refine t_176_0 ?_
  have q1 := mcmp_r x0 x2
  refine ⟨⟨⟨by omega, by omega⟩, ⟨by omega, by omega⟩⟩, m_inR (by omega) (by omega), fun c0 => ?_, fun c0 => ?_⟩
  · refine ⟨by omega, ?_⟩
    have y0 : v_176 x0 x2 x4 d = 0 := by simp only [v_176, if_pos (show mcmp x0 x2 < 0 from c0)]
    rw [y0] at h
    exact h (show (0 ≤ ((0 : Int)) ∧ ((0 : Int)) ≤ 1) ∧ (((0 : Int)) = 0 ∨ (x2 ≤ x0 ∧ x0 ≤ x4)) ∧ (((0 : Int)) = 1 ∨ x0 < x2 ∨ x4 < x0) from (by omega))
  · have q2 := mcmp_r x0 x4
    refine ⟨⟨⟨by omega, by omega⟩, ⟨by omega, by omega⟩⟩, m_inR (by omega) (by omega), fun c1 => ?_, fun c1 => ?_⟩
    · refine ⟨by omega, ?_⟩
      have y0 : v_176 x0 x2 x4 d = 0 := by simp only [v_176, if_neg (show ¬ mcmp x0 x2 < 0 from Int.not_lt.mpr c0), if_pos (show (0 : Int) < mcmp x0 x4 from c1)]
      rw [y0] at h
      exact h (show (0 ≤ ((0 : Int)) ∧ ((0 : Int)) ≤ 1) ∧ (((0 : Int)) = 0 ∨ (x2 ≤ x0 ∧ x0 ≤ x4)) ∧ (((0 : Int)) = 1 ∨ x0 < x2 ∨ x4 < x0) from (by omega))
    · refine ⟨by omega, ?_⟩
      have y0 : v_176 x0 x2 x4 d = 1 := by simp only [v_176, if_neg (show ¬ mcmp x0 x2 < 0 from Int.not_lt.mpr c0), if_neg (show ¬ (0 : Int) < mcmp x0 x4 from Int.not_lt.mpr c1)]
      rw [y0] at h
      exact h (show (0 ≤ ((1 : Int)) ∧ ((1 : Int)) ≤ 1) ∧ (((1 : Int)) = 0 ∨ (x2 ≤ x0 ∧ x0 ≤ x4)) ∧ (((1 : Int)) = 1 ∨ x0 < x2 ∨ x4 < x0) from (by omega))
theorem k_177 {E : mO × tW} {K : tK} {d : mD} {x0 : Int} (hS : Safe d) (h : K (.inl (some (0, 12 + (68 * x0)))) d) : tCall E 177 [.inl (0, x0)] d K := t_177_0 h
theorem k_178 {E : mO × tW} {K : tK} {d : mD} {x0 : Int} (hS : Safe d) (h : K (.inl (some (0, 420 + (2 * x0)))) d) : tCall E 178 [.inl (0, x0)] d K := t_178_0 h
theorem k_179 {E : mO × tW} {K : tK} {d : mD} {x0 : Int} (hS : Safe d) (h : K (.inl (some (0, 452 + (24 * x0)))) d) : tCall E 179 [.inl (0, x0)] d K := t_179_0 h
theorem k_180 {E : mO × tW} {K : tK} {d : mD} {x0 : Int} (hS : Safe d) (h : K (.inl (some (0, 1916 + (5 * x0)))) d) : tCall E 180 [.inl (0, x0)] d K := t_180_0 h
def mpP (f : Int → Int) : Prop := ∀ o, 0 ≤ o → o < f 7 → 1 ≤ f (12 + 68 * o + 2)
theorem mpP.of {f g : Int → Int} (h7 : 0 ≤ g 7 ∧ g 7 ≤ 6) (Q : ∀ i : Int, i = 7 ∨ (12 ≤ i ∧ i < 420 ∧ (i - 12) % 68 = 2) → f i = g i) (h : mpP g) : mpP f := by
  intro o h0 h1
  rw [Q 7 (by omega)] at h1
  rw [Q _ (by omega)]
  exact h o h0 h1
theorem mpP.grow {f g : Int → Int} (h7 : f 7 = g 7 + 1) (hn : 1 ≤ f (12 + 68 * g 7 + 2)) (ho : ∀ o, 0 ≤ o → o < g 7 → f (12 + 68 * o + 2) = g (12 + 68 * o + 2)) (h : mpP g) : mpP f := by
  intro o h0 h1
  rw [h7] at h1
  by_cases e : o = g 7
  · subst e; exact hn
  · rw [ho o h0 (by omega)]; exact h o h0 (by omega)
def g_181 (x0 x1 x2 x3 x4 : Int) (d : mD) : mD := mset (mset (mset (mset (mset (mset d (x0 + 1) ((12 + (68 * (d (x0 + 1) 7))) + 0) x1) (x0 + 1) ((12 + (68 * (d (x0 + 1) 7))) + 1) x2) (x0 + 1) ((12 + (68 * (d (x0 + 1) 7))) + 2) x3) (x0 + 1) ((12 + (68 * (d (x0 + 1) 7))) + 3) x4) (x0 + 1) ((12 + (68 * (d (x0 + 1) 7))) + 4) 1) (x0 + 1) 7 ((d (x0 + 1) 7) + 1)
theorem k_181 {E : mO × tW} {K : tK} {d : mD} {x0 x1 x2 x3 x4 : Int} (hS : Safe d) (hx0 : mdB x0) (p1 : 0 ≤ x1 ∧ x1 ≤ 387420488) (p2 : 0 ≤ x2 ∧ x2 ≤ 4) (p3 : 0 ≤ x3 ∧ x3 ≤ 6) (p4 : 0 ≤ x4 ∧ x4 ≤ 20) (ho : d (x0 + 1) 7 ≤ 5) (hpc : 1 ≤ x3) (hmp : mpP (d (x0 + 1))) (h : (∀ b : Int, (b < x0 + 1 ∨ x0 + 1 < b) → (g_181 x0 x1 x2 x3 x4 d) b = d b) → (∀ i : Int, i = 0 ∨ (452 ≤ i ∧ i < 1916) → (g_181 x0 x1 x2 x3 x4 d) (x0 + 1) i = d (x0 + 1) i) → mpP ((g_181 x0 x1 x2 x3 x4 d) (x0 + 1)) → Safe (g_181 x0 x1 x2 x3 x4 d) → K (.inl none) (g_181 x0 x1 x2 x3 x4 d)) : tCall E 181 [.inr (11, x0), .inl (0, x1), .inl (0, x2), .inl (0, x3), .inl (0, x4)] d K := by
  refine t_181_0 ?_
  refine ⟨by omega, ?_⟩
  refine k_177 hS ?_
  refine t_181_10 ?_
  have q1 := mh_7 hS hx0 _ rfl
  refine ⟨by omega, ?_⟩
  have hS1 : Safe (mset d (x0 + 1) ((12 + (68 * (d (x0 + 1) 7))) + 0) x1) := smo_0 hS hx0 (d (x0 + 1) 7) ((12 + (68 * (d (x0 + 1) 7))) + 0) (by omega) (by omega) (by omega)
  refine ⟨by omega, ?_⟩
  have hS2 : Safe (mset (mset d (x0 + 1) ((12 + (68 * (d (x0 + 1) 7))) + 0) x1) (x0 + 1) ((12 + (68 * (d (x0 + 1) 7))) + 1) x2) := smo_1 hS1 hx0 (d (x0 + 1) 7) ((12 + (68 * (d (x0 + 1) 7))) + 1) (by omega) (by omega) (by omega)
  refine ⟨by omega, ?_⟩
  have hS3 : Safe (mset (mset (mset d (x0 + 1) ((12 + (68 * (d (x0 + 1) 7))) + 0) x1) (x0 + 1) ((12 + (68 * (d (x0 + 1) 7))) + 1) x2) (x0 + 1) ((12 + (68 * (d (x0 + 1) 7))) + 2) x3) := smo_2 hS2 hx0 (d (x0 + 1) 7) ((12 + (68 * (d (x0 + 1) 7))) + 2) (by omega) (by omega) (by omega)
  refine ⟨by omega, ?_⟩
  have hS4 : Safe (mset (mset (mset (mset d (x0 + 1) ((12 + (68 * (d (x0 + 1) 7))) + 0) x1) (x0 + 1) ((12 + (68 * (d (x0 + 1) 7))) + 1) x2) (x0 + 1) ((12 + (68 * (d (x0 + 1) 7))) + 2) x3) (x0 + 1) ((12 + (68 * (d (x0 + 1) 7))) + 3) x4) := smo_3 hS3 hx0 (d (x0 + 1) 7) ((12 + (68 * (d (x0 + 1) 7))) + 3) (by omega) (by omega) (by omega)
  refine ⟨by omega, ?_⟩
  have hS5 : Safe (mset (mset (mset (mset (mset d (x0 + 1) ((12 + (68 * (d (x0 + 1) 7))) + 0) x1) (x0 + 1) ((12 + (68 * (d (x0 + 1) 7))) + 1) x2) (x0 + 1) ((12 + (68 * (d (x0 + 1) 7))) + 2) x3) (x0 + 1) ((12 + (68 * (d (x0 + 1) 7))) + 3) x4) (x0 + 1) ((12 + (68 * (d (x0 + 1) 7))) + 4) 1) := smo_4 hS4 hx0 (d (x0 + 1) 7) ((12 + (68 * (d (x0 + 1) 7))) + 4) (by omega) (by omega) (by omega)
  rw [mset_ni (d := mset (mset (mset (mset d (x0 + 1) ((12 + (68 * (d (x0 + 1) 7))) + 0) x1) (x0 + 1) ((12 + (68 * (d (x0 + 1) 7))) + 1) x2) (x0 + 1) ((12 + (68 * (d (x0 + 1) 7))) + 2) x3) (x0 + 1) ((12 + (68 * (d (x0 + 1) 7))) + 3) x4) (a := x0 + 1) (i := (12 + (68 * (d (x0 + 1) 7))) + 4) (v := (1 : Int)) (b := x0 + 1) (j := (7 : Int)) (by omega)]
  rw [mset_ni (d := mset (mset (mset d (x0 + 1) ((12 + (68 * (d (x0 + 1) 7))) + 0) x1) (x0 + 1) ((12 + (68 * (d (x0 + 1) 7))) + 1) x2) (x0 + 1) ((12 + (68 * (d (x0 + 1) 7))) + 2) x3) (a := x0 + 1) (i := (12 + (68 * (d (x0 + 1) 7))) + 3) (v := x4) (b := x0 + 1) (j := (7 : Int)) (by omega)]
  rw [mset_ni (d := mset (mset d (x0 + 1) ((12 + (68 * (d (x0 + 1) 7))) + 0) x1) (x0 + 1) ((12 + (68 * (d (x0 + 1) 7))) + 1) x2) (a := x0 + 1) (i := (12 + (68 * (d (x0 + 1) 7))) + 2) (v := x3) (b := x0 + 1) (j := (7 : Int)) (by omega)]
  rw [mset_ni (d := mset d (x0 + 1) ((12 + (68 * (d (x0 + 1) 7))) + 0) x1) (a := x0 + 1) (i := (12 + (68 * (d (x0 + 1) 7))) + 1) (v := x2) (b := x0 + 1) (j := (7 : Int)) (by omega)]
  rw [mset_ni (d := d) (a := x0 + 1) (i := (12 + (68 * (d (x0 + 1) 7))) + 0) (v := x1) (b := x0 + 1) (j := (7 : Int)) (by omega)]
  refine ⟨by omega, by omega, ?_⟩
  have hS6 : Safe (mset (mset (mset (mset (mset (mset d (x0 + 1) ((12 + (68 * (d (x0 + 1) 7))) + 0) x1) (x0 + 1) ((12 + (68 * (d (x0 + 1) 7))) + 1) x2) (x0 + 1) ((12 + (68 * (d (x0 + 1) 7))) + 2) x3) (x0 + 1) ((12 + (68 * (d (x0 + 1) 7))) + 3) x4) (x0 + 1) ((12 + (68 * (d (x0 + 1) 7))) + 4) 1) (x0 + 1) 7 ((d (x0 + 1) 7) + 1)) := smh_7 hS5 hx0 _ rfl (by omega)
  have y0 : g_181 x0 x1 x2 x3 x4 d = mset (mset (mset (mset (mset (mset d (x0 + 1) ((12 + (68 * (d (x0 + 1) 7))) + 0) x1) (x0 + 1) ((12 + (68 * (d (x0 + 1) 7))) + 1) x2) (x0 + 1) ((12 + (68 * (d (x0 + 1) 7))) + 2) x3) (x0 + 1) ((12 + (68 * (d (x0 + 1) 7))) + 3) x4) (x0 + 1) ((12 + (68 * (d (x0 + 1) 7))) + 4) 1) (x0 + 1) 7 ((d (x0 + 1) 7) + 1) := by simp only [g_181]
  rw [y0] at h
  exact h (show ∀ b : Int, (b < x0 + 1 ∨ x0 + 1 < b) → (mset (mset (mset (mset (mset (mset d (x0 + 1) ((12 + (68 * (d (x0 + 1) 7))) + 0) x1) (x0 + 1) ((12 + (68 * (d (x0 + 1) 7))) + 1) x2) (x0 + 1) ((12 + (68 * (d (x0 + 1) 7))) + 2) x3) (x0 + 1) ((12 + (68 * (d (x0 + 1) 7))) + 3) x4) (x0 + 1) ((12 + (68 * (d (x0 + 1) 7))) + 4) 1) (x0 + 1) 7 ((d (x0 + 1) 7) + 1)) b = d b from fun b hb => (mset_ne (by omega)).trans ((mset_ne (by omega)).trans ((mset_ne (by omega)).trans ((mset_ne (by omega)).trans ((mset_ne (by omega)).trans (mset_ne (by omega))))))) (show ∀ i : Int, i = 0 ∨ (452 ≤ i ∧ i < 1916) → (mset (mset (mset (mset (mset (mset d (x0 + 1) ((12 + (68 * (d (x0 + 1) 7))) + 0) x1) (x0 + 1) ((12 + (68 * (d (x0 + 1) 7))) + 1) x2) (x0 + 1) ((12 + (68 * (d (x0 + 1) 7))) + 2) x3) (x0 + 1) ((12 + (68 * (d (x0 + 1) 7))) + 3) x4) (x0 + 1) ((12 + (68 * (d (x0 + 1) 7))) + 4) 1) (x0 + 1) 7 ((d (x0 + 1) 7) + 1)) (x0 + 1) i = d (x0 + 1) i from fun i hi => (((((mset_ni (by omega)).trans (mset_ni (by omega))).trans (mset_ni (by omega))).trans (mset_ni (by omega))).trans (mset_ni (by omega))).trans (mset_ni (by omega))) (mpP.grow mset_eq (Int.le_trans hpc (Int.le_of_eq ((mset_ni (by omega)).trans ((mset_ni (by omega)).trans ((mset_ni (by omega)).trans mset_eq))).symm)) (fun o o0 o1 => (mset_ni (by omega)).trans ((mset_ni (by omega)).trans ((mset_ni (by omega)).trans ((mset_ni (by omega)).trans ((mset_ni (by omega)).trans (mset_ni (by omega))))))) hmp) hS6
def g_182 (x0 x1 : Int) (d : mD) : mD := mset (mset (mset d (x0 + 1) ((420 + (2 * (d (x0 + 1) 8))) + 0) x1) (x0 + 1) ((420 + (2 * (d (x0 + 1) 8))) + 1) 0) (x0 + 1) 8 ((d (x0 + 1) 8) + 1)
theorem k_182 {E : mO × tW} {K : tK} {d : mD} {x0 x1 : Int} (hS : Safe d) (hx0 : mdB x0) (p1 : 0 ≤ x1 ∧ x1 ≤ 387420488) (ho : d (x0 + 1) 8 ≤ 15) (h : (∀ b : Int, (b < x0 + 1 ∨ x0 + 1 < b) → (g_182 x0 x1 d) b = d b) → (∀ i : Int, i = 7 ∨ (12 ≤ i ∧ i < 420 ∧ (i - 12) % 68 = 2) ∨ i = 0 ∨ (452 ≤ i ∧ i < 1916) → (g_182 x0 x1 d) (x0 + 1) i = d (x0 + 1) i) → Safe (g_182 x0 x1 d) → K (.inl none) (g_182 x0 x1 d)) : tCall E 182 [.inr (11, x0), .inl (0, x1)] d K := by
  refine t_182_0 ?_
  refine ⟨by omega, ?_⟩
  refine k_178 hS ?_
  refine t_182_14 ?_
  have q1 := mh_8 hS hx0 _ rfl
  refine ⟨by omega, ?_⟩
  have hS1 : Safe (mset d (x0 + 1) ((420 + (2 * (d (x0 + 1) 8))) + 0) x1) := smp_0 hS hx0 (d (x0 + 1) 8) ((420 + (2 * (d (x0 + 1) 8))) + 0) (by omega) (by omega) (by omega)
  rw [mset_ni (d := d) (a := x0 + 1) (i := (420 + (2 * (d (x0 + 1) 8))) + 0) (v := x1) (b := x0 + 1) (j := (8 : Int)) (by omega)]
  refine ⟨by omega, ?_⟩
  refine k_178 hS1 ?_
  refine t_182_32 ?_
  refine ⟨by omega, ?_⟩
  have hS2 : Safe (mset (mset d (x0 + 1) ((420 + (2 * (d (x0 + 1) 8))) + 0) x1) (x0 + 1) ((420 + (2 * (d (x0 + 1) 8))) + 1) 0) := smz hS1 hx0 ((420 + (2 * (d (x0 + 1) 8))) + 1)
  rw [mset_ni (d := mset d (x0 + 1) ((420 + (2 * (d (x0 + 1) 8))) + 0) x1) (a := x0 + 1) (i := (420 + (2 * (d (x0 + 1) 8))) + 1) (v := (0 : Int)) (b := x0 + 1) (j := (8 : Int)) (by omega)]
  rw [mset_ni (d := d) (a := x0 + 1) (i := (420 + (2 * (d (x0 + 1) 8))) + 0) (v := x1) (b := x0 + 1) (j := (8 : Int)) (by omega)]
  refine ⟨by omega, by omega, ?_⟩
  have hS3 : Safe (mset (mset (mset d (x0 + 1) ((420 + (2 * (d (x0 + 1) 8))) + 0) x1) (x0 + 1) ((420 + (2 * (d (x0 + 1) 8))) + 1) 0) (x0 + 1) 8 ((d (x0 + 1) 8) + 1)) := smh_8 hS2 hx0 _ rfl (by omega)
  have y0 : g_182 x0 x1 d = mset (mset (mset d (x0 + 1) ((420 + (2 * (d (x0 + 1) 8))) + 0) x1) (x0 + 1) ((420 + (2 * (d (x0 + 1) 8))) + 1) 0) (x0 + 1) 8 ((d (x0 + 1) 8) + 1) := by simp only [g_182]
  rw [y0] at h
  exact h (show ∀ b : Int, (b < x0 + 1 ∨ x0 + 1 < b) → (mset (mset (mset d (x0 + 1) ((420 + (2 * (d (x0 + 1) 8))) + 0) x1) (x0 + 1) ((420 + (2 * (d (x0 + 1) 8))) + 1) 0) (x0 + 1) 8 ((d (x0 + 1) 8) + 1)) b = d b from fun b hb => (mset_ne (by omega)).trans ((mset_ne (by omega)).trans (mset_ne (by omega)))) (show ∀ i : Int, i = 7 ∨ (12 ≤ i ∧ i < 420 ∧ (i - 12) % 68 = 2) ∨ i = 0 ∨ (452 ≤ i ∧ i < 1916) → (mset (mset (mset d (x0 + 1) ((420 + (2 * (d (x0 + 1) 8))) + 0) x1) (x0 + 1) ((420 + (2 * (d (x0 + 1) 8))) + 1) 0) (x0 + 1) 8 ((d (x0 + 1) 8) + 1)) (x0 + 1) i = d (x0 + 1) i from fun i hi => ((mset_ni (by omega)).trans (mset_ni (by omega))).trans (mset_ni (by omega))) hS3
def st_183_2 (x0 x1 : Int) (r2 : Int → mD → Int) (x2 : Int) (d : mD) : Int := if x2 < d (x0 + 1) 8 then (if d (x0 + 1) ((420 + (2 * x2)) + 0) = x1 then x2 else r2 (x2 + 1) d) else (-1)
def lp_183_2 (x0 x1 : Int) : Nat → Int → mD → Int
  | 0 => st_183_2 x0 x1 (fun _ d => 0)
  | n + 1 => st_183_2 x0 x1 (lp_183_2 x0 x1 n)
theorem ls_183_2 {E : mO × tW} {K : tK} {x0 x1 : Int} (hx0 : mdB x0) (p1 : -2147483648 ≤ x1 ∧ x1 ≤ 2147483647) (N2 : Int) (r2 : Int → mD → Int) (ih2 : ∀ (x2 : Int) (d : mD), Safe d → (0 ≤ x2 ∧ x2 ≤ 16) → 0 ≤ 16 - x2 → 16 - x2 < N2 → ((-1 ≤ (r2 x2 d) ∧ (r2 x2 d) ≤ 15) → K (.inl (some (0, (r2 x2 d)))) d) → tRun E 183 (2, [.inr (11, x0), .inl (0, x1), .inl (0, x2)], [], 0, 0, d) K) (x2 : Int) (d : mD) (hS : Safe d) (i0 : 0 ≤ x2 ∧ x2 ≤ 16) (hm : 16 - x2 ≤ N2) (h : (-1 ≤ (st_183_2 x0 x1 r2 x2 d) ∧ (st_183_2 x0 x1 r2 x2 d) ≤ 15) → K (.inl (some (0, (st_183_2 x0 x1 r2 x2 d)))) d) : tRun E 183 (2, [.inr (11, x0), .inl (0, x1), .inl (0, x2)], [], 0, 0, d) K := by
  refine t_183_2 ?_
  have q1 := mh_8 hS hx0 _ rfl
  refine ⟨by omega, ⟨m_inR (by omega) (by omega), m_inR (by omega) (by omega)⟩, fun c0 => ?_, fun c0 => ?_⟩
  · have y0 : st_183_2 x0 x1 r2 x2 d = (-1) := by simp only [st_183_2, if_neg (show ¬ x2 < d (x0 + 1) 8 from Int.not_lt.mpr c0)]
    rw [y0] at h
    exact h (show -1 ≤ ((-1 : Int)) ∧ ((-1 : Int)) ≤ 15 from (by omega))
  · refine k_178 hS ?_
    refine t_183_21 ?_
    have q2 := mp_0 hS hx0 x2 ((420 + (2 * x2)) + 0) (by omega) (by omega)
    refine ⟨by omega, ⟨m_inR (by omega) (by omega), m_inR (by omega) (by omega)⟩, fun c1 => ?_, fun c1 => ?_⟩
    · refine ih2 (x2 + 1)  d hS (by omega) (by omega) (by omega) ?_
      intro e
      have y0 : st_183_2 x0 x1 r2 x2 d = r2 (x2 + 1) d := by simp only [st_183_2, if_pos (show x2 < d (x0 + 1) 8 from c0), if_neg (show ¬ d (x0 + 1) ((420 + (2 * x2)) + 0) = x1 from c1)]
      rw [y0] at h
      exact h e
    · have y0 : st_183_2 x0 x1 r2 x2 d = x2 := by simp only [st_183_2, if_pos (show x2 < d (x0 + 1) 8 from c0), if_pos (show d (x0 + 1) ((420 + (2 * x2)) + 0) = x1 from c1)]
      rw [y0] at h
      exact h (show -1 ≤ x2 ∧ x2 ≤ 15 from (by omega))
theorem l_183_2 {E : mO × tW} {K : tK} {x0 x1 : Int} (hx0 : mdB x0) (p1 : -2147483648 ≤ x1 ∧ x1 ≤ 2147483647) : ∀ (n : Nat) (x2 : Int) (d : mD), Safe d → (0 ≤ x2 ∧ x2 ≤ 16) → 16 - x2 ≤ (n : Int) → ((-1 ≤ (lp_183_2 x0 x1 n x2 d) ∧ (lp_183_2 x0 x1 n x2 d) ≤ 15) → K (.inl (some (0, (lp_183_2 x0 x1 n x2 d)))) d) → tRun E 183 (2, [.inr (11, x0), .inl (0, x1), .inl (0, x2)], [], 0, 0, d) K := by
  intro n
  induction n with
  | zero =>
    intro x2  d hS i0 hm  h
    exact ls_183_2 hx0 p1 0 _ (fun _  _ _ _ m0 m1 _ => absurd m1 (by omega)) x2  d hS i0 hm  h
  | succ n ih =>
    intro x2  d hS i0 hm  h
    exact ls_183_2 hx0 p1 ((n + 1 : Nat) : Int) _ (fun x2  d hS i0  m0 m1 h => ih x2  d hS i0 (by omega)  h) x2  d hS i0 hm  h
def v_183 (x0 x1 : Int) (d : mD) : Int := lp_183_2 x0 x1 (16 - 0 : Int).toNat 0 d
theorem k_183 {E : mO × tW} {K : tK} {d : mD} {x0 x1 : Int} (hS : Safe d) (hx0 : mdB x0) (p1 : -2147483648 ≤ x1 ∧ x1 ≤ 2147483647) (h : (-1 ≤ (v_183 x0 x1 d) ∧ (v_183 x0 x1 d) ≤ 15) → K (.inl (some (0, (v_183 x0 x1 d)))) d) : tCall E 183 [.inr (11, x0), .inl (0, x1)] d K := by
  refine t_183_0 ?_
  have q3 := mh_8 hS hx0 _ rfl
  refine l_183_2 hx0 p1 (16 - 0 : Int).toNat 0  d hS (by omega) (by omega) ?_
  intro e
  have y0 : v_183 x0 x1 d = lp_183_2 x0 x1 (16 - 0 : Int).toNat 0 d := by simp only [v_183]
  rw [y0] at h
  exact h e
def st_184_2 (x0 x1 : Int) (r2 : Int → mD → Int) (x2 : Int) (d : mD) : Int := if x2 < d (x0 + 1) 7 then (if d (x0 + 1) ((12 + (68 * x2)) + 0) = x1 then x2 else r2 (x2 + 1) d) else (-1)
def lp_184_2 (x0 x1 : Int) : Nat → Int → mD → Int
  | 0 => st_184_2 x0 x1 (fun _ d => 0)
  | n + 1 => st_184_2 x0 x1 (lp_184_2 x0 x1 n)
theorem ls_184_2 {E : mO × tW} {K : tK} {x0 x1 : Int} (hx0 : mdB x0) (p1 : -2147483648 ≤ x1 ∧ x1 ≤ 2147483647) (N2 : Int) (r2 : Int → mD → Int) (ih2 : ∀ (x2 : Int) (d : mD), Safe d → (0 ≤ x2 ∧ x2 ≤ 6) → 0 ≤ 6 - x2 → 6 - x2 < N2 → ((-1 ≤ (r2 x2 d) ∧ (r2 x2 d) ≤ 5) → K (.inl (some (0, (r2 x2 d)))) d) → tRun E 184 (2, [.inr (11, x0), .inl (0, x1), .inl (0, x2)], [], 0, 0, d) K) (x2 : Int) (d : mD) (hS : Safe d) (i0 : 0 ≤ x2 ∧ x2 ≤ 6) (hm : 6 - x2 ≤ N2) (h : (-1 ≤ (st_184_2 x0 x1 r2 x2 d) ∧ (st_184_2 x0 x1 r2 x2 d) ≤ 5) → K (.inl (some (0, (st_184_2 x0 x1 r2 x2 d)))) d) : tRun E 184 (2, [.inr (11, x0), .inl (0, x1), .inl (0, x2)], [], 0, 0, d) K := by
  refine t_184_2 ?_
  have q1 := mh_7 hS hx0 _ rfl
  refine ⟨by omega, ⟨m_inR (by omega) (by omega), m_inR (by omega) (by omega)⟩, fun c0 => ?_, fun c0 => ?_⟩
  · have y0 : st_184_2 x0 x1 r2 x2 d = (-1) := by simp only [st_184_2, if_neg (show ¬ x2 < d (x0 + 1) 7 from Int.not_lt.mpr c0)]
    rw [y0] at h
    exact h (show -1 ≤ ((-1 : Int)) ∧ ((-1 : Int)) ≤ 5 from (by omega))
  · refine k_177 hS ?_
    refine t_184_21 ?_
    have q2 := mo_0 hS hx0 x2 ((12 + (68 * x2)) + 0) (by omega) (by omega)
    refine ⟨by omega, ⟨m_inR (by omega) (by omega), m_inR (by omega) (by omega)⟩, fun c1 => ?_, fun c1 => ?_⟩
    · refine ih2 (x2 + 1)  d hS (by omega) (by omega) (by omega) ?_
      intro e
      have y0 : st_184_2 x0 x1 r2 x2 d = r2 (x2 + 1) d := by simp only [st_184_2, if_pos (show x2 < d (x0 + 1) 7 from c0), if_neg (show ¬ d (x0 + 1) ((12 + (68 * x2)) + 0) = x1 from c1)]
      rw [y0] at h
      exact h e
    · have y0 : st_184_2 x0 x1 r2 x2 d = x2 := by simp only [st_184_2, if_pos (show x2 < d (x0 + 1) 7 from c0), if_pos (show d (x0 + 1) ((12 + (68 * x2)) + 0) = x1 from c1)]
      rw [y0] at h
      exact h (show -1 ≤ x2 ∧ x2 ≤ 5 from (by omega))
theorem l_184_2 {E : mO × tW} {K : tK} {x0 x1 : Int} (hx0 : mdB x0) (p1 : -2147483648 ≤ x1 ∧ x1 ≤ 2147483647) : ∀ (n : Nat) (x2 : Int) (d : mD), Safe d → (0 ≤ x2 ∧ x2 ≤ 6) → 6 - x2 ≤ (n : Int) → ((-1 ≤ (lp_184_2 x0 x1 n x2 d) ∧ (lp_184_2 x0 x1 n x2 d) ≤ 5) → K (.inl (some (0, (lp_184_2 x0 x1 n x2 d)))) d) → tRun E 184 (2, [.inr (11, x0), .inl (0, x1), .inl (0, x2)], [], 0, 0, d) K := by
  intro n
  induction n with
  | zero =>
    intro x2  d hS i0 hm  h
    exact ls_184_2 hx0 p1 0 _ (fun _  _ _ _ m0 m1 _ => absurd m1 (by omega)) x2  d hS i0 hm  h
  | succ n ih =>
    intro x2  d hS i0 hm  h
    exact ls_184_2 hx0 p1 ((n + 1 : Nat) : Int) _ (fun x2  d hS i0  m0 m1 h => ih x2  d hS i0 (by omega)  h) x2  d hS i0 hm  h
def v_184 (x0 x1 : Int) (d : mD) : Int := lp_184_2 x0 x1 (6 - 0 : Int).toNat 0 d
theorem k_184 {E : mO × tW} {K : tK} {d : mD} {x0 x1 : Int} (hS : Safe d) (hx0 : mdB x0) (p1 : -2147483648 ≤ x1 ∧ x1 ≤ 2147483647) (h : (-1 ≤ (v_184 x0 x1 d) ∧ (v_184 x0 x1 d) ≤ 5) → K (.inl (some (0, (v_184 x0 x1 d)))) d) : tCall E 184 [.inr (11, x0), .inl (0, x1)] d K := by
  refine t_184_0 ?_
  refine l_184_2 hx0 p1 (6 - 0 : Int).toNat 0  d hS (by omega) (by omega) ?_
  intro e
  have y0 : v_184 x0 x1 d = lp_184_2 x0 x1 (6 - 0 : Int).toNat 0 d := by simp only [v_184]
  rw [y0] at h
  exact h e
def st_185_3 (x0 x1 : Int) (r3 : Int → mD → mD) (x2 : Int) (d : mD) : mD := if x2 < 0 then d else r3 (x2 + (-8)) (mset (mset d (x0 + 7) (d x0 9) (miand (mishr x1 x2) 255)) x0 9 ((d x0 9) + 1))
def lp_185_3 (x0 x1 : Int) : Nat → Int → mD → mD
  | 0 => st_185_3 x0 x1 (fun _ d => d)
  | n + 1 => st_185_3 x0 x1 (lp_185_3 x0 x1 n)
theorem ls_185_3 {E : mO × tW} {K : tK} {x0 x1 : Int} (hx0 : mdB x0) (p1 : -2147483648 ≤ x1 ∧ x1 ≤ 2147483647) (N3 : Int) (r3 : Int → mD → mD) (ih3 : ∀ (x2 : Int) (d : mD), Safe d → (-8 ≤ x2 ∧ x2 ≤ 24 ∧ x2 % 8 = 0) → (d x0 9 + x2 / 8 + 1 ≤ 1000) → 0 ≤ x2 + 8 → x2 + 8 < N3 → ((∀ b : Int, (b < x0 ∨ x0 < b) ∧ (b < x0 + 7 ∨ x0 + 7 < b) → (r3 x2 d) b = d b) → ((r3 x2 d) x0 9 = d x0 9 + x2 / 8 + 1) → Safe (r3 x2 d) → K (.inl none) (r3 x2 d)) → tRun E 185 (3, [.inr (11, x0), .inl (0, x1), .inl (0, x2)], [], 0, 0, d) K) (x2 : Int) (d : mD) (hS : Safe d) (i0 : -8 ≤ x2 ∧ x2 ≤ 24 ∧ x2 % 8 = 0) (i1 : d x0 9 + x2 / 8 + 1 ≤ 1000) (hm : x2 + 8 ≤ N3) (h : (∀ b : Int, (b < x0 ∨ x0 < b) ∧ (b < x0 + 7 ∨ x0 + 7 < b) → (st_185_3 x0 x1 r3 x2 d) b = d b) → ((st_185_3 x0 x1 r3 x2 d) x0 9 = d x0 9 + x2 / 8 + 1) → Safe (st_185_3 x0 x1 r3 x2 d) → K (.inl none) (st_185_3 x0 x1 r3 x2 d)) : tRun E 185 (3, [.inr (11, x0), .inl (0, x1), .inl (0, x2)], [], 0, 0, d) K := by
  refine t_185_3 ?_
  refine ⟨m_inR (by omega) (by omega), fun c0 => ?_, fun c0 => ?_⟩
  · have y0 : st_185_3 x0 x1 r3 x2 d = d := by simp only [st_185_3, if_pos (show x2 < 0 from c0)]
    rw [y0] at h
    exact h (show ∀ b : Int, (b < x0 ∨ x0 < b) ∧ (b < x0 + 7 ∨ x0 + 7 < b) → d b = d b from fun _ _ => rfl) (show d x0 9 = d x0 9 + x2 / 8 + 1 by omega) hS
  · have q1 := r_11_f9 hS hx0
    have q2 := miand_r (mishr x1 x2) 255 (by decide) (by decide)
    refine ⟨by omega, ?_⟩
    have hS1 : Safe (mset d (x0 + 7) (d x0 9) (miand (mishr x1 x2) 255)) := s_11_7 hS hx0 (by omega)
    rw [mset_ne (d := d) (a := x0 + 7) (i := d x0 9) (v := miand (mishr x1 x2) 255) (b := x0) (by omega)]
    have hS2 : Safe (mset (mset d (x0 + 7) (d x0 9) (miand (mishr x1 x2) 255)) x0 9 ((d x0 9) + 1)) := s_11_f9 hS1 hx0 (by omega)
    have q3 : (mset (mset d (x0 + 7) (d x0 9) (miand (mishr x1 x2) 255)) x0 9 ((d x0 9) + 1)) x0 9 = (d x0 9) + 1 := mset_eq
    refine ih3 (x2 + (-8))  (mset (mset d (x0 + 7) (d x0 9) (miand (mishr x1 x2) 255)) x0 9 ((d x0 9) + 1)) hS2 (by omega) (by omega) (by omega) (by omega) ?_
    intro F n0 hS_
    have y0 : st_185_3 x0 x1 r3 x2 d = r3 (x2 + (-8)) (mset (mset d (x0 + 7) (d x0 9) (miand (mishr x1 x2) 255)) x0 9 ((d x0 9) + 1)) := by simp only [st_185_3, if_neg (show ¬ x2 < 0 from Int.not_lt.mpr c0)]
    rw [y0] at h
    exact h (fun b hb => (F b hb).trans ((show ∀ b : Int, (b < x0 ∨ x0 < b) ∧ (b < x0 + 7 ∨ x0 + 7 < b) → (mset (mset d (x0 + 7) (d x0 9) (miand (mishr x1 x2) 255)) x0 9 ((d x0 9) + 1)) b = d b from fun b hb => (mset_ne (by omega)).trans (mset_ne (by omega))) b hb)) (by omega) hS_
theorem l_185_3 {E : mO × tW} {K : tK} {x0 x1 : Int} (hx0 : mdB x0) (p1 : -2147483648 ≤ x1 ∧ x1 ≤ 2147483647) : ∀ (n : Nat) (x2 : Int) (d : mD), Safe d → (-8 ≤ x2 ∧ x2 ≤ 24 ∧ x2 % 8 = 0) → (d x0 9 + x2 / 8 + 1 ≤ 1000) → x2 + 8 ≤ (n : Int) → ((∀ b : Int, (b < x0 ∨ x0 < b) ∧ (b < x0 + 7 ∨ x0 + 7 < b) → (lp_185_3 x0 x1 n x2 d) b = d b) → ((lp_185_3 x0 x1 n x2 d) x0 9 = d x0 9 + x2 / 8 + 1) → Safe (lp_185_3 x0 x1 n x2 d) → K (.inl none) (lp_185_3 x0 x1 n x2 d)) → tRun E 185 (3, [.inr (11, x0), .inl (0, x1), .inl (0, x2)], [], 0, 0, d) K := by
  intro n
  induction n with
  | zero =>
    intro x2  d hS i0 i1 hm  h
    exact ls_185_3 hx0 p1 0 _ (fun _  _ _ _ _ m0 m1 _ => absurd m1 (by omega)) x2  d hS i0 i1 hm  h
  | succ n ih =>
    intro x2  d hS i0 i1 hm  h
    exact ls_185_3 hx0 p1 ((n + 1 : Nat) : Int) _ (fun x2  d hS i0 i1  m0 m1 h => ih x2  d hS i0 i1 (by omega)  h) x2  d hS i0 i1 hm  h
def g_185 (x0 x1 : Int) (d : mD) : mD := lp_185_3 x0 x1 (24 + 8 : Int).toNat 24 d
theorem k_185 {E : mO × tW} {K : tK} {d : mD} {x0 x1 : Int} (hS : Safe d) (hx0 : mdB x0) (p1 : -2147483648 ≤ x1 ∧ x1 ≤ 2147483647) (hl : d x0 9 + 4 ≤ 1000) (h : (∀ b : Int, (b < x0 ∨ x0 < b) ∧ (b < x0 + 7 ∨ x0 + 7 < b) → (g_185 x0 x1 d) b = d b) → ((g_185 x0 x1 d) x0 9 = d x0 9 + 4) → Safe (g_185 x0 x1 d) → K (.inl none) (g_185 x0 x1 d)) : tCall E 185 [.inr (11, x0), .inl (0, x1)] d K := by
  refine t_185_0 ?_
  refine l_185_3 hx0 p1 (24 + 8 : Int).toNat 24  d hS (by omega) (by omega) (by omega) ?_
  intro F n0 hS_
  have y0 : g_185 x0 x1 d = lp_185_3 x0 x1 (24 + 8 : Int).toNat 24 d := by simp only [g_185]
  rw [y0] at h
  exact h F (by omega) hS_
def v_186 (x0 x1 x2 x3 x4 x5 : Int) (d : mD) : Int := if (1000 : Int) < (d x0 9) + 20 then 0 else (g_185 x0 x5 (g_185 x0 x4 (g_185 x0 x3 (g_185 x0 x2 (g_185 x0 x1 (mset d x0 0 0)))))) x0 9
def g_186 (x0 x1 x2 x3 x4 x5 : Int) (d : mD) : mD := if (1000 : Int) < (d x0 9) + 20 then mset d x0 0 1 else g_185 x0 x5 (g_185 x0 x4 (g_185 x0 x3 (g_185 x0 x2 (g_185 x0 x1 (mset d x0 0 0)))))
theorem k_186 {E : mO × tW} {K : tK} {d : mD} {x0 x1 x2 x3 x4 x5 : Int} (hS : Safe d) (hx0 : mdB x0) (p1 : -2147483648 ≤ x1 ∧ x1 ≤ 2147483647) (p2 : -2147483648 ≤ x2 ∧ x2 ≤ 2147483647) (p3 : -2147483648 ≤ x3 ∧ x3 ≤ 2147483647) (p4 : -2147483648 ≤ x4 ∧ x4 ≤ 2147483647) (p5 : -2147483648 ≤ x5 ∧ x5 ≤ 2147483647) (h : (0 ≤ (v_186 x0 x1 x2 x3 x4 x5 d) ∧ (v_186 x0 x1 x2 x3 x4 x5 d) ≤ 1000) → (∀ b : Int, (b < x0 ∨ x0 < b) ∧ (b < x0 + 7 ∨ x0 + 7 < b) → (g_186 x0 x1 x2 x3 x4 x5 d) b = d b) → Safe (g_186 x0 x1 x2 x3 x4 x5 d) → K (.inl (some (0, (v_186 x0 x1 x2 x3 x4 x5 d)))) (g_186 x0 x1 x2 x3 x4 x5 d)) : tCall E 186 [.inr (11, x0), .inl (0, x1), .inl (0, x2), .inl (0, x3), .inl (0, x4), .inl (0, x5)] d K := by
  refine t_186_0 ?_
  have q1 := r_11_f9 hS hx0
  refine ⟨⟨m_inR (by omega) (by omega), m_inR (by omega) (by omega)⟩, fun c0 => ?_, fun c0 => ?_⟩
  · have hS1 : Safe (mset d x0 0 0) := s_11_f0 hS hx0 (by omega)
    rw [mset_eq (d := d) (a := x0) (i := (0 : Int)) (v := (0 : Int))]
    refine ⟨m_inR (by omega) (by omega), fun c1 => ?_, fun c1 => ?_⟩
    · have q2 : (mset d x0 0 0) x0 9 = d x0 9 := mset_ni (by omega)
      refine k_185 hS1 hx0 (m_inR (by omega) (by omega)) (by omega) (fun F1 n1_0 hS2 => ?_)
      refine t_186_36 ?_
      refine k_185 hS2 hx0 (m_inR (by omega) (by omega)) (by omega) (fun F2 n2_0 hS3 => ?_)
      refine t_186_41 ?_
      refine k_185 hS3 hx0 (m_inR (by omega) (by omega)) (by omega) (fun F3 n3_0 hS4 => ?_)
      refine t_186_46 ?_
      refine k_185 hS4 hx0 (m_inR (by omega) (by omega)) (by omega) (fun F4 n4_0 hS5 => ?_)
      refine t_186_52 ?_
      refine k_185 hS5 hx0 (m_inR (by omega) (by omega)) (by omega) (fun F5 n5_0 hS6 => ?_)
      refine t_186_58 ?_
      have q3 := r_11_f9 hS6 hx0
      have y0 : v_186 x0 x1 x2 x3 x4 x5 d = (g_185 x0 x5 (g_185 x0 x4 (g_185 x0 x3 (g_185 x0 x2 (g_185 x0 x1 (mset d x0 0 0)))))) x0 9 := by simp only [v_186, if_neg (show ¬ (1000 : Int) < (d x0 9) + 20 from Int.not_lt.mpr c0), if_neg (show ¬ (0 : Int) < 0 from Int.not_lt.mpr c1)]
      have y1 : g_186 x0 x1 x2 x3 x4 x5 d = g_185 x0 x5 (g_185 x0 x4 (g_185 x0 x3 (g_185 x0 x2 (g_185 x0 x1 (mset d x0 0 0))))) := by simp only [g_186, if_neg (show ¬ (1000 : Int) < (d x0 9) + 20 from Int.not_lt.mpr c0), if_neg (show ¬ (0 : Int) < 0 from Int.not_lt.mpr c1)]
      rw [y0] at h
      rw [y1] at h
      exact h (show 0 ≤ ((g_185 x0 x5 (g_185 x0 x4 (g_185 x0 x3 (g_185 x0 x2 (g_185 x0 x1 (mset d x0 0 0)))))) x0 9) ∧ ((g_185 x0 x5 (g_185 x0 x4 (g_185 x0 x3 (g_185 x0 x2 (g_185 x0 x1 (mset d x0 0 0)))))) x0 9) ≤ 1000 from (by omega)) (show ∀ b : Int, (b < x0 ∨ x0 < b) ∧ (b < x0 + 7 ∨ x0 + 7 < b) → (g_185 x0 x5 (g_185 x0 x4 (g_185 x0 x3 (g_185 x0 x2 (g_185 x0 x1 (mset d x0 0 0)))))) b = d b from fun b hb => (F5 b (by omega)).trans ((F4 b (by omega)).trans ((F3 b (by omega)).trans ((F2 b (by omega)).trans ((F1 b (by omega)).trans (mset_ne (by omega))))))) hS6
    · exact (show False by omega).elim
  · have hS7 : Safe (mset d x0 0 1) := s_11_f0 hS hx0 (by omega)
    rw [mset_eq (d := d) (a := x0) (i := (0 : Int)) (v := (1 : Int))]
    refine ⟨m_inR (by omega) (by omega), fun c1 => ?_, fun c1 => ?_⟩
    · exact (show False by omega).elim
    · have y0 : v_186 x0 x1 x2 x3 x4 x5 d = 0 := by simp only [v_186, if_pos (show (1000 : Int) < (d x0 9) + 20 from c0), if_pos (show (0 : Int) < 1 from c1)]
      have y1 : g_186 x0 x1 x2 x3 x4 x5 d = mset d x0 0 1 := by simp only [g_186, if_pos (show (1000 : Int) < (d x0 9) + 20 from c0), if_pos (show (0 : Int) < 1 from c1)]
      rw [y0] at h
      rw [y1] at h
      exact h (show 0 ≤ ((0 : Int)) ∧ ((0 : Int)) ≤ 1000 from (by omega)) (show ∀ b : Int, (b < x0 ∨ x0 < b) ∧ (b < x0 + 7 ∨ x0 + 7 < b) → (mset d x0 0 1) b = d b from fun b hb => mset_ne (by omega)) hS7
def v_187 (x0 x1 : Int) (d : mD) : Int := if v_176 x1 0 (d x0 9) d = 0 then 0 else x1
def g_187 (x0 x1 : Int) (d : mD) : mD := if v_176 x1 0 (d x0 9) d = 0 then mset d x0 0 1 else mset (mset d x0 0 0) x0 9 x1
theorem k_187 {E : mO × tW} {K : tK} {d : mD} {x0 x1 : Int} (hS : Safe d) (hx0 : mdB x0) (p1 : -2147483648 ≤ x1 ∧ x1 ≤ 2147483647) (h : (0 ≤ (v_187 x0 x1 d) ∧ (v_187 x0 x1 d) ≤ 1000) → (∀ b : Int, (b < x0 ∨ x0 < b) → (g_187 x0 x1 d) b = d b) → Safe (g_187 x0 x1 d) → K (.inl (some (0, (v_187 x0 x1 d)))) (g_187 x0 x1 d)) : tCall E 187 [.inr (11, x0), .inl (0, x1)] d K := by
  refine t_187_0 ?_
  have q1 := r_11_f9 hS hx0
  refine ⟨m_inR (by omega) (by omega), m_inR (by omega) (by omega), ?_⟩
  refine k_176 hS (m_inR (by omega) (by omega)) (m_inR (by omega) (by omega)) (m_inR (by omega) (by omega)) (fun e1 => ?_)
  refine t_187_12 ?_
  refine ⟨m_inR (by omega) (by omega), fun c0 => ?_, fun c0 => ?_⟩
  · have hS1 : Safe (mset d x0 0 1) := s_11_f0 hS hx0 (by omega)
    rw [mset_eq (d := d) (a := x0) (i := (0 : Int)) (v := (1 : Int))]
    refine ⟨m_inR (by omega) (by omega), fun c1 => ?_, fun c1 => ?_⟩
    · exact (show False by omega).elim
    · have y0 : v_187 x0 x1 d = 0 := by simp only [v_187, if_pos (show v_176 x1 0 (d x0 9) d = 0 from c0), if_pos (show (0 : Int) < 1 from c1)]
      have y1 : g_187 x0 x1 d = mset d x0 0 1 := by simp only [g_187, if_pos (show v_176 x1 0 (d x0 9) d = 0 from c0), if_pos (show (0 : Int) < 1 from c1)]
      rw [y0] at h
      rw [y1] at h
      exact h (show 0 ≤ ((0 : Int)) ∧ ((0 : Int)) ≤ 1000 from (by omega)) (show ∀ b : Int, (b < x0 ∨ x0 < b) → (mset d x0 0 1) b = d b from fun b hb => mset_ne (by omega)) hS1
  · have hS2 : Safe (mset d x0 0 0) := s_11_f0 hS hx0 (by omega)
    rw [mset_eq (d := d) (a := x0) (i := (0 : Int)) (v := (0 : Int))]
    refine ⟨m_inR (by omega) (by omega), fun c1 => ?_, fun c1 => ?_⟩
    · have hS3 : Safe (mset (mset d x0 0 0) x0 9 x1) := s_11_f9 hS2 hx0 (by omega)
      have y0 : v_187 x0 x1 d = x1 := by simp only [v_187, if_neg (show ¬ v_176 x1 0 (d x0 9) d = 0 from c0), if_neg (show ¬ (0 : Int) < 0 from Int.not_lt.mpr c1)]
      have y1 : g_187 x0 x1 d = mset (mset d x0 0 0) x0 9 x1 := by simp only [g_187, if_neg (show ¬ v_176 x1 0 (d x0 9) d = 0 from c0), if_neg (show ¬ (0 : Int) < 0 from Int.not_lt.mpr c1)]
      rw [y0] at h
      rw [y1] at h
      exact h (show 0 ≤ x1 ∧ x1 ≤ 1000 from (by omega)) (show ∀ b : Int, (b < x0 ∨ x0 < b) → (mset (mset d x0 0 0) x0 9 x1) b = d b from fun b hb => (mset_ne (by omega)).trans (mset_ne (by omega))) hS3
    · exact (show False by omega).elim
def v_190 (x0 x1 : Int) (d : mD) : Int := if x1 < d x0 9 then (if v_176 (d (x0 + 7) x1) 97 122 d = 0 then 0 else 1) else 0
theorem k_190 {E : mO × tW} {K : tK} {d : mD} {x0 x1 : Int} (hS : Safe d) (hx0 : mdB x0) (p1 : 0 ≤ x1 ∧ x1 ≤ 1000) (h : ((0 ≤ (v_190 x0 x1 d) ∧ (v_190 x0 x1 d) ≤ 1) ∧ ((v_190 x0 x1 d) = 0 ∨ (x1 < d x0 9 ∧ 97 ≤ d (x0 + 7) x1 ∧ d (x0 + 7) x1 ≤ 122))) → K (.inl (some (0, (v_190 x0 x1 d)))) d) : tCall E 190 [.inr (11, x0), .inl (0, x1)] d K := by
  refine t_190_0 ?_
  have q1 := r_11_f9 hS hx0
  refine ⟨⟨m_inR (by omega) (by omega), m_inR (by omega) (by omega)⟩, fun c0 => ?_, fun c0 => ?_⟩
  · refine ⟨by omega, ?_⟩
    have y0 : v_190 x0 x1 d = 0 := by simp only [v_190, if_neg (show ¬ x1 < d x0 9 from Int.not_lt.mpr c0)]
    rw [y0] at h
    exact h (show (0 ≤ ((0 : Int)) ∧ ((0 : Int)) ≤ 1) ∧ (((0 : Int)) = 0 ∨ (x1 < d x0 9 ∧ 97 ≤ d (x0 + 7) x1 ∧ d (x0 + 7) x1 ≤ 122)) from (by omega))
  · have q2 := r_11_7 hS hx0 x1
    refine ⟨by omega, m_inR (by omega) (by omega), ?_⟩
    refine k_176 hS (m_inR (by omega) (by omega)) (m_inR (by omega) (by omega)) (m_inR (by omega) (by omega)) (fun e1 => ?_)
    refine t_190_24 ?_
    refine ⟨m_inR (by omega) (by omega), fun c1 => ?_, fun c1 => ?_⟩
    · refine ⟨by omega, ?_⟩
      have y0 : v_190 x0 x1 d = 0 := by simp only [v_190, if_pos (show x1 < d x0 9 from c0), if_pos (show v_176 (d (x0 + 7) x1) 97 122 d = 0 from c1)]
      rw [y0] at h
      exact h (show (0 ≤ ((0 : Int)) ∧ ((0 : Int)) ≤ 1) ∧ (((0 : Int)) = 0 ∨ (x1 < d x0 9 ∧ 97 ≤ d (x0 + 7) x1 ∧ d (x0 + 7) x1 ≤ 122)) from (by omega))
    · refine ⟨by omega, ?_⟩
      have y0 : v_190 x0 x1 d = 1 := by simp only [v_190, if_pos (show x1 < d x0 9 from c0), if_neg (show ¬ v_176 (d (x0 + 7) x1) 97 122 d = 0 from c1)]
      rw [y0] at h
      exact h (show (0 ≤ ((1 : Int)) ∧ ((1 : Int)) ≤ 1) ∧ (((1 : Int)) = 0 ∨ (x1 < d x0 9 ∧ 97 ≤ d (x0 + 7) x1 ∧ d (x0 + 7) x1 ≤ 122)) from (by omega))
def v_191 (x0 x1 : Int) (d : mD) : Int := if x1 < d x0 9 then (if v_176 (d (x0 + 7) x1) 48 57 d = 0 then 0 else 1) else 0
theorem k_191 {E : mO × tW} {K : tK} {d : mD} {x0 x1 : Int} (hS : Safe d) (hx0 : mdB x0) (p1 : 0 ≤ x1 ∧ x1 ≤ 1000) (h : ((0 ≤ (v_191 x0 x1 d) ∧ (v_191 x0 x1 d) ≤ 1) ∧ ((v_191 x0 x1 d) = 0 ∨ (x1 < d x0 9 ∧ 48 ≤ d (x0 + 7) x1 ∧ d (x0 + 7) x1 ≤ 57))) → K (.inl (some (0, (v_191 x0 x1 d)))) d) : tCall E 191 [.inr (11, x0), .inl (0, x1)] d K := by
  refine t_191_0 ?_
  have q1 := r_11_f9 hS hx0
  refine ⟨⟨m_inR (by omega) (by omega), m_inR (by omega) (by omega)⟩, fun c0 => ?_, fun c0 => ?_⟩
  · refine ⟨by omega, ?_⟩
    have y0 : v_191 x0 x1 d = 0 := by simp only [v_191, if_neg (show ¬ x1 < d x0 9 from Int.not_lt.mpr c0)]
    rw [y0] at h
    exact h (show (0 ≤ ((0 : Int)) ∧ ((0 : Int)) ≤ 1) ∧ (((0 : Int)) = 0 ∨ (x1 < d x0 9 ∧ 48 ≤ d (x0 + 7) x1 ∧ d (x0 + 7) x1 ≤ 57)) from (by omega))
  · have q2 := r_11_7 hS hx0 x1
    refine ⟨by omega, m_inR (by omega) (by omega), ?_⟩
    refine k_176 hS (m_inR (by omega) (by omega)) (m_inR (by omega) (by omega)) (m_inR (by omega) (by omega)) (fun e1 => ?_)
    refine t_191_24 ?_
    refine ⟨m_inR (by omega) (by omega), fun c1 => ?_, fun c1 => ?_⟩
    · refine ⟨by omega, ?_⟩
      have y0 : v_191 x0 x1 d = 0 := by simp only [v_191, if_pos (show x1 < d x0 9 from c0), if_pos (show v_176 (d (x0 + 7) x1) 48 57 d = 0 from c1)]
      rw [y0] at h
      exact h (show (0 ≤ ((0 : Int)) ∧ ((0 : Int)) ≤ 1) ∧ (((0 : Int)) = 0 ∨ (x1 < d x0 9 ∧ 48 ≤ d (x0 + 7) x1 ∧ d (x0 + 7) x1 ≤ 57)) from (by omega))
    · refine ⟨by omega, ?_⟩
      have y0 : v_191 x0 x1 d = 1 := by simp only [v_191, if_pos (show x1 < d x0 9 from c0), if_neg (show ¬ v_176 (d (x0 + 7) x1) 48 57 d = 0 from c1)]
      rw [y0] at h
      exact h (show (0 ≤ ((1 : Int)) ∧ ((1 : Int)) ≤ 1) ∧ (((1 : Int)) = 0 ∨ (x1 < d x0 9 ∧ 48 ≤ d (x0 + 7) x1 ∧ d (x0 + 7) x1 ≤ 57)) from (by omega))
def st_201_10 (x0 x1 : Int) (r10 : Int → mD → Int) (x2 : Int) (d : mD) : Int := if x2 < 0 then (-1) else if d (x0 + 1) ((452 + (24 * x2)) + 0) = x1 then x2 else r10 (x2 + (-1)) d
def lp_201_10 (x0 x1 : Int) : Nat → Int → mD → Int
  | 0 => st_201_10 x0 x1 (fun _ d => 0)
  | n + 1 => st_201_10 x0 x1 (lp_201_10 x0 x1 n)
theorem ls_201_10 {E : mO × tW} {K : tK} {x0 x1 : Int} (hx0 : mdB x0) (p1 : -2147483648 ≤ x1 ∧ x1 ≤ 2147483647) (N10 : Int) (r10 : Int → mD → Int) (ih10 : ∀ (x2 : Int) (d : mD), Safe d → (-1 ≤ x2 ∧ x2 ≤ 60) → 0 ≤ x2 + 1 → x2 + 1 < N10 → ((-1 ≤ (r10 x2 d) ∧ (r10 x2 d) ≤ 60) → K (.inl (some (0, (r10 x2 d)))) d) → tRun E 201 (10, [.inr (11, x0), .inl (0, x1), .inl (0, x2)], [], 0, 0, d) K) (x2 : Int) (d : mD) (hS : Safe d) (i0 : -1 ≤ x2 ∧ x2 ≤ 60) (hm : x2 + 1 ≤ N10) (h : (-1 ≤ (st_201_10 x0 x1 r10 x2 d) ∧ (st_201_10 x0 x1 r10 x2 d) ≤ 60) → K (.inl (some (0, (st_201_10 x0 x1 r10 x2 d)))) d) : tRun E 201 (10, [.inr (11, x0), .inl (0, x1), .inl (0, x2)], [], 0, 0, d) K := by
  refine t_201_10 ?_
  refine ⟨m_inR (by omega) (by omega), fun c0 => ?_, fun c0 => ?_⟩
  · have y0 : st_201_10 x0 x1 r10 x2 d = (-1) := by simp only [st_201_10, if_pos (show x2 < 0 from c0)]
    rw [y0] at h
    exact h (show -1 ≤ ((-1 : Int)) ∧ ((-1 : Int)) ≤ 60 from (by omega))
  · refine k_179 hS ?_
    refine t_201_22 ?_
    have q1 := mt_0 hS hx0 x2 ((452 + (24 * x2)) + 0) (by omega) (by omega)
    refine ⟨by omega, ⟨m_inR (by omega) (by omega), m_inR (by omega) (by omega)⟩, fun c1 => ?_, fun c1 => ?_⟩
    · refine ih10 (x2 + (-1))  d hS (by omega) (by omega) (by omega) ?_
      intro e
      have y0 : st_201_10 x0 x1 r10 x2 d = r10 (x2 + (-1)) d := by simp only [st_201_10, if_neg (show ¬ x2 < 0 from Int.not_lt.mpr c0), if_neg (show ¬ d (x0 + 1) ((452 + (24 * x2)) + 0) = x1 from c1)]
      rw [y0] at h
      exact h e
    · have y0 : st_201_10 x0 x1 r10 x2 d = x2 := by simp only [st_201_10, if_neg (show ¬ x2 < 0 from Int.not_lt.mpr c0), if_pos (show d (x0 + 1) ((452 + (24 * x2)) + 0) = x1 from c1)]
      rw [y0] at h
      exact h (show -1 ≤ x2 ∧ x2 ≤ 60 from (by omega))
theorem l_201_10 {E : mO × tW} {K : tK} {x0 x1 : Int} (hx0 : mdB x0) (p1 : -2147483648 ≤ x1 ∧ x1 ≤ 2147483647) : ∀ (n : Nat) (x2 : Int) (d : mD), Safe d → (-1 ≤ x2 ∧ x2 ≤ 60) → x2 + 1 ≤ (n : Int) → ((-1 ≤ (lp_201_10 x0 x1 n x2 d) ∧ (lp_201_10 x0 x1 n x2 d) ≤ 60) → K (.inl (some (0, (lp_201_10 x0 x1 n x2 d)))) d) → tRun E 201 (10, [.inr (11, x0), .inl (0, x1), .inl (0, x2)], [], 0, 0, d) K := by
  intro n
  induction n with
  | zero =>
    intro x2  d hS i0 hm  h
    exact ls_201_10 hx0 p1 0 _ (fun _  _ _ _ m0 m1 _ => absurd m1 (by omega)) x2  d hS i0 hm  h
  | succ n ih =>
    intro x2  d hS i0 hm  h
    exact ls_201_10 hx0 p1 ((n + 1 : Nat) : Int) _ (fun x2  d hS i0  m0 m1 h => ih x2  d hS i0 (by omega)  h) x2  d hS i0 hm  h
def v_201 (x0 x1 : Int) (d : mD) : Int := lp_201_10 x0 x1 (((d (x0 + 1) 9) - 1) + 1 : Int).toNat ((d (x0 + 1) 9) - 1) d
theorem k_201 {E : mO × tW} {K : tK} {d : mD} {x0 x1 : Int} (hS : Safe d) (hx0 : mdB x0) (p1 : -2147483648 ≤ x1 ∧ x1 ≤ 2147483647) (h : (-1 ≤ (v_201 x0 x1 d) ∧ (v_201 x0 x1 d) ≤ 60) → K (.inl (some (0, (v_201 x0 x1 d)))) d) : tCall E 201 [.inr (11, x0), .inl (0, x1)] d K := by
  refine t_201_0 ?_
  refine ⟨by omega, ?_⟩
  have q2 := mh_9 hS hx0 _ rfl
  refine l_201_10 hx0 p1 (((d (x0 + 1) 9) - 1) + 1 : Int).toNat ((d (x0 + 1) 9) - 1)  d hS (by omega) (by omega) ?_
  intro e
  have y0 : v_201 x0 x1 d = lp_201_10 x0 x1 (((d (x0 + 1) 9) - 1) + 1 : Int).toNat ((d (x0 + 1) 9) - 1) d := by simp only [v_201]
  rw [y0] at h
  exact h e
