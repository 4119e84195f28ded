/-! ===== contracts of the methods: printed by a program of mine ===== -/
def st_134_10 (x0 x1 x2 : Int) (r10 : Int → Int → mD → Int) (x3 x4 : Int) (d : mD) : Int := if x4 < d (x0 + 1 + 10) 0 then (if v_77 (x0 + 1) x1 x4 d = 0 then (if x3 = x2 then x4 else r10 (x3 + 1) (x4 + 1) d) else r10 x3 (x4 + 1) d) else (-103)
def lp_134_10 (x0 x1 x2 : Int) : Nat → Int → Int → mD → Int
  | 0 => st_134_10 x0 x1 x2 (fun _ _ d => 0)
  | n + 1 => st_134_10 x0 x1 x2 (lp_134_10 x0 x1 x2 n)
theorem ls_134_10 {E : mO × tW} {K : tK} {x0 x1 x2 : Int} (hx0 : wbB x0) (p1 : -2147483648 ≤ x1 ∧ x1 ≤ 2147483647) (p2 : -2147483648 ≤ x2 ∧ x2 ≤ 2147483647) (N10 : Int) (r10 : Int → Int → mD → Int) (ih10 : ∀ (x3 x4 : Int) (d : mD), Safe d → (0 ≤ x4 ∧ x4 ≤ 16) → (0 ≤ x1 ∧ x1 ≤ 59) → (0 ≤ x3 ∧ x3 ≤ x4) → 0 ≤ 16 - x4 → 16 - x4 < N10 → ((0 ≤ (r10 x3 x4 d) → (0 ≤ (r10 x3 x4 d) ∧ (r10 x3 x4 d) ≤ 15) → K (.inl (some (0, (r10 x3 x4 d)))) d) ∧ ((r10 x3 x4 d) = -103 → K (.inr 3) d)) → tRun E 134 (10, [.inr (10, x0), .inl (0, x1), .inl (0, x2), .inl (0, x3), .inl (0, x4)], [], 1, 6, d) K) (x3 x4 : Int) (d : mD) (hS : Safe d) (i0 : 0 ≤ x4 ∧ x4 ≤ 16) (i1 : 0 ≤ x1 ∧ x1 ≤ 59) (i2 : 0 ≤ x3 ∧ x3 ≤ x4) (hm : 16 - x4 ≤ N10) (h : (0 ≤ (st_134_10 x0 x1 x2 r10 x3 x4 d) → (0 ≤ (st_134_10 x0 x1 x2 r10 x3 x4 d) ∧ (st_134_10 x0 x1 x2 r10 x3 x4 d) ≤ 15) → K (.inl (some (0, (st_134_10 x0 x1 x2 r10 x3 x4 d)))) d) ∧ ((st_134_10 x0 x1 x2 r10 x3 x4 d) = -103 → K (.inr 3) d)) : tRun E 134 (10, [.inr (10, x0), .inl (0, x1), .inl (0, x2), .inl (0, x3), .inl (0, x4)], [], 1, 6, d) K := by
  refine t_134_10 ?_
  have q1 := r_4_f0 hS (stB.pe (wbB.nw hx0))
  refine ⟨⟨m_inR (by omega) (by omega), m_inR (by omega) (by omega)⟩, fun c0 => ?_, fun c0 => ?_⟩
  · have y0 : st_134_10 x0 x1 x2 r10 x3 x4 d = (-103) := by simp only [st_134_10, if_neg (show ¬ x4 < d (x0 + 1 + 10) 0 from Int.not_lt.mpr c0)]
    rw [y0] at h
    exact h.2 rfl
  · refine k_77 hS (wbB.nw hx0) (by omega) (by omega) (fun e1 => ?_)
    refine t_134_35 ?_
    refine ⟨m_inR (by omega) (by omega), fun c1 => ?_, fun c1 => ?_⟩
    · refine ih10 x3 (x4 + 1)  d hS (by omega) (by omega) (by omega) (by omega) (by omega) ?_
      have y0 : st_134_10 x0 x1 x2 r10 x3 x4 d = r10 x3 (x4 + 1) d := by simp only [st_134_10, if_pos (show x4 < d (x0 + 1 + 10) 0 from c0), if_neg (show ¬ v_77 (x0 + 1) x1 x4 d = 0 from c1)]
      rw [y0] at h
      exact h
    · refine ⟨⟨m_inR (by omega) (by omega), m_inR (by omega) (by omega)⟩, fun c2 => ?_, fun c2 => ?_⟩
      · refine ih10 (x3 + 1) (x4 + 1)  d hS (by omega) (by omega) (by omega) (by omega) (by omega) ?_
        have y0 : st_134_10 x0 x1 x2 r10 x3 x4 d = r10 (x3 + 1) (x4 + 1) d := by simp only [st_134_10, if_pos (show x4 < d (x0 + 1 + 10) 0 from c0), if_pos (show v_77 (x0 + 1) x1 x4 d = 0 from c1), if_neg (show ¬ x3 = x2 from c2)]
        rw [y0] at h
        exact h
      · have y0 : st_134_10 x0 x1 x2 r10 x3 x4 d = x4 := by simp only [st_134_10, if_pos (show x4 < d (x0 + 1 + 10) 0 from c0), if_pos (show v_77 (x0 + 1) x1 x4 d = 0 from c1), if_pos (show x3 = x2 from c2)]
        rw [y0] at h
        exact h.1 (by omega) (show 0 ≤ x4 ∧ x4 ≤ 15 from (by omega))
theorem l_134_10 {E : mO × tW} {K : tK} {x0 x1 x2 : Int} (hx0 : wbB x0) (p1 : -2147483648 ≤ x1 ∧ x1 ≤ 2147483647) (p2 : -2147483648 ≤ x2 ∧ x2 ≤ 2147483647) : ∀ (n : Nat) (x3 x4 : Int) (d : mD), Safe d → (0 ≤ x4 ∧ x4 ≤ 16) → (0 ≤ x1 ∧ x1 ≤ 59) → (0 ≤ x3 ∧ x3 ≤ x4) → 16 - x4 ≤ (n : Int) → ((0 ≤ (lp_134_10 x0 x1 x2 n x3 x4 d) → (0 ≤ (lp_134_10 x0 x1 x2 n x3 x4 d) ∧ (lp_134_10 x0 x1 x2 n x3 x4 d) ≤ 15) → K (.inl (some (0, (lp_134_10 x0 x1 x2 n x3 x4 d)))) d) ∧ ((lp_134_10 x0 x1 x2 n x3 x4 d) = -103 → K (.inr 3) d)) → tRun E 134 (10, [.inr (10, x0), .inl (0, x1), .inl (0, x2), .inl (0, x3), .inl (0, x4)], [], 1, 6, d) K := by
  intro n
  induction n with
  | zero =>
    intro x3 x4  d hS i0 i1 i2 hm  h
    exact ls_134_10 hx0 p1 p2 0 _ (fun _ _  _ _ _ _ _ m0 m1 _ => absurd m1 (by omega)) x3 x4  d hS i0 i1 i2 hm  h
  | succ n ih =>
    intro x3 x4  d hS i0 i1 i2 hm  h
    exact ls_134_10 hx0 p1 p2 ((n + 1 : Nat) : Int) _ (fun x3 x4  d hS i0 i1 i2  m0 m1 h => ih x3 x4  d hS i0 i1 i2 (by omega)  h) x3 x4  d hS i0 i1 i2 hm  h
theorem k_134 {E : mO × tW} {K : tK} {d : mD} {x0 x1 x2 : Int} (hS : Safe d) (hx0 : wbB x0) (p1 : -2147483648 ≤ x1 ∧ x1 ≤ 2147483647) (p2 : -2147483648 ≤ x2 ∧ x2 ≤ 2147483647) (h0 : (x1 < 0) → K (.inr 1) d) (h1 : (0 ≤ x1) → (x1 < d (x0 + 1 + 49) 0) → (0 ≤ (lp_134_10 x0 x1 x2 (16 - 0 : Int).toNat 0 0 d) → (0 ≤ (lp_134_10 x0 x1 x2 (16 - 0 : Int).toNat 0 0 d) ∧ (lp_134_10 x0 x1 x2 (16 - 0 : Int).toNat 0 0 d) ≤ 15) → K (.inl (some (0, (lp_134_10 x0 x1 x2 (16 - 0 : Int).toNat 0 0 d)))) d) ∧ ((lp_134_10 x0 x1 x2 (16 - 0 : Int).toNat 0 0 d) = -103 → K (.inr 3) d)) (h2 : (0 ≤ x1) → (d (x0 + 1 + 49) 0 ≤ x1) → K (.inr 1) d) : tCall E 134 [.inr (10, x0), .inl (0, x1), .inl (0, x2)] d K := by
  refine t_134_0 ?_
  have w0 : x0 = 0 := hx0
  have w2 := r_6_f2 hS (wbB.nw hx0)
  have w3 := r_3_f0 hS (stB.of (wbB.nw hx0))
  have w4 := r_4_f0 hS (stB.pe (wbB.nw hx0))
  have w5 := r_8_f0 hS (stB.ti (wbB.nw hx0))
  have w6 := r_9_f0 hS (stB.to (wbB.nw hx0))
  have w7 := r_7_f1 hS (wbB.tx hx0)
  refine k_167 hS hx0 (m_inR (by omega) (by omega)) (fun z0 => ?_) (fun z0 z1 => ?_) (fun z0 z1 => ?_)
  · exact h0 z0
  · refine t_134_5 ?_
    refine l_134_10 hx0 p1 p2 (16 - 0 : Int).toNat 0 0  d hS (by omega) (by omega) (by omega) (by omega) ?_
    exact h1 z0 z1
  · exact h2 z0 z1
def st_139_4 (x0 : Int) (r4 : Int → Int → mD → Int × mD) (x1 x2 : Int) (d : mD) : Int × mD := if x2 < d (x0 + 1 + 10) 0 then r4 (x1 + (v_9 (x0 + 574) (g_72 (x0 + 1) x2 (x0 + 574) d))) (x2 + 1) (g_72 (x0 + 1) x2 (x0 + 574) d) else if x1 = 0 then (0, d) else (mddiv (mi2d (d (x0 + 1 + 57) 0)) (mi2d x1), d)
def lp_139_4 (x0 : Int) : Nat → Int → Int → mD → Int × mD
  | 0 => st_139_4 x0 (fun _ _ d => (0, d))
  | n + 1 => st_139_4 x0 (lp_139_4 x0 n)
theorem ls_139_4 {E : mO × tW} {K : tK} {x0 : Int} (hx0 : wbB x0) (N4 : Int) (r4 : Int → Int → mD → Int × mD) (ih4 : ∀ (x1 x2 : Int) (d : mD), Safe d → (0 ≤ x2 ∧ x2 ≤ 16) → (0 ≤ x1 ∧ x1 ≤ 2032 * x2) → 0 ≤ 16 - x2 → 16 - x2 < N4 → ((∀ b : Int, (b < x0 + 575 ∨ x0 + 575 < b) → (r4 x1 x2 d).2 b = d b) → Safe (r4 x1 x2 d).2 → K (.inl (some (2, (r4 x1 x2 d).1))) (r4 x1 x2 d).2) → tRun E 139 (4, [.inr (10, x0), .inl (0, x1), .inl (0, x2)], [], 0, 0, d) K) (x1 x2 : Int) (d : mD) (hS : Safe d) (i0 : 0 ≤ x2 ∧ x2 ≤ 16) (i1 : 0 ≤ x1 ∧ x1 ≤ 2032 * x2) (hm : 16 - x2 ≤ N4) (h : (∀ b : Int, (b < x0 + 575 ∨ x0 + 575 < b) → (st_139_4 x0 r4 x1 x2 d).2 b = d b) → Safe (st_139_4 x0 r4 x1 x2 d).2 → K (.inl (some (2, (st_139_4 x0 r4 x1 x2 d).1))) (st_139_4 x0 r4 x1 x2 d).2) : tRun E 139 (4, [.inr (10, x0), .inl (0, x1), .inl (0, x2)], [], 0, 0, d) K := by
  refine t_139_4 ?_
  have q1 := r_4_f0 hS (stB.pe (wbB.nw hx0))
  refine ⟨⟨m_inR (by omega) (by omega), m_inR (by omega) (by omega)⟩, fun c0 => ?_, fun c0 => ?_⟩
  · refine ⟨m_inR (by omega) (by omega), fun c1 => ?_, fun c1 => ?_⟩
    · refine ⟨dd_ok (by omega), ?_⟩
      have y0 : st_139_4 x0 r4 x1 x2 d = (mddiv (mi2d (d (x0 + 1 + 57) 0)) (mi2d x1), d) := by simp only [st_139_4, if_neg (show ¬ x2 < d (x0 + 1 + 10) 0 from Int.not_lt.mpr c0), if_neg (show ¬ x1 = 0 from c1)]
      rw [y0] at h
      exact h (show ∀ b : Int, (b < x0 + 575 ∨ x0 + 575 < b) → d b = d b from fun _ _ => rfl) hS
    · have y0 : st_139_4 x0 r4 x1 x2 d = (0, d) := by simp only [st_139_4, if_neg (show ¬ x2 < d (x0 + 1 + 10) 0 from Int.not_lt.mpr c0), if_pos (show x1 = 0 from c1)]
      rw [y0] at h
      exact h (show ∀ b : Int, (b < x0 + 575 ∨ x0 + 575 < b) → d b = d b from fun _ _ => rfl) hS
  · refine k_72 hS (wbB.nw hx0) (wbB.lo hx0) (m_inR (by omega) (by omega)) (fun F1 hS1 => ?_)
    refine t_139_30 ?_
    refine k_9 hS1 (wbB.lo hx0) (fun e1 => ?_)
    refine t_139_38 ?_
    refine ih4 (x1 + (v_9 (x0 + 574) (g_72 (x0 + 1) x2 (x0 + 574) d))) (x2 + 1)  (g_72 (x0 + 1) x2 (x0 + 574) d) hS1 (by omega) (by omega) (by omega) (by omega) ?_
    intro F hS_
    have y0 : st_139_4 x0 r4 x1 x2 d = r4 (x1 + (v_9 (x0 + 574) (g_72 (x0 + 1) x2 (x0 + 574) d))) (x2 + 1) (g_72 (x0 + 1) x2 (x0 + 574) d) := by simp only [st_139_4, if_pos (show x2 < d (x0 + 1 + 10) 0 from c0)]
    rw [y0] at h
    exact h (fun b hb => (F b hb).trans ((show ∀ b : Int, (b < x0 + 575 ∨ x0 + 575 < b) → (g_72 (x0 + 1) x2 (x0 + 574) d) b = d b from fun b hb => F1 b (by omega)) b hb)) hS_
theorem l_139_4 {E : mO × tW} {K : tK} {x0 : Int} (hx0 : wbB x0) : ∀ (n : Nat) (x1 x2 : Int) (d : mD), Safe d → (0 ≤ x2 ∧ x2 ≤ 16) → (0 ≤ x1 ∧ x1 ≤ 2032 * x2) → 16 - x2 ≤ (n : Int) → ((∀ b : Int, (b < x0 + 575 ∨ x0 + 575 < b) → (lp_139_4 x0 n x1 x2 d).2 b = d b) → Safe (lp_139_4 x0 n x1 x2 d).2 → K (.inl (some (2, (lp_139_4 x0 n x1 x2 d).1))) (lp_139_4 x0 n x1 x2 d).2) → tRun E 139 (4, [.inr (10, x0), .inl (0, x1), .inl (0, x2)], [], 0, 0, d) K := by
  intro n
  induction n with
  | zero =>
    intro x1 x2  d hS i0 i1 hm  h
    exact ls_139_4 hx0 0 _ (fun _ _  _ _ _ _ m0 m1 _ => absurd m1 (by omega)) x1 x2  d hS i0 i1 hm  h
  | succ n ih =>
    intro x1 x2  d hS i0 i1 hm  h
    exact ls_139_4 hx0 ((n + 1 : Nat) : Int) _ (fun x1 x2  d hS i0 i1  m0 m1 h => ih x1 x2  d hS i0 i1 (by omega)  h) x1 x2  d hS i0 i1 hm  h
def f_139 (x0 : Int) (d : mD) : Int × mD := lp_139_4 x0 (16 - 0 : Int).toNat 0 0 d
def v_139 (x0 : Int) (d : mD) : Int := (f_139 x0 d).1
def g_139 (x0 : Int) (d : mD) : mD := (f_139 x0 d).2
theorem k_139 {E : mO × tW} {K : tK} {d : mD} {x0 : Int} (hS : Safe d) (hx0 : wbB x0) (h : (∀ b : Int, (b < x0 + 575 ∨ x0 + 575 < b) → (g_139 x0 d) b = d b) → Safe (g_139 x0 d) → K (.inl (some (2, (v_139 x0 d)))) (g_139 x0 d)) : tCall E 139 [.inr (10, x0)] d K := by
  simp only [v_139, g_139] at h
  refine t_139_0 ?_
  have w0 : x0 = 0 := hx0
  have w2 := r_6_f2 hS (wbB.nw hx0)
  have w3 := r_3_f0 hS (stB.of (wbB.nw hx0))
  have w4 := r_4_f0 hS (stB.pe (wbB.nw hx0))
  have w5 := r_8_f0 hS (stB.ti (wbB.nw hx0))
  have w6 := r_9_f0 hS (stB.to (wbB.nw hx0))
  have w7 := r_7_f1 hS (wbB.tx hx0)
  refine l_139_4 hx0 (16 - 0 : Int).toNat 0 0  d hS (by omega) (by omega) (by omega) ?_
  intro F hS_
  have y0 : f_139 x0 d = lp_139_4 x0 (16 - 0 : Int).toNat 0 0 d := by simp only [f_139]
  rw [y0] at h
  exact h F hS_
def st_140_6 (x0 : Int) (r6 : Int → Int → Int → mD → Int × mD) (x1 x2 x3 : Int) (d : mD) : Int × mD := if x3 < d (x0 + 1 + 10) 0 then (if x2 < v_9 (x0 + 574) (g_72 (x0 + 1) x3 (x0 + 574) d) then r6 x3 (v_9 (x0 + 574) (g_72 (x0 + 1) x3 (x0 + 574) d)) (x3 + 1) (g_72 (x0 + 1) x3 (x0 + 574) d) else r6 x1 x2 (x3 + 1) (g_72 (x0 + 1) x3 (x0 + 574) d)) else (x1, d)
def lp_140_6 (x0 : Int) : Nat → Int → Int → Int → mD → Int × mD
  | 0 => st_140_6 x0 (fun _ _ _ d => (0, d))
  | n + 1 => st_140_6 x0 (lp_140_6 x0 n)
theorem ls_140_6 {E : mO × tW} {K : tK} {x0 : Int} (hx0 : wbB x0) (N6 : Int) (r6 : Int → Int → Int → mD → Int × mD) (ih6 : ∀ (x1 x2 x3 : Int) (v4 : tV) (d : mD), Safe d → (0 ≤ x3 ∧ x3 ≤ 16) → (-1 ≤ x1 ∧ x1 ≤ 15) → (0 ≤ x2 ∧ x2 ≤ 2032) → 0 ≤ 16 - x3 → 16 - x3 < N6 → ((-1 ≤ (r6 x1 x2 x3 d).1 ∧ (r6 x1 x2 x3 d).1 ≤ 15) → (∀ b : Int, (b < x0 + 575 ∨ x0 + 575 < b) → (r6 x1 x2 x3 d).2 b = d b) → Safe (r6 x1 x2 x3 d).2 → K (.inl (some (0, (r6 x1 x2 x3 d).1))) (r6 x1 x2 x3 d).2) → tRun E 140 (6, [.inr (10, x0), .inl (0, x1), .inl (0, x2), .inl (0, x3), v4], [], 0, 0, d) K) (x1 x2 x3 : Int) (v4 : tV) (d : mD) (hS : Safe d) (i0 : 0 ≤ x3 ∧ x3 ≤ 16) (i1 : -1 ≤ x1 ∧ x1 ≤ 15) (i2 : 0 ≤ x2 ∧ x2 ≤ 2032) (hm : 16 - x3 ≤ N6) (h : (-1 ≤ (st_140_6 x0 r6 x1 x2 x3 d).1 ∧ (st_140_6 x0 r6 x1 x2 x3 d).1 ≤ 15) → (∀ b : Int, (b < x0 + 575 ∨ x0 + 575 < b) → (st_140_6 x0 r6 x1 x2 x3 d).2 b = d b) → Safe (st_140_6 x0 r6 x1 x2 x3 d).2 → K (.inl (some (0, (st_140_6 x0 r6 x1 x2 x3 d).1))) (st_140_6 x0 r6 x1 x2 x3 d).2) : tRun E 140 (6, [.inr (10, x0), .inl (0, x1), .inl (0, x2), .inl (0, x3), v4], [], 0, 0, d) K := by
  refine t_140_6 ?_
  have q1 := r_4_f0 hS (stB.pe (wbB.nw hx0))
  refine ⟨⟨m_inR (by omega) (by omega), m_inR (by omega) (by omega)⟩, fun c0 => ?_, fun c0 => ?_⟩
  · have y0 : st_140_6 x0 r6 x1 x2 x3 d = (x1, d) := by simp only [st_140_6, if_neg (show ¬ x3 < d (x0 + 1 + 10) 0 from Int.not_lt.mpr c0)]
    rw [y0] at h
    exact h (show -1 ≤ x1 ∧ x1 ≤ 15 from (by omega)) (show ∀ b : Int, (b < x0 + 575 ∨ x0 + 575 < b) → d b = d b from fun _ _ => rfl) hS
  · refine k_72 hS (wbB.nw hx0) (wbB.lo hx0) (m_inR (by omega) (by omega)) (fun F1 hS1 => ?_)
    refine t_140_32 ?_
    refine k_9 hS1 (wbB.lo hx0) (fun e1 => ?_)
    refine t_140_39 ?_
    refine ⟨⟨m_inR (by omega) (by omega), m_inR (by omega) (by omega)⟩, fun c1 => ?_, fun c1 => ?_⟩
    · refine ih6 x1 x2 (x3 + 1) (.inl (0, v_9 (x0 + 574) (g_72 (x0 + 1) x3 (x0 + 574) d))) (g_72 (x0 + 1) x3 (x0 + 574) d) hS1 (by omega) (by omega) (by omega) (by omega) (by omega) ?_
      intro e F hS_
      have y0 : st_140_6 x0 r6 x1 x2 x3 d = r6 x1 x2 (x3 + 1) (g_72 (x0 + 1) x3 (x0 + 574) d) := by simp only [st_140_6, if_pos (show x3 < d (x0 + 1 + 10) 0 from c0), if_neg (show ¬ x2 < v_9 (x0 + 574) (g_72 (x0 + 1) x3 (x0 + 574) d) from Int.not_lt.mpr c1)]
      rw [y0] at h
      exact h e (fun b hb => (F b hb).trans ((show ∀ b : Int, (b < x0 + 575 ∨ x0 + 575 < b) → (g_72 (x0 + 1) x3 (x0 + 574) d) b = d b from fun b hb => F1 b (by omega)) b hb)) hS_
    · refine ih6 x3 (v_9 (x0 + 574) (g_72 (x0 + 1) x3 (x0 + 574) d)) (x3 + 1) (.inl (0, v_9 (x0 + 574) (g_72 (x0 + 1) x3 (x0 + 574) d))) (g_72 (x0 + 1) x3 (x0 + 574) d) hS1 (by omega) (by omega) (by omega) (by omega) (by omega) ?_
      intro e F hS_
      have y0 : st_140_6 x0 r6 x1 x2 x3 d = r6 x3 (v_9 (x0 + 574) (g_72 (x0 + 1) x3 (x0 + 574) d)) (x3 + 1) (g_72 (x0 + 1) x3 (x0 + 574) d) := by simp only [st_140_6, if_pos (show x3 < d (x0 + 1 + 10) 0 from c0), if_pos (show x2 < v_9 (x0 + 574) (g_72 (x0 + 1) x3 (x0 + 574) d) from c1)]
      rw [y0] at h
      exact h e (fun b hb => (F b hb).trans ((show ∀ b : Int, (b < x0 + 575 ∨ x0 + 575 < b) → (g_72 (x0 + 1) x3 (x0 + 574) d) b = d b from fun b hb => F1 b (by omega)) b hb)) hS_
theorem l_140_6 {E : mO × tW} {K : tK} {x0 : Int} (hx0 : wbB x0) : ∀ (n : Nat) (x1 x2 x3 : Int) (v4 : tV) (d : mD), Safe d → (0 ≤ x3 ∧ x3 ≤ 16) → (-1 ≤ x1 ∧ x1 ≤ 15) → (0 ≤ x2 ∧ x2 ≤ 2032) → 16 - x3 ≤ (n : Int) → ((-1 ≤ (lp_140_6 x0 n x1 x2 x3 d).1 ∧ (lp_140_6 x0 n x1 x2 x3 d).1 ≤ 15) → (∀ b : Int, (b < x0 + 575 ∨ x0 + 575 < b) → (lp_140_6 x0 n x1 x2 x3 d).2 b = d b) → Safe (lp_140_6 x0 n x1 x2 x3 d).2 → K (.inl (some (0, (lp_140_6 x0 n x1 x2 x3 d).1))) (lp_140_6 x0 n x1 x2 x3 d).2) → tRun E 140 (6, [.inr (10, x0), .inl (0, x1), .inl (0, x2), .inl (0, x3), v4], [], 0, 0, d) K := by
  intro n
  induction n with
  | zero =>
    intro x1 x2 x3 v4 d hS i0 i1 i2 hm  h
    exact ls_140_6 hx0 0 _ (fun _ _ _ _ _ _ _ _ _ m0 m1 _ => absurd m1 (by omega)) x1 x2 x3 v4 d hS i0 i1 i2 hm  h
  | succ n ih =>
    intro x1 x2 x3 v4 d hS i0 i1 i2 hm  h
    exact ls_140_6 hx0 ((n + 1 : Nat) : Int) _ (fun x1 x2 x3 v4 d hS i0 i1 i2  m0 m1 h => ih x1 x2 x3 v4 d hS i0 i1 i2 (by omega)  h) x1 x2 x3 v4 d hS i0 i1 i2 hm  h
def f_140 (x0 : Int) (d : mD) : Int × mD := lp_140_6 x0 (16 - 0 : Int).toNat ((-1)) 0 0 d
def v_140 (x0 : Int) (d : mD) : Int := (f_140 x0 d).1
def g_140 (x0 : Int) (d : mD) : mD := (f_140 x0 d).2
theorem k_140 {E : mO × tW} {K : tK} {d : mD} {x0 : Int} (hS : Safe d) (hx0 : wbB x0) (h : (-1 ≤ (v_140 x0 d) ∧ (v_140 x0 d) ≤ 15) → (∀ b : Int, (b < x0 + 575 ∨ x0 + 575 < b) → (g_140 x0 d) b = d b) → Safe (g_140 x0 d) → K (.inl (some (0, (v_140 x0 d)))) (g_140 x0 d)) : tCall E 140 [.inr (10, x0)] d K := by
  simp only [v_140, g_140] at h
  refine t_140_0 ?_
  have w0 : x0 = 0 := hx0
  have w2 := r_6_f2 hS (wbB.nw hx0)
  have w3 := r_3_f0 hS (stB.of (wbB.nw hx0))
  have w4 := r_4_f0 hS (stB.pe (wbB.nw hx0))
  have w5 := r_8_f0 hS (stB.ti (wbB.nw hx0))
  have w6 := r_9_f0 hS (stB.to (wbB.nw hx0))
  have w7 := r_7_f1 hS (wbB.tx hx0)
  refine l_140_6 hx0 (16 - 0 : Int).toNat ((-1)) 0 0 tu d hS (by omega) (by omega) (by omega) (by omega) ?_
  intro e F hS_
  have y0 : f_140 x0 d = lp_140_6 x0 (16 - 0 : Int).toNat ((-1)) 0 0 d := by simp only [f_140]
  rw [y0] at h
  exact h e F hS_
def st_146_8 (x0 : Int) (r8 : Int → Int → Int → mD → Int) (x1 x2 x3 : Int) (d : mD) : Int := if x3 < d (x0 + 1 + 2) 0 then (if v_173 x0 x3 d = (-1) then r8 x1 x2 (x3 + 1) d else if v_173 x0 x3 d < x2 then r8 x3 (v_173 x0 x3 d) (x3 + 1) d else r8 x1 x2 (x3 + 1) d) else if x1 = (-1) then (-103) else x1
def lp_146_8 (x0 : Int) : Nat → Int → Int → Int → mD → Int
  | 0 => st_146_8 x0 (fun _ _ _ d => 0)
  | n + 1 => st_146_8 x0 (lp_146_8 x0 n)
theorem ls_146_8 {E : mO × tW} {K : tK} {x0 : Int} (hx0 : wbB x0) (N8 : Int) (r8 : Int → Int → Int → mD → Int) (ih8 : ∀ (x1 x2 x3 : Int) (v4 : tV) (d : mD), Safe d → (0 ≤ x3 ∧ x3 ≤ 6) → (-1 ≤ x1 ∧ x1 ≤ 5) → (0 ≤ x2 ∧ x2 ≤ 201) → 0 ≤ 6 - x3 → 6 - x3 < N8 → ((0 ≤ (r8 x1 x2 x3 d) → (0 ≤ (r8 x1 x2 x3 d) ∧ (r8 x1 x2 x3 d) ≤ 5) → K (.inl (some (0, (r8 x1 x2 x3 d)))) d) ∧ ((r8 x1 x2 x3 d) = -103 → K (.inr 3) d)) → tRun E 146 (8, [.inr (10, x0), .inl (0, x1), .inl (0, x2), .inl (0, x3), v4], [], 0, 0, d) K) (x1 x2 x3 : Int) (v4 : tV) (d : mD) (hS : Safe d) (i0 : 0 ≤ x3 ∧ x3 ≤ 6) (i1 : -1 ≤ x1 ∧ x1 ≤ 5) (i2 : 0 ≤ x2 ∧ x2 ≤ 201) (hm : 6 - x3 ≤ N8) (h : (0 ≤ (st_146_8 x0 r8 x1 x2 x3 d) → (0 ≤ (st_146_8 x0 r8 x1 x2 x3 d) ∧ (st_146_8 x0 r8 x1 x2 x3 d) ≤ 5) → K (.inl (some (0, (st_146_8 x0 r8 x1 x2 x3 d)))) d) ∧ ((st_146_8 x0 r8 x1 x2 x3 d) = -103 → K (.inr 3) d)) : tRun E 146 (8, [.inr (10, x0), .inl (0, x1), .inl (0, x2), .inl (0, x3), v4], [], 0, 0, d) K := by
  refine t_146_8 ?_
  have q1 := r_3_f0 hS (stB.of (wbB.nw hx0))
  refine ⟨⟨m_inR (by omega) (by omega), m_inR (by omega) (by omega)⟩, fun c0 => ?_, fun c0 => ?_⟩
  · refine ⟨⟨m_inR (by omega) (by omega), m_inR (by omega) (by omega)⟩, fun c1 => ?_, fun c1 => ?_⟩
    · have y0 : st_146_8 x0 r8 x1 x2 x3 d = x1 := by simp only [st_146_8, if_neg (show ¬ x3 < d (x0 + 1 + 2) 0 from Int.not_lt.mpr c0), if_neg (show ¬ x1 = (-1) from c1)]
      rw [y0] at h
      exact h.1 (by omega) (show 0 ≤ x1 ∧ x1 ≤ 5 from (by omega))
    · have y0 : st_146_8 x0 r8 x1 x2 x3 d = (-103) := by simp only [st_146_8, if_neg (show ¬ x3 < d (x0 + 1 + 2) 0 from Int.not_lt.mpr c0), if_pos (show x1 = (-1) from c1)]
      rw [y0] at h
      exact h.2 rfl
  · refine k_173 hS hx0 (by omega) (fun e1 => ?_)
    refine t_146_27 ?_
    refine ⟨⟨m_inR (by omega) (by omega), m_inR (by omega) (by omega)⟩, fun c1 => ?_, fun c1 => ?_⟩
    · refine ih8 x1 x2 (x3 + 1) (.inl (0, v_173 x0 x3 d)) d hS (by omega) (by omega) (by omega) (by omega) (by omega) ?_
      have y0 : st_146_8 x0 r8 x1 x2 x3 d = r8 x1 x2 (x3 + 1) d := by simp only [st_146_8, if_pos (show x3 < d (x0 + 1 + 2) 0 from c0), if_pos (show v_173 x0 x3 d = (-1) from c1)]
      rw [y0] at h
      exact h
    · refine ⟨⟨m_inR (by omega) (by omega), m_inR (by omega) (by omega)⟩, fun c2 => ?_, fun c2 => ?_⟩
      · refine ih8 x1 x2 (x3 + 1) (.inl (0, v_173 x0 x3 d)) d hS (by omega) (by omega) (by omega) (by omega) (by omega) ?_
        have y0 : st_146_8 x0 r8 x1 x2 x3 d = r8 x1 x2 (x3 + 1) d := by simp only [st_146_8, if_pos (show x3 < d (x0 + 1 + 2) 0 from c0), if_neg (show ¬ v_173 x0 x3 d = (-1) from c1), if_neg (show ¬ v_173 x0 x3 d < x2 from Int.not_lt.mpr c2)]
        rw [y0] at h
        exact h
      · refine ih8 x3 (v_173 x0 x3 d) (x3 + 1) (.inl (0, v_173 x0 x3 d)) d hS (by omega) (by omega) (by omega) (by omega) (by omega) ?_
        have y0 : st_146_8 x0 r8 x1 x2 x3 d = r8 x3 (v_173 x0 x3 d) (x3 + 1) d := by simp only [st_146_8, if_pos (show x3 < d (x0 + 1 + 2) 0 from c0), if_neg (show ¬ v_173 x0 x3 d = (-1) from c1), if_pos (show v_173 x0 x3 d < x2 from c2)]
        rw [y0] at h
        exact h
theorem l_146_8 {E : mO × tW} {K : tK} {x0 : Int} (hx0 : wbB x0) : ∀ (n : Nat) (x1 x2 x3 : Int) (v4 : tV) (d : mD), Safe d → (0 ≤ x3 ∧ x3 ≤ 6) → (-1 ≤ x1 ∧ x1 ≤ 5) → (0 ≤ x2 ∧ x2 ≤ 201) → 6 - x3 ≤ (n : Int) → ((0 ≤ (lp_146_8 x0 n x1 x2 x3 d) → (0 ≤ (lp_146_8 x0 n x1 x2 x3 d) ∧ (lp_146_8 x0 n x1 x2 x3 d) ≤ 5) → K (.inl (some (0, (lp_146_8 x0 n x1 x2 x3 d)))) d) ∧ ((lp_146_8 x0 n x1 x2 x3 d) = -103 → K (.inr 3) d)) → tRun E 146 (8, [.inr (10, x0), .inl (0, x1), .inl (0, x2), .inl (0, x3), v4], [], 0, 0, d) K := by
  intro n
  induction n with
  | zero =>
    intro x1 x2 x3 v4 d hS i0 i1 i2 hm  h
    exact ls_146_8 hx0 0 _ (fun _ _ _ _ _ _ _ _ _ m0 m1 _ => absurd m1 (by omega)) x1 x2 x3 v4 d hS i0 i1 i2 hm  h
  | succ n ih =>
    intro x1 x2 x3 v4 d hS i0 i1 i2 hm  h
    exact ls_146_8 hx0 ((n + 1 : Nat) : Int) _ (fun x1 x2 x3 v4 d hS i0 i1 i2  m0 m1 h => ih x1 x2 x3 v4 d hS i0 i1 i2 (by omega)  h) x1 x2 x3 v4 d hS i0 i1 i2 hm  h
theorem k_146 {E : mO × tW} {K : tK} {d : mD} {x0 : Int} (hS : Safe d) (hx0 : wbB x0) (h0 : (0 ≤ (lp_146_8 x0 (6 - 0 : Int).toNat ((-1)) 201 0 d) → (0 ≤ (lp_146_8 x0 (6 - 0 : Int).toNat ((-1)) 201 0 d) ∧ (lp_146_8 x0 (6 - 0 : Int).toNat ((-1)) 201 0 d) ≤ 5) → K (.inl (some (0, (lp_146_8 x0 (6 - 0 : Int).toNat ((-1)) 201 0 d)))) d) ∧ ((lp_146_8 x0 (6 - 0 : Int).toNat ((-1)) 201 0 d) = -103 → K (.inr 3) d)) : tCall E 146 [.inr (10, x0)] d K := by
  refine t_146_0 ?_
  have w0 : x0 = 0 := hx0
  have w2 := r_6_f2 hS (wbB.nw hx0)
  have w3 := r_3_f0 hS (stB.of (wbB.nw hx0))
  have w4 := r_4_f0 hS (stB.pe (wbB.nw hx0))
  have w5 := r_8_f0 hS (stB.ti (wbB.nw hx0))
  have w6 := r_9_f0 hS (stB.to (wbB.nw hx0))
  have w7 := r_7_f1 hS (wbB.tx hx0)
  refine l_146_8 hx0 (6 - 0 : Int).toNat ((-1)) 201 0 tu d hS (by omega) (by omega) (by omega) (by omega) ?_
  exact h0 
def st_148_15 (x0 x1 : Int) (r15 : Int → mD → Int × mD) (x2 : Int) (d : mD) : Int × mD := if x2 < d (x0 + 1 + 2 + 6) x1 then (if (0 : Int) < x2 then r15 (x2 + 1) (g_89 (x0 + 572) (d (x0 + 1 + 49 + 3) (v_38 (x0 + 1 + 2) x1 x2 d)) (g_86 (x0 + 572) 64 (g_88 (x0 + 572) (d (x0 + 1 + 10 + 1) (d (x0 + 1 + 49 + 1) (v_38 (x0 + 1 + 2) x1 x2 d))) (g_86 (x0 + 572) 32 d)))) else r15 (x2 + 1) (g_89 (x0 + 572) (d (x0 + 1 + 49 + 3) (v_38 (x0 + 1 + 2) x1 x2 d)) (g_86 (x0 + 572) 64 (g_88 (x0 + 572) (d (x0 + 1 + 10 + 1) (d (x0 + 1 + 49 + 1) (v_38 (x0 + 1 + 2) x1 x2 d))) d)))) else if d (x0 + 1 + 2 + 5) x1 = 0 then ((g_86 (x0 + 572) 33 d) (x0 + 572) 1, g_86 (x0 + 572) 33 d) else (d (x0 + 572) 1, d)
def lp_148_15 (x0 x1 : Int) : Nat → Int → mD → Int × mD
  | 0 => st_148_15 x0 x1 (fun _ d => (0, d))
  | n + 1 => st_148_15 x0 x1 (lp_148_15 x0 x1 n)
theorem ls_148_15 {E : mO × tW} {K : tK} {x0 x1 : Int} (hx0 : wbB x0) (p1 : -2147483648 ≤ x1 ∧ x1 ≤ 2147483647) (N15 : Int) (r15 : Int → mD → Int × mD) (ih15 : ∀ (x2 : Int) (v3 : tV) (d : mD), Safe d → (0 ≤ x2 ∧ x2 ≤ 16) → (0 ≤ x1 ∧ x1 ≤ 5) → 0 ≤ 16 - x2 → 16 - x2 < N15 → ((0 ≤ (r15 x2 d).1 ∧ (r15 x2 d).1 ≤ 1000) → (∀ b : Int, (b < x0 + 572 ∨ x0 + 573 < b) → (r15 x2 d).2 b = d b) → Safe (r15 x2 d).2 → K (.inl (some (0, (r15 x2 d).1))) (r15 x2 d).2) → tRun E 148 (15, [.inr (10, x0), .inl (0, x1), .inl (0, x2), v3], [], 1, 6, d) K) (x2 : Int) (v3 : tV) (d : mD) (hS : Safe d) (i0 : 0 ≤ x2 ∧ x2 ≤ 16) (i1 : 0 ≤ x1 ∧ x1 ≤ 5) (hm : 16 - x2 ≤ N15) (h : (0 ≤ (st_148_15 x0 x1 r15 x2 d).1 ∧ (st_148_15 x0 x1 r15 x2 d).1 ≤ 1000) → (∀ b : Int, (b < x0 + 572 ∨ x0 + 573 < b) → (st_148_15 x0 x1 r15 x2 d).2 b = d b) → Safe (st_148_15 x0 x1 r15 x2 d).2 → K (.inl (some (0, (st_148_15 x0 x1 r15 x2 d).1))) (st_148_15 x0 x1 r15 x2 d).2) : tRun E 148 (15, [.inr (10, x0), .inl (0, x1), .inl (0, x2), v3], [], 1, 6, d) K := by
  refine t_148_15 ?_
  have q1 := r_3_6 hS (stB.of (wbB.nw hx0)) x1
  refine ⟨by omega, ⟨m_inR (by omega) (by omega), m_inR (by omega) (by omega)⟩, fun c0 => ?_, fun c0 => ?_⟩
  · have q2 := r_3_5 hS (stB.of (wbB.nw hx0)) x1
    refine ⟨by omega, m_inR (by omega) (by omega), fun c1 => ?_, fun c1 => ?_⟩
    · refine t_148_145 ?_
      have q3 := r_7_f1 hS (wbB.ou hx0)
      have y0 : st_148_15 x0 x1 r15 x2 d = (d (x0 + 572) 1, d) := by simp only [st_148_15, if_neg (show ¬ x2 < d (x0 + 1 + 2 + 6) x1 from Int.not_lt.mpr c0), if_neg (show ¬ d (x0 + 1 + 2 + 5) x1 = 0 from c1)]
      rw [y0] at h
      exact h (show 0 ≤ (d (x0 + 572) 1) ∧ (d (x0 + 572) 1) ≤ 1000 from (by omega)) (show ∀ b : Int, (b < x0 + 572 ∨ x0 + 573 < b) → d b = d b from fun _ _ => rfl) hS
    · refine k_86 hS (wbB.ou hx0) (fun F1 hS1 => ?_)
      refine t_148_145 ?_
      have q4 := r_7_f1 hS1 (wbB.ou hx0)
      have y0 : st_148_15 x0 x1 r15 x2 d = ((g_86 (x0 + 572) 33 d) (x0 + 572) 1, g_86 (x0 + 572) 33 d) := by simp only [st_148_15, if_neg (show ¬ x2 < d (x0 + 1 + 2 + 6) x1 from Int.not_lt.mpr c0), if_pos (show d (x0 + 1 + 2 + 5) x1 = 0 from c1)]
      rw [y0] at h
      exact h (show 0 ≤ ((g_86 (x0 + 572) 33 d) (x0 + 572) 1) ∧ ((g_86 (x0 + 572) 33 d) (x0 + 572) 1) ≤ 1000 from (by omega)) (show ∀ b : Int, (b < x0 + 572 ∨ x0 + 573 < b) → (g_86 (x0 + 572) 33 d) b = d b from fun b hb => F1 b (by omega)) hS1
  · refine k_38 hS (stB.of (wbB.nw hx0)) (by omega) (by omega) (fun e1 => ?_)
    refine t_148_43 ?_
    refine ⟨m_inR (by omega) (by omega), fun c1 => ?_, fun c1 => ?_⟩
    · refine t_148_57 ?_
      have q5 := r_8_1 hS (stB.ti (wbB.nw hx0)) (v_38 (x0 + 1 + 2) x1 x2 d)
      refine ⟨by omega, by omega, ?_⟩
      have q6 := r_4_1 hS (stB.pe (wbB.nw hx0)) (d (x0 + 1 + 49 + 1) (v_38 (x0 + 1 + 2) x1 x2 d))
      refine k_88 hS (wbB.ou hx0) (m_inR (by omega) (by omega)) (fun F2 hS2 => ?_)
      refine t_148_87 ?_
      refine k_86 hS2 (wbB.ou hx0) (fun F3 hS3 => ?_)
      refine t_148_96 ?_
      rw [F3 (x0 + 1 + 49 + 3) (by omega)]
      rw [F2 (x0 + 1 + 49 + 3) (by omega)]
      refine ⟨by omega, ?_⟩
      have q7 := r_8_3 hS (stB.ti (wbB.nw hx0)) (v_38 (x0 + 1 + 2) x1 x2 d)
      refine k_89 hS3 (wbB.ou hx0) (by omega) (fun F4 hS4 => ?_)
      refine t_148_115 ?_
      refine ih15 (x2 + 1) (.inl (0, v_38 (x0 + 1 + 2) x1 x2 d)) (g_89 (x0 + 572) (d (x0 + 1 + 49 + 3) (v_38 (x0 + 1 + 2) x1 x2 d)) (g_86 (x0 + 572) 64 (g_88 (x0 + 572) (d (x0 + 1 + 10 + 1) (d (x0 + 1 + 49 + 1) (v_38 (x0 + 1 + 2) x1 x2 d))) d))) hS4 (by omega) (by omega) (by omega) (by omega) ?_
      intro e F hS_
      have y0 : st_148_15 x0 x1 r15 x2 d = r15 (x2 + 1) (g_89 (x0 + 572) (d (x0 + 1 + 49 + 3) (v_38 (x0 + 1 + 2) x1 x2 d)) (g_86 (x0 + 572) 64 (g_88 (x0 + 572) (d (x0 + 1 + 10 + 1) (d (x0 + 1 + 49 + 1) (v_38 (x0 + 1 + 2) x1 x2 d))) d))) := by simp only [st_148_15, if_pos (show x2 < d (x0 + 1 + 2 + 6) x1 from c0), if_neg (show ¬ (0 : Int) < x2 from Int.not_lt.mpr c1)]
      rw [y0] at h
      exact h e (fun b hb => (F b hb).trans ((show ∀ b : Int, (b < x0 + 572 ∨ x0 + 573 < b) → (g_89 (x0 + 572) (d (x0 + 1 + 49 + 3) (v_38 (x0 + 1 + 2) x1 x2 d)) (g_86 (x0 + 572) 64 (g_88 (x0 + 572) (d (x0 + 1 + 10 + 1) (d (x0 + 1 + 49 + 1) (v_38 (x0 + 1 + 2) x1 x2 d))) d))) b = d b from fun b hb => (F4 b (by omega)).trans ((F3 b (by omega)).trans (F2 b (by omega)))) b hb)) hS_
    · refine k_86 hS (wbB.ou hx0) (fun F5 hS5 => ?_)
      refine t_148_57 ?_
      rw [F5 (x0 + 1 + 49 + 1) (by omega)]
      have q8 := r_8_1 hS (stB.ti (wbB.nw hx0)) (v_38 (x0 + 1 + 2) x1 x2 d)
      rw [F5 (x0 + 1 + 10 + 1) (by omega)]
      refine ⟨by omega, by omega, ?_⟩
      have q9 := r_4_1 hS (stB.pe (wbB.nw hx0)) (d (x0 + 1 + 49 + 1) (v_38 (x0 + 1 + 2) x1 x2 d))
      refine k_88 hS5 (wbB.ou hx0) (m_inR (by omega) (by omega)) (fun F6 hS6 => ?_)
      refine t_148_87 ?_
      refine k_86 hS6 (wbB.ou hx0) (fun F7 hS7 => ?_)
      refine t_148_96 ?_
      rw [F7 (x0 + 1 + 49 + 3) (by omega)]
      rw [F6 (x0 + 1 + 49 + 3) (by omega)]
      rw [F5 (x0 + 1 + 49 + 3) (by omega)]
      refine ⟨by omega, ?_⟩
      have q10 := r_8_3 hS (stB.ti (wbB.nw hx0)) (v_38 (x0 + 1 + 2) x1 x2 d)
      refine k_89 hS7 (wbB.ou hx0) (by omega) (fun F8 hS8 => ?_)
      refine t_148_115 ?_
      refine ih15 (x2 + 1) (.inl (0, v_38 (x0 + 1 + 2) x1 x2 d)) (g_89 (x0 + 572) (d (x0 + 1 + 49 + 3) (v_38 (x0 + 1 + 2) x1 x2 d)) (g_86 (x0 + 572) 64 (g_88 (x0 + 572) (d (x0 + 1 + 10 + 1) (d (x0 + 1 + 49 + 1) (v_38 (x0 + 1 + 2) x1 x2 d))) (g_86 (x0 + 572) 32 d)))) hS8 (by omega) (by omega) (by omega) (by omega) ?_
      intro e F hS_
      have y0 : st_148_15 x0 x1 r15 x2 d = r15 (x2 + 1) (g_89 (x0 + 572) (d (x0 + 1 + 49 + 3) (v_38 (x0 + 1 + 2) x1 x2 d)) (g_86 (x0 + 572) 64 (g_88 (x0 + 572) (d (x0 + 1 + 10 + 1) (d (x0 + 1 + 49 + 1) (v_38 (x0 + 1 + 2) x1 x2 d))) (g_86 (x0 + 572) 32 d)))) := by simp only [st_148_15, if_pos (show x2 < d (x0 + 1 + 2 + 6) x1 from c0), if_pos (show (0 : Int) < x2 from c1)]
      rw [y0] at h
      exact h e (fun b hb => (F b hb).trans ((show ∀ b : Int, (b < x0 + 572 ∨ x0 + 573 < b) → (g_89 (x0 + 572) (d (x0 + 1 + 49 + 3) (v_38 (x0 + 1 + 2) x1 x2 d)) (g_86 (x0 + 572) 64 (g_88 (x0 + 572) (d (x0 + 1 + 10 + 1) (d (x0 + 1 + 49 + 1) (v_38 (x0 + 1 + 2) x1 x2 d))) (g_86 (x0 + 572) 32 d)))) b = d b from fun b hb => (F8 b (by omega)).trans ((F7 b (by omega)).trans ((F6 b (by omega)).trans (F5 b (by omega))))) b hb)) hS_
theorem l_148_15 {E : mO × tW} {K : tK} {x0 x1 : Int} (hx0 : wbB x0) (p1 : -2147483648 ≤ x1 ∧ x1 ≤ 2147483647) : ∀ (n : Nat) (x2 : Int) (v3 : tV) (d : mD), Safe d → (0 ≤ x2 ∧ x2 ≤ 16) → (0 ≤ x1 ∧ x1 ≤ 5) → 16 - x2 ≤ (n : Int) → ((0 ≤ (lp_148_15 x0 x1 n x2 d).1 ∧ (lp_148_15 x0 x1 n x2 d).1 ≤ 1000) → (∀ b : Int, (b < x0 + 572 ∨ x0 + 573 < b) → (lp_148_15 x0 x1 n x2 d).2 b = d b) → Safe (lp_148_15 x0 x1 n x2 d).2 → K (.inl (some (0, (lp_148_15 x0 x1 n x2 d).1))) (lp_148_15 x0 x1 n x2 d).2) → tRun E 148 (15, [.inr (10, x0), .inl (0, x1), .inl (0, x2), v3], [], 1, 6, d) K := by
  intro n
  induction n with
  | zero =>
    intro x2 v3 d hS i0 i1 hm  h
    exact ls_148_15 hx0 p1 0 _ (fun _ _ _ _ _ _ m0 m1 _ => absurd m1 (by omega)) x2 v3 d hS i0 i1 hm  h
  | succ n ih =>
    intro x2 v3 d hS i0 i1 hm  h
    exact ls_148_15 hx0 p1 ((n + 1 : Nat) : Int) _ (fun x2 v3 d hS i0 i1  m0 m1 h => ih x2 v3 d hS i0 i1 (by omega)  h) x2 v3 d hS i0 i1 hm  h
theorem k_148 {E : mO × tW} {K : tK} {d : mD} {x0 x1 : Int} (hS : Safe d) (hx0 : wbB x0) (p1 : -2147483648 ≤ x1 ∧ x1 ≤ 2147483647) (h0 : (x1 < 0) → K (.inr 1) d) (h1 : (0 ≤ x1) → (x1 < d (x0 + 1 + 2) 0) → (0 ≤ (lp_148_15 x0 x1 (16 - 0 : Int).toNat 0 (mset d (x0 + 572) 1 0)).1 ∧ (lp_148_15 x0 x1 (16 - 0 : Int).toNat 0 (mset d (x0 + 572) 1 0)).1 ≤ 1000) → (∀ b : Int, (b < x0 + 572 ∨ x0 + 573 < b) → (lp_148_15 x0 x1 (16 - 0 : Int).toNat 0 (mset d (x0 + 572) 1 0)).2 b = d b) → Safe (lp_148_15 x0 x1 (16 - 0 : Int).toNat 0 (mset d (x0 + 572) 1 0)).2 → K (.inl (some (0, (lp_148_15 x0 x1 (16 - 0 : Int).toNat 0 (mset d (x0 + 572) 1 0)).1))) (lp_148_15 x0 x1 (16 - 0 : Int).toNat 0 (mset d (x0 + 572) 1 0)).2) (h2 : (0 ≤ x1) → (d (x0 + 1 + 2) 0 ≤ x1) → K (.inr 1) d) : tCall E 148 [.inr (10, x0), .inl (0, x1)] d K := by
  refine t_148_0 ?_
  have w0 : x0 = 0 := hx0
  have w2 := r_6_f2 hS (wbB.nw hx0)
  have w3 := r_3_f0 hS (stB.of (wbB.nw hx0))
  have w4 := r_4_f0 hS (stB.pe (wbB.nw hx0))
  have w5 := r_8_f0 hS (stB.ti (wbB.nw hx0))
  have w6 := r_9_f0 hS (stB.to (wbB.nw hx0))
  have w7 := r_7_f1 hS (wbB.tx hx0)
  refine k_165 hS hx0 (m_inR (by omega) (by omega)) (fun z0 => ?_) (fun z0 z1 => ?_) (fun z0 z1 => ?_)
  · exact h0 z0
  · refine t_148_5 ?_
    have hS9 : Safe (mset d (x0 + 572) 1 0) := s_7_f1 hS (wbB.ou hx0) (by omega)
    refine l_148_15 hx0 p1 (16 - 0 : Int).toNat 0 tu (mset d (x0 + 572) 1 0) hS9 (by omega) (by omega) (by omega) ?_
    intro e F hS_
    exact h1 z0 z1 e (fun b hb => (F b hb).trans ((show ∀ b : Int, (b < x0 + 572 ∨ x0 + 573 < b) → (mset d (x0 + 572) 1 0) b = d b from fun b hb => mset_ne (by omega)) b hb)) hS_
  · exact h2 z0 z1
/-! ===== contracts of the reference's methods: printed by a program of mine ===== -/
def v_175 (x0 : Int) (d : mD) : Int := d x0 0
theorem k_175 {E : mO × tW} {K : tK} {d : mD} {x0 : Int} (hS : Safe d) (hx0 : mdB x0) (h : (0 ≤ (v_175 x0 d) ∧ (v_175 x0 d) ≤ 3) → K (.inl (some (0, (v_175 x0 d)))) d) : tCall E 175 [.inr (11, x0)] d K := by
  refine t_175_0 ?_
  have q1 := r_11_f0 hS hx0
  have y0 : v_175 x0 d = d x0 0 := by simp only [v_175]
  rw [y0] at h
  exact h (show 0 ≤ (d x0 0) ∧ (d x0 0) ≤ 3 from (by omega))
def v_176 (x0 x2 x4 : Int) (d : mD) : Int := if mcmp x0 x2 < 0 then 0 else if (0 : Int) < mcmp x0 x4 then 0 else 1
theorem k_176 {E : mO × tW} {K : tK} {d : mD} {x0 x2 x4 : Int} (hS : Safe d) (p0 : -2147483648 ≤ x0 ∧ x0 ≤ 2147483647) (p1 : -2147483648 ≤ x2 ∧ x2 ≤ 2147483647) (p2 : -2147483648 ≤ x4 ∧ x4 ≤ 2147483647) (h : ((0 ≤ (v_176 x0 x2 x4 d) ∧ (v_176 x0 x2 x4 d) ≤ 1) ∧ ((v_176 x0 x2 x4 d) = 0 ∨ (x2 ≤ x0 ∧ x0 ≤ x4)) ∧ ((v_176 x0 x2 x4 d) = 1 ∨ x0 < x2 ∨ x4 < x0)) → K (.inl (some (0, (v_176 x0 x2 x4 d)))) d) : tCall E 176 [.inl (1, x0), .inl (1, x2), .inl (1, x4)] d K := by
  refine t_176_0 ?_
  have q1 := mcmp_r x0 x2
  refine ⟨⟨⟨by omega, by omega⟩, ⟨by omega, by omega⟩⟩, m_inR (by omega) (by omega), fun c0 => ?_, fun c0 => ?_⟩
  · refine ⟨by omega, ?_⟩
    have y0 : v_176 x0 x2 x4 d = 0 := by simp only [v_176, if_pos (show mcmp x0 x2 < 0 from c0)]
    rw [y0] at h
    exact h (show (0 ≤ ((0 : Int)) ∧ ((0 : Int)) ≤ 1) ∧ (((0 : Int)) = 0 ∨ (x2 ≤ x0 ∧ x0 ≤ x4)) ∧ (((0 : Int)) = 1 ∨ x0 < x2 ∨ x4 < x0) from (by omega))
  · have q2 := mcmp_r x0 x4
    refine ⟨⟨⟨by omega, by omega⟩, ⟨by omega, by omega⟩⟩, m_inR (by omega) (by omega), fun c1 => ?_, fun c1 => ?_⟩
    · refine ⟨by omega, ?_⟩
      have y0 : v_176 x0 x2 x4 d = 0 := by simp only [v_176, if_neg (show ¬ mcmp x0 x2 < 0 from Int.not_lt.mpr c0), if_pos (show (0 : Int) < mcmp x0 x4 from c1)]
      rw [y0] at h
      exact h (show (0 ≤ ((0 : Int)) ∧ ((0 : Int)) ≤ 1) ∧ (((0 : Int)) = 0 ∨ (x2 ≤ x0 ∧ x0 ≤ x4)) ∧ (((0 : Int)) = 1 ∨ x0 < x2 ∨ x4 < x0) from (by omega))
    · refine ⟨by omega, ?_⟩
      have y0 : v_176 x0 x2 x4 d = 1 := by simp only [v_176, if_neg (show ¬ mcmp x0 x2 < 0 from Int.not_lt.mpr c0), if_neg (show ¬ (0 : Int) < mcmp x0 x4 from Int.not_lt.mpr c1)]
      rw [y0] at h
      exact h (show (0 ≤ ((1 : Int)) ∧ ((1 : Int)) ≤ 1) ∧ (((1 : Int)) = 0 ∨ (x2 ≤ x0 ∧ x0 ≤ x4)) ∧ (((1 : Int)) = 1 ∨ x0 < x2 ∨ x4 < x0) from (by omega))
theorem k_177 {E : mO × tW} {K : tK} {d : mD} {x0 : Int} (hS : Safe d) (h : K (.inl (some (0, 12 + (68 * x0)))) d) : tCall E 177 [.inl (0, x0)] d K := t_177_0 h
theorem k_178 {E : mO × tW} {K : tK} {d : mD} {x0 : Int} (hS : Safe d) (h : K (.inl (some (0, 420 + (2 * x0)))) d) : tCall E 178 [.inl (0, x0)] d K := t_178_0 h
theorem k_179 {E : mO × tW} {K : tK} {d : mD} {x0 : Int} (hS : Safe d) (h : K (.inl (some (0, 452 + (24 * x0)))) d) : tCall E 179 [.inl (0, x0)] d K := t_179_0 h
theorem k_180 {E : mO × tW} {K : tK} {d : mD} {x0 : Int} (hS : Safe d) (h : K (.inl (some (0, 1916 + (5 * x0)))) d) : tCall E 180 [.inl (0, x0)] d K := t_180_0 h
def mpP (f : Int → Int) : Prop := ∀ o, 0 ≤ o → o < f 7 → 1 ≤ f (12 + 68 * o + 2)
theorem mpP.of {f g : Int → Int} (h7 : 0 ≤ g 7 ∧ g 7 ≤ 6) (Q : ∀ i : Int, i = 7 ∨ (12 ≤ i ∧ i < 420 ∧ (i - 12) % 68 = 2) → f i = g i) (h : mpP g) : mpP f := by
  intro o h0 h1
  rw [Q 7 (by omega)] at h1
  rw [Q _ (by omega)]
  exact h o h0 h1
theorem mpP.grow {f g : Int → Int} (h7 : f 7 = g 7 + 1) (hn : 1 ≤ f (12 + 68 * g 7 + 2)) (ho : ∀ o, 0 ≤ o → o < g 7 → f (12 + 68 * o + 2) = g (12 + 68 * o + 2)) (h : mpP g) : mpP f := by
  intro o h0 h1
  rw [h7] at h1
  by_cases e : o = g 7
  · subst e; exact hn
  · rw [ho o h0 (by omega)]; exact h o h0 (by omega)
def g_181 (x0 x1 x2 x3 x4 : Int) (d : mD) : mD := mset (mset (mset (mset (mset (mset d (x0 + 1) ((12 + (68 * (d (x0 + 1) 7))) + 0) x1) (x0 + 1) ((12 + (68 * (d (x0 + 1) 7))) + 1) x2) (x0 + 1) ((12 + (68 * (d (x0 + 1) 7))) + 2) x3) (x0 + 1) ((12 + (68 * (d (x0 + 1) 7))) + 3) x4) (x0 + 1) ((12 + (68 * (d (x0 + 1) 7))) + 4) 1) (x0 + 1) 7 ((d (x0 + 1) 7) + 1)
theorem k_181 {E : mO × tW} {K : tK} {d : mD} {x0 x1 x2 x3 x4 : Int} (hS : Safe d) (hx0 : mdB x0) (p1 : 0 ≤ x1 ∧ x1 ≤ 387420488) (p2 : 0 ≤ x2 ∧ x2 ≤ 4) (p3 : 0 ≤ x3 ∧ x3 ≤ 6) (p4 : 0 ≤ x4 ∧ x4 ≤ 20) (ho : d (x0 + 1) 7 ≤ 5) (hpc : 1 ≤ x3) (hmp : mpP (d (x0 + 1))) (h : (∀ b : Int, (b < x0 + 1 ∨ x0 + 1 < b) → (g_181 x0 x1 x2 x3 x4 d) b = d b) → (∀ i : Int, i = 0 ∨ (452 ≤ i ∧ i < 1916) → (g_181 x0 x1 x2 x3 x4 d) (x0 + 1) i = d (x0 + 1) i) → mpP ((g_181 x0 x1 x2 x3 x4 d) (x0 + 1)) → Safe (g_181 x0 x1 x2 x3 x4 d) → K (.inl none) (g_181 x0 x1 x2 x3 x4 d)) : tCall E 181 [.inr (11, x0), .inl (0, x1), .inl (0, x2), .inl (0, x3), .inl (0, x4)] d K := by
  refine t_181_0 ?_
  refine ⟨by omega, ?_⟩
  refine k_177 hS ?_
  refine t_181_10 ?_
  have q1 := mh_7 hS hx0 _ rfl
  refine ⟨by omega, ?_⟩
  have hS1 : Safe (mset d (x0 + 1) ((12 + (68 * (d (x0 + 1) 7))) + 0) x1) := smo_0 hS hx0 (d (x0 + 1) 7) ((12 + (68 * (d (x0 + 1) 7))) + 0) (by omega) (by omega) (by omega)
  refine ⟨by omega, ?_⟩
  have hS2 : Safe (mset (mset d (x0 + 1) ((12 + (68 * (d (x0 + 1) 7))) + 0) x1) (x0 + 1) ((12 + (68 * (d (x0 + 1) 7))) + 1) x2) := smo_1 hS1 hx0 (d (x0 + 1) 7) ((12 + (68 * (d (x0 + 1) 7))) + 1) (by omega) (by omega) (by omega)
  refine ⟨by omega, ?_⟩
  have hS3 : Safe (mset (mset (mset d (x0 + 1) ((12 + (68 * (d (x0 + 1) 7))) + 0) x1) (x0 + 1) ((12 + (68 * (d (x0 + 1) 7))) + 1) x2) (x0 + 1) ((12 + (68 * (d (x0 + 1) 7))) + 2) x3) := smo_2 hS2 hx0 (d (x0 + 1) 7) ((12 + (68 * (d (x0 + 1) 7))) + 2) (by omega) (by omega) (by omega)
  refine ⟨by omega, ?_⟩
  have hS4 : Safe (mset (mset (mset (mset d (x0 + 1) ((12 + (68 * (d (x0 + 1) 7))) + 0) x1) (x0 + 1) ((12 + (68 * (d (x0 + 1) 7))) + 1) x2) (x0 + 1) ((12 + (68 * (d (x0 + 1) 7))) + 2) x3) (x0 + 1) ((12 + (68 * (d (x0 + 1) 7))) + 3) x4) := smo_3 hS3 hx0 (d (x0 + 1) 7) ((12 + (68 * (d (x0 + 1) 7))) + 3) (by omega) (by omega) (by omega)
  refine ⟨by omega, ?_⟩
  have hS5 : Safe (mset (mset (mset (mset (mset d (x0 + 1) ((12 + (68 * (d (x0 + 1) 7))) + 0) x1) (x0 + 1) ((12 + (68 * (d (x0 + 1) 7))) + 1) x2) (x0 + 1) ((12 + (68 * (d (x0 + 1) 7))) + 2) x3) (x0 + 1) ((12 + (68 * (d (x0 + 1) 7))) + 3) x4) (x0 + 1) ((12 + (68 * (d (x0 + 1) 7))) + 4) 1) := smo_4 hS4 hx0 (d (x0 + 1) 7) ((12 + (68 * (d (x0 + 1) 7))) + 4) (by omega) (by omega) (by omega)
  rw [mset_ni (d := mset (mset (mset (mset d (x0 + 1) ((12 + (68 * (d (x0 + 1) 7))) + 0) x1) (x0 + 1) ((12 + (68 * (d (x0 + 1) 7))) + 1) x2) (x0 + 1) ((12 + (68 * (d (x0 + 1) 7))) + 2) x3) (x0 + 1) ((12 + (68 * (d (x0 + 1) 7))) + 3) x4) (a := x0 + 1) (i := (12 + (68 * (d (x0 + 1) 7))) + 4) (v := (1 : Int)) (b := x0 + 1) (j := (7 : Int)) (by omega)]
  rw [mset_ni (d := mset (mset (mset d (x0 + 1) ((12 + (68 * (d (x0 + 1) 7))) + 0) x1) (x0 + 1) ((12 + (68 * (d (x0 + 1) 7))) + 1) x2) (x0 + 1) ((12 + (68 * (d (x0 + 1) 7))) + 2) x3) (a := x0 + 1) (i := (12 + (68 * (d (x0 + 1) 7))) + 3) (v := x4) (b := x0 + 1) (j := (7 : Int)) (by omega)]
  rw [mset_ni (d := mset (mset d (x0 + 1) ((12 + (68 * (d (x0 + 1) 7))) + 0) x1) (x0 + 1) ((12 + (68 * (d (x0 + 1) 7))) + 1) x2) (a := x0 + 1) (i := (12 + (68 * (d (x0 + 1) 7))) + 2) (v := x3) (b := x0 + 1) (j := (7 : Int)) (by omega)]
  rw [mset_ni (d := mset d (x0 + 1) ((12 + (68 * (d (x0 + 1) 7))) + 0) x1) (a := x0 + 1) (i := (12 + (68 * (d (x0 + 1) 7))) + 1) (v := x2) (b := x0 + 1) (j := (7 : Int)) (by omega)]
  rw [mset_ni (d := d) (a := x0 + 1) (i := (12 + (68 * (d (x0 + 1) 7))) + 0) (v := x1) (b := x0 + 1) (j := (7 : Int)) (by omega)]
  refine ⟨by omega, by omega, ?_⟩
  have hS6 : Safe (mset (mset (mset (mset (mset (mset d (x0 + 1) ((12 + (68 * (d (x0 + 1) 7))) + 0) x1) (x0 + 1) ((12 + (68 * (d (x0 + 1) 7))) + 1) x2) (x0 + 1) ((12 + (68 * (d (x0 + 1) 7))) + 2) x3) (x0 + 1) ((12 + (68 * (d (x0 + 1) 7))) + 3) x4) (x0 + 1) ((12 + (68 * (d (x0 + 1) 7))) + 4) 1) (x0 + 1) 7 ((d (x0 + 1) 7) + 1)) := smh_7 hS5 hx0 _ rfl (by omega)
  have y0 : g_181 x0 x1 x2 x3 x4 d = mset (mset (mset (mset (mset (mset d (x0 + 1) ((12 + (68 * (d (x0 + 1) 7))) + 0) x1) (x0 + 1) ((12 + (68 * (d (x0 + 1) 7))) + 1) x2) (x0 + 1) ((12 + (68 * (d (x0 + 1) 7))) + 2) x3) (x0 + 1) ((12 + (68 * (d (x0 + 1) 7))) + 3) x4) (x0 + 1) ((12 + (68 * (d (x0 + 1) 7))) + 4) 1) (x0 + 1) 7 ((d (x0 + 1) 7) + 1) := by simp only [g_181]
  rw [y0] at h
  exact h (show ∀ b : Int, (b < x0 + 1 ∨ x0 + 1 < b) → (mset (mset (mset (mset (mset (mset d (x0 + 1) ((12 + (68 * (d (x0 + 1) 7))) + 0) x1) (x0 + 1) ((12 + (68 * (d (x0 + 1) 7))) + 1) x2) (x0 + 1) ((12 + (68 * (d (x0 + 1) 7))) + 2) x3) (x0 + 1) ((12 + (68 * (d (x0 + 1) 7))) + 3) x4) (x0 + 1) ((12 + (68 * (d (x0 + 1) 7))) + 4) 1) (x0 + 1) 7 ((d (x0 + 1) 7) + 1)) b = d b from fun b hb => (mset_ne (by omega)).trans ((mset_ne (by omega)).trans ((mset_ne (by omega)).trans ((mset_ne (by omega)).trans ((mset_ne (by omega)).trans (mset_ne (by omega))))))) (show ∀ i : Int, i = 0 ∨ (452 ≤ i ∧ i < 1916) → (mset (mset (mset (mset (mset (mset d (x0 + 1) ((12 + (68 * (d (x0 + 1) 7))) + 0) x1) (x0 + 1) ((12 + (68 * (d (x0 + 1) 7))) + 1) x2) (x0 + 1) ((12 + (68 * (d (x0 + 1) 7))) + 2) x3) (x0 + 1) ((12 + (68 * (d (x0 + 1) 7))) + 3) x4) (x0 + 1) ((12 + (68 * (d (x0 + 1) 7))) + 4) 1) (x0 + 1) 7 ((d (x0 + 1) 7) + 1)) (x0 + 1) i = d (x0 + 1) i from fun i hi => (((((mset_ni (by omega)).trans (mset_ni (by omega))).trans (mset_ni (by omega))).trans (mset_ni (by omega))).trans (mset_ni (by omega))).trans (mset_ni (by omega))) (mpP.grow mset_eq (Int.le_trans hpc (Int.le_of_eq ((mset_ni (by omega)).trans ((mset_ni (by omega)).trans ((mset_ni (by omega)).trans mset_eq))).symm)) (fun o o0 o1 => (mset_ni (by omega)).trans ((mset_ni (by omega)).trans ((mset_ni (by omega)).trans ((mset_ni (by omega)).trans ((mset_ni (by omega)).trans (mset_ni (by omega))))))) hmp) hS6
def g_182 (x0 x1 : Int) (d : mD) : mD := mset (mset (mset d (x0 + 1) ((420 + (2 * (d (x0 + 1) 8))) + 0) x1) (x0 + 1) ((420 + (2 * (d (x0 + 1) 8))) + 1) 0) (x0 + 1) 8 ((d (x0 + 1) 8) + 1)
theorem k_182 {E : mO × tW} {K : tK} {d : mD} {x0 x1 : Int} (hS : Safe d) (hx0 : mdB x0) (p1 : 0 ≤ x1 ∧ x1 ≤ 387420488) (ho : d (x0 + 1) 8 ≤ 15) (h : (∀ b : Int, (b < x0 + 1 ∨ x0 + 1 < b) → (g_182 x0 x1 d) b = d b) → (∀ i : Int, i = 7 ∨ (12 ≤ i ∧ i < 420 ∧ (i - 12) % 68 = 2) ∨ i = 0 ∨ (452 ≤ i ∧ i < 1916) → (g_182 x0 x1 d) (x0 + 1) i = d (x0 + 1) i) → Safe (g_182 x0 x1 d) → K (.inl none) (g_182 x0 x1 d)) : tCall E 182 [.inr (11, x0), .inl (0, x1)] d K := by
  refine t_182_0 ?_
  refine ⟨by omega, ?_⟩
  refine k_178 hS ?_
  refine t_182_14 ?_
  have q1 := mh_8 hS hx0 _ rfl
  refine ⟨by omega, ?_⟩
  have hS1 : Safe (mset d (x0 + 1) ((420 + (2 * (d (x0 + 1) 8))) + 0) x1) := smp_0 hS hx0 (d (x0 + 1) 8) ((420 + (2 * (d (x0 + 1) 8))) + 0) (by omega) (by omega) (by omega)
  rw [mset_ni (d := d) (a := x0 + 1) (i := (420 + (2 * (d (x0 + 1) 8))) + 0) (v := x1) (b := x0 + 1) (j := (8 : Int)) (by omega)]
  refine ⟨by omega, ?_⟩
  refine k_178 hS1 ?_
  refine t_182_32 ?_
  refine ⟨by omega, ?_⟩
  have hS2 : Safe (mset (mset d (x0 + 1) ((420 + (2 * (d (x0 + 1) 8))) + 0) x1) (x0 + 1) ((420 + (2 * (d (x0 + 1) 8))) + 1) 0) := smz hS1 hx0 ((420 + (2 * (d (x0 + 1) 8))) + 1)
  rw [mset_ni (d := mset d (x0 + 1) ((420 + (2 * (d (x0 + 1) 8))) + 0) x1) (a := x0 + 1) (i := (420 + (2 * (d (x0 + 1) 8))) + 1) (v := (0 : Int)) (b := x0 + 1) (j := (8 : Int)) (by omega)]
  rw [mset_ni (d := d) (a := x0 + 1) (i := (420 + (2 * (d (x0 + 1) 8))) + 0) (v := x1) (b := x0 + 1) (j := (8 : Int)) (by omega)]
  refine ⟨by omega, by omega, ?_⟩
  have hS3 : Safe (mset (mset (mset d (x0 + 1) ((420 + (2 * (d (x0 + 1) 8))) + 0) x1) (x0 + 1) ((420 + (2 * (d (x0 + 1) 8))) + 1) 0) (x0 + 1) 8 ((d (x0 + 1) 8) + 1)) := smh_8 hS2 hx0 _ rfl (by omega)
  have y0 : g_182 x0 x1 d = mset (mset (mset d (x0 + 1) ((420 + (2 * (d (x0 + 1) 8))) + 0) x1) (x0 + 1) ((420 + (2 * (d (x0 + 1) 8))) + 1) 0) (x0 + 1) 8 ((d (x0 + 1) 8) + 1) := by simp only [g_182]
  rw [y0] at h
  exact h (show ∀ b : Int, (b < x0 + 1 ∨ x0 + 1 < b) → (mset (mset (mset d (x0 + 1) ((420 + (2 * (d (x0 + 1) 8))) + 0) x1) (x0 + 1) ((420 + (2 * (d (x0 + 1) 8))) + 1) 0) (x0 + 1) 8 ((d (x0 + 1) 8) + 1)) b = d b from fun b hb => (mset_ne (by omega)).trans ((mset_ne (by omega)).trans (mset_ne (by omega)))) (show ∀ i : Int, i = 7 ∨ (12 ≤ i ∧ i < 420 ∧ (i - 12) % 68 = 2) ∨ i = 0 ∨ (452 ≤ i ∧ i < 1916) → (mset (mset (mset d (x0 + 1) ((420 + (2 * (d (x0 + 1) 8))) + 0) x1) (x0 + 1) ((420 + (2 * (d (x0 + 1) 8))) + 1) 0) (x0 + 1) 8 ((d (x0 + 1) 8) + 1)) (x0 + 1) i = d (x0 + 1) i from fun i hi => ((mset_ni (by omega)).trans (mset_ni (by omega))).trans (mset_ni (by omega))) hS3
def st_183_2 (x0 x1 : Int) (r2 : Int → mD → Int) (x2 : Int) (d : mD) : Int := if x2 < d (x0 + 1) 8 then (if d (x0 + 1) ((420 + (2 * x2)) + 0) = x1 then x2 else r2 (x2 + 1) d) else (-1)
def lp_183_2 (x0 x1 : Int) : Nat → Int → mD → Int
  | 0 => st_183_2 x0 x1 (fun _ d => 0)
  | n + 1 => st_183_2 x0 x1 (lp_183_2 x0 x1 n)
theorem ls_183_2 {E : mO × tW} {K : tK} {x0 x1 : Int} (hx0 : mdB x0) (p1 : -2147483648 ≤ x1 ∧ x1 ≤ 2147483647) (N2 : Int) (r2 : Int → mD → Int) (ih2 : ∀ (x2 : Int) (d : mD), Safe d → (0 ≤ x2 ∧ x2 ≤ 16) → 0 ≤ 16 - x2 → 16 - x2 < N2 → ((-1 ≤ (r2 x2 d) ∧ (r2 x2 d) ≤ 15) → K (.inl (some (0, (r2 x2 d)))) d) → tRun E 183 (2, [.inr (11, x0), .inl (0, x1), .inl (0, x2)], [], 0, 0, d) K) (x2 : Int) (d : mD) (hS : Safe d) (i0 : 0 ≤ x2 ∧ x2 ≤ 16) (hm : 16 - x2 ≤ N2) (h : (-1 ≤ (st_183_2 x0 x1 r2 x2 d) ∧ (st_183_2 x0 x1 r2 x2 d) ≤ 15) → K (.inl (some (0, (st_183_2 x0 x1 r2 x2 d)))) d) : tRun E 183 (2, [.inr (11, x0), .inl (0, x1), .inl (0, x2)], [], 0, 0, d) K := by
  refine t_183_2 ?_
  have q1 := mh_8 hS hx0 _ rfl
  refine ⟨by omega, ⟨m_inR (by omega) (by omega), m_inR (by omega) (by omega)⟩, fun c0 => ?_, fun c0 => ?_⟩
  · have y0 : st_183_2 x0 x1 r2 x2 d = (-1) := by simp only [st_183_2, if_neg (show ¬ x2 < d (x0 + 1) 8 from Int.not_lt.mpr c0)]
    rw [y0] at h
    exact h (show -1 ≤ ((-1 : Int)) ∧ ((-1 : Int)) ≤ 15 from (by omega))
  · refine k_178 hS ?_
    refine t_183_21 ?_
    have q2 := mp_0 hS hx0 x2 ((420 + (2 * x2)) + 0) (by omega) (by omega)
    refine ⟨by omega, ⟨m_inR (by omega) (by omega), m_inR (by omega) (by omega)⟩, fun c1 => ?_, fun c1 => ?_⟩
    · refine ih2 (x2 + 1)  d hS (by omega) (by omega) (by omega) ?_
      intro e
      have y0 : st_183_2 x0 x1 r2 x2 d = r2 (x2 + 1) d := by simp only [st_183_2, if_pos (show x2 < d (x0 + 1) 8 from c0), if_neg (show ¬ d (x0 + 1) ((420 + (2 * x2)) + 0) = x1 from c1)]
      rw [y0] at h
      exact h e
    · have y0 : st_183_2 x0 x1 r2 x2 d = x2 := by simp only [st_183_2, if_pos (show x2 < d (x0 + 1) 8 from c0), if_pos (show d (x0 + 1) ((420 + (2 * x2)) + 0) = x1 from c1)]
      rw [y0] at h
      exact h (show -1 ≤ x2 ∧ x2 ≤ 15 from (by omega))
theorem l_183_2 {E : mO × tW} {K : tK} {x0 x1 : Int} (hx0 : mdB x0) (p1 : -2147483648 ≤ x1 ∧ x1 ≤ 2147483647) : ∀ (n : Nat) (x2 : Int) (d : mD), Safe d → (0 ≤ x2 ∧ x2 ≤ 16) → 16 - x2 ≤ (n : Int) → ((-1 ≤ (lp_183_2 x0 x1 n x2 d) ∧ (lp_183_2 x0 x1 n x2 d) ≤ 15) → K (.inl (some (0, (lp_183_2 x0 x1 n x2 d)))) d) → tRun E 183 (2, [.inr (11, x0), .inl (0, x1), .inl (0, x2)], [], 0, 0, d) K := by
  intro n
  induction n with
  | zero =>
    intro x2  d hS i0 hm  h
    exact ls_183_2 hx0 p1 0 _ (fun _  _ _ _ m0 m1 _ => absurd m1 (by omega)) x2  d hS i0 hm  h
  | succ n ih =>
    intro x2  d hS i0 hm  h
    exact ls_183_2 hx0 p1 ((n + 1 : Nat) : Int) _ (fun x2  d hS i0  m0 m1 h => ih x2  d hS i0 (by omega)  h) x2  d hS i0 hm  h
def v_183 (x0 x1 : Int) (d : mD) : Int := lp_183_2 x0 x1 (16 - 0 : Int).toNat 0 d
theorem k_183 {E : mO × tW} {K : tK} {d : mD} {x0 x1 : Int} (hS : Safe d) (hx0 : mdB x0) (p1 : -2147483648 ≤ x1 ∧ x1 ≤ 2147483647) (h : (-1 ≤ (v_183 x0 x1 d) ∧ (v_183 x0 x1 d) ≤ 15) → K (.inl (some (0, (v_183 x0 x1 d)))) d) : tCall E 183 [.inr (11, x0), .inl (0, x1)] d K := by
  refine t_183_0 ?_
  have q3 := mh_8 hS hx0 _ rfl
  refine l_183_2 hx0 p1 (16 - 0 : Int).toNat 0  d hS (by omega) (by omega) ?_
  intro e
  have y0 : v_183 x0 x1 d = lp_183_2 x0 x1 (16 - 0 : Int).toNat 0 d := by simp only [v_183]
  rw [y0] at h
  exact h e
def st_184_2 (x0 x1 : Int) (r2 : Int → mD → Int) (x2 : Int) (d : mD) : Int := if x2 < d (x0 + 1) 7 then (if d (x0 + 1) ((12 + (68 * x2)) + 0) = x1 then x2 else r2 (x2 + 1) d) else (-1)
def lp_184_2 (x0 x1 : Int) : Nat → Int → mD → Int
  | 0 => st_184_2 x0 x1 (fun _ d => 0)
  | n + 1 => st_184_2 x0 x1 (lp_184_2 x0 x1 n)
theorem ls_184_2 {E : mO × tW} {K : tK} {x0 x1 : Int} (hx0 : mdB x0) (p1 : -2147483648 ≤ x1 ∧ x1 ≤ 2147483647) (N2 : Int) (r2 : Int → mD → Int) (ih2 : ∀ (x2 : Int) (d : mD), Safe d → (0 ≤ x2 ∧ x2 ≤ 6) → 0 ≤ 6 - x2 → 6 - x2 < N2 → ((-1 ≤ (r2 x2 d) ∧ (r2 x2 d) ≤ 5) → K (.inl (some (0, (r2 x2 d)))) d) → tRun E 184 (2, [.inr (11, x0), .inl (0, x1), .inl (0, x2)], [], 0, 0, d) K) (x2 : Int) (d : mD) (hS : Safe d) (i0 : 0 ≤ x2 ∧ x2 ≤ 6) (hm : 6 - x2 ≤ N2) (h : (-1 ≤ (st_184_2 x0 x1 r2 x2 d) ∧ (st_184_2 x0 x1 r2 x2 d) ≤ 5) → K (.inl (some (0, (st_184_2 x0 x1 r2 x2 d)))) d) : tRun E 184 (2, [.inr (11, x0), .inl (0, x1), .inl (0, x2)], [], 0, 0, d) K := by
  refine t_184_2 ?_
  have q1 := mh_7 hS hx0 _ rfl
  refine ⟨by omega, ⟨m_inR (by omega) (by omega), m_inR (by omega) (by omega)⟩, fun c0 => ?_, fun c0 => ?_⟩
  · have y0 : st_184_2 x0 x1 r2 x2 d = (-1) := by simp only [st_184_2, if_neg (show ¬ x2 < d (x0 + 1) 7 from Int.not_lt.mpr c0)]
    rw [y0] at h
    exact h (show -1 ≤ ((-1 : Int)) ∧ ((-1 : Int)) ≤ 5 from (by omega))
  · refine k_177 hS ?_
    refine t_184_21 ?_
    have q2 := mo_0 hS hx0 x2 ((12 + (68 * x2)) + 0) (by omega) (by omega)
    refine ⟨by omega, ⟨m_inR (by omega) (by omega), m_inR (by omega) (by omega)⟩, fun c1 => ?_, fun c1 => ?_⟩
    · refine ih2 (x2 + 1)  d hS (by omega) (by omega) (by omega) ?_
      intro e
      have y0 : st_184_2 x0 x1 r2 x2 d = r2 (x2 + 1) d := by simp only [st_184_2, if_pos (show x2 < d (x0 + 1) 7 from c0), if_neg (show ¬ d (x0 + 1) ((12 + (68 * x2)) + 0) = x1 from c1)]
      rw [y0] at h
      exact h e
    · have y0 : st_184_2 x0 x1 r2 x2 d = x2 := by simp only [st_184_2, if_pos (show x2 < d (x0 + 1) 7 from c0), if_pos (show d (x0 + 1) ((12 + (68 * x2)) + 0) = x1 from c1)]
      rw [y0] at h
      exact h (show -1 ≤ x2 ∧ x2 ≤ 5 from (by omega))
theorem l_184_2 {E : mO × tW} {K : tK} {x0 x1 : Int} (hx0 : mdB x0) (p1 : -2147483648 ≤ x1 ∧ x1 ≤ 2147483647) : ∀ (n : Nat) (x2 : Int) (d : mD), Safe d → (0 ≤ x2 ∧ x2 ≤ 6) → 6 - x2 ≤ (n : Int) → ((-1 ≤ (lp_184_2 x0 x1 n x2 d) ∧ (lp_184_2 x0 x1 n x2 d) ≤ 5) → K (.inl (some (0, (lp_184_2 x0 x1 n x2 d)))) d) → tRun E 184 (2, [.inr (11, x0), .inl (0, x1), .inl (0, x2)], [], 0, 0, d) K := by
  intro n
  induction n with
  | zero =>
    intro x2  d hS i0 hm  h
    exact ls_184_2 hx0 p1 0 _ (fun _  _ _ _ m0 m1 _ => absurd m1 (by omega)) x2  d hS i0 hm  h
  | succ n ih =>
    intro x2  d hS i0 hm  h
    exact ls_184_2 hx0 p1 ((n + 1 : Nat) : Int) _ (fun x2  d hS i0  m0 m1 h => ih x2  d hS i0 (by omega)  h) x2  d hS i0 hm  h
def v_184 (x0 x1 : Int) (d : mD) : Int := lp_184_2 x0 x1 (6 - 0 : Int).toNat 0 d
theorem k_184 {E : mO × tW} {K : tK} {d : mD} {x0 x1 : Int} (hS : Safe d) (hx0 : mdB x0) (p1 : -2147483648 ≤ x1 ∧ x1 ≤ 2147483647) (h : (-1 ≤ (v_184 x0 x1 d) ∧ (v_184 x0 x1 d) ≤ 5) → K (.inl (some (0, (v_184 x0 x1 d)))) d) : tCall E 184 [.inr (11, x0), .inl (0, x1)] d K := by
  refine t_184_0 ?_
  refine l_184_2 hx0 p1 (6 - 0 : Int).toNat 0  d hS (by omega) (by omega) ?_
  intro e
  have y0 : v_184 x0 x1 d = lp_184_2 x0 x1 (6 - 0 : Int).toNat 0 d := by simp only [v_184]
  rw [y0] at h
  exact h e
def st_185_3 (x0 x1 : Int) (r3 : Int → mD → mD) (x2 : Int) (d : mD) : mD := if x2 < 0 then d else r3 (x2 + (-8)) (mset (mset d (x0 + 7) (d x0 9) (miand (mishr x1 x2) 255)) x0 9 ((d x0 9) + 1))
def lp_185_3 (x0 x1 : Int) : Nat → Int → mD → mD
  | 0 => st_185_3 x0 x1 (fun _ d => d)
  | n + 1 => st_185_3 x0 x1 (lp_185_3 x0 x1 n)
theorem ls_185_3 {E : mO × tW} {K : tK} {x0 x1 : Int} (hx0 : mdB x0) (p1 : -2147483648 ≤ x1 ∧ x1 ≤ 2147483647) (N3 : Int) (r3 : Int → mD → mD) (ih3 : ∀ (x2 : Int) (d : mD), Safe d → (-8 ≤ x2 ∧ x2 ≤ 24 ∧ x2 % 8 = 0) → (d x0 9 + x2 / 8 + 1 ≤ 1000) → 0 ≤ x2 + 8 → x2 + 8 < N3 → ((∀ b : Int, (b < x0 ∨ x0 < b) ∧ (b < x0 + 7 ∨ x0 + 7 < b) → (r3 x2 d) b = d b) → ((r3 x2 d) x0 9 = d x0 9 + x2 / 8 + 1) → Safe (r3 x2 d) → K (.inl none) (r3 x2 d)) → tRun E 185 (3, [.inr (11, x0), .inl (0, x1), .inl (0, x2)], [], 0, 0, d) K) (x2 : Int) (d : mD) (hS : Safe d) (i0 : -8 ≤ x2 ∧ x2 ≤ 24 ∧ x2 % 8 = 0) (i1 : d x0 9 + x2 / 8 + 1 ≤ 1000) (hm : x2 + 8 ≤ N3) (h : (∀ b : Int, (b < x0 ∨ x0 < b) ∧ (b < x0 + 7 ∨ x0 + 7 < b) → (st_185_3 x0 x1 r3 x2 d) b = d b) → ((st_185_3 x0 x1 r3 x2 d) x0 9 = d x0 9 + x2 / 8 + 1) → Safe (st_185_3 x0 x1 r3 x2 d) → K (.inl none) (st_185_3 x0 x1 r3 x2 d)) : tRun E 185 (3, [.inr (11, x0), .inl (0, x1), .inl (0, x2)], [], 0, 0, d) K := by
  refine t_185_3 ?_
  refine ⟨m_inR (by omega) (by omega), fun c0 => ?_, fun c0 => ?_⟩
  · have y0 : st_185_3 x0 x1 r3 x2 d = d := by simp only [st_185_3, if_pos (show x2 < 0 from c0)]
    rw [y0] at h
    exact h (show ∀ b : Int, (b < x0 ∨ x0 < b) ∧ (b < x0 + 7 ∨ x0 + 7 < b) → d b = d b from fun _ _ => rfl) (show d x0 9 = d x0 9 + x2 / 8 + 1 by omega) hS
  · have q1 := r_11_f9 hS hx0
    have q2 := miand_r (mishr x1 x2) 255 (by decide) (by decide)
    refine ⟨by omega, ?_⟩
    have hS1 : Safe (mset d (x0 + 7) (d x0 9) (miand (mishr x1 x2) 255)) := s_11_7 hS hx0 (by omega)
    rw [mset_ne (d := d) (a := x0 + 7) (i := d x0 9) (v := miand (mishr x1 x2) 255) (b := x0) (by omega)]
    have hS2 : Safe (mset (mset d (x0 + 7) (d x0 9) (miand (mishr x1 x2) 255)) x0 9 ((d x0 9) + 1)) := s_11_f9 hS1 hx0 (by omega)
    have q3 : (mset (mset d (x0 + 7) (d x0 9) (miand (mishr x1 x2) 255)) x0 9 ((d x0 9) + 1)) x0 9 = (d x0 9) + 1 := mset_eq
    refine ih3 (x2 + (-8))  (mset (mset d (x0 + 7) (d x0 9) (miand (mishr x1 x2) 255)) x0 9 ((d x0 9) + 1)) hS2 (by omega) (by omega) (by omega) (by omega) ?_
    intro F n0 hS_
    have y0 : st_185_3 x0 x1 r3 x2 d = r3 (x2 + (-8)) (mset (mset d (x0 + 7) (d x0 9) (miand (mishr x1 x2) 255)) x0 9 ((d x0 9) + 1)) := by simp only [st_185_3, if_neg (show ¬ x2 < 0 from Int.not_lt.mpr c0)]
    rw [y0] at h
    exact h (fun b hb => (F b hb).trans ((show ∀ b : Int, (b < x0 ∨ x0 < b) ∧ (b < x0 + 7 ∨ x0 + 7 < b) → (mset (mset d (x0 + 7) (d x0 9) (miand (mishr x1 x2) 255)) x0 9 ((d x0 9) + 1)) b = d b from fun b hb => (mset_ne (by omega)).trans (mset_ne (by omega))) b hb)) (by omega) hS_
theorem l_185_3 {E : mO × tW} {K : tK} {x0 x1 : Int} (hx0 : mdB x0) (p1 : -2147483648 ≤ x1 ∧ x1 ≤ 2147483647) : ∀ (n : Nat) (x2 : Int) (d : mD), Safe d → (-8 ≤ x2 ∧ x2 ≤ 24 ∧ x2 % 8 = 0) → (d x0 9 + x2 / 8 + 1 ≤ 1000) → x2 + 8 ≤ (n : Int) → ((∀ b : Int, (b < x0 ∨ x0 < b) ∧ (b < x0 + 7 ∨ x0 + 7 < b) → (lp_185_3 x0 x1 n x2 d) b = d b) → ((lp_185_3 x0 x1 n x2 d) x0 9 = d x0 9 + x2 / 8 + 1) → Safe (lp_185_3 x0 x1 n x2 d) → K (.inl none) (lp_185_3 x0 x1 n x2 d)) → tRun E 185 (3, [.inr (11, x0), .inl (0, x1), .inl (0, x2)], [], 0, 0, d) K := by
  intro n
  induction n with
  | zero =>
    intro x2  d hS i0 i1 hm  h
    exact ls_185_3 hx0 p1 0 _ (fun _  _ _ _ _ m0 m1 _ => absurd m1 (by omega)) x2  d hS i0 i1 hm  h
  | succ n ih =>
    intro x2  d hS i0 i1 hm  h
    exact ls_185_3 hx0 p1 ((n + 1 : Nat) : Int) _ (fun x2  d hS i0 i1  m0 m1 h => ih x2  d hS i0 i1 (by omega)  h) x2  d hS i0 i1 hm  h
def g_185 (x0 x1 : Int) (d : mD) : mD := lp_185_3 x0 x1 (24 + 8 : Int).toNat 24 d
theorem k_185 {E : mO × tW} {K : tK} {d : mD} {x0 x1 : Int} (hS : Safe d) (hx0 : mdB x0) (p1 : -2147483648 ≤ x1 ∧ x1 ≤ 2147483647) (hl : d x0 9 + 4 ≤ 1000) (h : (∀ b : Int, (b < x0 ∨ x0 < b) ∧ (b < x0 + 7 ∨ x0 + 7 < b) → (g_185 x0 x1 d) b = d b) → ((g_185 x0 x1 d) x0 9 = d x0 9 + 4) → Safe (g_185 x0 x1 d) → K (.inl none) (g_185 x0 x1 d)) : tCall E 185 [.inr (11, x0), .inl (0, x1)] d K := by
  refine t_185_0 ?_
  refine l_185_3 hx0 p1 (24 + 8 : Int).toNat 24  d hS (by omega) (by omega) (by omega) ?_
  intro F n0 hS_
  have y0 : g_185 x0 x1 d = lp_185_3 x0 x1 (24 + 8 : Int).toNat 24 d := by simp only [g_185]
  rw [y0] at h
  exact h F (by omega) hS_
def v_186 (x0 x1 x2 x3 x4 x5 : Int) (d : mD) : Int := if (1000 : Int) < (d x0 9) + 20 then 0 else (g_185 x0 x5 (g_185 x0 x4 (g_185 x0 x3 (g_185 x0 x2 (g_185 x0 x1 (mset d x0 0 0)))))) x0 9
def g_186 (x0 x1 x2 x3 x4 x5 : Int) (d : mD) : mD := if (1000 : Int) < (d x0 9) + 20 then mset d x0 0 1 else g_185 x0 x5 (g_185 x0 x4 (g_185 x0 x3 (g_185 x0 x2 (g_185 x0 x1 (mset d x0 0 0)))))
theorem k_186 {E : mO × tW} {K : tK} {d : mD} {x0 x1 x2 x3 x4 x5 : Int} (hS : Safe d) (hx0 : mdB x0) (p1 : -2147483648 ≤ x1 ∧ x1 ≤ 2147483647) (p2 : -2147483648 ≤ x2 ∧ x2 ≤ 2147483647) (p3 : -2147483648 ≤ x3 ∧ x3 ≤ 2147483647) (p4 : -2147483648 ≤ x4 ∧ x4 ≤ 2147483647) (p5 : -2147483648 ≤ x5 ∧ x5 ≤ 2147483647) (h : (0 ≤ (v_186 x0 x1 x2 x3 x4 x5 d) ∧ (v_186 x0 x1 x2 x3 x4 x5 d) ≤ 1000) → (∀ b : Int, (b < x0 ∨ x0 < b) ∧ (b < x0 + 7 ∨ x0 + 7 < b) → (g_186 x0 x1 x2 x3 x4 x5 d) b = d b) → Safe (g_186 x0 x1 x2 x3 x4 x5 d) → K (.inl (some (0, (v_186 x0 x1 x2 x3 x4 x5 d)))) (g_186 x0 x1 x2 x3 x4 x5 d)) : tCall E 186 [.inr (11, x0), .inl (0, x1), .inl (0, x2), .inl (0, x3), .inl (0, x4), .inl (0, x5)] d K := by
  refine t_186_0 ?_
  have q1 := r_11_f9 hS hx0
  refine ⟨⟨m_inR (by omega) (by omega), m_inR (by omega) (by omega)⟩, fun c0 => ?_, fun c0 => ?_⟩
  · have hS1 : Safe (mset d x0 0 0) := s_11_f0 hS hx0 (by omega)
    rw [mset_eq (d := d) (a := x0) (i := (0 : Int)) (v := (0 : Int))]
    refine ⟨m_inR (by omega) (by omega), fun c1 => ?_, fun c1 => ?_⟩
    · have q2 : (mset d x0 0 0) x0 9 = d x0 9 := mset_ni (by omega)
      refine k_185 hS1 hx0 (m_inR (by omega) (by omega)) (by omega) (fun F1 n1_0 hS2 => ?_)
      refine t_186_36 ?_
      refine k_185 hS2 hx0 (m_inR (by omega) (by omega)) (by omega) (fun F2 n2_0 hS3 => ?_)
      refine t_186_41 ?_
      refine k_185 hS3 hx0 (m_inR (by omega) (by omega)) (by omega) (fun F3 n3_0 hS4 => ?_)
      refine t_186_46 ?_
      refine k_185 hS4 hx0 (m_inR (by omega) (by omega)) (by omega) (fun F4 n4_0 hS5 => ?_)
      refine t_186_52 ?_
      refine k_185 hS5 hx0 (m_inR (by omega) (by omega)) (by omega) (fun F5 n5_0 hS6 => ?_)
      refine t_186_58 ?_
      have q3 := r_11_f9 hS6 hx0
      have y0 : v_186 x0 x1 x2 x3 x4 x5 d = (g_185 x0 x5 (g_185 x0 x4 (g_185 x0 x3 (g_185 x0 x2 (g_185 x0 x1 (mset d x0 0 0)))))) x0 9 := by simp only [v_186, if_neg (show ¬ (1000 : Int) < (d x0 9) + 20 from Int.not_lt.mpr c0), if_neg (show ¬ (0 : Int) < 0 from Int.not_lt.mpr c1)]
      have y1 : g_186 x0 x1 x2 x3 x4 x5 d = g_185 x0 x5 (g_185 x0 x4 (g_185 x0 x3 (g_185 x0 x2 (g_185 x0 x1 (mset d x0 0 0))))) := by simp only [g_186, if_neg (show ¬ (1000 : Int) < (d x0 9) + 20 from Int.not_lt.mpr c0), if_neg (show ¬ (0 : Int) < 0 from Int.not_lt.mpr c1)]
      rw [y0] at h
      rw [y1] at h
      exact h (show 0 ≤ ((g_185 x0 x5 (g_185 x0 x4 (g_185 x0 x3 (g_185 x0 x2 (g_185 x0 x1 (mset d x0 0 0)))))) x0 9) ∧ ((g_185 x0 x5 (g_185 x0 x4 (g_185 x0 x3 (g_185 x0 x2 (g_185 x0 x1 (mset d x0 0 0)))))) x0 9) ≤ 1000 from (by omega)) (show ∀ b : Int, (b < x0 ∨ x0 < b) ∧ (b < x0 + 7 ∨ x0 + 7 < b) → (g_185 x0 x5 (g_185 x0 x4 (g_185 x0 x3 (g_185 x0 x2 (g_185 x0 x1 (mset d x0 0 0)))))) b = d b from fun b hb => (F5 b (by omega)).trans ((F4 b (by omega)).trans ((F3 b (by omega)).trans ((F2 b (by omega)).trans ((F1 b (by omega)).trans (mset_ne (by omega))))))) hS6
    · exact (show False by omega).elim
  · have hS7 : Safe (mset d x0 0 1) := s_11_f0 hS hx0 (by omega)
    rw [mset_eq (d := d) (a := x0) (i := (0 : Int)) (v := (1 : Int))]
    refine ⟨m_inR (by omega) (by omega), fun c1 => ?_, fun c1 => ?_⟩
    · exact (show False by omega).elim
    · have y0 : v_186 x0 x1 x2 x3 x4 x5 d = 0 := by simp only [v_186, if_pos (show (1000 : Int) < (d x0 9) + 20 from c0), if_pos (show (0 : Int) < 1 from c1)]
      have y1 : g_186 x0 x1 x2 x3 x4 x5 d = mset d x0 0 1 := by simp only [g_186, if_pos (show (1000 : Int) < (d x0 9) + 20 from c0), if_pos (show (0 : Int) < 1 from c1)]
      rw [y0] at h
      rw [y1] at h
      exact h (show 0 ≤ ((0 : Int)) ∧ ((0 : Int)) ≤ 1000 from (by omega)) (show ∀ b : Int, (b < x0 ∨ x0 < b) ∧ (b < x0 + 7 ∨ x0 + 7 < b) → (mset d x0 0 1) b = d b from fun b hb => mset_ne (by omega)) hS7
def v_187 (x0 x1 : Int) (d : mD) : Int := if v_176 x1 0 (d x0 9) d = 0 then 0 else x1
def g_187 (x0 x1 : Int) (d : mD) : mD := if v_176 x1 0 (d x0 9) d = 0 then mset d x0 0 1 else mset (mset d x0 0 0) x0 9 x1
theorem k_187 {E : mO × tW} {K : tK} {d : mD} {x0 x1 : Int} (hS : Safe d) (hx0 : mdB x0) (p1 : -2147483648 ≤ x1 ∧ x1 ≤ 2147483647) (h : (0 ≤ (v_187 x0 x1 d) ∧ (v_187 x0 x1 d) ≤ 1000) → (∀ b : Int, (b < x0 ∨ x0 < b) → (g_187 x0 x1 d) b = d b) → Safe (g_187 x0 x1 d) → K (.inl (some (0, (v_187 x0 x1 d)))) (g_187 x0 x1 d)) : tCall E 187 [.inr (11, x0), .inl (0, x1)] d K := by
  refine t_187_0 ?_
  have q1 := r_11_f9 hS hx0
  refine ⟨m_inR (by omega) (by omega), m_inR (by omega) (by omega), ?_⟩
  refine k_176 hS (m_inR (by omega) (by omega)) (m_inR (by omega) (by omega)) (m_inR (by omega) (by omega)) (fun e1 => ?_)
  refine t_187_12 ?_
  refine ⟨m_inR (by omega) (by omega), fun c0 => ?_, fun c0 => ?_⟩
  · have hS1 : Safe (mset d x0 0 1) := s_11_f0 hS hx0 (by omega)
    rw [mset_eq (d := d) (a := x0) (i := (0 : Int)) (v := (1 : Int))]
    refine ⟨m_inR (by omega) (by omega), fun c1 => ?_, fun c1 => ?_⟩
    · exact (show False by omega).elim
    · have y0 : v_187 x0 x1 d = 0 := by simp only [v_187, if_pos (show v_176 x1 0 (d x0 9) d = 0 from c0), if_pos (show (0 : Int) < 1 from c1)]
      have y1 : g_187 x0 x1 d = mset d x0 0 1 := by simp only [g_187, if_pos (show v_176 x1 0 (d x0 9) d = 0 from c0), if_pos (show (0 : Int) < 1 from c1)]
      rw [y0] at h
      rw [y1] at h
      exact h (show 0 ≤ ((0 : Int)) ∧ ((0 : Int)) ≤ 1000 from (by omega)) (show ∀ b : Int, (b < x0 ∨ x0 < b) → (mset d x0 0 1) b = d b from fun b hb => mset_ne (by omega)) hS1
  · have hS2 : Safe (mset d x0 0 0) := s_11_f0 hS hx0 (by omega)
    rw [mset_eq (d := d) (a := x0) (i := (0 : Int)) (v := (0 : Int))]
    refine ⟨m_inR (by omega) (by omega), fun c1 => ?_, fun c1 => ?_⟩
    · have hS3 : Safe (mset (mset d x0 0 0) x0 9 x1) := s_11_f9 hS2 hx0 (by omega)
      have y0 : v_187 x0 x1 d = x1 := by simp only [v_187, if_neg (show ¬ v_176 x1 0 (d x0 9) d = 0 from c0), if_neg (show ¬ (0 : Int) < 0 from Int.not_lt.mpr c1)]
      have y1 : g_187 x0 x1 d = mset (mset d x0 0 0) x0 9 x1 := by simp only [g_187, if_neg (show ¬ v_176 x1 0 (d x0 9) d = 0 from c0), if_neg (show ¬ (0 : Int) < 0 from Int.not_lt.mpr c1)]
      rw [y0] at h
      rw [y1] at h
      exact h (show 0 ≤ x1 ∧ x1 ≤ 1000 from (by omega)) (show ∀ b : Int, (b < x0 ∨ x0 < b) → (mset (mset d x0 0 0) x0 9 x1) b = d b from fun b hb => (mset_ne (by omega)).trans (mset_ne (by omega))) hS3
    · exact (show False by omega).elim
def v_190 (x0 x1 : Int) (d : mD) : Int := if x1 < d x0 9 then (if v_176 (d (x0 + 7) x1) 97 122 d = 0 then 0 else 1) else 0
theorem k_190 {E : mO × tW} {K : tK} {d : mD} {x0 x1 : Int} (hS : Safe d) (hx0 : mdB x0) (p1 : 0 ≤ x1 ∧ x1 ≤ 1000) (h : ((0 ≤ (v_190 x0 x1 d) ∧ (v_190 x0 x1 d) ≤ 1) ∧ ((v_190 x0 x1 d) = 0 ∨ (x1 < d x0 9 ∧ 97 ≤ d (x0 + 7) x1 ∧ d (x0 + 7) x1 ≤ 122))) → K (.inl (some (0, (v_190 x0 x1 d)))) d) : tCall E 190 [.inr (11, x0), .inl (0, x1)] d K := by
  refine t_190_0 ?_
  have q1 := r_11_f9 hS hx0
  refine ⟨⟨m_inR (by omega) (by omega), m_inR (by omega) (by omega)⟩, fun c0 => ?_, fun c0 => ?_⟩
  · refine ⟨by omega, ?_⟩
    have y0 : v_190 x0 x1 d = 0 := by simp only [v_190, if_neg (show ¬ x1 < d x0 9 from Int.not_lt.mpr c0)]
    rw [y0] at h
    exact h (show (0 ≤ ((0 : Int)) ∧ ((0 : Int)) ≤ 1) ∧ (((0 : Int)) = 0 ∨ (x1 < d x0 9 ∧ 97 ≤ d (x0 + 7) x1 ∧ d (x0 + 7) x1 ≤ 122)) from (by omega))
  · have q2 := r_11_7 hS hx0 x1
    refine ⟨by omega, m_inR (by omega) (by omega), ?_⟩
    refine k_176 hS (m_inR (by omega) (by omega)) (m_inR (by omega) (by omega)) (m_inR (by omega) (by omega)) (fun e1 => ?_)
    refine t_190_24 ?_
    refine ⟨m_inR (by omega) (by omega), fun c1 => ?_, fun c1 => ?_⟩
    · refine ⟨by omega, ?_⟩
      have y0 : v_190 x0 x1 d = 0 := by simp only [v_190, if_pos (show x1 < d x0 9 from c0), if_pos (show v_176 (d (x0 + 7) x1) 97 122 d = 0 from c1)]
      rw [y0] at h
      exact h (show (0 ≤ ((0 : Int)) ∧ ((0 : Int)) ≤ 1) ∧ (((0 : Int)) = 0 ∨ (x1 < d x0 9 ∧ 97 ≤ d (x0 + 7) x1 ∧ d (x0 + 7) x1 ≤ 122)) from (by omega))
    · refine ⟨by omega, ?_⟩
      have y0 : v_190 x0 x1 d = 1 := by simp only [v_190, if_pos (show x1 < d x0 9 from c0), if_neg (show ¬ v_176 (d (x0 + 7) x1) 97 122 d = 0 from c1)]
      rw [y0] at h
      exact h (show (0 ≤ ((1 : Int)) ∧ ((1 : Int)) ≤ 1) ∧ (((1 : Int)) = 0 ∨ (x1 < d x0 9 ∧ 97 ≤ d (x0 + 7) x1 ∧ d (x0 + 7) x1 ≤ 122)) from (by omega))
def v_191 (x0 x1 : Int) (d : mD) : Int := if x1 < d x0 9 then (if v_176 (d (x0 + 7) x1) 48 57 d = 0 then 0 else 1) else 0
theorem k_191 {E : mO × tW} {K : tK} {d : mD} {x0 x1 : Int} (hS : Safe d) (hx0 : mdB x0) (p1 : 0 ≤ x1 ∧ x1 ≤ 1000) (h : ((0 ≤ (v_191 x0 x1 d) ∧ (v_191 x0 x1 d) ≤ 1) ∧ ((v_191 x0 x1 d) = 0 ∨ (x1 < d x0 9 ∧ 48 ≤ d (x0 + 7) x1 ∧ d (x0 + 7) x1 ≤ 57))) → K (.inl (some (0, (v_191 x0 x1 d)))) d) : tCall E 191 [.inr (11, x0), .inl (0, x1)] d K := by
  refine t_191_0 ?_
  have q1 := r_11_f9 hS hx0
  refine ⟨⟨m_inR (by omega) (by omega), m_inR (by omega) (by omega)⟩, fun c0 => ?_, fun c0 => ?_⟩
  · refine ⟨by omega, ?_⟩
    have y0 : v_191 x0 x1 d = 0 := by simp only [v_191, if_neg (show ¬ x1 < d x0 9 from Int.not_lt.mpr c0)]
    rw [y0] at h
    exact h (show (0 ≤ ((0 : Int)) ∧ ((0 : Int)) ≤ 1) ∧ (((0 : Int)) = 0 ∨ (x1 < d x0 9 ∧ 48 ≤ d (x0 + 7) x1 ∧ d (x0 + 7) x1 ≤ 57)) from (by omega))
  · have q2 := r_11_7 hS hx0 x1
    refine ⟨by omega, m_inR (by omega) (by omega), ?_⟩
    refine k_176 hS (m_inR (by omega) (by omega)) (m_inR (by omega) (by omega)) (m_inR (by omega) (by omega)) (fun e1 => ?_)
    refine t_191_24 ?_
    refine ⟨m_inR (by omega) (by omega), fun c1 => ?_, fun c1 => ?_⟩
    · refine ⟨by omega, ?_⟩
      have y0 : v_191 x0 x1 d = 0 := by simp only [v_191, if_pos (show x1 < d x0 9 from c0), if_pos (show v_176 (d (x0 + 7) x1) 48 57 d = 0 from c1)]
      rw [y0] at h
      exact h (show (0 ≤ ((0 : Int)) ∧ ((0 : Int)) ≤ 1) ∧ (((0 : Int)) = 0 ∨ (x1 < d x0 9 ∧ 48 ≤ d (x0 + 7) x1 ∧ d (x0 + 7) x1 ≤ 57)) from (by omega))
    · refine ⟨by omega, ?_⟩
      have y0 : v_191 x0 x1 d = 1 := by simp only [v_191, if_pos (show x1 < d x0 9 from c0), if_neg (show ¬ v_176 (d (x0 + 7) x1) 48 57 d = 0 from c1)]
      rw [y0] at h
      exact h (show (0 ≤ ((1 : Int)) ∧ ((1 : Int)) ≤ 1) ∧ (((1 : Int)) = 0 ∨ (x1 < d x0 9 ∧ 48 ≤ d (x0 + 7) x1 ∧ d (x0 + 7) x1 ≤ 57)) from (by omega))
def st_201_10 (x0 x1 : Int) (r10 : Int → mD → Int) (x2 : Int) (d : mD) : Int := if x2 < 0 then (-1) else if d (x0 + 1) ((452 + (24 * x2)) + 0) = x1 then x2 else r10 (x2 + (-1)) d
def lp_201_10 (x0 x1 : Int) : Nat → Int → mD → Int
  | 0 => st_201_10 x0 x1 (fun _ d => 0)
  | n + 1 => st_201_10 x0 x1 (lp_201_10 x0 x1 n)
theorem ls_201_10 {E : mO × tW} {K : tK} {x0 x1 : Int} (hx0 : mdB x0) (p1 : -2147483648 ≤ x1 ∧ x1 ≤ 2147483647) (N10 : Int) (r10 : Int → mD → Int) (ih10 : ∀ (x2 : Int) (d : mD), Safe d → (-1 ≤ x2 ∧ x2 ≤ 60) → 0 ≤ x2 + 1 → x2 + 1 < N10 → ((-1 ≤ (r10 x2 d) ∧ (r10 x2 d) ≤ 60) → K (.inl (some (0, (r10 x2 d)))) d) → tRun E 201 (10, [.inr (11, x0), .inl (0, x1), .inl (0, x2)], [], 0, 0, d) K) (x2 : Int) (d : mD) (hS : Safe d) (i0 : -1 ≤ x2 ∧ x2 ≤ 60) (hm : x2 + 1 ≤ N10) (h : (-1 ≤ (st_201_10 x0 x1 r10 x2 d) ∧ (st_201_10 x0 x1 r10 x2 d) ≤ 60) → K (.inl (some (0, (st_201_10 x0 x1 r10 x2 d)))) d) : tRun E 201 (10, [.inr (11, x0), .inl (0, x1), .inl (0, x2)], [], 0, 0, d) K := by
  refine t_201_10 ?_
  refine ⟨m_inR (by omega) (by omega), fun c0 => ?_, fun c0 => ?_⟩
  · have y0 : st_201_10 x0 x1 r10 x2 d = (-1) := by simp only [st_201_10, if_pos (show x2 < 0 from c0)]
    rw [y0] at h
    exact h (show -1 ≤ ((-1 : Int)) ∧ ((-1 : Int)) ≤ 60 from (by omega))
  · refine k_179 hS ?_
    refine t_201_22 ?_
    have q1 := mt_0 hS hx0 x2 ((452 + (24 * x2)) + 0) (by omega) (by omega)
    refine ⟨by omega, ⟨m_inR (by omega) (by omega), m_inR (by omega) (by omega)⟩, fun c1 => ?_, fun c1 => ?_⟩
    · refine ih10 (x2 + (-1))  d hS (by omega) (by omega) (by omega) ?_
      intro e
      have y0 : st_201_10 x0 x1 r10 x2 d = r10 (x2 + (-1)) d := by simp only [st_201_10, if_neg (show ¬ x2 < 0 from Int.not_lt.mpr c0), if_neg (show ¬ d (x0 + 1) ((452 + (24 * x2)) + 0) = x1 from c1)]
      rw [y0] at h
      exact h e
    · have y0 : st_201_10 x0 x1 r10 x2 d = x2 := by simp only [st_201_10, if_neg (show ¬ x2 < 0 from Int.not_lt.mpr c0), if_pos (show d (x0 + 1) ((452 + (24 * x2)) + 0) = x1 from c1)]
      rw [y0] at h
      exact h (show -1 ≤ x2 ∧ x2 ≤ 60 from (by omega))
theorem l_201_10 {E : mO × tW} {K : tK} {x0 x1 : Int} (hx0 : mdB x0) (p1 : -2147483648 ≤ x1 ∧ x1 ≤ 2147483647) : ∀ (n : Nat) (x2 : Int) (d : mD), Safe d → (-1 ≤ x2 ∧ x2 ≤ 60) → x2 + 1 ≤ (n : Int) → ((-1 ≤ (lp_201_10 x0 x1 n x2 d) ∧ (lp_201_10 x0 x1 n x2 d) ≤ 60) → K (.inl (some (0, (lp_201_10 x0 x1 n x2 d)))) d) → tRun E 201 (10, [.inr (11, x0), .inl (0, x1), .inl (0, x2)], [], 0, 0, d) K := by
  intro n
  induction n with
  | zero =>
    intro x2  d hS i0 hm  h
    exact ls_201_10 hx0 p1 0 _ (fun _  _ _ _ m0 m1 _ => absurd m1 (by omega)) x2  d hS i0 hm  h
  | succ n ih =>
    intro x2  d hS i0 hm  h
    exact ls_201_10 hx0 p1 ((n + 1 : Nat) : Int) _ (fun x2  d hS i0  m0 m1 h => ih x2  d hS i0 (by omega)  h) x2  d hS i0 hm  h
def v_201 (x0 x1 : Int) (d : mD) : Int := lp_201_10 x0 x1 (((d (x0 + 1) 9) - 1) + 1 : Int).toNat ((d (x0 + 1) 9) - 1) d
theorem k_201 {E : mO × tW} {K : tK} {d : mD} {x0 x1 : Int} (hS : Safe d) (hx0 : mdB x0) (p1 : -2147483648 ≤ x1 ∧ x1 ≤ 2147483647) (h : (-1 ≤ (v_201 x0 x1 d) ∧ (v_201 x0 x1 d) ≤ 60) → K (.inl (some (0, (v_201 x0 x1 d)))) d) : tCall E 201 [.inr (11, x0), .inl (0, x1)] d K := by
  refine t_201_0 ?_
  refine ⟨by omega, ?_⟩
  have q2 := mh_9 hS hx0 _ rfl
  refine l_201_10 hx0 p1 (((d (x0 + 1) 9) - 1) + 1 : Int).toNat ((d (x0 + 1) 9) - 1)  d hS (by omega) (by omega) ?_
  intro e
  have y0 : v_201 x0 x1 d = lp_201_10 x0 x1 (((d (x0 + 1) 9) - 1) + 1 : Int).toNat ((d (x0 + 1) 9) - 1) d := by simp only [v_201]
  rw [y0] at h
  exact h e
/-! ===== contracts of the reference's methods: printed by a program of mine ===== -/
def v_212 (x0 x1 : Int) (d : mD) : Int := if d (x0 + 1) ((452 + (24 * x1)) + 3) = (-1) then d (x0 + 1) 0 else d (x0 + 1) ((452 + (24 * x1)) + 3)
theorem k_212 {E : mO × tW} {K : tK} {d : mD} {x0 x1 : Int} (hS : Safe d) (hx0 : mdB x0) (p1 : 0 ≤ x1 ∧ x1 ≤ 60) (h : (0 ≤ (v_212 x0 x1 d) ∧ (v_212 x0 x1 d) ≤ 1200) → K (.inl (some (0, (v_212 x0 x1 d)))) d) : tCall E 212 [.inr (11, x0), .inl (0, x1)] d K := by
  refine t_212_0 ?_
  refine k_179 hS ?_
  refine t_212_8 ?_
  have q1 := mt_3 hS hx0 x1 ((452 + (24 * x1)) + 3) (by omega) (by omega)
  refine ⟨by omega, ⟨m_inR (by omega) (by omega), m_inR (by omega) (by omega)⟩, fun c0 => ?_, fun c0 => ?_⟩
  · have y0 : v_212 x0 x1 d = d (x0 + 1) ((452 + (24 * x1)) + 3) := by simp only [v_212, if_neg (show ¬ d (x0 + 1) ((452 + (24 * x1)) + 3) = (-1) from c0)]
    rw [y0] at h
    exact h (show 0 ≤ (d (x0 + 1) ((452 + (24 * x1)) + 3)) ∧ (d (x0 + 1) ((452 + (24 * x1)) + 3)) ≤ 1200 from (by omega))
  · have q2 := mh_0 hS hx0 _ rfl
    refine ⟨by omega, ?_⟩
    have y0 : v_212 x0 x1 d = d (x0 + 1) 0 := by simp only [v_212, if_pos (show d (x0 + 1) ((452 + (24 * x1)) + 3) = (-1) from c0)]
    rw [y0] at h
    exact h (show 0 ≤ (d (x0 + 1) 0) ∧ (d (x0 + 1) 0) ≤ 1200 from (by omega))
def v_213 (x0 x1 : Int) (d : mD) : Int := if ((v_212 x0 x1 d) - (d (x0 + 1) ((452 + (24 * x1)) + 2))) - (d (x0 + 1) 2) < 0 then 0 else ((v_212 x0 x1 d) - (d (x0 + 1) ((452 + (24 * x1)) + 2))) - (d (x0 + 1) 2)
theorem k_213 {E : mO × tW} {K : tK} {d : mD} {x0 x1 : Int} (hS : Safe d) (hx0 : mdB x0) (p1 : 0 ≤ x1 ∧ x1 ≤ 60) (h : (0 ≤ (v_213 x0 x1 d) ∧ (v_213 x0 x1 d) ≤ 1200) → K (.inl (some (0, (v_213 x0 x1 d)))) d) : tCall E 213 [.inr (11, x0), .inl (0, x1)] d K := by
  refine t_213_0 ?_
  refine k_212 hS hx0 (by omega) (fun e1 => ?_)
  refine t_213_5 ?_
  refine k_179 hS ?_
  refine t_213_13 ?_
  have q1 := mt_2 hS hx0 x1 ((452 + (24 * x1)) + 2) (by omega) (by omega)
  have q2 := mh_2 hS hx0 _ rfl
  refine ⟨by omega, by omega, m_inR (by omega) (by omega), fun c0 => ?_, fun c0 => ?_⟩
  · have y0 : v_213 x0 x1 d = ((v_212 x0 x1 d) - (d (x0 + 1) ((452 + (24 * x1)) + 2))) - (d (x0 + 1) 2) := by simp only [v_213, if_neg (show ¬ ((v_212 x0 x1 d) - (d (x0 + 1) ((452 + (24 * x1)) + 2))) - (d (x0 + 1) 2) < 0 from Int.not_lt.mpr c0)]
    rw [y0] at h
    exact h (show 0 ≤ (((v_212 x0 x1 d) - (d (x0 + 1) ((452 + (24 * x1)) + 2))) - (d (x0 + 1) 2)) ∧ (((v_212 x0 x1 d) - (d (x0 + 1) ((452 + (24 * x1)) + 2))) - (d (x0 + 1) 2)) ≤ 1200 from (by omega))
  · have y0 : v_213 x0 x1 d = 0 := by simp only [v_213, if_pos (show ((v_212 x0 x1 d) - (d (x0 + 1) ((452 + (24 * x1)) + 2))) - (d (x0 + 1) 2) < 0 from c0)]
    rw [y0] at h
    exact h (show 0 ≤ ((0 : Int)) ∧ ((0 : Int)) ≤ 1200 from (by omega))
def v_214 (x0 x1 x2 : Int) (d : mD) : Int := if x2 < (d (x0 + 1) ((452 + (24 * x1)) + 2)) + (d (x0 + 1) 2) then 0 else if x2 < v_212 x0 x1 d then 1 else 0
theorem k_214 {E : mO × tW} {K : tK} {d : mD} {x0 x1 x2 : Int} (hS : Safe d) (hx0 : mdB x0) (p1 : 0 ≤ x1 ∧ x1 ≤ 60) (p2 : -2147483648 ≤ x2 ∧ x2 ≤ 2147483647) (h : (0 ≤ (v_214 x0 x1 x2 d) ∧ (v_214 x0 x1 x2 d) ≤ 1) → K (.inl (some (0, (v_214 x0 x1 x2 d)))) d) : tCall E 214 [.inr (11, x0), .inl (0, x1), .inl (0, x2)] d K := by
  refine t_214_0 ?_
  refine k_179 hS ?_
  refine t_214_9 ?_
  have q1 := mt_2 hS hx0 x1 ((452 + (24 * x1)) + 2) (by omega) (by omega)
  have q2 := mh_2 hS hx0 _ rfl
  refine ⟨by omega, by omega, ⟨m_inR (by omega) (by omega), m_inR (by omega) (by omega)⟩, fun c0 => ?_, fun c0 => ?_⟩
  · refine ⟨by omega, ?_⟩
    have y0 : v_214 x0 x1 x2 d = 0 := by simp only [v_214, if_pos (show x2 < (d (x0 + 1) ((452 + (24 * x1)) + 2)) + (d (x0 + 1) 2) from c0)]
    rw [y0] at h
    exact h (show 0 ≤ ((0 : Int)) ∧ ((0 : Int)) ≤ 1 from (by omega))
  · refine k_212 hS hx0 (by omega) (fun e1 => ?_)
    refine t_214_28 ?_
    refine ⟨⟨m_inR (by omega) (by omega), m_inR (by omega) (by omega)⟩, fun c1 => ?_, fun c1 => ?_⟩
    · refine ⟨by omega, ?_⟩
      have y0 : v_214 x0 x1 x2 d = 0 := by simp only [v_214, if_neg (show ¬ x2 < (d (x0 + 1) ((452 + (24 * x1)) + 2)) + (d (x0 + 1) 2) from Int.not_lt.mpr c0), if_neg (show ¬ x2 < v_212 x0 x1 d from Int.not_lt.mpr c1)]
      rw [y0] at h
      exact h (show 0 ≤ ((0 : Int)) ∧ ((0 : Int)) ≤ 1 from (by omega))
    · refine ⟨by omega, ?_⟩
      have y0 : v_214 x0 x1 x2 d = 1 := by simp only [v_214, if_neg (show ¬ x2 < (d (x0 + 1) ((452 + (24 * x1)) + 2)) + (d (x0 + 1) 2) from Int.not_lt.mpr c0), if_pos (show x2 < v_212 x0 x1 d from c1)]
      rw [y0] at h
      exact h (show 0 ≤ ((1 : Int)) ∧ ((1 : Int)) ≤ 1 from (by omega))
def v_215 (x0 x1 : Int) (d : mD) : Int := d (x0 + 1) ((452 + (24 * (d (x0 + 1) ((1916 + (5 * x1)) + 1)))) + 0)
theorem k_215 {E : mO × tW} {K : tK} {d : mD} {x0 x1 : Int} (hS : Safe d) (hx0 : mdB x0) (p1 : 0 ≤ x1 ∧ x1 ≤ 199) (h : (0 ≤ (v_215 x0 x1 d) ∧ (v_215 x0 x1 d) ≤ 15) → K (.inl (some (0, (v_215 x0 x1 d)))) d) : tCall E 215 [.inr (11, x0), .inl (0, x1)] d K := by
  refine t_215_0 ?_
  refine k_180 hS ?_
  refine t_215_12 ?_
  refine ⟨by omega, ?_⟩
  refine k_179 hS ?_
  refine t_215_18 ?_
  have q1 := mk_1 hS hx0 x1 ((1916 + (5 * x1)) + 1) (by omega) (by omega)
  have q2 := mt_0 hS hx0 (d (x0 + 1) ((1916 + (5 * x1)) + 1)) ((452 + (24 * (d (x0 + 1) ((1916 + (5 * x1)) + 1)))) + 0) (by omega) (by omega)
  refine ⟨by omega, ?_⟩
  have y0 : v_215 x0 x1 d = d (x0 + 1) ((452 + (24 * (d (x0 + 1) ((1916 + (5 * x1)) + 1)))) + 0) := by simp only [v_215]
  rw [y0] at h
  exact h (show 0 ≤ (d (x0 + 1) ((452 + (24 * (d (x0 + 1) ((1916 + (5 * x1)) + 1)))) + 0)) ∧ (d (x0 + 1) ((452 + (24 * (d (x0 + 1) ((1916 + (5 * x1)) + 1)))) + 0)) ≤ 15 from (by omega))
def st_216_2 (x0 x1 x2 : Int) (r2 : Int → mD → Int) (x3 : Int) (d : mD) : Int := if x3 < d (x0 + 1) 10 then (if d (x0 + 1) ((1916 + (5 * x3)) + 2) = x2 then (if v_215 x0 x3 d = x1 then 1 else r2 (x3 + 1) d) else r2 (x3 + 1) d) else 0
def lp_216_2 (x0 x1 x2 : Int) : Nat → Int → mD → Int
  | 0 => st_216_2 x0 x1 x2 (fun _ d => 0)
  | n + 1 => st_216_2 x0 x1 x2 (lp_216_2 x0 x1 x2 n)
theorem ls_216_2 {E : mO × tW} {K : tK} {x0 x1 x2 : Int} (hx0 : mdB x0) (p1 : -2147483648 ≤ x1 ∧ x1 ≤ 2147483647) (p2 : -2147483648 ≤ x2 ∧ x2 ≤ 2147483647) (N2 : Int) (r2 : Int → mD → Int) (ih2 : ∀ (x3 : Int) (d : mD), Safe d → (0 ≤ x3 ∧ x3 ≤ 200) → 0 ≤ 200 - x3 → 200 - x3 < N2 → ((0 ≤ (r2 x3 d) ∧ (r2 x3 d) ≤ 1) → K (.inl (some (0, (r2 x3 d)))) d) → tRun E 216 (2, [.inr (11, x0), .inl (0, x1), .inl (0, x2), .inl (0, x3)], [], 0, 0, d) K) (x3 : Int) (d : mD) (hS : Safe d) (i0 : 0 ≤ x3 ∧ x3 ≤ 200) (hm : 200 - x3 ≤ N2) (h : (0 ≤ (st_216_2 x0 x1 x2 r2 x3 d) ∧ (st_216_2 x0 x1 x2 r2 x3 d) ≤ 1) → K (.inl (some (0, (st_216_2 x0 x1 x2 r2 x3 d)))) d) : tRun E 216 (2, [.inr (11, x0), .inl (0, x1), .inl (0, x2), .inl (0, x3)], [], 0, 0, d) K := by
  refine t_216_2 ?_
  have q1 := mh_10 hS hx0 _ rfl
  refine ⟨by omega, ⟨m_inR (by omega) (by omega), m_inR (by omega) (by omega)⟩, fun c0 => ?_, fun c0 => ?_⟩
  · refine ⟨by omega, ?_⟩
    have y0 : st_216_2 x0 x1 x2 r2 x3 d = 0 := by simp only [st_216_2, if_neg (show ¬ x3 < d (x0 + 1) 10 from Int.not_lt.mpr c0)]
    rw [y0] at h
    exact h (show 0 ≤ ((0 : Int)) ∧ ((0 : Int)) ≤ 1 from (by omega))
  · refine k_180 hS ?_
    refine t_216_21 ?_
    have q2 := mk_2 hS hx0 x3 ((1916 + (5 * x3)) + 2) (by omega) (by omega)
    refine ⟨by omega, ⟨m_inR (by omega) (by omega), m_inR (by omega) (by omega)⟩, fun c1 => ?_, fun c1 => ?_⟩
    · refine ih2 (x3 + 1)  d hS (by omega) (by omega) (by omega) ?_
      intro e
      have y0 : st_216_2 x0 x1 x2 r2 x3 d = r2 (x3 + 1) d := by simp only [st_216_2, if_pos (show x3 < d (x0 + 1) 10 from c0), if_neg (show ¬ d (x0 + 1) ((1916 + (5 * x3)) + 2) = x2 from c1)]
      rw [y0] at h
      exact h e
    · refine k_215 hS hx0 (by omega) (fun e1 => ?_)
      refine t_216_33 ?_
      refine ⟨⟨m_inR (by omega) (by omega), m_inR (by omega) (by omega)⟩, fun c2 => ?_, fun c2 => ?_⟩
      · refine ih2 (x3 + 1)  d hS (by omega) (by omega) (by omega) ?_
        intro e
        have y0 : st_216_2 x0 x1 x2 r2 x3 d = r2 (x3 + 1) d := by simp only [st_216_2, if_pos (show x3 < d (x0 + 1) 10 from c0), if_pos (show d (x0 + 1) ((1916 + (5 * x3)) + 2) = x2 from c1), if_neg (show ¬ v_215 x0 x3 d = x1 from c2)]
        rw [y0] at h
        exact h e
      · refine ⟨by omega, ?_⟩
        have y0 : st_216_2 x0 x1 x2 r2 x3 d = 1 := by simp only [st_216_2, if_pos (show x3 < d (x0 + 1) 10 from c0), if_pos (show d (x0 + 1) ((1916 + (5 * x3)) + 2) = x2 from c1), if_pos (show v_215 x0 x3 d = x1 from c2)]
        rw [y0] at h
        exact h (show 0 ≤ ((1 : Int)) ∧ ((1 : Int)) ≤ 1 from (by omega))
theorem l_216_2 {E : mO × tW} {K : tK} {x0 x1 x2 : Int} (hx0 : mdB x0) (p1 : -2147483648 ≤ x1 ∧ x1 ≤ 2147483647) (p2 : -2147483648 ≤ x2 ∧ x2 ≤ 2147483647) : ∀ (n : Nat) (x3 : Int) (d : mD), Safe d → (0 ≤ x3 ∧ x3 ≤ 200) → 200 - x3 ≤ (n : Int) → ((0 ≤ (lp_216_2 x0 x1 x2 n x3 d) ∧ (lp_216_2 x0 x1 x2 n x3 d) ≤ 1) → K (.inl (some (0, (lp_216_2 x0 x1 x2 n x3 d)))) d) → tRun E 216 (2, [.inr (11, x0), .inl (0, x1), .inl (0, x2), .inl (0, x3)], [], 0, 0, d) K := by
  intro n
  induction n with
  | zero =>
    intro x3  d hS i0 hm  h
    exact ls_216_2 hx0 p1 p2 0 _ (fun _  _ _ _ m0 m1 _ => absurd m1 (by omega)) x3  d hS i0 hm  h
  | succ n ih =>
    intro x3  d hS i0 hm  h
    exact ls_216_2 hx0 p1 p2 ((n + 1 : Nat) : Int) _ (fun x3  d hS i0  m0 m1 h => ih x3  d hS i0 (by omega)  h) x3  d hS i0 hm  h
def v_216 (x0 x1 x2 : Int) (d : mD) : Int := lp_216_2 x0 x1 x2 (200 - 0 : Int).toNat 0 d
theorem k_216 {E : mO × tW} {K : tK} {d : mD} {x0 x1 x2 : Int} (hS : Safe d) (hx0 : mdB x0) (p1 : -2147483648 ≤ x1 ∧ x1 ≤ 2147483647) (p2 : -2147483648 ≤ x2 ∧ x2 ≤ 2147483647) (h : (0 ≤ (v_216 x0 x1 x2 d) ∧ (v_216 x0 x1 x2 d) ≤ 1) → K (.inl (some (0, (v_216 x0 x1 x2 d)))) d) : tCall E 216 [.inr (11, x0), .inl (0, x1), .inl (0, x2)] d K := by
  refine t_216_0 ?_
  refine l_216_2 hx0 p1 p2 (200 - 0 : Int).toNat 0  d hS (by omega) (by omega) ?_
  intro e
  have y0 : v_216 x0 x1 x2 d = lp_216_2 x0 x1 x2 (200 - 0 : Int).toNat 0 d := by simp only [v_216]
  rw [y0] at h
  exact h e
def st_217_4 (x0 x1 : Int) (r4 : Int → Int → mD → Int) (x2 x3 : Int) (d : mD) : Int := if x3 < d (x0 + 1) 10 then (if v_215 x0 x3 d = x1 then (if (d (x0 + 1) ((1916 + (5 * x3)) + 4)) / 20 = (d (x0 + 1) 0) / 20 then r4 (x2 + 1) (x3 + 1) d else r4 (x2 + 0) (x3 + 1) d) else r4 (x2 + 0) (x3 + 1) d) else x2
def lp_217_4 (x0 x1 : Int) : Nat → Int → Int → mD → Int
  | 0 => st_217_4 x0 x1 (fun _ _ d => 0)
  | n + 1 => st_217_4 x0 x1 (lp_217_4 x0 x1 n)
theorem ls_217_4 {E : mO × tW} {K : tK} {x0 x1 : Int} (hx0 : mdB x0) (p1 : -2147483648 ≤ x1 ∧ x1 ≤ 2147483647) (N4 : Int) (r4 : Int → Int → mD → Int) (ih4 : ∀ (x2 x3 : Int) (d : mD), Safe d → (0 ≤ x3 ∧ x3 ≤ 200) → (0 ≤ x2 ∧ x2 ≤ x3) → 0 ≤ 200 - x3 → 200 - x3 < N4 → ((0 ≤ (r4 x2 x3 d) ∧ (r4 x2 x3 d) ≤ 200) → K (.inl (some (0, (r4 x2 x3 d)))) d) → tRun E 217 (4, [.inr (11, x0), .inl (0, x1), .inl (0, x2), .inl (0, x3)], [], 0, 0, d) K) (x2 x3 : Int) (d : mD) (hS : Safe d) (i0 : 0 ≤ x3 ∧ x3 ≤ 200) (i1 : 0 ≤ x2 ∧ x2 ≤ x3) (hm : 200 - x3 ≤ N4) (h : (0 ≤ (st_217_4 x0 x1 r4 x2 x3 d) ∧ (st_217_4 x0 x1 r4 x2 x3 d) ≤ 200) → K (.inl (some (0, (st_217_4 x0 x1 r4 x2 x3 d)))) d) : tRun E 217 (4, [.inr (11, x0), .inl (0, x1), .inl (0, x2), .inl (0, x3)], [], 0, 0, d) K := by
  refine t_217_4 ?_
  have q1 := mh_10 hS hx0 _ rfl
  refine ⟨by omega, ⟨m_inR (by omega) (by omega), m_inR (by omega) (by omega)⟩, fun c0 => ?_, fun c0 => ?_⟩
  · have y0 : st_217_4 x0 x1 r4 x2 x3 d = x2 := by simp only [st_217_4, if_neg (show ¬ x3 < d (x0 + 1) 10 from Int.not_lt.mpr c0)]
    rw [y0] at h
    exact h (show 0 ≤ x2 ∧ x2 ≤ 200 from (by omega))
  · refine k_215 hS hx0 (by omega) (fun e1 => ?_)
    refine t_217_21 ?_
    refine ⟨⟨m_inR (by omega) (by omega), m_inR (by omega) (by omega)⟩, fun c1 => ?_, fun c1 => ?_⟩
    · refine ih4 (x2 + 0) (x3 + 1)  d hS (by omega) (by omega) (by omega) (by omega) ?_
      intro e
      have y0 : st_217_4 x0 x1 r4 x2 x3 d = r4 (x2 + 0) (x3 + 1) d := by simp only [st_217_4, if_pos (show x3 < d (x0 + 1) 10 from c0), if_neg (show ¬ v_215 x0 x3 d = x1 from c1)]
      rw [y0] at h
      exact h e
    · refine k_180 hS ?_
      refine t_217_33 ?_
      have q2 := mk_4 hS hx0 x3 ((1916 + (5 * x3)) + 4) (by omega) (by omega)
      have q3 := mh_0 hS hx0 _ rfl
      refine ⟨by omega, by omega, by omega, by omega, ⟨m_inR (by omega) (by omega), m_inR (by omega) (by omega)⟩, fun c2 => ?_, fun c2 => ?_⟩
      · refine ih4 (x2 + 0) (x3 + 1)  d hS (by omega) (by omega) (by omega) (by omega) ?_
        intro e
        have y0 : st_217_4 x0 x1 r4 x2 x3 d = r4 (x2 + 0) (x3 + 1) d := by simp only [st_217_4, if_pos (show x3 < d (x0 + 1) 10 from c0), if_pos (show v_215 x0 x3 d = x1 from c1), if_neg (show ¬ (d (x0 + 1) ((1916 + (5 * x3)) + 4)) / 20 = (d (x0 + 1) 0) / 20 from c2)]
        rw [y0] at h
        exact h e
      · refine ih4 (x2 + 1) (x3 + 1)  d hS (by omega) (by omega) (by omega) (by omega) ?_
        intro e
        have y0 : st_217_4 x0 x1 r4 x2 x3 d = r4 (x2 + 1) (x3 + 1) d := by simp only [st_217_4, if_pos (show x3 < d (x0 + 1) 10 from c0), if_pos (show v_215 x0 x3 d = x1 from c1), if_pos (show (d (x0 + 1) ((1916 + (5 * x3)) + 4)) / 20 = (d (x0 + 1) 0) / 20 from c2)]
        rw [y0] at h
        exact h e
theorem l_217_4 {E : mO × tW} {K : tK} {x0 x1 : Int} (hx0 : mdB x0) (p1 : -2147483648 ≤ x1 ∧ x1 ≤ 2147483647) : ∀ (n : Nat) (x2 x3 : Int) (d : mD), Safe d → (0 ≤ x3 ∧ x3 ≤ 200) → (0 ≤ x2 ∧ x2 ≤ x3) → 200 - x3 ≤ (n : Int) → ((0 ≤ (lp_217_4 x0 x1 n x2 x3 d) ∧ (lp_217_4 x0 x1 n x2 x3 d) ≤ 200) → K (.inl (some (0, (lp_217_4 x0 x1 n x2 x3 d)))) d) → tRun E 217 (4, [.inr (11, x0), .inl (0, x1), .inl (0, x2), .inl (0, x3)], [], 0, 0, d) K := by
  intro n
  induction n with
  | zero =>
    intro x2 x3  d hS i0 i1 hm  h
    exact ls_217_4 hx0 p1 0 _ (fun _ _  _ _ _ _ m0 m1 _ => absurd m1 (by omega)) x2 x3  d hS i0 i1 hm  h
  | succ n ih =>
    intro x2 x3  d hS i0 i1 hm  h
    exact ls_217_4 hx0 p1 ((n + 1 : Nat) : Int) _ (fun x2 x3  d hS i0 i1  m0 m1 h => ih x2 x3  d hS i0 i1 (by omega)  h) x2 x3  d hS i0 i1 hm  h
def v_217 (x0 x1 : Int) (d : mD) : Int := lp_217_4 x0 x1 (200 - 0 : Int).toNat 0 0 d
theorem k_217 {E : mO × tW} {K : tK} {d : mD} {x0 x1 : Int} (hS : Safe d) (hx0 : mdB x0) (p1 : -2147483648 ≤ x1 ∧ x1 ≤ 2147483647) (h : (0 ≤ (v_217 x0 x1 d) ∧ (v_217 x0 x1 d) ≤ 200) → K (.inl (some (0, (v_217 x0 x1 d)))) d) : tCall E 217 [.inr (11, x0), .inl (0, x1)] d K := by
  refine t_217_0 ?_
  refine l_217_4 hx0 p1 (200 - 0 : Int).toNat 0 0  d hS (by omega) (by omega) (by omega) ?_
  intro e
  have y0 : v_217 x0 x1 d = lp_217_4 x0 x1 (200 - 0 : Int).toNat 0 0 d := by simp only [v_217]
  rw [y0] at h
  exact h e
def st_218_41 (x0 x1 : Int) (r41 : Int → Int → Int → Int → mD → Int × mD) (x2 x3 x4 x5 : Int) (d : mD) : Int × mD := if x5 < d (x0 + 1) ((452 + (24 * x1)) + 3) then (if x3 < d (x0 + 1) 5 then (if d (x0 + 1) 10 < 200 then (if v_216 x0 x2 x5 d = 0 then r41 x2 (x3 + 1) (x4 + 1) (x5 + 1) (mset (mset (mset (mset (mset (mset d (x0 + 1) ((1916 + (5 * (d (x0 + 1) 10))) + 0) x2) (x0 + 1) ((1916 + (5 * (d (x0 + 1) 10))) + 1) x1) (x0 + 1) ((1916 + (5 * (d (x0 + 1) 10))) + 2) x5) (x0 + 1) ((1916 + (5 * (d (x0 + 1) 10))) + 3) 0) (x0 + 1) ((1916 + (5 * (d (x0 + 1) 10))) + 4) (d (x0 + 1) 0)) (x0 + 1) 10 ((d (x0 + 1) 10) + 1)) else r41 x2 x3 x4 (x5 + 1) d) else r41 x2 x3 x4 (x5 + 1) d) else r41 x2 x3 x4 (x5 + 1) d) else (x4, d)
def lp_218_41 (x0 x1 : Int) : Nat → Int → Int → Int → Int → mD → Int × mD
  | 0 => st_218_41 x0 x1 (fun _ _ _ _ d => (0, d))
  | n + 1 => st_218_41 x0 x1 (lp_218_41 x0 x1 n)
theorem ls_218_41 {E : mO × tW} {K : tK} {x0 x1 : Int} (hx0 : mdB x0) (p1 : 0 ≤ x1 ∧ x1 ≤ 60) (N41 : Int) (r41 : Int → Int → Int → Int → mD → Int × mD) (ih41 : ∀ (x2 x3 x4 x5 : Int) (v6 : tV) (d : mD), Safe d → (0 ≤ x2 ∧ x2 ≤ 15) → (0 ≤ x3 ∧ x3 ≤ 2000 + x5) → (0 ≤ x4 ∧ x4 ≤ x5) → (0 ≤ x5 ∧ x5 ≤ 1301) → 0 ≤ 1301 - x5 → 1301 - x5 < N41 → ((0 ≤ (r41 x2 x3 x4 x5 d).1 ∧ (r41 x2 x3 x4 x5 d).1 ≤ 1400) → (∀ b : Int, (b < x0 + 1 ∨ x0 + 1 < b) → (r41 x2 x3 x4 x5 d).2 b = d b) → (∀ i : Int, (0 ≤ i ∧ i ≤ 9) ∨ (11 ≤ i ∧ i < 1916) → (r41 x2 x3 x4 x5 d).2 (x0 + 1) i = d (x0 + 1) i) → Safe (r41 x2 x3 x4 x5 d).2 → K (.inl (some (0, (r41 x2 x3 x4 x5 d).1))) (r41 x2 x3 x4 x5 d).2) → tRun E 218 (41, [.inr (11, x0), .inl (0, x1), .inl (0, x2), .inl (0, x3), .inl (0, x4), .inl (0, x5), v6], [], 0, 0, d) K) (x2 x3 x4 x5 : Int) (v6 : tV) (d : mD) (hS : Safe d) (i0 : 0 ≤ x2 ∧ x2 ≤ 15) (i1 : 0 ≤ x3 ∧ x3 ≤ 2000 + x5) (i2 : 0 ≤ x4 ∧ x4 ≤ x5) (i3 : 0 ≤ x5 ∧ x5 ≤ 1301) (hm : 1301 - x5 ≤ N41) (h : (0 ≤ (st_218_41 x0 x1 r41 x2 x3 x4 x5 d).1 ∧ (st_218_41 x0 x1 r41 x2 x3 x4 x5 d).1 ≤ 1400) → (∀ b : Int, (b < x0 + 1 ∨ x0 + 1 < b) → (st_218_41 x0 x1 r41 x2 x3 x4 x5 d).2 b = d b) → (∀ i : Int, (0 ≤ i ∧ i ≤ 9) ∨ (11 ≤ i ∧ i < 1916) → (st_218_41 x0 x1 r41 x2 x3 x4 x5 d).2 (x0 + 1) i = d (x0 + 1) i) → Safe (st_218_41 x0 x1 r41 x2 x3 x4 x5 d).2 → K (.inl (some (0, (st_218_41 x0 x1 r41 x2 x3 x4 x5 d).1))) (st_218_41 x0 x1 r41 x2 x3 x4 x5 d).2) : tRun E 218 (41, [.inr (11, x0), .inl (0, x1), .inl (0, x2), .inl (0, x3), .inl (0, x4), .inl (0, x5), v6], [], 0, 0, d) K := by
  refine t_218_41 ?_
  refine k_179 hS ?_
  refine t_218_51 ?_
  have q1 := mt_3 hS hx0 x1 ((452 + (24 * x1)) + 3) (by omega) (by omega)
  refine ⟨by omega, ⟨m_inR (by omega) (by omega), m_inR (by omega) (by omega)⟩, fun c0 => ?_, fun c0 => ?_⟩
  · have y0 : st_218_41 x0 x1 r41 x2 x3 x4 x5 d = (x4, d) := by simp only [st_218_41, if_neg (show ¬ x5 < d (x0 + 1) ((452 + (24 * x1)) + 3) from Int.not_lt.mpr c0)]
    rw [y0] at h
    exact h (show 0 ≤ x4 ∧ x4 ≤ 1400 from (by omega)) (show ∀ b : Int, (b < x0 + 1 ∨ x0 + 1 < b) → d b = d b from fun _ _ => rfl) (show ∀ i : Int, (0 ≤ i ∧ i ≤ 9) ∨ (11 ≤ i ∧ i < 1916) → d (x0 + 1) i = d (x0 + 1) i from fun _ _ => rfl) hS
  · have q2 := mh_5 hS hx0 _ rfl
    refine ⟨by omega, ⟨m_inR (by omega) (by omega), m_inR (by omega) (by omega)⟩, fun c1 => ?_, fun c1 => ?_⟩
    · refine ih41 x2 x3 x4 (x5 + 1) v6 d hS (by omega) (by omega) (by omega) (by omega) (by omega) (by omega) ?_
      intro e F Q hS_
      have y0 : st_218_41 x0 x1 r41 x2 x3 x4 x5 d = r41 x2 x3 x4 (x5 + 1) d := by simp only [st_218_41, if_pos (show x5 < d (x0 + 1) ((452 + (24 * x1)) + 3) from c0), if_neg (show ¬ x3 < d (x0 + 1) 5 from Int.not_lt.mpr c1)]
      rw [y0] at h
      exact h e F Q hS_
    · have q3 := mh_10 hS hx0 _ rfl
      refine ⟨by omega, ⟨m_inR (by omega) (by omega), m_inR (by omega) (by omega)⟩, fun c2 => ?_, fun c2 => ?_⟩
      · refine ih41 x2 x3 x4 (x5 + 1) v6 d hS (by omega) (by omega) (by omega) (by omega) (by omega) (by omega) ?_
        intro e F Q hS_
        have y0 : st_218_41 x0 x1 r41 x2 x3 x4 x5 d = r41 x2 x3 x4 (x5 + 1) d := by simp only [st_218_41, if_pos (show x5 < d (x0 + 1) ((452 + (24 * x1)) + 3) from c0), if_pos (show x3 < d (x0 + 1) 5 from c1), if_neg (show ¬ d (x0 + 1) 10 < 200 from Int.not_lt.mpr c2)]
        rw [y0] at h
        exact h e F Q hS_
      · refine k_216 hS hx0 (m_inR (by omega) (by omega)) (m_inR (by omega) (by omega)) (fun e1 => ?_)
        refine t_218_87 ?_
        refine ⟨m_inR (by omega) (by omega), fun c3 => ?_, fun c3 => ?_⟩
        · refine ih41 x2 x3 x4 (x5 + 1) v6 d hS (by omega) (by omega) (by omega) (by omega) (by omega) (by omega) ?_
          intro e F Q hS_
          have y0 : st_218_41 x0 x1 r41 x2 x3 x4 x5 d = r41 x2 x3 x4 (x5 + 1) d := by simp only [st_218_41, if_pos (show x5 < d (x0 + 1) ((452 + (24 * x1)) + 3) from c0), if_pos (show x3 < d (x0 + 1) 5 from c1), if_pos (show d (x0 + 1) 10 < 200 from c2), if_neg (show ¬ v_216 x0 x2 x5 d = 0 from c3)]
          rw [y0] at h
          exact h e F Q hS_
        · refine ⟨by omega, ?_⟩
          refine k_180 hS ?_
          refine t_218_100 ?_
          refine ⟨by omega, ?_⟩
          have hS1 : Safe (mset d (x0 + 1) ((1916 + (5 * (d (x0 + 1) 10))) + 0) x2) := smk_0 hS hx0 (d (x0 + 1) 10) ((1916 + (5 * (d (x0 + 1) 10))) + 0) (by omega) (by omega) (by omega)
          refine ⟨by omega, ?_⟩
          have hS2 : Safe (mset (mset d (x0 + 1) ((1916 + (5 * (d (x0 + 1) 10))) + 0) x2) (x0 + 1) ((1916 + (5 * (d (x0 + 1) 10))) + 1) x1) := smk_1 hS1 hx0 (d (x0 + 1) 10) ((1916 + (5 * (d (x0 + 1) 10))) + 1) (by omega) (by omega) (by omega)
          refine ⟨by omega, ?_⟩
          have hS3 : Safe (mset (mset (mset d (x0 + 1) ((1916 + (5 * (d (x0 + 1) 10))) + 0) x2) (x0 + 1) ((1916 + (5 * (d (x0 + 1) 10))) + 1) x1) (x0 + 1) ((1916 + (5 * (d (x0 + 1) 10))) + 2) x5) := smk_2 hS2 hx0 (d (x0 + 1) 10) ((1916 + (5 * (d (x0 + 1) 10))) + 2) (by omega) (by omega) (by omega)
          refine ⟨by omega, ?_⟩
          have hS4 : Safe (mset (mset (mset (mset d (x0 + 1) ((1916 + (5 * (d (x0 + 1) 10))) + 0) x2) (x0 + 1) ((1916 + (5 * (d (x0 + 1) 10))) + 1) x1) (x0 + 1) ((1916 + (5 * (d (x0 + 1) 10))) + 2) x5) (x0 + 1) ((1916 + (5 * (d (x0 + 1) 10))) + 3) 0) := smz hS3 hx0 ((1916 + (5 * (d (x0 + 1) 10))) + 3)
          rw [mset_ni (d := mset (mset (mset d (x0 + 1) ((1916 + (5 * (d (x0 + 1) 10))) + 0) x2) (x0 + 1) ((1916 + (5 * (d (x0 + 1) 10))) + 1) x1) (x0 + 1) ((1916 + (5 * (d (x0 + 1) 10))) + 2) x5) (a := x0 + 1) (i := (1916 + (5 * (d (x0 + 1) 10))) + 3) (v := (0 : Int)) (b := x0 + 1) (j := (0 : Int)) (by omega)]
          rw [mset_ni (d := mset (mset d (x0 + 1) ((1916 + (5 * (d (x0 + 1) 10))) + 0) x2) (x0 + 1) ((1916 + (5 * (d (x0 + 1) 10))) + 1) x1) (a := x0 + 1) (i := (1916 + (5 * (d (x0 + 1) 10))) + 2) (v := x5) (b := x0 + 1) (j := (0 : Int)) (by omega)]
          rw [mset_ni (d := mset d (x0 + 1) ((1916 + (5 * (d (x0 + 1) 10))) + 0) x2) (a := x0 + 1) (i := (1916 + (5 * (d (x0 + 1) 10))) + 1) (v := x1) (b := x0 + 1) (j := (0 : Int)) (by omega)]
          rw [mset_ni (d := d) (a := x0 + 1) (i := (1916 + (5 * (d (x0 + 1) 10))) + 0) (v := x2) (b := x0 + 1) (j := (0 : Int)) (by omega)]
          have q4 := mh_0 hS hx0 _ rfl
          refine ⟨by omega, by omega, ?_⟩
          have hS5 : Safe (mset (mset (mset (mset (mset d (x0 + 1) ((1916 + (5 * (d (x0 + 1) 10))) + 0) x2) (x0 + 1) ((1916 + (5 * (d (x0 + 1) 10))) + 1) x1) (x0 + 1) ((1916 + (5 * (d (x0 + 1) 10))) + 2) x5) (x0 + 1) ((1916 + (5 * (d (x0 + 1) 10))) + 3) 0) (x0 + 1) ((1916 + (5 * (d (x0 + 1) 10))) + 4) (d (x0 + 1) 0)) := smk_4 hS4 hx0 (d (x0 + 1) 10) ((1916 + (5 * (d (x0 + 1) 10))) + 4) (by omega) (by omega) (by omega)
          rw [mset_ni (d := mset (mset (mset (mset d (x0 + 1) ((1916 + (5 * (d (x0 + 1) 10))) + 0) x2) (x0 + 1) ((1916 + (5 * (d (x0 + 1) 10))) + 1) x1) (x0 + 1) ((1916 + (5 * (d (x0 + 1) 10))) + 2) x5) (x0 + 1) ((1916 + (5 * (d (x0 + 1) 10))) + 3) 0) (a := x0 + 1) (i := (1916 + (5 * (d (x0 + 1) 10))) + 4) (v := d (x0 + 1) 0) (b := x0 + 1) (j := (10 : Int)) (by omega)]
          rw [mset_ni (d := mset (mset (mset d (x0 + 1) ((1916 + (5 * (d (x0 + 1) 10))) + 0) x2) (x0 + 1) ((1916 + (5 * (d (x0 + 1) 10))) + 1) x1) (x0 + 1) ((1916 + (5 * (d (x0 + 1) 10))) + 2) x5) (a := x0 + 1) (i := (1916 + (5 * (d (x0 + 1) 10))) + 3) (v := (0 : Int)) (b := x0 + 1) (j := (10 : Int)) (by omega)]
          rw [mset_ni (d := mset (mset d (x0 + 1) ((1916 + (5 * (d (x0 + 1) 10))) + 0) x2) (x0 + 1) ((1916 + (5 * (d (x0 + 1) 10))) + 1) x1) (a := x0 + 1) (i := (1916 + (5 * (d (x0 + 1) 10))) + 2) (v := x5) (b := x0 + 1) (j := (10 : Int)) (by omega)]
          rw [mset_ni (d := mset d (x0 + 1) ((1916 + (5 * (d (x0 + 1) 10))) + 0) x2) (a := x0 + 1) (i := (1916 + (5 * (d (x0 + 1) 10))) + 1) (v := x1) (b := x0 + 1) (j := (10 : Int)) (by omega)]
          rw [mset_ni (d := d) (a := x0 + 1) (i := (1916 + (5 * (d (x0 + 1) 10))) + 0) (v := x2) (b := x0 + 1) (j := (10 : Int)) (by omega)]
          refine ⟨by omega, by omega, ?_⟩
          have hS6 : Safe (mset (mset (mset (mset (mset (mset d (x0 + 1) ((1916 + (5 * (d (x0 + 1) 10))) + 0) x2) (x0 + 1) ((1916 + (5 * (d (x0 + 1) 10))) + 1) x1) (x0 + 1) ((1916 + (5 * (d (x0 + 1) 10))) + 2) x5) (x0 + 1) ((1916 + (5 * (d (x0 + 1) 10))) + 3) 0) (x0 + 1) ((1916 + (5 * (d (x0 + 1) 10))) + 4) (d (x0 + 1) 0)) (x0 + 1) 10 ((d (x0 + 1) 10) + 1)) := smh_10 hS5 hx0 _ rfl (by omega)
          refine ih41 x2 (x3 + 1) (x4 + 1) (x5 + 1) (.inl (0, 1916 + (5 * (d (x0 + 1) 10)))) (mset (mset (mset (mset (mset (mset d (x0 + 1) ((1916 + (5 * (d (x0 + 1) 10))) + 0) x2) (x0 + 1) ((1916 + (5 * (d (x0 + 1) 10))) + 1) x1) (x0 + 1) ((1916 + (5 * (d (x0 + 1) 10))) + 2) x5) (x0 + 1) ((1916 + (5 * (d (x0 + 1) 10))) + 3) 0) (x0 + 1) ((1916 + (5 * (d (x0 + 1) 10))) + 4) (d (x0 + 1) 0)) (x0 + 1) 10 ((d (x0 + 1) 10) + 1)) hS6 (by omega) (by omega) (by omega) (by omega) (by omega) (by omega) ?_
          intro e F Q hS_
          have y0 : st_218_41 x0 x1 r41 x2 x3 x4 x5 d = r41 x2 (x3 + 1) (x4 + 1) (x5 + 1) (mset (mset (mset (mset (mset (mset d (x0 + 1) ((1916 + (5 * (d (x0 + 1) 10))) + 0) x2) (x0 + 1) ((1916 + (5 * (d (x0 + 1) 10))) + 1) x1) (x0 + 1) ((1916 + (5 * (d (x0 + 1) 10))) + 2) x5) (x0 + 1) ((1916 + (5 * (d (x0 + 1) 10))) + 3) 0) (x0 + 1) ((1916 + (5 * (d (x0 + 1) 10))) + 4) (d (x0 + 1) 0)) (x0 + 1) 10 ((d (x0 + 1) 10) + 1)) := by simp only [st_218_41, if_pos (show x5 < d (x0 + 1) ((452 + (24 * x1)) + 3) from c0), if_pos (show x3 < d (x0 + 1) 5 from c1), if_pos (show d (x0 + 1) 10 < 200 from c2), if_pos (show v_216 x0 x2 x5 d = 0 from c3)]
          rw [y0] at h
          exact h e (fun b hb => (F b hb).trans ((show ∀ b : Int, (b < x0 + 1 ∨ x0 + 1 < b) → (mset (mset (mset (mset (mset (mset d (x0 + 1) ((1916 + (5 * (d (x0 + 1) 10))) + 0) x2) (x0 + 1) ((1916 + (5 * (d (x0 + 1) 10))) + 1) x1) (x0 + 1) ((1916 + (5 * (d (x0 + 1) 10))) + 2) x5) (x0 + 1) ((1916 + (5 * (d (x0 + 1) 10))) + 3) 0) (x0 + 1) ((1916 + (5 * (d (x0 + 1) 10))) + 4) (d (x0 + 1) 0)) (x0 + 1) 10 ((d (x0 + 1) 10) + 1)) b = d b from fun b hb => (mset_ne (by omega)).trans ((mset_ne (by omega)).trans ((mset_ne (by omega)).trans ((mset_ne (by omega)).trans ((mset_ne (by omega)).trans (mset_ne (by omega))))))) b hb)) (fun i hi => (Q i hi).trans ((show ∀ i : Int, (0 ≤ i ∧ i ≤ 9) ∨ (11 ≤ i ∧ i < 1916) → (mset (mset (mset (mset (mset (mset d (x0 + 1) ((1916 + (5 * (d (x0 + 1) 10))) + 0) x2) (x0 + 1) ((1916 + (5 * (d (x0 + 1) 10))) + 1) x1) (x0 + 1) ((1916 + (5 * (d (x0 + 1) 10))) + 2) x5) (x0 + 1) ((1916 + (5 * (d (x0 + 1) 10))) + 3) 0) (x0 + 1) ((1916 + (5 * (d (x0 + 1) 10))) + 4) (d (x0 + 1) 0)) (x0 + 1) 10 ((d (x0 + 1) 10) + 1)) (x0 + 1) i = d (x0 + 1) i from fun i hi => (((((mset_ni (by omega)).trans (mset_ni (by omega))).trans (mset_ni (by omega))).trans (mset_ni (by omega))).trans (mset_ni (by omega))).trans (mset_ni (by omega))) i hi)) hS_
theorem l_218_41 {E : mO × tW} {K : tK} {x0 x1 : Int} (hx0 : mdB x0) (p1 : 0 ≤ x1 ∧ x1 ≤ 60) : ∀ (n : Nat) (x2 x3 x4 x5 : Int) (v6 : tV) (d : mD), Safe d → (0 ≤ x2 ∧ x2 ≤ 15) → (0 ≤ x3 ∧ x3 ≤ 2000 + x5) → (0 ≤ x4 ∧ x4 ≤ x5) → (0 ≤ x5 ∧ x5 ≤ 1301) → 1301 - x5 ≤ (n : Int) → ((0 ≤ (lp_218_41 x0 x1 n x2 x3 x4 x5 d).1 ∧ (lp_218_41 x0 x1 n x2 x3 x4 x5 d).1 ≤ 1400) → (∀ b : Int, (b < x0 + 1 ∨ x0 + 1 < b) → (lp_218_41 x0 x1 n x2 x3 x4 x5 d).2 b = d b) → (∀ i : Int, (0 ≤ i ∧ i ≤ 9) ∨ (11 ≤ i ∧ i < 1916) → (lp_218_41 x0 x1 n x2 x3 x4 x5 d).2 (x0 + 1) i = d (x0 + 1) i) → Safe (lp_218_41 x0 x1 n x2 x3 x4 x5 d).2 → K (.inl (some (0, (lp_218_41 x0 x1 n x2 x3 x4 x5 d).1))) (lp_218_41 x0 x1 n x2 x3 x4 x5 d).2) → tRun E 218 (41, [.inr (11, x0), .inl (0, x1), .inl (0, x2), .inl (0, x3), .inl (0, x4), .inl (0, x5), v6], [], 0, 0, d) K := by
  intro n
  induction n with
  | zero =>
    intro x2 x3 x4 x5 v6 d hS i0 i1 i2 i3 hm  h
    exact ls_218_41 hx0 p1 0 _ (fun _ _ _ _ _ _ _ _ _ _ _ m0 m1 _ => absurd m1 (by omega)) x2 x3 x4 x5 v6 d hS i0 i1 i2 i3 hm  h
  | succ n ih =>
    intro x2 x3 x4 x5 v6 d hS i0 i1 i2 i3 hm  h
    exact ls_218_41 hx0 p1 ((n + 1 : Nat) : Int) _ (fun x2 x3 x4 x5 v6 d hS i0 i1 i2 i3  m0 m1 h => ih x2 x3 x4 x5 v6 d hS i0 i1 i2 i3 (by omega)  h) x2 x3 x4 x5 v6 d hS i0 i1 i2 i3 hm  h
def f_218 (x0 x1 : Int) (d : mD) : Int × mD := lp_218_41 x0 x1 (1301 - ((d (x0 + 1) ((452 + (24 * x1)) + 2)) + (d (x0 + 1) 2)) : Int).toNat (d (x0 + 1) ((452 + (24 * x1)) + 0)) (v_217 x0 (d (x0 + 1) ((452 + (24 * x1)) + 0)) d) 0 ((d (x0 + 1) ((452 + (24 * x1)) + 2)) + (d (x0 + 1) 2)) d
def v_218 (x0 x1 : Int) (d : mD) : Int := (f_218 x0 x1 d).1
def g_218 (x0 x1 : Int) (d : mD) : mD := (f_218 x0 x1 d).2
theorem k_218 {E : mO × tW} {K : tK} {d : mD} {x0 x1 : Int} (hS : Safe d) (hx0 : mdB x0) (p1 : 0 ≤ x1 ∧ x1 ≤ 60) (h : (0 ≤ (v_218 x0 x1 d) ∧ (v_218 x0 x1 d) ≤ 1400) → (∀ b : Int, (b < x0 + 1 ∨ x0 + 1 < b) → (g_218 x0 x1 d) b = d b) → (∀ i : Int, (0 ≤ i ∧ i ≤ 9) ∨ (11 ≤ i ∧ i < 1916) → (g_218 x0 x1 d) (x0 + 1) i = d (x0 + 1) i) → Safe (g_218 x0 x1 d) → K (.inl (some (0, (v_218 x0 x1 d)))) (g_218 x0 x1 d)) : tCall E 218 [.inr (11, x0), .inl (0, x1)] d K := by
  simp only [v_218, g_218] at h
  refine t_218_0 ?_
  refine k_179 hS ?_
  refine t_218_8 ?_
  refine ⟨by omega, ?_⟩
  have q5 := mt_0 hS hx0 x1 ((452 + (24 * x1)) + 0) (by omega) (by omega)
  refine k_217 hS hx0 (m_inR (by omega) (by omega)) (fun e2 => ?_)
  refine t_218_17 ?_
  refine k_179 hS ?_
  refine t_218_29 ?_
  refine ⟨by omega, by omega, ?_⟩
  have q6 := mt_2 hS hx0 x1 ((452 + (24 * x1)) + 2) (by omega) (by omega)
  have q7 := mh_2 hS hx0 _ rfl
  refine l_218_41 hx0 p1 (1301 - ((d (x0 + 1) ((452 + (24 * x1)) + 2)) + (d (x0 + 1) 2)) : Int).toNat (d (x0 + 1) ((452 + (24 * x1)) + 0)) (v_217 x0 (d (x0 + 1) ((452 + (24 * x1)) + 0)) d) 0 ((d (x0 + 1) ((452 + (24 * x1)) + 2)) + (d (x0 + 1) 2)) tu d hS (by omega) (by omega) (by omega) (by omega) (by omega) ?_
  intro e F Q hS_
  have y0 : f_218 x0 x1 d = lp_218_41 x0 x1 (1301 - ((d (x0 + 1) ((452 + (24 * x1)) + 2)) + (d (x0 + 1) 2)) : Int).toNat (d (x0 + 1) ((452 + (24 * x1)) + 0)) (v_217 x0 (d (x0 + 1) ((452 + (24 * x1)) + 0)) d) 0 ((d (x0 + 1) ((452 + (24 * x1)) + 2)) + (d (x0 + 1) 2)) d := by simp only [f_218]
  rw [y0] at h
  exact h e F Q hS_
def st_219_106 (x0 : Int) (r2 : Int → mD → Int × mD) (r106 : Int → Int → Int → mD → Int × mD) (x1 x2 x3 : Int) (d : mD) : Int × mD := if x3 < d (x0 + 1) 11 then r106 x1 x2 (x3 + 1) (mset d (x0 + 1) (2916 + x3) (d (x0 + 1) ((2916 + x3) + 1))) else r2 (x1 + 1) d
def lp_219_106 (x0 : Int) (r2 : Int → mD → Int × mD) : Nat → Int → Int → Int → mD → Int × mD
  | 0 => st_219_106 x0 r2 (fun _ _ _ d => (0, d))
  | n + 1 => st_219_106 x0 r2 (lp_219_106 x0 r2 n)
theorem ls_219_106 {E : mO × tW} {K : tK} {x0 : Int} (hx0 : mdB x0) (N2 : Int) (r2 : Int → mD → Int × mD) (ih2 : ∀ (x1 : Int) (v2 v3 : tV) (d : mD), Safe d → (0 ≤ x1 ∧ x1 + d (x0 + 1) 11 ≤ 200) → 0 ≤ d (x0 + 1) 11 → d (x0 + 1) 11 < N2 → ((0 ≤ (r2 x1 d).1 ∧ (r2 x1 d).1 ≤ 200) → (∀ b : Int, (b < x0 + 1 ∨ x0 + 1 < b) → (r2 x1 d).2 b = d b) → (∀ i : Int, (0 ≤ i ∧ i ≤ 8 ∧ ¬ i = 1) ∨ (12 ≤ i ∧ i < 420 ∧ (i - 12) % 68 ≤ 4) ∨ (420 ≤ i ∧ i < 452 ∧ i % 2 = 0) ∨ i = 9 ∨ (452 ≤ i ∧ i < 1916 ∧ 5 ≤ (i - 452) % 24) → (r2 x1 d).2 (x0 + 1) i = d (x0 + 1) i) → Safe (r2 x1 d).2 → K (.inl (some (0, (r2 x1 d).1))) (r2 x1 d).2) → tRun E 219 (2, [.inr (11, x0), .inl (0, x1), v2, v3], [], 0, 0, d) K) (N106 : Int) (r106 : Int → Int → Int → mD → Int × mD) (ih106 : ∀ (x1 x2 x3 : Int) (d : mD), Safe d → (0 ≤ x1 ∧ x1 + 1 + d (x0 + 1) 11 ≤ 200) → (0 ≤ x3 ∧ x3 ≤ 200) → (0 ≤ d (x0 + 1) 11) → (d (x0 + 1) 11 + 1 ≤ N2) → d (x0 + 1) 11 ≤ N2 → 0 ≤ 200 - x3 → 200 - x3 < N106 → ((0 ≤ (r106 x1 x2 x3 d).1 ∧ (r106 x1 x2 x3 d).1 ≤ 200) → (∀ b : Int, (b < x0 + 1 ∨ x0 + 1 < b) → (r106 x1 x2 x3 d).2 b = d b) → (∀ i : Int, (0 ≤ i ∧ i ≤ 8 ∧ ¬ i = 1) ∨ (12 ≤ i ∧ i < 420 ∧ (i - 12) % 68 ≤ 4) ∨ (420 ≤ i ∧ i < 452 ∧ i % 2 = 0) ∨ i = 9 ∨ (452 ≤ i ∧ i < 1916 ∧ 5 ≤ (i - 452) % 24) → (r106 x1 x2 x3 d).2 (x0 + 1) i = d (x0 + 1) i) → Safe (r106 x1 x2 x3 d).2 → K (.inl (some (0, (r106 x1 x2 x3 d).1))) (r106 x1 x2 x3 d).2) → tRun E 219 (106, [.inr (11, x0), .inl (0, x1), .inl (0, x2), .inl (0, x3)], [], 0, 0, d) K) (x1 x2 x3 : Int) (d : mD) (hS : Safe d) (i0 : 0 ≤ x1 ∧ x1 + 1 + d (x0 + 1) 11 ≤ 200) (i1 : 0 ≤ x3 ∧ x3 ≤ 200) (i2 : 0 ≤ d (x0 + 1) 11) (i3 : d (x0 + 1) 11 + 1 ≤ N2) (hm : 200 - x3 ≤ N106) (m2 : d (x0 + 1) 11 ≤ N2) (h : (0 ≤ (st_219_106 x0 r2 r106 x1 x2 x3 d).1 ∧ (st_219_106 x0 r2 r106 x1 x2 x3 d).1 ≤ 200) → (∀ b : Int, (b < x0 + 1 ∨ x0 + 1 < b) → (st_219_106 x0 r2 r106 x1 x2 x3 d).2 b = d b) → (∀ i : Int, (0 ≤ i ∧ i ≤ 8 ∧ ¬ i = 1) ∨ (12 ≤ i ∧ i < 420 ∧ (i - 12) % 68 ≤ 4) ∨ (420 ≤ i ∧ i < 452 ∧ i % 2 = 0) ∨ i = 9 ∨ (452 ≤ i ∧ i < 1916 ∧ 5 ≤ (i - 452) % 24) → (st_219_106 x0 r2 r106 x1 x2 x3 d).2 (x0 + 1) i = d (x0 + 1) i) → Safe (st_219_106 x0 r2 r106 x1 x2 x3 d).2 → K (.inl (some (0, (st_219_106 x0 r2 r106 x1 x2 x3 d).1))) (st_219_106 x0 r2 r106 x1 x2 x3 d).2) : tRun E 219 (106, [.inr (11, x0), .inl (0, x1), .inl (0, x2), .inl (0, x3)], [], 0, 0, d) K := by
  refine t_219_106 ?_
  have q1 := mh_11 hS hx0 _ rfl
  refine ⟨by omega, ⟨m_inR (by omega) (by omega), m_inR (by omega) (by omega)⟩, fun c0 => ?_, fun c0 => ?_⟩
  · refine ih2 (x1 + 1) (.inl (0, x2)) (.inl (0, x3)) d hS (by omega) (by omega) (by omega) ?_
    intro e F Q hS_
    have y0 : st_219_106 x0 r2 r106 x1 x2 x3 d = r2 (x1 + 1) d := by simp only [st_219_106, if_neg (show ¬ x3 < d (x0 + 1) 11 from Int.not_lt.mpr c0)]
    rw [y0] at h
    exact h e F Q hS_
  · have q2 := mf hS hx0 (x3 + 1) ((2916 + x3) + 1) (by omega) (by omega)
    refine ⟨by omega, by omega, ?_⟩
    have hS1 : Safe (mset d (x0 + 1) (2916 + x3) (d (x0 + 1) ((2916 + x3) + 1))) := smf hS hx0 x3 (2916 + x3) (by omega) (by omega) (by omega)
    have q3 : (mset d (x0 + 1) (2916 + x3) (d (x0 + 1) ((2916 + x3) + 1))) (x0 + 1) 11 = d (x0 + 1) 11 := mset_ni (by omega)
    refine ih106 x1 x2 (x3 + 1)  (mset d (x0 + 1) (2916 + x3) (d (x0 + 1) ((2916 + x3) + 1))) hS1 (by omega) (by omega) (by omega) (by omega) (by omega) (by omega) (by omega) ?_
    intro e F Q hS_
    have y0 : st_219_106 x0 r2 r106 x1 x2 x3 d = r106 x1 x2 (x3 + 1) (mset d (x0 + 1) (2916 + x3) (d (x0 + 1) ((2916 + x3) + 1))) := by simp only [st_219_106, if_pos (show x3 < d (x0 + 1) 11 from c0)]
    rw [y0] at h
    exact h e (fun b hb => (F b hb).trans ((show ∀ b : Int, (b < x0 + 1 ∨ x0 + 1 < b) → (mset d (x0 + 1) (2916 + x3) (d (x0 + 1) ((2916 + x3) + 1))) b = d b from fun b hb => mset_ne (by omega)) b hb)) (fun i hi => (Q i hi).trans ((show ∀ i : Int, (0 ≤ i ∧ i ≤ 8 ∧ ¬ i = 1) ∨ (12 ≤ i ∧ i < 420 ∧ (i - 12) % 68 ≤ 4) ∨ (420 ≤ i ∧ i < 452 ∧ i % 2 = 0) ∨ i = 9 ∨ (452 ≤ i ∧ i < 1916 ∧ 5 ≤ (i - 452) % 24) → (mset d (x0 + 1) (2916 + x3) (d (x0 + 1) ((2916 + x3) + 1))) (x0 + 1) i = d (x0 + 1) i from fun i hi => mset_ni (by omega)) i hi)) hS_
theorem l_219_106 {E : mO × tW} {K : tK} {x0 : Int} (hx0 : mdB x0) (N2 : Int) (r2 : Int → mD → Int × mD) (ih2 : ∀ (x1 : Int) (v2 v3 : tV) (d : mD), Safe d → (0 ≤ x1 ∧ x1 + d (x0 + 1) 11 ≤ 200) → 0 ≤ d (x0 + 1) 11 → d (x0 + 1) 11 < N2 → ((0 ≤ (r2 x1 d).1 ∧ (r2 x1 d).1 ≤ 200) → (∀ b : Int, (b < x0 + 1 ∨ x0 + 1 < b) → (r2 x1 d).2 b = d b) → (∀ i : Int, (0 ≤ i ∧ i ≤ 8 ∧ ¬ i = 1) ∨ (12 ≤ i ∧ i < 420 ∧ (i - 12) % 68 ≤ 4) ∨ (420 ≤ i ∧ i < 452 ∧ i % 2 = 0) ∨ i = 9 ∨ (452 ≤ i ∧ i < 1916 ∧ 5 ≤ (i - 452) % 24) → (r2 x1 d).2 (x0 + 1) i = d (x0 + 1) i) → Safe (r2 x1 d).2 → K (.inl (some (0, (r2 x1 d).1))) (r2 x1 d).2) → tRun E 219 (2, [.inr (11, x0), .inl (0, x1), v2, v3], [], 0, 0, d) K) : ∀ (n : Nat) (x1 x2 x3 : Int) (d : mD), Safe d → (0 ≤ x1 ∧ x1 + 1 + d (x0 + 1) 11 ≤ 200) → (0 ≤ x3 ∧ x3 ≤ 200) → (0 ≤ d (x0 + 1) 11) → (d (x0 + 1) 11 + 1 ≤ N2) → 200 - x3 ≤ (n : Int) → d (x0 + 1) 11 ≤ N2 → ((0 ≤ (lp_219_106 x0 r2 n x1 x2 x3 d).1 ∧ (lp_219_106 x0 r2 n x1 x2 x3 d).1 ≤ 200) → (∀ b : Int, (b < x0 + 1 ∨ x0 + 1 < b) → (lp_219_106 x0 r2 n x1 x2 x3 d).2 b = d b) → (∀ i : Int, (0 ≤ i ∧ i ≤ 8 ∧ ¬ i = 1) ∨ (12 ≤ i ∧ i < 420 ∧ (i - 12) % 68 ≤ 4) ∨ (420 ≤ i ∧ i < 452 ∧ i % 2 = 0) ∨ i = 9 ∨ (452 ≤ i ∧ i < 1916 ∧ 5 ≤ (i - 452) % 24) → (lp_219_106 x0 r2 n x1 x2 x3 d).2 (x0 + 1) i = d (x0 + 1) i) → Safe (lp_219_106 x0 r2 n x1 x2 x3 d).2 → K (.inl (some (0, (lp_219_106 x0 r2 n x1 x2 x3 d).1))) (lp_219_106 x0 r2 n x1 x2 x3 d).2) → tRun E 219 (106, [.inr (11, x0), .inl (0, x1), .inl (0, x2), .inl (0, x3)], [], 0, 0, d) K := by
  intro n
  induction n with
  | zero =>
    intro x1 x2 x3  d hS i0 i1 i2 i3 hm m2 h
    exact ls_219_106 hx0 N2 r2 ih2 0 _ (fun _ _ _  _ _ _ _ _ _ _ m0 m1 _ => absurd m1 (by omega)) x1 x2 x3  d hS i0 i1 i2 i3 hm m2 h
  | succ n ih =>
    intro x1 x2 x3  d hS i0 i1 i2 i3 hm m2 h
    exact ls_219_106 hx0 N2 r2 ih2 ((n + 1 : Nat) : Int) _ (fun x1 x2 x3  d hS i0 i1 i2 i3 m2 m0 m1 h => ih x1 x2 x3  d hS i0 i1 i2 i3 (by omega) m2 h) x1 x2 x3  d hS i0 i1 i2 i3 hm m2 h
def st_219_2 (x0 : Int) (r2 : Int → mD → Int × mD) (x1 : Int) (d : mD) : Int × mD := if (0 : Int) < d (x0 + 1) 11 then (if d (x0 + 1) 1 < d (x0 + 1) 6 then (x1, d) else lp_219_106 x0 r2 (200 - 0 : Int).toNat x1 (1916 + (5 * (d (x0 + 1) 2916))) 0 (mset (mset (mset (mset d (x0 + 1) 1 ((d (x0 + 1) 1) - (d (x0 + 1) 6))) (x0 + 1) ((420 + (2 * (d (x0 + 1) ((1916 + (5 * (d (x0 + 1) 2916))) + 0)))) + 1) ((d (x0 + 1) ((420 + (2 * (d (x0 + 1) ((1916 + (5 * (d (x0 + 1) 2916))) + 0)))) + 1)) + (d (x0 + 1) 6))) (x0 + 1) ((1916 + (5 * (d (x0 + 1) 2916))) + 3) 2) (x0 + 1) 11 ((d (x0 + 1) 11) - 1))) else (x1, d)
def lp_219_2 (x0 : Int) : Nat → Int → mD → Int × mD
  | 0 => st_219_2 x0 (fun _ d => (0, d))
  | n + 1 => st_219_2 x0 (lp_219_2 x0 n)
theorem ls_219_2 {E : mO × tW} {K : tK} {x0 : Int} (hx0 : mdB x0) (N2 : Int) (r2 : Int → mD → Int × mD) (ih2 : ∀ (x1 : Int) (v2 v3 : tV) (d : mD), Safe d → (0 ≤ x1 ∧ x1 + d (x0 + 1) 11 ≤ 200) → 0 ≤ d (x0 + 1) 11 → d (x0 + 1) 11 < N2 → ((0 ≤ (r2 x1 d).1 ∧ (r2 x1 d).1 ≤ 200) → (∀ b : Int, (b < x0 + 1 ∨ x0 + 1 < b) → (r2 x1 d).2 b = d b) → (∀ i : Int, (0 ≤ i ∧ i ≤ 8 ∧ ¬ i = 1) ∨ (12 ≤ i ∧ i < 420 ∧ (i - 12) % 68 ≤ 4) ∨ (420 ≤ i ∧ i < 452 ∧ i % 2 = 0) ∨ i = 9 ∨ (452 ≤ i ∧ i < 1916 ∧ 5 ≤ (i - 452) % 24) → (r2 x1 d).2 (x0 + 1) i = d (x0 + 1) i) → Safe (r2 x1 d).2 → K (.inl (some (0, (r2 x1 d).1))) (r2 x1 d).2) → tRun E 219 (2, [.inr (11, x0), .inl (0, x1), v2, v3], [], 0, 0, d) K) (x1 : Int) (v2 v3 : tV) (d : mD) (hS : Safe d) (i0 : 0 ≤ x1 ∧ x1 + d (x0 + 1) 11 ≤ 200) (hm : d (x0 + 1) 11 ≤ N2) (h : (0 ≤ (st_219_2 x0 r2 x1 d).1 ∧ (st_219_2 x0 r2 x1 d).1 ≤ 200) → (∀ b : Int, (b < x0 + 1 ∨ x0 + 1 < b) → (st_219_2 x0 r2 x1 d).2 b = d b) → (∀ i : Int, (0 ≤ i ∧ i ≤ 8 ∧ ¬ i = 1) ∨ (12 ≤ i ∧ i < 420 ∧ (i - 12) % 68 ≤ 4) ∨ (420 ≤ i ∧ i < 452 ∧ i % 2 = 0) ∨ i = 9 ∨ (452 ≤ i ∧ i < 1916 ∧ 5 ≤ (i - 452) % 24) → (st_219_2 x0 r2 x1 d).2 (x0 + 1) i = d (x0 + 1) i) → Safe (st_219_2 x0 r2 x1 d).2 → K (.inl (some (0, (st_219_2 x0 r2 x1 d).1))) (st_219_2 x0 r2 x1 d).2) : tRun E 219 (2, [.inr (11, x0), .inl (0, x1), v2, v3], [], 0, 0, d) K := by
  refine t_219_2 ?_
  have q4 := mh_11 hS hx0 _ rfl
  refine ⟨by omega, m_inR (by omega) (by omega), fun c0 => ?_, fun c0 => ?_⟩
  · have y0 : st_219_2 x0 r2 x1 d = (x1, d) := by simp only [st_219_2, if_neg (show ¬ (0 : Int) < d (x0 + 1) 11 from Int.not_lt.mpr c0)]
    rw [y0] at h
    exact h (show 0 ≤ x1 ∧ x1 ≤ 200 from (by omega)) (show ∀ b : Int, (b < x0 + 1 ∨ x0 + 1 < b) → d b = d b from fun _ _ => rfl) (show ∀ i : Int, (0 ≤ i ∧ i ≤ 8 ∧ ¬ i = 1) ∨ (12 ≤ i ∧ i < 420 ∧ (i - 12) % 68 ≤ 4) ∨ (420 ≤ i ∧ i < 452 ∧ i % 2 = 0) ∨ i = 9 ∨ (452 ≤ i ∧ i < 1916 ∧ 5 ≤ (i - 452) % 24) → d (x0 + 1) i = d (x0 + 1) i from fun _ _ => rfl) hS
  · have q5 := mh_1 hS hx0 _ rfl
    have q6 := mh_6 hS hx0 _ rfl
    refine ⟨by omega, by omega, ⟨m_inR (by omega) (by omega), m_inR (by omega) (by omega)⟩, fun c1 => ?_, fun c1 => ?_⟩
    · have y0 : st_219_2 x0 r2 x1 d = (x1, d) := by simp only [st_219_2, if_pos (show (0 : Int) < d (x0 + 1) 11 from c0), if_pos (show d (x0 + 1) 1 < d (x0 + 1) 6 from c1)]
      rw [y0] at h
      exact h (show 0 ≤ x1 ∧ x1 ≤ 200 from (by omega)) (show ∀ b : Int, (b < x0 + 1 ∨ x0 + 1 < b) → d b = d b from fun _ _ => rfl) (show ∀ i : Int, (0 ≤ i ∧ i ≤ 8 ∧ ¬ i = 1) ∨ (12 ≤ i ∧ i < 420 ∧ (i - 12) % 68 ≤ 4) ∨ (420 ≤ i ∧ i < 452 ∧ i % 2 = 0) ∨ i = 9 ∨ (452 ≤ i ∧ i < 1916 ∧ 5 ≤ (i - 452) % 24) → d (x0 + 1) i = d (x0 + 1) i from fun _ _ => rfl) hS
    · refine ⟨by omega, ?_⟩
      refine k_180 hS ?_
      refine t_219_39 ?_
      refine ⟨by omega, by omega, by omega, ?_⟩
      have hS2 : Safe (mset d (x0 + 1) 1 ((d (x0 + 1) 1) - (d (x0 + 1) 6))) := smh_1 hS hx0 _ rfl (by omega)
      have q7 := mf hS hx0 0 2916 (by omega) (by omega)
      rw [mset_ni (d := d) (a := x0 + 1) (i := (1 : Int)) (v := (d (x0 + 1) 1) - (d (x0 + 1) 6)) (b := x0 + 1) (j := (1916 + (5 * (d (x0 + 1) 2916))) + 0) (by omega)]
      refine ⟨by omega, ?_⟩
      refine k_178 hS2 ?_
      refine t_219_71 ?_
      have q8 := mk_0 hS hx0 (d (x0 + 1) 2916) ((1916 + (5 * (d (x0 + 1) 2916))) + 0) (by omega) (by omega)
      rw [mset_ni (d := d) (a := x0 + 1) (i := (1 : Int)) (v := (d (x0 + 1) 1) - (d (x0 + 1) 6)) (b := x0 + 1) (j := (420 + (2 * (d (x0 + 1) ((1916 + (5 * (d (x0 + 1) 2916))) + 0)))) + 1) (by omega)]
      rw [mset_ni (d := d) (a := x0 + 1) (i := (1 : Int)) (v := (d (x0 + 1) 1) - (d (x0 + 1) 6)) (b := x0 + 1) (j := (6 : Int)) (by omega)]
      refine ⟨by omega, by omega, by omega, ?_⟩
      have hS3 : Safe (mset (mset d (x0 + 1) 1 ((d (x0 + 1) 1) - (d (x0 + 1) 6))) (x0 + 1) ((420 + (2 * (d (x0 + 1) ((1916 + (5 * (d (x0 + 1) 2916))) + 0)))) + 1) ((d (x0 + 1) ((420 + (2 * (d (x0 + 1) ((1916 + (5 * (d (x0 + 1) 2916))) + 0)))) + 1)) + (d (x0 + 1) 6))) := smp_1 hS2 hx0 (d (x0 + 1) ((1916 + (5 * (d (x0 + 1) 2916))) + 0)) ((420 + (2 * (d (x0 + 1) ((1916 + (5 * (d (x0 + 1) 2916))) + 0)))) + 1) (by omega) (by omega)
      refine ⟨by omega, ?_⟩
      have hS4 : Safe (mset (mset (mset d (x0 + 1) 1 ((d (x0 + 1) 1) - (d (x0 + 1) 6))) (x0 + 1) ((420 + (2 * (d (x0 + 1) ((1916 + (5 * (d (x0 + 1) 2916))) + 0)))) + 1) ((d (x0 + 1) ((420 + (2 * (d (x0 + 1) ((1916 + (5 * (d (x0 + 1) 2916))) + 0)))) + 1)) + (d (x0 + 1) 6))) (x0 + 1) ((1916 + (5 * (d (x0 + 1) 2916))) + 3) 2) := smk_3 hS3 hx0 (d (x0 + 1) 2916) ((1916 + (5 * (d (x0 + 1) 2916))) + 3) (by omega) (by omega) (by omega)
      rw [mset_ni (d := mset (mset d (x0 + 1) 1 ((d (x0 + 1) 1) - (d (x0 + 1) 6))) (x0 + 1) ((420 + (2 * (d (x0 + 1) ((1916 + (5 * (d (x0 + 1) 2916))) + 0)))) + 1) ((d (x0 + 1) ((420 + (2 * (d (x0 + 1) ((1916 + (5 * (d (x0 + 1) 2916))) + 0)))) + 1)) + (d (x0 + 1) 6))) (a := x0 + 1) (i := (1916 + (5 * (d (x0 + 1) 2916))) + 3) (v := (2 : Int)) (b := x0 + 1) (j := (11 : Int)) (by omega)]
      rw [mset_ni (d := mset d (x0 + 1) 1 ((d (x0 + 1) 1) - (d (x0 + 1) 6))) (a := x0 + 1) (i := (420 + (2 * (d (x0 + 1) ((1916 + (5 * (d (x0 + 1) 2916))) + 0)))) + 1) (v := (d (x0 + 1) ((420 + (2 * (d (x0 + 1) ((1916 + (5 * (d (x0 + 1) 2916))) + 0)))) + 1)) + (d (x0 + 1) 6)) (b := x0 + 1) (j := (11 : Int)) (by omega)]
      rw [mset_ni (d := d) (a := x0 + 1) (i := (1 : Int)) (v := (d (x0 + 1) 1) - (d (x0 + 1) 6)) (b := x0 + 1) (j := (11 : Int)) (by omega)]
      refine ⟨by omega, by omega, ?_⟩
      have hS5 : Safe (mset (mset (mset (mset d (x0 + 1) 1 ((d (x0 + 1) 1) - (d (x0 + 1) 6))) (x0 + 1) ((420 + (2 * (d (x0 + 1) ((1916 + (5 * (d (x0 + 1) 2916))) + 0)))) + 1) ((d (x0 + 1) ((420 + (2 * (d (x0 + 1) ((1916 + (5 * (d (x0 + 1) 2916))) + 0)))) + 1)) + (d (x0 + 1) 6))) (x0 + 1) ((1916 + (5 * (d (x0 + 1) 2916))) + 3) 2) (x0 + 1) 11 ((d (x0 + 1) 11) - 1)) := smh_11 hS4 hx0 _ rfl (by omega)
      have q9 : (mset (mset (mset (mset d (x0 + 1) 1 ((d (x0 + 1) 1) - (d (x0 + 1) 6))) (x0 + 1) ((420 + (2 * (d (x0 + 1) ((1916 + (5 * (d (x0 + 1) 2916))) + 0)))) + 1) ((d (x0 + 1) ((420 + (2 * (d (x0 + 1) ((1916 + (5 * (d (x0 + 1) 2916))) + 0)))) + 1)) + (d (x0 + 1) 6))) (x0 + 1) ((1916 + (5 * (d (x0 + 1) 2916))) + 3) 2) (x0 + 1) 11 ((d (x0 + 1) 11) - 1)) (x0 + 1) 11 = (d (x0 + 1) 11) - 1 := mset_eq
      refine l_219_106 hx0 N2 r2 ih2 (200 - 0 : Int).toNat x1 (1916 + (5 * (d (x0 + 1) 2916))) 0  (mset (mset (mset (mset d (x0 + 1) 1 ((d (x0 + 1) 1) - (d (x0 + 1) 6))) (x0 + 1) ((420 + (2 * (d (x0 + 1) ((1916 + (5 * (d (x0 + 1) 2916))) + 0)))) + 1) ((d (x0 + 1) ((420 + (2 * (d (x0 + 1) ((1916 + (5 * (d (x0 + 1) 2916))) + 0)))) + 1)) + (d (x0 + 1) 6))) (x0 + 1) ((1916 + (5 * (d (x0 + 1) 2916))) + 3) 2) (x0 + 1) 11 ((d (x0 + 1) 11) - 1)) hS5 (by omega) (by omega) (by omega) (by omega) (by omega) (by omega) ?_
      intro e F Q hS_
      have y0 : st_219_2 x0 r2 x1 d = lp_219_106 x0 r2 (200 - 0 : Int).toNat x1 (1916 + (5 * (d (x0 + 1) 2916))) 0 (mset (mset (mset (mset d (x0 + 1) 1 ((d (x0 + 1) 1) - (d (x0 + 1) 6))) (x0 + 1) ((420 + (2 * (d (x0 + 1) ((1916 + (5 * (d (x0 + 1) 2916))) + 0)))) + 1) ((d (x0 + 1) ((420 + (2 * (d (x0 + 1) ((1916 + (5 * (d (x0 + 1) 2916))) + 0)))) + 1)) + (d (x0 + 1) 6))) (x0 + 1) ((1916 + (5 * (d (x0 + 1) 2916))) + 3) 2) (x0 + 1) 11 ((d (x0 + 1) 11) - 1)) := by simp only [st_219_2, if_pos (show (0 : Int) < d (x0 + 1) 11 from c0), if_neg (show ¬ d (x0 + 1) 1 < d (x0 + 1) 6 from Int.not_lt.mpr c1)]
      rw [y0] at h
      exact h e (fun b hb => (F b hb).trans ((show ∀ b : Int, (b < x0 + 1 ∨ x0 + 1 < b) → (mset (mset (mset (mset d (x0 + 1) 1 ((d (x0 + 1) 1) - (d (x0 + 1) 6))) (x0 + 1) ((420 + (2 * (d (x0 + 1) ((1916 + (5 * (d (x0 + 1) 2916))) + 0)))) + 1) ((d (x0 + 1) ((420 + (2 * (d (x0 + 1) ((1916 + (5 * (d (x0 + 1) 2916))) + 0)))) + 1)) + (d (x0 + 1) 6))) (x0 + 1) ((1916 + (5 * (d (x0 + 1) 2916))) + 3) 2) (x0 + 1) 11 ((d (x0 + 1) 11) - 1)) b = d b from fun b hb => (mset_ne (by omega)).trans ((mset_ne (by omega)).trans ((mset_ne (by omega)).trans (mset_ne (by omega))))) b hb)) (fun i hi => (Q i hi).trans ((show ∀ i : Int, (0 ≤ i ∧ i ≤ 8 ∧ ¬ i = 1) ∨ (12 ≤ i ∧ i < 420 ∧ (i - 12) % 68 ≤ 4) ∨ (420 ≤ i ∧ i < 452 ∧ i % 2 = 0) ∨ i = 9 ∨ (452 ≤ i ∧ i < 1916 ∧ 5 ≤ (i - 452) % 24) → (mset (mset (mset (mset d (x0 + 1) 1 ((d (x0 + 1) 1) - (d (x0 + 1) 6))) (x0 + 1) ((420 + (2 * (d (x0 + 1) ((1916 + (5 * (d (x0 + 1) 2916))) + 0)))) + 1) ((d (x0 + 1) ((420 + (2 * (d (x0 + 1) ((1916 + (5 * (d (x0 + 1) 2916))) + 0)))) + 1)) + (d (x0 + 1) 6))) (x0 + 1) ((1916 + (5 * (d (x0 + 1) 2916))) + 3) 2) (x0 + 1) 11 ((d (x0 + 1) 11) - 1)) (x0 + 1) i = d (x0 + 1) i from fun i hi => (((mset_ni (by omega)).trans (mset_ni (by omega))).trans (mset_ni (by omega))).trans (mset_ni (by omega))) i hi)) hS_
theorem l_219_2 {E : mO × tW} {K : tK} {x0 : Int} (hx0 : mdB x0) : ∀ (n : Nat) (x1 : Int) (v2 v3 : tV) (d : mD), Safe d → (0 ≤ x1 ∧ x1 + d (x0 + 1) 11 ≤ 200) → d (x0 + 1) 11 ≤ (n : Int) → ((0 ≤ (lp_219_2 x0 n x1 d).1 ∧ (lp_219_2 x0 n x1 d).1 ≤ 200) → (∀ b : Int, (b < x0 + 1 ∨ x0 + 1 < b) → (lp_219_2 x0 n x1 d).2 b = d b) → (∀ i : Int, (0 ≤ i ∧ i ≤ 8 ∧ ¬ i = 1) ∨ (12 ≤ i ∧ i < 420 ∧ (i - 12) % 68 ≤ 4) ∨ (420 ≤ i ∧ i < 452 ∧ i % 2 = 0) ∨ i = 9 ∨ (452 ≤ i ∧ i < 1916 ∧ 5 ≤ (i - 452) % 24) → (lp_219_2 x0 n x1 d).2 (x0 + 1) i = d (x0 + 1) i) → Safe (lp_219_2 x0 n x1 d).2 → K (.inl (some (0, (lp_219_2 x0 n x1 d).1))) (lp_219_2 x0 n x1 d).2) → tRun E 219 (2, [.inr (11, x0), .inl (0, x1), v2, v3], [], 0, 0, d) K := by
  intro n
  induction n with
  | zero =>
    intro x1 v2 v3 d hS i0 hm  h
    exact ls_219_2 hx0 0 _ (fun _ _ _ _ _ _ m0 m1 _ => absurd m1 (by omega)) x1 v2 v3 d hS i0 hm  h
  | succ n ih =>
    intro x1 v2 v3 d hS i0 hm  h
    exact ls_219_2 hx0 ((n + 1 : Nat) : Int) _ (fun x1 v2 v3 d hS i0  m0 m1 h => ih x1 v2 v3 d hS i0 (by omega)  h) x1 v2 v3 d hS i0 hm  h
def f_219 (x0 : Int) (d : mD) : Int × mD := lp_219_2 x0 (d (x0 + 1) 11 : Int).toNat 0 d
def v_219 (x0 : Int) (d : mD) : Int := (f_219 x0 d).1
def g_219 (x0 : Int) (d : mD) : mD := (f_219 x0 d).2
theorem k_219 {E : mO × tW} {K : tK} {d : mD} {x0 : Int} (hS : Safe d) (hx0 : mdB x0) (h : (0 ≤ (v_219 x0 d) ∧ (v_219 x0 d) ≤ 200) → (∀ b : Int, (b < x0 + 1 ∨ x0 + 1 < b) → (g_219 x0 d) b = d b) → (∀ i : Int, (0 ≤ i ∧ i ≤ 8 ∧ ¬ i = 1) ∨ (12 ≤ i ∧ i < 420 ∧ (i - 12) % 68 ≤ 4) ∨ (420 ≤ i ∧ i < 452 ∧ i % 2 = 0) ∨ i = 9 ∨ (452 ≤ i ∧ i < 1916 ∧ 5 ≤ (i - 452) % 24) → (g_219 x0 d) (x0 + 1) i = d (x0 + 1) i) → Safe (g_219 x0 d) → K (.inl (some (0, (v_219 x0 d)))) (g_219 x0 d)) : tCall E 219 [.inr (11, x0)] d K := by
  simp only [v_219, g_219] at h
  refine t_219_0 ?_
  have q10 := mh_11 hS hx0 _ rfl
  refine l_219_2 hx0 (d (x0 + 1) 11 : Int).toNat 0 tu tu d hS (by omega) (by omega) ?_
  intro e F Q hS_
  have y0 : f_219 x0 d = lp_219_2 x0 (d (x0 + 1) 11 : Int).toNat 0 d := by simp only [f_219]
  rw [y0] at h
  exact h e F Q hS_
def st_220_20 (x0 x1 x2 : Int) (r20 : Int → Int → mD → mD) (x3 x4 : Int) (d : mD) : mD := if x4 < d (x0 + 1) (x3 + 5) then r20 x3 (x4 + 1) (mset d (x0 + 1) ((x3 + 7) + x4) (d (x0 + 1) (((x3 + 7) + x4) + 1))) else d
def lp_220_20 (x0 x1 x2 : Int) : Nat → Int → Int → mD → mD
  | 0 => st_220_20 x0 x1 x2 (fun _ _ d => d)
  | n + 1 => st_220_20 x0 x1 x2 (lp_220_20 x0 x1 x2 n)
theorem ls_220_20 {E : mO × tW} {K : tK} {x0 x1 x2 : Int} (hx0 : mdB x0) (p1 : 0 ≤ x1 ∧ x1 ≤ 5) (p2 : 0 ≤ x2 ∧ x2 ≤ 60) (N20 : Int) (r20 : Int → Int → mD → mD) (ih20 : ∀ (x3 x4 : Int) (d : mD), Safe d → (0 ≤ x4 ∧ x4 ≤ 61) → (x3 = 12 + 68 * x1) → (0 ≤ d (x0 + 1) (12 + 68 * x1 + 5)) → (d (x0 + 1) (12 + 68 * x1 + 5) ≤ 60) → 0 ≤ 61 - x4 → 61 - x4 < N20 → ((∀ b : Int, (b < x0 + 1 ∨ x0 + 1 < b) → (r20 x3 x4 d) b = d b) → (∀ i : Int, (0 ≤ i ∧ i ≤ 8 ∧ ¬ i = 1) ∨ (12 ≤ i ∧ i < 420 ∧ (i - 12) % 68 ≤ 4) ∨ (420 ≤ i ∧ i < 452 ∧ i % 2 = 0) ∨ i = 9 ∨ (452 ≤ i ∧ i < 1916 ∧ 5 ≤ (i - 452) % 24) → (r20 x3 x4 d) (x0 + 1) i = d (x0 + 1) i) → ((r20 x3 x4 d) (x0 + 1) (12 + 68 * x1 + 5) = d (x0 + 1) (12 + 68 * x1 + 5)) → Safe (r20 x3 x4 d) → K (.inl none) (r20 x3 x4 d)) → tRun E 220 (20, [.inr (11, x0), .inl (0, x1), .inl (0, x2), .inl (0, x3), .inl (0, x4)], [], 0, 0, d) K) (x3 x4 : Int) (d : mD) (hS : Safe d) (i0 : 0 ≤ x4 ∧ x4 ≤ 61) (i1 : x3 = 12 + 68 * x1) (i2 : 0 ≤ d (x0 + 1) (12 + 68 * x1 + 5)) (i3 : d (x0 + 1) (12 + 68 * x1 + 5) ≤ 60) (hm : 61 - x4 ≤ N20) (h : (∀ b : Int, (b < x0 + 1 ∨ x0 + 1 < b) → (st_220_20 x0 x1 x2 r20 x3 x4 d) b = d b) → (∀ i : Int, (0 ≤ i ∧ i ≤ 8 ∧ ¬ i = 1) ∨ (12 ≤ i ∧ i < 420 ∧ (i - 12) % 68 ≤ 4) ∨ (420 ≤ i ∧ i < 452 ∧ i % 2 = 0) ∨ i = 9 ∨ (452 ≤ i ∧ i < 1916 ∧ 5 ≤ (i - 452) % 24) → (st_220_20 x0 x1 x2 r20 x3 x4 d) (x0 + 1) i = d (x0 + 1) i) → ((st_220_20 x0 x1 x2 r20 x3 x4 d) (x0 + 1) (12 + 68 * x1 + 5) = d (x0 + 1) (12 + 68 * x1 + 5)) → Safe (st_220_20 x0 x1 x2 r20 x3 x4 d) → K (.inl none) (st_220_20 x0 x1 x2 r20 x3 x4 d)) : tRun E 220 (20, [.inr (11, x0), .inl (0, x1), .inl (0, x2), .inl (0, x3), .inl (0, x4)], [], 0, 0, d) K := by
  refine t_220_20 ?_
  have w1 : d (x0 + 1) (x3 + 5) = d (x0 + 1) (12 + 68 * x1 + 5) := by rw [i1]
  have q1 := mo_5 hS hx0 x1 (x3 + 5) (by omega) (by omega)
  refine ⟨by omega, ⟨m_inR (by omega) (by omega), m_inR (by omega) (by omega)⟩, fun c0 => ?_, fun c0 => ?_⟩
  · have y0 : st_220_20 x0 x1 x2 r20 x3 x4 d = d := by simp only [st_220_20, if_neg (show ¬ x4 < d (x0 + 1) (x3 + 5) from Int.not_lt.mpr c0)]
    rw [y0] at h
    exact h (show ∀ b : Int, (b < x0 + 1 ∨ x0 + 1 < b) → d b = d b from fun _ _ => rfl) (show ∀ i : Int, (0 ≤ i ∧ i ≤ 8 ∧ ¬ i = 1) ∨ (12 ≤ i ∧ i < 420 ∧ (i - 12) % 68 ≤ 4) ∨ (420 ≤ i ∧ i < 452 ∧ i % 2 = 0) ∨ i = 9 ∨ (452 ≤ i ∧ i < 1916 ∧ 5 ≤ (i - 452) % 24) → d (x0 + 1) i = d (x0 + 1) i from fun _ _ => rfl) (show d (x0 + 1) (12 + 68 * x1 + 5) = d (x0 + 1) (12 + 68 * x1 + 5) by omega) hS
  · have q2 := mo_q hS hx0 x1 (x4 + 1) (((x3 + 7) + x4) + 1) (by omega) (by omega) (by omega)
    refine ⟨by omega, by omega, ?_⟩
    have hS1 : Safe (mset d (x0 + 1) ((x3 + 7) + x4) (d (x0 + 1) (((x3 + 7) + x4) + 1))) := smo_q hS hx0 x1 x4 ((x3 + 7) + x4) (by omega) (by omega) (by omega) (by omega)
    have q3 : (mset d (x0 + 1) ((x3 + 7) + x4) (d (x0 + 1) (((x3 + 7) + x4) + 1))) (x0 + 1) (12 + 68 * x1 + 5) = d (x0 + 1) (12 + 68 * x1 + 5) := mset_ni (by omega)
    refine ih20 x3 (x4 + 1)  (mset d (x0 + 1) ((x3 + 7) + x4) (d (x0 + 1) (((x3 + 7) + x4) + 1))) hS1 (by omega) (by omega) (by omega) (by omega) (by omega) (by omega) ?_
    intro F Q n0 hS_
    have y0 : st_220_20 x0 x1 x2 r20 x3 x4 d = r20 x3 (x4 + 1) (mset d (x0 + 1) ((x3 + 7) + x4) (d (x0 + 1) (((x3 + 7) + x4) + 1))) := by simp only [st_220_20, if_pos (show x4 < d (x0 + 1) (x3 + 5) from c0)]
    rw [y0] at h
    exact h (fun b hb => (F b hb).trans ((show ∀ b : Int, (b < x0 + 1 ∨ x0 + 1 < b) → (mset d (x0 + 1) ((x3 + 7) + x4) (d (x0 + 1) (((x3 + 7) + x4) + 1))) b = d b from fun b hb => mset_ne (by omega)) b hb)) (fun i hi => (Q i hi).trans ((show ∀ i : Int, (0 ≤ i ∧ i ≤ 8 ∧ ¬ i = 1) ∨ (12 ≤ i ∧ i < 420 ∧ (i - 12) % 68 ≤ 4) ∨ (420 ≤ i ∧ i < 452 ∧ i % 2 = 0) ∨ i = 9 ∨ (452 ≤ i ∧ i < 1916 ∧ 5 ≤ (i - 452) % 24) → (mset d (x0 + 1) ((x3 + 7) + x4) (d (x0 + 1) (((x3 + 7) + x4) + 1))) (x0 + 1) i = d (x0 + 1) i from fun i hi => mset_ni (by omega)) i hi)) (by omega) hS_
theorem l_220_20 {E : mO × tW} {K : tK} {x0 x1 x2 : Int} (hx0 : mdB x0) (p1 : 0 ≤ x1 ∧ x1 ≤ 5) (p2 : 0 ≤ x2 ∧ x2 ≤ 60) : ∀ (n : Nat) (x3 x4 : Int) (d : mD), Safe d → (0 ≤ x4 ∧ x4 ≤ 61) → (x3 = 12 + 68 * x1) → (0 ≤ d (x0 + 1) (12 + 68 * x1 + 5)) → (d (x0 + 1) (12 + 68 * x1 + 5) ≤ 60) → 61 - x4 ≤ (n : Int) → ((∀ b : Int, (b < x0 + 1 ∨ x0 + 1 < b) → (lp_220_20 x0 x1 x2 n x3 x4 d) b = d b) → (∀ i : Int, (0 ≤ i ∧ i ≤ 8 ∧ ¬ i = 1) ∨ (12 ≤ i ∧ i < 420 ∧ (i - 12) % 68 ≤ 4) ∨ (420 ≤ i ∧ i < 452 ∧ i % 2 = 0) ∨ i = 9 ∨ (452 ≤ i ∧ i < 1916 ∧ 5 ≤ (i - 452) % 24) → (lp_220_20 x0 x1 x2 n x3 x4 d) (x0 + 1) i = d (x0 + 1) i) → ((lp_220_20 x0 x1 x2 n x3 x4 d) (x0 + 1) (12 + 68 * x1 + 5) = d (x0 + 1) (12 + 68 * x1 + 5)) → Safe (lp_220_20 x0 x1 x2 n x3 x4 d) → K (.inl none) (lp_220_20 x0 x1 x2 n x3 x4 d)) → tRun E 220 (20, [.inr (11, x0), .inl (0, x1), .inl (0, x2), .inl (0, x3), .inl (0, x4)], [], 0, 0, d) K := by
  intro n
  induction n with
  | zero =>
    intro x3 x4  d hS i0 i1 i2 i3 hm  h
    exact ls_220_20 hx0 p1 p2 0 _ (fun _ _  _ _ _ _ _ _ m0 m1 _ => absurd m1 (by omega)) x3 x4  d hS i0 i1 i2 i3 hm  h
  | succ n ih =>
    intro x3 x4  d hS i0 i1 i2 i3 hm  h
    exact ls_220_20 hx0 p1 p2 ((n + 1 : Nat) : Int) _ (fun x3 x4  d hS i0 i1 i2 i3  m0 m1 h => ih x3 x4  d hS i0 i1 i2 i3 (by omega)  h) x3 x4  d hS i0 i1 i2 i3 hm  h
def g_220 (x0 x1 x2 : Int) (d : mD) : mD := lp_220_20 x0 x1 x2 (61 - x2 : Int).toNat (12 + (68 * x1)) x2 (mset d (x0 + 1) ((12 + (68 * x1)) + 5) ((d (x0 + 1) ((12 + (68 * x1)) + 5)) - 1))
theorem k_220 {E : mO × tW} {K : tK} {d : mD} {x0 x1 x2 : Int} (hS : Safe d) (hx0 : mdB x0) (p1 : 0 ≤ x1 ∧ x1 ≤ 5) (p2 : 0 ≤ x2 ∧ x2 ≤ 60) (hq : 1 ≤ d (x0 + 1) (12 + 68 * x1 + 5)) (h : (∀ b : Int, (b < x0 + 1 ∨ x0 + 1 < b) → (g_220 x0 x1 x2 d) b = d b) → (∀ i : Int, (0 ≤ i ∧ i ≤ 8 ∧ ¬ i = 1) ∨ (12 ≤ i ∧ i < 420 ∧ (i - 12) % 68 ≤ 4) ∨ (420 ≤ i ∧ i < 452 ∧ i % 2 = 0) ∨ i = 9 ∨ (452 ≤ i ∧ i < 1916 ∧ 5 ≤ (i - 452) % 24) → (g_220 x0 x1 x2 d) (x0 + 1) i = d (x0 + 1) i) → ((g_220 x0 x1 x2 d) (x0 + 1) (12 + 68 * x1 + 5) = d (x0 + 1) (12 + 68 * x1 + 5) - 1) → Safe (g_220 x0 x1 x2 d) → K (.inl none) (g_220 x0 x1 x2 d)) : tCall E 220 [.inr (11, x0), .inl (0, x1), .inl (0, x2)] d K := by
  refine t_220_0 ?_
  refine k_177 hS ?_
  refine t_220_4 ?_
  have q4 := mo_5 hS hx0 x1 ((12 + (68 * x1)) + 5) (by omega) (by omega)
  refine ⟨by omega, by omega, ?_⟩
  have hS2 : Safe (mset d (x0 + 1) ((12 + (68 * x1)) + 5) ((d (x0 + 1) ((12 + (68 * x1)) + 5)) - 1)) := smo_5 hS hx0 x1 ((12 + (68 * x1)) + 5) (by omega) (by omega) (by omega)
  have q5 : (mset d (x0 + 1) ((12 + (68 * x1)) + 5) ((d (x0 + 1) ((12 + (68 * x1)) + 5)) - 1)) (x0 + 1) (12 + 68 * x1 + 5) = (d (x0 + 1) ((12 + (68 * x1)) + 5)) - 1 := mset_eq
  refine l_220_20 hx0 p1 p2 (61 - x2 : Int).toNat (12 + (68 * x1)) x2  (mset d (x0 + 1) ((12 + (68 * x1)) + 5) ((d (x0 + 1) ((12 + (68 * x1)) + 5)) - 1)) hS2 (by omega) (by omega) (by omega) (by omega) (by omega) ?_
  intro F Q n0 hS_
  have y0 : g_220 x0 x1 x2 d = lp_220_20 x0 x1 x2 (61 - x2 : Int).toNat (12 + (68 * x1)) x2 (mset d (x0 + 1) ((12 + (68 * x1)) + 5) ((d (x0 + 1) ((12 + (68 * x1)) + 5)) - 1)) := by simp only [g_220]
  rw [y0] at h
  exact h (fun b hb => (F b hb).trans ((show ∀ b : Int, (b < x0 + 1 ∨ x0 + 1 < b) → (mset d (x0 + 1) ((12 + (68 * x1)) + 5) ((d (x0 + 1) ((12 + (68 * x1)) + 5)) - 1)) b = d b from fun b hb => mset_ne (by omega)) b hb)) (fun i hi => (Q i hi).trans ((show ∀ i : Int, (0 ≤ i ∧ i ≤ 8 ∧ ¬ i = 1) ∨ (12 ≤ i ∧ i < 420 ∧ (i - 12) % 68 ≤ 4) ∨ (420 ≤ i ∧ i < 452 ∧ i % 2 = 0) ∨ i = 9 ∨ (452 ≤ i ∧ i < 1916 ∧ 5 ≤ (i - 452) % 24) → (mset d (x0 + 1) ((12 + (68 * x1)) + 5) ((d (x0 + 1) ((12 + (68 * x1)) + 5)) - 1)) (x0 + 1) i = d (x0 + 1) i from fun i hi => mset_ni (by omega)) i hi)) (by omega) hS_
def st_221_17 (x0 x1 : Int) (r17 : Int → Int → mD → Int) (x2 x3 : Int) (d : mD) : Int := if x3 < d (x0 + 1) (x2 + 5) then (if d (x0 + 1) ((x2 + 7) + x3) = x1 then x3 else r17 x2 (x3 + 1) d) else (-1)
def lp_221_17 (x0 x1 : Int) : Nat → Int → Int → mD → Int
  | 0 => st_221_17 x0 x1 (fun _ _ d => 0)
  | n + 1 => st_221_17 x0 x1 (lp_221_17 x0 x1 n)
theorem ls_221_17 {E : mO × tW} {K : tK} {x0 x1 : Int} (hx0 : mdB x0) (p1 : 0 ≤ x1 ∧ x1 ≤ 60) (N17 : Int) (r17 : Int → Int → mD → Int) (ih17 : ∀ (x2 x3 : Int) (d : mD), Safe d → (0 ≤ x3 ∧ x3 ≤ 61) → (x2 = 12 + 68 * d (x0 + 1) (452 + 24 * x1 + 1)) → 0 ≤ 61 - x3 → 61 - x3 < N17 → ((-1 ≤ (r17 x2 x3 d) ∧ (r17 x2 x3 d) ≤ 60) → K (.inl (some (0, (r17 x2 x3 d)))) d) → tRun E 221 (17, [.inr (11, x0), .inl (0, x1), .inl (0, x2), .inl (0, x3)], [], 0, 0, d) K) (x2 x3 : Int) (d : mD) (hS : Safe d) (i0 : 0 ≤ x3 ∧ x3 ≤ 61) (i1 : x2 = 12 + 68 * d (x0 + 1) (452 + 24 * x1 + 1)) (hm : 61 - x3 ≤ N17) (h : (-1 ≤ (st_221_17 x0 x1 r17 x2 x3 d) ∧ (st_221_17 x0 x1 r17 x2 x3 d) ≤ 60) → K (.inl (some (0, (st_221_17 x0 x1 r17 x2 x3 d)))) d) : tRun E 221 (17, [.inr (11, x0), .inl (0, x1), .inl (0, x2), .inl (0, x3)], [], 0, 0, d) K := by
  refine t_221_17 ?_
  have w1 := mt_1 hS hx0 x1 (452 + 24 * x1 + 1) (by omega) (by omega)
  have q1 := mo_5 hS hx0 (d (x0 + 1) (452 + 24 * x1 + 1)) (x2 + 5) (by omega) (by omega)
  refine ⟨by omega, ⟨m_inR (by omega) (by omega), m_inR (by omega) (by omega)⟩, fun c0 => ?_, fun c0 => ?_⟩
  · have y0 : st_221_17 x0 x1 r17 x2 x3 d = (-1) := by simp only [st_221_17, if_neg (show ¬ x3 < d (x0 + 1) (x2 + 5) from Int.not_lt.mpr c0)]
    rw [y0] at h
    exact h (show -1 ≤ ((-1 : Int)) ∧ ((-1 : Int)) ≤ 60 from (by omega))
  · have q2 := mo_q hS hx0 (d (x0 + 1) (452 + 24 * x1 + 1)) x3 ((x2 + 7) + x3) (by omega) (by omega) (by omega)
    refine ⟨by omega, ⟨m_inR (by omega) (by omega), m_inR (by omega) (by omega)⟩, fun c1 => ?_, fun c1 => ?_⟩
    · refine ih17 x2 (x3 + 1)  d hS (by omega) (by omega) (by omega) (by omega) ?_
      intro e
      have y0 : st_221_17 x0 x1 r17 x2 x3 d = r17 x2 (x3 + 1) d := by simp only [st_221_17, if_pos (show x3 < d (x0 + 1) (x2 + 5) from c0), if_neg (show ¬ d (x0 + 1) ((x2 + 7) + x3) = x1 from c1)]
      rw [y0] at h
      exact h e
    · have y0 : st_221_17 x0 x1 r17 x2 x3 d = x3 := by simp only [st_221_17, if_pos (show x3 < d (x0 + 1) (x2 + 5) from c0), if_pos (show d (x0 + 1) ((x2 + 7) + x3) = x1 from c1)]
      rw [y0] at h
      exact h (show -1 ≤ x3 ∧ x3 ≤ 60 from (by omega))
theorem l_221_17 {E : mO × tW} {K : tK} {x0 x1 : Int} (hx0 : mdB x0) (p1 : 0 ≤ x1 ∧ x1 ≤ 60) : ∀ (n : Nat) (x2 x3 : Int) (d : mD), Safe d → (0 ≤ x3 ∧ x3 ≤ 61) → (x2 = 12 + 68 * d (x0 + 1) (452 + 24 * x1 + 1)) → 61 - x3 ≤ (n : Int) → ((-1 ≤ (lp_221_17 x0 x1 n x2 x3 d) ∧ (lp_221_17 x0 x1 n x2 x3 d) ≤ 60) → K (.inl (some (0, (lp_221_17 x0 x1 n x2 x3 d)))) d) → tRun E 221 (17, [.inr (11, x0), .inl (0, x1), .inl (0, x2), .inl (0, x3)], [], 0, 0, d) K := by
  intro n
  induction n with
  | zero =>
    intro x2 x3  d hS i0 i1 hm  h
    exact ls_221_17 hx0 p1 0 _ (fun _ _  _ _ _ _ m0 m1 _ => absurd m1 (by omega)) x2 x3  d hS i0 i1 hm  h
  | succ n ih =>
    intro x2 x3  d hS i0 i1 hm  h
    exact ls_221_17 hx0 p1 ((n + 1 : Nat) : Int) _ (fun x2 x3  d hS i0 i1  m0 m1 h => ih x2 x3  d hS i0 i1 (by omega)  h) x2 x3  d hS i0 i1 hm  h
def v_221 (x0 x1 : Int) (d : mD) : Int := lp_221_17 x0 x1 (61 - 0 : Int).toNat (12 + (68 * (d (x0 + 1) ((452 + (24 * x1)) + 1)))) 0 d
theorem k_221 {E : mO × tW} {K : tK} {d : mD} {x0 x1 : Int} (hS : Safe d) (hx0 : mdB x0) (p1 : 0 ≤ x1 ∧ x1 ≤ 60) (h : (-1 ≤ (v_221 x0 x1 d) ∧ (v_221 x0 x1 d) ≤ 60) → K (.inl (some (0, (v_221 x0 x1 d)))) d) : tCall E 221 [.inr (11, x0), .inl (0, x1)] d K := by
  refine t_221_0 ?_
  refine k_179 hS ?_
  refine t_221_8 ?_
  refine ⟨by omega, ?_⟩
  refine k_177 hS ?_
  refine t_221_14 ?_
  have q3 := mt_1 hS hx0 x1 ((452 + (24 * x1)) + 1) (by omega) (by omega)
  refine l_221_17 hx0 p1 (61 - 0 : Int).toNat (12 + (68 * (d (x0 + 1) ((452 + (24 * x1)) + 1)))) 0  d hS (by omega) (by omega) (by omega) ?_
  intro e
  have y0 : v_221 x0 x1 d = lp_221_17 x0 x1 (61 - 0 : Int).toNat (12 + (68 * (d (x0 + 1) ((452 + (24 * x1)) + 1)))) 0 d := by simp only [v_221]
  rw [y0] at h
  exact h e
def st_222_7 (x0 x1 : Int) (r7 : Int → Int → mD → mD) (x2 x3 : Int) (d : mD) : mD := if x3 < d (x0 + 1) (x2 + 1) then (if (0 : Int) < d (x0 + 1) (x2 + 5) then r7 x2 (x3 + 1) (g_220 x0 x1 0 (mset (mset (mset d (x0 + 1) ((452 + (24 * (d (x0 + 1) (x2 + 7)))) + 4) 1) (x0 + 1) ((452 + (24 * (d (x0 + 1) (x2 + 7)))) + 3) (d (x0 + 1) 0)) (x0 + 1) (x2 + 6) ((d (x0 + 1) (x2 + 6)) + 1))) else d) else d
def lp_222_7 (x0 x1 : Int) : Nat → Int → Int → mD → mD
  | 0 => st_222_7 x0 x1 (fun _ _ d => d)
  | n + 1 => st_222_7 x0 x1 (lp_222_7 x0 x1 n)
theorem ls_222_7 {E : mO × tW} {K : tK} {x0 x1 : Int} (hx0 : mdB x0) (p1 : 0 ≤ x1 ∧ x1 ≤ 5) (N7 : Int) (r7 : Int → Int → mD → mD) (ih7 : ∀ (x2 x3 : Int) (v4 : tV) (d : mD), Safe d → (0 ≤ x3 ∧ x3 ≤ 4) → (x2 = 12 + 68 * x1) → 0 ≤ 4 - x3 → 4 - x3 < N7 → ((∀ b : Int, (b < x0 + 1 ∨ x0 + 1 < b) → (r7 x2 x3 d) b = d b) → (∀ i : Int, (0 ≤ i ∧ i ≤ 8 ∧ ¬ i = 1) ∨ (12 ≤ i ∧ i < 420 ∧ (i - 12) % 68 ≤ 4) ∨ (420 ≤ i ∧ i < 452 ∧ i % 2 = 0) ∨ i = 9 ∨ (452 ≤ i ∧ i < 1916 ∧ 5 ≤ (i - 452) % 24) → (r7 x2 x3 d) (x0 + 1) i = d (x0 + 1) i) → Safe (r7 x2 x3 d) → K (.inl none) (r7 x2 x3 d)) → tRun E 222 (7, [.inr (11, x0), .inl (0, x1), .inl (0, x2), .inl (0, x3), v4], [], 0, 0, d) K) (x2 x3 : Int) (v4 : tV) (d : mD) (hS : Safe d) (i0 : 0 ≤ x3 ∧ x3 ≤ 4) (i1 : x2 = 12 + 68 * x1) (hm : 4 - x3 ≤ N7) (h : (∀ b : Int, (b < x0 + 1 ∨ x0 + 1 < b) → (st_222_7 x0 x1 r7 x2 x3 d) b = d b) → (∀ i : Int, (0 ≤ i ∧ i ≤ 8 ∧ ¬ i = 1) ∨ (12 ≤ i ∧ i < 420 ∧ (i - 12) % 68 ≤ 4) ∨ (420 ≤ i ∧ i < 452 ∧ i % 2 = 0) ∨ i = 9 ∨ (452 ≤ i ∧ i < 1916 ∧ 5 ≤ (i - 452) % 24) → (st_222_7 x0 x1 r7 x2 x3 d) (x0 + 1) i = d (x0 + 1) i) → Safe (st_222_7 x0 x1 r7 x2 x3 d) → K (.inl none) (st_222_7 x0 x1 r7 x2 x3 d)) : tRun E 222 (7, [.inr (11, x0), .inl (0, x1), .inl (0, x2), .inl (0, x3), v4], [], 0, 0, d) K := by
  refine t_222_7 ?_
  have w1 : d (x0 + 1) (x2 + 5) = d (x0 + 1) (12 + 68 * x1 + 5) := by rw [i1]
  have q1 := mo_1 hS hx0 x1 (x2 + 1) (by omega) (by omega)
  refine ⟨by omega, ⟨m_inR (by omega) (by omega), m_inR (by omega) (by omega)⟩, fun c0 => ?_, fun c0 => ?_⟩
  · have y0 : st_222_7 x0 x1 r7 x2 x3 d = d := by simp only [st_222_7, if_neg (show ¬ x3 < d (x0 + 1) (x2 + 1) from Int.not_lt.mpr c0)]
    rw [y0] at h
    exact h (show ∀ b : Int, (b < x0 + 1 ∨ x0 + 1 < b) → d b = d b from fun _ _ => rfl) (show ∀ i : Int, (0 ≤ i ∧ i ≤ 8 ∧ ¬ i = 1) ∨ (12 ≤ i ∧ i < 420 ∧ (i - 12) % 68 ≤ 4) ∨ (420 ≤ i ∧ i < 452 ∧ i % 2 = 0) ∨ i = 9 ∨ (452 ≤ i ∧ i < 1916 ∧ 5 ≤ (i - 452) % 24) → d (x0 + 1) i = d (x0 + 1) i from fun _ _ => rfl) hS
  · have q2 := mo_5 hS hx0 x1 (x2 + 5) (by omega) (by omega)
    refine ⟨by omega, m_inR (by omega) (by omega), fun c1 => ?_, fun c1 => ?_⟩
    · have y0 : st_222_7 x0 x1 r7 x2 x3 d = d := by simp only [st_222_7, if_pos (show x3 < d (x0 + 1) (x2 + 1) from c0), if_neg (show ¬ (0 : Int) < d (x0 + 1) (x2 + 5) from Int.not_lt.mpr c1)]
      rw [y0] at h
      exact h (show ∀ b : Int, (b < x0 + 1 ∨ x0 + 1 < b) → d b = d b from fun _ _ => rfl) (show ∀ i : Int, (0 ≤ i ∧ i ≤ 8 ∧ ¬ i = 1) ∨ (12 ≤ i ∧ i < 420 ∧ (i - 12) % 68 ≤ 4) ∨ (420 ≤ i ∧ i < 452 ∧ i % 2 = 0) ∨ i = 9 ∨ (452 ≤ i ∧ i < 1916 ∧ 5 ≤ (i - 452) % 24) → d (x0 + 1) i = d (x0 + 1) i from fun _ _ => rfl) hS
    · refine ⟨by omega, ?_⟩
      refine k_179 hS ?_
      refine t_222_42 ?_
      have q3 := mo_q hS hx0 x1 0 (x2 + 7) (by omega) (by omega) (by omega)
      refine ⟨by omega, ?_⟩
      have hS1 : Safe (mset d (x0 + 1) ((452 + (24 * (d (x0 + 1) (x2 + 7)))) + 4) 1) := smt_4 hS hx0 (d (x0 + 1) (x2 + 7)) ((452 + (24 * (d (x0 + 1) (x2 + 7)))) + 4) (by omega) (by omega) (by omega)
      rw [mset_ni (d := d) (a := x0 + 1) (i := (452 + (24 * (d (x0 + 1) (x2 + 7)))) + 4) (v := (1 : Int)) (b := x0 + 1) (j := (0 : Int)) (by omega)]
      have q4 := mh_0 hS hx0 _ rfl
      refine ⟨by omega, by omega, ?_⟩
      have hS2 : Safe (mset (mset d (x0 + 1) ((452 + (24 * (d (x0 + 1) (x2 + 7)))) + 4) 1) (x0 + 1) ((452 + (24 * (d (x0 + 1) (x2 + 7)))) + 3) (d (x0 + 1) 0)) := smt_3 hS1 hx0 (d (x0 + 1) (x2 + 7)) ((452 + (24 * (d (x0 + 1) (x2 + 7)))) + 3) (by omega) (by omega) (by omega)
      rw [mset_ni (d := mset d (x0 + 1) ((452 + (24 * (d (x0 + 1) (x2 + 7)))) + 4) 1) (a := x0 + 1) (i := (452 + (24 * (d (x0 + 1) (x2 + 7)))) + 3) (v := d (x0 + 1) 0) (b := x0 + 1) (j := x2 + 6) (by omega)]
      rw [mset_ni (d := d) (a := x0 + 1) (i := (452 + (24 * (d (x0 + 1) (x2 + 7)))) + 4) (v := (1 : Int)) (b := x0 + 1) (j := x2 + 6) (by omega)]
      refine ⟨by omega, by omega, ?_⟩
      have hS3 : Safe (mset (mset (mset d (x0 + 1) ((452 + (24 * (d (x0 + 1) (x2 + 7)))) + 4) 1) (x0 + 1) ((452 + (24 * (d (x0 + 1) (x2 + 7)))) + 3) (d (x0 + 1) 0)) (x0 + 1) (x2 + 6) ((d (x0 + 1) (x2 + 6)) + 1)) := smo_6 hS2 hx0 x1 (x2 + 6) (by omega) (by omega)
      have q5 : (mset (mset (mset d (x0 + 1) ((452 + (24 * (d (x0 + 1) (x2 + 7)))) + 4) 1) (x0 + 1) ((452 + (24 * (d (x0 + 1) (x2 + 7)))) + 3) (d (x0 + 1) 0)) (x0 + 1) (x2 + 6) ((d (x0 + 1) (x2 + 6)) + 1)) (x0 + 1) (12 + 68 * x1 + 5) = d (x0 + 1) (12 + 68 * x1 + 5) := ((mset_ni (by omega)).trans (mset_ni (by omega))).trans (mset_ni (by omega))
      refine k_220 hS3 hx0 (by omega) (by omega) (by omega) (fun F1 Q1 n1_0 hS4 => ?_)
      refine t_222_88 ?_
      refine ih7 x2 (x3 + 1) (.inl (0, 452 + (24 * (d (x0 + 1) (x2 + 7))))) (g_220 x0 x1 0 (mset (mset (mset d (x0 + 1) ((452 + (24 * (d (x0 + 1) (x2 + 7)))) + 4) 1) (x0 + 1) ((452 + (24 * (d (x0 + 1) (x2 + 7)))) + 3) (d (x0 + 1) 0)) (x0 + 1) (x2 + 6) ((d (x0 + 1) (x2 + 6)) + 1))) hS4 (by omega) (by omega) (by omega) (by omega) ?_
      intro F Q hS_
      have y0 : st_222_7 x0 x1 r7 x2 x3 d = r7 x2 (x3 + 1) (g_220 x0 x1 0 (mset (mset (mset d (x0 + 1) ((452 + (24 * (d (x0 + 1) (x2 + 7)))) + 4) 1) (x0 + 1) ((452 + (24 * (d (x0 + 1) (x2 + 7)))) + 3) (d (x0 + 1) 0)) (x0 + 1) (x2 + 6) ((d (x0 + 1) (x2 + 6)) + 1))) := by simp only [st_222_7, if_pos (show x3 < d (x0 + 1) (x2 + 1) from c0), if_pos (show (0 : Int) < d (x0 + 1) (x2 + 5) from c1)]
      rw [y0] at h
      exact h (fun b hb => (F b hb).trans ((show ∀ b : Int, (b < x0 + 1 ∨ x0 + 1 < b) → (g_220 x0 x1 0 (mset (mset (mset d (x0 + 1) ((452 + (24 * (d (x0 + 1) (x2 + 7)))) + 4) 1) (x0 + 1) ((452 + (24 * (d (x0 + 1) (x2 + 7)))) + 3) (d (x0 + 1) 0)) (x0 + 1) (x2 + 6) ((d (x0 + 1) (x2 + 6)) + 1))) b = d b from fun b hb => (F1 b (by omega)).trans ((mset_ne (by omega)).trans ((mset_ne (by omega)).trans (mset_ne (by omega))))) b hb)) (fun i hi => (Q i hi).trans ((show ∀ i : Int, (0 ≤ i ∧ i ≤ 8 ∧ ¬ i = 1) ∨ (12 ≤ i ∧ i < 420 ∧ (i - 12) % 68 ≤ 4) ∨ (420 ≤ i ∧ i < 452 ∧ i % 2 = 0) ∨ i = 9 ∨ (452 ≤ i ∧ i < 1916 ∧ 5 ≤ (i - 452) % 24) → (g_220 x0 x1 0 (mset (mset (mset d (x0 + 1) ((452 + (24 * (d (x0 + 1) (x2 + 7)))) + 4) 1) (x0 + 1) ((452 + (24 * (d (x0 + 1) (x2 + 7)))) + 3) (d (x0 + 1) 0)) (x0 + 1) (x2 + 6) ((d (x0 + 1) (x2 + 6)) + 1))) (x0 + 1) i = d (x0 + 1) i from fun i hi => (((Q1 i (by omega)).trans (mset_ni (by omega))).trans (mset_ni (by omega))).trans (mset_ni (by omega))) i hi)) hS_
theorem l_222_7 {E : mO × tW} {K : tK} {x0 x1 : Int} (hx0 : mdB x0) (p1 : 0 ≤ x1 ∧ x1 ≤ 5) : ∀ (n : Nat) (x2 x3 : Int) (v4 : tV) (d : mD), Safe d → (0 ≤ x3 ∧ x3 ≤ 4) → (x2 = 12 + 68 * x1) → 4 - x3 ≤ (n : Int) → ((∀ b : Int, (b < x0 + 1 ∨ x0 + 1 < b) → (lp_222_7 x0 x1 n x2 x3 d) b = d b) → (∀ i : Int, (0 ≤ i ∧ i ≤ 8 ∧ ¬ i = 1) ∨ (12 ≤ i ∧ i < 420 ∧ (i - 12) % 68 ≤ 4) ∨ (420 ≤ i ∧ i < 452 ∧ i % 2 = 0) ∨ i = 9 ∨ (452 ≤ i ∧ i < 1916 ∧ 5 ≤ (i - 452) % 24) → (lp_222_7 x0 x1 n x2 x3 d) (x0 + 1) i = d (x0 + 1) i) → Safe (lp_222_7 x0 x1 n x2 x3 d) → K (.inl none) (lp_222_7 x0 x1 n x2 x3 d)) → tRun E 222 (7, [.inr (11, x0), .inl (0, x1), .inl (0, x2), .inl (0, x3), v4], [], 0, 0, d) K := by
  intro n
  induction n with
  | zero =>
    intro x2 x3 v4 d hS i0 i1 hm  h
    exact ls_222_7 hx0 p1 0 _ (fun _ _ _ _ _ _ _ m0 m1 _ => absurd m1 (by omega)) x2 x3 v4 d hS i0 i1 hm  h
  | succ n ih =>
    intro x2 x3 v4 d hS i0 i1 hm  h
    exact ls_222_7 hx0 p1 ((n + 1 : Nat) : Int) _ (fun x2 x3 v4 d hS i0 i1  m0 m1 h => ih x2 x3 v4 d hS i0 i1 (by omega)  h) x2 x3 v4 d hS i0 i1 hm  h
def g_222 (x0 x1 : Int) (d : mD) : mD := lp_222_7 x0 x1 (4 - 0 : Int).toNat (12 + (68 * x1)) 0 d
theorem k_222 {E : mO × tW} {K : tK} {d : mD} {x0 x1 : Int} (hS : Safe d) (hx0 : mdB x0) (p1 : 0 ≤ x1 ∧ x1 ≤ 5) (h : (∀ b : Int, (b < x0 + 1 ∨ x0 + 1 < b) → (g_222 x0 x1 d) b = d b) → (∀ i : Int, (0 ≤ i ∧ i ≤ 8 ∧ ¬ i = 1) ∨ (12 ≤ i ∧ i < 420 ∧ (i - 12) % 68 ≤ 4) ∨ (420 ≤ i ∧ i < 452 ∧ i % 2 = 0) ∨ i = 9 ∨ (452 ≤ i ∧ i < 1916 ∧ 5 ≤ (i - 452) % 24) → (g_222 x0 x1 d) (x0 + 1) i = d (x0 + 1) i) → Safe (g_222 x0 x1 d) → K (.inl none) (g_222 x0 x1 d)) : tCall E 222 [.inr (11, x0), .inl (0, x1)] d K := by
  refine t_222_0 ?_
  refine k_177 hS ?_
  refine t_222_4 ?_
  refine l_222_7 hx0 p1 (4 - 0 : Int).toNat (12 + (68 * x1)) 0 tu d hS (by omega) (by omega) (by omega) ?_
  intro F Q hS_
  have y0 : g_222 x0 x1 d = lp_222_7 x0 x1 (4 - 0 : Int).toNat (12 + (68 * x1)) 0 d := by simp only [g_222]
  rw [y0] at h
  exact h F Q hS_
def v_230 (x0 x1 x2 : Int) (d : mD) : Int := if d (x0 + 1) ((452 + (24 * x2)) + 2) < d (x0 + 1) ((452 + (24 * x1)) + 2) then (if v_212 x0 x1 d < v_212 x0 x2 d then (if d (x0 + 1) ((452 + (24 * x1)) + 2) < v_212 x0 x1 d then (v_212 x0 x1 d) - (d (x0 + 1) ((452 + (24 * x1)) + 2)) else 0) else if d (x0 + 1) ((452 + (24 * x1)) + 2) < v_212 x0 x2 d then (v_212 x0 x2 d) - (d (x0 + 1) ((452 + (24 * x1)) + 2)) else 0) else if v_212 x0 x1 d < v_212 x0 x2 d then (if d (x0 + 1) ((452 + (24 * x2)) + 2) < v_212 x0 x1 d then (v_212 x0 x1 d) - (d (x0 + 1) ((452 + (24 * x2)) + 2)) else 0) else if d (x0 + 1) ((452 + (24 * x2)) + 2) < v_212 x0 x2 d then (v_212 x0 x2 d) - (d (x0 + 1) ((452 + (24 * x2)) + 2)) else 0
theorem k_230 {E : mO × tW} {K : tK} {d : mD} {x0 x1 x2 : Int} (hS : Safe d) (hx0 : mdB x0) (p1 : 0 ≤ x1 ∧ x1 ≤ 60) (p2 : 0 ≤ x2 ∧ x2 ≤ 60) (h : (0 ≤ (v_230 x0 x1 x2 d) ∧ (v_230 x0 x1 x2 d) ≤ 1200) → K (.inl (some (0, (v_230 x0 x1 x2 d)))) d) : tCall E 230 [.inr (11, x0), .inl (0, x1), .inl (0, x2)] d K := by
  refine t_230_0 ?_
  refine k_179 hS ?_
  refine t_230_8 ?_
  refine ⟨by omega, ?_⟩
  refine k_179 hS ?_
  refine t_230_19 ?_
  have q1 := mt_2 hS hx0 x1 ((452 + (24 * x1)) + 2) (by omega) (by omega)
  have q2 := mt_2 hS hx0 x2 ((452 + (24 * x2)) + 2) (by omega) (by omega)
  refine ⟨by omega, ⟨m_inR (by omega) (by omega), m_inR (by omega) (by omega)⟩, fun c0 => ?_, fun c0 => ?_⟩
  · refine k_179 hS ?_
    refine t_230_47 ?_
    refine ⟨by omega, ?_⟩
    refine k_212 hS hx0 (by omega) (fun e1 => ?_)
    refine t_230_56 ?_
    refine k_212 hS hx0 (by omega) (fun e2 => ?_)
    refine t_230_61 ?_
    refine ⟨⟨m_inR (by omega) (by omega), m_inR (by omega) (by omega)⟩, fun c1 => ?_, fun c1 => ?_⟩
    · refine k_212 hS hx0 (by omega) (fun e3 => ?_)
      refine t_230_77 ?_
      refine ⟨⟨m_inR (by omega) (by omega), m_inR (by omega) (by omega)⟩, fun c2 => ?_, fun c2 => ?_⟩
      · have y0 : v_230 x0 x1 x2 d = 0 := by simp only [v_230, if_neg (show ¬ d (x0 + 1) ((452 + (24 * x2)) + 2) < d (x0 + 1) ((452 + (24 * x1)) + 2) from Int.not_lt.mpr c0), if_neg (show ¬ v_212 x0 x1 d < v_212 x0 x2 d from Int.not_lt.mpr c1), if_neg (show ¬ d (x0 + 1) ((452 + (24 * x2)) + 2) < v_212 x0 x2 d from Int.not_lt.mpr c2)]
        rw [y0] at h
        exact h (show 0 ≤ ((0 : Int)) ∧ ((0 : Int)) ≤ 1200 from (by omega))
      · have y0 : v_230 x0 x1 x2 d = (v_212 x0 x2 d) - (d (x0 + 1) ((452 + (24 * x2)) + 2)) := by simp only [v_230, if_neg (show ¬ d (x0 + 1) ((452 + (24 * x2)) + 2) < d (x0 + 1) ((452 + (24 * x1)) + 2) from Int.not_lt.mpr c0), if_neg (show ¬ v_212 x0 x1 d < v_212 x0 x2 d from Int.not_lt.mpr c1), if_pos (show d (x0 + 1) ((452 + (24 * x2)) + 2) < v_212 x0 x2 d from c2)]
        rw [y0] at h
        exact h (show 0 ≤ ((v_212 x0 x2 d) - (d (x0 + 1) ((452 + (24 * x2)) + 2))) ∧ ((v_212 x0 x2 d) - (d (x0 + 1) ((452 + (24 * x2)) + 2))) ≤ 1200 from (by omega))
    · refine k_212 hS hx0 (by omega) (fun e4 => ?_)
      refine t_230_69 ?_
      refine t_230_77 ?_
      refine ⟨⟨m_inR (by omega) (by omega), m_inR (by omega) (by omega)⟩, fun c2 => ?_, fun c2 => ?_⟩
      · have y0 : v_230 x0 x1 x2 d = 0 := by simp only [v_230, if_neg (show ¬ d (x0 + 1) ((452 + (24 * x2)) + 2) < d (x0 + 1) ((452 + (24 * x1)) + 2) from Int.not_lt.mpr c0), if_pos (show v_212 x0 x1 d < v_212 x0 x2 d from c1), if_neg (show ¬ d (x0 + 1) ((452 + (24 * x2)) + 2) < v_212 x0 x1 d from Int.not_lt.mpr c2)]
        rw [y0] at h
        exact h (show 0 ≤ ((0 : Int)) ∧ ((0 : Int)) ≤ 1200 from (by omega))
      · have y0 : v_230 x0 x1 x2 d = (v_212 x0 x1 d) - (d (x0 + 1) ((452 + (24 * x2)) + 2)) := by simp only [v_230, if_neg (show ¬ d (x0 + 1) ((452 + (24 * x2)) + 2) < d (x0 + 1) ((452 + (24 * x1)) + 2) from Int.not_lt.mpr c0), if_pos (show v_212 x0 x1 d < v_212 x0 x2 d from c1), if_pos (show d (x0 + 1) ((452 + (24 * x2)) + 2) < v_212 x0 x1 d from c2)]
        rw [y0] at h
        exact h (show 0 ≤ ((v_212 x0 x1 d) - (d (x0 + 1) ((452 + (24 * x2)) + 2))) ∧ ((v_212 x0 x1 d) - (d (x0 + 1) ((452 + (24 * x2)) + 2))) ≤ 1200 from (by omega))
  · refine k_179 hS ?_
    refine t_230_33 ?_
    refine ⟨by omega, ?_⟩
    refine k_212 hS hx0 (by omega) (fun e5 => ?_)
    refine t_230_56 ?_
    refine k_212 hS hx0 (by omega) (fun e6 => ?_)
    refine t_230_61 ?_
    refine ⟨⟨m_inR (by omega) (by omega), m_inR (by omega) (by omega)⟩, fun c1 => ?_, fun c1 => ?_⟩
    · refine k_212 hS hx0 (by omega) (fun e7 => ?_)
      refine t_230_77 ?_
      refine ⟨⟨m_inR (by omega) (by omega), m_inR (by omega) (by omega)⟩, fun c2 => ?_, fun c2 => ?_⟩
      · have y0 : v_230 x0 x1 x2 d = 0 := by simp only [v_230, if_pos (show d (x0 + 1) ((452 + (24 * x2)) + 2) < d (x0 + 1) ((452 + (24 * x1)) + 2) from c0), if_neg (show ¬ v_212 x0 x1 d < v_212 x0 x2 d from Int.not_lt.mpr c1), if_neg (show ¬ d (x0 + 1) ((452 + (24 * x1)) + 2) < v_212 x0 x2 d from Int.not_lt.mpr c2)]
        rw [y0] at h
        exact h (show 0 ≤ ((0 : Int)) ∧ ((0 : Int)) ≤ 1200 from (by omega))
      · have y0 : v_230 x0 x1 x2 d = (v_212 x0 x2 d) - (d (x0 + 1) ((452 + (24 * x1)) + 2)) := by simp only [v_230, if_pos (show d (x0 + 1) ((452 + (24 * x2)) + 2) < d (x0 + 1) ((452 + (24 * x1)) + 2) from c0), if_neg (show ¬ v_212 x0 x1 d < v_212 x0 x2 d from Int.not_lt.mpr c1), if_pos (show d (x0 + 1) ((452 + (24 * x1)) + 2) < v_212 x0 x2 d from c2)]
        rw [y0] at h
        exact h (show 0 ≤ ((v_212 x0 x2 d) - (d (x0 + 1) ((452 + (24 * x1)) + 2))) ∧ ((v_212 x0 x2 d) - (d (x0 + 1) ((452 + (24 * x1)) + 2))) ≤ 1200 from (by omega))
    · refine k_212 hS hx0 (by omega) (fun e8 => ?_)
      refine t_230_69 ?_
      refine t_230_77 ?_
      refine ⟨⟨m_inR (by omega) (by omega), m_inR (by omega) (by omega)⟩, fun c2 => ?_, fun c2 => ?_⟩
      · have y0 : v_230 x0 x1 x2 d = 0 := by simp only [v_230, if_pos (show d (x0 + 1) ((452 + (24 * x2)) + 2) < d (x0 + 1) ((452 + (24 * x1)) + 2) from c0), if_pos (show v_212 x0 x1 d < v_212 x0 x2 d from c1), if_neg (show ¬ d (x0 + 1) ((452 + (24 * x1)) + 2) < v_212 x0 x1 d from Int.not_lt.mpr c2)]
        rw [y0] at h
        exact h (show 0 ≤ ((0 : Int)) ∧ ((0 : Int)) ≤ 1200 from (by omega))
      · have y0 : v_230 x0 x1 x2 d = (v_212 x0 x1 d) - (d (x0 + 1) ((452 + (24 * x1)) + 2)) := by simp only [v_230, if_pos (show d (x0 + 1) ((452 + (24 * x2)) + 2) < d (x0 + 1) ((452 + (24 * x1)) + 2) from c0), if_pos (show v_212 x0 x1 d < v_212 x0 x2 d from c1), if_pos (show d (x0 + 1) ((452 + (24 * x1)) + 2) < v_212 x0 x1 d from c2)]
        rw [y0] at h
        exact h (show 0 ≤ ((v_212 x0 x1 d) - (d (x0 + 1) ((452 + (24 * x1)) + 2))) ∧ ((v_212 x0 x1 d) - (d (x0 + 1) ((452 + (24 * x1)) + 2))) ≤ 1200 from (by omega))
def st_231_5 (x0 x1 x2 : Int) (r5 : Int → Int → mD → Int) (x3 x4 : Int) (d : mD) : Int := if x4 < d (x0 + 1) 9 then (if x4 = x1 then r5 x3 (x4 + 1) d else if d (x0 + 1) ((452 + (24 * x4)) + 0) = x2 then (if d (x0 + 1) ((452 + (24 * x4)) + 1) = d (x0 + 1) ((452 + (24 * x1)) + 1) then (if x3 < v_230 x0 x1 x4 d then r5 (v_230 x0 x1 x4 d) (x4 + 1) d else r5 x3 (x4 + 1) d) else r5 x3 (x4 + 1) d) else r5 x3 (x4 + 1) d) else x3
def lp_231_5 (x0 x1 x2 : Int) : Nat → Int → Int → mD → Int
  | 0 => st_231_5 x0 x1 x2 (fun _ _ d => 0)
  | n + 1 => st_231_5 x0 x1 x2 (lp_231_5 x0 x1 x2 n)
theorem ls_231_5 {E : mO × tW} {K : tK} {x0 x1 x2 : Int} (hx0 : mdB x0) (p1 : 0 ≤ x1 ∧ x1 ≤ 60) (p2 : -2147483648 ≤ x2 ∧ x2 ≤ 2147483647) (N5 : Int) (r5 : Int → Int → mD → Int) (ih5 : ∀ (x3 x4 : Int) (v5 : tV) (d : mD), Safe d → (0 ≤ x4 ∧ x4 ≤ 61) → (0 ≤ x3 ∧ x3 ≤ 1200) → 0 ≤ 61 - x4 → 61 - x4 < N5 → ((0 ≤ (r5 x3 x4 d) ∧ (r5 x3 x4 d) ≤ 1200) → K (.inl (some (0, (r5 x3 x4 d)))) d) → tRun E 231 (5, [.inr (11, x0), .inl (0, x1), .inl (0, x2), .inl (0, x3), .inl (0, x4), v5], [], 0, 0, d) K) (x3 x4 : Int) (v5 : tV) (d : mD) (hS : Safe d) (i0 : 0 ≤ x4 ∧ x4 ≤ 61) (i1 : 0 ≤ x3 ∧ x3 ≤ 1200) (hm : 61 - x4 ≤ N5) (h : (0 ≤ (st_231_5 x0 x1 x2 r5 x3 x4 d) ∧ (st_231_5 x0 x1 x2 r5 x3 x4 d) ≤ 1200) → K (.inl (some (0, (st_231_5 x0 x1 x2 r5 x3 x4 d)))) d) : tRun E 231 (5, [.inr (11, x0), .inl (0, x1), .inl (0, x2), .inl (0, x3), .inl (0, x4), v5], [], 0, 0, d) K := by
  refine t_231_5 ?_
  have q1 := mh_9 hS hx0 _ rfl
  refine ⟨by omega, ⟨m_inR (by omega) (by omega), m_inR (by omega) (by omega)⟩, fun c0 => ?_, fun c0 => ?_⟩
  · have y0 : st_231_5 x0 x1 x2 r5 x3 x4 d = x3 := by simp only [st_231_5, if_neg (show ¬ x4 < d (x0 + 1) 9 from Int.not_lt.mpr c0)]
    rw [y0] at h
    exact h (show 0 ≤ x3 ∧ x3 ≤ 1200 from (by omega))
  · refine ⟨⟨m_inR (by omega) (by omega), m_inR (by omega) (by omega)⟩, fun c1 => ?_, fun c1 => ?_⟩
    · refine ⟨m_inR (by omega) (by omega), fun c2 => ?_, fun c2 => ?_⟩
      · refine ih5 x3 (x4 + 1) (.inl (0, 0)) d hS (by omega) (by omega) (by omega) (by omega) ?_
        intro e
        have y0 : st_231_5 x0 x1 x2 r5 x3 x4 d = r5 x3 (x4 + 1) d := by simp only [st_231_5, if_pos (show x4 < d (x0 + 1) 9 from c0), if_pos (show x4 = x1 from c1), if_pos (show (0 : Int) = 0 from c2)]
        rw [y0] at h
        exact h e
      · exact (show False by omega).elim
    · refine k_179 hS ?_
      refine t_231_32 ?_
      have q2 := mt_0 hS hx0 x4 ((452 + (24 * x4)) + 0) (by omega) (by omega)
      refine ⟨by omega, ⟨m_inR (by omega) (by omega), m_inR (by omega) (by omega)⟩, fun c2 => ?_, fun c2 => ?_⟩
      · refine ⟨m_inR (by omega) (by omega), fun c3 => ?_, fun c3 => ?_⟩
        · refine ih5 x3 (x4 + 1) (.inl (0, 0)) d hS (by omega) (by omega) (by omega) (by omega) ?_
          intro e
          have y0 : st_231_5 x0 x1 x2 r5 x3 x4 d = r5 x3 (x4 + 1) d := by simp only [st_231_5, if_pos (show x4 < d (x0 + 1) 9 from c0), if_neg (show ¬ x4 = x1 from c1), if_neg (show ¬ d (x0 + 1) ((452 + (24 * x4)) + 0) = x2 from c2), if_pos (show (0 : Int) = 0 from c3)]
          rw [y0] at h
          exact h e
        · exact (show False by omega).elim
      · refine k_179 hS ?_
        refine t_231_48 ?_
        refine ⟨by omega, ?_⟩
        refine k_179 hS ?_
        refine t_231_59 ?_
        have q3 := mt_1 hS hx0 x4 ((452 + (24 * x4)) + 1) (by omega) (by omega)
        have q4 := mt_1 hS hx0 x1 ((452 + (24 * x1)) + 1) (by omega) (by omega)
        refine ⟨by omega, ⟨m_inR (by omega) (by omega), m_inR (by omega) (by omega)⟩, fun c3 => ?_, fun c3 => ?_⟩
        · refine ⟨m_inR (by omega) (by omega), fun c4 => ?_, fun c4 => ?_⟩
          · refine ih5 x3 (x4 + 1) (.inl (0, 0)) d hS (by omega) (by omega) (by omega) (by omega) ?_
            intro e
            have y0 : st_231_5 x0 x1 x2 r5 x3 x4 d = r5 x3 (x4 + 1) d := by simp only [st_231_5, if_pos (show x4 < d (x0 + 1) 9 from c0), if_neg (show ¬ x4 = x1 from c1), if_pos (show d (x0 + 1) ((452 + (24 * x4)) + 0) = x2 from c2), if_neg (show ¬ d (x0 + 1) ((452 + (24 * x4)) + 1) = d (x0 + 1) ((452 + (24 * x1)) + 1) from c3), if_pos (show (0 : Int) = 0 from c4)]
            rw [y0] at h
            exact h e
          · exact (show False by omega).elim
        · refine ⟨m_inR (by omega) (by omega), fun c4 => ?_, fun c4 => ?_⟩
          · exact (show False by omega).elim
          · refine k_230 hS hx0 (by omega) (by omega) (fun e1 => ?_)
            refine t_231_84 ?_
            refine ⟨⟨m_inR (by omega) (by omega), m_inR (by omega) (by omega)⟩, fun c5 => ?_, fun c5 => ?_⟩
            · refine ih5 x3 (x4 + 1) (.inl (0, 1)) d hS (by omega) (by omega) (by omega) (by omega) ?_
              intro e
              have y0 : st_231_5 x0 x1 x2 r5 x3 x4 d = r5 x3 (x4 + 1) d := by simp only [st_231_5, if_pos (show x4 < d (x0 + 1) 9 from c0), if_neg (show ¬ x4 = x1 from c1), if_pos (show d (x0 + 1) ((452 + (24 * x4)) + 0) = x2 from c2), if_pos (show d (x0 + 1) ((452 + (24 * x4)) + 1) = d (x0 + 1) ((452 + (24 * x1)) + 1) from c3), if_neg (show ¬ (1 : Int) = 0 from c4), if_neg (show ¬ x3 < v_230 x0 x1 x4 d from Int.not_lt.mpr c5)]
              rw [y0] at h
              exact h e
            · refine k_230 hS hx0 (by omega) (by omega) (fun e2 => ?_)
              refine t_231_95 ?_
              refine ih5 (v_230 x0 x1 x4 d) (x4 + 1) (.inl (0, 1)) d hS (by omega) (by omega) (by omega) (by omega) ?_
              intro e
              have y0 : st_231_5 x0 x1 x2 r5 x3 x4 d = r5 (v_230 x0 x1 x4 d) (x4 + 1) d := by simp only [st_231_5, if_pos (show x4 < d (x0 + 1) 9 from c0), if_neg (show ¬ x4 = x1 from c1), if_pos (show d (x0 + 1) ((452 + (24 * x4)) + 0) = x2 from c2), if_pos (show d (x0 + 1) ((452 + (24 * x4)) + 1) = d (x0 + 1) ((452 + (24 * x1)) + 1) from c3), if_neg (show ¬ (1 : Int) = 0 from c4), if_pos (show x3 < v_230 x0 x1 x4 d from c5)]
              rw [y0] at h
              exact h e
theorem l_231_5 {E : mO × tW} {K : tK} {x0 x1 x2 : Int} (hx0 : mdB x0) (p1 : 0 ≤ x1 ∧ x1 ≤ 60) (p2 : -2147483648 ≤ x2 ∧ x2 ≤ 2147483647) : ∀ (n : Nat) (x3 x4 : Int) (v5 : tV) (d : mD), Safe d → (0 ≤ x4 ∧ x4 ≤ 61) → (0 ≤ x3 ∧ x3 ≤ 1200) → 61 - x4 ≤ (n : Int) → ((0 ≤ (lp_231_5 x0 x1 x2 n x3 x4 d) ∧ (lp_231_5 x0 x1 x2 n x3 x4 d) ≤ 1200) → K (.inl (some (0, (lp_231_5 x0 x1 x2 n x3 x4 d)))) d) → tRun E 231 (5, [.inr (11, x0), .inl (0, x1), .inl (0, x2), .inl (0, x3), .inl (0, x4), v5], [], 0, 0, d) K := by
  intro n
  induction n with
  | zero =>
    intro x3 x4 v5 d hS i0 i1 hm  h
    exact ls_231_5 hx0 p1 p2 0 _ (fun _ _ _ _ _ _ _ m0 m1 _ => absurd m1 (by omega)) x3 x4 v5 d hS i0 i1 hm  h
  | succ n ih =>
    intro x3 x4 v5 d hS i0 i1 hm  h
    exact ls_231_5 hx0 p1 p2 ((n + 1 : Nat) : Int) _ (fun x3 x4 v5 d hS i0 i1  m0 m1 h => ih x3 x4 v5 d hS i0 i1 (by omega)  h) x3 x4 v5 d hS i0 i1 hm  h
def v_231 (x0 x1 x2 : Int) (d : mD) : Int := lp_231_5 x0 x1 x2 (61 - 0 : Int).toNat 0 0 d
theorem k_231 {E : mO × tW} {K : tK} {d : mD} {x0 x1 x2 : Int} (hS : Safe d) (hx0 : mdB x0) (p1 : 0 ≤ x1 ∧ x1 ≤ 60) (p2 : -2147483648 ≤ x2 ∧ x2 ≤ 2147483647) (h : (0 ≤ (v_231 x0 x1 x2 d) ∧ (v_231 x0 x1 x2 d) ≤ 1200) → K (.inl (some (0, (v_231 x0 x1 x2 d)))) d) : tCall E 231 [.inr (11, x0), .inl (0, x1), .inl (0, x2)] d K := by
  refine t_231_0 ?_
  refine l_231_5 hx0 p1 p2 (61 - 0 : Int).toNat 0 0 tu d hS (by omega) (by omega) (by omega) ?_
  intro e
  have y0 : v_231 x0 x1 x2 d = lp_231_5 x0 x1 x2 (61 - 0 : Int).toNat 0 0 d := by simp only [v_231]
  rw [y0] at h
  exact h e
def v_232 (x0 x1 x2 : Int) (d : mD) : Int := if (0 : Int) < d (x0 + 1) (((452 + (24 * x1)) + 8) + x2) then (if ((d (x0 + 1) (((452 + (24 * x1)) + 8) + x2)) - 1) / 20 = (d (x0 + 1) 0) / 20 then 1 else 0) else 0
theorem k_232 {E : mO × tW} {K : tK} {d : mD} {x0 x1 x2 : Int} (hS : Safe d) (hx0 : mdB x0) (p1 : 0 ≤ x1 ∧ x1 ≤ 60) (p2 : 0 ≤ x2 ∧ x2 ≤ 15) (h : (0 ≤ (v_232 x0 x1 x2 d) ∧ (v_232 x0 x1 x2 d) ≤ 1) → K (.inl (some (0, (v_232 x0 x1 x2 d)))) d) : tCall E 232 [.inr (11, x0), .inl (0, x1), .inl (0, x2)] d K := by
  refine t_232_0 ?_
  refine k_179 hS ?_
  refine t_232_8 ?_
  have q1 := mt_w hS hx0 x1 x2 (((452 + (24 * x1)) + 8) + x2) (by omega) (by omega) (by omega)
  refine ⟨by omega, m_inR (by omega) (by omega), fun c0 => ?_, fun c0 => ?_⟩
  · refine ⟨by omega, ?_⟩
    have y0 : v_232 x0 x1 x2 d = 0 := by simp only [v_232, if_neg (show ¬ (0 : Int) < d (x0 + 1) (((452 + (24 * x1)) + 8) + x2) from Int.not_lt.mpr c0)]
    rw [y0] at h
    exact h (show 0 ≤ ((0 : Int)) ∧ ((0 : Int)) ≤ 1 from (by omega))
  · have q2 := mh_0 hS hx0 _ rfl
    refine ⟨by omega, by omega, by omega, ⟨m_inR (by omega) (by omega), m_inR (by omega) (by omega)⟩, fun c1 => ?_, fun c1 => ?_⟩
    · refine ⟨by omega, ?_⟩
      have y0 : v_232 x0 x1 x2 d = 0 := by simp only [v_232, if_pos (show (0 : Int) < d (x0 + 1) (((452 + (24 * x1)) + 8) + x2) from c0), if_neg (show ¬ ((d (x0 + 1) (((452 + (24 * x1)) + 8) + x2)) - 1) / 20 = (d (x0 + 1) 0) / 20 from c1)]
      rw [y0] at h
      exact h (show 0 ≤ ((0 : Int)) ∧ ((0 : Int)) ≤ 1 from (by omega))
    · refine ⟨by omega, ?_⟩
      have y0 : v_232 x0 x1 x2 d = 1 := by simp only [v_232, if_pos (show (0 : Int) < d (x0 + 1) (((452 + (24 * x1)) + 8) + x2) from c0), if_pos (show ((d (x0 + 1) (((452 + (24 * x1)) + 8) + x2)) - 1) / 20 = (d (x0 + 1) 0) / 20 from c1)]
      rw [y0] at h
      exact h (show 0 ≤ ((1 : Int)) ∧ ((1 : Int)) ≤ 1 from (by omega))
def st_233_4 (x0 x1 : Int) (r4 : Int → Int → mD → Int) (x2 x3 : Int) (d : mD) : Int := if x3 < d (x0 + 1) 9 then (if v_232 x0 x3 x1 d = 0 then r4 (x2 + 0) (x3 + 1) d else r4 (x2 + 1) (x3 + 1) d) else x2
def lp_233_4 (x0 x1 : Int) : Nat → Int → Int → mD → Int
  | 0 => st_233_4 x0 x1 (fun _ _ d => 0)
  | n + 1 => st_233_4 x0 x1 (lp_233_4 x0 x1 n)
theorem ls_233_4 {E : mO × tW} {K : tK} {x0 x1 : Int} (hx0 : mdB x0) (p1 : 0 ≤ x1 ∧ x1 ≤ 15) (N4 : Int) (r4 : Int → Int → mD → Int) (ih4 : ∀ (x2 x3 : Int) (d : mD), Safe d → (0 ≤ x3 ∧ x3 ≤ 61) → (0 ≤ x2 ∧ x2 ≤ x3) → 0 ≤ 61 - x3 → 61 - x3 < N4 → ((0 ≤ (r4 x2 x3 d) ∧ (r4 x2 x3 d) ≤ 61) → K (.inl (some (0, (r4 x2 x3 d)))) d) → tRun E 233 (4, [.inr (11, x0), .inl (0, x1), .inl (0, x2), .inl (0, x3)], [], 0, 0, d) K) (x2 x3 : Int) (d : mD) (hS : Safe d) (i0 : 0 ≤ x3 ∧ x3 ≤ 61) (i1 : 0 ≤ x2 ∧ x2 ≤ x3) (hm : 61 - x3 ≤ N4) (h : (0 ≤ (st_233_4 x0 x1 r4 x2 x3 d) ∧ (st_233_4 x0 x1 r4 x2 x3 d) ≤ 61) → K (.inl (some (0, (st_233_4 x0 x1 r4 x2 x3 d)))) d) : tRun E 233 (4, [.inr (11, x0), .inl (0, x1), .inl (0, x2), .inl (0, x3)], [], 0, 0, d) K := by
  refine t_233_4 ?_
  have q1 := mh_9 hS hx0 _ rfl
  refine ⟨by omega, ⟨m_inR (by omega) (by omega), m_inR (by omega) (by omega)⟩, fun c0 => ?_, fun c0 => ?_⟩
  · have y0 : st_233_4 x0 x1 r4 x2 x3 d = x2 := by simp only [st_233_4, if_neg (show ¬ x3 < d (x0 + 1) 9 from Int.not_lt.mpr c0)]
    rw [y0] at h
    exact h (show 0 ≤ x2 ∧ x2 ≤ 61 from (by omega))
  · refine k_232 hS hx0 (by omega) (by omega) (fun e1 => ?_)
    refine t_233_22 ?_
    refine ⟨m_inR (by omega) (by omega), fun c1 => ?_, fun c1 => ?_⟩
    · refine ih4 (x2 + 0) (x3 + 1)  d hS (by omega) (by omega) (by omega) (by omega) ?_
      intro e
      have y0 : st_233_4 x0 x1 r4 x2 x3 d = r4 (x2 + 0) (x3 + 1) d := by simp only [st_233_4, if_pos (show x3 < d (x0 + 1) 9 from c0), if_pos (show v_232 x0 x3 x1 d = 0 from c1)]
      rw [y0] at h
      exact h e
    · refine ih4 (x2 + 1) (x3 + 1)  d hS (by omega) (by omega) (by omega) (by omega) ?_
      intro e
      have y0 : st_233_4 x0 x1 r4 x2 x3 d = r4 (x2 + 1) (x3 + 1) d := by simp only [st_233_4, if_pos (show x3 < d (x0 + 1) 9 from c0), if_neg (show ¬ v_232 x0 x3 x1 d = 0 from c1)]
      rw [y0] at h
      exact h e
theorem l_233_4 {E : mO × tW} {K : tK} {x0 x1 : Int} (hx0 : mdB x0) (p1 : 0 ≤ x1 ∧ x1 ≤ 15) : ∀ (n : Nat) (x2 x3 : Int) (d : mD), Safe d → (0 ≤ x3 ∧ x3 ≤ 61) → (0 ≤ x2 ∧ x2 ≤ x3) → 61 - x3 ≤ (n : Int) → ((0 ≤ (lp_233_4 x0 x1 n x2 x3 d) ∧ (lp_233_4 x0 x1 n x2 x3 d) ≤ 61) → K (.inl (some (0, (lp_233_4 x0 x1 n x2 x3 d)))) d) → tRun E 233 (4, [.inr (11, x0), .inl (0, x1), .inl (0, x2), .inl (0, x3)], [], 0, 0, d) K := by
  intro n
  induction n with
  | zero =>
    intro x2 x3  d hS i0 i1 hm  h
    exact ls_233_4 hx0 p1 0 _ (fun _ _  _ _ _ _ m0 m1 _ => absurd m1 (by omega)) x2 x3  d hS i0 i1 hm  h
  | succ n ih =>
    intro x2 x3  d hS i0 i1 hm  h
    exact ls_233_4 hx0 p1 ((n + 1 : Nat) : Int) _ (fun x2 x3  d hS i0 i1  m0 m1 h => ih x2 x3  d hS i0 i1 (by omega)  h) x2 x3  d hS i0 i1 hm  h
def v_233 (x0 x1 : Int) (d : mD) : Int := lp_233_4 x0 x1 (61 - 0 : Int).toNat 0 0 d
theorem k_233 {E : mO × tW} {K : tK} {d : mD} {x0 x1 : Int} (hS : Safe d) (hx0 : mdB x0) (p1 : 0 ≤ x1 ∧ x1 ≤ 15) (h : (0 ≤ (v_233 x0 x1 d) ∧ (v_233 x0 x1 d) ≤ 61) → K (.inl (some (0, (v_233 x0 x1 d)))) d) : tCall E 233 [.inr (11, x0), .inl (0, x1)] d K := by
  refine t_233_0 ?_
  refine l_233_4 hx0 p1 (61 - 0 : Int).toNat 0 0  d hS (by omega) (by omega) (by omega) ?_
  intro e
  have y0 : v_233 x0 x1 d = lp_233_4 x0 x1 (61 - 0 : Int).toNat 0 0 d := by simp only [v_233]
  rw [y0] at h
  exact h e
/-! ===== contracts of the reference's methods: printed by a program of mine ===== -/
def st_223_71 (x0 : Int) (r71 : Int → mD → mD) (x1 : Int) (d : mD) : mD := if x1 < d (x0 + 1) 9 then (if (d (x0 + 1) 0) % 20 = 0 then (if d (x0 + 1) ((452 + (24 * x1)) + 6) = 0 then r71 (x1 + 1) d else r71 (x1 + 1) (g_218 x0 x1 d)) else g_219 x0 d) else g_219 x0 d
def lp_223_71 (x0 : Int) : Nat → Int → mD → mD
  | 0 => st_223_71 x0 (fun _ d => d)
  | n + 1 => st_223_71 x0 (lp_223_71 x0 n)
theorem ls_223_71 {E : mO × tW} {K : tK} {x0 : Int} (hx0 : mdB x0) (N71 : Int) (r71 : Int → mD → mD) (ih71 : ∀ (x1 : Int) (v2 : tV) (d : mD), Safe d → (0 ≤ x1 ∧ x1 ≤ 61) → 0 ≤ 61 - x1 → 61 - x1 < N71 → ((∀ b : Int, (b < x0 + 1 ∨ x0 + 1 < b) → (r71 x1 d) b = d b) → (∀ i : Int, ((0 ≤ i ∧ i ≤ 8 ∧ ¬ i = 1) ∨ (12 ≤ i ∧ i < 420 ∧ (i - 12) % 68 ≤ 4) ∨ (420 ≤ i ∧ i < 452 ∧ i % 2 = 0) ∨ i = 9 ∨ (452 ≤ i ∧ i < 1916 ∧ 5 ≤ (i - 452) % 24)) ∧ ¬ i = 0 → (r71 x1 d) (x0 + 1) i = d (x0 + 1) i) → ((r71 x1 d) (x0 + 1) 0 = d (x0 + 1) 0) → Safe (r71 x1 d) → K (.inl none) (r71 x1 d)) → tRun E 223 (71, [.inr (11, x0), .inl (0, x1), v2], [], 0, 0, d) K) (x1 : Int) (v2 : tV) (d : mD) (hS : Safe d) (i0 : 0 ≤ x1 ∧ x1 ≤ 61) (hm : 61 - x1 ≤ N71) (h : (∀ b : Int, (b < x0 + 1 ∨ x0 + 1 < b) → (st_223_71 x0 r71 x1 d) b = d b) → (∀ i : Int, ((0 ≤ i ∧ i ≤ 8 ∧ ¬ i = 1) ∨ (12 ≤ i ∧ i < 420 ∧ (i - 12) % 68 ≤ 4) ∨ (420 ≤ i ∧ i < 452 ∧ i % 2 = 0) ∨ i = 9 ∨ (452 ≤ i ∧ i < 1916 ∧ 5 ≤ (i - 452) % 24)) ∧ ¬ i = 0 → (st_223_71 x0 r71 x1 d) (x0 + 1) i = d (x0 + 1) i) → ((st_223_71 x0 r71 x1 d) (x0 + 1) 0 = d (x0 + 1) 0) → Safe (st_223_71 x0 r71 x1 d) → K (.inl none) (st_223_71 x0 r71 x1 d)) : tRun E 223 (71, [.inr (11, x0), .inl (0, x1), v2], [], 0, 0, d) K := by
  refine t_223_71 ?_
  have q1 := mh_9 hS hx0 _ rfl
  refine ⟨by omega, ⟨m_inR (by omega) (by omega), m_inR (by omega) (by omega)⟩, fun c0 => ?_, fun c0 => ?_⟩
  · refine k_219 hS hx0 (fun e1 F1 Q1 hS1 => ?_)
    refine t_223_125 ?_
    have q2 : (g_219 x0 d) (x0 + 1) 0 = d (x0 + 1) 0 := Q1 0 (by omega)
    have y0 : st_223_71 x0 r71 x1 d = g_219 x0 d := by simp only [st_223_71, if_neg (show ¬ x1 < d (x0 + 1) 9 from Int.not_lt.mpr c0)]
    rw [y0] at h
    exact h (show ∀ b : Int, (b < x0 + 1 ∨ x0 + 1 < b) → (g_219 x0 d) b = d b from fun b hb => F1 b (by omega)) (show ∀ i : Int, ((0 ≤ i ∧ i ≤ 8 ∧ ¬ i = 1) ∨ (12 ≤ i ∧ i < 420 ∧ (i - 12) % 68 ≤ 4) ∨ (420 ≤ i ∧ i < 452 ∧ i % 2 = 0) ∨ i = 9 ∨ (452 ≤ i ∧ i < 1916 ∧ 5 ≤ (i - 452) % 24)) ∧ ¬ i = 0 → (g_219 x0 d) (x0 + 1) i = d (x0 + 1) i from fun i hi => Q1 i (by omega)) (show (g_219 x0 d) (x0 + 1) 0 = d (x0 + 1) 0 by omega) hS1
  · have q3 := mh_0 hS hx0 _ rfl
    refine ⟨by omega, by omega, m_inR (by omega) (by omega), fun c1 => ?_, fun c1 => ?_⟩
    · refine k_219 hS hx0 (fun e2 F2 Q2 hS2 => ?_)
      refine t_223_125 ?_
      have q4 : (g_219 x0 d) (x0 + 1) 0 = d (x0 + 1) 0 := Q2 0 (by omega)
      have y0 : st_223_71 x0 r71 x1 d = g_219 x0 d := by simp only [st_223_71, if_pos (show x1 < d (x0 + 1) 9 from c0), if_neg (show ¬ (d (x0 + 1) 0) % 20 = 0 from c1)]
      rw [y0] at h
      exact h (show ∀ b : Int, (b < x0 + 1 ∨ x0 + 1 < b) → (g_219 x0 d) b = d b from fun b hb => F2 b (by omega)) (show ∀ i : Int, ((0 ≤ i ∧ i ≤ 8 ∧ ¬ i = 1) ∨ (12 ≤ i ∧ i < 420 ∧ (i - 12) % 68 ≤ 4) ∨ (420 ≤ i ∧ i < 452 ∧ i % 2 = 0) ∨ i = 9 ∨ (452 ≤ i ∧ i < 1916 ∧ 5 ≤ (i - 452) % 24)) ∧ ¬ i = 0 → (g_219 x0 d) (x0 + 1) i = d (x0 + 1) i from fun i hi => Q2 i (by omega)) (show (g_219 x0 d) (x0 + 1) 0 = d (x0 + 1) 0 by omega) hS2
    · refine k_179 hS ?_
      refine t_223_102 ?_
      have q5 := mt_6 hS hx0 x1 ((452 + (24 * x1)) + 6) (by omega) (by omega)
      refine ⟨by omega, m_inR (by omega) (by omega), fun c2 => ?_, fun c2 => ?_⟩
      · refine ih71 (x1 + 1) v2 d hS (by omega) (by omega) (by omega) ?_
        intro F Q n0 hS_
        have y0 : st_223_71 x0 r71 x1 d = r71 (x1 + 1) d := by simp only [st_223_71, if_pos (show x1 < d (x0 + 1) 9 from c0), if_pos (show (d (x0 + 1) 0) % 20 = 0 from c1), if_pos (show d (x0 + 1) ((452 + (24 * x1)) + 6) = 0 from c2)]
        rw [y0] at h
        exact h F Q (by omega) hS_
      · refine k_218 hS hx0 (by omega) (fun e3 F3 Q3 hS3 => ?_)
        refine t_223_114 ?_
        refine ih71 (x1 + 1) (.inl (0, v_218 x0 x1 d)) (g_218 x0 x1 d) hS3 (by omega) (by omega) (by omega) ?_
        intro F Q n0 hS_
        have q6 : (g_218 x0 x1 d) (x0 + 1) 0 = d (x0 + 1) 0 := Q3 0 (by omega)
        have y0 : st_223_71 x0 r71 x1 d = r71 (x1 + 1) (g_218 x0 x1 d) := by simp only [st_223_71, if_pos (show x1 < d (x0 + 1) 9 from c0), if_pos (show (d (x0 + 1) 0) % 20 = 0 from c1), if_neg (show ¬ d (x0 + 1) ((452 + (24 * x1)) + 6) = 0 from c2)]
        rw [y0] at h
        exact h (fun b hb => (F b hb).trans ((show ∀ b : Int, (b < x0 + 1 ∨ x0 + 1 < b) → (g_218 x0 x1 d) b = d b from fun b hb => F3 b (by omega)) b hb)) (fun i hi => (Q i hi).trans ((show ∀ i : Int, ((0 ≤ i ∧ i ≤ 8 ∧ ¬ i = 1) ∨ (12 ≤ i ∧ i < 420 ∧ (i - 12) % 68 ≤ 4) ∨ (420 ≤ i ∧ i < 452 ∧ i % 2 = 0) ∨ i = 9 ∨ (452 ≤ i ∧ i < 1916 ∧ 5 ≤ (i - 452) % 24)) ∧ ¬ i = 0 → (g_218 x0 x1 d) (x0 + 1) i = d (x0 + 1) i from fun i hi => Q3 i (by omega)) i hi)) (by omega) hS_
theorem l_223_71 {E : mO × tW} {K : tK} {x0 : Int} (hx0 : mdB x0) : ∀ (n : Nat) (x1 : Int) (v2 : tV) (d : mD), Safe d → (0 ≤ x1 ∧ x1 ≤ 61) → 61 - x1 ≤ (n : Int) → ((∀ b : Int, (b < x0 + 1 ∨ x0 + 1 < b) → (lp_223_71 x0 n x1 d) b = d b) → (∀ i : Int, ((0 ≤ i ∧ i ≤ 8 ∧ ¬ i = 1) ∨ (12 ≤ i ∧ i < 420 ∧ (i - 12) % 68 ≤ 4) ∨ (420 ≤ i ∧ i < 452 ∧ i % 2 = 0) ∨ i = 9 ∨ (452 ≤ i ∧ i < 1916 ∧ 5 ≤ (i - 452) % 24)) ∧ ¬ i = 0 → (lp_223_71 x0 n x1 d) (x0 + 1) i = d (x0 + 1) i) → ((lp_223_71 x0 n x1 d) (x0 + 1) 0 = d (x0 + 1) 0) → Safe (lp_223_71 x0 n x1 d) → K (.inl none) (lp_223_71 x0 n x1 d)) → tRun E 223 (71, [.inr (11, x0), .inl (0, x1), v2], [], 0, 0, d) K := by
  intro n
  induction n with
  | zero =>
    intro x1 v2 d hS i0 hm  h
    exact ls_223_71 hx0 0 _ (fun _ _ _ _ _ m0 m1 _ => absurd m1 (by omega)) x1 v2 d hS i0 hm  h
  | succ n ih =>
    intro x1 v2 d hS i0 hm  h
    exact ls_223_71 hx0 ((n + 1 : Nat) : Int) _ (fun x1 v2 d hS i0  m0 m1 h => ih x1 v2 d hS i0 (by omega)  h) x1 v2 d hS i0 hm  h
def st_223_12 (x0 : Int) (r12 : Int → mD → mD) (x1 : Int) (d : mD) : mD := if x1 < d (x0 + 1) 7 then (if d (x0 + 1) ((12 + (68 * x1)) + 4) = 0 then r12 (x1 + 1) d else if (d (x0 + 1) 0) % (d (x0 + 1) ((12 + (68 * x1)) + 2)) = 0 then r12 (x1 + 1) (g_222 x0 x1 d) else r12 (x1 + 1) d) else lp_223_71 x0 (61 - 0 : Int).toNat 0 d
def lp_223_12 (x0 : Int) : Nat → Int → mD → mD
  | 0 => st_223_12 x0 (fun _ d => d)
  | n + 1 => st_223_12 x0 (lp_223_12 x0 n)
theorem ls_223_12 {E : mO × tW} {K : tK} {x0 : Int} (hx0 : mdB x0) (N12 : Int) (r12 : Int → mD → mD) (ih12 : ∀ (x1 : Int) (d : mD), Safe d → (0 ≤ x1 ∧ x1 ≤ 6) → (mpP (d (x0 + 1))) → 0 ≤ 6 - x1 → 6 - x1 < N12 → ((∀ b : Int, (b < x0 + 1 ∨ x0 + 1 < b) → (r12 x1 d) b = d b) → (∀ i : Int, ((0 ≤ i ∧ i ≤ 8 ∧ ¬ i = 1) ∨ (12 ≤ i ∧ i < 420 ∧ (i - 12) % 68 ≤ 4) ∨ (420 ≤ i ∧ i < 452 ∧ i % 2 = 0) ∨ i = 9 ∨ (452 ≤ i ∧ i < 1916 ∧ 5 ≤ (i - 452) % 24)) ∧ ¬ i = 0 → (r12 x1 d) (x0 + 1) i = d (x0 + 1) i) → ((r12 x1 d) (x0 + 1) 0 = d (x0 + 1) 0) → Safe (r12 x1 d) → K (.inl none) (r12 x1 d)) → tRun E 223 (12, [.inr (11, x0), .inl (0, x1), tu], [], 0, 0, d) K) (x1 : Int) (d : mD) (hS : Safe d) (i0 : 0 ≤ x1 ∧ x1 ≤ 6) (hmp : mpP (d (x0 + 1))) (hm : 6 - x1 ≤ N12) (h : (∀ b : Int, (b < x0 + 1 ∨ x0 + 1 < b) → (st_223_12 x0 r12 x1 d) b = d b) → (∀ i : Int, ((0 ≤ i ∧ i ≤ 8 ∧ ¬ i = 1) ∨ (12 ≤ i ∧ i < 420 ∧ (i - 12) % 68 ≤ 4) ∨ (420 ≤ i ∧ i < 452 ∧ i % 2 = 0) ∨ i = 9 ∨ (452 ≤ i ∧ i < 1916 ∧ 5 ≤ (i - 452) % 24)) ∧ ¬ i = 0 → (st_223_12 x0 r12 x1 d) (x0 + 1) i = d (x0 + 1) i) → ((st_223_12 x0 r12 x1 d) (x0 + 1) 0 = d (x0 + 1) 0) → Safe (st_223_12 x0 r12 x1 d) → K (.inl none) (st_223_12 x0 r12 x1 d)) : tRun E 223 (12, [.inr (11, x0), .inl (0, x1), tu], [], 0, 0, d) K := by
  refine t_223_12 ?_
  have q7 := mh_7 hS hx0 _ rfl
  refine ⟨by omega, ⟨m_inR (by omega) (by omega), m_inR (by omega) (by omega)⟩, fun c0 => ?_, fun c0 => ?_⟩
  · refine l_223_71 hx0 (61 - 0 : Int).toNat 0 tu d hS (by omega) (by omega) ?_
    intro F Q n0 hS_
    have y0 : st_223_12 x0 r12 x1 d = lp_223_71 x0 (61 - 0 : Int).toNat 0 d := by simp only [st_223_12, if_neg (show ¬ x1 < d (x0 + 1) 7 from Int.not_lt.mpr c0)]
    rw [y0] at h
    exact h F Q (by omega) hS_
  · refine k_177 hS ?_
    refine t_223_31 ?_
    have q8 := mo_4 hS hx0 x1 ((12 + (68 * x1)) + 4) (by omega) (by omega)
    refine ⟨by omega, m_inR (by omega) (by omega), fun c1 => ?_, fun c1 => ?_⟩
    · refine t_223_63 ?_
      refine ih12 (x1 + 1)  d hS (by omega) hmp (by omega) (by omega) ?_
      intro F Q n0 hS_
      have y0 : st_223_12 x0 r12 x1 d = r12 (x1 + 1) d := by simp only [st_223_12, if_pos (show x1 < d (x0 + 1) 7 from c0), if_pos (show d (x0 + 1) ((12 + (68 * x1)) + 4) = 0 from c1)]
      rw [y0] at h
      exact h F Q (by omega) hS_
    · refine ⟨by omega, ?_⟩
      refine k_177 hS ?_
      refine t_223_51 ?_
      have q9 := mh_0 hS hx0 _ rfl
      have q10 := mo_2 hS hx0 x1 ((12 + (68 * x1)) + 2) (by omega) (by omega)
      have q11 := hmp x1 (by omega) (by omega)
      have q12 := mmod_r (x := d (x0 + 1) 0) (y := d (x0 + 1) ((12 + (68 * x1)) + 2)) (by omega) (by omega)
      refine ⟨by omega, by omega, m_inR (by omega) (by omega), fun c2 => ?_, fun c2 => ?_⟩
      · refine t_223_63 ?_
        refine ih12 (x1 + 1)  d hS (by omega) hmp (by omega) (by omega) ?_
        intro F Q n0 hS_
        have y0 : st_223_12 x0 r12 x1 d = r12 (x1 + 1) d := by simp only [st_223_12, if_pos (show x1 < d (x0 + 1) 7 from c0), if_neg (show ¬ d (x0 + 1) ((12 + (68 * x1)) + 4) = 0 from c1), if_neg (show ¬ (d (x0 + 1) 0) % (d (x0 + 1) ((12 + (68 * x1)) + 2)) = 0 from c2)]
        rw [y0] at h
        exact h F Q (by omega) hS_
      · refine k_222 hS hx0 (by omega) (fun F4 Q4 hS4 => ?_)
        refine t_223_63 ?_
        refine ih12 (x1 + 1)  (g_222 x0 x1 d) hS4 (by omega) (mpP.of (mh_7 hS hx0 _ rfl) (show ∀ i : Int, i = 7 ∨ (12 ≤ i ∧ i < 420 ∧ (i - 12) % 68 = 2) → (g_222 x0 x1 d) (x0 + 1) i = d (x0 + 1) i from fun i hi => Q4 i (by omega)) hmp) (by omega) (by omega) ?_
        intro F Q n0 hS_
        have q13 : (g_222 x0 x1 d) (x0 + 1) 0 = d (x0 + 1) 0 := Q4 0 (by omega)
        have y0 : st_223_12 x0 r12 x1 d = r12 (x1 + 1) (g_222 x0 x1 d) := by simp only [st_223_12, if_pos (show x1 < d (x0 + 1) 7 from c0), if_neg (show ¬ d (x0 + 1) ((12 + (68 * x1)) + 4) = 0 from c1), if_pos (show (d (x0 + 1) 0) % (d (x0 + 1) ((12 + (68 * x1)) + 2)) = 0 from c2)]
        rw [y0] at h
        exact h (fun b hb => (F b hb).trans ((show ∀ b : Int, (b < x0 + 1 ∨ x0 + 1 < b) → (g_222 x0 x1 d) b = d b from fun b hb => F4 b (by omega)) b hb)) (fun i hi => (Q i hi).trans ((show ∀ i : Int, ((0 ≤ i ∧ i ≤ 8 ∧ ¬ i = 1) ∨ (12 ≤ i ∧ i < 420 ∧ (i - 12) % 68 ≤ 4) ∨ (420 ≤ i ∧ i < 452 ∧ i % 2 = 0) ∨ i = 9 ∨ (452 ≤ i ∧ i < 1916 ∧ 5 ≤ (i - 452) % 24)) ∧ ¬ i = 0 → (g_222 x0 x1 d) (x0 + 1) i = d (x0 + 1) i from fun i hi => Q4 i (by omega)) i hi)) (by omega) hS_
theorem l_223_12 {E : mO × tW} {K : tK} {x0 : Int} (hx0 : mdB x0) : ∀ (n : Nat) (x1 : Int) (d : mD), Safe d → (0 ≤ x1 ∧ x1 ≤ 6) → (mpP (d (x0 + 1))) → 6 - x1 ≤ (n : Int) → ((∀ b : Int, (b < x0 + 1 ∨ x0 + 1 < b) → (lp_223_12 x0 n x1 d) b = d b) → (∀ i : Int, ((0 ≤ i ∧ i ≤ 8 ∧ ¬ i = 1) ∨ (12 ≤ i ∧ i < 420 ∧ (i - 12) % 68 ≤ 4) ∨ (420 ≤ i ∧ i < 452 ∧ i % 2 = 0) ∨ i = 9 ∨ (452 ≤ i ∧ i < 1916 ∧ 5 ≤ (i - 452) % 24)) ∧ ¬ i = 0 → (lp_223_12 x0 n x1 d) (x0 + 1) i = d (x0 + 1) i) → ((lp_223_12 x0 n x1 d) (x0 + 1) 0 = d (x0 + 1) 0) → Safe (lp_223_12 x0 n x1 d) → K (.inl none) (lp_223_12 x0 n x1 d)) → tRun E 223 (12, [.inr (11, x0), .inl (0, x1), tu], [], 0, 0, d) K := by
  intro n
  induction n with
  | zero =>
    intro x1  d hS i0 hmp hm  h
    exact ls_223_12 hx0 0 _ (fun _  _ _ _ _ m0 m1 _ => absurd m1 (by omega)) x1  d hS i0 hmp hm  h
  | succ n ih =>
    intro x1  d hS i0 hmp hm  h
    exact ls_223_12 hx0 ((n + 1 : Nat) : Int) _ (fun x1  d hS i0 hmp  m0 m1 h => ih x1  d hS i0 hmp (by omega)  h) x1  d hS i0 hmp hm  h
def g_223 (x0 : Int) (d : mD) : mD := lp_223_12 x0 (6 - 0 : Int).toNat 0 (mset d (x0 + 1) 0 ((d (x0 + 1) 0) + 1))
theorem k_223 {E : mO × tW} {K : tK} {d : mD} {x0 : Int} (hS : Safe d) (hx0 : mdB x0) (hmp : mpP (d (x0 + 1))) (ht : d (x0 + 1) 0 ≤ 1199) (h : (∀ b : Int, (b < x0 + 1 ∨ x0 + 1 < b) → (g_223 x0 d) b = d b) → (∀ i : Int, ((0 ≤ i ∧ i ≤ 8 ∧ ¬ i = 1) ∨ (12 ≤ i ∧ i < 420 ∧ (i - 12) % 68 ≤ 4) ∨ (420 ≤ i ∧ i < 452 ∧ i % 2 = 0) ∨ i = 9 ∨ (452 ≤ i ∧ i < 1916 ∧ 5 ≤ (i - 452) % 24)) ∧ ¬ i = 0 → (g_223 x0 d) (x0 + 1) i = d (x0 + 1) i) → ((g_223 x0 d) (x0 + 1) 0 = d (x0 + 1) 0 + 1) → Safe (g_223 x0 d) → K (.inl none) (g_223 x0 d)) : tCall E 223 [.inr (11, x0)] d K := by
  refine t_223_0 ?_
  have q14 := mh_0 hS hx0 _ rfl
  refine ⟨by omega, by omega, ?_⟩
  have hS5 : Safe (mset d (x0 + 1) 0 ((d (x0 + 1) 0) + 1)) := smh_0 hS hx0 _ rfl (by omega)
  refine l_223_12 hx0 (6 - 0 : Int).toNat 0  (mset d (x0 + 1) 0 ((d (x0 + 1) 0) + 1)) hS5 (by omega) (mpP.of (mh_7 hS hx0 _ rfl) (show ∀ i : Int, i = 7 ∨ (12 ≤ i ∧ i < 420 ∧ (i - 12) % 68 = 2) → (mset d (x0 + 1) 0 ((d (x0 + 1) 0) + 1)) (x0 + 1) i = d (x0 + 1) i from fun i hi => mset_ni (by omega)) hmp) (by omega) ?_
  intro F Q n0 hS_
  have q15 : (mset d (x0 + 1) 0 ((d (x0 + 1) 0) + 1)) (x0 + 1) 0 = (d (x0 + 1) 0) + 1 := mset_eq
  have y0 : g_223 x0 d = lp_223_12 x0 (6 - 0 : Int).toNat 0 (mset d (x0 + 1) 0 ((d (x0 + 1) 0) + 1)) := by simp only [g_223]
  rw [y0] at h
  exact h (fun b hb => (F b hb).trans ((show ∀ b : Int, (b < x0 + 1 ∨ x0 + 1 < b) → (mset d (x0 + 1) 0 ((d (x0 + 1) 0) + 1)) b = d b from fun b hb => mset_ne (by omega)) b hb)) (fun i hi => (Q i hi).trans ((show ∀ i : Int, ((0 ≤ i ∧ i ≤ 8 ∧ ¬ i = 1) ∨ (12 ≤ i ∧ i < 420 ∧ (i - 12) % 68 ≤ 4) ∨ (420 ≤ i ∧ i < 452 ∧ i % 2 = 0) ∨ i = 9 ∨ (452 ≤ i ∧ i < 1916 ∧ 5 ≤ (i - 452) % 24)) ∧ ¬ i = 0 → (mset d (x0 + 1) 0 ((d (x0 + 1) 0) + 1)) (x0 + 1) i = d (x0 + 1) i from fun i hi => mset_ni (by omega)) i hi)) (by omega) hS_
def st_224_17 (x0 x1 x2 : Int) (r17 : Int → Int → Int → mD → Int × mD) (x3 x4 x5 : Int) (d : mD) : Int × mD := if x5 < 24 then r17 x3 x4 (x5 + 1) (mset d (x0 + 1) (x4 + x5) 0) else (x3, mset (mset (mset (mset (mset (mset (mset d (x0 + 1) (x4 + 0) x1) (x0 + 1) (x4 + 1) x2) (x0 + 1) (x4 + 2) (d (x0 + 1) 0)) (x0 + 1) (x4 + 3) ((-1))) (x0 + 1) (((12 + (68 * x2)) + 7) + (d (x0 + 1) ((12 + (68 * x2)) + 5))) x3) (x0 + 1) ((12 + (68 * x2)) + 5) ((d (x0 + 1) ((12 + (68 * x2)) + 5)) + 1)) (x0 + 1) 9 ((d (x0 + 1) 9) + 1))
def lp_224_17 (x0 x1 x2 : Int) : Nat → Int → Int → Int → mD → Int × mD
  | 0 => st_224_17 x0 x1 x2 (fun _ _ _ d => (0, d))
  | n + 1 => st_224_17 x0 x1 x2 (lp_224_17 x0 x1 x2 n)
theorem ls_224_17 {E : mO × tW} {K : tK} {x0 x1 x2 : Int} (hx0 : mdB x0) (p1 : 0 ≤ x1 ∧ x1 ≤ 15) (p2 : 0 ≤ x2 ∧ x2 ≤ 5) (N17 : Int) (r17 : Int → Int → Int → mD → Int × mD) (ih17 : ∀ (x3 x4 x5 : Int) (d : mD), Safe d → (0 ≤ x3 ∧ x3 ≤ 60) → (x4 = 452 + 24 * x3) → (0 ≤ x5 ∧ x5 ≤ 24) → (x3 = d (x0 + 1) 9) → (d (x0 + 1) (12 + 68 * x2 + 5) ≤ 60) → 0 ≤ 24 - x5 → 24 - x5 < N17 → ((0 ≤ (r17 x3 x4 x5 d).1 ∧ (r17 x3 x4 x5 d).1 ≤ 60) → (∀ b : Int, (b < x0 + 1 ∨ x0 + 1 < b) → (r17 x3 x4 x5 d).2 b = d b) → (∀ i : Int, (0 ≤ i ∧ i ≤ 8 ∧ ¬ i = 1) ∨ (12 ≤ i ∧ i < 420 ∧ (i - 12) % 68 ≤ 4) ∨ (420 ≤ i ∧ i < 452 ∧ i % 2 = 0) → (r17 x3 x4 x5 d).2 (x0 + 1) i = d (x0 + 1) i) → Safe (r17 x3 x4 x5 d).2 → K (.inl (some (0, (r17 x3 x4 x5 d).1))) (r17 x3 x4 x5 d).2) → tRun E 224 (17, [.inr (11, x0), .inl (0, x1), .inl (0, x2), .inl (0, x3), .inl (0, x4), .inl (0, x5)], [], 0, 0, d) K) (x3 x4 x5 : Int) (d : mD) (hS : Safe d) (i0 : 0 ≤ x3 ∧ x3 ≤ 60) (i1 : x4 = 452 + 24 * x3) (i2 : 0 ≤ x5 ∧ x5 ≤ 24) (i3 : x3 = d (x0 + 1) 9) (i4 : d (x0 + 1) (12 + 68 * x2 + 5) ≤ 60) (hm : 24 - x5 ≤ N17) (h : (0 ≤ (st_224_17 x0 x1 x2 r17 x3 x4 x5 d).1 ∧ (st_224_17 x0 x1 x2 r17 x3 x4 x5 d).1 ≤ 60) → (∀ b : Int, (b < x0 + 1 ∨ x0 + 1 < b) → (st_224_17 x0 x1 x2 r17 x3 x4 x5 d).2 b = d b) → (∀ i : Int, (0 ≤ i ∧ i ≤ 8 ∧ ¬ i = 1) ∨ (12 ≤ i ∧ i < 420 ∧ (i - 12) % 68 ≤ 4) ∨ (420 ≤ i ∧ i < 452 ∧ i % 2 = 0) → (st_224_17 x0 x1 x2 r17 x3 x4 x5 d).2 (x0 + 1) i = d (x0 + 1) i) → Safe (st_224_17 x0 x1 x2 r17 x3 x4 x5 d).2 → K (.inl (some (0, (st_224_17 x0 x1 x2 r17 x3 x4 x5 d).1))) (st_224_17 x0 x1 x2 r17 x3 x4 x5 d).2) : tRun E 224 (17, [.inr (11, x0), .inl (0, x1), .inl (0, x2), .inl (0, x3), .inl (0, x4), .inl (0, x5)], [], 0, 0, d) K := by
  refine t_224_17 ?_
  refine ⟨⟨m_inR (by omega) (by omega), m_inR (by omega) (by omega)⟩, fun c0 => ?_, fun c0 => ?_⟩
  · refine ⟨by omega, ?_⟩
    have hS1 : Safe (mset d (x0 + 1) (x4 + 0) x1) := smt_0 hS hx0 x3 (x4 + 0) (by omega) (by omega) (by omega)
    refine ⟨by omega, ?_⟩
    have hS2 : Safe (mset (mset d (x0 + 1) (x4 + 0) x1) (x0 + 1) (x4 + 1) x2) := smt_1 hS1 hx0 x3 (x4 + 1) (by omega) (by omega) (by omega)
    rw [mset_ni (d := mset d (x0 + 1) (x4 + 0) x1) (a := x0 + 1) (i := x4 + 1) (v := x2) (b := x0 + 1) (j := (0 : Int)) (by omega)]
    rw [mset_ni (d := d) (a := x0 + 1) (i := x4 + 0) (v := x1) (b := x0 + 1) (j := (0 : Int)) (by omega)]
    have q1 := mh_0 hS hx0 _ rfl
    refine ⟨by omega, by omega, ?_⟩
    have hS3 : Safe (mset (mset (mset d (x0 + 1) (x4 + 0) x1) (x0 + 1) (x4 + 1) x2) (x0 + 1) (x4 + 2) (d (x0 + 1) 0)) := smt_2 hS2 hx0 x3 (x4 + 2) (by omega) (by omega) (by omega)
    refine ⟨by omega, ?_⟩
    have hS4 : Safe (mset (mset (mset (mset d (x0 + 1) (x4 + 0) x1) (x0 + 1) (x4 + 1) x2) (x0 + 1) (x4 + 2) (d (x0 + 1) 0)) (x0 + 1) (x4 + 3) ((-1))) := smt_3 hS3 hx0 x3 (x4 + 3) (by omega) (by omega) (by omega)
    refine k_177 hS4 ?_
    refine t_224_90 ?_
    rw [mset_ni (d := mset (mset (mset d (x0 + 1) (x4 + 0) x1) (x0 + 1) (x4 + 1) x2) (x0 + 1) (x4 + 2) (d (x0 + 1) 0)) (a := x0 + 1) (i := x4 + 3) (v := (-1 : Int)) (b := x0 + 1) (j := (12 + (68 * x2)) + 5) (by omega)]
    rw [mset_ni (d := mset (mset d (x0 + 1) (x4 + 0) x1) (x0 + 1) (x4 + 1) x2) (a := x0 + 1) (i := x4 + 2) (v := d (x0 + 1) 0) (b := x0 + 1) (j := (12 + (68 * x2)) + 5) (by omega)]
    rw [mset_ni (d := mset d (x0 + 1) (x4 + 0) x1) (a := x0 + 1) (i := x4 + 1) (v := x2) (b := x0 + 1) (j := (12 + (68 * x2)) + 5) (by omega)]
    rw [mset_ni (d := d) (a := x0 + 1) (i := x4 + 0) (v := x1) (b := x0 + 1) (j := (12 + (68 * x2)) + 5) (by omega)]
    have q2 := mo_5 hS hx0 x2 ((12 + (68 * x2)) + 5) (by omega) (by omega)
    refine ⟨by omega, by omega, ?_⟩
    have hS5 : Safe (mset (mset (mset (mset (mset d (x0 + 1) (x4 + 0) x1) (x0 + 1) (x4 + 1) x2) (x0 + 1) (x4 + 2) (d (x0 + 1) 0)) (x0 + 1) (x4 + 3) ((-1))) (x0 + 1) (((12 + (68 * x2)) + 7) + (d (x0 + 1) ((12 + (68 * x2)) + 5))) x3) := smo_q hS4 hx0 x2 (d (x0 + 1) ((12 + (68 * x2)) + 5)) (((12 + (68 * x2)) + 7) + (d (x0 + 1) ((12 + (68 * x2)) + 5))) (by omega) (by omega) (by omega) (by omega)
    rw [mset_ni (d := mset (mset (mset (mset d (x0 + 1) (x4 + 0) x1) (x0 + 1) (x4 + 1) x2) (x0 + 1) (x4 + 2) (d (x0 + 1) 0)) (x0 + 1) (x4 + 3) ((-1))) (a := x0 + 1) (i := ((12 + (68 * x2)) + 7) + (d (x0 + 1) ((12 + (68 * x2)) + 5))) (v := x3) (b := x0 + 1) (j := (12 + (68 * x2)) + 5) (by omega)]
    rw [mset_ni (d := mset (mset (mset d (x0 + 1) (x4 + 0) x1) (x0 + 1) (x4 + 1) x2) (x0 + 1) (x4 + 2) (d (x0 + 1) 0)) (a := x0 + 1) (i := x4 + 3) (v := (-1 : Int)) (b := x0 + 1) (j := (12 + (68 * x2)) + 5) (by omega)]
    rw [mset_ni (d := mset (mset d (x0 + 1) (x4 + 0) x1) (x0 + 1) (x4 + 1) x2) (a := x0 + 1) (i := x4 + 2) (v := d (x0 + 1) 0) (b := x0 + 1) (j := (12 + (68 * x2)) + 5) (by omega)]
    rw [mset_ni (d := mset d (x0 + 1) (x4 + 0) x1) (a := x0 + 1) (i := x4 + 1) (v := x2) (b := x0 + 1) (j := (12 + (68 * x2)) + 5) (by omega)]
    rw [mset_ni (d := d) (a := x0 + 1) (i := x4 + 0) (v := x1) (b := x0 + 1) (j := (12 + (68 * x2)) + 5) (by omega)]
    refine ⟨by omega, by omega, ?_⟩
    have hS6 : Safe (mset (mset (mset (mset (mset (mset d (x0 + 1) (x4 + 0) x1) (x0 + 1) (x4 + 1) x2) (x0 + 1) (x4 + 2) (d (x0 + 1) 0)) (x0 + 1) (x4 + 3) ((-1))) (x0 + 1) (((12 + (68 * x2)) + 7) + (d (x0 + 1) ((12 + (68 * x2)) + 5))) x3) (x0 + 1) ((12 + (68 * x2)) + 5) ((d (x0 + 1) ((12 + (68 * x2)) + 5)) + 1)) := smo_5 hS5 hx0 x2 ((12 + (68 * x2)) + 5) (by omega) (by omega) (by omega)
    rw [mset_ni (d := mset (mset (mset (mset (mset d (x0 + 1) (x4 + 0) x1) (x0 + 1) (x4 + 1) x2) (x0 + 1) (x4 + 2) (d (x0 + 1) 0)) (x0 + 1) (x4 + 3) ((-1))) (x0 + 1) (((12 + (68 * x2)) + 7) + (d (x0 + 1) ((12 + (68 * x2)) + 5))) x3) (a := x0 + 1) (i := (12 + (68 * x2)) + 5) (v := (d (x0 + 1) ((12 + (68 * x2)) + 5)) + 1) (b := x0 + 1) (j := (9 : Int)) (by omega)]
    rw [mset_ni (d := mset (mset (mset (mset d (x0 + 1) (x4 + 0) x1) (x0 + 1) (x4 + 1) x2) (x0 + 1) (x4 + 2) (d (x0 + 1) 0)) (x0 + 1) (x4 + 3) ((-1))) (a := x0 + 1) (i := ((12 + (68 * x2)) + 7) + (d (x0 + 1) ((12 + (68 * x2)) + 5))) (v := x3) (b := x0 + 1) (j := (9 : Int)) (by omega)]
    rw [mset_ni (d := mset (mset (mset d (x0 + 1) (x4 + 0) x1) (x0 + 1) (x4 + 1) x2) (x0 + 1) (x4 + 2) (d (x0 + 1) 0)) (a := x0 + 1) (i := x4 + 3) (v := (-1 : Int)) (b := x0 + 1) (j := (9 : Int)) (by omega)]
    rw [mset_ni (d := mset (mset d (x0 + 1) (x4 + 0) x1) (x0 + 1) (x4 + 1) x2) (a := x0 + 1) (i := x4 + 2) (v := d (x0 + 1) 0) (b := x0 + 1) (j := (9 : Int)) (by omega)]
    rw [mset_ni (d := mset d (x0 + 1) (x4 + 0) x1) (a := x0 + 1) (i := x4 + 1) (v := x2) (b := x0 + 1) (j := (9 : Int)) (by omega)]
    rw [mset_ni (d := d) (a := x0 + 1) (i := x4 + 0) (v := x1) (b := x0 + 1) (j := (9 : Int)) (by omega)]
    have q3 := mh_9 hS hx0 _ rfl
    refine ⟨by omega, by omega, ?_⟩
    have hS7 : Safe (mset (mset (mset (mset (mset (mset (mset d (x0 + 1) (x4 + 0) x1) (x0 + 1) (x4 + 1) x2) (x0 + 1) (x4 + 2) (d (x0 + 1) 0)) (x0 + 1) (x4 + 3) ((-1))) (x0 + 1) (((12 + (68 * x2)) + 7) + (d (x0 + 1) ((12 + (68 * x2)) + 5))) x3) (x0 + 1) ((12 + (68 * x2)) + 5) ((d (x0 + 1) ((12 + (68 * x2)) + 5)) + 1)) (x0 + 1) 9 ((d (x0 + 1) 9) + 1)) := smh_9 hS6 hx0 _ rfl (by omega)
    have y0 : st_224_17 x0 x1 x2 r17 x3 x4 x5 d = (x3, mset (mset (mset (mset (mset (mset (mset d (x0 + 1) (x4 + 0) x1) (x0 + 1) (x4 + 1) x2) (x0 + 1) (x4 + 2) (d (x0 + 1) 0)) (x0 + 1) (x4 + 3) ((-1))) (x0 + 1) (((12 + (68 * x2)) + 7) + (d (x0 + 1) ((12 + (68 * x2)) + 5))) x3) (x0 + 1) ((12 + (68 * x2)) + 5) ((d (x0 + 1) ((12 + (68 * x2)) + 5)) + 1)) (x0 + 1) 9 ((d (x0 + 1) 9) + 1)) := by simp only [st_224_17, if_neg (show ¬ x5 < 24 from Int.not_lt.mpr c0)]
    rw [y0] at h
    exact h (show 0 ≤ x3 ∧ x3 ≤ 60 from (by omega)) (show ∀ b : Int, (b < x0 + 1 ∨ x0 + 1 < b) → (mset (mset (mset (mset (mset (mset (mset d (x0 + 1) (x4 + 0) x1) (x0 + 1) (x4 + 1) x2) (x0 + 1) (x4 + 2) (d (x0 + 1) 0)) (x0 + 1) (x4 + 3) ((-1))) (x0 + 1) (((12 + (68 * x2)) + 7) + (d (x0 + 1) ((12 + (68 * x2)) + 5))) x3) (x0 + 1) ((12 + (68 * x2)) + 5) ((d (x0 + 1) ((12 + (68 * x2)) + 5)) + 1)) (x0 + 1) 9 ((d (x0 + 1) 9) + 1)) b = d b from fun b hb => (mset_ne (by omega)).trans ((mset_ne (by omega)).trans ((mset_ne (by omega)).trans ((mset_ne (by omega)).trans ((mset_ne (by omega)).trans ((mset_ne (by omega)).trans (mset_ne (by omega)))))))) (show ∀ i : Int, (0 ≤ i ∧ i ≤ 8 ∧ ¬ i = 1) ∨ (12 ≤ i ∧ i < 420 ∧ (i - 12) % 68 ≤ 4) ∨ (420 ≤ i ∧ i < 452 ∧ i % 2 = 0) → (mset (mset (mset (mset (mset (mset (mset d (x0 + 1) (x4 + 0) x1) (x0 + 1) (x4 + 1) x2) (x0 + 1) (x4 + 2) (d (x0 + 1) 0)) (x0 + 1) (x4 + 3) ((-1))) (x0 + 1) (((12 + (68 * x2)) + 7) + (d (x0 + 1) ((12 + (68 * x2)) + 5))) x3) (x0 + 1) ((12 + (68 * x2)) + 5) ((d (x0 + 1) ((12 + (68 * x2)) + 5)) + 1)) (x0 + 1) 9 ((d (x0 + 1) 9) + 1)) (x0 + 1) i = d (x0 + 1) i from fun i hi => ((((((mset_ni (by omega)).trans (mset_ni (by omega))).trans (mset_ni (by omega))).trans (mset_ni (by omega))).trans (mset_ni (by omega))).trans (mset_ni (by omega))).trans (mset_ni (by omega))) hS7
  · refine ⟨by omega, ?_⟩
    have hS8 : Safe (mset d (x0 + 1) (x4 + x5) 0) := smz hS hx0 (x4 + x5)
    have q4 : (mset d (x0 + 1) (x4 + x5) 0) (x0 + 1) 9 = d (x0 + 1) 9 := mset_ni (by omega)
    have q5 : (mset d (x0 + 1) (x4 + x5) 0) (x0 + 1) (12 + 68 * x2 + 5) = d (x0 + 1) (12 + 68 * x2 + 5) := mset_ni (by omega)
    refine ih17 x3 x4 (x5 + 1)  (mset d (x0 + 1) (x4 + x5) 0) hS8 (by omega) (by omega) (by omega) (by omega) (by omega) (by omega) (by omega) ?_
    intro e F Q hS_
    have y0 : st_224_17 x0 x1 x2 r17 x3 x4 x5 d = r17 x3 x4 (x5 + 1) (mset d (x0 + 1) (x4 + x5) 0) := by simp only [st_224_17, if_pos (show x5 < 24 from c0)]
    rw [y0] at h
    exact h e (fun b hb => (F b hb).trans ((show ∀ b : Int, (b < x0 + 1 ∨ x0 + 1 < b) → (mset d (x0 + 1) (x4 + x5) 0) b = d b from fun b hb => mset_ne (by omega)) b hb)) (fun i hi => (Q i hi).trans ((show ∀ i : Int, (0 ≤ i ∧ i ≤ 8 ∧ ¬ i = 1) ∨ (12 ≤ i ∧ i < 420 ∧ (i - 12) % 68 ≤ 4) ∨ (420 ≤ i ∧ i < 452 ∧ i % 2 = 0) → (mset d (x0 + 1) (x4 + x5) 0) (x0 + 1) i = d (x0 + 1) i from fun i hi => mset_ni (by omega)) i hi)) hS_
theorem l_224_17 {E : mO × tW} {K : tK} {x0 x1 x2 : Int} (hx0 : mdB x0) (p1 : 0 ≤ x1 ∧ x1 ≤ 15) (p2 : 0 ≤ x2 ∧ x2 ≤ 5) : ∀ (n : Nat) (x3 x4 x5 : Int) (d : mD), Safe d → (0 ≤ x3 ∧ x3 ≤ 60) → (x4 = 452 + 24 * x3) → (0 ≤ x5 ∧ x5 ≤ 24) → (x3 = d (x0 + 1) 9) → (d (x0 + 1) (12 + 68 * x2 + 5) ≤ 60) → 24 - x5 ≤ (n : Int) → ((0 ≤ (lp_224_17 x0 x1 x2 n x3 x4 x5 d).1 ∧ (lp_224_17 x0 x1 x2 n x3 x4 x5 d).1 ≤ 60) → (∀ b : Int, (b < x0 + 1 ∨ x0 + 1 < b) → (lp_224_17 x0 x1 x2 n x3 x4 x5 d).2 b = d b) → (∀ i : Int, (0 ≤ i ∧ i ≤ 8 ∧ ¬ i = 1) ∨ (12 ≤ i ∧ i < 420 ∧ (i - 12) % 68 ≤ 4) ∨ (420 ≤ i ∧ i < 452 ∧ i % 2 = 0) → (lp_224_17 x0 x1 x2 n x3 x4 x5 d).2 (x0 + 1) i = d (x0 + 1) i) → Safe (lp_224_17 x0 x1 x2 n x3 x4 x5 d).2 → K (.inl (some (0, (lp_224_17 x0 x1 x2 n x3 x4 x5 d).1))) (lp_224_17 x0 x1 x2 n x3 x4 x5 d).2) → tRun E 224 (17, [.inr (11, x0), .inl (0, x1), .inl (0, x2), .inl (0, x3), .inl (0, x4), .inl (0, x5)], [], 0, 0, d) K := by
  intro n
  induction n with
  | zero =>
    intro x3 x4 x5  d hS i0 i1 i2 i3 i4 hm  h
    exact ls_224_17 hx0 p1 p2 0 _ (fun _ _ _  _ _ _ _ _ _ _ m0 m1 _ => absurd m1 (by omega)) x3 x4 x5  d hS i0 i1 i2 i3 i4 hm  h
  | succ n ih =>
    intro x3 x4 x5  d hS i0 i1 i2 i3 i4 hm  h
    exact ls_224_17 hx0 p1 p2 ((n + 1 : Nat) : Int) _ (fun x3 x4 x5  d hS i0 i1 i2 i3 i4  m0 m1 h => ih x3 x4 x5  d hS i0 i1 i2 i3 i4 (by omega)  h) x3 x4 x5  d hS i0 i1 i2 i3 i4 hm  h
def f_224 (x0 x1 x2 : Int) (d : mD) : Int × mD := lp_224_17 x0 x1 x2 (24 - 0 : Int).toNat (d (x0 + 1) 9) (452 + (24 * (d (x0 + 1) 9))) 0 d
def v_224 (x0 x1 x2 : Int) (d : mD) : Int := (f_224 x0 x1 x2 d).1
def g_224 (x0 x1 x2 : Int) (d : mD) : mD := (f_224 x0 x1 x2 d).2
theorem k_224 {E : mO × tW} {K : tK} {d : mD} {x0 x1 x2 : Int} (hS : Safe d) (hx0 : mdB x0) (p1 : 0 ≤ x1 ∧ x1 ≤ 15) (p2 : 0 ≤ x2 ∧ x2 ≤ 5) (ht : d (x0 + 1) 9 ≤ 60) (hq : d (x0 + 1) (12 + 68 * x2 + 5) ≤ 60) (h : (0 ≤ (v_224 x0 x1 x2 d) ∧ (v_224 x0 x1 x2 d) ≤ 60) → (∀ b : Int, (b < x0 + 1 ∨ x0 + 1 < b) → (g_224 x0 x1 x2 d) b = d b) → (∀ i : Int, (0 ≤ i ∧ i ≤ 8 ∧ ¬ i = 1) ∨ (12 ≤ i ∧ i < 420 ∧ (i - 12) % 68 ≤ 4) ∨ (420 ≤ i ∧ i < 452 ∧ i % 2 = 0) → (g_224 x0 x1 x2 d) (x0 + 1) i = d (x0 + 1) i) → Safe (g_224 x0 x1 x2 d) → K (.inl (some (0, (v_224 x0 x1 x2 d)))) (g_224 x0 x1 x2 d)) : tCall E 224 [.inr (11, x0), .inl (0, x1), .inl (0, x2)] d K := by
  simp only [v_224, g_224] at h
  refine t_224_0 ?_
  refine ⟨by omega, ?_⟩
  refine k_179 hS ?_
  refine t_224_12 ?_
  have q6 := mh_9 hS hx0 _ rfl
  refine l_224_17 hx0 p1 p2 (24 - 0 : Int).toNat (d (x0 + 1) 9) (452 + (24 * (d (x0 + 1) 9))) 0  d hS (by omega) (by omega) (by omega) (by omega) (by omega) (by omega) ?_
  intro e F Q hS_
  have y0 : f_224 x0 x1 x2 d = lp_224_17 x0 x1 x2 (24 - 0 : Int).toNat (d (x0 + 1) 9) (452 + (24 * (d (x0 + 1) 9))) 0 d := by simp only [f_224]
  rw [y0] at h
  exact h e F Q hS_
def st_225_57 (x0 x1 x2 : Int) (r57 : Int → Int → Int → mD → Int) (x3 x4 x5 : Int) (d : mD) : Int := if x5 < d (x0 + 1) (x3 + 5) then (if d (x0 + 1) ((452 + (24 * (d (x0 + 1) ((x3 + 7) + x5)))) + 0) = x1 then r57 x3 (miand x4 0) (x5 + 1) d else r57 x3 (miand x4 1) (x5 + 1) d) else x4
def lp_225_57 (x0 x1 x2 : Int) : Nat → Int → Int → Int → mD → Int
  | 0 => st_225_57 x0 x1 x2 (fun _ _ _ d => 0)
  | n + 1 => st_225_57 x0 x1 x2 (lp_225_57 x0 x1 x2 n)
theorem ls_225_57 {E : mO × tW} {K : tK} {x0 x1 x2 : Int} (hx0 : mdB x0) (p1 : -2147483648 ≤ x1 ∧ x1 ≤ 2147483647) (p2 : 0 ≤ x2 ∧ x2 ≤ 5) (N57 : Int) (r57 : Int → Int → Int → mD → Int) (ih57 : ∀ (x3 x4 x5 : Int) (d : mD), Safe d → (x3 = 12 + 68 * x2) → ((0 ≤ x4 ∧ x4 ≤ 1) ∧ (x4 = 0 ∨ (d (x0 + 1) 9 ≤ 59 ∧ d (x0 + 1) (12 + 68 * x2 + 5) ≤ 19))) → (0 ≤ x5 ∧ x5 ≤ 61) → 0 ≤ 61 - x5 → 61 - x5 < N57 → (((0 ≤ (r57 x3 x4 x5 d) ∧ (r57 x3 x4 x5 d) ≤ 1) ∧ ((r57 x3 x4 x5 d) = 0 ∨ (d (x0 + 1) 9 ≤ 59 ∧ d (x0 + 1) (12 + 68 * x2 + 5) ≤ 19))) → K (.inl (some (0, (r57 x3 x4 x5 d)))) d) → tRun E 225 (57, [.inr (11, x0), .inl (0, x1), .inl (0, x2), .inl (0, x3), .inl (0, x4), .inl (0, x5)], [], 0, 0, d) K) (x3 x4 x5 : Int) (d : mD) (hS : Safe d) (i0 : x3 = 12 + 68 * x2) (i1 : (0 ≤ x4 ∧ x4 ≤ 1) ∧ (x4 = 0 ∨ (d (x0 + 1) 9 ≤ 59 ∧ d (x0 + 1) (12 + 68 * x2 + 5) ≤ 19))) (i2 : 0 ≤ x5 ∧ x5 ≤ 61) (hm : 61 - x5 ≤ N57) (h : ((0 ≤ (st_225_57 x0 x1 x2 r57 x3 x4 x5 d) ∧ (st_225_57 x0 x1 x2 r57 x3 x4 x5 d) ≤ 1) ∧ ((st_225_57 x0 x1 x2 r57 x3 x4 x5 d) = 0 ∨ (d (x0 + 1) 9 ≤ 59 ∧ d (x0 + 1) (12 + 68 * x2 + 5) ≤ 19))) → K (.inl (some (0, (st_225_57 x0 x1 x2 r57 x3 x4 x5 d)))) d) : tRun E 225 (57, [.inr (11, x0), .inl (0, x1), .inl (0, x2), .inl (0, x3), .inl (0, x4), .inl (0, x5)], [], 0, 0, d) K := by
  refine t_225_57 ?_
  have w1 := mbool x4
  have w2 : d (x0 + 1) (x3 + 5) = d (x0 + 1) (12 + 68 * x2 + 5) := by rw [i0]
  have q1 := mo_5 hS hx0 x2 (x3 + 5) (by omega) (by omega)
  refine ⟨by omega, ⟨m_inR (by omega) (by omega), m_inR (by omega) (by omega)⟩, fun c0 => ?_, fun c0 => ?_⟩
  · refine ⟨by omega, ?_⟩
    have y0 : st_225_57 x0 x1 x2 r57 x3 x4 x5 d = x4 := by simp only [st_225_57, if_neg (show ¬ x5 < d (x0 + 1) (x3 + 5) from Int.not_lt.mpr c0)]
    rw [y0] at h
    exact h (show (0 ≤ x4 ∧ x4 ≤ 1) ∧ (x4 = 0 ∨ (d (x0 + 1) 9 ≤ 59 ∧ d (x0 + 1) (12 + 68 * x2 + 5) ≤ 19)) from (by omega))
  · refine ⟨by omega, ?_⟩
    refine k_179 hS ?_
    refine t_225_91 ?_
    have q2 := mo_q hS hx0 x2 x5 ((x3 + 7) + x5) (by omega) (by omega) (by omega)
    have q3 := mt_0 hS hx0 (d (x0 + 1) ((x3 + 7) + x5)) ((452 + (24 * (d (x0 + 1) ((x3 + 7) + x5)))) + 0) (by omega) (by omega)
    refine ⟨by omega, ⟨m_inR (by omega) (by omega), m_inR (by omega) (by omega)⟩, fun c1 => ?_, fun c1 => ?_⟩
    · have q4 := miand_r x4 0 (by decide) (by decide)
      have q5 := mbool x4
      refine ih57 x3 (miand x4 0) (x5 + 1)  d hS (by omega) (by omega) (by omega) (by omega) (by omega) ?_
      intro e
      have y0 : st_225_57 x0 x1 x2 r57 x3 x4 x5 d = r57 x3 (miand x4 0) (x5 + 1) d := by simp only [st_225_57, if_pos (show x5 < d (x0 + 1) (x3 + 5) from c0), if_pos (show d (x0 + 1) ((452 + (24 * (d (x0 + 1) ((x3 + 7) + x5)))) + 0) = x1 from c1)]
      rw [y0] at h
      exact h e
    · have q6 := miand_r x4 1 (by decide) (by decide)
      have q7 := mbool x4
      refine ih57 x3 (miand x4 1) (x5 + 1)  d hS (by omega) (by omega) (by omega) (by omega) (by omega) ?_
      intro e
      have y0 : st_225_57 x0 x1 x2 r57 x3 x4 x5 d = r57 x3 (miand x4 1) (x5 + 1) d := by simp only [st_225_57, if_pos (show x5 < d (x0 + 1) (x3 + 5) from c0), if_neg (show ¬ d (x0 + 1) ((452 + (24 * (d (x0 + 1) ((x3 + 7) + x5)))) + 0) = x1 from c1)]
      rw [y0] at h
      exact h e
theorem l_225_57 {E : mO × tW} {K : tK} {x0 x1 x2 : Int} (hx0 : mdB x0) (p1 : -2147483648 ≤ x1 ∧ x1 ≤ 2147483647) (p2 : 0 ≤ x2 ∧ x2 ≤ 5) : ∀ (n : Nat) (x3 x4 x5 : Int) (d : mD), Safe d → (x3 = 12 + 68 * x2) → ((0 ≤ x4 ∧ x4 ≤ 1) ∧ (x4 = 0 ∨ (d (x0 + 1) 9 ≤ 59 ∧ d (x0 + 1) (12 + 68 * x2 + 5) ≤ 19))) → (0 ≤ x5 ∧ x5 ≤ 61) → 61 - x5 ≤ (n : Int) → (((0 ≤ (lp_225_57 x0 x1 x2 n x3 x4 x5 d) ∧ (lp_225_57 x0 x1 x2 n x3 x4 x5 d) ≤ 1) ∧ ((lp_225_57 x0 x1 x2 n x3 x4 x5 d) = 0 ∨ (d (x0 + 1) 9 ≤ 59 ∧ d (x0 + 1) (12 + 68 * x2 + 5) ≤ 19))) → K (.inl (some (0, (lp_225_57 x0 x1 x2 n x3 x4 x5 d)))) d) → tRun E 225 (57, [.inr (11, x0), .inl (0, x1), .inl (0, x2), .inl (0, x3), .inl (0, x4), .inl (0, x5)], [], 0, 0, d) K := by
  intro n
  induction n with
  | zero =>
    intro x3 x4 x5  d hS i0 i1 i2 hm  h
    exact ls_225_57 hx0 p1 p2 0 _ (fun _ _ _  _ _ _ _ _ m0 m1 _ => absurd m1 (by omega)) x3 x4 x5  d hS i0 i1 i2 hm  h
  | succ n ih =>
    intro x3 x4 x5  d hS i0 i1 i2 hm  h
    exact ls_225_57 hx0 p1 p2 ((n + 1 : Nat) : Int) _ (fun x3 x4 x5  d hS i0 i1 i2  m0 m1 h => ih x3 x4 x5  d hS i0 i1 i2 (by omega)  h) x3 x4 x5  d hS i0 i1 i2 hm  h
def v_225 (x0 x1 x2 : Int) (d : mD) : Int := if d (x0 + 1) 9 < 60 then (if d (x0 + 1) ((12 + (68 * x2)) + 4) = 0 then lp_225_57 x0 x1 x2 (61 - 0 : Int).toNat (12 + (68 * x2)) 0 0 d else if d (x0 + 1) ((12 + (68 * x2)) + 5) < d (x0 + 1) ((12 + (68 * x2)) + 3) then lp_225_57 x0 x1 x2 (61 - 0 : Int).toNat (12 + (68 * x2)) 1 0 d else lp_225_57 x0 x1 x2 (61 - 0 : Int).toNat (12 + (68 * x2)) 0 0 d) else lp_225_57 x0 x1 x2 (61 - 0 : Int).toNat (12 + (68 * x2)) 0 0 d
theorem k_225 {E : mO × tW} {K : tK} {d : mD} {x0 x1 x2 : Int} (hS : Safe d) (hx0 : mdB x0) (p1 : -2147483648 ≤ x1 ∧ x1 ≤ 2147483647) (p2 : 0 ≤ x2 ∧ x2 ≤ 5) (h : ((0 ≤ (v_225 x0 x1 x2 d) ∧ (v_225 x0 x1 x2 d) ≤ 1) ∧ ((v_225 x0 x1 x2 d) = 0 ∨ (d (x0 + 1) 9 ≤ 59 ∧ d (x0 + 1) (12 + 68 * x2 + 5) ≤ 19))) → K (.inl (some (0, (v_225 x0 x1 x2 d)))) d) : tCall E 225 [.inr (11, x0), .inl (0, x1), .inl (0, x2)] d K := by
  refine t_225_0 ?_
  refine k_177 hS ?_
  refine t_225_4 ?_
  have q8 := mh_9 hS hx0 _ rfl
  refine ⟨by omega, ⟨m_inR (by omega) (by omega), m_inR (by omega) (by omega)⟩, fun c0 => ?_, fun c0 => ?_⟩
  · refine l_225_57 hx0 p1 p2 (61 - 0 : Int).toNat (12 + (68 * x2)) 0 0  d hS (by omega) (by omega) (by omega) (by omega) ?_
    intro e
    have y0 : v_225 x0 x1 x2 d = lp_225_57 x0 x1 x2 (61 - 0 : Int).toNat (12 + (68 * x2)) 0 0 d := by simp only [v_225, if_neg (show ¬ d (x0 + 1) 9 < 60 from Int.not_lt.mpr c0)]
    rw [y0] at h
    exact h e
  · have q9 := mo_4 hS hx0 x2 ((12 + (68 * x2)) + 4) (by omega) (by omega)
    refine ⟨by omega, m_inR (by omega) (by omega), fun c1 => ?_, fun c1 => ?_⟩
    · refine l_225_57 hx0 p1 p2 (61 - 0 : Int).toNat (12 + (68 * x2)) 0 0  d hS (by omega) (by omega) (by omega) (by omega) ?_
      intro e
      have y0 : v_225 x0 x1 x2 d = lp_225_57 x0 x1 x2 (61 - 0 : Int).toNat (12 + (68 * x2)) 0 0 d := by simp only [v_225, if_pos (show d (x0 + 1) 9 < 60 from c0), if_pos (show d (x0 + 1) ((12 + (68 * x2)) + 4) = 0 from c1)]
      rw [y0] at h
      exact h e
    · have q10 := mo_5 hS hx0 x2 ((12 + (68 * x2)) + 5) (by omega) (by omega)
      have q11 := mo_3 hS hx0 x2 ((12 + (68 * x2)) + 3) (by omega) (by omega)
      refine ⟨by omega, by omega, ⟨m_inR (by omega) (by omega), m_inR (by omega) (by omega)⟩, fun c2 => ?_, fun c2 => ?_⟩
      · refine l_225_57 hx0 p1 p2 (61 - 0 : Int).toNat (12 + (68 * x2)) 0 0  d hS (by omega) (by omega) (by omega) (by omega) ?_
        intro e
        have y0 : v_225 x0 x1 x2 d = lp_225_57 x0 x1 x2 (61 - 0 : Int).toNat (12 + (68 * x2)) 0 0 d := by simp only [v_225, if_pos (show d (x0 + 1) 9 < 60 from c0), if_neg (show ¬ d (x0 + 1) ((12 + (68 * x2)) + 4) = 0 from c1), if_neg (show ¬ d (x0 + 1) ((12 + (68 * x2)) + 5) < d (x0 + 1) ((12 + (68 * x2)) + 3) from Int.not_lt.mpr c2)]
        rw [y0] at h
        exact h e
      · refine l_225_57 hx0 p1 p2 (61 - 0 : Int).toNat (12 + (68 * x2)) 1 0  d hS (by omega) (by omega) (by omega) (by omega) ?_
        intro e
        have y0 : v_225 x0 x1 x2 d = lp_225_57 x0 x1 x2 (61 - 0 : Int).toNat (12 + (68 * x2)) 1 0 d := by simp only [v_225, if_pos (show d (x0 + 1) 9 < 60 from c0), if_neg (show ¬ d (x0 + 1) ((12 + (68 * x2)) + 4) = 0 from c1), if_pos (show d (x0 + 1) ((12 + (68 * x2)) + 5) < d (x0 + 1) ((12 + (68 * x2)) + 3) from c2)]
        rw [y0] at h
        exact h e
def v_226 (x0 x1 x2 : Int) (d : mD) : Int := v_224 x0 x1 x2 d
def g_226 (x0 x1 x2 : Int) (d : mD) : mD := g_224 x0 x1 x2 d
theorem k_226 {E : mO × tW} {K : tK} {d : mD} {x0 x1 x2 : Int} (hS : Safe d) (hx0 : mdB x0) (p1 : 0 ≤ x1 ∧ x1 ≤ 15) (p2 : 0 ≤ x2 ∧ x2 ≤ 5) (ht : d (x0 + 1) 9 ≤ 60) (hq : d (x0 + 1) (12 + 68 * x2 + 5) ≤ 60) (h : (0 ≤ (v_226 x0 x1 x2 d) ∧ (v_226 x0 x1 x2 d) ≤ 60) → (∀ b : Int, (b < x0 + 1 ∨ x0 + 1 < b) → (g_226 x0 x1 x2 d) b = d b) → (∀ i : Int, (0 ≤ i ∧ i ≤ 8 ∧ ¬ i = 1) ∨ (12 ≤ i ∧ i < 420 ∧ (i - 12) % 68 ≤ 4) ∨ (420 ≤ i ∧ i < 452 ∧ i % 2 = 0) → (g_226 x0 x1 x2 d) (x0 + 1) i = d (x0 + 1) i) → Safe (g_226 x0 x1 x2 d) → K (.inl (some (0, (v_226 x0 x1 x2 d)))) (g_226 x0 x1 x2 d)) : tCall E 226 [.inr (11, x0), .inl (0, x1), .inl (0, x2)] d K := by
  refine t_226_0 ?_
  refine k_224 hS hx0 (by omega) (by omega) (by omega) (by omega) (fun e1 F1 Q1 hS1 => ?_)
  refine t_226_6 ?_
  have y0 : v_226 x0 x1 x2 d = v_224 x0 x1 x2 d := by simp only [v_226]
  have y1 : g_226 x0 x1 x2 d = g_224 x0 x1 x2 d := by simp only [g_226]
  rw [y0] at h
  rw [y1] at h
  exact h (show 0 ≤ (v_224 x0 x1 x2 d) ∧ (v_224 x0 x1 x2 d) ≤ 60 from (by omega)) (show ∀ b : Int, (b < x0 + 1 ∨ x0 + 1 < b) → (g_224 x0 x1 x2 d) b = d b from fun b hb => F1 b (by omega)) (show ∀ i : Int, (0 ≤ i ∧ i ≤ 8 ∧ ¬ i = 1) ∨ (12 ≤ i ∧ i < 420 ∧ (i - 12) % 68 ≤ 4) ∨ (420 ≤ i ∧ i < 452 ∧ i % 2 = 0) → (g_224 x0 x1 x2 d) (x0 + 1) i = d (x0 + 1) i from fun i hi => Q1 i (by omega)) hS1
def v_227 (x0 x1 : Int) (d : mD) : Int := if d (x0 + 1) ((452 + (24 * x1)) + 4) = 1 then (if d (x0 + 1) ((452 + (24 * x1)) + 5) = 0 then 1 else 0) else 0
theorem k_227 {E : mO × tW} {K : tK} {d : mD} {x0 x1 : Int} (hS : Safe d) (hx0 : mdB x0) (p1 : 0 ≤ x1 ∧ x1 ≤ 60) (h : (0 ≤ (v_227 x0 x1 d) ∧ (v_227 x0 x1 d) ≤ 1) → K (.inl (some (0, (v_227 x0 x1 d)))) d) : tCall E 227 [.inr (11, x0), .inl (0, x1)] d K := by
  refine t_227_0 ?_
  refine k_179 hS ?_
  refine t_227_8 ?_
  have q1 := mt_4 hS hx0 x1 ((452 + (24 * x1)) + 4) (by omega) (by omega)
  refine ⟨by omega, ⟨m_inR (by omega) (by omega), m_inR (by omega) (by omega)⟩, fun c0 => ?_, fun c0 => ?_⟩
  · refine ⟨by omega, ?_⟩
    have y0 : v_227 x0 x1 d = 0 := by simp only [v_227, if_neg (show ¬ d (x0 + 1) ((452 + (24 * x1)) + 4) = 1 from c0)]
    rw [y0] at h
    exact h (show 0 ≤ ((0 : Int)) ∧ ((0 : Int)) ≤ 1 from (by omega))
  · refine k_179 hS ?_
    refine t_227_23 ?_
    have q2 := mt_5 hS hx0 x1 ((452 + (24 * x1)) + 5) (by omega) (by omega)
    refine ⟨by omega, m_inR (by omega) (by omega), fun c1 => ?_, fun c1 => ?_⟩
    · refine ⟨by omega, ?_⟩
      have y0 : v_227 x0 x1 d = 0 := by simp only [v_227, if_pos (show d (x0 + 1) ((452 + (24 * x1)) + 4) = 1 from c0), if_neg (show ¬ d (x0 + 1) ((452 + (24 * x1)) + 5) = 0 from c1)]
      rw [y0] at h
      exact h (show 0 ≤ ((0 : Int)) ∧ ((0 : Int)) ≤ 1 from (by omega))
    · refine ⟨by omega, ?_⟩
      have y0 : v_227 x0 x1 d = 1 := by simp only [v_227, if_pos (show d (x0 + 1) ((452 + (24 * x1)) + 4) = 1 from c0), if_pos (show d (x0 + 1) ((452 + (24 * x1)) + 5) = 0 from c1)]
      rw [y0] at h
      exact h (show 0 ≤ ((1 : Int)) ∧ ((1 : Int)) ≤ 1 from (by omega))
def mwP (f : Int → Int) : Prop := ∀ t, 0 ≤ t → t ≤ 60 → f (452 + 24 * t + 6) = 1 ∨ f (452 + 24 * t + 7) ≤ 2
theorem mwP.of {f g : Int → Int} (Q : ∀ i : Int, 452 ≤ i ∧ i < 1916 ∧ ((i - 452) % 24 = 6 ∨ (i - 452) % 24 = 7) → f i = g i) (h : mwP g) : mwP f := by
  intro t t0 t1
  rw [Q (452 + 24 * t + 6) (by omega), Q (452 + 24 * t + 7) (by omega)]
  exact h t t0 t1
theorem mwP.eq {f g : Int → Int} (e : f = g) (h : mwP g) : mwP f := e ▸ h
theorem mwP.ne {d : mD} {x i v : Int} (e : ∀ t, 0 ≤ t → t ≤ 60 → i ≠ 452 + 24 * t + 6 ∧ i ≠ 452 + 24 * t + 7) (h : mwP (d x)) : mwP ((mset d x i v) x) := by
  intro t t0 t1
  have := e t t0 t1
  rw [mset_ni (show 452 + 24 * t + 6 ≠ i by omega), mset_ni (show 452 + 24 * t + 7 ≠ i by omega)]
  exact h t t0 t1
theorem mwP.p6 {d : mD} {x i : Int} (e : (i - 452) % 24 = 6) (h : mwP (d x)) : mwP ((mset d x i 1) x) := by
  intro t t0 t1
  rw [mset_ni (show 452 + 24 * t + 7 ≠ i by omega)]
  by_cases c : 452 + 24 * t + 6 = i
  · left; exact mset_e2 c
  · rw [mset_ni c]; exact h t t0 t1
theorem mwP.p7 {d : mD} {x i v : Int} (e : (i - 452) % 24 = 7) (hv : v ≤ 2) (h : mwP (d x)) : mwP ((mset d x i v) x) := by
  intro t t0 t1
  rw [mset_ni (show 452 + 24 * t + 6 ≠ i by omega)]
  by_cases c : 452 + 24 * t + 7 = i
  · right; rw [mset_e2 c]; exact hv
  · rw [mset_ni c]; exact h t t0 t1
theorem mwP.p67 {d : mD} {x i j v : Int} (e : (i - 452) % 24 = 7) (e2 : j + 1 = i) (h : mwP (d x)) : mwP ((mset (mset d x i v) x j 1) x) := by
  intro t t0 t1
  by_cases c : 452 + 24 * t + 6 = j
  · left; exact mset_e2 c
  · rw [mset_ni c, mset_ni (show 452 + 24 * t + 7 ≠ j by omega), mset_ni (show 452 + 24 * t + 6 ≠ i by omega), mset_ni (show 452 + 24 * t + 7 ≠ i by omega)]
    exact h t t0 t1
def v_228 (x0 x1 : Int) (d : mD) : Int := if (0 : Int) < d (x0 + 1) 3 then 0 else v_218 x0 x1 (mset (mset d (x0 + 1) ((452 + (24 * x1)) + 5) 1) (x0 + 1) ((452 + (24 * x1)) + 6) 1)
def g_228 (x0 x1 : Int) (d : mD) : mD := if (0 : Int) < d (x0 + 1) 3 then mset d (x0 + 1) ((452 + (24 * x1)) + 5) 1 else g_218 x0 x1 (mset (mset d (x0 + 1) ((452 + (24 * x1)) + 5) 1) (x0 + 1) ((452 + (24 * x1)) + 6) 1)
theorem k_228 {E : mO × tW} {K : tK} {d : mD} {x0 x1 : Int} (hS : Safe d) (hx0 : mdB x0) (p1 : 0 ≤ x1 ∧ x1 ≤ 60) (hmp : mpP (d (x0 + 1))) (hmw : mwP (d (x0 + 1))) (h : (0 ≤ (v_228 x0 x1 d) ∧ (v_228 x0 x1 d) ≤ 1400) → (∀ b : Int, (b < x0 + 1 ∨ x0 + 1 < b) → (g_228 x0 x1 d) b = d b) → (∀ i : Int, (0 ≤ i ∧ i ≤ 9) ∨ (11 ≤ i ∧ i < 452) → (g_228 x0 x1 d) (x0 + 1) i = d (x0 + 1) i) → mpP ((g_228 x0 x1 d) (x0 + 1)) → mwP ((g_228 x0 x1 d) (x0 + 1)) → Safe (g_228 x0 x1 d) → K (.inl (some (0, (v_228 x0 x1 d)))) (g_228 x0 x1 d)) : tCall E 228 [.inr (11, x0), .inl (0, x1)] d K := by
  refine t_228_0 ?_
  refine k_179 hS ?_
  refine t_228_8 ?_
  refine ⟨by omega, ?_⟩
  have hS1 : Safe (mset d (x0 + 1) ((452 + (24 * x1)) + 5) 1) := smt_5 hS hx0 x1 ((452 + (24 * x1)) + 5) (by omega) (by omega) (by omega)
  rw [mset_ni (d := d) (a := x0 + 1) (i := (452 + (24 * x1)) + 5) (v := (1 : Int)) (b := x0 + 1) (j := (3 : Int)) (by omega)]
  have q1 := mh_3 hS hx0 _ rfl
  refine ⟨by omega, m_inR (by omega) (by omega), fun c0 => ?_, fun c0 => ?_⟩
  · refine k_179 hS1 ?_
    refine t_228_31 ?_
    refine ⟨by omega, ?_⟩
    have hS2 : Safe (mset (mset d (x0 + 1) ((452 + (24 * x1)) + 5) 1) (x0 + 1) ((452 + (24 * x1)) + 6) 1) := smt_6 hS1 hx0 x1 ((452 + (24 * x1)) + 6) (by omega) (by omega) (by omega)
    refine k_218 hS2 hx0 (by omega) (fun e1 F1 Q1 hS3 => ?_)
    refine t_228_41 ?_
    have y0 : v_228 x0 x1 d = v_218 x0 x1 (mset (mset d (x0 + 1) ((452 + (24 * x1)) + 5) 1) (x0 + 1) ((452 + (24 * x1)) + 6) 1) := by simp only [v_228, if_neg (show ¬ (0 : Int) < d (x0 + 1) 3 from Int.not_lt.mpr c0)]
    have y1 : g_228 x0 x1 d = g_218 x0 x1 (mset (mset d (x0 + 1) ((452 + (24 * x1)) + 5) 1) (x0 + 1) ((452 + (24 * x1)) + 6) 1) := by simp only [g_228, if_neg (show ¬ (0 : Int) < d (x0 + 1) 3 from Int.not_lt.mpr c0)]
    rw [y0] at h
    rw [y1] at h
    exact h (show 0 ≤ (v_218 x0 x1 (mset (mset d (x0 + 1) ((452 + (24 * x1)) + 5) 1) (x0 + 1) ((452 + (24 * x1)) + 6) 1)) ∧ (v_218 x0 x1 (mset (mset d (x0 + 1) ((452 + (24 * x1)) + 5) 1) (x0 + 1) ((452 + (24 * x1)) + 6) 1)) ≤ 1400 from (by omega)) (show ∀ b : Int, (b < x0 + 1 ∨ x0 + 1 < b) → (g_218 x0 x1 (mset (mset d (x0 + 1) ((452 + (24 * x1)) + 5) 1) (x0 + 1) ((452 + (24 * x1)) + 6) 1)) b = d b from fun b hb => (F1 b (by omega)).trans ((mset_ne (by omega)).trans (mset_ne (by omega)))) (show ∀ i : Int, (0 ≤ i ∧ i ≤ 9) ∨ (11 ≤ i ∧ i < 452) → (g_218 x0 x1 (mset (mset d (x0 + 1) ((452 + (24 * x1)) + 5) 1) (x0 + 1) ((452 + (24 * x1)) + 6) 1)) (x0 + 1) i = d (x0 + 1) i from fun i hi => ((Q1 i (by omega)).trans (mset_ni (by omega))).trans (mset_ni (by omega))) (mpP.of (mh_7 hS hx0 _ rfl) (show ∀ i : Int, i = 7 ∨ (12 ≤ i ∧ i < 420 ∧ (i - 12) % 68 = 2) → (g_218 x0 x1 (mset (mset d (x0 + 1) ((452 + (24 * x1)) + 5) 1) (x0 + 1) ((452 + (24 * x1)) + 6) 1)) (x0 + 1) i = d (x0 + 1) i from fun i hi => ((Q1 i (by omega)).trans (mset_ni (by omega))).trans (mset_ni (by omega))) hmp) (mwP.of (fun i hi => Q1 i (by omega)) (mwP.p6 (by omega) (mwP.ne (fun t t0 t1 => by omega) hmw))) hS3
  · have y0 : v_228 x0 x1 d = 0 := by simp only [v_228, if_pos (show (0 : Int) < d (x0 + 1) 3 from c0)]
    have y1 : g_228 x0 x1 d = mset d (x0 + 1) ((452 + (24 * x1)) + 5) 1 := by simp only [g_228, if_pos (show (0 : Int) < d (x0 + 1) 3 from c0)]
    rw [y0] at h
    rw [y1] at h
    exact h (show 0 ≤ ((0 : Int)) ∧ ((0 : Int)) ≤ 1400 from (by omega)) (show ∀ b : Int, (b < x0 + 1 ∨ x0 + 1 < b) → (mset d (x0 + 1) ((452 + (24 * x1)) + 5) 1) b = d b from fun b hb => mset_ne (by omega)) (show ∀ i : Int, (0 ≤ i ∧ i ≤ 9) ∨ (11 ≤ i ∧ i < 452) → (mset d (x0 + 1) ((452 + (24 * x1)) + 5) 1) (x0 + 1) i = d (x0 + 1) i from fun i hi => mset_ni (by omega)) (mpP.of (mh_7 hS hx0 _ rfl) (show ∀ i : Int, i = 7 ∨ (12 ≤ i ∧ i < 420 ∧ (i - 12) % 68 = 2) → (mset d (x0 + 1) ((452 + (24 * x1)) + 5) 1) (x0 + 1) i = d (x0 + 1) i from fun i hi => mset_ni (by omega)) hmp) (mwP.ne (fun t t0 t1 => by omega) hmw) hS1
def v_235 (x0 x1 x2 : Int) (d : mD) : Int := if (d (x0 + 1) ((452 + (24 * x1)) + 7)) + 1 < d (x0 + 1) 3 then 0 else v_218 x0 x1 (mset (mset (mset d (x0 + 1) (((452 + (24 * x1)) + 8) + x2) ((d (x0 + 1) 0) + 1)) (x0 + 1) ((452 + (24 * x1)) + 7) ((d (x0 + 1) ((452 + (24 * x1)) + 7)) + 1)) (x0 + 1) ((452 + (24 * x1)) + 6) 1)
def g_235 (x0 x1 x2 : Int) (d : mD) : mD := if (d (x0 + 1) ((452 + (24 * x1)) + 7)) + 1 < d (x0 + 1) 3 then mset (mset d (x0 + 1) (((452 + (24 * x1)) + 8) + x2) ((d (x0 + 1) 0) + 1)) (x0 + 1) ((452 + (24 * x1)) + 7) ((d (x0 + 1) ((452 + (24 * x1)) + 7)) + 1) else g_218 x0 x1 (mset (mset (mset d (x0 + 1) (((452 + (24 * x1)) + 8) + x2) ((d (x0 + 1) 0) + 1)) (x0 + 1) ((452 + (24 * x1)) + 7) ((d (x0 + 1) ((452 + (24 * x1)) + 7)) + 1)) (x0 + 1) ((452 + (24 * x1)) + 6) 1)
theorem k_235 {E : mO × tW} {K : tK} {d : mD} {x0 x1 x2 : Int} (hS : Safe d) (hx0 : mdB x0) (p1 : 0 ≤ x1 ∧ x1 ≤ 60) (p2 : 0 ≤ x2 ∧ x2 ≤ 15) (hmp : mpP (d (x0 + 1))) (hmw : mwP (d (x0 + 1))) (hm : d (x0 + 1) (452 + 24 * x1 + 6) = 0) (h : (0 ≤ (v_235 x0 x1 x2 d) ∧ (v_235 x0 x1 x2 d) ≤ 1400) → (∀ b : Int, (b < x0 + 1 ∨ x0 + 1 < b) → (g_235 x0 x1 x2 d) b = d b) → (∀ i : Int, (0 ≤ i ∧ i ≤ 9) ∨ (11 ≤ i ∧ i < 452) → (g_235 x0 x1 x2 d) (x0 + 1) i = d (x0 + 1) i) → mpP ((g_235 x0 x1 x2 d) (x0 + 1)) → mwP ((g_235 x0 x1 x2 d) (x0 + 1)) → Safe (g_235 x0 x1 x2 d) → K (.inl (some (0, (v_235 x0 x1 x2 d)))) (g_235 x0 x1 x2 d)) : tCall E 235 [.inr (11, x0), .inl (0, x1), .inl (0, x2)] d K := by
  refine t_235_0 ?_
  have w1 := hmw x1 (by omega) (by omega)
  have w2 := mh_3 hS hx0 _ rfl
  refine k_179 hS ?_
  refine t_235_4 ?_
  have q1 := mh_0 hS hx0 _ rfl
  refine ⟨by omega, by omega, ?_⟩
  have hS1 : Safe (mset d (x0 + 1) (((452 + (24 * x1)) + 8) + x2) ((d (x0 + 1) 0) + 1)) := smt_w hS hx0 x1 x2 (((452 + (24 * x1)) + 8) + x2) (by omega) (by omega) (by omega) (by omega)
  rw [mset_ni (d := d) (a := x0 + 1) (i := ((452 + (24 * x1)) + 8) + x2) (v := (d (x0 + 1) 0) + 1) (b := x0 + 1) (j := (452 + (24 * x1)) + 7) (by omega)]
  have q2 := mt_7 hS hx0 x1 ((452 + (24 * x1)) + 7) (by omega) (by omega)
  refine ⟨by omega, by omega, ?_⟩
  have hS2 : Safe (mset (mset d (x0 + 1) (((452 + (24 * x1)) + 8) + x2) ((d (x0 + 1) 0) + 1)) (x0 + 1) ((452 + (24 * x1)) + 7) ((d (x0 + 1) ((452 + (24 * x1)) + 7)) + 1)) := smt_7 hS1 hx0 x1 ((452 + (24 * x1)) + 7) (by omega) (by omega) (by omega)
  rw [mset_eq (d := mset d (x0 + 1) (((452 + (24 * x1)) + 8) + x2) ((d (x0 + 1) 0) + 1)) (a := x0 + 1) (i := (452 + (24 * x1)) + 7) (v := (d (x0 + 1) ((452 + (24 * x1)) + 7)) + 1)]
  rw [mset_ni (d := mset d (x0 + 1) (((452 + (24 * x1)) + 8) + x2) ((d (x0 + 1) 0) + 1)) (a := x0 + 1) (i := (452 + (24 * x1)) + 7) (v := (d (x0 + 1) ((452 + (24 * x1)) + 7)) + 1) (b := x0 + 1) (j := (3 : Int)) (by omega)]
  rw [mset_ni (d := d) (a := x0 + 1) (i := ((452 + (24 * x1)) + 8) + x2) (v := (d (x0 + 1) 0) + 1) (b := x0 + 1) (j := (3 : Int)) (by omega)]
  have q3 := mh_3 hS hx0 _ rfl
  refine ⟨by omega, by omega, ⟨m_inR (by omega) (by omega), m_inR (by omega) (by omega)⟩, fun c0 => ?_, fun c0 => ?_⟩
  · refine ⟨by omega, ?_⟩
    have hS3 : Safe (mset (mset (mset d (x0 + 1) (((452 + (24 * x1)) + 8) + x2) ((d (x0 + 1) 0) + 1)) (x0 + 1) ((452 + (24 * x1)) + 7) ((d (x0 + 1) ((452 + (24 * x1)) + 7)) + 1)) (x0 + 1) ((452 + (24 * x1)) + 6) 1) := smt_6 hS2 hx0 x1 ((452 + (24 * x1)) + 6) (by omega) (by omega) (by omega)
    refine k_218 hS3 hx0 (by omega) (fun e1 F1 Q1 hS4 => ?_)
    refine t_235_72 ?_
    have y0 : v_235 x0 x1 x2 d = v_218 x0 x1 (mset (mset (mset d (x0 + 1) (((452 + (24 * x1)) + 8) + x2) ((d (x0 + 1) 0) + 1)) (x0 + 1) ((452 + (24 * x1)) + 7) ((d (x0 + 1) ((452 + (24 * x1)) + 7)) + 1)) (x0 + 1) ((452 + (24 * x1)) + 6) 1) := by simp only [v_235, if_neg (show ¬ (d (x0 + 1) ((452 + (24 * x1)) + 7)) + 1 < d (x0 + 1) 3 from Int.not_lt.mpr c0)]
    have y1 : g_235 x0 x1 x2 d = g_218 x0 x1 (mset (mset (mset d (x0 + 1) (((452 + (24 * x1)) + 8) + x2) ((d (x0 + 1) 0) + 1)) (x0 + 1) ((452 + (24 * x1)) + 7) ((d (x0 + 1) ((452 + (24 * x1)) + 7)) + 1)) (x0 + 1) ((452 + (24 * x1)) + 6) 1) := by simp only [g_235, if_neg (show ¬ (d (x0 + 1) ((452 + (24 * x1)) + 7)) + 1 < d (x0 + 1) 3 from Int.not_lt.mpr c0)]
    rw [y0] at h
    rw [y1] at h
    exact h (show 0 ≤ (v_218 x0 x1 (mset (mset (mset d (x0 + 1) (((452 + (24 * x1)) + 8) + x2) ((d (x0 + 1) 0) + 1)) (x0 + 1) ((452 + (24 * x1)) + 7) ((d (x0 + 1) ((452 + (24 * x1)) + 7)) + 1)) (x0 + 1) ((452 + (24 * x1)) + 6) 1)) ∧ (v_218 x0 x1 (mset (mset (mset d (x0 + 1) (((452 + (24 * x1)) + 8) + x2) ((d (x0 + 1) 0) + 1)) (x0 + 1) ((452 + (24 * x1)) + 7) ((d (x0 + 1) ((452 + (24 * x1)) + 7)) + 1)) (x0 + 1) ((452 + (24 * x1)) + 6) 1)) ≤ 1400 from (by omega)) (show ∀ b : Int, (b < x0 + 1 ∨ x0 + 1 < b) → (g_218 x0 x1 (mset (mset (mset d (x0 + 1) (((452 + (24 * x1)) + 8) + x2) ((d (x0 + 1) 0) + 1)) (x0 + 1) ((452 + (24 * x1)) + 7) ((d (x0 + 1) ((452 + (24 * x1)) + 7)) + 1)) (x0 + 1) ((452 + (24 * x1)) + 6) 1)) b = d b from fun b hb => (F1 b (by omega)).trans ((mset_ne (by omega)).trans ((mset_ne (by omega)).trans (mset_ne (by omega))))) (show ∀ i : Int, (0 ≤ i ∧ i ≤ 9) ∨ (11 ≤ i ∧ i < 452) → (g_218 x0 x1 (mset (mset (mset d (x0 + 1) (((452 + (24 * x1)) + 8) + x2) ((d (x0 + 1) 0) + 1)) (x0 + 1) ((452 + (24 * x1)) + 7) ((d (x0 + 1) ((452 + (24 * x1)) + 7)) + 1)) (x0 + 1) ((452 + (24 * x1)) + 6) 1)) (x0 + 1) i = d (x0 + 1) i from fun i hi => (((Q1 i (by omega)).trans (mset_ni (by omega))).trans (mset_ni (by omega))).trans (mset_ni (by omega))) (mpP.of (mh_7 hS hx0 _ rfl) (show ∀ i : Int, i = 7 ∨ (12 ≤ i ∧ i < 420 ∧ (i - 12) % 68 = 2) → (g_218 x0 x1 (mset (mset (mset d (x0 + 1) (((452 + (24 * x1)) + 8) + x2) ((d (x0 + 1) 0) + 1)) (x0 + 1) ((452 + (24 * x1)) + 7) ((d (x0 + 1) ((452 + (24 * x1)) + 7)) + 1)) (x0 + 1) ((452 + (24 * x1)) + 6) 1)) (x0 + 1) i = d (x0 + 1) i from fun i hi => (((Q1 i (by omega)).trans (mset_ni (by omega))).trans (mset_ni (by omega))).trans (mset_ni (by omega))) hmp) (mwP.of (fun i hi => Q1 i (by omega)) (mwP.p67 (by omega) (by omega) (mwP.ne (fun t t0 t1 => by omega) hmw))) hS4
  · have y0 : v_235 x0 x1 x2 d = 0 := by simp only [v_235, if_pos (show (d (x0 + 1) ((452 + (24 * x1)) + 7)) + 1 < d (x0 + 1) 3 from c0)]
    have y1 : g_235 x0 x1 x2 d = mset (mset d (x0 + 1) (((452 + (24 * x1)) + 8) + x2) ((d (x0 + 1) 0) + 1)) (x0 + 1) ((452 + (24 * x1)) + 7) ((d (x0 + 1) ((452 + (24 * x1)) + 7)) + 1) := by simp only [g_235, if_pos (show (d (x0 + 1) ((452 + (24 * x1)) + 7)) + 1 < d (x0 + 1) 3 from c0)]
    rw [y0] at h
    rw [y1] at h
    exact h (show 0 ≤ ((0 : Int)) ∧ ((0 : Int)) ≤ 1400 from (by omega)) (show ∀ b : Int, (b < x0 + 1 ∨ x0 + 1 < b) → (mset (mset d (x0 + 1) (((452 + (24 * x1)) + 8) + x2) ((d (x0 + 1) 0) + 1)) (x0 + 1) ((452 + (24 * x1)) + 7) ((d (x0 + 1) ((452 + (24 * x1)) + 7)) + 1)) b = d b from fun b hb => (mset_ne (by omega)).trans (mset_ne (by omega))) (show ∀ i : Int, (0 ≤ i ∧ i ≤ 9) ∨ (11 ≤ i ∧ i < 452) → (mset (mset d (x0 + 1) (((452 + (24 * x1)) + 8) + x2) ((d (x0 + 1) 0) + 1)) (x0 + 1) ((452 + (24 * x1)) + 7) ((d (x0 + 1) ((452 + (24 * x1)) + 7)) + 1)) (x0 + 1) i = d (x0 + 1) i from fun i hi => (mset_ni (by omega)).trans (mset_ni (by omega))) (mpP.of (mh_7 hS hx0 _ rfl) (show ∀ i : Int, i = 7 ∨ (12 ≤ i ∧ i < 420 ∧ (i - 12) % 68 = 2) → (mset (mset d (x0 + 1) (((452 + (24 * x1)) + 8) + x2) ((d (x0 + 1) 0) + 1)) (x0 + 1) ((452 + (24 * x1)) + 7) ((d (x0 + 1) ((452 + (24 * x1)) + 7)) + 1)) (x0 + 1) i = d (x0 + 1) i from fun i hi => (mset_ni (by omega)).trans (mset_ni (by omega))) hmp) (mwP.p7 (by omega) (by omega) (mwP.ne (fun t t0 t1 => by omega) hmw)) hS2
def st_234_97 (x0 x1 x2 : Int) (r97 : Int → Int → Int → mD → Int) (x3 x4 x5 : Int) (d : mD) : Int := if x5 < d (x0 + 1) 9 then (if d (x0 + 1) ((452 + (24 * x5)) + 0) = x2 then (if v_232 x0 x5 (d (x0 + 1) (x3 + 0)) d = 0 then r97 x3 (mior x4 0) (x5 + 1) d else r97 x3 (mior x4 1) (x5 + 1) d) else r97 x3 (mior x4 0) (x5 + 1) d) else if x4 = 0 then 0 else 7
def lp_234_97 (x0 x1 x2 : Int) : Nat → Int → Int → Int → mD → Int
  | 0 => st_234_97 x0 x1 x2 (fun _ _ _ d => 0)
  | n + 1 => st_234_97 x0 x1 x2 (lp_234_97 x0 x1 x2 n)
theorem ls_234_97 {E : mO × tW} {K : tK} {x0 x1 x2 : Int} (hx0 : mdB x0) (p1 : 0 ≤ x1 ∧ x1 ≤ 60) (p2 : 0 ≤ x2 ∧ x2 ≤ 15) (N97 : Int) (r97 : Int → Int → Int → mD → Int) (ih97 : ∀ (x3 x4 x5 : Int) (d : mD), Safe d → (x3 = 452 + 24 * x1) → (0 ≤ x4 ∧ x4 ≤ 1) → (0 ≤ x5 ∧ x5 ≤ 61) → (d (x0 + 1) (452 + 24 * x1 + 6) = 0) → 0 ≤ 61 - x5 → 61 - x5 < N97 → (((0 ≤ (r97 x3 x4 x5 d) ∧ (r97 x3 x4 x5 d) ≤ 7) ∧ (¬ (r97 x3 x4 x5 d) = 0 ∨ d (x0 + 1) (452 + 24 * x1 + 6) = 0)) → K (.inl (some (0, (r97 x3 x4 x5 d)))) d) → tRun E 234 (97, [.inr (11, x0), .inl (0, x1), .inl (0, x2), .inl (0, x3), .inl (0, x4), .inl (0, x5)], [], 0, 0, d) K) (x3 x4 x5 : Int) (d : mD) (hS : Safe d) (i0 : x3 = 452 + 24 * x1) (i1 : 0 ≤ x4 ∧ x4 ≤ 1) (i2 : 0 ≤ x5 ∧ x5 ≤ 61) (i3 : d (x0 + 1) (452 + 24 * x1 + 6) = 0) (hm : 61 - x5 ≤ N97) (h : ((0 ≤ (st_234_97 x0 x1 x2 r97 x3 x4 x5 d) ∧ (st_234_97 x0 x1 x2 r97 x3 x4 x5 d) ≤ 7) ∧ (¬ (st_234_97 x0 x1 x2 r97 x3 x4 x5 d) = 0 ∨ d (x0 + 1) (452 + 24 * x1 + 6) = 0)) → K (.inl (some (0, (st_234_97 x0 x1 x2 r97 x3 x4 x5 d)))) d) : tRun E 234 (97, [.inr (11, x0), .inl (0, x1), .inl (0, x2), .inl (0, x3), .inl (0, x4), .inl (0, x5)], [], 0, 0, d) K := by
  refine t_234_97 ?_
  have w1 := mbool x4
  have q1 := mh_9 hS hx0 _ rfl
  refine ⟨by omega, ⟨m_inR (by omega) (by omega), m_inR (by omega) (by omega)⟩, fun c0 => ?_, fun c0 => ?_⟩
  · refine ⟨m_inR (by omega) (by omega), fun c1 => ?_, fun c1 => ?_⟩
    · have y0 : st_234_97 x0 x1 x2 r97 x3 x4 x5 d = 0 := by simp only [st_234_97, if_neg (show ¬ x5 < d (x0 + 1) 9 from Int.not_lt.mpr c0), if_pos (show x4 = 0 from c1)]
      rw [y0] at h
      exact h (show (0 ≤ ((0 : Int)) ∧ ((0 : Int)) ≤ 7) ∧ (¬ ((0 : Int)) = 0 ∨ d (x0 + 1) (452 + 24 * x1 + 6) = 0) from (by omega))
    · have y0 : st_234_97 x0 x1 x2 r97 x3 x4 x5 d = 7 := by simp only [st_234_97, if_neg (show ¬ x5 < d (x0 + 1) 9 from Int.not_lt.mpr c0), if_neg (show ¬ x4 = 0 from c1)]
      rw [y0] at h
      exact h (show (0 ≤ ((7 : Int)) ∧ ((7 : Int)) ≤ 7) ∧ (¬ ((7 : Int)) = 0 ∨ d (x0 + 1) (452 + 24 * x1 + 6) = 0) from (by omega))
  · refine k_179 hS ?_
    refine t_234_120 ?_
    have q2 := mt_0 hS hx0 x5 ((452 + (24 * x5)) + 0) (by omega) (by omega)
    refine ⟨by omega, ⟨m_inR (by omega) (by omega), m_inR (by omega) (by omega)⟩, fun c1 => ?_, fun c1 => ?_⟩
    · have q3 := mbool x4
      refine ih97 x3 (mior x4 0) (x5 + 1)  d hS (by omega) (by omega) (by omega) (by omega) (by omega) (by omega) ?_
      intro e
      have y0 : st_234_97 x0 x1 x2 r97 x3 x4 x5 d = r97 x3 (mior x4 0) (x5 + 1) d := by simp only [st_234_97, if_pos (show x5 < d (x0 + 1) 9 from c0), if_neg (show ¬ d (x0 + 1) ((452 + (24 * x5)) + 0) = x2 from c1)]
      rw [y0] at h
      exact h e
    · refine ⟨by omega, ?_⟩
      have q4 := mt_0 hS hx0 x1 (x3 + 0) (by omega) (by omega)
      refine k_232 hS hx0 (by omega) (by omega) (fun e1 => ?_)
      refine t_234_141 ?_
      refine ⟨m_inR (by omega) (by omega), fun c2 => ?_, fun c2 => ?_⟩
      · have q5 := mbool x4
        refine ih97 x3 (mior x4 0) (x5 + 1)  d hS (by omega) (by omega) (by omega) (by omega) (by omega) (by omega) ?_
        intro e
        have y0 : st_234_97 x0 x1 x2 r97 x3 x4 x5 d = r97 x3 (mior x4 0) (x5 + 1) d := by simp only [st_234_97, if_pos (show x5 < d (x0 + 1) 9 from c0), if_pos (show d (x0 + 1) ((452 + (24 * x5)) + 0) = x2 from c1), if_pos (show v_232 x0 x5 (d (x0 + 1) (x3 + 0)) d = 0 from c2)]
        rw [y0] at h
        exact h e
      · have q6 := mbool x4
        refine ih97 x3 (mior x4 1) (x5 + 1)  d hS (by omega) (by omega) (by omega) (by omega) (by omega) (by omega) ?_
        intro e
        have y0 : st_234_97 x0 x1 x2 r97 x3 x4 x5 d = r97 x3 (mior x4 1) (x5 + 1) d := by simp only [st_234_97, if_pos (show x5 < d (x0 + 1) 9 from c0), if_pos (show d (x0 + 1) ((452 + (24 * x5)) + 0) = x2 from c1), if_neg (show ¬ v_232 x0 x5 (d (x0 + 1) (x3 + 0)) d = 0 from c2)]
        rw [y0] at h
        exact h e
theorem l_234_97 {E : mO × tW} {K : tK} {x0 x1 x2 : Int} (hx0 : mdB x0) (p1 : 0 ≤ x1 ∧ x1 ≤ 60) (p2 : 0 ≤ x2 ∧ x2 ≤ 15) : ∀ (n : Nat) (x3 x4 x5 : Int) (d : mD), Safe d → (x3 = 452 + 24 * x1) → (0 ≤ x4 ∧ x4 ≤ 1) → (0 ≤ x5 ∧ x5 ≤ 61) → (d (x0 + 1) (452 + 24 * x1 + 6) = 0) → 61 - x5 ≤ (n : Int) → (((0 ≤ (lp_234_97 x0 x1 x2 n x3 x4 x5 d) ∧ (lp_234_97 x0 x1 x2 n x3 x4 x5 d) ≤ 7) ∧ (¬ (lp_234_97 x0 x1 x2 n x3 x4 x5 d) = 0 ∨ d (x0 + 1) (452 + 24 * x1 + 6) = 0)) → K (.inl (some (0, (lp_234_97 x0 x1 x2 n x3 x4 x5 d)))) d) → tRun E 234 (97, [.inr (11, x0), .inl (0, x1), .inl (0, x2), .inl (0, x3), .inl (0, x4), .inl (0, x5)], [], 0, 0, d) K := by
  intro n
  induction n with
  | zero =>
    intro x3 x4 x5  d hS i0 i1 i2 i3 hm  h
    exact ls_234_97 hx0 p1 p2 0 _ (fun _ _ _  _ _ _ _ _ _ m0 m1 _ => absurd m1 (by omega)) x3 x4 x5  d hS i0 i1 i2 i3 hm  h
  | succ n ih =>
    intro x3 x4 x5  d hS i0 i1 i2 i3 hm  h
    exact ls_234_97 hx0 p1 p2 ((n + 1 : Nat) : Int) _ (fun x3 x4 x5  d hS i0 i1 i2 i3  m0 m1 h => ih x3 x4 x5  d hS i0 i1 i2 i3 (by omega)  h) x3 x4 x5  d hS i0 i1 i2 i3 hm  h
def v_234 (x0 x1 x2 : Int) (d : mD) : Int := if d (x0 + 1) ((452 + (24 * x1)) + 5) = 0 then 1 else if d (x0 + 1) ((452 + (24 * x1)) + 6) = 0 then (if d (x0 + 1) ((452 + (24 * x1)) + 0) = x2 then 3 else if d (x0 + 1) (((452 + (24 * x1)) + 8) + x2) = 0 then (if v_231 x0 x1 x2 d < d (x0 + 1) 4 then 5 else if v_233 x0 x2 d < 3 then lp_234_97 x0 x1 x2 (61 - 0 : Int).toNat (452 + (24 * x1)) 0 0 d else 6) else 4) else 2
theorem k_234 {E : mO × tW} {K : tK} {d : mD} {x0 x1 x2 : Int} (hS : Safe d) (hx0 : mdB x0) (p1 : 0 ≤ x1 ∧ x1 ≤ 60) (p2 : 0 ≤ x2 ∧ x2 ≤ 15) (h : ((0 ≤ (v_234 x0 x1 x2 d) ∧ (v_234 x0 x1 x2 d) ≤ 7) ∧ (¬ (v_234 x0 x1 x2 d) = 0 ∨ d (x0 + 1) (452 + 24 * x1 + 6) = 0)) → K (.inl (some (0, (v_234 x0 x1 x2 d)))) d) : tCall E 234 [.inr (11, x0), .inl (0, x1), .inl (0, x2)] d K := by
  refine t_234_0 ?_
  refine k_179 hS ?_
  refine t_234_4 ?_
  have q7 := mt_5 hS hx0 x1 ((452 + (24 * x1)) + 5) (by omega) (by omega)
  refine ⟨by omega, m_inR (by omega) (by omega), fun c0 => ?_, fun c0 => ?_⟩
  · have q8 := mt_6 hS hx0 x1 ((452 + (24 * x1)) + 6) (by omega) (by omega)
    refine ⟨by omega, m_inR (by omega) (by omega), fun c1 => ?_, fun c1 => ?_⟩
    · have q9 := mt_0 hS hx0 x1 ((452 + (24 * x1)) + 0) (by omega) (by omega)
      refine ⟨by omega, ⟨m_inR (by omega) (by omega), m_inR (by omega) (by omega)⟩, fun c2 => ?_, fun c2 => ?_⟩
      · have q10 := mt_w hS hx0 x1 x2 (((452 + (24 * x1)) + 8) + x2) (by omega) (by omega) (by omega)
        refine ⟨by omega, m_inR (by omega) (by omega), fun c3 => ?_, fun c3 => ?_⟩
        · refine k_231 hS hx0 (by omega) (m_inR (by omega) (by omega)) (fun e2 => ?_)
          refine t_234_68 ?_
          have q11 := mh_4 hS hx0 _ rfl
          refine ⟨by omega, ⟨m_inR (by omega) (by omega), m_inR (by omega) (by omega)⟩, fun c4 => ?_, fun c4 => ?_⟩
          · refine k_233 hS hx0 (by omega) (fun e3 => ?_)
            refine t_234_84 ?_
            refine ⟨⟨m_inR (by omega) (by omega), m_inR (by omega) (by omega)⟩, fun c5 => ?_, fun c5 => ?_⟩
            · refine l_234_97 hx0 p1 p2 (61 - 0 : Int).toNat (452 + (24 * x1)) 0 0  d hS (by omega) (by omega) (by omega) (by omega) (by omega) ?_
              intro e
              have y0 : v_234 x0 x1 x2 d = lp_234_97 x0 x1 x2 (61 - 0 : Int).toNat (452 + (24 * x1)) 0 0 d := by simp only [v_234, if_neg (show ¬ d (x0 + 1) ((452 + (24 * x1)) + 5) = 0 from c0), if_pos (show d (x0 + 1) ((452 + (24 * x1)) + 6) = 0 from c1), if_neg (show ¬ d (x0 + 1) ((452 + (24 * x1)) + 0) = x2 from c2), if_pos (show d (x0 + 1) (((452 + (24 * x1)) + 8) + x2) = 0 from c3), if_neg (show ¬ v_231 x0 x1 x2 d < d (x0 + 1) 4 from Int.not_lt.mpr c4), if_pos (show v_233 x0 x2 d < 3 from c5)]
              rw [y0] at h
              exact h e
            · have y0 : v_234 x0 x1 x2 d = 6 := by simp only [v_234, if_neg (show ¬ d (x0 + 1) ((452 + (24 * x1)) + 5) = 0 from c0), if_pos (show d (x0 + 1) ((452 + (24 * x1)) + 6) = 0 from c1), if_neg (show ¬ d (x0 + 1) ((452 + (24 * x1)) + 0) = x2 from c2), if_pos (show d (x0 + 1) (((452 + (24 * x1)) + 8) + x2) = 0 from c3), if_neg (show ¬ v_231 x0 x1 x2 d < d (x0 + 1) 4 from Int.not_lt.mpr c4), if_neg (show ¬ v_233 x0 x2 d < 3 from Int.not_lt.mpr c5)]
              rw [y0] at h
              exact h (show (0 ≤ ((6 : Int)) ∧ ((6 : Int)) ≤ 7) ∧ (¬ ((6 : Int)) = 0 ∨ d (x0 + 1) (452 + 24 * x1 + 6) = 0) from (by omega))
          · have y0 : v_234 x0 x1 x2 d = 5 := by simp only [v_234, if_neg (show ¬ d (x0 + 1) ((452 + (24 * x1)) + 5) = 0 from c0), if_pos (show d (x0 + 1) ((452 + (24 * x1)) + 6) = 0 from c1), if_neg (show ¬ d (x0 + 1) ((452 + (24 * x1)) + 0) = x2 from c2), if_pos (show d (x0 + 1) (((452 + (24 * x1)) + 8) + x2) = 0 from c3), if_pos (show v_231 x0 x1 x2 d < d (x0 + 1) 4 from c4)]
            rw [y0] at h
            exact h (show (0 ≤ ((5 : Int)) ∧ ((5 : Int)) ≤ 7) ∧ (¬ ((5 : Int)) = 0 ∨ d (x0 + 1) (452 + 24 * x1 + 6) = 0) from (by omega))
        · have y0 : v_234 x0 x1 x2 d = 4 := by simp only [v_234, if_neg (show ¬ d (x0 + 1) ((452 + (24 * x1)) + 5) = 0 from c0), if_pos (show d (x0 + 1) ((452 + (24 * x1)) + 6) = 0 from c1), if_neg (show ¬ d (x0 + 1) ((452 + (24 * x1)) + 0) = x2 from c2), if_neg (show ¬ d (x0 + 1) (((452 + (24 * x1)) + 8) + x2) = 0 from c3)]
          rw [y0] at h
          exact h (show (0 ≤ ((4 : Int)) ∧ ((4 : Int)) ≤ 7) ∧ (¬ ((4 : Int)) = 0 ∨ d (x0 + 1) (452 + 24 * x1 + 6) = 0) from (by omega))
      · have y0 : v_234 x0 x1 x2 d = 3 := by simp only [v_234, if_neg (show ¬ d (x0 + 1) ((452 + (24 * x1)) + 5) = 0 from c0), if_pos (show d (x0 + 1) ((452 + (24 * x1)) + 6) = 0 from c1), if_pos (show d (x0 + 1) ((452 + (24 * x1)) + 0) = x2 from c2)]
        rw [y0] at h
        exact h (show (0 ≤ ((3 : Int)) ∧ ((3 : Int)) ≤ 7) ∧ (¬ ((3 : Int)) = 0 ∨ d (x0 + 1) (452 + 24 * x1 + 6) = 0) from (by omega))
    · have y0 : v_234 x0 x1 x2 d = 2 := by simp only [v_234, if_neg (show ¬ d (x0 + 1) ((452 + (24 * x1)) + 5) = 0 from c0), if_neg (show ¬ d (x0 + 1) ((452 + (24 * x1)) + 6) = 0 from c1)]
      rw [y0] at h
      exact h (show (0 ≤ ((2 : Int)) ∧ ((2 : Int)) ≤ 7) ∧ (¬ ((2 : Int)) = 0 ∨ d (x0 + 1) (452 + 24 * x1 + 6) = 0) from (by omega))
  · have y0 : v_234 x0 x1 x2 d = 1 := by simp only [v_234, if_pos (show d (x0 + 1) ((452 + (24 * x1)) + 5) = 0 from c0)]
    rw [y0] at h
    exact h (show (0 ≤ ((1 : Int)) ∧ ((1 : Int)) ≤ 7) ∧ (¬ ((1 : Int)) = 0 ∨ d (x0 + 1) (452 + 24 * x1 + 6) = 0) from (by omega))
def v_236 (x0 x1 : Int) (d : mD) : Int := v_176 x1 0 ((d (x0 + 1) 7) - 1) d
theorem k_236 {E : mO × tW} {K : tK} {d : mD} {x0 x1 : Int} (hS : Safe d) (hx0 : mdB x0) (p1 : -2147483648 ≤ x1 ∧ x1 ≤ 2147483647) (h : ((0 ≤ (v_236 x0 x1 d) ∧ (v_236 x0 x1 d) ≤ 1) ∧ ((v_236 x0 x1 d) = 0 ∨ (0 ≤ x1 ∧ x1 < d (x0 + 1) 7)) ∧ ((v_236 x0 x1 d) = 1 ∨ x1 < 0 ∨ d (x0 + 1) 7 ≤ x1)) → K (.inl (some (0, (v_236 x0 x1 d)))) d) : tCall E 236 [.inr (11, x0), .inl (0, x1)] d K := by
  refine t_236_0 ?_
  have q1 := mh_7 hS hx0 _ rfl
  refine ⟨m_inR (by omega) (by omega), by omega, m_inR (by omega) (by omega), ?_⟩
  refine k_176 hS (m_inR (by omega) (by omega)) (m_inR (by omega) (by omega)) (m_inR (by omega) (by omega)) (fun e1 => ?_)
  refine t_236_16 ?_
  refine ⟨by omega, ?_⟩
  have y0 : v_236 x0 x1 d = v_176 x1 0 ((d (x0 + 1) 7) - 1) d := by simp only [v_236]
  rw [y0] at h
  exact h (show (0 ≤ (v_176 x1 0 ((d (x0 + 1) 7) - 1) d) ∧ (v_176 x1 0 ((d (x0 + 1) 7) - 1) d) ≤ 1) ∧ ((v_176 x1 0 ((d (x0 + 1) 7) - 1) d) = 0 ∨ (0 ≤ x1 ∧ x1 < d (x0 + 1) 7)) ∧ ((v_176 x1 0 ((d (x0 + 1) 7) - 1) d) = 1 ∨ x1 < 0 ∨ d (x0 + 1) 7 ≤ x1) from (by omega))
def v_237 (x0 x1 : Int) (d : mD) : Int := v_176 x1 0 ((d (x0 + 1) 8) - 1) d
theorem k_237 {E : mO × tW} {K : tK} {d : mD} {x0 x1 : Int} (hS : Safe d) (hx0 : mdB x0) (p1 : -2147483648 ≤ x1 ∧ x1 ≤ 2147483647) (h : ((0 ≤ (v_237 x0 x1 d) ∧ (v_237 x0 x1 d) ≤ 1) ∧ ((v_237 x0 x1 d) = 0 ∨ (0 ≤ x1 ∧ x1 < d (x0 + 1) 8)) ∧ ((v_237 x0 x1 d) = 1 ∨ x1 < 0 ∨ d (x0 + 1) 8 ≤ x1)) → K (.inl (some (0, (v_237 x0 x1 d)))) d) : tCall E 237 [.inr (11, x0), .inl (0, x1)] d K := by
  refine t_237_0 ?_
  have q1 := mh_8 hS hx0 _ rfl
  refine ⟨m_inR (by omega) (by omega), by omega, m_inR (by omega) (by omega), ?_⟩
  refine k_176 hS (m_inR (by omega) (by omega)) (m_inR (by omega) (by omega)) (m_inR (by omega) (by omega)) (fun e1 => ?_)
  refine t_237_16 ?_
  refine ⟨by omega, ?_⟩
  have y0 : v_237 x0 x1 d = v_176 x1 0 ((d (x0 + 1) 8) - 1) d := by simp only [v_237]
  rw [y0] at h
  exact h (show (0 ≤ (v_176 x1 0 ((d (x0 + 1) 8) - 1) d) ∧ (v_176 x1 0 ((d (x0 + 1) 8) - 1) d) ≤ 1) ∧ ((v_176 x1 0 ((d (x0 + 1) 8) - 1) d) = 0 ∨ (0 ≤ x1 ∧ x1 < d (x0 + 1) 8)) ∧ ((v_176 x1 0 ((d (x0 + 1) 8) - 1) d) = 1 ∨ x1 < 0 ∨ d (x0 + 1) 8 ≤ x1) from (by omega))
def v_238 (x0 x1 : Int) (d : mD) : Int := v_176 x1 0 ((d (x0 + 1) 9) - 1) d
theorem k_238 {E : mO × tW} {K : tK} {d : mD} {x0 x1 : Int} (hS : Safe d) (hx0 : mdB x0) (p1 : -2147483648 ≤ x1 ∧ x1 ≤ 2147483647) (h : ((0 ≤ (v_238 x0 x1 d) ∧ (v_238 x0 x1 d) ≤ 1) ∧ ((v_238 x0 x1 d) = 0 ∨ (0 ≤ x1 ∧ x1 < d (x0 + 1) 9)) ∧ ((v_238 x0 x1 d) = 1 ∨ x1 < 0 ∨ d (x0 + 1) 9 ≤ x1)) → K (.inl (some (0, (v_238 x0 x1 d)))) d) : tCall E 238 [.inr (11, x0), .inl (0, x1)] d K := by
  refine t_238_0 ?_
  have q1 := mh_9 hS hx0 _ rfl
  refine ⟨m_inR (by omega) (by omega), by omega, m_inR (by omega) (by omega), ?_⟩
  refine k_176 hS (m_inR (by omega) (by omega)) (m_inR (by omega) (by omega)) (m_inR (by omega) (by omega)) (fun e1 => ?_)
  refine t_238_16 ?_
  refine ⟨by omega, ?_⟩
  have y0 : v_238 x0 x1 d = v_176 x1 0 ((d (x0 + 1) 9) - 1) d := by simp only [v_238]
  rw [y0] at h
  exact h (show (0 ≤ (v_176 x1 0 ((d (x0 + 1) 9) - 1) d) ∧ (v_176 x1 0 ((d (x0 + 1) 9) - 1) d) ≤ 1) ∧ ((v_176 x1 0 ((d (x0 + 1) 9) - 1) d) = 0 ∨ (0 ≤ x1 ∧ x1 < d (x0 + 1) 9)) ∧ ((v_176 x1 0 ((d (x0 + 1) 9) - 1) d) = 1 ∨ x1 < 0 ∨ d (x0 + 1) 9 ≤ x1) from (by omega))
