/-! ===== contracts of the methods: printed by a program of mine ===== -/
def g_86 (x0 x1 : Int) (d : mD) : mD := if d x0 1 < 1000 then mset (mset d (x0 + 1) (d x0 1) (mi2b x1)) x0 1 ((d x0 1) + 1) else d
theorem k_86 {E : mO × tW} {K : tK} {d : mD} {x0 x1 : Int} (hS : Safe d) (hx0 : txB x0) (h : (∀ b : Int, (b < x0 ∨ x0 + 1 < b) → (g_86 x0 x1 d) b = d b) → Safe (g_86 x0 x1 d) → K (.inl none) (g_86 x0 x1 d)) : tCall E 86 [.inr (7, x0), .inl (0, x1)] d K := by
  refine t_86_0 ?_
  have q1 := r_7_f1 hS hx0
  refine ⟨⟨m_inR (by omega) (by omega), m_inR (by omega) (by omega)⟩, fun c0 => ?_, fun c0 => ?_⟩
  · have y0 : g_86 x0 x1 d = d := by simp only [g_86, if_neg (show ¬ d x0 1 < 1000 from Int.not_lt.mpr c0)]
    rw [y0] at h
    exact h (show ∀ b : Int, (b < x0 ∨ x0 + 1 < b) → d b = d b from fun _ _ => rfl) hS
  · have q2 := mi2b_r x1
    refine ⟨by omega, ?_⟩
    have hS1 : Safe (mset d (x0 + 1) (d x0 1) (mi2b x1)) := s_7_1 hS hx0 (by omega)
    rw [mset_ne (d := d) (a := x0 + 1) (i := d x0 1) (v := mi2b x1) (b := x0) (by omega)]
    have hS2 : Safe (mset (mset d (x0 + 1) (d x0 1) (mi2b x1)) x0 1 ((d x0 1) + 1)) := s_7_f1 hS1 hx0 (by omega)
    have y0 : g_86 x0 x1 d = mset (mset d (x0 + 1) (d x0 1) (mi2b x1)) x0 1 ((d x0 1) + 1) := by simp only [g_86, if_pos (show d x0 1 < 1000 from c0)]
    rw [y0] at h
    exact h (show ∀ b : Int, (b < x0 ∨ x0 + 1 < b) → (mset (mset d (x0 + 1) (d x0 1) (mi2b x1)) x0 1 ((d x0 1) + 1)) b = d b from fun b hb => (mset_ne (by omega)).trans (mset_ne (by omega))) hS2
def g_87 (x0 x1 : Int) (d : mD) : mD := g_86 x0 x1 (g_86 x0 (miushr x1 8) (g_86 x0 (miushr x1 16) (g_86 x0 (miushr x1 24) d)))
theorem k_87 {E : mO × tW} {K : tK} {d : mD} {x0 x1 : Int} (hS : Safe d) (hx0 : txB x0) (p1 : -2147483648 ≤ x1 ∧ x1 ≤ 2147483647) (h : (∀ b : Int, (b < x0 ∨ x0 + 1 < b) → (g_87 x0 x1 d) b = d b) → Safe (g_87 x0 x1 d) → K (.inl none) (g_87 x0 x1 d)) : tCall E 87 [.inr (7, x0), .inl (0, x1)] d K := by
  refine t_87_0 ?_
  refine k_86 hS hx0 (fun F1 hS1 => ?_)
  refine t_87_8 ?_
  refine k_86 hS1 hx0 (fun F2 hS2 => ?_)
  refine t_87_16 ?_
  refine k_86 hS2 hx0 (fun F3 hS3 => ?_)
  refine t_87_24 ?_
  refine k_86 hS3 hx0 (fun F4 hS4 => ?_)
  refine t_87_29 ?_
  have y0 : g_87 x0 x1 d = g_86 x0 x1 (g_86 x0 (miushr x1 8) (g_86 x0 (miushr x1 16) (g_86 x0 (miushr x1 24) d))) := by simp only [g_87]
  rw [y0] at h
  exact h (show ∀ b : Int, (b < x0 ∨ x0 + 1 < b) → (g_86 x0 x1 (g_86 x0 (miushr x1 8) (g_86 x0 (miushr x1 16) (g_86 x0 (miushr x1 24) d)))) b = d b from fun b hb => (F4 b (by omega)).trans ((F3 b (by omega)).trans ((F2 b (by omega)).trans (F1 b (by omega))))) hS4
def st_88_3 (x0 x1 : Int) (r3 : Int → mD → mD) (x2 : Int) (d : mD) : mD := if x2 < 0 then d else if miand (mishr x1 x2) 31 = 0 then r3 (x2 + (-5)) d else r3 (x2 + (-5)) (g_86 x0 ((miand (mishr x1 x2) 31) + 96) d)
def lp_88_3 (x0 x1 : Int) : Nat → Int → mD → mD
  | 0 => st_88_3 x0 x1 (fun _ d => d)
  | n + 1 => st_88_3 x0 x1 (lp_88_3 x0 x1 n)
theorem ls_88_3 {E : mO × tW} {K : tK} {x0 x1 : Int} (hx0 : txB x0) (p1 : -2147483648 ≤ x1 ∧ x1 ≤ 2147483647) (N3 : Int) (r3 : Int → mD → mD) (ih3 : ∀ (x2 : Int) (v3 : tV) (d : mD), Safe d → (-5 ≤ x2 ∧ x2 ≤ 25) → 0 ≤ x2 + 5 → x2 + 5 < N3 → ((∀ b : Int, (b < x0 ∨ x0 + 1 < b) → (r3 x2 d) b = d b) → Safe (r3 x2 d) → K (.inl none) (r3 x2 d)) → tRun E 88 (3, [.inr (7, x0), .inl (0, x1), .inl (0, x2), v3], [], 0, 0, d) K) (x2 : Int) (v3 : tV) (d : mD) (hS : Safe d) (i0 : -5 ≤ x2 ∧ x2 ≤ 25) (hm : x2 + 5 ≤ N3) (h : (∀ b : Int, (b < x0 ∨ x0 + 1 < b) → (st_88_3 x0 x1 r3 x2 d) b = d b) → Safe (st_88_3 x0 x1 r3 x2 d) → K (.inl none) (st_88_3 x0 x1 r3 x2 d)) : tRun E 88 (3, [.inr (7, x0), .inl (0, x1), .inl (0, x2), v3], [], 0, 0, d) K := by
  refine t_88_3 ?_
  refine ⟨m_inR (by omega) (by omega), fun c0 => ?_, fun c0 => ?_⟩
  · have y0 : st_88_3 x0 x1 r3 x2 d = d := by simp only [st_88_3, if_pos (show x2 < 0 from c0)]
    rw [y0] at h
    exact h (show ∀ b : Int, (b < x0 ∨ x0 + 1 < b) → d b = d b from fun _ _ => rfl) hS
  · have q1 := miand_r (mishr x1 x2) 31 (by decide) (by decide)
    refine ⟨mI_inR _ _ _, fun c1 => ?_, fun c1 => ?_⟩
    · refine t_88_26 ?_
      refine ih3 (x2 + (-5)) (.inl (0, miand (mishr x1 x2) 31)) d hS (by omega) (by omega) (by omega) ?_
      intro F hS_
      have y0 : st_88_3 x0 x1 r3 x2 d = r3 (x2 + (-5)) d := by simp only [st_88_3, if_neg (show ¬ x2 < 0 from Int.not_lt.mpr c0), if_pos (show miand (mishr x1 x2) 31 = 0 from c1)]
      rw [y0] at h
      exact h F hS_
    · refine k_86 hS hx0 (fun F1 hS1 => ?_)
      refine t_88_26 ?_
      refine ih3 (x2 + (-5)) (.inl (0, miand (mishr x1 x2) 31)) (g_86 x0 ((miand (mishr x1 x2) 31) + 96) d) hS1 (by omega) (by omega) (by omega) ?_
      intro F hS_
      have y0 : st_88_3 x0 x1 r3 x2 d = r3 (x2 + (-5)) (g_86 x0 ((miand (mishr x1 x2) 31) + 96) d) := by simp only [st_88_3, if_neg (show ¬ x2 < 0 from Int.not_lt.mpr c0), if_neg (show ¬ miand (mishr x1 x2) 31 = 0 from c1)]
      rw [y0] at h
      exact h (fun b hb => (F b hb).trans ((show ∀ b : Int, (b < x0 ∨ x0 + 1 < b) → (g_86 x0 ((miand (mishr x1 x2) 31) + 96) d) b = d b from fun b hb => F1 b (by omega)) b hb)) hS_
theorem l_88_3 {E : mO × tW} {K : tK} {x0 x1 : Int} (hx0 : txB x0) (p1 : -2147483648 ≤ x1 ∧ x1 ≤ 2147483647) : ∀ (n : Nat) (x2 : Int) (v3 : tV) (d : mD), Safe d → (-5 ≤ x2 ∧ x2 ≤ 25) → x2 + 5 ≤ (n : Int) → ((∀ b : Int, (b < x0 ∨ x0 + 1 < b) → (lp_88_3 x0 x1 n x2 d) b = d b) → Safe (lp_88_3 x0 x1 n x2 d) → K (.inl none) (lp_88_3 x0 x1 n x2 d)) → tRun E 88 (3, [.inr (7, x0), .inl (0, x1), .inl (0, x2), v3], [], 0, 0, d) K := by
  intro n
  induction n with
  | zero =>
    intro x2 v3 d hS i0 hm  h
    exact ls_88_3 hx0 p1 0 _ (fun _ _ _ _ _ m0 m1 _ => absurd m1 (by omega)) x2 v3 d hS i0 hm  h
  | succ n ih =>
    intro x2 v3 d hS i0 hm  h
    exact ls_88_3 hx0 p1 ((n + 1 : Nat) : Int) _ (fun x2 v3 d hS i0  m0 m1 h => ih x2 v3 d hS i0 (by omega)  h) x2 v3 d hS i0 hm  h
def g_88 (x0 x1 : Int) (d : mD) : mD := lp_88_3 x0 x1 (25 + 5 : Int).toNat 25 d
theorem k_88 {E : mO × tW} {K : tK} {d : mD} {x0 x1 : Int} (hS : Safe d) (hx0 : txB x0) (p1 : -2147483648 ≤ x1 ∧ x1 ≤ 2147483647) (h : (∀ b : Int, (b < x0 ∨ x0 + 1 < b) → (g_88 x0 x1 d) b = d b) → Safe (g_88 x0 x1 d) → K (.inl none) (g_88 x0 x1 d)) : tCall E 88 [.inr (7, x0), .inl (0, x1)] d K := by
  refine t_88_0 ?_
  refine l_88_3 hx0 p1 (25 + 5 : Int).toNat 25 tu d hS (by omega) (by omega) ?_
  intro F hS_
  have y0 : g_88 x0 x1 d = lp_88_3 x0 x1 (25 + 5 : Int).toNat 25 d := by simp only [g_88]
  rw [y0] at h
  exact h F hS_
def st_89_4 (x0 x1 : Int) (r4 : Int → mD → mD) (x2 : Int) (d : mD) : mD := if (0 : Int) < x2 then (if x1 < x2 then (if x2 = 1 then r4 (x2 / 10) (g_86 x0 (48 + ((x1 / x2) % 10)) d) else r4 (x2 / 10) d) else r4 (x2 / 10) (g_86 x0 (48 + ((x1 / x2) % 10)) d)) else d
def lp_89_4 (x0 x1 : Int) : Nat → Int → mD → mD
  | 0 => st_89_4 x0 x1 (fun _ d => d)
  | n + 1 => st_89_4 x0 x1 (lp_89_4 x0 x1 n)
theorem ls_89_4 {E : mO × tW} {K : tK} {x0 x1 : Int} (hx0 : txB x0) (p1 : 0 ≤ x1 ∧ x1 ≤ 999) (N4 : Int) (r4 : Int → mD → mD) (ih4 : ∀ (x2 : Int) (d : mD), Safe d → (0 ≤ x2 ∧ x2 ≤ 1000) → 0 ≤ x2 → x2 < N4 → ((∀ b : Int, (b < x0 ∨ x0 + 1 < b) → (r4 x2 d) b = d b) → Safe (r4 x2 d) → K (.inl none) (r4 x2 d)) → tRun E 89 (4, [.inr (7, x0), .inl (0, x1), .inl (0, x2)], [], 0, 0, d) K) (x2 : Int) (d : mD) (hS : Safe d) (i0 : 0 ≤ x2 ∧ x2 ≤ 1000) (hm : x2 ≤ N4) (h : (∀ b : Int, (b < x0 ∨ x0 + 1 < b) → (st_89_4 x0 x1 r4 x2 d) b = d b) → Safe (st_89_4 x0 x1 r4 x2 d) → K (.inl none) (st_89_4 x0 x1 r4 x2 d)) : tRun E 89 (4, [.inr (7, x0), .inl (0, x1), .inl (0, x2)], [], 0, 0, d) K := by
  refine t_89_4 ?_
  refine ⟨m_inR (by omega) (by omega), fun c0 => ?_, fun c0 => ?_⟩
  · have y0 : st_89_4 x0 x1 r4 x2 d = d := by simp only [st_89_4, if_neg (show ¬ (0 : Int) < x2 from Int.not_lt.mpr c0)]
    rw [y0] at h
    exact h (show ∀ b : Int, (b < x0 ∨ x0 + 1 < b) → d b = d b from fun _ _ => rfl) hS
  · refine ⟨⟨m_inR (by omega) (by omega), m_inR (by omega) (by omega)⟩, fun c1 => ?_, fun c1 => ?_⟩
    · have q1 := mdiv_r (x := x1) (y := x2) (by omega) (by omega)
      refine ⟨by omega, by omega, ?_⟩
      refine k_86 hS hx0 (fun F1 hS1 => ?_)
      refine t_89_31 ?_
      refine ⟨by omega, ?_⟩
      refine ih4 (x2 / 10)  (g_86 x0 (48 + ((x1 / x2) % 10)) d) hS1 (by omega) (by omega) (by omega) ?_
      intro F hS_
      have y0 : st_89_4 x0 x1 r4 x2 d = r4 (x2 / 10) (g_86 x0 (48 + ((x1 / x2) % 10)) d) := by simp only [st_89_4, if_pos (show (0 : Int) < x2 from c0), if_neg (show ¬ x1 < x2 from Int.not_lt.mpr c1)]
      rw [y0] at h
      exact h (fun b hb => (F b hb).trans ((show ∀ b : Int, (b < x0 ∨ x0 + 1 < b) → (g_86 x0 (48 + ((x1 / x2) % 10)) d) b = d b from fun b hb => F1 b (by omega)) b hb)) hS_
    · refine ⟨⟨m_inR (by omega) (by omega), m_inR (by omega) (by omega)⟩, fun c2 => ?_, fun c2 => ?_⟩
      · refine t_89_31 ?_
        refine ⟨by omega, ?_⟩
        refine ih4 (x2 / 10)  d hS (by omega) (by omega) (by omega) ?_
        intro F hS_
        have y0 : st_89_4 x0 x1 r4 x2 d = r4 (x2 / 10) d := by simp only [st_89_4, if_pos (show (0 : Int) < x2 from c0), if_pos (show x1 < x2 from c1), if_neg (show ¬ x2 = 1 from c2)]
        rw [y0] at h
        exact h F hS_
      · have q2 := mdiv_r (x := x1) (y := x2) (by omega) (by omega)
        refine ⟨by omega, by omega, ?_⟩
        refine k_86 hS hx0 (fun F2 hS2 => ?_)
        refine t_89_31 ?_
        refine ⟨by omega, ?_⟩
        refine ih4 (x2 / 10)  (g_86 x0 (48 + ((x1 / x2) % 10)) d) hS2 (by omega) (by omega) (by omega) ?_
        intro F hS_
        have y0 : st_89_4 x0 x1 r4 x2 d = r4 (x2 / 10) (g_86 x0 (48 + ((x1 / x2) % 10)) d) := by simp only [st_89_4, if_pos (show (0 : Int) < x2 from c0), if_pos (show x1 < x2 from c1), if_pos (show x2 = 1 from c2)]
        rw [y0] at h
        exact h (fun b hb => (F b hb).trans ((show ∀ b : Int, (b < x0 ∨ x0 + 1 < b) → (g_86 x0 (48 + ((x1 / x2) % 10)) d) b = d b from fun b hb => F2 b (by omega)) b hb)) hS_
theorem l_89_4 {E : mO × tW} {K : tK} {x0 x1 : Int} (hx0 : txB x0) (p1 : 0 ≤ x1 ∧ x1 ≤ 999) : ∀ (n : Nat) (x2 : Int) (d : mD), Safe d → (0 ≤ x2 ∧ x2 ≤ 1000) → x2 ≤ (n : Int) → ((∀ b : Int, (b < x0 ∨ x0 + 1 < b) → (lp_89_4 x0 x1 n x2 d) b = d b) → Safe (lp_89_4 x0 x1 n x2 d) → K (.inl none) (lp_89_4 x0 x1 n x2 d)) → tRun E 89 (4, [.inr (7, x0), .inl (0, x1), .inl (0, x2)], [], 0, 0, d) K := by
  intro n
  induction n with
  | zero =>
    intro x2  d hS i0 hm  h
    exact ls_89_4 hx0 p1 0 _ (fun _  _ _ _ m0 m1 _ => absurd m1 (by omega)) x2  d hS i0 hm  h
  | succ n ih =>
    intro x2  d hS i0 hm  h
    exact ls_89_4 hx0 p1 ((n + 1 : Nat) : Int) _ (fun x2  d hS i0  m0 m1 h => ih x2  d hS i0 (by omega)  h) x2  d hS i0 hm  h
def g_89 (x0 x1 : Int) (d : mD) : mD := lp_89_4 x0 x1 (1000 : Int).toNat 1000 d
theorem k_89 {E : mO × tW} {K : tK} {d : mD} {x0 x1 : Int} (hS : Safe d) (hx0 : txB x0) (p1 : 0 ≤ x1 ∧ x1 ≤ 999) (h : (∀ b : Int, (b < x0 ∨ x0 + 1 < b) → (g_89 x0 x1 d) b = d b) → Safe (g_89 x0 x1 d) → K (.inl none) (g_89 x0 x1 d)) : tCall E 89 [.inr (7, x0), .inl (0, x1)] d K := by
  refine t_89_0 ?_
  refine l_89_4 hx0 p1 (1000 : Int).toNat 1000  d hS (by omega) (by omega) ?_
  intro F hS_
  have y0 : g_89 x0 x1 d = lp_89_4 x0 x1 (1000 : Int).toNat 1000 d := by simp only [g_89]
  rw [y0] at h
  exact h F hS_
def v_90 (x0 x1 : Int) (d : mD) : Int := if d (x0 + 1) x1 = 32 then 1 else if d (x0 + 1) x1 = 10 then 1 else 0
theorem k_90 {E : mO × tW} {K : tK} {d : mD} {x0 x1 : Int} (hS : Safe d) (hx0 : txB x0) (p1 : 0 ≤ x1 ∧ x1 ≤ 999) (h : (0 ≤ (v_90 x0 x1 d) ∧ (v_90 x0 x1 d) ≤ 1) → K (.inl (some (0, (v_90 x0 x1 d)))) d) : tCall E 90 [.inr (7, x0), .inl (0, x1)] d K := by
  refine t_90_0 ?_
  have q1 := r_7_1 hS hx0 x1
  refine ⟨by omega, ⟨m_inR (by omega) (by omega), m_inR (by omega) (by omega)⟩, fun c0 => ?_, fun c0 => ?_⟩
  · refine ⟨by omega, ?_⟩
    have y0 : v_90 x0 x1 d = 1 := by simp only [v_90, if_pos (show d (x0 + 1) x1 = 32 from c0)]
    rw [y0] at h
    exact h (show 0 ≤ ((1 : Int)) ∧ ((1 : Int)) ≤ 1 from (by omega))
  · refine ⟨by omega, ⟨m_inR (by omega) (by omega), m_inR (by omega) (by omega)⟩, fun c1 => ?_, fun c1 => ?_⟩
    · refine ⟨by omega, ?_⟩
      have y0 : v_90 x0 x1 d = 0 := by simp only [v_90, if_neg (show ¬ d (x0 + 1) x1 = 32 from c0), if_neg (show ¬ d (x0 + 1) x1 = 10 from c1)]
      rw [y0] at h
      exact h (show 0 ≤ ((0 : Int)) ∧ ((0 : Int)) ≤ 1 from (by omega))
    · refine ⟨by omega, ?_⟩
      have y0 : v_90 x0 x1 d = 1 := by simp only [v_90, if_neg (show ¬ d (x0 + 1) x1 = 32 from c0), if_pos (show d (x0 + 1) x1 = 10 from c1)]
      rw [y0] at h
      exact h (show 0 ≤ ((1 : Int)) ∧ ((1 : Int)) ≤ 1 from (by omega))
def v_91 (x0 x1 : Int) (d : mD) : Int := if d (x0 + 1) x1 < 97 then 0 else if (122 : Int) < d (x0 + 1) x1 then 0 else 1
theorem k_91 {E : mO × tW} {K : tK} {d : mD} {x0 x1 : Int} (hS : Safe d) (hx0 : txB x0) (p1 : 0 ≤ x1 ∧ x1 ≤ 999) (h : ((0 ≤ (v_91 x0 x1 d) ∧ (v_91 x0 x1 d) ≤ 1) ∧ ((v_91 x0 x1 d) = 0 ∨ (97 ≤ d (x0 + 1) x1 ∧ d (x0 + 1) x1 ≤ 122))) → K (.inl (some (0, (v_91 x0 x1 d)))) d) : tCall E 91 [.inr (7, x0), .inl (0, x1)] d K := by
  refine t_91_0 ?_
  have q1 := r_7_1 hS hx0 x1
  refine ⟨by omega, ⟨m_inR (by omega) (by omega), m_inR (by omega) (by omega)⟩, fun c0 => ?_, fun c0 => ?_⟩
  · refine ⟨by omega, ?_⟩
    have y0 : v_91 x0 x1 d = 0 := by simp only [v_91, if_pos (show d (x0 + 1) x1 < 97 from c0)]
    rw [y0] at h
    exact h (show (0 ≤ ((0 : Int)) ∧ ((0 : Int)) ≤ 1) ∧ (((0 : Int)) = 0 ∨ (97 ≤ d (x0 + 1) x1 ∧ d (x0 + 1) x1 ≤ 122)) from (by omega))
  · refine ⟨by omega, ⟨m_inR (by omega) (by omega), m_inR (by omega) (by omega)⟩, fun c1 => ?_, fun c1 => ?_⟩
    · refine ⟨by omega, ?_⟩
      have y0 : v_91 x0 x1 d = 0 := by simp only [v_91, if_neg (show ¬ d (x0 + 1) x1 < 97 from Int.not_lt.mpr c0), if_pos (show (122 : Int) < d (x0 + 1) x1 from c1)]
      rw [y0] at h
      exact h (show (0 ≤ ((0 : Int)) ∧ ((0 : Int)) ≤ 1) ∧ (((0 : Int)) = 0 ∨ (97 ≤ d (x0 + 1) x1 ∧ d (x0 + 1) x1 ≤ 122)) from (by omega))
    · refine ⟨by omega, ?_⟩
      have y0 : v_91 x0 x1 d = 1 := by simp only [v_91, if_neg (show ¬ d (x0 + 1) x1 < 97 from Int.not_lt.mpr c0), if_neg (show ¬ (122 : Int) < d (x0 + 1) x1 from Int.not_lt.mpr c1)]
      rw [y0] at h
      exact h (show (0 ≤ ((1 : Int)) ∧ ((1 : Int)) ≤ 1) ∧ (((1 : Int)) = 0 ∨ (97 ≤ d (x0 + 1) x1 ∧ d (x0 + 1) x1 ≤ 122)) from (by omega))
def v_92 (x0 x1 : Int) (d : mD) : Int := if d (x0 + 1) x1 < 48 then 0 else if (57 : Int) < d (x0 + 1) x1 then 0 else 1
theorem k_92 {E : mO × tW} {K : tK} {d : mD} {x0 x1 : Int} (hS : Safe d) (hx0 : txB x0) (p1 : 0 ≤ x1 ∧ x1 ≤ 999) (h : ((0 ≤ (v_92 x0 x1 d) ∧ (v_92 x0 x1 d) ≤ 1) ∧ ((v_92 x0 x1 d) = 0 ∨ (48 ≤ d (x0 + 1) x1 ∧ d (x0 + 1) x1 ≤ 57))) → K (.inl (some (0, (v_92 x0 x1 d)))) d) : tCall E 92 [.inr (7, x0), .inl (0, x1)] d K := by
  refine t_92_0 ?_
  have q1 := r_7_1 hS hx0 x1
  refine ⟨by omega, ⟨m_inR (by omega) (by omega), m_inR (by omega) (by omega)⟩, fun c0 => ?_, fun c0 => ?_⟩
  · refine ⟨by omega, ?_⟩
    have y0 : v_92 x0 x1 d = 0 := by simp only [v_92, if_pos (show d (x0 + 1) x1 < 48 from c0)]
    rw [y0] at h
    exact h (show (0 ≤ ((0 : Int)) ∧ ((0 : Int)) ≤ 1) ∧ (((0 : Int)) = 0 ∨ (48 ≤ d (x0 + 1) x1 ∧ d (x0 + 1) x1 ≤ 57)) from (by omega))
  · refine ⟨by omega, ⟨m_inR (by omega) (by omega), m_inR (by omega) (by omega)⟩, fun c1 => ?_, fun c1 => ?_⟩
    · refine ⟨by omega, ?_⟩
      have y0 : v_92 x0 x1 d = 0 := by simp only [v_92, if_neg (show ¬ d (x0 + 1) x1 < 48 from Int.not_lt.mpr c0), if_pos (show (57 : Int) < d (x0 + 1) x1 from c1)]
      rw [y0] at h
      exact h (show (0 ≤ ((0 : Int)) ∧ ((0 : Int)) ≤ 1) ∧ (((0 : Int)) = 0 ∨ (48 ≤ d (x0 + 1) x1 ∧ d (x0 + 1) x1 ≤ 57)) from (by omega))
    · refine ⟨by omega, ?_⟩
      have y0 : v_92 x0 x1 d = 1 := by simp only [v_92, if_neg (show ¬ d (x0 + 1) x1 < 48 from Int.not_lt.mpr c0), if_neg (show ¬ (57 : Int) < d (x0 + 1) x1 from Int.not_lt.mpr c1)]
      rw [y0] at h
      exact h (show (0 ≤ ((1 : Int)) ∧ ((1 : Int)) ≤ 1) ∧ (((1 : Int)) = 0 ∨ (48 ≤ d (x0 + 1) x1 ∧ d (x0 + 1) x1 ≤ 57)) from (by omega))
def st_93_20 (x0 x1 x2 : Int) (r20 : Int → Int → mD → Int) (x3 x4 : Int) (d : mD) : Int := if x4 < x2 then (if v_91 x0 x4 d = 0 then (-1) else r20 (mior (mishl x3 5) ((d (x0 + 1) x4) - 96)) (x4 + 1) d) else x3
def lp_93_20 (x0 x1 x2 : Int) : Nat → Int → Int → mD → Int
  | 0 => st_93_20 x0 x1 x2 (fun _ _ d => 0)
  | n + 1 => st_93_20 x0 x1 x2 (lp_93_20 x0 x1 x2 n)
theorem ls_93_20 {E : mO × tW} {K : tK} {x0 x1 x2 : Int} (hx0 : txB x0) (p1 : 0 ≤ x1 ∧ x1 ≤ 1000) (p2 : 0 ≤ x2 ∧ x2 ≤ 1000) (N20 : Int) (r20 : Int → Int → mD → Int) (ih20 : ∀ (x3 x4 : Int) (d : mD), Safe d → (x1 ≤ x4 ∧ x4 ≤ x2) → (x2 - x1 ≤ 6) → (0 ≤ x3 ∧ ((x4 = x1 + 0 ∧ x3 < 1) ∨ (x4 = x1 + 1 ∧ x3 < 32) ∨ (x4 = x1 + 2 ∧ x3 < 1024) ∨ (x4 = x1 + 3 ∧ x3 < 32768) ∨ (x4 = x1 + 4 ∧ x3 < 1048576) ∨ (x4 = x1 + 5 ∧ x3 < 33554432) ∨ (x4 = x1 + 6 ∧ x3 < 1073741824))) → 0 ≤ x2 - x4 → x2 - x4 < N20 → ((-1 ≤ (r20 x3 x4 d) ∧ (r20 x3 x4 d) ≤ 1073741823) → K (.inl (some (0, (r20 x3 x4 d)))) d) → tRun E 93 (20, [.inr (7, x0), .inl (0, x1), .inl (0, x2), .inl (0, x3), .inl (0, x4)], [], 0, 0, d) K) (x3 x4 : Int) (d : mD) (hS : Safe d) (i0 : x1 ≤ x4 ∧ x4 ≤ x2) (i1 : x2 - x1 ≤ 6) (i2 : 0 ≤ x3 ∧ ((x4 = x1 + 0 ∧ x3 < 1) ∨ (x4 = x1 + 1 ∧ x3 < 32) ∨ (x4 = x1 + 2 ∧ x3 < 1024) ∨ (x4 = x1 + 3 ∧ x3 < 32768) ∨ (x4 = x1 + 4 ∧ x3 < 1048576) ∨ (x4 = x1 + 5 ∧ x3 < 33554432) ∨ (x4 = x1 + 6 ∧ x3 < 1073741824))) (hm : x2 - x4 ≤ N20) (h : (-1 ≤ (st_93_20 x0 x1 x2 r20 x3 x4 d) ∧ (st_93_20 x0 x1 x2 r20 x3 x4 d) ≤ 1073741823) → K (.inl (some (0, (st_93_20 x0 x1 x2 r20 x3 x4 d)))) d) : tRun E 93 (20, [.inr (7, x0), .inl (0, x1), .inl (0, x2), .inl (0, x3), .inl (0, x4)], [], 0, 0, d) K := by
  refine t_93_20 ?_
  refine ⟨⟨m_inR (by omega) (by omega), m_inR (by omega) (by omega)⟩, fun c0 => ?_, fun c0 => ?_⟩
  · have y0 : st_93_20 x0 x1 x2 r20 x3 x4 d = x3 := by simp only [st_93_20, if_neg (show ¬ x4 < x2 from Int.not_lt.mpr c0)]
    rw [y0] at h
    exact h (show -1 ≤ x3 ∧ x3 ≤ 1073741823 from (by omega))
  · refine k_91 hS hx0 (by omega) (fun e1 => ?_)
    refine t_93_32 ?_
    have w1 := mname_or x3 (d (x0 + 1) x4 - 96)
    refine ⟨m_inR (by omega) (by omega), fun c1 => ?_, fun c1 => ?_⟩
    · refine ⟨by omega, ?_⟩
      refine ih20 (mior (mishl x3 5) ((d (x0 + 1) x4) - 96)) (x4 + 1)  d hS (by omega) (by omega) (by
        obtain ⟨z0, z⟩ := i2
        have hl : 1 ≤ d (x0 + 1) x4 - 96 ∧ d (x0 + 1) x4 - 96 ≤ 26 := by clear w1 z; omega
        rcases z with ⟨a, b⟩ | ⟨a, b⟩ | ⟨a, b⟩ | ⟨a, b⟩ | ⟨a, b⟩ | ⟨a, b⟩ | ⟨a, b⟩ <;> rcases w1 with w | w | w | w | w <;> omega) (by omega) (by omega) ?_
      intro e
      have y0 : st_93_20 x0 x1 x2 r20 x3 x4 d = r20 (mior (mishl x3 5) ((d (x0 + 1) x4) - 96)) (x4 + 1) d := by simp only [st_93_20, if_pos (show x4 < x2 from c0), if_neg (show ¬ v_91 x0 x4 d = 0 from c1)]
      rw [y0] at h
      exact h e
    · have y0 : st_93_20 x0 x1 x2 r20 x3 x4 d = (-1) := by simp only [st_93_20, if_pos (show x4 < x2 from c0), if_pos (show v_91 x0 x4 d = 0 from c1)]
      rw [y0] at h
      exact h (show -1 ≤ ((-1 : Int)) ∧ ((-1 : Int)) ≤ 1073741823 from (by omega))
theorem l_93_20 {E : mO × tW} {K : tK} {x0 x1 x2 : Int} (hx0 : txB x0) (p1 : 0 ≤ x1 ∧ x1 ≤ 1000) (p2 : 0 ≤ x2 ∧ x2 ≤ 1000) : ∀ (n : Nat) (x3 x4 : Int) (d : mD), Safe d → (x1 ≤ x4 ∧ x4 ≤ x2) → (x2 - x1 ≤ 6) → (0 ≤ x3 ∧ ((x4 = x1 + 0 ∧ x3 < 1) ∨ (x4 = x1 + 1 ∧ x3 < 32) ∨ (x4 = x1 + 2 ∧ x3 < 1024) ∨ (x4 = x1 + 3 ∧ x3 < 32768) ∨ (x4 = x1 + 4 ∧ x3 < 1048576) ∨ (x4 = x1 + 5 ∧ x3 < 33554432) ∨ (x4 = x1 + 6 ∧ x3 < 1073741824))) → x2 - x4 ≤ (n : Int) → ((-1 ≤ (lp_93_20 x0 x1 x2 n x3 x4 d) ∧ (lp_93_20 x0 x1 x2 n x3 x4 d) ≤ 1073741823) → K (.inl (some (0, (lp_93_20 x0 x1 x2 n x3 x4 d)))) d) → tRun E 93 (20, [.inr (7, x0), .inl (0, x1), .inl (0, x2), .inl (0, x3), .inl (0, x4)], [], 0, 0, d) K := by
  intro n
  induction n with
  | zero =>
    intro x3 x4  d hS i0 i1 i2 hm  h
    exact ls_93_20 hx0 p1 p2 0 _ (fun _ _  _ _ _ _ _ m0 m1 _ => absurd m1 (by omega)) x3 x4  d hS i0 i1 i2 hm  h
  | succ n ih =>
    intro x3 x4  d hS i0 i1 i2 hm  h
    exact ls_93_20 hx0 p1 p2 ((n + 1 : Nat) : Int) _ (fun x3 x4  d hS i0 i1 i2  m0 m1 h => ih x3 x4  d hS i0 i1 i2 (by omega)  h) x3 x4  d hS i0 i1 i2 hm  h
def v_93 (x0 x1 x2 : Int) (d : mD) : Int := if x1 < x2 then (if (6 : Int) < x2 - x1 then (-1) else lp_93_20 x0 x1 x2 (x2 - x1 : Int).toNat 0 x1 d) else (-1)
theorem k_93 {E : mO × tW} {K : tK} {d : mD} {x0 x1 x2 : Int} (hS : Safe d) (hx0 : txB x0) (p1 : 0 ≤ x1 ∧ x1 ≤ 1000) (p2 : 0 ≤ x2 ∧ x2 ≤ 1000) (h : (-1 ≤ (v_93 x0 x1 x2 d) ∧ (v_93 x0 x1 x2 d) ≤ 1073741823) → K (.inl (some (0, (v_93 x0 x1 x2 d)))) d) : tCall E 93 [.inr (7, x0), .inl (0, x1), .inl (0, x2)] d K := by
  refine t_93_0 ?_
  refine ⟨⟨m_inR (by omega) (by omega), m_inR (by omega) (by omega)⟩, fun c0 => ?_, fun c0 => ?_⟩
  · have y0 : v_93 x0 x1 x2 d = (-1) := by simp only [v_93, if_neg (show ¬ x1 < x2 from Int.not_lt.mpr c0)]
    rw [y0] at h
    exact h (show -1 ≤ ((-1 : Int)) ∧ ((-1 : Int)) ≤ 1073741823 from (by omega))
  · refine ⟨⟨m_inR (by omega) (by omega), m_inR (by omega) (by omega)⟩, fun c1 => ?_, fun c1 => ?_⟩
    · refine l_93_20 hx0 p1 p2 (x2 - x1 : Int).toNat 0 x1  d hS (by omega) (by omega) (by omega) (by omega) ?_
      intro e
      have y0 : v_93 x0 x1 x2 d = lp_93_20 x0 x1 x2 (x2 - x1 : Int).toNat 0 x1 d := by simp only [v_93, if_pos (show x1 < x2 from c0), if_neg (show ¬ (6 : Int) < x2 - x1 from Int.not_lt.mpr c1)]
      rw [y0] at h
      exact h e
    · have y0 : v_93 x0 x1 x2 d = (-1) := by simp only [v_93, if_pos (show x1 < x2 from c0), if_pos (show (6 : Int) < x2 - x1 from c1)]
      rw [y0] at h
      exact h (show -1 ≤ ((-1 : Int)) ∧ ((-1 : Int)) ≤ 1073741823 from (by omega))
/-! ===== contracts of the methods: printed by a program of mine ===== -/
def g_2 (x0 x1 : Int) (d : mD) : mD := mset (mset (g_59 (x0 + 1 + (1 + 63 * (d x0 1))) x1 d) x0 1 (((d x0 1) + 1) % 8)) x0 2 (mmin 8 ((d x0 2) + 1))
theorem k_2 {E : mO × tW} {K : tK} {d : mD} {x0 x1 : Int} (hS : Safe d) (hx0 : hiB x0) (hx1 : stB x1) (ht : d x1 2 ≤ 999) (h : (∀ b : Int, (b < x0 ∨ x0 < b) ∧ (b < x0 + 2 ∨ x0 + 505 < b) → (g_2 x0 x1 d) b = d b) → Safe (g_2 x0 x1 d) → K (.inl none) (g_2 x0 x1 d)) : tCall E 2 [.inr (0, x0), .inr (6, x1)] d K := by
  refine t_2_0 ?_
  have w0 : x0 = 64 := hx0
  have w2 := r_6_f2 hS hx1
  have q1 := r_0_f1 hS hx0
  refine ⟨by omega, ?_⟩
  have hp1 : stB (x0 + 1 + (1 + 63 * (d x0 1))) := hiB.st hx0 (by omega) (by omega)
  refine k_59 hS hp1 hx1 (by omega) (fun F1 k1_0 hS2 => ?_)
  refine t_2_13 ?_
  rw [F1 x0 (by omega)]
  refine ⟨by omega, ?_⟩
  have hS3 : Safe (mset (g_59 (x0 + 1 + (1 + 63 * (d x0 1))) x1 d) x0 1 (((d x0 1) + 1) % 8)) := s_0_f1 hS2 hx0 (by omega)
  rw [mset_ni (d := g_59 (x0 + 1 + (1 + 63 * (d x0 1))) x1 d) (a := x0) (i := (1 : Int)) (v := ((d x0 1) + 1) % 8) (b := x0) (j := (2 : Int)) (by omega)]
  rw [F1 x0 (by omega)]
  have q2 := r_0_f2 hS hx0
  have q3 := mmin_r 8 ((d x0 2) + 1)
  refine ⟨⟨m_inR (by omega) (by omega), m_inR (by omega) (by omega)⟩, ?_⟩
  have hS4 : Safe (mset (mset (g_59 (x0 + 1 + (1 + 63 * (d x0 1))) x1 d) x0 1 (((d x0 1) + 1) % 8)) x0 2 (mmin 8 ((d x0 2) + 1))) := s_0_f2 hS3 hx0 (by omega)
  have y0 : g_2 x0 x1 d = mset (mset (g_59 (x0 + 1 + (1 + 63 * (d x0 1))) x1 d) x0 1 (((d x0 1) + 1) % 8)) x0 2 (mmin 8 ((d x0 2) + 1)) := by simp only [g_2]
  rw [y0] at h
  exact h (show ∀ b : Int, (b < x0 ∨ x0 < b) ∧ (b < x0 + 2 ∨ x0 + 505 < b) → (mset (mset (g_59 (x0 + 1 + (1 + 63 * (d x0 1))) x1 d) x0 1 (((d x0 1) + 1) % 8)) x0 2 (mmin 8 ((d x0 2) + 1))) b = d b from fun b hb => (mset_ne (by omega)).trans ((mset_ne (by omega)).trans (F1 b (by omega)))) hS4
def g_3 (x0 x1 : Int) (d : mD) : mD := g_59 x1 (x0 + 1 + (1 + 63 * ((((d x0 1) + 8) - 1) % 8))) (mset (mset d x0 1 ((((d x0 1) + 8) - 1) % 8)) x0 2 ((d x0 2) - 1))
theorem k_3 {E : mO × tW} {K : tK} {d : mD} {x0 x1 : Int} (hS : Safe d) (hx0 : hiB x0) (hx1 : stB x1) (hc : 1 ≤ d x0 2) (h : (∀ b : Int, (b < x0 ∨ x0 < b) ∧ (b < x1 ∨ x1 + 15 < b) ∧ (b < x1 + 18 ∨ x1 + 62 < b) → (g_3 x0 x1 d) b = d b) → Safe (g_3 x0 x1 d) → K (.inl none) (g_3 x0 x1 d)) : tCall E 3 [.inr (0, x0), .inr (6, x1)] d K := by
  refine t_3_0 ?_
  have w0 : x0 = 64 := hx0
  have w2 := r_6_f2 hS hx1
  have q1 := r_0_f1 hS hx0
  refine ⟨by omega, ?_⟩
  have hS1 : Safe (mset d x0 1 ((((d x0 1) + 8) - 1) % 8)) := s_0_f1 hS hx0 (by omega)
  rw [mset_ni (d := d) (a := x0) (i := (1 : Int)) (v := (((d x0 1) + 8) - 1) % 8) (b := x0) (j := (2 : Int)) (by omega)]
  have q2 := r_0_f2 hS hx0
  have hS2 : Safe (mset (mset d x0 1 ((((d x0 1) + 8) - 1) % 8)) x0 2 ((d x0 2) - 1)) := s_0_f2 hS1 hx0 (by omega)
  rw [mset_ni (d := mset d x0 1 ((((d x0 1) + 8) - 1) % 8)) (a := x0) (i := (2 : Int)) (v := (d x0 2) - 1) (b := x0) (j := (1 : Int)) (by omega)]
  rw [mset_eq (d := d) (a := x0) (i := (1 : Int)) (v := (((d x0 1) + 8) - 1) % 8)]
  refine ⟨by omega, ?_⟩
  have hp3 : stB (x0 + 1 + (1 + 63 * ((((d x0 1) + 8) - 1) % 8))) := hiB.st hx0 (by omega) (by omega)
  have q3 : (mset (mset d x0 1 ((((d x0 1) + 8) - 1) % 8)) x0 2 ((d x0 2) - 1)) (x0 + 1 + (1 + 63 * ((((d x0 1) + 8) - 1) % 8))) 2 = d (x0 + 1 + (1 + 63 * ((((d x0 1) + 8) - 1) % 8))) 2 := (congrFun (mset_ne (by omega)) 2).trans (congrFun (mset_ne (by omega)) 2)
  refine k_59 hS2 hx1 hp3 (by have w := r_6_f2 hS2 hp3; omega) (fun F1 k1_0 hS4 => ?_)
  refine t_3_39 ?_
  have y0 : g_3 x0 x1 d = g_59 x1 (x0 + 1 + (1 + 63 * ((((d x0 1) + 8) - 1) % 8))) (mset (mset d x0 1 ((((d x0 1) + 8) - 1) % 8)) x0 2 ((d x0 2) - 1)) := by simp only [g_3]
  rw [y0] at h
  exact h (show ∀ b : Int, (b < x0 ∨ x0 < b) ∧ (b < x1 ∨ x1 + 15 < b) ∧ (b < x1 + 18 ∨ x1 + 62 < b) → (g_59 x1 (x0 + 1 + (1 + 63 * ((((d x0 1) + 8) - 1) % 8))) (mset (mset d x0 1 ((((d x0 1) + 8) - 1) % 8)) x0 2 ((d x0 2) - 1))) b = d b from fun b hb => (F1 b (by omega)).trans ((mset_ne (by omega)).trans (mset_ne (by omega)))) hS4
def g_4 (x0 : Int) (d : mD) : mD := mset d x0 2 0
theorem k_4 {E : mO × tW} {K : tK} {d : mD} {x0 : Int} (hS : Safe d) (hx0 : hiB x0) (h : (∀ b : Int, (b < x0 ∨ x0 < b) → (g_4 x0 d) b = d b) → Safe (g_4 x0 d) → K (.inl none) (g_4 x0 d)) : tCall E 4 [.inr (0, x0)] d K := by
  refine t_4_0 ?_
  have hS1 : Safe (mset d x0 2 0) := s_0_f2 hS hx0 (by omega)
  have y0 : g_4 x0 d = mset d x0 2 0 := by simp only [g_4]
  rw [y0] at h
  exact h (show ∀ b : Int, (b < x0 ∨ x0 < b) → (mset d x0 2 0) b = d b from fun b hb => mset_ne (by omega)) hS1
