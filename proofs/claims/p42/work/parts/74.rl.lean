/-! ===== contracts of the reference's methods: printed by a program of mine ===== -/
def rkP (f : Int → Int) : Prop := f 11 ≤ csum (fun k => if f (1916 + 5 * k + 3) = 1 then 1 else 0) (f 10).toNat
theorem rkP.of {f g : Int → Int} (h10 : 0 ≤ g 10 ∧ g 10 ≤ 200) (Q : ∀ i : Int, i = 10 ∨ i = 11 ∨ (1916 ≤ i ∧ i < 2916 ∧ (i - 1916) % 5 = 3) → f i = g i) (h : rkP g) : rkP f := by
  unfold rkP at h ⊢
  rw [Q 10 (by omega), Q 11 (by omega)]
  rw [csum_congr (g := fun k => if g (1916 + 5 * k + 3) = 1 then 1 else 0) (fun i h0 h1 => by rw [Q (1916 + 5 * i + 3) (by omega)])]
  exact h
theorem csum_lt {f : Int → Int} {n : Nat} (h : ∀ i : Int, 0 ≤ i → i < (n : Int) → 0 ≤ f i ∧ f i ≤ 1) {k : Int} (h0 : 0 ≤ k) (h1 : k < (n : Int)) (hk : f k = 0) : csum f n + 1 ≤ (n : Int) := by
  induction n with
  | zero => omega
  | succ n ih =>
    show csum f n + f (n : Int) + 1 ≤ _
    by_cases e : k = (n : Int)
    · subst e
      have := csum_rng (f := f) (n := n) (B := 1) (fun i a b => h i a (by omega))
      omega
    · have := ih (fun i a b => h i a (by omega)) (by omega)
      have := h (n : Int) (by omega) (by omega)
      omega
theorem csum_one {f g : Int → Int} {n : Nat} {k : Int} (h0 : 0 ≤ k) (h1 : k < (n : Int)) (hk : f k = g k + 1) (ho : ∀ i : Int, 0 ≤ i → i < (n : Int) → i ≠ k → f i = g i) : csum f n = csum g n + 1 := by
  induction n with
  | zero => omega
  | succ n ih =>
    show csum f n + f (n : Int) = csum g n + g (n : Int) + 1
    by_cases e : k = (n : Int)
    · subst e
      rw [csum_congr (g := g) (fun i a b => ho i a (by omega) (by omega)), hk]
      omega
    · rw [ih (by omega) (fun i a b c => ho i a (by omega) c), ho (n : Int) (by omega) (by omega) (fun c => e c.symm)]
      omega
theorem rk_lt {f : Int → Int} (h : rkP f) (h10 : 0 ≤ f 10 ∧ f 10 ≤ 200) (k : Int) : (0 ≤ k ∧ k < f 10 ∧ ¬ f (1916 + 5 * k + 3) = 1 ∧ f 11 ≤ 199) ∨ k < 0 ∨ f 10 ≤ k ∨ f (1916 + 5 * k + 3) = 1 := by
  by_cases c : 0 ≤ k ∧ k < f 10 ∧ ¬ f (1916 + 5 * k + 3) = 1
  · left
    refine ⟨c.1, c.2.1, c.2.2, ?_⟩
    unfold rkP at h
    have := csum_lt (f := fun k => if f (1916 + 5 * k + 3) = 1 then 1 else 0) (n := (f 10).toNat) (fun i _ _ => by split <;> omega) c.1 (by omega) (if_neg c.2.2)
    omega
  · omega
theorem rkP.offer {f g : Int → Int} {k : Int} (h10 : f 10 = g 10) (h11 : f 11 = g 11 + 1) (hk : 0 ≤ k ∧ k < g 10) (hk0 : ¬ g (1916 + 5 * k + 3) = 1) (hk1 : f (1916 + 5 * k + 3) = 1) (ho : ∀ j, 0 ≤ j → j < g 10 → j ≠ k → f (1916 + 5 * j + 3) = g (1916 + 5 * j + 3)) (h : rkP g) : rkP f := by
  unfold rkP at h ⊢
  rw [h10, h11, csum_one (g := fun k => if g (1916 + 5 * k + 3) = 1 then 1 else 0) hk.1 (by omega) (by rw [if_pos hk1, if_neg hk0]; rfl) (fun i a b c => by rw [ho i a (by omega) c])]
  omega
def st_286_65 (x0 x1 x2 : Int) (r65 : Int → Int → mD → Int × mD) (x3 x4 : Int) (d : mD) : Int × mD := if x4 < d (x0 + 1) 10 then (if (0 : Int) < x3 then (if d (x0 + 1) ((1916 + (5 * x4)) + 0) = x1 then (if d (x0 + 1) ((1916 + (5 * x4)) + 3) = 0 then r65 (x3 + (-1)) (x4 + 1) (mset (mset (mset d (x0 + 1) ((1916 + (5 * x4)) + 3) 1) (x0 + 1) (2916 + (d (x0 + 1) 11)) x4) (x0 + 1) 11 ((d (x0 + 1) 11) + 1)) else r65 x3 (x4 + 1) d) else r65 x3 (x4 + 1) d) else (v_219 x0 d, g_219 x0 d)) else (v_219 x0 d, g_219 x0 d)
def lp_286_65 (x0 x1 x2 : Int) : Nat → Int → Int → mD → Int × mD
  | 0 => st_286_65 x0 x1 x2 (fun _ _ d => (0, d))
  | n + 1 => st_286_65 x0 x1 x2 (lp_286_65 x0 x1 x2 n)
theorem ls_286_65 {E : mO × tW} {K : tK} {x0 x1 x2 : Int} (hx0 : mdB x0) (p1 : -2147483648 ≤ x1 ∧ x1 ≤ 2147483647) (p2 : -2147483648 ≤ x2 ∧ x2 ≤ 2147483647) (N65 : Int) (r65 : Int → Int → mD → Int × mD) (ih65 : ∀ (x3 x4 : Int) (d : mD), Safe d → (0 ≤ x4 ∧ x4 ≤ 200) → (0 ≤ x3 ∧ x3 ≤ 200) → (rkP (d (x0 + 1))) → 0 ≤ 200 - x4 → 200 - x4 < N65 → ((∀ b : Int, (b < x0 ∨ x0 + 2 < b) → (r65 x3 x4 d).2 b = d b) → Safe (r65 x3 x4 d).2 → K (.inl (some (0, (r65 x3 x4 d).1))) (r65 x3 x4 d).2) → tRun E 286 (65, [.inr (11, x0), .inl (0, x1), .inl (0, x2), .inl (0, x3), .inl (0, x4)], [], 0, 0, d) K) (x3 x4 : Int) (d : mD) (hS : Safe d) (i0 : 0 ≤ x4 ∧ x4 ≤ 200) (i1 : 0 ≤ x3 ∧ x3 ≤ 200) (hrk : rkP (d (x0 + 1))) (hm : 200 - x4 ≤ N65) (h : (∀ b : Int, (b < x0 ∨ x0 + 2 < b) → (st_286_65 x0 x1 x2 r65 x3 x4 d).2 b = d b) → Safe (st_286_65 x0 x1 x2 r65 x3 x4 d).2 → K (.inl (some (0, (st_286_65 x0 x1 x2 r65 x3 x4 d).1))) (st_286_65 x0 x1 x2 r65 x3 x4 d).2) : tRun E 286 (65, [.inr (11, x0), .inl (0, x1), .inl (0, x2), .inl (0, x3), .inl (0, x4)], [], 0, 0, d) K := by
  refine t_286_65 ?_
  have w1 := rk_lt hrk (mh_10 hS hx0 _ rfl) x4
  have q1 := mh_10 hS hx0 _ rfl
  refine ⟨by omega, ⟨m_inR (by omega) (by omega), m_inR (by omega) (by omega)⟩, fun c0 => ?_, fun c0 => ?_⟩
  · refine k_219 hS hx0 (fun e1 F1 Q1 hS1 => ?_)
    refine t_286_167 ?_
    have y0 : st_286_65 x0 x1 x2 r65 x3 x4 d = (v_219 x0 d, g_219 x0 d) := by simp only [st_286_65, if_neg (show ¬ x4 < d (x0 + 1) 10 from Int.not_lt.mpr c0)]
    rw [y0] at h
    exact h (show ∀ b : Int, (b < x0 ∨ x0 + 2 < b) → (g_219 x0 d) b = d b from fun b hb => F1 b (by omega)) hS1
  · refine ⟨m_inR (by omega) (by omega), fun c1 => ?_, fun c1 => ?_⟩
    · refine k_219 hS hx0 (fun e2 F2 Q2 hS2 => ?_)
      refine t_286_167 ?_
      have y0 : st_286_65 x0 x1 x2 r65 x3 x4 d = (v_219 x0 d, g_219 x0 d) := by simp only [st_286_65, if_pos (show x4 < d (x0 + 1) 10 from c0), if_neg (show ¬ (0 : Int) < x3 from Int.not_lt.mpr c1)]
      rw [y0] at h
      exact h (show ∀ b : Int, (b < x0 ∨ x0 + 2 < b) → (g_219 x0 d) b = d b from fun b hb => F2 b (by omega)) hS2
    · refine k_180 hS ?_
      refine t_286_90 ?_
      have q2 := mk_0 hS hx0 x4 ((1916 + (5 * x4)) + 0) (by omega) (by omega)
      refine ⟨by omega, ⟨m_inR (by omega) (by omega), m_inR (by omega) (by omega)⟩, fun c2 => ?_, fun c2 => ?_⟩
      · refine ih65 x3 (x4 + 1)  d hS (by omega) (by omega) hrk (by omega) (by omega) ?_
        intro F hS_
        have y0 : st_286_65 x0 x1 x2 r65 x3 x4 d = r65 x3 (x4 + 1) d := by simp only [st_286_65, if_pos (show x4 < d (x0 + 1) 10 from c0), if_pos (show (0 : Int) < x3 from c1), if_neg (show ¬ d (x0 + 1) ((1916 + (5 * x4)) + 0) = x1 from c2)]
        rw [y0] at h
        exact h F hS_
      · refine k_180 hS ?_
        refine t_286_106 ?_
        have q3 := mk_3 hS hx0 x4 ((1916 + (5 * x4)) + 3) (by omega) (by omega)
        refine ⟨by omega, m_inR (by omega) (by omega), fun c3 => ?_, fun c3 => ?_⟩
        · refine ih65 x3 (x4 + 1)  d hS (by omega) (by omega) hrk (by omega) (by omega) ?_
          intro F hS_
          have y0 : st_286_65 x0 x1 x2 r65 x3 x4 d = r65 x3 (x4 + 1) d := by simp only [st_286_65, if_pos (show x4 < d (x0 + 1) 10 from c0), if_pos (show (0 : Int) < x3 from c1), if_pos (show d (x0 + 1) ((1916 + (5 * x4)) + 0) = x1 from c2), if_neg (show ¬ d (x0 + 1) ((1916 + (5 * x4)) + 3) = 0 from c3)]
          rw [y0] at h
          exact h F hS_
        · refine k_180 hS ?_
          refine t_286_121 ?_
          refine ⟨by omega, ?_⟩
          have hS3 : Safe (mset d (x0 + 1) ((1916 + (5 * x4)) + 3) 1) := smk_3 hS hx0 x4 ((1916 + (5 * x4)) + 3) (by omega) (by omega) (by omega)
          rw [mset_ni (d := d) (a := x0 + 1) (i := (1916 + (5 * x4)) + 3) (v := (1 : Int)) (b := x0 + 1) (j := (11 : Int)) (by omega)]
          have q4 := mh_11 hS hx0 _ rfl
          refine ⟨by omega, by omega, ?_⟩
          have hS4 : Safe (mset (mset d (x0 + 1) ((1916 + (5 * x4)) + 3) 1) (x0 + 1) (2916 + (d (x0 + 1) 11)) x4) := smf hS3 hx0 (d (x0 + 1) 11) (2916 + (d (x0 + 1) 11)) (by omega) (by omega) (by omega)
          rw [mset_ni (d := mset d (x0 + 1) ((1916 + (5 * x4)) + 3) 1) (a := x0 + 1) (i := 2916 + (d (x0 + 1) 11)) (v := x4) (b := x0 + 1) (j := (11 : Int)) (by omega)]
          rw [mset_ni (d := d) (a := x0 + 1) (i := (1916 + (5 * x4)) + 3) (v := (1 : Int)) (b := x0 + 1) (j := (11 : Int)) (by omega)]
          refine ⟨by omega, by omega, ?_⟩
          have hS5 : Safe (mset (mset (mset d (x0 + 1) ((1916 + (5 * x4)) + 3) 1) (x0 + 1) (2916 + (d (x0 + 1) 11)) x4) (x0 + 1) 11 ((d (x0 + 1) 11) + 1)) := smh_11 hS4 hx0 _ rfl (by omega)
          refine ih65 (x3 + (-1)) (x4 + 1)  (mset (mset (mset d (x0 + 1) ((1916 + (5 * x4)) + 3) 1) (x0 + 1) (2916 + (d (x0 + 1) 11)) x4) (x0 + 1) 11 ((d (x0 + 1) 11) + 1)) hS5 (by omega) (by omega) (rkP.offer (k := x4) ((mset_ni (by omega)).trans ((mset_ni (by omega)).trans (mset_ni (by omega)))) mset_eq (by omega) (by omega) ((mset_ni (by omega)).trans ((mset_ni (by omega)).trans mset_eq)) (fun j j0 j1 j2 => (mset_ni (by omega)).trans ((mset_ni (by omega)).trans (mset_ni (by omega)))) hrk) (by omega) (by omega) ?_
          intro F hS_
          have y0 : st_286_65 x0 x1 x2 r65 x3 x4 d = r65 (x3 + (-1)) (x4 + 1) (mset (mset (mset d (x0 + 1) ((1916 + (5 * x4)) + 3) 1) (x0 + 1) (2916 + (d (x0 + 1) 11)) x4) (x0 + 1) 11 ((d (x0 + 1) 11) + 1)) := by simp only [st_286_65, if_pos (show x4 < d (x0 + 1) 10 from c0), if_pos (show (0 : Int) < x3 from c1), if_pos (show d (x0 + 1) ((1916 + (5 * x4)) + 0) = x1 from c2), if_pos (show d (x0 + 1) ((1916 + (5 * x4)) + 3) = 0 from c3)]
          rw [y0] at h
          exact h (fun b hb => (F b hb).trans ((show ∀ b : Int, (b < x0 ∨ x0 + 2 < b) → (mset (mset (mset d (x0 + 1) ((1916 + (5 * x4)) + 3) 1) (x0 + 1) (2916 + (d (x0 + 1) 11)) x4) (x0 + 1) 11 ((d (x0 + 1) 11) + 1)) b = d b from fun b hb => (mset_ne (by omega)).trans ((mset_ne (by omega)).trans (mset_ne (by omega)))) b hb)) hS_
theorem l_286_65 {E : mO × tW} {K : tK} {x0 x1 x2 : Int} (hx0 : mdB x0) (p1 : -2147483648 ≤ x1 ∧ x1 ≤ 2147483647) (p2 : -2147483648 ≤ x2 ∧ x2 ≤ 2147483647) : ∀ (n : Nat) (x3 x4 : Int) (d : mD), Safe d → (0 ≤ x4 ∧ x4 ≤ 200) → (0 ≤ x3 ∧ x3 ≤ 200) → (rkP (d (x0 + 1))) → 200 - x4 ≤ (n : Int) → ((∀ b : Int, (b < x0 ∨ x0 + 2 < b) → (lp_286_65 x0 x1 x2 n x3 x4 d).2 b = d b) → Safe (lp_286_65 x0 x1 x2 n x3 x4 d).2 → K (.inl (some (0, (lp_286_65 x0 x1 x2 n x3 x4 d).1))) (lp_286_65 x0 x1 x2 n x3 x4 d).2) → tRun E 286 (65, [.inr (11, x0), .inl (0, x1), .inl (0, x2), .inl (0, x3), .inl (0, x4)], [], 0, 0, d) K := by
  intro n
  induction n with
  | zero =>
    intro x3 x4  d hS i0 i1 hrk hm  h
    exact ls_286_65 hx0 p1 p2 0 _ (fun _ _  _ _ _ _ _ m0 m1 _ => absurd m1 (by omega)) x3 x4  d hS i0 i1 hrk hm  h
  | succ n ih =>
    intro x3 x4  d hS i0 i1 hrk hm  h
    exact ls_286_65 hx0 p1 p2 ((n + 1 : Nat) : Int) _ (fun x3 x4  d hS i0 i1 hrk  m0 m1 h => ih x3 x4  d hS i0 i1 hrk (by omega)  h) x3 x4  d hS i0 i1 hrk hm  h
def f_286 (x0 x1 x2 : Int) (d : mD) : Int × mD := if v_237 x0 x1 d = 0 then (0, mset d x0 0 1) else if v_176 x2 1 200 d = 0 then (0, mset d x0 0 2) else if v_245 x0 x1 0 d < x2 then (0, mset d x0 0 3) else lp_286_65 x0 x1 x2 (200 - 0 : Int).toNat x2 0 (g_278 x0 (mset d x0 0 0))
def v_286 (x0 x1 x2 : Int) (d : mD) : Int := (f_286 x0 x1 x2 d).1
def g_286 (x0 x1 x2 : Int) (d : mD) : mD := (f_286 x0 x1 x2 d).2
theorem k_286 {E : mO × tW} {K : tK} {d : mD} {x0 x1 x2 : Int} (hS : Safe d) (hx0 : mdB x0) (p1 : -2147483648 ≤ x1 ∧ x1 ≤ 2147483647) (p2 : -2147483648 ≤ x2 ∧ x2 ≤ 2147483647) (hrk : rkP (d (x0 + 1))) (h : (∀ b : Int, (b < x0 ∨ x0 + 2 < b) → (g_286 x0 x1 x2 d) b = d b) → Safe (g_286 x0 x1 x2 d) → K (.inl (some (0, (v_286 x0 x1 x2 d)))) (g_286 x0 x1 x2 d)) : tCall E 286 [.inr (11, x0), .inl (0, x1), .inl (0, x2)] d K := by
  simp only [v_286, g_286] at h
  refine t_286_0 ?_
  have w0 := mh_0 hS hx0 _ rfl
  have w7 := mh_7 hS hx0 _ rfl
  have w8 := mh_8 hS hx0 _ rfl
  have w9 := mh_9 hS hx0 _ rfl
  have w10 := mh_10 hS hx0 _ rfl
  have w11 := mh_11 hS hx0 _ rfl
  refine k_237 hS hx0 (m_inR (by omega) (by omega)) (fun e3 => ?_)
  refine t_286_6 ?_
  refine ⟨m_inR (by omega) (by omega), fun c0 => ?_, fun c0 => ?_⟩
  · refine ⟨m_inR (by omega) (by omega), ?_⟩
    refine k_176 hS (m_inR (by omega) (by omega)) (m_inR (by omega) (by omega)) (m_inR (by omega) (by omega)) (fun e4 => ?_)
    refine t_286_22 ?_
    refine ⟨m_inR (by omega) (by omega), fun c1 => ?_, fun c1 => ?_⟩
    · refine k_245 hS hx0 (m_inR (by omega) (by omega)) (m_inR (by omega) (by omega)) (fun e5 => ?_)
      refine t_286_35 ?_
      refine ⟨⟨m_inR (by omega) (by omega), m_inR (by omega) (by omega)⟩, fun c2 => ?_, fun c2 => ?_⟩
      · have hS6 : Safe (mset d x0 0 0) := s_11_f0 hS hx0 (by omega)
        rw [mset_eq (d := d) (a := x0) (i := (0 : Int)) (v := (0 : Int))]
        refine ⟨m_inR (by omega) (by omega), fun c3 => ?_, fun c3 => ?_⟩
        · refine k_278 hS6 hx0 (fun F3 hS7 => ?_)
          refine t_286_60 ?_
          refine l_286_65 hx0 p1 p2 (200 - 0 : Int).toNat x2 0  (g_278 x0 (mset d x0 0 0)) hS7 (by omega) (by omega) (rkP.of (mh_10 hS hx0 _ rfl) (show ∀ i : Int, i = 10 ∨ i = 11 ∨ (1916 ≤ i ∧ i < 2916 ∧ (i - 1916) % 5 = 3) → (g_278 x0 (mset d x0 0 0)) (x0 + 1) i = d (x0 + 1) i from fun i hi => (congrFun (F3 (x0 + 1) (by omega)) i).trans (congrFun (mset_ne (by omega)) i)) hrk) (by omega) ?_
          intro F hS_
          have y0 : f_286 x0 x1 x2 d = lp_286_65 x0 x1 x2 (200 - 0 : Int).toNat x2 0 (g_278 x0 (mset d x0 0 0)) := by simp only [f_286, if_neg (show ¬ v_237 x0 x1 d = 0 from c0), if_neg (show ¬ v_176 x2 1 200 d = 0 from c1), if_neg (show ¬ v_245 x0 x1 0 d < x2 from Int.not_lt.mpr c2), if_neg (show ¬ (0 : Int) < 0 from Int.not_lt.mpr c3)]
          rw [y0] at h
          exact h (fun b hb => (F b hb).trans ((show ∀ b : Int, (b < x0 ∨ x0 + 2 < b) → (g_278 x0 (mset d x0 0 0)) b = d b from fun b hb => (F3 b (by omega)).trans (mset_ne (by omega))) b hb)) hS_
        · exact (show False by omega).elim
      · have hS8 : Safe (mset d x0 0 3) := s_11_f0 hS hx0 (by omega)
        rw [mset_eq (d := d) (a := x0) (i := (0 : Int)) (v := (3 : Int))]
        refine ⟨m_inR (by omega) (by omega), fun c3 => ?_, fun c3 => ?_⟩
        · exact (show False by omega).elim
        · have y0 : f_286 x0 x1 x2 d = (0, mset d x0 0 3) := by simp only [f_286, if_neg (show ¬ v_237 x0 x1 d = 0 from c0), if_neg (show ¬ v_176 x2 1 200 d = 0 from c1), if_pos (show v_245 x0 x1 0 d < x2 from c2), if_pos (show (0 : Int) < 3 from c3)]
          rw [y0] at h
          exact h (show ∀ b : Int, (b < x0 ∨ x0 + 2 < b) → (mset d x0 0 3) b = d b from fun b hb => mset_ne (by omega)) hS8
    · have hS9 : Safe (mset d x0 0 2) := s_11_f0 hS hx0 (by omega)
      rw [mset_eq (d := d) (a := x0) (i := (0 : Int)) (v := (2 : Int))]
      refine ⟨m_inR (by omega) (by omega), fun c2 => ?_, fun c2 => ?_⟩
      · exact (show False by omega).elim
      · have y0 : f_286 x0 x1 x2 d = (0, mset d x0 0 2) := by simp only [f_286, if_neg (show ¬ v_237 x0 x1 d = 0 from c0), if_pos (show v_176 x2 1 200 d = 0 from c1), if_pos (show (0 : Int) < 2 from c2)]
        rw [y0] at h
        exact h (show ∀ b : Int, (b < x0 ∨ x0 + 2 < b) → (mset d x0 0 2) b = d b from fun b hb => mset_ne (by omega)) hS9
  · have hS10 : Safe (mset d x0 0 1) := s_11_f0 hS hx0 (by omega)
    rw [mset_eq (d := d) (a := x0) (i := (0 : Int)) (v := (1 : Int))]
    refine ⟨m_inR (by omega) (by omega), fun c1 => ?_, fun c1 => ?_⟩
    · exact (show False by omega).elim
    · have y0 : f_286 x0 x1 x2 d = (0, mset d x0 0 1) := by simp only [f_286, if_pos (show v_237 x0 x1 d = 0 from c0), if_pos (show (0 : Int) < 1 from c1)]
      rw [y0] at h
      exact h (show ∀ b : Int, (b < x0 ∨ x0 + 2 < b) → (mset d x0 0 1) b = d b from fun b hb => mset_ne (by omega)) hS10
theorem v221c {x0 x1 : Int} {d d' : mD} (h : d' (x0 + 1) = d (x0 + 1)) : v_221 x0 x1 d' = v_221 x0 x1 d := by
  have g : ∀ (n : Nat) (a b : Int), lp_221_17 x0 x1 n a b d' = lp_221_17 x0 x1 n a b d := by
    intro n
    induction n with
    | zero => intro a b; show st_221_17 x0 x1 _ a b d' = st_221_17 x0 x1 _ a b d; unfold st_221_17; rw [h]
    | succ n ih => intro a b; show st_221_17 x0 x1 _ a b d' = st_221_17 x0 x1 _ a b d; unfold st_221_17; rw [h, ih]
  unfold v_221
  rw [h, g]
def v_280 (x0 x1 : Int) (d : mD) : Int := if v_238 x0 x1 d = 0 then 0 else if d (x0 + 1) ((452 + (24 * x1)) + 4) = 0 then ((g_220 x0 (d (x0 + 1) ((452 + (24 * x1)) + 1)) (v_221 x0 x1 (g_278 x0 (mset d x0 0 0))) (g_278 x0 (mset d x0 0 0))) (x0 + 1) 0) - ((g_220 x0 (d (x0 + 1) ((452 + (24 * x1)) + 1)) (v_221 x0 x1 (g_278 x0 (mset d x0 0 0))) (g_278 x0 (mset d x0 0 0))) (x0 + 1) ((452 + (24 * x1)) + 2)) else 0
def g_280 (x0 x1 : Int) (d : mD) : mD := if v_238 x0 x1 d = 0 then mset d x0 0 1 else if d (x0 + 1) ((452 + (24 * x1)) + 4) = 0 then mset (mset (g_220 x0 (d (x0 + 1) ((452 + (24 * x1)) + 1)) (v_221 x0 x1 (g_278 x0 (mset d x0 0 0))) (g_278 x0 (mset d x0 0 0))) (x0 + 1) ((452 + (24 * x1)) + 4) 2) (x0 + 1) ((452 + (24 * x1)) + 3) ((g_220 x0 (d (x0 + 1) ((452 + (24 * x1)) + 1)) (v_221 x0 x1 (g_278 x0 (mset d x0 0 0))) (g_278 x0 (mset d x0 0 0))) (x0 + 1) 0) else mset d x0 0 2
theorem k_280 {E : mO × tW} {K : tK} {d : mD} {x0 x1 : Int} (hS : Safe d) (hx0 : mdB x0) (p1 : -2147483648 ≤ x1 ∧ x1 ≤ 2147483647) (hwq : x1 < 0 ∨ d (x0 + 1) 9 ≤ x1 ∨ ¬ d (x0 + 1) (452 + 24 * x1 + 4) = 0 ∨ (0 ≤ v_221 x0 x1 d ∧ 1 ≤ d (x0 + 1) (12 + 68 * d (x0 + 1) (452 + 24 * x1 + 1) + 5))) (h : (∀ b : Int, (b < x0 ∨ x0 + 2 < b) → (g_280 x0 x1 d) b = d b) → Safe (g_280 x0 x1 d) → K (.inl (some (0, (v_280 x0 x1 d)))) (g_280 x0 x1 d)) : tCall E 280 [.inr (11, x0), .inl (0, x1)] d K := by
  refine t_280_0 ?_
  have w0 := mh_0 hS hx0 _ rfl
  have w7 := mh_7 hS hx0 _ rfl
  have w8 := mh_8 hS hx0 _ rfl
  have w9 := mh_9 hS hx0 _ rfl
  have w10 := mh_10 hS hx0 _ rfl
  have w11 := mh_11 hS hx0 _ rfl
  refine k_238 hS hx0 (m_inR (by omega) (by omega)) (fun e1 => ?_)
  refine t_280_6 ?_
  refine ⟨m_inR (by omega) (by omega), fun c0 => ?_, fun c0 => ?_⟩
  · refine k_179 hS ?_
    refine t_280_21 ?_
    have q1 := mt_4 hS hx0 x1 ((452 + (24 * x1)) + 4) (by omega) (by omega)
    refine ⟨by omega, m_inR (by omega) (by omega), fun c1 => ?_, fun c1 => ?_⟩
    · have hS1 : Safe (mset d x0 0 2) := s_11_f0 hS hx0 (by omega)
      rw [mset_eq (d := d) (a := x0) (i := (0 : Int)) (v := (2 : Int))]
      refine ⟨m_inR (by omega) (by omega), fun c2 => ?_, fun c2 => ?_⟩
      · exact (show False by omega).elim
      · have y0 : v_280 x0 x1 d = 0 := by simp only [v_280, if_neg (show ¬ v_238 x0 x1 d = 0 from c0), if_neg (show ¬ d (x0 + 1) ((452 + (24 * x1)) + 4) = 0 from c1), if_pos (show (0 : Int) < 2 from c2)]
        have y1 : g_280 x0 x1 d = mset d x0 0 2 := by simp only [g_280, if_neg (show ¬ v_238 x0 x1 d = 0 from c0), if_neg (show ¬ d (x0 + 1) ((452 + (24 * x1)) + 4) = 0 from c1), if_pos (show (0 : Int) < 2 from c2)]
        rw [y0] at h
        rw [y1] at h
        exact h (show ∀ b : Int, (b < x0 ∨ x0 + 2 < b) → (mset d x0 0 2) b = d b from fun b hb => mset_ne (by omega)) hS1
    · have hS2 : Safe (mset d x0 0 0) := s_11_f0 hS hx0 (by omega)
      rw [mset_eq (d := d) (a := x0) (i := (0 : Int)) (v := (0 : Int))]
      refine ⟨m_inR (by omega) (by omega), fun c2 => ?_, fun c2 => ?_⟩
      · refine k_278 hS2 hx0 (fun F1 hS3 => ?_)
        refine t_280_48 ?_
        refine k_179 hS3 ?_
        refine t_280_57 ?_
        rw [F1 (x0 + 1) (by omega)]
        rw [mset_ne (d := d) (a := x0) (i := (0 : Int)) (v := (0 : Int)) (b := x0 + 1) (by omega)]
        refine ⟨by omega, ?_⟩
        refine k_221 hS3 hx0 (by omega) (fun e2 => ?_)
        refine t_280_65 ?_
        have w1 : v_221 x0 x1 (g_278 x0 (mset d x0 0 0)) = v_221 x0 x1 d := v221c ((F1 (x0 + 1) (by omega)).trans (mset_ne (by omega)))
        have q2 := mt_1 hS hx0 x1 ((452 + (24 * x1)) + 1) (by omega) (by omega)
        have q3 : (g_278 x0 (mset d x0 0 0)) (x0 + 1) (12 + 68 * d (x0 + 1) ((452 + (24 * x1)) + 1) + 5) = d (x0 + 1) (12 + 68 * d (x0 + 1) ((452 + (24 * x1)) + 1) + 5) := (congrFun (F1 (x0 + 1) (by omega)) (12 + 68 * d (x0 + 1) ((452 + (24 * x1)) + 1) + 5)).trans (congrFun (mset_ne (by omega)) (12 + 68 * d (x0 + 1) ((452 + (24 * x1)) + 1) + 5))
        refine k_220 hS3 hx0 (by omega) (by omega) (by omega) (fun F2 Q2 n2_0 hS4 => ?_)
        refine t_280_68 ?_
        refine k_179 hS4 ?_
        refine t_280_76 ?_
        refine ⟨by omega, ?_⟩
        have hS5 : Safe (mset (g_220 x0 (d (x0 + 1) ((452 + (24 * x1)) + 1)) (v_221 x0 x1 (g_278 x0 (mset d x0 0 0))) (g_278 x0 (mset d x0 0 0))) (x0 + 1) ((452 + (24 * x1)) + 4) 2) := smt_4 hS4 hx0 x1 ((452 + (24 * x1)) + 4) (by omega) (by omega) (by omega)
        refine k_179 hS5 ?_
        refine t_280_88 ?_
        rw [mset_ni (d := g_220 x0 (d (x0 + 1) ((452 + (24 * x1)) + 1)) (v_221 x0 x1 (g_278 x0 (mset d x0 0 0))) (g_278 x0 (mset d x0 0 0))) (a := x0 + 1) (i := (452 + (24 * x1)) + 4) (v := (2 : Int)) (b := x0 + 1) (j := (0 : Int)) (by omega)]
        have q4 := mh_0 hS4 hx0 _ rfl
        refine ⟨by omega, by omega, ?_⟩
        have hS6 : Safe (mset (mset (g_220 x0 (d (x0 + 1) ((452 + (24 * x1)) + 1)) (v_221 x0 x1 (g_278 x0 (mset d x0 0 0))) (g_278 x0 (mset d x0 0 0))) (x0 + 1) ((452 + (24 * x1)) + 4) 2) (x0 + 1) ((452 + (24 * x1)) + 3) ((g_220 x0 (d (x0 + 1) ((452 + (24 * x1)) + 1)) (v_221 x0 x1 (g_278 x0 (mset d x0 0 0))) (g_278 x0 (mset d x0 0 0))) (x0 + 1) 0)) := smt_3 hS5 hx0 x1 ((452 + (24 * x1)) + 3) (by omega) (by omega) (by omega)
        rw [mset_ni (d := mset (g_220 x0 (d (x0 + 1) ((452 + (24 * x1)) + 1)) (v_221 x0 x1 (g_278 x0 (mset d x0 0 0))) (g_278 x0 (mset d x0 0 0))) (x0 + 1) ((452 + (24 * x1)) + 4) 2) (a := x0 + 1) (i := (452 + (24 * x1)) + 3) (v := (g_220 x0 (d (x0 + 1) ((452 + (24 * x1)) + 1)) (v_221 x0 x1 (g_278 x0 (mset d x0 0 0))) (g_278 x0 (mset d x0 0 0))) (x0 + 1) 0) (b := x0 + 1) (j := (0 : Int)) (by omega)]
        rw [mset_ni (d := g_220 x0 (d (x0 + 1) ((452 + (24 * x1)) + 1)) (v_221 x0 x1 (g_278 x0 (mset d x0 0 0))) (g_278 x0 (mset d x0 0 0))) (a := x0 + 1) (i := (452 + (24 * x1)) + 4) (v := (2 : Int)) (b := x0 + 1) (j := (0 : Int)) (by omega)]
        refine ⟨by omega, ?_⟩
        refine k_179 hS6 ?_
        refine t_280_111 ?_
        rw [mset_ni (d := mset (g_220 x0 (d (x0 + 1) ((452 + (24 * x1)) + 1)) (v_221 x0 x1 (g_278 x0 (mset d x0 0 0))) (g_278 x0 (mset d x0 0 0))) (x0 + 1) ((452 + (24 * x1)) + 4) 2) (a := x0 + 1) (i := (452 + (24 * x1)) + 3) (v := (g_220 x0 (d (x0 + 1) ((452 + (24 * x1)) + 1)) (v_221 x0 x1 (g_278 x0 (mset d x0 0 0))) (g_278 x0 (mset d x0 0 0))) (x0 + 1) 0) (b := x0 + 1) (j := (452 + (24 * x1)) + 2) (by omega)]
        rw [mset_ni (d := g_220 x0 (d (x0 + 1) ((452 + (24 * x1)) + 1)) (v_221 x0 x1 (g_278 x0 (mset d x0 0 0))) (g_278 x0 (mset d x0 0 0))) (a := x0 + 1) (i := (452 + (24 * x1)) + 4) (v := (2 : Int)) (b := x0 + 1) (j := (452 + (24 * x1)) + 2) (by omega)]
        have q5 := mt_2 hS4 hx0 x1 ((452 + (24 * x1)) + 2) (by omega) (by omega)
        refine ⟨by omega, ?_⟩
        have y0 : v_280 x0 x1 d = ((g_220 x0 (d (x0 + 1) ((452 + (24 * x1)) + 1)) (v_221 x0 x1 (g_278 x0 (mset d x0 0 0))) (g_278 x0 (mset d x0 0 0))) (x0 + 1) 0) - ((g_220 x0 (d (x0 + 1) ((452 + (24 * x1)) + 1)) (v_221 x0 x1 (g_278 x0 (mset d x0 0 0))) (g_278 x0 (mset d x0 0 0))) (x0 + 1) ((452 + (24 * x1)) + 2)) := by simp only [v_280, if_neg (show ¬ v_238 x0 x1 d = 0 from c0), if_pos (show d (x0 + 1) ((452 + (24 * x1)) + 4) = 0 from c1), if_neg (show ¬ (0 : Int) < 0 from Int.not_lt.mpr c2)]
        have y1 : g_280 x0 x1 d = mset (mset (g_220 x0 (d (x0 + 1) ((452 + (24 * x1)) + 1)) (v_221 x0 x1 (g_278 x0 (mset d x0 0 0))) (g_278 x0 (mset d x0 0 0))) (x0 + 1) ((452 + (24 * x1)) + 4) 2) (x0 + 1) ((452 + (24 * x1)) + 3) ((g_220 x0 (d (x0 + 1) ((452 + (24 * x1)) + 1)) (v_221 x0 x1 (g_278 x0 (mset d x0 0 0))) (g_278 x0 (mset d x0 0 0))) (x0 + 1) 0) := by simp only [g_280, if_neg (show ¬ v_238 x0 x1 d = 0 from c0), if_pos (show d (x0 + 1) ((452 + (24 * x1)) + 4) = 0 from c1), if_neg (show ¬ (0 : Int) < 0 from Int.not_lt.mpr c2)]
        rw [y0] at h
        rw [y1] at h
        exact h (show ∀ b : Int, (b < x0 ∨ x0 + 2 < b) → (mset (mset (g_220 x0 (d (x0 + 1) ((452 + (24 * x1)) + 1)) (v_221 x0 x1 (g_278 x0 (mset d x0 0 0))) (g_278 x0 (mset d x0 0 0))) (x0 + 1) ((452 + (24 * x1)) + 4) 2) (x0 + 1) ((452 + (24 * x1)) + 3) ((g_220 x0 (d (x0 + 1) ((452 + (24 * x1)) + 1)) (v_221 x0 x1 (g_278 x0 (mset d x0 0 0))) (g_278 x0 (mset d x0 0 0))) (x0 + 1) 0)) b = d b from fun b hb => (mset_ne (by omega)).trans ((mset_ne (by omega)).trans ((F2 b (by omega)).trans ((F1 b (by omega)).trans (mset_ne (by omega)))))) hS6
      · exact (show False by omega).elim
  · have hS7 : Safe (mset d x0 0 1) := s_11_f0 hS hx0 (by omega)
    rw [mset_eq (d := d) (a := x0) (i := (0 : Int)) (v := (1 : Int))]
    refine ⟨m_inR (by omega) (by omega), fun c1 => ?_, fun c1 => ?_⟩
    · exact (show False by omega).elim
    · have y0 : v_280 x0 x1 d = 0 := by simp only [v_280, if_pos (show v_238 x0 x1 d = 0 from c0), if_pos (show (0 : Int) < 1 from c1)]
      have y1 : g_280 x0 x1 d = mset d x0 0 1 := by simp only [g_280, if_pos (show v_238 x0 x1 d = 0 from c0), if_pos (show (0 : Int) < 1 from c1)]
      rw [y0] at h
      rw [y1] at h
      exact h (show ∀ b : Int, (b < x0 ∨ x0 + 2 < b) → (mset d x0 0 1) b = d b from fun b hb => mset_ne (by omega)) hS7
