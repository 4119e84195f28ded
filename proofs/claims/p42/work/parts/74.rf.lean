/-! ===== contracts of the reference's methods: printed by a program of mine ===== -/
theorem dv4 (v u : Int) : ((u = 1 ∧ v / u = v / 1) ∨ (u = 10 ∧ v / u = v / 10) ∨ (u = 100 ∧ v / u = v / 100) ∨ (u = 1000 ∧ v / u = v / 1000)) ∨ ¬(u = 1 ∨ u = 10 ∨ u = 100 ∨ u = 1000) := by
  by_cases h : u = 1 ∨ u = 10 ∨ u = 100 ∨ u = 1000
  · left
    rcases h with h | h | h | h <;> subst h <;> omega
  · right; exact h
theorem dv6 (v u : Int) : ((u = 1 ∧ v / u = v / 1) ∨ (u = 27 ∧ v / u = v / 27) ∨ (u = 729 ∧ v / u = v / 729) ∨ (u = 19683 ∧ v / u = v / 19683) ∨ (u = 531441 ∧ v / u = v / 531441) ∨ (u = 14348907 ∧ v / u = v / 14348907)) ∨ ¬(u = 1 ∨ u = 27 ∨ u = 729 ∨ u = 19683 ∨ u = 531441 ∨ u = 14348907) := by
  by_cases h : u = 1 ∨ u = 27 ∨ u = 729 ∨ u = 19683 ∨ u = 531441 ∨ u = 14348907
  · left
    rcases h with h | h | h | h | h | h <;> subst h <;> omega
  · right; exact h
def g_273 (x0 x1 : Int) (d : mD) : mD := mset (mset d (x0 + 8) (d x0 18) x1) x0 18 ((d x0 18) + 1)
theorem k_273 {E : mO × tW} {K : tK} {d : mD} {x0 x1 : Int} (hS : Safe d) (hx0 : mdB x0) (p1 : 0 ≤ x1 ∧ x1 ≤ 255) (ho : d x0 18 ≤ 799) (h : (∀ b : Int, (b < x0 ∨ x0 < b) ∧ (b < x0 + 8 ∨ x0 + 8 < b) → (g_273 x0 x1 d) b = d b) → ((g_273 x0 x1 d) x0 18 = d x0 18 + 1) → Safe (g_273 x0 x1 d) → K (.inl none) (g_273 x0 x1 d)) : tCall E 273 [.inr (11, x0), .inl (0, x1)] d K := by
  refine t_273_0 ?_
  have w0 := mh_0 hS hx0 _ rfl
  have w7 := mh_7 hS hx0 _ rfl
  have w8 := mh_8 hS hx0 _ rfl
  have w9 := mh_9 hS hx0 _ rfl
  have w10 := mh_10 hS hx0 _ rfl
  have w11 := mh_11 hS hx0 _ rfl
  have q1 := r_11_f18 hS hx0
  refine ⟨by omega, ?_⟩
  have hS1 : Safe (mset d (x0 + 8) (d x0 18) x1) := s_11_8 hS hx0 (by omega)
  rw [mset_ne (d := d) (a := x0 + 8) (i := d x0 18) (v := x1) (b := x0) (by omega)]
  have hS2 : Safe (mset (mset d (x0 + 8) (d x0 18) x1) x0 18 ((d x0 18) + 1)) := s_11_f18 hS1 hx0 (by omega)
  have q2 : (mset (mset d (x0 + 8) (d x0 18) x1) x0 18 ((d x0 18) + 1)) x0 18 = (d x0 18) + 1 := mset_eq
  have y0 : g_273 x0 x1 d = mset (mset d (x0 + 8) (d x0 18) x1) x0 18 ((d x0 18) + 1) := by simp only [g_273]
  rw [y0] at h
  exact h (show ∀ b : Int, (b < x0 ∨ x0 < b) ∧ (b < x0 + 8 ∨ x0 + 8 < b) → (mset (mset d (x0 + 8) (d x0 18) x1) x0 18 ((d x0 18) + 1)) b = d b from fun b hb => (mset_ne (by omega)).trans (mset_ne (by omega))) (show (mset (mset d (x0 + 8) (d x0 18) x1) x0 18 ((d x0 18) + 1)) x0 18 = d x0 18 + 1 by omega) hS2
def st_274_18 (x0 x1 : Int) (r18 : Int → mD → mD) (x2 : Int) (d : mD) : mD := if (0 : Int) < x2 then r18 (x2 / 10) (g_273 x0 (48 + ((x1 / x2) % 10)) d) else d
def lp_274_18 (x0 x1 : Int) : Nat → Int → mD → mD
  | 0 => st_274_18 x0 x1 (fun _ d => d)
  | n + 1 => st_274_18 x0 x1 (lp_274_18 x0 x1 n)
theorem ls_274_18 {E : mO × tW} {K : tK} {x0 x1 : Int} (hx0 : mdB x0) (p1 : 0 ≤ x1 ∧ x1 ≤ 1200) (N18 : Int) (r18 : Int → mD → mD) (ih18 : ∀ (x2 : Int) (d : mD), Safe d → ((x2 = 1000 ∧ d x0 18 ≤ 796) ∨ (x2 = 100 ∧ d x0 18 ≤ 797) ∨ (x2 = 10 ∧ d x0 18 ≤ 798) ∨ (x2 = 1 ∧ d x0 18 ≤ 799) ∨ x2 = 0) → (0 ≤ x1 ∧ x1 ≤ 1200) → 0 ≤ x2 → x2 < N18 → ((∀ b : Int, (b < x0 ∨ x0 < b) ∧ (b < x0 + 8 ∨ x0 + 8 < b) → (r18 x2 d) b = d b) → ((x2 = 1000 ∧ (r18 x2 d) x0 18 ≤ d x0 18 + 4) ∨ (x2 = 100 ∧ (r18 x2 d) x0 18 ≤ d x0 18 + 3) ∨ (x2 = 10 ∧ (r18 x2 d) x0 18 ≤ d x0 18 + 2) ∨ (x2 = 1 ∧ (r18 x2 d) x0 18 ≤ d x0 18 + 1) ∨ (x2 = 0 ∧ (r18 x2 d) x0 18 = d x0 18)) → Safe (r18 x2 d) → K (.inl none) (r18 x2 d)) → tRun E 274 (18, [.inr (11, x0), .inl (0, x1), .inl (0, x2)], [], 0, 0, d) K) (x2 : Int) (d : mD) (hS : Safe d) (i0 : (x2 = 1000 ∧ d x0 18 ≤ 796) ∨ (x2 = 100 ∧ d x0 18 ≤ 797) ∨ (x2 = 10 ∧ d x0 18 ≤ 798) ∨ (x2 = 1 ∧ d x0 18 ≤ 799) ∨ x2 = 0) (i1 : 0 ≤ x1 ∧ x1 ≤ 1200) (hm : x2 ≤ N18) (h : (∀ b : Int, (b < x0 ∨ x0 < b) ∧ (b < x0 + 8 ∨ x0 + 8 < b) → (st_274_18 x0 x1 r18 x2 d) b = d b) → ((x2 = 1000 ∧ (st_274_18 x0 x1 r18 x2 d) x0 18 ≤ d x0 18 + 4) ∨ (x2 = 100 ∧ (st_274_18 x0 x1 r18 x2 d) x0 18 ≤ d x0 18 + 3) ∨ (x2 = 10 ∧ (st_274_18 x0 x1 r18 x2 d) x0 18 ≤ d x0 18 + 2) ∨ (x2 = 1 ∧ (st_274_18 x0 x1 r18 x2 d) x0 18 ≤ d x0 18 + 1) ∨ (x2 = 0 ∧ (st_274_18 x0 x1 r18 x2 d) x0 18 = d x0 18)) → Safe (st_274_18 x0 x1 r18 x2 d) → K (.inl none) (st_274_18 x0 x1 r18 x2 d)) : tRun E 274 (18, [.inr (11, x0), .inl (0, x1), .inl (0, x2)], [], 0, 0, d) K := by
  refine t_274_18 ?_
  have w1 := dv4 x1 x2
  refine ⟨m_inR (by omega) (by omega), fun c0 => ?_, fun c0 => ?_⟩
  · have y0 : st_274_18 x0 x1 r18 x2 d = d := by simp only [st_274_18, if_neg (show ¬ (0 : Int) < x2 from Int.not_lt.mpr c0)]
    rw [y0] at h
    exact h (show ∀ b : Int, (b < x0 ∨ x0 < b) ∧ (b < x0 + 8 ∨ x0 + 8 < b) → d b = d b from fun _ _ => rfl) (show (x2 = 1000 ∧ d x0 18 ≤ d x0 18 + 4) ∨ (x2 = 100 ∧ d x0 18 ≤ d x0 18 + 3) ∨ (x2 = 10 ∧ d x0 18 ≤ d x0 18 + 2) ∨ (x2 = 1 ∧ d x0 18 ≤ d x0 18 + 1) ∨ (x2 = 0 ∧ d x0 18 = d x0 18) by omega) hS
  · have q1 := mdiv_r (x := x1) (y := x2) (by omega) (by omega)
    refine ⟨by omega, by omega, ?_⟩
    refine k_273 hS hx0 (by omega) (by omega) (fun F1 n1_0 hS1 => ?_)
    refine t_274_35 ?_
    refine ⟨by omega, ?_⟩
    refine ih18 (x2 / 10)  (g_273 x0 (48 + ((x1 / x2) % 10)) d) hS1 (by omega) (by omega) (by omega) (by omega) ?_
    intro F n0 hS_
    have y0 : st_274_18 x0 x1 r18 x2 d = r18 (x2 / 10) (g_273 x0 (48 + ((x1 / x2) % 10)) d) := by simp only [st_274_18, if_pos (show (0 : Int) < x2 from c0)]
    rw [y0] at h
    exact h (fun b hb => (F b hb).trans ((show ∀ b : Int, (b < x0 ∨ x0 < b) ∧ (b < x0 + 8 ∨ x0 + 8 < b) → (g_273 x0 (48 + ((x1 / x2) % 10)) d) b = d b from fun b hb => F1 b (by omega)) b hb)) (by omega) hS_
theorem l_274_18 {E : mO × tW} {K : tK} {x0 x1 : Int} (hx0 : mdB x0) (p1 : 0 ≤ x1 ∧ x1 ≤ 1200) : ∀ (n : Nat) (x2 : Int) (d : mD), Safe d → ((x2 = 1000 ∧ d x0 18 ≤ 796) ∨ (x2 = 100 ∧ d x0 18 ≤ 797) ∨ (x2 = 10 ∧ d x0 18 ≤ 798) ∨ (x2 = 1 ∧ d x0 18 ≤ 799) ∨ x2 = 0) → (0 ≤ x1 ∧ x1 ≤ 1200) → x2 ≤ (n : Int) → ((∀ b : Int, (b < x0 ∨ x0 < b) ∧ (b < x0 + 8 ∨ x0 + 8 < b) → (lp_274_18 x0 x1 n x2 d) b = d b) → ((x2 = 1000 ∧ (lp_274_18 x0 x1 n x2 d) x0 18 ≤ d x0 18 + 4) ∨ (x2 = 100 ∧ (lp_274_18 x0 x1 n x2 d) x0 18 ≤ d x0 18 + 3) ∨ (x2 = 10 ∧ (lp_274_18 x0 x1 n x2 d) x0 18 ≤ d x0 18 + 2) ∨ (x2 = 1 ∧ (lp_274_18 x0 x1 n x2 d) x0 18 ≤ d x0 18 + 1) ∨ (x2 = 0 ∧ (lp_274_18 x0 x1 n x2 d) x0 18 = d x0 18)) → Safe (lp_274_18 x0 x1 n x2 d) → K (.inl none) (lp_274_18 x0 x1 n x2 d)) → tRun E 274 (18, [.inr (11, x0), .inl (0, x1), .inl (0, x2)], [], 0, 0, d) K := by
  intro n
  induction n with
  | zero =>
    intro x2  d hS i0 i1 hm  h
    exact ls_274_18 hx0 p1 0 _ (fun _  _ _ _ _ m0 m1 _ => absurd m1 (by omega)) x2  d hS i0 i1 hm  h
  | succ n ih =>
    intro x2  d hS i0 i1 hm  h
    exact ls_274_18 hx0 p1 ((n + 1 : Nat) : Int) _ (fun x2  d hS i0 i1  m0 m1 h => ih x2  d hS i0 i1 (by omega)  h) x2  d hS i0 i1 hm  h
def st_274_2 (x0 x1 : Int) (r2 : Int → mD → mD) (x2 : Int) (d : mD) : mD := if x1 / x2 < 10 then lp_274_18 x0 x1 (x2 : Int).toNat x2 d else r2 (x2 * 10) d
def lp_274_2 (x0 x1 : Int) : Nat → Int → mD → mD
  | 0 => st_274_2 x0 x1 (fun _ d => d)
  | n + 1 => st_274_2 x0 x1 (lp_274_2 x0 x1 n)
theorem ls_274_2 {E : mO × tW} {K : tK} {x0 x1 : Int} (hx0 : mdB x0) (p1 : 0 ≤ x1 ∧ x1 ≤ 1200) (N2 : Int) (r2 : Int → mD → mD) (ih2 : ∀ (x2 : Int) (d : mD), Safe d → (x2 = 1 ∨ x2 = 10 ∨ x2 = 100 ∨ x2 = 1000) → (d x0 18 ≤ 796) → 0 ≤ 1000 - x2 → 1000 - x2 < N2 → ((∀ b : Int, (b < x0 ∨ x0 < b) ∧ (b < x0 + 8 ∨ x0 + 8 < b) → (r2 x2 d) b = d b) → ((r2 x2 d) x0 18 ≤ d x0 18 + 4) → Safe (r2 x2 d) → K (.inl none) (r2 x2 d)) → tRun E 274 (2, [.inr (11, x0), .inl (0, x1), .inl (0, x2)], [], 0, 0, d) K) (x2 : Int) (d : mD) (hS : Safe d) (i0 : x2 = 1 ∨ x2 = 10 ∨ x2 = 100 ∨ x2 = 1000) (i1 : d x0 18 ≤ 796) (hm : 1000 - x2 ≤ N2) (h : (∀ b : Int, (b < x0 ∨ x0 < b) ∧ (b < x0 + 8 ∨ x0 + 8 < b) → (st_274_2 x0 x1 r2 x2 d) b = d b) → ((st_274_2 x0 x1 r2 x2 d) x0 18 ≤ d x0 18 + 4) → Safe (st_274_2 x0 x1 r2 x2 d) → K (.inl none) (st_274_2 x0 x1 r2 x2 d)) : tRun E 274 (2, [.inr (11, x0), .inl (0, x1), .inl (0, x2)], [], 0, 0, d) K := by
  refine t_274_2 ?_
  have w1 := dv4 x1 x2
  have q2 := mdiv_r (x := x1) (y := x2) (by omega) (by omega)
  refine ⟨by omega, ⟨m_inR (by omega) (by omega), m_inR (by omega) (by omega)⟩, fun c0 => ?_, fun c0 => ?_⟩
  · refine l_274_18 hx0 p1 (x2 : Int).toNat x2  d hS (by omega) (by omega) (by omega) ?_
    intro F n0 hS_
    have y0 : st_274_2 x0 x1 r2 x2 d = lp_274_18 x0 x1 (x2 : Int).toNat x2 d := by simp only [st_274_2, if_pos (show x1 / x2 < 10 from c0)]
    rw [y0] at h
    exact h F (by omega) hS_
  · refine ih2 (x2 * 10)  d hS (by omega) (by omega) (by omega) (by omega) ?_
    intro F n0 hS_
    have y0 : st_274_2 x0 x1 r2 x2 d = r2 (x2 * 10) d := by simp only [st_274_2, if_neg (show ¬ x1 / x2 < 10 from Int.not_lt.mpr c0)]
    rw [y0] at h
    exact h F (by omega) hS_
theorem l_274_2 {E : mO × tW} {K : tK} {x0 x1 : Int} (hx0 : mdB x0) (p1 : 0 ≤ x1 ∧ x1 ≤ 1200) : ∀ (n : Nat) (x2 : Int) (d : mD), Safe d → (x2 = 1 ∨ x2 = 10 ∨ x2 = 100 ∨ x2 = 1000) → (d x0 18 ≤ 796) → 1000 - x2 ≤ (n : Int) → ((∀ b : Int, (b < x0 ∨ x0 < b) ∧ (b < x0 + 8 ∨ x0 + 8 < b) → (lp_274_2 x0 x1 n x2 d) b = d b) → ((lp_274_2 x0 x1 n x2 d) x0 18 ≤ d x0 18 + 4) → Safe (lp_274_2 x0 x1 n x2 d) → K (.inl none) (lp_274_2 x0 x1 n x2 d)) → tRun E 274 (2, [.inr (11, x0), .inl (0, x1), .inl (0, x2)], [], 0, 0, d) K := by
  intro n
  induction n with
  | zero =>
    intro x2  d hS i0 i1 hm  h
    exact ls_274_2 hx0 p1 0 _ (fun _  _ _ _ _ m0 m1 _ => absurd m1 (by omega)) x2  d hS i0 i1 hm  h
  | succ n ih =>
    intro x2  d hS i0 i1 hm  h
    exact ls_274_2 hx0 p1 ((n + 1 : Nat) : Int) _ (fun x2  d hS i0 i1  m0 m1 h => ih x2  d hS i0 i1 (by omega)  h) x2  d hS i0 i1 hm  h
def g_274 (x0 x1 : Int) (d : mD) : mD := lp_274_2 x0 x1 (1000 - 1 : Int).toNat 1 d
theorem k_274 {E : mO × tW} {K : tK} {d : mD} {x0 x1 : Int} (hS : Safe d) (hx0 : mdB x0) (p1 : 0 ≤ x1 ∧ x1 ≤ 1200) (ho : d x0 18 ≤ 796) (h : (∀ b : Int, (b < x0 ∨ x0 < b) ∧ (b < x0 + 8 ∨ x0 + 8 < b) → (g_274 x0 x1 d) b = d b) → ((g_274 x0 x1 d) x0 18 ≤ d x0 18 + 4) → Safe (g_274 x0 x1 d) → K (.inl none) (g_274 x0 x1 d)) : tCall E 274 [.inr (11, x0), .inl (0, x1)] d K := by
  refine t_274_0 ?_
  have w0 := mh_0 hS hx0 _ rfl
  have w7 := mh_7 hS hx0 _ rfl
  have w8 := mh_8 hS hx0 _ rfl
  have w9 := mh_9 hS hx0 _ rfl
  have w10 := mh_10 hS hx0 _ rfl
  have w11 := mh_11 hS hx0 _ rfl
  refine l_274_2 hx0 p1 (1000 - 1 : Int).toNat 1  d hS (by omega) (by omega) (by omega) ?_
  intro F n0 hS_
  have y0 : g_274 x0 x1 d = lp_274_2 x0 x1 (1000 - 1 : Int).toNat 1 d := by simp only [g_274]
  rw [y0] at h
  exact h F (by omega) hS_
def st_275_18 (x0 x1 : Int) (r18 : Int → mD → mD) (x2 : Int) (d : mD) : mD := if (0 : Int) < x2 then r18 (x2 / 27) (g_273 x0 ((((x1 / x2) % 27) + 97) - 1) d) else d
def lp_275_18 (x0 x1 : Int) : Nat → Int → mD → mD
  | 0 => st_275_18 x0 x1 (fun _ d => d)
  | n + 1 => st_275_18 x0 x1 (lp_275_18 x0 x1 n)
theorem ls_275_18 {E : mO × tW} {K : tK} {x0 x1 : Int} (hx0 : mdB x0) (p1 : 0 ≤ x1 ∧ x1 ≤ 387420488) (N18 : Int) (r18 : Int → mD → mD) (ih18 : ∀ (x2 : Int) (d : mD), Safe d → ((x2 = 14348907 ∧ d x0 18 ≤ 794) ∨ (x2 = 531441 ∧ d x0 18 ≤ 795) ∨ (x2 = 19683 ∧ d x0 18 ≤ 796) ∨ (x2 = 729 ∧ d x0 18 ≤ 797) ∨ (x2 = 27 ∧ d x0 18 ≤ 798) ∨ (x2 = 1 ∧ d x0 18 ≤ 799) ∨ x2 = 0) → (0 ≤ x1) → 0 ≤ x2 → x2 < N18 → ((∀ b : Int, (b < x0 ∨ x0 < b) ∧ (b < x0 + 8 ∨ x0 + 8 < b) → (r18 x2 d) b = d b) → ((x2 = 14348907 ∧ (r18 x2 d) x0 18 ≤ d x0 18 + 6) ∨ (x2 = 531441 ∧ (r18 x2 d) x0 18 ≤ d x0 18 + 5) ∨ (x2 = 19683 ∧ (r18 x2 d) x0 18 ≤ d x0 18 + 4) ∨ (x2 = 729 ∧ (r18 x2 d) x0 18 ≤ d x0 18 + 3) ∨ (x2 = 27 ∧ (r18 x2 d) x0 18 ≤ d x0 18 + 2) ∨ (x2 = 1 ∧ (r18 x2 d) x0 18 ≤ d x0 18 + 1) ∨ (x2 = 0 ∧ (r18 x2 d) x0 18 = d x0 18)) → Safe (r18 x2 d) → K (.inl none) (r18 x2 d)) → tRun E 275 (18, [.inr (11, x0), .inl (0, x1), .inl (0, x2)], [], 0, 0, d) K) (x2 : Int) (d : mD) (hS : Safe d) (i0 : (x2 = 14348907 ∧ d x0 18 ≤ 794) ∨ (x2 = 531441 ∧ d x0 18 ≤ 795) ∨ (x2 = 19683 ∧ d x0 18 ≤ 796) ∨ (x2 = 729 ∧ d x0 18 ≤ 797) ∨ (x2 = 27 ∧ d x0 18 ≤ 798) ∨ (x2 = 1 ∧ d x0 18 ≤ 799) ∨ x2 = 0) (i1 : 0 ≤ x1) (hm : x2 ≤ N18) (h : (∀ b : Int, (b < x0 ∨ x0 < b) ∧ (b < x0 + 8 ∨ x0 + 8 < b) → (st_275_18 x0 x1 r18 x2 d) b = d b) → ((x2 = 14348907 ∧ (st_275_18 x0 x1 r18 x2 d) x0 18 ≤ d x0 18 + 6) ∨ (x2 = 531441 ∧ (st_275_18 x0 x1 r18 x2 d) x0 18 ≤ d x0 18 + 5) ∨ (x2 = 19683 ∧ (st_275_18 x0 x1 r18 x2 d) x0 18 ≤ d x0 18 + 4) ∨ (x2 = 729 ∧ (st_275_18 x0 x1 r18 x2 d) x0 18 ≤ d x0 18 + 3) ∨ (x2 = 27 ∧ (st_275_18 x0 x1 r18 x2 d) x0 18 ≤ d x0 18 + 2) ∨ (x2 = 1 ∧ (st_275_18 x0 x1 r18 x2 d) x0 18 ≤ d x0 18 + 1) ∨ (x2 = 0 ∧ (st_275_18 x0 x1 r18 x2 d) x0 18 = d x0 18)) → Safe (st_275_18 x0 x1 r18 x2 d) → K (.inl none) (st_275_18 x0 x1 r18 x2 d)) : tRun E 275 (18, [.inr (11, x0), .inl (0, x1), .inl (0, x2)], [], 0, 0, d) K := by
  refine t_275_18 ?_
  have w1 := dv6 x1 x2
  refine ⟨m_inR (by omega) (by omega), fun c0 => ?_, fun c0 => ?_⟩
  · have y0 : st_275_18 x0 x1 r18 x2 d = d := by simp only [st_275_18, if_neg (show ¬ (0 : Int) < x2 from Int.not_lt.mpr c0)]
    rw [y0] at h
    exact h (show ∀ b : Int, (b < x0 ∨ x0 < b) ∧ (b < x0 + 8 ∨ x0 + 8 < b) → d b = d b from fun _ _ => rfl) (show (x2 = 14348907 ∧ d x0 18 ≤ d x0 18 + 6) ∨ (x2 = 531441 ∧ d x0 18 ≤ d x0 18 + 5) ∨ (x2 = 19683 ∧ d x0 18 ≤ d x0 18 + 4) ∨ (x2 = 729 ∧ d x0 18 ≤ d x0 18 + 3) ∨ (x2 = 27 ∧ d x0 18 ≤ d x0 18 + 2) ∨ (x2 = 1 ∧ d x0 18 ≤ d x0 18 + 1) ∨ (x2 = 0 ∧ d x0 18 = d x0 18) by omega) hS
  · have q1 := mdiv_r (x := x1) (y := x2) (by omega) (by omega)
    refine ⟨by omega, by omega, ?_⟩
    refine k_273 hS hx0 (by omega) (by omega) (fun F1 n1_0 hS1 => ?_)
    refine t_275_37 ?_
    refine ⟨by omega, ?_⟩
    refine ih18 (x2 / 27)  (g_273 x0 ((((x1 / x2) % 27) + 97) - 1) d) hS1 (by clear w1 q1; rcases i0 with ⟨rfl, u⟩ | ⟨rfl, u⟩ | ⟨rfl, u⟩ | ⟨rfl, u⟩ | ⟨rfl, u⟩ | ⟨rfl, u⟩ | rfl <;> omega) (by omega) (by omega) (by omega) ?_
    intro F n0 hS_
    have y0 : st_275_18 x0 x1 r18 x2 d = r18 (x2 / 27) (g_273 x0 ((((x1 / x2) % 27) + 97) - 1) d) := by simp only [st_275_18, if_pos (show (0 : Int) < x2 from c0)]
    rw [y0] at h
    exact h (fun b hb => (F b hb).trans ((show ∀ b : Int, (b < x0 ∨ x0 < b) ∧ (b < x0 + 8 ∨ x0 + 8 < b) → (g_273 x0 ((((x1 / x2) % 27) + 97) - 1) d) b = d b from fun b hb => F1 b (by omega)) b hb)) (by clear w1 q1; rcases i0 with ⟨rfl, u⟩ | ⟨rfl, u⟩ | ⟨rfl, u⟩ | ⟨rfl, u⟩ | ⟨rfl, u⟩ | ⟨rfl, u⟩ | rfl <;> omega) hS_
theorem l_275_18 {E : mO × tW} {K : tK} {x0 x1 : Int} (hx0 : mdB x0) (p1 : 0 ≤ x1 ∧ x1 ≤ 387420488) : ∀ (n : Nat) (x2 : Int) (d : mD), Safe d → ((x2 = 14348907 ∧ d x0 18 ≤ 794) ∨ (x2 = 531441 ∧ d x0 18 ≤ 795) ∨ (x2 = 19683 ∧ d x0 18 ≤ 796) ∨ (x2 = 729 ∧ d x0 18 ≤ 797) ∨ (x2 = 27 ∧ d x0 18 ≤ 798) ∨ (x2 = 1 ∧ d x0 18 ≤ 799) ∨ x2 = 0) → (0 ≤ x1) → x2 ≤ (n : Int) → ((∀ b : Int, (b < x0 ∨ x0 < b) ∧ (b < x0 + 8 ∨ x0 + 8 < b) → (lp_275_18 x0 x1 n x2 d) b = d b) → ((x2 = 14348907 ∧ (lp_275_18 x0 x1 n x2 d) x0 18 ≤ d x0 18 + 6) ∨ (x2 = 531441 ∧ (lp_275_18 x0 x1 n x2 d) x0 18 ≤ d x0 18 + 5) ∨ (x2 = 19683 ∧ (lp_275_18 x0 x1 n x2 d) x0 18 ≤ d x0 18 + 4) ∨ (x2 = 729 ∧ (lp_275_18 x0 x1 n x2 d) x0 18 ≤ d x0 18 + 3) ∨ (x2 = 27 ∧ (lp_275_18 x0 x1 n x2 d) x0 18 ≤ d x0 18 + 2) ∨ (x2 = 1 ∧ (lp_275_18 x0 x1 n x2 d) x0 18 ≤ d x0 18 + 1) ∨ (x2 = 0 ∧ (lp_275_18 x0 x1 n x2 d) x0 18 = d x0 18)) → Safe (lp_275_18 x0 x1 n x2 d) → K (.inl none) (lp_275_18 x0 x1 n x2 d)) → tRun E 275 (18, [.inr (11, x0), .inl (0, x1), .inl (0, x2)], [], 0, 0, d) K := by
  intro n
  induction n with
  | zero =>
    intro x2  d hS i0 i1 hm  h
    exact ls_275_18 hx0 p1 0 _ (fun _  _ _ _ _ m0 m1 _ => absurd m1 (by omega)) x2  d hS i0 i1 hm  h
  | succ n ih =>
    intro x2  d hS i0 i1 hm  h
    exact ls_275_18 hx0 p1 ((n + 1 : Nat) : Int) _ (fun x2  d hS i0 i1  m0 m1 h => ih x2  d hS i0 i1 (by omega)  h) x2  d hS i0 i1 hm  h
def st_275_2 (x0 x1 : Int) (r2 : Int → mD → mD) (x2 : Int) (d : mD) : mD := if x1 / x2 < 27 then lp_275_18 x0 x1 (x2 : Int).toNat x2 d else r2 (x2 * 27) d
def lp_275_2 (x0 x1 : Int) : Nat → Int → mD → mD
  | 0 => st_275_2 x0 x1 (fun _ d => d)
  | n + 1 => st_275_2 x0 x1 (lp_275_2 x0 x1 n)
theorem ls_275_2 {E : mO × tW} {K : tK} {x0 x1 : Int} (hx0 : mdB x0) (p1 : 0 ≤ x1 ∧ x1 ≤ 387420488) (N2 : Int) (r2 : Int → mD → mD) (ih2 : ∀ (x2 : Int) (d : mD), Safe d → (x2 = 1 ∨ x2 = 27 ∨ x2 = 729 ∨ x2 = 19683 ∨ x2 = 531441 ∨ x2 = 14348907) → (d x0 18 ≤ 794) → 0 ≤ 14348907 - x2 → 14348907 - x2 < N2 → ((∀ b : Int, (b < x0 ∨ x0 < b) ∧ (b < x0 + 8 ∨ x0 + 8 < b) → (r2 x2 d) b = d b) → ((r2 x2 d) x0 18 ≤ d x0 18 + 6) → Safe (r2 x2 d) → K (.inl none) (r2 x2 d)) → tRun E 275 (2, [.inr (11, x0), .inl (0, x1), .inl (0, x2)], [], 0, 0, d) K) (x2 : Int) (d : mD) (hS : Safe d) (i0 : x2 = 1 ∨ x2 = 27 ∨ x2 = 729 ∨ x2 = 19683 ∨ x2 = 531441 ∨ x2 = 14348907) (i1 : d x0 18 ≤ 794) (hm : 14348907 - x2 ≤ N2) (h : (∀ b : Int, (b < x0 ∨ x0 < b) ∧ (b < x0 + 8 ∨ x0 + 8 < b) → (st_275_2 x0 x1 r2 x2 d) b = d b) → ((st_275_2 x0 x1 r2 x2 d) x0 18 ≤ d x0 18 + 6) → Safe (st_275_2 x0 x1 r2 x2 d) → K (.inl none) (st_275_2 x0 x1 r2 x2 d)) : tRun E 275 (2, [.inr (11, x0), .inl (0, x1), .inl (0, x2)], [], 0, 0, d) K := by
  refine t_275_2 ?_
  have w1 := dv6 x1 x2
  have q2 := mdiv_r (x := x1) (y := x2) (by omega) (by omega)
  refine ⟨by omega, ⟨m_inR (by omega) (by omega), m_inR (by omega) (by omega)⟩, fun c0 => ?_, fun c0 => ?_⟩
  · refine l_275_18 hx0 p1 (x2 : Int).toNat x2  d hS (by omega) (by omega) (by omega) ?_
    intro F n0 hS_
    have y0 : st_275_2 x0 x1 r2 x2 d = lp_275_18 x0 x1 (x2 : Int).toNat x2 d := by simp only [st_275_2, if_pos (show x1 / x2 < 27 from c0)]
    rw [y0] at h
    exact h F (by omega) hS_
  · refine ih2 (x2 * 27)  d hS (by omega) (by omega) (by omega) (by omega) ?_
    intro F n0 hS_
    have y0 : st_275_2 x0 x1 r2 x2 d = r2 (x2 * 27) d := by simp only [st_275_2, if_neg (show ¬ x1 / x2 < 27 from Int.not_lt.mpr c0)]
    rw [y0] at h
    exact h F (by omega) hS_
theorem l_275_2 {E : mO × tW} {K : tK} {x0 x1 : Int} (hx0 : mdB x0) (p1 : 0 ≤ x1 ∧ x1 ≤ 387420488) : ∀ (n : Nat) (x2 : Int) (d : mD), Safe d → (x2 = 1 ∨ x2 = 27 ∨ x2 = 729 ∨ x2 = 19683 ∨ x2 = 531441 ∨ x2 = 14348907) → (d x0 18 ≤ 794) → 14348907 - x2 ≤ (n : Int) → ((∀ b : Int, (b < x0 ∨ x0 < b) ∧ (b < x0 + 8 ∨ x0 + 8 < b) → (lp_275_2 x0 x1 n x2 d) b = d b) → ((lp_275_2 x0 x1 n x2 d) x0 18 ≤ d x0 18 + 6) → Safe (lp_275_2 x0 x1 n x2 d) → K (.inl none) (lp_275_2 x0 x1 n x2 d)) → tRun E 275 (2, [.inr (11, x0), .inl (0, x1), .inl (0, x2)], [], 0, 0, d) K := by
  intro n
  induction n with
  | zero =>
    intro x2  d hS i0 i1 hm  h
    exact ls_275_2 hx0 p1 0 _ (fun _  _ _ _ _ m0 m1 _ => absurd m1 (by omega)) x2  d hS i0 i1 hm  h
  | succ n ih =>
    intro x2  d hS i0 i1 hm  h
    exact ls_275_2 hx0 p1 ((n + 1 : Nat) : Int) _ (fun x2  d hS i0 i1  m0 m1 h => ih x2  d hS i0 i1 (by omega)  h) x2  d hS i0 i1 hm  h
def g_275 (x0 x1 : Int) (d : mD) : mD := lp_275_2 x0 x1 (14348907 - 1 : Int).toNat 1 d
theorem k_275 {E : mO × tW} {K : tK} {d : mD} {x0 x1 : Int} (hS : Safe d) (hx0 : mdB x0) (p1 : 0 ≤ x1 ∧ x1 ≤ 387420488) (ho : d x0 18 ≤ 794) (h : (∀ b : Int, (b < x0 ∨ x0 < b) ∧ (b < x0 + 8 ∨ x0 + 8 < b) → (g_275 x0 x1 d) b = d b) → ((g_275 x0 x1 d) x0 18 ≤ d x0 18 + 6) → Safe (g_275 x0 x1 d) → K (.inl none) (g_275 x0 x1 d)) : tCall E 275 [.inr (11, x0), .inl (0, x1)] d K := by
  refine t_275_0 ?_
  have w0 := mh_0 hS hx0 _ rfl
  have w7 := mh_7 hS hx0 _ rfl
  have w8 := mh_8 hS hx0 _ rfl
  have w9 := mh_9 hS hx0 _ rfl
  have w10 := mh_10 hS hx0 _ rfl
  have w11 := mh_11 hS hx0 _ rfl
  refine l_275_2 hx0 p1 (14348907 - 1 : Int).toNat 1  d hS (by omega) (by omega) (by omega) ?_
  intro F n0 hS_
  have y0 : g_275 x0 x1 d = lp_275_2 x0 x1 (14348907 - 1 : Int).toNat 1 d := by simp only [g_275]
  rw [y0] at h
  exact h F (by omega) hS_
def st_276_38 (x0 x1 : Int) (r38 : Int → Int → mD → Int × mD) (x2 x3 : Int) (d : mD) : Int × mD := if x3 < d (x0 + 1) (x2 + 5) then (if (0 : Int) < x3 then r38 x2 (x3 + 1) (g_274 x0 (d (x0 + 1) ((452 + (24 * (d (x0 + 1) ((x2 + 7) + x3)))) + 2)) (g_273 x0 64 (g_275 x0 (d (x0 + 1) ((420 + (2 * (d (x0 + 1) ((452 + (24 * (d (x0 + 1) ((x2 + 7) + x3)))) + 0)))) + 0)) (g_273 x0 32 d)))) else r38 x2 (x3 + 1) (g_274 x0 (d (x0 + 1) ((452 + (24 * (d (x0 + 1) ((x2 + 7) + x3)))) + 2)) (g_273 x0 64 (g_275 x0 (d (x0 + 1) ((420 + (2 * (d (x0 + 1) ((452 + (24 * (d (x0 + 1) ((x2 + 7) + x3)))) + 0)))) + 0)) d)))) else if d (x0 + 1) (x2 + 4) = 0 then ((g_273 x0 33 d) x0 18, g_273 x0 33 d) else (d x0 18, d)
def lp_276_38 (x0 x1 : Int) : Nat → Int → Int → mD → Int × mD
  | 0 => st_276_38 x0 x1 (fun _ _ d => (0, d))
  | n + 1 => st_276_38 x0 x1 (lp_276_38 x0 x1 n)
theorem ls_276_38 {E : mO × tW} {K : tK} {x0 x1 : Int} (hx0 : mdB x0) (p1 : -2147483648 ≤ x1 ∧ x1 ≤ 2147483647) (N38 : Int) (r38 : Int → Int → mD → Int × mD) (ih38 : ∀ (x2 x3 : Int) (v4 : tV) (d : mD), Safe d → (0 ≤ x3 ∧ x3 ≤ 61) → (x2 = 12 + 68 * x1) → (d x0 18 ≤ 12 * x3) → (0 ≤ x1 ∧ x1 ≤ 5) → 0 ≤ 61 - x3 → 61 - x3 < N38 → ((∀ b : Int, (b < x0 ∨ x0 < b) ∧ (b < x0 + 8 ∨ x0 + 8 < b) → (r38 x2 x3 d).2 b = d b) → Safe (r38 x2 x3 d).2 → K (.inl (some (0, (r38 x2 x3 d).1))) (r38 x2 x3 d).2) → tRun E 276 (38, [.inr (11, x0), .inl (0, x1), .inl (0, x2), .inl (0, x3), v4], [], 0, 0, d) K) (x2 x3 : Int) (v4 : tV) (d : mD) (hS : Safe d) (i0 : 0 ≤ x3 ∧ x3 ≤ 61) (i1 : x2 = 12 + 68 * x1) (i2 : d x0 18 ≤ 12 * x3) (i3 : 0 ≤ x1 ∧ x1 ≤ 5) (hm : 61 - x3 ≤ N38) (h : (∀ b : Int, (b < x0 ∨ x0 < b) ∧ (b < x0 + 8 ∨ x0 + 8 < b) → (st_276_38 x0 x1 r38 x2 x3 d).2 b = d b) → Safe (st_276_38 x0 x1 r38 x2 x3 d).2 → K (.inl (some (0, (st_276_38 x0 x1 r38 x2 x3 d).1))) (st_276_38 x0 x1 r38 x2 x3 d).2) : tRun E 276 (38, [.inr (11, x0), .inl (0, x1), .inl (0, x2), .inl (0, x3), v4], [], 0, 0, d) K := by
  refine t_276_38 ?_
  have q1 := mo_5 hS hx0 x1 (x2 + 5) (by omega) (by omega)
  refine ⟨by omega, ⟨m_inR (by omega) (by omega), m_inR (by omega) (by omega)⟩, fun c0 => ?_, fun c0 => ?_⟩
  · have q2 := mo_4 hS hx0 x1 (x2 + 4) (by omega) (by omega)
    refine ⟨by omega, m_inR (by omega) (by omega), fun c1 => ?_, fun c1 => ?_⟩
    · refine t_276_141 ?_
      have q3 := r_11_f18 hS hx0
      have y0 : st_276_38 x0 x1 r38 x2 x3 d = (d x0 18, d) := by simp only [st_276_38, if_neg (show ¬ x3 < d (x0 + 1) (x2 + 5) from Int.not_lt.mpr c0), if_neg (show ¬ d (x0 + 1) (x2 + 4) = 0 from c1)]
      rw [y0] at h
      exact h (show ∀ b : Int, (b < x0 ∨ x0 < b) ∧ (b < x0 + 8 ∨ x0 + 8 < b) → d b = d b from fun _ _ => rfl) hS
    · refine k_273 hS hx0 (by omega) (by omega) (fun F1 n1_0 hS1 => ?_)
      refine t_276_141 ?_
      have q4 := r_11_f18 hS1 hx0
      have y0 : st_276_38 x0 x1 r38 x2 x3 d = ((g_273 x0 33 d) x0 18, g_273 x0 33 d) := by simp only [st_276_38, if_neg (show ¬ x3 < d (x0 + 1) (x2 + 5) from Int.not_lt.mpr c0), if_pos (show d (x0 + 1) (x2 + 4) = 0 from c1)]
      rw [y0] at h
      exact h (show ∀ b : Int, (b < x0 ∨ x0 < b) ∧ (b < x0 + 8 ∨ x0 + 8 < b) → (g_273 x0 33 d) b = d b from fun b hb => F1 b (by omega)) hS1
  · refine ⟨m_inR (by omega) (by omega), fun c1 => ?_, fun c1 => ?_⟩
    · refine t_276_60 ?_
      refine ⟨by omega, ?_⟩
      refine k_179 hS ?_
      refine t_276_74 ?_
      have q5 := mo_q hS hx0 x1 x3 ((x2 + 7) + x3) (by omega) (by omega) (by omega)
      refine ⟨by omega, ?_⟩
      refine k_178 hS ?_
      refine t_276_93 ?_
      have q6 := mt_0 hS hx0 (d (x0 + 1) ((x2 + 7) + x3)) ((452 + (24 * (d (x0 + 1) ((x2 + 7) + x3)))) + 0) (by omega) (by omega)
      refine ⟨by omega, ?_⟩
      have q7 := mp_0 hS hx0 (d (x0 + 1) ((452 + (24 * (d (x0 + 1) ((x2 + 7) + x3)))) + 0)) ((420 + (2 * (d (x0 + 1) ((452 + (24 * (d (x0 + 1) ((x2 + 7) + x3)))) + 0)))) + 0) (by omega) (by omega)
      refine k_275 hS hx0 (by omega) (by omega) (fun F2 n2_0 hS2 => ?_)
      refine t_276_99 ?_
      refine k_273 hS2 hx0 (by omega) (by omega) (fun F3 n3_0 hS3 => ?_)
      refine t_276_105 ?_
      rw [F3 (x0 + 1) (by omega)]
      rw [F2 (x0 + 1) (by omega)]
      refine ⟨by omega, ?_⟩
      have q8 := mt_2 hS hx0 (d (x0 + 1) ((x2 + 7) + x3)) ((452 + (24 * (d (x0 + 1) ((x2 + 7) + x3)))) + 2) (by omega) (by omega)
      refine k_274 hS3 hx0 (by omega) (by omega) (fun F4 n4_0 hS4 => ?_)
      refine t_276_118 ?_
      refine ih38 x2 (x3 + 1) (.inl (0, 452 + (24 * (d (x0 + 1) ((x2 + 7) + x3))))) (g_274 x0 (d (x0 + 1) ((452 + (24 * (d (x0 + 1) ((x2 + 7) + x3)))) + 2)) (g_273 x0 64 (g_275 x0 (d (x0 + 1) ((420 + (2 * (d (x0 + 1) ((452 + (24 * (d (x0 + 1) ((x2 + 7) + x3)))) + 0)))) + 0)) d))) hS4 (by omega) (by omega) (by omega) (by omega) (by omega) (by omega) ?_
      intro F hS_
      have y0 : st_276_38 x0 x1 r38 x2 x3 d = r38 x2 (x3 + 1) (g_274 x0 (d (x0 + 1) ((452 + (24 * (d (x0 + 1) ((x2 + 7) + x3)))) + 2)) (g_273 x0 64 (g_275 x0 (d (x0 + 1) ((420 + (2 * (d (x0 + 1) ((452 + (24 * (d (x0 + 1) ((x2 + 7) + x3)))) + 0)))) + 0)) d))) := by simp only [st_276_38, if_pos (show x3 < d (x0 + 1) (x2 + 5) from c0), if_neg (show ¬ (0 : Int) < x3 from Int.not_lt.mpr c1)]
      rw [y0] at h
      exact h (fun b hb => (F b hb).trans ((show ∀ b : Int, (b < x0 ∨ x0 < b) ∧ (b < x0 + 8 ∨ x0 + 8 < b) → (g_274 x0 (d (x0 + 1) ((452 + (24 * (d (x0 + 1) ((x2 + 7) + x3)))) + 2)) (g_273 x0 64 (g_275 x0 (d (x0 + 1) ((420 + (2 * (d (x0 + 1) ((452 + (24 * (d (x0 + 1) ((x2 + 7) + x3)))) + 0)))) + 0)) d))) b = d b from fun b hb => (F4 b (by omega)).trans ((F3 b (by omega)).trans (F2 b (by omega)))) b hb)) hS_
    · refine k_273 hS hx0 (by omega) (by omega) (fun F5 n5_0 hS5 => ?_)
      refine t_276_60 ?_
      rw [F5 (x0 + 1) (by omega)]
      refine ⟨by omega, ?_⟩
      refine k_179 hS5 ?_
      refine t_276_74 ?_
      have q9 := mo_q hS hx0 x1 x3 ((x2 + 7) + x3) (by omega) (by omega) (by omega)
      rw [F5 (x0 + 1) (by omega)]
      refine ⟨by omega, ?_⟩
      refine k_178 hS5 ?_
      refine t_276_93 ?_
      have q10 := mt_0 hS hx0 (d (x0 + 1) ((x2 + 7) + x3)) ((452 + (24 * (d (x0 + 1) ((x2 + 7) + x3)))) + 0) (by omega) (by omega)
      rw [F5 (x0 + 1) (by omega)]
      refine ⟨by omega, ?_⟩
      have q11 := mp_0 hS hx0 (d (x0 + 1) ((452 + (24 * (d (x0 + 1) ((x2 + 7) + x3)))) + 0)) ((420 + (2 * (d (x0 + 1) ((452 + (24 * (d (x0 + 1) ((x2 + 7) + x3)))) + 0)))) + 0) (by omega) (by omega)
      refine k_275 hS5 hx0 (by omega) (by omega) (fun F6 n6_0 hS6 => ?_)
      refine t_276_99 ?_
      refine k_273 hS6 hx0 (by omega) (by omega) (fun F7 n7_0 hS7 => ?_)
      refine t_276_105 ?_
      rw [F7 (x0 + 1) (by omega)]
      rw [F6 (x0 + 1) (by omega)]
      rw [F5 (x0 + 1) (by omega)]
      refine ⟨by omega, ?_⟩
      have q12 := mt_2 hS hx0 (d (x0 + 1) ((x2 + 7) + x3)) ((452 + (24 * (d (x0 + 1) ((x2 + 7) + x3)))) + 2) (by omega) (by omega)
      refine k_274 hS7 hx0 (by omega) (by omega) (fun F8 n8_0 hS8 => ?_)
      refine t_276_118 ?_
      refine ih38 x2 (x3 + 1) (.inl (0, 452 + (24 * (d (x0 + 1) ((x2 + 7) + x3))))) (g_274 x0 (d (x0 + 1) ((452 + (24 * (d (x0 + 1) ((x2 + 7) + x3)))) + 2)) (g_273 x0 64 (g_275 x0 (d (x0 + 1) ((420 + (2 * (d (x0 + 1) ((452 + (24 * (d (x0 + 1) ((x2 + 7) + x3)))) + 0)))) + 0)) (g_273 x0 32 d)))) hS8 (by omega) (by omega) (by omega) (by omega) (by omega) (by omega) ?_
      intro F hS_
      have y0 : st_276_38 x0 x1 r38 x2 x3 d = r38 x2 (x3 + 1) (g_274 x0 (d (x0 + 1) ((452 + (24 * (d (x0 + 1) ((x2 + 7) + x3)))) + 2)) (g_273 x0 64 (g_275 x0 (d (x0 + 1) ((420 + (2 * (d (x0 + 1) ((452 + (24 * (d (x0 + 1) ((x2 + 7) + x3)))) + 0)))) + 0)) (g_273 x0 32 d)))) := by simp only [st_276_38, if_pos (show x3 < d (x0 + 1) (x2 + 5) from c0), if_pos (show (0 : Int) < x3 from c1)]
      rw [y0] at h
      exact h (fun b hb => (F b hb).trans ((show ∀ b : Int, (b < x0 ∨ x0 < b) ∧ (b < x0 + 8 ∨ x0 + 8 < b) → (g_274 x0 (d (x0 + 1) ((452 + (24 * (d (x0 + 1) ((x2 + 7) + x3)))) + 2)) (g_273 x0 64 (g_275 x0 (d (x0 + 1) ((420 + (2 * (d (x0 + 1) ((452 + (24 * (d (x0 + 1) ((x2 + 7) + x3)))) + 0)))) + 0)) (g_273 x0 32 d)))) b = d b from fun b hb => (F8 b (by omega)).trans ((F7 b (by omega)).trans ((F6 b (by omega)).trans (F5 b (by omega))))) b hb)) hS_
theorem l_276_38 {E : mO × tW} {K : tK} {x0 x1 : Int} (hx0 : mdB x0) (p1 : -2147483648 ≤ x1 ∧ x1 ≤ 2147483647) : ∀ (n : Nat) (x2 x3 : Int) (v4 : tV) (d : mD), Safe d → (0 ≤ x3 ∧ x3 ≤ 61) → (x2 = 12 + 68 * x1) → (d x0 18 ≤ 12 * x3) → (0 ≤ x1 ∧ x1 ≤ 5) → 61 - x3 ≤ (n : Int) → ((∀ b : Int, (b < x0 ∨ x0 < b) ∧ (b < x0 + 8 ∨ x0 + 8 < b) → (lp_276_38 x0 x1 n x2 x3 d).2 b = d b) → Safe (lp_276_38 x0 x1 n x2 x3 d).2 → K (.inl (some (0, (lp_276_38 x0 x1 n x2 x3 d).1))) (lp_276_38 x0 x1 n x2 x3 d).2) → tRun E 276 (38, [.inr (11, x0), .inl (0, x1), .inl (0, x2), .inl (0, x3), v4], [], 0, 0, d) K := by
  intro n
  induction n with
  | zero =>
    intro x2 x3 v4 d hS i0 i1 i2 i3 hm  h
    exact ls_276_38 hx0 p1 0 _ (fun _ _ _ _ _ _ _ _ _ m0 m1 _ => absurd m1 (by omega)) x2 x3 v4 d hS i0 i1 i2 i3 hm  h
  | succ n ih =>
    intro x2 x3 v4 d hS i0 i1 i2 i3 hm  h
    exact ls_276_38 hx0 p1 ((n + 1 : Nat) : Int) _ (fun x2 x3 v4 d hS i0 i1 i2 i3  m0 m1 h => ih x2 x3 v4 d hS i0 i1 i2 i3 (by omega)  h) x2 x3 v4 d hS i0 i1 i2 i3 hm  h
def f_276 (x0 x1 : Int) (d : mD) : Int × mD := if v_236 x0 x1 d = 0 then (0, mset d x0 0 1) else lp_276_38 x0 x1 (61 - 0 : Int).toNat (12 + (68 * x1)) 0 (mset (mset d x0 0 0) x0 18 0)
def v_276 (x0 x1 : Int) (d : mD) : Int := (f_276 x0 x1 d).1
def g_276 (x0 x1 : Int) (d : mD) : mD := (f_276 x0 x1 d).2
theorem k_276 {E : mO × tW} {K : tK} {d : mD} {x0 x1 : Int} (hS : Safe d) (hx0 : mdB x0) (p1 : -2147483648 ≤ x1 ∧ x1 ≤ 2147483647) (h : (∀ b : Int, (b < x0 ∨ x0 < b) ∧ (b < x0 + 8 ∨ x0 + 8 < b) → (g_276 x0 x1 d) b = d b) → Safe (g_276 x0 x1 d) → K (.inl (some (0, (v_276 x0 x1 d)))) (g_276 x0 x1 d)) : tCall E 276 [.inr (11, x0), .inl (0, x1)] d K := by
  simp only [v_276, g_276] at h
  refine t_276_0 ?_
  have w0 := mh_0 hS hx0 _ rfl
  have w7 := mh_7 hS hx0 _ rfl
  have w8 := mh_8 hS hx0 _ rfl
  have w9 := mh_9 hS hx0 _ rfl
  have w10 := mh_10 hS hx0 _ rfl
  have w11 := mh_11 hS hx0 _ rfl
  refine k_236 hS hx0 (m_inR (by omega) (by omega)) (fun e1 => ?_)
  refine t_276_6 ?_
  refine ⟨m_inR (by omega) (by omega), fun c0 => ?_, fun c0 => ?_⟩
  · have hS9 : Safe (mset d x0 0 1) := s_11_f0 hS hx0 (by omega)
    rw [mset_eq (d := d) (a := x0) (i := (0 : Int)) (v := (1 : Int))]
    refine ⟨m_inR (by omega) (by omega), fun c1 => ?_, fun c1 => ?_⟩
    · exact (show False by omega).elim
    · have y0 : f_276 x0 x1 d = (0, mset d x0 0 1) := by simp only [f_276, if_pos (show v_236 x0 x1 d = 0 from c0), if_pos (show (0 : Int) < 1 from c1)]
      rw [y0] at h
      exact h (show ∀ b : Int, (b < x0 ∨ x0 < b) ∧ (b < x0 + 8 ∨ x0 + 8 < b) → (mset d x0 0 1) b = d b from fun b hb => mset_ne (by omega)) hS9
  · have hS10 : Safe (mset d x0 0 0) := s_11_f0 hS hx0 (by omega)
    rw [mset_eq (d := d) (a := x0) (i := (0 : Int)) (v := (0 : Int))]
    refine ⟨m_inR (by omega) (by omega), fun c1 => ?_, fun c1 => ?_⟩
    · have hS11 : Safe (mset (mset d x0 0 0) x0 18 0) := s_11_f18 hS10 hx0 (by omega)
      refine k_177 hS11 ?_
      refine t_276_35 ?_
      have q13 : (mset (mset d x0 0 0) x0 18 0) x0 18 = 0 := mset_eq
      refine l_276_38 hx0 p1 (61 - 0 : Int).toNat (12 + (68 * x1)) 0 tu (mset (mset d x0 0 0) x0 18 0) hS11 (by omega) (by omega) (by omega) (by omega) (by omega) ?_
      intro F hS_
      have y0 : f_276 x0 x1 d = lp_276_38 x0 x1 (61 - 0 : Int).toNat (12 + (68 * x1)) 0 (mset (mset d x0 0 0) x0 18 0) := by simp only [f_276, if_neg (show ¬ v_236 x0 x1 d = 0 from c0), if_neg (show ¬ (0 : Int) < 0 from Int.not_lt.mpr c1)]
      rw [y0] at h
      exact h (fun b hb => (F b hb).trans ((show ∀ b : Int, (b < x0 ∨ x0 < b) ∧ (b < x0 + 8 ∨ x0 + 8 < b) → (mset (mset d x0 0 0) x0 18 0) b = d b from fun b hb => (mset_ne (by omega)).trans (mset_ne (by omega))) b hb)) hS_
    · exact (show False by omega).elim
def v_277 (x0 x1 : Int) (d : mD) : Int := if v_176 x1 0 ((d x0 18) - 1) d = 0 then 0 else d (x0 + 8) x1
def g_277 (x0 x1 : Int) (d : mD) : mD := if v_176 x1 0 ((d x0 18) - 1) d = 0 then mset d x0 0 1 else mset d x0 0 0
theorem k_277 {E : mO × tW} {K : tK} {d : mD} {x0 x1 : Int} (hS : Safe d) (hx0 : mdB x0) (p1 : -2147483648 ≤ x1 ∧ x1 ≤ 2147483647) (h : (∀ b : Int, (b < x0 ∨ x0 < b) → (g_277 x0 x1 d) b = d b) → Safe (g_277 x0 x1 d) → K (.inl (some (0, (v_277 x0 x1 d)))) (g_277 x0 x1 d)) : tCall E 277 [.inr (11, x0), .inl (0, x1)] d K := by
  refine t_277_0 ?_
  have w0 := mh_0 hS hx0 _ rfl
  have w7 := mh_7 hS hx0 _ rfl
  have w8 := mh_8 hS hx0 _ rfl
  have w9 := mh_9 hS hx0 _ rfl
  have w10 := mh_10 hS hx0 _ rfl
  have w11 := mh_11 hS hx0 _ rfl
  have q1 := r_11_f18 hS hx0
  refine ⟨m_inR (by omega) (by omega), m_inR (by omega) (by omega), ?_⟩
  refine k_176 hS (m_inR (by omega) (by omega)) (m_inR (by omega) (by omega)) (m_inR (by omega) (by omega)) (fun e1 => ?_)
  refine t_277_14 ?_
  refine ⟨m_inR (by omega) (by omega), fun c0 => ?_, fun c0 => ?_⟩
  · have hS1 : Safe (mset d x0 0 1) := s_11_f0 hS hx0 (by omega)
    rw [mset_eq (d := d) (a := x0) (i := (0 : Int)) (v := (1 : Int))]
    refine ⟨m_inR (by omega) (by omega), fun c1 => ?_, fun c1 => ?_⟩
    · exact (show False by omega).elim
    · have y0 : v_277 x0 x1 d = 0 := by simp only [v_277, if_pos (show v_176 x1 0 ((d x0 18) - 1) d = 0 from c0), if_pos (show (0 : Int) < 1 from c1)]
      have y1 : g_277 x0 x1 d = mset d x0 0 1 := by simp only [g_277, if_pos (show v_176 x1 0 ((d x0 18) - 1) d = 0 from c0), if_pos (show (0 : Int) < 1 from c1)]
      rw [y0] at h
      rw [y1] at h
      exact h (show ∀ b : Int, (b < x0 ∨ x0 < b) → (mset d x0 0 1) b = d b from fun b hb => mset_ne (by omega)) hS1
  · have hS2 : Safe (mset d x0 0 0) := s_11_f0 hS hx0 (by omega)
    rw [mset_eq (d := d) (a := x0) (i := (0 : Int)) (v := (0 : Int))]
    refine ⟨m_inR (by omega) (by omega), fun c1 => ?_, fun c1 => ?_⟩
    · rw [mset_ne (d := d) (a := x0) (i := (0 : Int)) (v := (0 : Int)) (b := x0 + 8) (by omega)]
      have q2 := r_11_8 hS hx0 x1
      refine ⟨by omega, ?_⟩
      have y0 : v_277 x0 x1 d = d (x0 + 8) x1 := by simp only [v_277, if_neg (show ¬ v_176 x1 0 ((d x0 18) - 1) d = 0 from c0), if_neg (show ¬ (0 : Int) < 0 from Int.not_lt.mpr c1)]
      have y1 : g_277 x0 x1 d = mset d x0 0 0 := by simp only [g_277, if_neg (show ¬ v_176 x1 0 ((d x0 18) - 1) d = 0 from c0), if_neg (show ¬ (0 : Int) < 0 from Int.not_lt.mpr c1)]
      rw [y0] at h
      rw [y1] at h
      exact h (show ∀ b : Int, (b < x0 ∨ x0 < b) → (mset d x0 0 0) b = d b from fun b hb => mset_ne (by omega)) hS2
    · exact (show False by omega).elim
