/-! ===== contracts of the reference's methods: printed by a program of mine ===== -/
theorem dv4 (v u : Int) : ((u = 1 ∧ v / u = v / 1) ∨ (u = 10 ∧ v / u = v / 10) ∨ (u = 100 ∧ v / u = v / 100) ∨ (u = 1000 ∧ v / u = v / 1000)) ∨ ¬(u = 1 ∨ u = 10 ∨ u = 100 ∨ u = 1000) := by
  by_cases h : u = 1 ∨ u = 10 ∨ u = 100 ∨ u = 1000
  · left
    rcases h with h | h | h | h <;> subst h <;> omega
  · right; exact h
theorem dv6 (v u : Int) : ((u = 1 ∧ v / u = v / 1) ∨ (u = 27 ∧ v / u = v / 27) ∨ (u = 729 ∧ v / u = v / 729) ∨ (u = 19683 ∧ v / u = v / 19683) ∨ (u = 531441 ∧ v / u = v / 531441) ∨ (u = 14348907 ∧ v / u = v / 14348907)) ∨ ¬(u = 1 ∨ u = 27 ∨ u = 729 ∨ u = 19683 ∨ u = 531441 ∨ u = 14348907) := by
  by_cases h : u = 1 ∨ u = 27 ∨ u = 729 ∨ u = 19683 ∨ u = 531441 ∨ u = 14348907
  · left
    rcases h with h | h | h | h | h | h <;> subst h <;> omega
  · right; exact h
def g_273 (x0 x1 : Int) (d : mD) : mD := mset (mset d (x0 + 8) (d x0 18) x1) x0 18 ((d x0 18) + 1)
theorem k_273 {E : mO × tW} {K : tK} {d : mD} {x0 x1 : Int} (hS : Safe d) (hx0 : mdB x0) (p1 : 0 ≤ x1 ∧ x1 ≤ 255) (ho : d x0 18 ≤ 799) (h : (∀ b : Int, (b < x0 ∨ x0 < b) ∧ (b < x0 + 8 ∨ x0 + 8 < b) → (g_273 x0 x1 d) b = d b) → ((g_273 x0 x1 d) x0 18 = d x0 18 + 1) → Safe (g_273 x0 x1 d) → K (.inl none) (g_273 x0 x1 d)) : tCall E 273 [.inr (11, x0), .inl (0, x1)] d K := by
  refine t_273_0 ?_
  have w0 := mh_0 hS hx0 _ rfl
  have w7 := mh_7 hS hx0 _ rfl
  have w8 := mh_8 hS hx0 _ rfl
  have w9 := mh_9 hS hx0 _ rfl
  have w10 := mh_10 hS hx0 _ rfl
  have w11 := mh_11 hS hx0 _ rfl
  have q1 := r_11_f18 hS hx0
  refine ⟨by omega, ?_⟩
  have hS1 : Safe (mset d (x0 + 8) (d x0 18) x1) := s_11_8 hS hx0 (by omega)
  rw [mset_ne (d := d) (a := x0 + 8) (i := d x0 18) (v := x1) (b := x0) (by omega)]
  have hS2 : Safe (mset (mset d (x0 + 8) (d x0 18) x1) x0 18 ((d x0 18) + 1)) := s_11_f18 hS1 hx0 (by omega)
  have q2 : (mset (mset d (x0 + 8) (d x0 18) x1) x0 18 ((d x0 18) + 1)) x0 18 = (d x0 18) + 1 := mset_eq
  have y0 : g_273 x0 x1 d = mset (mset d (x0 + 8) (d x0 18) x1) x0 18 ((d x0 18) + 1) := by simp only [g_273]
  rw [y0] at h
  exact h (show ∀ b : Int, (b < x0 ∨ x0 < b) ∧ (b < x0 + 8 ∨ x0 + 8 < b) → (mset (mset d (x0 + 8) (d x0 18) x1) x0 18 ((d x0 18) + 1)) b = d b from fun b hb => (mset_ne (by omega)).trans (mset_ne (by omega))) (show (mset (mset d (x0 + 8) (d x0 18) x1) x0 18 ((d x0 18) + 1)) x0 18 = d x0 18 + 1 by omega) hS2
def st_274_18 (x0 x1 : Int) (r18 : Int → mD → mD) (x2 : Int) (d : mD) : mD := if (0 : Int) < x2 then r18 (x2 / 10) (g_273 x0 (48 + ((x1 / x2) % 10)) d) else d
def lp_274_18 (x0 x1 : Int) : Nat → Int → mD → mD
  | 0 => st_274_18 x0 x1 (fun _ d => d)
  | n + 1 => st_274_18 x0 x1 (lp_274_18 x0 x1 n)
theorem ls_274_18 {E : mO × tW} {K : tK} {x0 x1 : Int} (hx0 : mdB x0) (p1 : 0 ≤ x1 ∧ x1 ≤ 1200) (N18 : Int) (r18 : Int → mD → mD) (ih18 : ∀ (x2 : Int) (d : mD), Safe d → ((x2 = 1000 ∧ d x0 18 ≤ 796) ∨ (x2 = 100 ∧ d x0 18 ≤ 797) ∨ (x2 = 10 ∧ d x0 18 ≤ 798) ∨ (x2 = 1 ∧ d x0 18 ≤ 799) ∨ x2 = 0) → (0 ≤ x1 ∧ x1 ≤ 1200) → 0 ≤ x2 → x2 < N18 → ((∀ b : Int, (b < x0 ∨ x0 < b) ∧ (b < x0 + 8 ∨ x0 + 8 < b) → (r18 x2 d) b = d b) → ((x2 = 1000 ∧ (r18 x2 d) x0 18 ≤ d x0 18 + 4) ∨ (x2 = 100 ∧ (r18 x2 d) x0 18 ≤ d x0 18 + 3) ∨ (x2 = 10 ∧ (r18 x2 d) x0 18 ≤ d x0 18 + 2) ∨ (x2 = 1 ∧ (r18 x2 d) x0 18 ≤ d x0 18 + 1) ∨ (x2 = 0 ∧ (r18 x2 d) x0 18 = d x0 18)) → Safe (r18 x2 d) → K (.inl none) (r18 x2 d)) → tRun E 274 (18, [.inr (11, x0), .inl (0, x1), .inl (0, x2)], [], 0, 0, d) K) (x2 : Int) (d : mD) (hS : Safe d) (i0 : (x2 = 1000 ∧ d x0 18 ≤ 796) ∨ (x2 = 100 ∧ d x0 18 ≤ 797) ∨ (x2 = 10 ∧ d x0 18 ≤ 798) ∨ (x2 = 1 ∧ d x0 18 ≤ 799) ∨ x2 = 0) (i1 : 0 ≤ x1 ∧ x1 ≤ 1200) (hm : x2 ≤ N18) (h : (∀ b : Int, (b < x0 ∨ x0 < b) ∧ (b < x0 + 8 ∨ x0 + 8 < b) → (st_274_18 x0 x1 r18 x2 d) b = d b) → ((x2 = 1000 ∧ (st_274_18 x0 x1 r18 x2 d) x0 18 ≤ d x0 18 + 4) ∨ (x2 = 100 ∧ (st_274_18 x0 x1 r18 x2 d) x0 18 ≤ d x0 18 + 3) ∨ (x2 = 10 ∧ (st_274_18 x0 x1 r18 x2 d) x0 18 ≤ d x0 18 + 2) ∨ (x2 = 1 ∧ (st_274_18 x0 x1 r18 x2 d) x0 18 ≤ d x0 18 + 1) ∨ (x2 = 0 ∧ (st_274_18 x0 x1 r18 x2 d) x0 18 = d x0 18)) → Safe (st_274_18 x0 x1 r18 x2 d) → K (.inl none) (st_274_18 x0 x1 r18 x2 d)) : tRun E 274 (18, [.inr (11, x0), .inl (0, x1), .inl (0, x2)], [], 0, 0, d) K := by
  refine t_274_18 ?_
  have w1 := dv4 x1 x2
  refine ⟨m_inR (by omega) (by omega), fun c0 => ?_, fun c0 => ?_⟩
  · have y0 : st_274_18 x0 x1 r18 x2 d = d := by simp only [st_274_18, if_neg (show ¬ (0 : Int) < x2 from Int.not_lt.mpr c0)]
    rw [y0] at h
    exact h (show ∀ b : Int, (b < x0 ∨ x0 < b) ∧ (b < x0 + 8 ∨ x0 + 8 < b) → d b = d b from fun _ _ => rfl) (show (x2 = 1000 ∧ d x0 18 ≤ d x0 18 + 4) ∨ (x2 = 100 ∧ d x0 18 ≤ d x0 18 + 3) ∨ (x2 = 10 ∧ d x0 18 ≤ d x0 18 + 2) ∨ (x2 = 1 ∧ d x0 18 ≤ d x0 18 + 1) ∨ (x2 = 0 ∧ d x0 18 = d x0 18) by omega) hS
  · have q1 := mdiv_r (x := x1) (y := x2) (by omega) (by omega)
    refine ⟨by omega, by omega, ?_⟩
    refine k_273 hS hx0 (by omega) (by omega) (fun F1 n1_0 hS1 => ?_)
    refine t_274_35 ?_
    refine ⟨by omega, ?_⟩
    refine ih18 (x2 / 10)  (g_273 x0 (48 + ((x1 / x2) % 10)) d) hS1 (by omega) (by omega) (by omega) (by omega) ?_
    intro F n0 hS_
    have y0 : st_274_18 x0 x1 r18 x2 d = r18 (x2 / 10) (g_273 x0 (48 + ((x1 / x2) % 10)) d) := by simp only [st_274_18, if_pos (show (0 : Int) < x2 from c0)]
    rw [y0] at h
    exact h (fun b hb => (F b hb).trans ((show ∀ b : Int, (b < x0 ∨ x0 < b) ∧ (b < x0 + 8 ∨ x0 + 8 < b) → (g_273 x0 (48 + ((x1 / x2) % 10)) d) b = d b from fun b hb => F1 b (by omega)) b hb)) (by omega) hS_
theorem l_274_18 {E : mO × tW} {K : tK} {x0 x1 : Int} (hx0 : mdB x0) (p1 : 0 ≤ x1 ∧ x1 ≤ 1200) : ∀ (n : Nat) (x2 : Int) (d : mD), Safe d → ((x2 = 1000 ∧ d x0 18 ≤ 796) ∨ (x2 = 100 ∧ d x0 18 ≤ 797) ∨ (x2 = 10 ∧ d x0 18 ≤ 798) ∨ (x2 = 1 ∧ d x0 18 ≤ 799) ∨ x2 = 0) → (0 ≤ x1 ∧ x1 ≤ 1200) → x2 ≤ (n : Int) → ((∀ b : Int, (b < x0 ∨ x0 < b) ∧ (b < x0 + 8 ∨ x0 + 8 < b) → (lp_274_18 x0 x1 n x2 d) b = d b) → ((x2 = 1000 ∧ (lp_274_18 x0 x1 n x2 d) x0 18 ≤ d x0 18 + 4) ∨ (x2 = 100 ∧ (lp_274_18 x0 x1 n x2 d) x0 18 ≤ d x0 18 + 3) ∨ (x2 = 10 ∧ (lp_274_18 x0 x1 n x2 d) x0 18 ≤ d x0 18 + 2) ∨ (x2 = 1 ∧ (lp_274_18 x0 x1 n x2 d) x0 18 ≤ d x0 18 + 1) ∨ (x2 = 0 ∧ (lp_274_18 x0 x1 n x2 d) x0 18 = d x0 18)) → Safe (lp_274_18 x0 x1 n x2 d) → K (.inl none) (lp_274_18 x0 x1 n x2 d)) → tRun E 274 (18, [.inr (11, x0), .inl (0, x1), .inl (0, x2)], [], 0, 0, d) K := by
  intro n
  induction n with
  | zero =>
    intro x2  d hS i0 i1 hm  h
    exact ls_274_18 hx0 p1 0 _ (fun _  _ _ _ _ m0 m1 _ => absurd m1 (by omega)) x2  d hS i0 i1 hm  h
  | succ n ih =>
    intro x2  d hS i0 i1 hm  h
    exact ls_274_18 hx0 p1 ((n + 1 : Nat) : Int) _ (fun x2  d hS i0 i1  m0 m1 h => ih x2  d hS i0 i1 (by omega)  h) x2  d hS i0 i1 hm  h
def st_274_2 (x0 x1 : Int) (r2 : Int → mD → mD) (x2 : Int) (d : mD) : mD := if x1 / x2 < 10 then lp_274_18 x0 x1 (x2 : Int).toNat x2 d else r2 (x2 * 10) d
def lp_274_2 (x0 x1 : Int) : Nat → Int → mD → mD
  | 0 => st_274_2 x0 x1 (fun _ d => d)
  | n + 1 => st_274_2 x0 x1 (lp_274_2 x0 x1 n)
theorem ls_274_2 {E : mO × tW} {K : tK} {x0 x1 : Int} (hx0 : mdB x0) (p1 : 0 ≤ x1 ∧ x1 ≤ 1200) (N2 : Int) (r2 : Int → mD → mD) (ih2 : ∀ (x2 : Int) (d : mD), Safe d → (x2 = 1 ∨ x2 = 10 ∨ x2 = 100 ∨ x2 = 1000) → (d x0 18 ≤ 796) → 0 ≤ 1000 - x2 → 1000 - x2 < N2 → ((∀ b : Int, (b < x0 ∨ x0 < b) ∧ (b < x0 + 8 ∨ x0 + 8 < b) → (r2 x2 d) b = d b) → ((r2 x2 d) x0 18 ≤ d x0 18 + 4) → Safe (r2 x2 d) → K (.inl none) (r2 x2 d)) → tRun E 274 (2, [.inr (11, x0), .inl (0, x1), .inl (0, x2)], [], 0, 0, d) K) (x2 : Int) (d : mD) (hS : Safe d) (i0 : x2 = 1 ∨ x2 = 10 ∨ x2 = 100 ∨ x2 = 1000) (i1 : d x0 18 ≤ 796) (hm : 1000 - x2 ≤ N2) (h : (∀ b : Int, (b < x0 ∨ x0 < b) ∧ (b < x0 + 8 ∨ x0 + 8 < b) → (st_274_2 x0 x1 r2 x2 d) b = d b) → ((st_274_2 x0 x1 r2 x2 d) x0 18 ≤ d x0 18 + 4) → Safe (st_274_2 x0 x1 r2 x2 d) → K (.inl none) (st_274_2 x0 x1 r2 x2 d)) : tRun E 274 (2, [.inr (11, x0), .inl (0, x1), .inl (0, x2)], [], 0, 0, d) K := by
  refine t_274_2 ?_
  have w1 := dv4 x1 x2
  have q2 := mdiv_r (x := x1) (y := x2) (by omega) (by omega)
  refine ⟨by omega, ⟨m_inR (by omega) (by omega), m_inR (by omega) (by omega)⟩, fun c0 => ?_, fun c0 => ?_⟩
  · refine l_274_18 hx0 p1 (x2 : Int).toNat x2  d hS (by omega) (by omega) (by omega) ?_
    intro F n0 hS_
    have y0 : st_274_2 x0 x1 r2 x2 d = lp_274_18 x0 x1 (x2 : Int).toNat x2 d := by simp only [st_274_2, if_pos (show x1 / x2 < 10 from c0)]
    rw [y0] at h
    exact h F (by omega) hS_
  · refine ih2 (x2 * 10)  d hS (by omega) (by omega) (by omega) (by omega) ?_
    intro F n0 hS_
    have y0 : st_274_2 x0 x1 r2 x2 d = r2 (x2 * 10) d := by simp only [st_274_2, if_neg (show ¬ x1 / x2 < 10 from Int.not_lt.mpr c0)]
    rw [y0] at h
    exact h F (by omega) hS_
theorem l_274_2 {E : mO × tW} {K : tK} {x0 x1 : Int} (hx0 : mdB x0) (p1 : 0 ≤ x1 ∧ x1 ≤ 1200) : ∀ (n : Nat) (x2 : Int) (d : mD), Safe d → (x2 = 1 ∨ x2 = 10 ∨ x2 = 100 ∨ x2 = 1000) → (d x0 18 ≤ 796) → 1000 - x2 ≤ (n : Int) → ((∀ b : Int, (b < x0 ∨ x0 < b) ∧ (b < x0 + 8 ∨ x0 + 8 < b) → (lp_274_2 x0 x1 n x2 d) b = d b) → ((lp_274_2 x0 x1 n x2 d) x0 18 ≤ d x0 18 + 4) → Safe (lp_274_2 x0 x1 n x2 d) → K (.inl none) (lp_274_2 x0 x1 n x2 d)) → tRun E 274 (2, [.inr (11, x0), .inl (0, x1), .inl (0, x2)], [], 0, 0, d) K := by
  intro n
  induction n with
  | zero =>
    intro x2  d hS i0 i1 hm  h
    exact ls_274_2 hx0 p1 0 _ (fun _  _ _ _ _ m0 m1 _ => absurd m1 (by omega)) x2  d hS i0 i1 hm  h
  | succ n ih =>
    intro x2  d hS i0 i1 hm  h
    exact ls_274_2 hx0 p1 ((n + 1 : Nat) : Int) _ (fun x2  d hS i0 i1  m0 m1 h => ih x2  d hS i0 i1 (by omega)  h) x2  d hS i0 i1 hm  h
def g_274 (x0 x1 : Int) (d : mD) : mD := lp_274_2 x0 x1 (1000 - 1 : Int).toNat 1 d
theorem k_274 {E : mO × tW} {K : tK} {d : mD} {x0 x1 : Int} (hS : Safe d) (hx0 : mdB x0) (p1 : 0 ≤ x1 ∧ x1 ≤ 1200) (ho : d x0 18 ≤ 796) (h : (∀ b : Int, (b < x0 ∨ x0 < b) ∧ (b < x0 + 8 ∨ x0 + 8 < b) → (g_274 x0 x1 d) b = d b) → ((g_274 x0 x1 d) x0 18 ≤ d x0 18 + 4) → Safe (g_274 x0 x1 d) → K (.inl none) (g_274 x0 x1 d)) : tCall E 274 [.inr (11, x0), .inl (0, x1)] d K := by
  refine t_274_0 ?_
  have w0 := mh_0 hS hx0 _ rfl
  have w7 := mh_7 hS hx0 _ rfl
  have w8 := mh_8 hS hx0 _ rfl
  have w9 := mh_9 hS hx0 _ rfl
  have w10 := mh_10 hS hx0 _ rfl
  have w11 := mh_11 hS hx0 _ rfl
  refine l_274_2 hx0 p1 (1000 - 1 : Int).toNat 1  d hS (by omega) (by omega) (by omega) ?_
  intro F n0 hS_
  have y0 : g_274 x0 x1 d = lp_274_2 x0 x1 (1000 - 1 : Int).toNat 1 d := by simp only [g_274]
  rw [y0] at h
  exact h F (by omega) hS_
def st_275_18 (x0 x1 : Int) (r18 : Int → mD → mD) (x2 : Int) (d : mD) : mD := if (0 : Int) < x2 then r18 (x2 / 27) (g_273 x0 ((((x1 / x2) % 27) + 97) - 1) d) else d
def lp_275_18 (x0 x1 : Int) : Nat → Int → mD → mD
  | 0 => st_275_18 x0 x1 (fun _ d => d)
  | n + 1 => st_275_18 x0 x1 (lp_275_18 x0 x1 n)
theorem ls_275_18 {E : mO × tW} {K : tK} {x0 x1 : Int} (hx0 : mdB x0) (p1 : 0 ≤ x1 ∧ x1 ≤ 387420488) (N18 : Int) (r18 : Int → mD → mD) (ih18 : ∀ (x2 : Int) (d : mD), Safe d → ((x2 = 14348907 ∧ d x0 18 ≤ 794) ∨ (x2 = 531441 ∧ d x0 18 ≤ 795) ∨ (x2 = 19683 ∧ d x0 18 ≤ 796) ∨ (x2 = 729 ∧ d x0 18 ≤ 797) ∨ (x2 = 27 ∧ d x0 18 ≤ 798) ∨ (x2 = 1 ∧ d x0 18 ≤ 799) ∨ x2 = 0) → (0 ≤ x1) → 0 ≤ x2 → x2 < N18 → ((∀ b : Int, (b < x0 ∨ x0 < b) ∧ (b < x0 + 8 ∨ x0 + 8 < b) → (r18 x2 d) b = d b) → ((x2 = 14348907 ∧ (r18 x2 d) x0 18 ≤ d x0 18 + 6) ∨ (x2 = 531441 ∧ (r18 x2 d) x0 18 ≤ d x0 18 + 5) ∨ (x2 = 19683 ∧ (r18 x2 d) x0 18 ≤ d x0 18 + 4) ∨ (x2 = 729 ∧ (r18 x2 d) x0 18 ≤ d x0 18 + 3) ∨ (x2 = 27 ∧ (r18 x2 d) x0 18 ≤ d x0 18 + 2) ∨ (x2 = 1 ∧ (r18 x2 d) x0 18 ≤ d x0 18 + 1) ∨ (x2 = 0 ∧ (r18 x2 d) x0 18 = d x0 18)) → Safe (r18 x2 d) → K (.inl none) (r18 x2 d)) → tRun E 275 (18, [.inr (11, x0), .inl (0, x1), .inl (0, x2)], [], 0, 0, d) K) (x2 : Int) (d : mD) (hS : Safe d) (i0 : (x2 = 14348907 ∧ d x0 18 ≤ 794) ∨ (x2 = 531441 ∧ d x0 18 ≤ 795) ∨ (x2 = 19683 ∧ d x0 18 ≤ 796) ∨ (x2 = 729 ∧ d x0 18 ≤ 797) ∨ (x2 = 27 ∧ d x0 18 ≤ 798) ∨ (x2 = 1 ∧ d x0 18 ≤ 799) ∨ x2 = 0) (i1 : 0 ≤ x1) (hm : x2 ≤ N18) (h : (∀ b : Int, (b < x0 ∨ x0 < b) ∧ (b < x0 + 8 ∨ x0 + 8 < b) → (st_275_18 x0 x1 r18 x2 d) b = d b) → ((x2 = 14348907 ∧ (st_275_18 x0 x1 r18 x2 d) x0 18 ≤ d x0 18 + 6) ∨ (x2 = 531441 ∧ (st_275_18 x0 x1 r18 x2 d) x0 18 ≤ d x0 18 + 5) ∨ (x2 = 19683 ∧ (st_275_18 x0 x1 r18 x2 d) x0 18 ≤ d x0 18 + 4) ∨ (x2 = 729 ∧ (st_275_18 x0 x1 r18 x2 d) x0 18 ≤ d x0 18 + 3) ∨ (x2 = 27 ∧ (st_275_18 x0 x1 r18 x2 d) x0 18 ≤ d x0 18 + 2) ∨ (x2 = 1 ∧ (st_275_18 x0 x1 r18 x2 d) x0 18 ≤ d x0 18 + 1) ∨ (x2 = 0 ∧ (st_275_18 x0 x1 r18 x2 d) x0 18 = d x0 18)) → Safe (st_275_18 x0 x1 r18 x2 d) → K (.inl none) (st_275_18 x0 x1 r18 x2 d)) : tRun E 275 (18, [.inr (11, x0), .inl (0, x1), .inl (0, x2)], [], 0, 0, d) K := by
  refine t_275_18 ?_
  have w1 := dv6 x1 x2
  refine ⟨m_inR (by omega) (by omega), fun c0 => ?_, fun c0 => ?_⟩
  · have y0 : st_275_18 x0 x1 r18 x2 d = d := by simp only [st_275_18, if_neg (show ¬ (0 : Int) < x2 from Int.not_lt.mpr c0)]
    rw [y0] at h
    exact h (show ∀ b : Int, (b < x0 ∨ x0 < b) ∧ (b < x0 + 8 ∨ x0 + 8 < b) → d b = d b from fun _ _ => rfl) (show (x2 = 14348907 ∧ d x0 18 ≤ d x0 18 + 6) ∨ (x2 = 531441 ∧ d x0 18 ≤ d x0 18 + 5) ∨ (x2 = 19683 ∧ d x0 18 ≤ d x0 18 + 4) ∨ (x2 = 729 ∧ d x0 18 ≤ d x0 18 + 3) ∨ (x2 = 27 ∧ d x0 18 ≤ d x0 18 + 2) ∨ (x2 = 1 ∧ d x0 18 ≤ d x0 18 + 1) ∨ (x2 = 0 ∧ d x0 18 = d x0 18) by omega) hS
  · have q1 := mdiv_r (x := x1) (y := x2) (by omega) (by omega)
    refine ⟨by omega, by omega, ?_⟩
    refine k_273 hS hx0 (by omega) (by omega) (fun F1 n1_0 hS1 => ?_)
    refine t_275_37 ?_
    refine ⟨by omega, ?_⟩
    refine ih18 (x2 / 27)  (g_273 x0 ((((x1 / x2) % 27) + 97) - 1) d) hS1 (by clear w1 q1; rcases i0 with ⟨rfl, u⟩ | ⟨rfl, u⟩ | ⟨rfl, u⟩ | ⟨rfl, u⟩ | ⟨rfl, u⟩ | ⟨rfl, u⟩ | rfl <;> omega) (by omega) (by omega) (by omega) ?_
    intro F n0 hS_
    have y0 : st_275_18 x0 x1 r18 x2 d = r18 (x2 / 27) (g_273 x0 ((((x1 / x2) % 27) + 97) - 1) d) := by simp only [st_275_18, if_pos (show (0 : Int) < x2 from c0)]
    rw [y0] at h
    exact h (fun b hb => (F b hb).trans ((show ∀ b : Int, (b < x0 ∨ x0 < b) ∧ (b < x0 + 8 ∨ x0 + 8 < b) → (g_273 x0 ((((x1 / x2) % 27) + 97) - 1) d) b = d b from fun b hb => F1 b (by omega)) b hb)) (by clear w1 q1; rcases i0 with ⟨rfl, u⟩ | ⟨rfl, u⟩ | ⟨rfl, u⟩ | ⟨rfl, u⟩ | ⟨rfl, u⟩ | ⟨rfl, u⟩ | rfl <;> omega) hS_
theorem l_275_18 {E : mO × tW} {K : tK} {x0 x1 : Int} (hx0 : mdB x0) (p1 : 0 ≤ x1 ∧ x1 ≤ 387420488) : ∀ (n : Nat) (x2 : Int) (d : mD), Safe d → ((x2 = 14348907 ∧ d x0 18 ≤ 794) ∨ (x2 = 531441 ∧ d x0 18 ≤ 795) ∨ (x2 = 19683 ∧ d x0 18 ≤ 796) ∨ (x2 = 729 ∧ d x0 18 ≤ 797) ∨ (x2 = 27 ∧ d x0 18 ≤ 798) ∨ (x2 = 1 ∧ d x0 18 ≤ 799) ∨ x2 = 0) → (0 ≤ x1) → x2 ≤ (n : Int) → ((∀ b : Int, (b < x0 ∨ x0 < b) ∧ (b < x0 + 8 ∨ x0 + 8 < b) → (lp_275_18 x0 x1 n x2 d) b = d b) → ((x2 = 14348907 ∧ (lp_275_18 x0 x1 n x2 d) x0 18 ≤ d x0 18 + 6) ∨ (x2 = 531441 ∧ (lp_275_18 x0 x1 n x2 d) x0 18 ≤ d x0 18 + 5) ∨ (x2 = 19683 ∧ (lp_275_18 x0 x1 n x2 d) x0 18 ≤ d x0 18 + 4) ∨ (x2 = 729 ∧ (lp_275_18 x0 x1 n x2 d) x0 18 ≤ d x0 18 + 3) ∨ (x2 = 27 ∧ (lp_275_18 x0 x1 n x2 d) x0 18 ≤ d x0 18 + 2) ∨ (x2 = 1 ∧ (lp_275_18 x0 x1 n x2 d) x0 18 ≤ d x0 18 + 1) ∨ (x2 = 0 ∧ (lp_275_18 x0 x1 n x2 d) x0 18 = d x0 18)) → Safe (lp_275_18 x0 x1 n x2 d) → K (.inl none) (lp_275_18 x0 x1 n x2 d)) → tRun E 275 (18, [.inr (11, x0), .inl (0, x1), .inl (0, x2)], [], 0, 0, d) K := by
  intro n
  induction n with
  | zero =>
    intro x2  d hS i0 i1 hm  h
    exact ls_275_18 hx0 p1 0 _ (fun _  _ _ _ _ m0 m1 _ => absurd m1 (by omega)) x2  d hS i0 i1 hm  h
  | succ n ih =>
    intro x2  d hS i0 i1 hm  h
    exact ls_275_18 hx0 p1 ((n + 1 : Nat) : Int) _ (fun x2  d hS i0 i1  m0 m1 h => ih x2  d hS i0 i1 (by omega)  h) x2  d hS i0 i1 hm  h
def st_275_2 (x0 x1 : Int) (r2 : Int → mD → mD) (x2 : Int) (d : mD) : mD := if x1 / x2 < 27 then lp_275_18 x0 x1 (x2 : Int).toNat x2 d else r2 (x2 * 27) d
def lp_275_2 (x0 x1 : Int) : Nat → Int → mD → mD
  | 0 => st_275_2 x0 x1 (fun _ d => d)
  | n + 1 => st_275_2 x0 x1 (lp_275_2 x0 x1 n)
theorem ls_275_2 {E : mO × tW} {K : tK} {x0 x1 : Int} (hx0 : mdB x0) (p1 : 0 ≤ x1 ∧ x1 ≤ 387420488) (N2 : Int) (r2 : Int → mD → mD) (ih2 : ∀ (x2 : Int) (d : mD), Safe d → (x2 = 1 ∨ x2 = 27 ∨ x2 = 729 ∨ x2 = 19683 ∨ x2 = 531441 ∨ x2 = 14348907) → (d x0 18 ≤ 794) → 0 ≤ 14348907 - x2 → 14348907 - x2 < N2 → ((∀ b : Int, (b < x0 ∨ x0 < b) ∧ (b < x0 + 8 ∨ x0 + 8 < b) → (r2 x2 d) b = d b) → ((r2 x2 d) x0 18 ≤ d x0 18 + 6) → Safe (r2 x2 d) → K (.inl none) (r2 x2 d)) → tRun E 275 (2, [.inr (11, x0), .inl (0, x1), .inl (0, x2)], [], 0, 0, d) K) (x2 : Int) (d : mD) (hS : Safe d) (i0 : x2 = 1 ∨ x2 = 27 ∨ x2 = 729 ∨ x2 = 19683 ∨ x2 = 531441 ∨ x2 = 14348907) (i1 : d x0 18 ≤ 794) (hm : 14348907 - x2 ≤ N2) (h : (∀ b : Int, (b < x0 ∨ x0 < b) ∧ (b < x0 + 8 ∨ x0 + 8 < b) → (st_275_2 x0 x1 r2 x2 d) b = d b) → ((st_275_2 x0 x1 r2 x2 d) x0 18 ≤ d x0 18 + 6) → Safe (st_275_2 x0 x1 r2 x2 d) → K (.inl none) (st_275_2 x0 x1 r2 x2 d)) : tRun E 275 (2, [.inr (11, x0), .inl (0, x1), .inl (0, x2)], [], 0, 0, d) K := by
  refine t_275_2 ?_
  have w1 := dv6 x1 x2
  have q2 := mdiv_r (x := x1) (y := x2) (by omega) (by omega)
  refine ⟨by omega, ⟨m_inR (by omega) (by omega), m_inR (by omega) (by omega)⟩, fun c0 => ?_, fun c0 => ?_⟩
  · refine l_275_18 hx0 p1 (x2 : Int).toNat x2  d hS (by omega) (by omega) (by omega) ?_
    intro F n0 hS_
    have y0 : st_275_2 x0 x1 r2 x2 d = lp_275_18 x0 x1 (x2 : Int).toNat x2 d := by simp only [st_275_2, if_pos (show x1 / x2 < 27 from c0)]
    rw [y0] at h
    exact h F (by omega) hS_
  · refine ih2 (x2 * 27)  d hS (by omega) (by omega) (by omega) (by omega) ?_
    intro F n0 hS_
    have y0 : st_275_2 x0 x1 r2 x2 d = r2 (x2 * 27) d := by simp only [st_275_2, if_neg (show ¬ x1 / x2 < 27 from Int.not_lt.mpr c0)]
    rw [y0] at h
    exact h F (by omega) hS_
theorem l_275_2 {E : mO × tW} {K : tK} {x0 x1 : Int} (hx0 : mdB x0) (p1 : 0 ≤ x1 ∧ x1 ≤ 387420488) : ∀ (n : Nat) (x2 : Int) (d : mD), Safe d → (x2 = 1 ∨ x2 = 27 ∨ x2 = 729 ∨ x2 = 19683 ∨ x2 = 531441 ∨ x2 = 14348907) → (d x0 18 ≤ 794) → 14348907 - x2 ≤ (n : Int) → ((∀ b : Int, (b < x0 ∨ x0 < b) ∧ (b < x0 + 8 ∨ x0 + 8 < b) → (lp_275_2 x0 x1 n x2 d) b = d b) → ((lp_275_2 x0 x1 n x2 d) x0 18 ≤ d x0 18 + 6) → Safe (lp_275_2 x0 x1 n x2 d) → K (.inl none) (lp_275_2 x0 x1 n x2 d)) → tRun E 275 (2, [.inr (11, x0), .inl (0, x1), .inl (0, x2)], [], 0, 0, d) K := by
  intro n
  induction n with
  | zero =>
    intro x2  d hS i0 i1 hm  h
    exact ls_275_2 hx0 p1 0 _ (fun _  _ _ _ _ m0 m1 _ => absurd m1 (by omega)) x2  d hS i0 i1 hm  h
  | succ n ih =>
    intro x2  d hS i0 i1 hm  h
    exact ls_275_2 hx0 p1 ((n + 1 : Nat) : Int) _ (fun x2  d hS i0 i1  m0 m1 h => ih x2  d hS i0 i1 (by omega)  h) x2  d hS i0 i1 hm  h
def g_275 (x0 x1 : Int) (d : mD) : mD := lp_275_2 x0 x1 (14348907 - 1 : Int).toNat 1 d
theorem k_275 {E : mO × tW} {K : tK} {d : mD} {x0 x1 : Int} (hS : Safe d) (hx0 : mdB x0) (p1 : 0 ≤ x1 ∧ x1 ≤ 387420488) (ho : d x0 18 ≤ 794) (h : (∀ b : Int, (b < x0 ∨ x0 < b) ∧ (b < x0 + 8 ∨ x0 + 8 < b) → (g_275 x0 x1 d) b = d b) → ((g_275 x0 x1 d) x0 18 ≤ d x0 18 + 6) → Safe (g_275 x0 x1 d) → K (.inl none) (g_275 x0 x1 d)) : tCall E 275 [.inr (11, x0), .inl (0, x1)] d K := by
  refine t_275_0 ?_
  have w0 := mh_0 hS hx0 _ rfl
  have w7 := mh_7 hS hx0 _ rfl
  have w8 := mh_8 hS hx0 _ rfl
  have w9 := mh_9 hS hx0 _ rfl
  have w10 := mh_10 hS hx0 _ rfl
  have w11 := mh_11 hS hx0 _ rfl
  refine l_275_2 hx0 p1 (14348907 - 1 : Int).toNat 1  d hS (by omega) (by omega) (by omega) ?_
  intro F n0 hS_
  have y0 : g_275 x0 x1 d = lp_275_2 x0 x1 (14348907 - 1 : Int).toNat 1 d := by simp only [g_275]
  rw [y0] at h
  exact h F (by omega) hS_
def st_276_38 (x0 x1 : Int) (r38 : Int → Int → mD → Int × mD) (x2 x3 : Int) (d : mD) : Int × mD := if x3 < d (x0 + 1) (x2 + 5) then (if (0 : Int) < x3 then r38 x2 (x3 + 1) (g_274 x0 (d (x0 + 1) ((452 + (24 * (d (x0 + 1) ((x2 + 7) + x3)))) + 2)) (g_273 x0 64 (g_275 x0 (d (x0 + 1) ((420 + (2 * (d (x0 + 1) ((452 + (24 * (d (x0 + 1) ((x2 + 7) + x3)))) + 0)))) + 0)) (g_273 x0 32 d)))) else r38 x2 (x3 + 1) (g_274 x0 (d (x0 + 1) ((452 + (24 * (d (x0 + 1) ((x2 + 7) + x3)))) + 2)) (g_273 x0 64 (g_275 x0 (d (x0 + 1) ((420 + (2 * (d (x0 + 1) ((452 + (24 * (d (x0 + 1) ((x2 + 7) + x3)))) + 0)))) + 0)) d)))) else if d (x0 + 1) (x2 + 4) = 0 then ((g_273 x0 33 d) x0 18, g_273 x0 33 d) else (d x0 18, d)
def lp_276_38 (x0 x1 : Int) : Nat → Int → Int → mD → Int × mD
  | 0 => st_276_38 x0 x1 (fun _ _ d => (0, d))
  | n + 1 => st_276_38 x0 x1 (lp_276_38 x0 x1 n)
theorem ls_276_38 {E : mO × tW} {K : tK} {x0 x1 : Int} (hx0 : mdB x0) (p1 : -2147483648 ≤ x1 ∧ x1 ≤ 2147483647) (N38 : Int) (r38 : Int → Int → mD → Int × mD) (ih38 : ∀ (x2 x3 : Int) (v4 : tV) (d : mD), Safe d → (0 ≤ x3 ∧ x3 ≤ 61) → (x2 = 12 + 68 * x1) → (d x0 18 ≤ 12 * x3) → (0 ≤ x1 ∧ x1 ≤ 5) → 0 ≤ 61 - x3 → 61 - x3 < N38 → ((∀ b : Int, (b < x0 ∨ x0 < b) ∧ (b < x0 + 8 ∨ x0 + 8 < b) → (r38 x2 x3 d).2 b = d b) → Safe (r38 x2 x3 d).2 → K (.inl (some (0, (r38 x2 x3 d).1))) (r38 x2 x3 d).2) → tRun E 276 (38, [.inr (11, x0), .inl (0, x1), .inl (0, x2), .inl (0, x3), v4], [], 0, 0, d) K) (x2 x3 : Int) (v4 : tV) (d : mD) (hS : Safe d) (i0 : 0 ≤ x3 ∧ x3 ≤ 61) (i1 : x2 = 12 + 68 * x1) (i2 : d x0 18 ≤ 12 * x3) (i3 : 0 ≤ x1 ∧ x1 ≤ 5) (hm : 61 - x3 ≤ N38) (h : (∀ b : Int, (b < x0 ∨ x0 < b) ∧ (b < x0 + 8 ∨ x0 + 8 < b) → (st_276_38 x0 x1 r38 x2 x3 d).2 b = d b) → Safe (st_276_38 x0 x1 r38 x2 x3 d).2 → K (.inl (some (0, (st_276_38 x0 x1 r38 x2 x3 d).1))) (st_276_38 x0 x1 r38 x2 x3 d).2) : tRun E 276 (38, [.inr (11, x0), .inl (0, x1), .inl (0, x2), .inl (0, x3), v4], [], 0, 0, d) K := by
  refine t_276_38 ?_
  have q1 := mo_5 hS hx0 x1 (x2 + 5) (by omega) (by omega)
  refine ⟨by omega, ⟨m_inR (by omega) (by omega), m_inR (by omega) (by omega)⟩, fun c0 => ?_, fun c0 => ?_⟩
  · have q2 := mo_4 hS hx0 x1 (x2 + 4) (by omega) (by omega)
    refine ⟨by omega, m_inR (by omega) (by omega), fun c1 => ?_, fun c1 => ?_⟩
    · refine t_276_141 ?_
      have q3 := r_11_f18 hS hx0
      have y0 : st_276_38 x0 x1 r38 x2 x3 d = (d x0 18, d) := by simp only [st_276_38, if_neg (show ¬ x3 < d (x0 + 1) (x2 + 5) from Int.not_lt.mpr c0), if_neg (show ¬ d (x0 + 1) (x2 + 4) = 0 from c1)]
      rw [y0] at h
      exact h (show ∀ b : Int, (b < x0 ∨ x0 < b) ∧ (b < x0 + 8 ∨ x0 + 8 < b) → d b = d b from fun _ _ => rfl) hS
    · refine k_273 hS hx0 (by omega) (by omega) (fun F1 n1_0 hS1 => ?_)
      refine t_276_141 ?_
      have q4 := r_11_f18 hS1 hx0
      have y0 : st_276_38 x0 x1 r38 x2 x3 d = ((g_273 x0 33 d) x0 18, g_273 x0 33 d) := by simp only [st_276_38, if_neg (show ¬ x3 < d (x0 + 1) (x2 + 5) from Int.not_lt.mpr c0), if_pos (show d (x0 + 1) (x2 + 4) = 0 from c1)]
      rw [y0] at h
      exact h (show ∀ b : Int, (b < x0 ∨ x0 < b) ∧ (b < x0 + 8 ∨ x0 + 8 < b) → (g_273 x0 33 d) b = d b from fun b hb => F1 b (by omega)) hS1
  · refine ⟨m_inR (by omega) (by omega), fun c1 => ?_, fun c1 => ?_⟩
    · refine t_276_60 ?_
      refine ⟨by omega, ?_⟩
      refine k_179 hS ?_
      refine t_276_74 ?_
      have q5 := mo_q hS hx0 x1 x3 ((x2 + 7) + x3) (by omega) (by omega) (by omega)
      refine ⟨by omega, ?_⟩
      refine k_178 hS ?_
      refine t_276_93 ?_
      have q6 := mt_0 hS hx0 (d (x0 + 1) ((x2 + 7) + x3)) ((452 + (24 * (d (x0 + 1) ((x2 + 7) + x3)))) + 0) (by omega) (by omega)
      refine ⟨by omega, ?_⟩
      have q7 := mp_0 hS hx0 (d (x0 + 1) ((452 + (24 * (d (x0 + 1) ((x2 + 7) + x3)))) + 0)) ((420 + (2 * (d (x0 + 1) ((452 + (24 * (d (x0 + 1) ((x2 + 7) + x3)))) + 0)))) + 0) (by omega) (by omega)
      refine k_275 hS hx0 (by omega) (by omega) (fun F2 n2_0 hS2 => ?_)
      refine t_276_99 ?_
      refine k_273 hS2 hx0 (by omega) (by omega) (fun F3 n3_0 hS3 => ?_)
      refine t_276_105 ?_
      rw [F3 (x0 + 1) (by omega)]
      rw [F2 (x0 + 1) (by omega)]
      refine ⟨by omega, ?_⟩
      have q8 := mt_2 hS hx0 (d (x0 + 1) ((x2 + 7) + x3)) ((452 + (24 * (d (x0 + 1) ((x2 + 7) + x3)))) + 2) (by omega) (by omega)
      refine k_274 hS3 hx0 (by omega) (by omega) (fun F4 n4_0 hS4 => ?_)
      refine t_276_118 ?_
      refine ih38 x2 (x3 + 1) (.inl (0, 452 + (24 * (d (x0 + 1) ((x2 + 7) + x3))))) (g_274 x0 (d (x0 + 1) ((452 + (24 * (d (x0 + 1) ((x2 + 7) + x3)))) + 2)) (g_273 x0 64 (g_275 x0 (d (x0 + 1) ((420 + (2 * (d (x0 + 1) ((452 + (24 * (d (x0 + 1) ((x2 + 7) + x3)))) + 0)))) + 0)) d))) hS4 (by omega) (by omega) (by omega) (by omega) (by omega) (by omega) ?_
      intro F hS_
      have y0 : st_276_38 x0 x1 r38 x2 x3 d = r38 x2 (x3 + 1) (g_274 x0 (d (x0 + 1) ((452 + (24 * (d (x0 + 1) ((x2 + 7) + x3)))) + 2)) (g_273 x0 64 (g_275 x0 (d (x0 + 1) ((420 + (2 * (d (x0 + 1) ((452 + (24 * (d (x0 + 1) ((x2 + 7) + x3)))) + 0)))) + 0)) d))) := by simp only [st_276_38, if_pos (show x3 < d (x0 + 1) (x2 + 5) from c0), if_neg (show ¬ (0 : Int) < x3 from Int.not_lt.mpr c1)]
      rw [y0] at h
      exact h (fun b hb => (F b hb).trans ((show ∀ b : Int, (b < x0 ∨ x0 < b) ∧ (b < x0 + 8 ∨ x0 + 8 < b) → (g_274 x0 (d (x0 + 1) ((452 + (24 * (d (x0 + 1) ((x2 + 7) + x3)))) + 2)) (g_273 x0 64 (g_275 x0 (d (x0 + 1) ((420 + (2 * (d (x0 + 1) ((452 + (24 * (d (x0 + 1) ((x2 + 7) + x3)))) + 0)))) + 0)) d))) b = d b from fun b hb => (F4 b (by omega)).trans ((F3 b (by omega)).trans (F2 b (by omega)))) b hb)) hS_
    · refine k_273 hS hx0 (by omega) (by omega) (fun F5 n5_0 hS5 => ?_)
      refine t_276_60 ?_
      rw [F5 (x0 + 1) (by omega)]
      refine ⟨by omega, ?_⟩
      refine k_179 hS5 ?_
      refine t_276_74 ?_
      have q9 := mo_q hS hx0 x1 x3 ((x2 + 7) + x3) (by omega) (by omega) (by omega)
      rw [F5 (x0 + 1) (by omega)]
      refine ⟨by omega, ?_⟩
      refine k_178 hS5 ?_
      refine t_276_93 ?_
      have q10 := mt_0 hS hx0 (d (x0 + 1) ((x2 + 7) + x3)) ((452 + (24 * (d (x0 + 1) ((x2 + 7) + x3)))) + 0) (by omega) (by omega)
      rw [F5 (x0 + 1) (by omega)]
      refine ⟨by omega, ?_⟩
      have q11 := mp_0 hS hx0 (d (x0 + 1) ((452 + (24 * (d (x0 + 1) ((x2 + 7) + x3)))) + 0)) ((420 + (2 * (d (x0 + 1) ((452 + (24 * (d (x0 + 1) ((x2 + 7) + x3)))) + 0)))) + 0) (by omega) (by omega)
      refine k_275 hS5 hx0 (by omega) (by omega) (fun F6 n6_0 hS6 => ?_)
      refine t_276_99 ?_
      refine k_273 hS6 hx0 (by omega) (by omega) (fun F7 n7_0 hS7 => ?_)
      refine t_276_105 ?_
      rw [F7 (x0 + 1) (by omega)]
      rw [F6 (x0 + 1) (by omega)]
      rw [F5 (x0 + 1) (by omega)]
      refine ⟨by omega, ?_⟩
      have q12 := mt_2 hS hx0 (d (x0 + 1) ((x2 + 7) + x3)) ((452 + (24 * (d (x0 + 1) ((x2 + 7) + x3)))) + 2) (by omega) (by omega)
      refine k_274 hS7 hx0 (by omega) (by omega) (fun F8 n8_0 hS8 => ?_)
      refine t_276_118 ?_
      refine ih38 x2 (x3 + 1) (.inl (0, 452 + (24 * (d (x0 + 1) ((x2 + 7) + x3))))) (g_274 x0 (d (x0 + 1) ((452 + (24 * (d (x0 + 1) ((x2 + 7) + x3)))) + 2)) (g_273 x0 64 (g_275 x0 (d (x0 + 1) ((420 + (2 * (d (x0 + 1) ((452 + (24 * (d (x0 + 1) ((x2 + 7) + x3)))) + 0)))) + 0)) (g_273 x0 32 d)))) hS8 (by omega) (by omega) (by omega) (by omega) (by omega) (by omega) ?_
      intro F hS_
      have y0 : st_276_38 x0 x1 r38 x2 x3 d = r38 x2 (x3 + 1) (g_274 x0 (d (x0 + 1) ((452 + (24 * (d (x0 + 1) ((x2 + 7) + x3)))) + 2)) (g_273 x0 64 (g_275 x0 (d (x0 + 1) ((420 + (2 * (d (x0 + 1) ((452 + (24 * (d (x0 + 1) ((x2 + 7) + x3)))) + 0)))) + 0)) (g_273 x0 32 d)))) := by simp only [st_276_38, if_pos (show x3 < d (x0 + 1) (x2 + 5) from c0), if_pos (show (0 : Int) < x3 from c1)]
      rw [y0] at h
      exact h (fun b hb => (F b hb).trans ((show ∀ b : Int, (b < x0 ∨ x0 < b) ∧ (b < x0 + 8 ∨ x0 + 8 < b) → (g_274 x0 (d (x0 + 1) ((452 + (24 * (d (x0 + 1) ((x2 + 7) + x3)))) + 2)) (g_273 x0 64 (g_275 x0 (d (x0 + 1) ((420 + (2 * (d (x0 + 1) ((452 + (24 * (d (x0 + 1) ((x2 + 7) + x3)))) + 0)))) + 0)) (g_273 x0 32 d)))) b = d b from fun b hb => (F8 b (by omega)).trans ((F7 b (by omega)).trans ((F6 b (by omega)).trans (F5 b (by omega))))) b hb)) hS_
theorem l_276_38 {E : mO × tW} {K : tK} {x0 x1 : Int} (hx0 : mdB x0) (p1 : -2147483648 ≤ x1 ∧ x1 ≤ 2147483647) : ∀ (n : Nat) (x2 x3 : Int) (v4 : tV) (d : mD), Safe d → (0 ≤ x3 ∧ x3 ≤ 61) → (x2 = 12 + 68 * x1) → (d x0 18 ≤ 12 * x3) → (0 ≤ x1 ∧ x1 ≤ 5) → 61 - x3 ≤ (n : Int) → ((∀ b : Int, (b < x0 ∨ x0 < b) ∧ (b < x0 + 8 ∨ x0 + 8 < b) → (lp_276_38 x0 x1 n x2 x3 d).2 b = d b) → Safe (lp_276_38 x0 x1 n x2 x3 d).2 → K (.inl (some (0, (lp_276_38 x0 x1 n x2 x3 d).1))) (lp_276_38 x0 x1 n x2 x3 d).2) → tRun E 276 (38, [.inr (11, x0), .inl (0, x1), .inl (0, x2), .inl (0, x3), v4], [], 0, 0, d) K := by
  intro n
  induction n with
  | zero =>
    intro x2 x3 v4 d hS i0 i1 i2 i3 hm  h
    exact ls_276_38 hx0 p1 0 _ (fun _ _ _ _ _ _ _ _ _ m0 m1 _ => absurd m1 (by omega)) x2 x3 v4 d hS i0 i1 i2 i3 hm  h
  | succ n ih =>
    intro x2 x3 v4 d hS i0 i1 i2 i3 hm  h
    exact ls_276_38 hx0 p1 ((n + 1 : Nat) : Int) _ (fun x2 x3 v4 d hS i0 i1 i2 i3  m0 m1 h => ih x2 x3 v4 d hS i0 i1 i2 i3 (by omega)  h) x2 x3 v4 d hS i0 i1 i2 i3 hm  h
def f_276 (x0 x1 : Int) (d : mD) : Int × mD := if v_236 x0 x1 d = 0 then (0, mset d x0 0 1) else lp_276_38 x0 x1 (61 - 0 : Int).toNat (12 + (68 * x1)) 0 (mset (mset d x0 0 0) x0 18 0)
def v_276 (x0 x1 : Int) (d : mD) : Int := (f_276 x0 x1 d).1
def g_276 (x0 x1 : Int) (d : mD) : mD := (f_276 x0 x1 d).2
theorem k_276 {E : mO × tW} {K : tK} {d : mD} {x0 x1 : Int} (hS : Safe d) (hx0 : mdB x0) (p1 : -2147483648 ≤ x1 ∧ x1 ≤ 2147483647) (h : (∀ b : Int, (b < x0 ∨ x0 < b) ∧ (b < x0 + 8 ∨ x0 + 8 < b) → (g_276 x0 x1 d) b = d b) → Safe (g_276 x0 x1 d) → K (.inl (some (0, (v_276 x0 x1 d)))) (g_276 x0 x1 d)) : tCall E 276 [.inr (11, x0), .inl (0, x1)] d K := by
  simp only [v_276, g_276] at h
  refine t_276_0 ?_
  have w0 := mh_0 hS hx0 _ rfl
  have w7 := mh_7 hS hx0 _ rfl
  have w8 := mh_8 hS hx0 _ rfl
  have w9 := mh_9 hS hx0 _ rfl
  have w10 := mh_10 hS hx0 _ rfl
  have w11 := mh_11 hS hx0 _ rfl
  refine k_236 hS hx0 (m_inR (by omega) (by omega)) (fun e1 => ?_)
  refine t_276_6 ?_
  refine ⟨m_inR (by omega) (by omega), fun c0 => ?_, fun c0 => ?_⟩
  · have hS9 : Safe (mset d x0 0 1) := s_11_f0 hS hx0 (by omega)
    rw [mset_eq (d := d) (a := x0) (i := (0 : Int)) (v := (1 : Int))]
    refine ⟨m_inR (by omega) (by omega), fun c1 => ?_, fun c1 => ?_⟩
    · exact (show False by omega).elim
    · have y0 : f_276 x0 x1 d = (0, mset d x0 0 1) := by simp only [f_276, if_pos (show v_236 x0 x1 d = 0 from c0), if_pos (show (0 : Int) < 1 from c1)]
      rw [y0] at h
      exact h (show ∀ b : Int, (b < x0 ∨ x0 < b) ∧ (b < x0 + 8 ∨ x0 + 8 < b) → (mset d x0 0 1) b = d b from fun b hb => mset_ne (by omega)) hS9
  · have hS10 : Safe (mset d x0 0 0) := s_11_f0 hS hx0 (by omega)
    rw [mset_eq (d := d) (a := x0) (i := (0 : Int)) (v := (0 : Int))]
    refine ⟨m_inR (by omega) (by omega), fun c1 => ?_, fun c1 => ?_⟩
    · have hS11 : Safe (mset (mset d x0 0 0) x0 18 0) := s_11_f18 hS10 hx0 (by omega)
      refine k_177 hS11 ?_
      refine t_276_35 ?_
      have q13 : (mset (mset d x0 0 0) x0 18 0) x0 18 = 0 := mset_eq
      refine l_276_38 hx0 p1 (61 - 0 : Int).toNat (12 + (68 * x1)) 0 tu (mset (mset d x0 0 0) x0 18 0) hS11 (by omega) (by omega) (by omega) (by omega) (by omega) ?_
      intro F hS_
      have y0 : f_276 x0 x1 d = lp_276_38 x0 x1 (61 - 0 : Int).toNat (12 + (68 * x1)) 0 (mset (mset d x0 0 0) x0 18 0) := by simp only [f_276, if_neg (show ¬ v_236 x0 x1 d = 0 from c0), if_neg (show ¬ (0 : Int) < 0 from Int.not_lt.mpr c1)]
      rw [y0] at h
      exact h (fun b hb => (F b hb).trans ((show ∀ b : Int, (b < x0 ∨ x0 < b) ∧ (b < x0 + 8 ∨ x0 + 8 < b) → (mset (mset d x0 0 0) x0 18 0) b = d b from fun b hb => (mset_ne (by omega)).trans (mset_ne (by omega))) b hb)) hS_
    · exact (show False by omega).elim
def v_277 (x0 x1 : Int) (d : mD) : Int := if v_176 x1 0 ((d x0 18) - 1) d = 0 then 0 else d (x0 + 8) x1
def g_277 (x0 x1 : Int) (d : mD) : mD := if v_176 x1 0 ((d x0 18) - 1) d = 0 then mset d x0 0 1 else mset d x0 0 0
theorem k_277 {E : mO × tW} {K : tK} {d : mD} {x0 x1 : Int} (hS : Safe d) (hx0 : mdB x0) (p1 : -2147483648 ≤ x1 ∧ x1 ≤ 2147483647) (h : (∀ b : Int, (b < x0 ∨ x0 < b) → (g_277 x0 x1 d) b = d b) → Safe (g_277 x0 x1 d) → K (.inl (some (0, (v_277 x0 x1 d)))) (g_277 x0 x1 d)) : tCall E 277 [.inr (11, x0), .inl (0, x1)] d K := by
  refine t_277_0 ?_
  have w0 := mh_0 hS hx0 _ rfl
  have w7 := mh_7 hS hx0 _ rfl
  have w8 := mh_8 hS hx0 _ rfl
  have w9 := mh_9 hS hx0 _ rfl
  have w10 := mh_10 hS hx0 _ rfl
  have w11 := mh_11 hS hx0 _ rfl
  have q1 := r_11_f18 hS hx0
  refine ⟨m_inR (by omega) (by omega), m_inR (by omega) (by omega), ?_⟩
  refine k_176 hS (m_inR (by omega) (by omega)) (m_inR (by omega) (by omega)) (m_inR (by omega) (by omega)) (fun e1 => ?_)
  refine t_277_14 ?_
  refine ⟨m_inR (by omega) (by omega), fun c0 => ?_, fun c0 => ?_⟩
  · have hS1 : Safe (mset d x0 0 1) := s_11_f0 hS hx0 (by omega)
    rw [mset_eq (d := d) (a := x0) (i := (0 : Int)) (v := (1 : Int))]
    refine ⟨m_inR (by omega) (by omega), fun c1 => ?_, fun c1 => ?_⟩
    · exact (show False by omega).elim
    · have y0 : v_277 x0 x1 d = 0 := by simp only [v_277, if_pos (show v_176 x1 0 ((d x0 18) - 1) d = 0 from c0), if_pos (show (0 : Int) < 1 from c1)]
      have y1 : g_277 x0 x1 d = mset d x0 0 1 := by simp only [g_277, if_pos (show v_176 x1 0 ((d x0 18) - 1) d = 0 from c0), if_pos (show (0 : Int) < 1 from c1)]
      rw [y0] at h
      rw [y1] at h
      exact h (show ∀ b : Int, (b < x0 ∨ x0 < b) → (mset d x0 0 1) b = d b from fun b hb => mset_ne (by omega)) hS1
  · have hS2 : Safe (mset d x0 0 0) := s_11_f0 hS hx0 (by omega)
    rw [mset_eq (d := d) (a := x0) (i := (0 : Int)) (v := (0 : Int))]
    refine ⟨m_inR (by omega) (by omega), fun c1 => ?_, fun c1 => ?_⟩
    · rw [mset_ne (d := d) (a := x0) (i := (0 : Int)) (v := (0 : Int)) (b := x0 + 8) (by omega)]
      have q2 := r_11_8 hS hx0 x1
      refine ⟨by omega, ?_⟩
      have y0 : v_277 x0 x1 d = d (x0 + 8) x1 := by simp only [v_277, if_neg (show ¬ v_176 x1 0 ((d x0 18) - 1) d = 0 from c0), if_neg (show ¬ (0 : Int) < 0 from Int.not_lt.mpr c1)]
      have y1 : g_277 x0 x1 d = mset d x0 0 0 := by simp only [g_277, if_neg (show ¬ v_176 x1 0 ((d x0 18) - 1) d = 0 from c0), if_neg (show ¬ (0 : Int) < 0 from Int.not_lt.mpr c1)]
      rw [y0] at h
      rw [y1] at h
      exact h (show ∀ b : Int, (b < x0 ∨ x0 < b) → (mset d x0 0 0) b = d b from fun b hb => mset_ne (by omega)) hS2
    · exact (show False by omega).elim
/-! ===== contracts of the reference's methods: printed by a program of mine ===== -/
def st_278_54 (x0 : Int) (r54 : Int → mD → mD) (x1 : Int) (d : mD) : mD := if x1 < 3116 then r54 (x1 + 1) (mset d (x0 + 2) ((3116 * (d x0 7)) + x1) (d (x0 + 1) x1)) else mset d x0 7 ((d x0 7) + 1)
def lp_278_54 (x0 : Int) : Nat → Int → mD → mD
  | 0 => st_278_54 x0 (fun _ d => d)
  | n + 1 => st_278_54 x0 (lp_278_54 x0 n)
theorem ls_278_54 {E : mO × tW} {K : tK} {x0 : Int} (hx0 : mdB x0) (N54 : Int) (r54 : Int → mD → mD) (ih54 : ∀ (x1 : Int) (d : mD), Safe d → (0 ≤ x1 ∧ x1 ≤ 3116) → (d x0 7 ≤ 7) → 0 ≤ 3116 - x1 → 3116 - x1 < N54 → ((∀ b : Int, (b < x0 ∨ x0 < b) ∧ (b < x0 + 2 ∨ x0 + 2 < b) → (r54 x1 d) b = d b) → Safe (r54 x1 d) → K (.inl none) (r54 x1 d)) → tRun E 278 (54, [.inr (11, x0), .inl (0, x1)], [], 0, 0, d) K) (x1 : Int) (d : mD) (hS : Safe d) (i0 : 0 ≤ x1 ∧ x1 ≤ 3116) (i1 : d x0 7 ≤ 7) (hm : 3116 - x1 ≤ N54) (h : (∀ b : Int, (b < x0 ∨ x0 < b) ∧ (b < x0 + 2 ∨ x0 + 2 < b) → (st_278_54 x0 r54 x1 d) b = d b) → Safe (st_278_54 x0 r54 x1 d) → K (.inl none) (st_278_54 x0 r54 x1 d)) : tRun E 278 (54, [.inr (11, x0), .inl (0, x1)], [], 0, 0, d) K := by
  refine t_278_54 ?_
  refine ⟨⟨m_inR (by omega) (by omega), m_inR (by omega) (by omega)⟩, fun c0 => ?_, fun c0 => ?_⟩
  · have q1 := r_11_f7 hS hx0
    have hS1 : Safe (mset d x0 7 ((d x0 7) + 1)) := s_11_f7 hS hx0 (by omega)
    have y0 : st_278_54 x0 r54 x1 d = mset d x0 7 ((d x0 7) + 1) := by simp only [st_278_54, if_neg (show ¬ x1 < 3116 from Int.not_lt.mpr c0)]
    rw [y0] at h
    exact h (show ∀ b : Int, (b < x0 ∨ x0 < b) ∧ (b < x0 + 2 ∨ x0 + 2 < b) → (mset d x0 7 ((d x0 7) + 1)) b = d b from fun b hb => mset_ne (by omega)) hS1
  · have q2 := r_11_f7 hS hx0
    refine ⟨by omega, by omega, ?_⟩
    have hS2 : Safe (mset d (x0 + 2) ((3116 * (d x0 7)) + x1) (d (x0 + 1) x1)) := sr_2 hS hx0 (j := x1) (by omega) (rr_1 hS hx0 x1)
    have q3 : (mset d (x0 + 2) ((3116 * (d x0 7)) + x1) (d (x0 + 1) x1)) x0 7 = d x0 7 := congrFun (mset_ne (by omega)) 7
    refine ih54 (x1 + 1)  (mset d (x0 + 2) ((3116 * (d x0 7)) + x1) (d (x0 + 1) x1)) hS2 (by omega) (by omega) (by omega) (by omega) ?_
    intro F hS_
    have y0 : st_278_54 x0 r54 x1 d = r54 (x1 + 1) (mset d (x0 + 2) ((3116 * (d x0 7)) + x1) (d (x0 + 1) x1)) := by simp only [st_278_54, if_pos (show x1 < 3116 from c0)]
    rw [y0] at h
    exact h (fun b hb => (F b hb).trans ((show ∀ b : Int, (b < x0 ∨ x0 < b) ∧ (b < x0 + 2 ∨ x0 + 2 < b) → (mset d (x0 + 2) ((3116 * (d x0 7)) + x1) (d (x0 + 1) x1)) b = d b from fun b hb => mset_ne (by omega)) b hb)) hS_
theorem l_278_54 {E : mO × tW} {K : tK} {x0 : Int} (hx0 : mdB x0) : ∀ (n : Nat) (x1 : Int) (d : mD), Safe d → (0 ≤ x1 ∧ x1 ≤ 3116) → (d x0 7 ≤ 7) → 3116 - x1 ≤ (n : Int) → ((∀ b : Int, (b < x0 ∨ x0 < b) ∧ (b < x0 + 2 ∨ x0 + 2 < b) → (lp_278_54 x0 n x1 d) b = d b) → Safe (lp_278_54 x0 n x1 d) → K (.inl none) (lp_278_54 x0 n x1 d)) → tRun E 278 (54, [.inr (11, x0), .inl (0, x1)], [], 0, 0, d) K := by
  intro n
  induction n with
  | zero =>
    intro x1  d hS i0 i1 hm  h
    exact ls_278_54 hx0 0 _ (fun _  _ _ _ _ m0 m1 _ => absurd m1 (by omega)) x1  d hS i0 i1 hm  h
  | succ n ih =>
    intro x1  d hS i0 i1 hm  h
    exact ls_278_54 hx0 ((n + 1 : Nat) : Int) _ (fun x1  d hS i0 i1  m0 m1 h => ih x1  d hS i0 i1 (by omega)  h) x1  d hS i0 i1 hm  h
def st_278_13 (x0 : Int) (r13 : Int → mD → mD) (x1 : Int) (d : mD) : mD := if x1 < 24928 then r13 (x1 + 1) (mset d (x0 + 2) (x1 - 3116) (d (x0 + 2) x1)) else lp_278_54 x0 (3116 - 0 : Int).toNat 0 (mset d x0 7 ((d x0 7) - 1))
def lp_278_13 (x0 : Int) : Nat → Int → mD → mD
  | 0 => st_278_13 x0 (fun _ d => d)
  | n + 1 => st_278_13 x0 (lp_278_13 x0 n)
theorem ls_278_13 {E : mO × tW} {K : tK} {x0 : Int} (hx0 : mdB x0) (N13 : Int) (r13 : Int → mD → mD) (ih13 : ∀ (x1 : Int) (d : mD), Safe d → (3116 ≤ x1 ∧ x1 ≤ 24928) → (d x0 7 = 8) → 0 ≤ 24928 - x1 → 24928 - x1 < N13 → ((∀ b : Int, (b < x0 ∨ x0 < b) ∧ (b < x0 + 2 ∨ x0 + 2 < b) → (r13 x1 d) b = d b) → Safe (r13 x1 d) → K (.inl none) (r13 x1 d)) → tRun E 278 (13, [.inr (11, x0), .inl (0, x1)], [], 0, 0, d) K) (x1 : Int) (d : mD) (hS : Safe d) (i0 : 3116 ≤ x1 ∧ x1 ≤ 24928) (i1 : d x0 7 = 8) (hm : 24928 - x1 ≤ N13) (h : (∀ b : Int, (b < x0 ∨ x0 < b) ∧ (b < x0 + 2 ∨ x0 + 2 < b) → (st_278_13 x0 r13 x1 d) b = d b) → Safe (st_278_13 x0 r13 x1 d) → K (.inl none) (st_278_13 x0 r13 x1 d)) : tRun E 278 (13, [.inr (11, x0), .inl (0, x1)], [], 0, 0, d) K := by
  refine t_278_13 ?_
  refine ⟨⟨m_inR (by omega) (by omega), m_inR (by omega) (by omega)⟩, fun c0 => ?_, fun c0 => ?_⟩
  · have q4 := r_11_f7 hS hx0
    have hS3 : Safe (mset d x0 7 ((d x0 7) - 1)) := s_11_f7 hS hx0 (by omega)
    have q5 : (mset d x0 7 ((d x0 7) - 1)) x0 7 = (d x0 7) - 1 := mset_eq
    refine l_278_54 hx0 (3116 - 0 : Int).toNat 0  (mset d x0 7 ((d x0 7) - 1)) hS3 (by omega) (by omega) (by omega) ?_
    intro F hS_
    have y0 : st_278_13 x0 r13 x1 d = lp_278_54 x0 (3116 - 0 : Int).toNat 0 (mset d x0 7 ((d x0 7) - 1)) := by simp only [st_278_13, if_neg (show ¬ x1 < 24928 from Int.not_lt.mpr c0)]
    rw [y0] at h
    exact h (fun b hb => (F b hb).trans ((show ∀ b : Int, (b < x0 ∨ x0 < b) ∧ (b < x0 + 2 ∨ x0 + 2 < b) → (mset d x0 7 ((d x0 7) - 1)) b = d b from fun b hb => mset_ne (by omega)) b hb)) hS_
  · refine ⟨by omega, by omega, ?_⟩
    have hS4 : Safe (mset d (x0 + 2) (x1 - 3116) (d (x0 + 2) x1)) := sr_2 hS hx0 (j := (x1) % 3116) (by omega) (rr_2 hS hx0 x1)
    have q6 : (mset d (x0 + 2) (x1 - 3116) (d (x0 + 2) x1)) x0 7 = d x0 7 := congrFun (mset_ne (by omega)) 7
    refine ih13 (x1 + 1)  (mset d (x0 + 2) (x1 - 3116) (d (x0 + 2) x1)) hS4 (by omega) (by omega) (by omega) (by omega) ?_
    intro F hS_
    have y0 : st_278_13 x0 r13 x1 d = r13 (x1 + 1) (mset d (x0 + 2) (x1 - 3116) (d (x0 + 2) x1)) := by simp only [st_278_13, if_pos (show x1 < 24928 from c0)]
    rw [y0] at h
    exact h (fun b hb => (F b hb).trans ((show ∀ b : Int, (b < x0 ∨ x0 < b) ∧ (b < x0 + 2 ∨ x0 + 2 < b) → (mset d (x0 + 2) (x1 - 3116) (d (x0 + 2) x1)) b = d b from fun b hb => mset_ne (by omega)) b hb)) hS_
theorem l_278_13 {E : mO × tW} {K : tK} {x0 : Int} (hx0 : mdB x0) : ∀ (n : Nat) (x1 : Int) (d : mD), Safe d → (3116 ≤ x1 ∧ x1 ≤ 24928) → (d x0 7 = 8) → 24928 - x1 ≤ (n : Int) → ((∀ b : Int, (b < x0 ∨ x0 < b) ∧ (b < x0 + 2 ∨ x0 + 2 < b) → (lp_278_13 x0 n x1 d) b = d b) → Safe (lp_278_13 x0 n x1 d) → K (.inl none) (lp_278_13 x0 n x1 d)) → tRun E 278 (13, [.inr (11, x0), .inl (0, x1)], [], 0, 0, d) K := by
  intro n
  induction n with
  | zero =>
    intro x1  d hS i0 i1 hm  h
    exact ls_278_13 hx0 0 _ (fun _  _ _ _ _ m0 m1 _ => absurd m1 (by omega)) x1  d hS i0 i1 hm  h
  | succ n ih =>
    intro x1  d hS i0 i1 hm  h
    exact ls_278_13 hx0 ((n + 1 : Nat) : Int) _ (fun x1  d hS i0 i1  m0 m1 h => ih x1  d hS i0 i1 (by omega)  h) x1  d hS i0 i1 hm  h
def g_278 (x0 : Int) (d : mD) : mD := if d x0 7 = 8 then lp_278_13 x0 (24928 - 3116 : Int).toNat 3116 d else lp_278_54 x0 (3116 - 0 : Int).toNat 0 d
theorem k_278 {E : mO × tW} {K : tK} {d : mD} {x0 : Int} (hS : Safe d) (hx0 : mdB x0) (h : (∀ b : Int, (b < x0 ∨ x0 < b) ∧ (b < x0 + 2 ∨ x0 + 2 < b) → (g_278 x0 d) b = d b) → Safe (g_278 x0 d) → K (.inl none) (g_278 x0 d)) : tCall E 278 [.inr (11, x0)] d K := by
  refine t_278_0 ?_
  have w0 := mh_0 hS hx0 _ rfl
  have w7 := mh_7 hS hx0 _ rfl
  have w8 := mh_8 hS hx0 _ rfl
  have w9 := mh_9 hS hx0 _ rfl
  have w10 := mh_10 hS hx0 _ rfl
  have w11 := mh_11 hS hx0 _ rfl
  have q7 := r_11_f7 hS hx0
  refine ⟨⟨m_inR (by omega) (by omega), m_inR (by omega) (by omega)⟩, fun c0 => ?_, fun c0 => ?_⟩
  · refine l_278_54 hx0 (3116 - 0 : Int).toNat 0  d hS (by omega) (by omega) (by omega) ?_
    intro F hS_
    have y0 : g_278 x0 d = lp_278_54 x0 (3116 - 0 : Int).toNat 0 d := by simp only [g_278, if_neg (show ¬ d x0 7 = 8 from c0)]
    rw [y0] at h
    exact h F hS_
  · refine l_278_13 hx0 (24928 - 3116 : Int).toNat 3116  d hS (by omega) (by omega) (by omega) ?_
    intro F hS_
    have y0 : g_278 x0 d = lp_278_13 x0 (24928 - 3116 : Int).toNat 3116 d := by simp only [g_278, if_pos (show d x0 7 = 8 from c0)]
    rw [y0] at h
    exact h F hS_
def v_279 (x0 x1 x2 : Int) (d : mD) : Int := if v_237 x0 x1 d = 0 then 0 else if v_236 x0 x2 d = 0 then 0 else if v_225 x0 x1 x2 d = 0 then 0 else v_226 x0 x1 x2 (g_278 x0 (mset d x0 0 0))
def g_279 (x0 x1 x2 : Int) (d : mD) : mD := if v_237 x0 x1 d = 0 then mset d x0 0 1 else if v_236 x0 x2 d = 0 then mset d x0 0 1 else if v_225 x0 x1 x2 d = 0 then mset d x0 0 2 else g_226 x0 x1 x2 (g_278 x0 (mset d x0 0 0))
theorem k_279 {E : mO × tW} {K : tK} {d : mD} {x0 x1 x2 : Int} (hS : Safe d) (hx0 : mdB x0) (p1 : -2147483648 ≤ x1 ∧ x1 ≤ 2147483647) (p2 : -2147483648 ≤ x2 ∧ x2 ≤ 2147483647) (h : (∀ b : Int, (b < x0 ∨ x0 + 2 < b) → (g_279 x0 x1 x2 d) b = d b) → Safe (g_279 x0 x1 x2 d) → K (.inl (some (0, (v_279 x0 x1 x2 d)))) (g_279 x0 x1 x2 d)) : tCall E 279 [.inr (11, x0), .inl (0, x1), .inl (0, x2)] d K := by
  refine t_279_0 ?_
  have w0 := mh_0 hS hx0 _ rfl
  have w7 := mh_7 hS hx0 _ rfl
  have w8 := mh_8 hS hx0 _ rfl
  have w9 := mh_9 hS hx0 _ rfl
  have w10 := mh_10 hS hx0 _ rfl
  have w11 := mh_11 hS hx0 _ rfl
  refine k_237 hS hx0 (m_inR (by omega) (by omega)) (fun e1 => ?_)
  refine t_279_6 ?_
  refine ⟨m_inR (by omega) (by omega), fun c0 => ?_, fun c0 => ?_⟩
  · have hS1 : Safe (mset d x0 0 1) := s_11_f0 hS hx0 (by omega)
    rw [mset_eq (d := d) (a := x0) (i := (0 : Int)) (v := (1 : Int))]
    refine ⟨m_inR (by omega) (by omega), fun c1 => ?_, fun c1 => ?_⟩
    · exact (show False by omega).elim
    · have y0 : v_279 x0 x1 x2 d = 0 := by simp only [v_279, if_pos (show v_237 x0 x1 d = 0 from c0), if_pos (show (0 : Int) < 1 from c1)]
      have y1 : g_279 x0 x1 x2 d = mset d x0 0 1 := by simp only [g_279, if_pos (show v_237 x0 x1 d = 0 from c0), if_pos (show (0 : Int) < 1 from c1)]
      rw [y0] at h
      rw [y1] at h
      exact h (show ∀ b : Int, (b < x0 ∨ x0 + 2 < b) → (mset d x0 0 1) b = d b from fun b hb => mset_ne (by omega)) hS1
  · refine k_236 hS hx0 (m_inR (by omega) (by omega)) (fun e2 => ?_)
    refine t_279_14 ?_
    refine ⟨m_inR (by omega) (by omega), fun c1 => ?_, fun c1 => ?_⟩
    · refine k_225 hS hx0 (m_inR (by omega) (by omega)) (by omega) (fun e3 => ?_)
      refine t_279_27 ?_
      refine ⟨m_inR (by omega) (by omega), fun c2 => ?_, fun c2 => ?_⟩
      · have hS2 : Safe (mset d x0 0 2) := s_11_f0 hS hx0 (by omega)
        rw [mset_eq (d := d) (a := x0) (i := (0 : Int)) (v := (2 : Int))]
        refine ⟨m_inR (by omega) (by omega), fun c3 => ?_, fun c3 => ?_⟩
        · exact (show False by omega).elim
        · have y0 : v_279 x0 x1 x2 d = 0 := by simp only [v_279, if_neg (show ¬ v_237 x0 x1 d = 0 from c0), if_neg (show ¬ v_236 x0 x2 d = 0 from c1), if_pos (show v_225 x0 x1 x2 d = 0 from c2), if_pos (show (0 : Int) < 2 from c3)]
          have y1 : g_279 x0 x1 x2 d = mset d x0 0 2 := by simp only [g_279, if_neg (show ¬ v_237 x0 x1 d = 0 from c0), if_neg (show ¬ v_236 x0 x2 d = 0 from c1), if_pos (show v_225 x0 x1 x2 d = 0 from c2), if_pos (show (0 : Int) < 2 from c3)]
          rw [y0] at h
          rw [y1] at h
          exact h (show ∀ b : Int, (b < x0 ∨ x0 + 2 < b) → (mset d x0 0 2) b = d b from fun b hb => mset_ne (by omega)) hS2
      · have hS3 : Safe (mset d x0 0 0) := s_11_f0 hS hx0 (by omega)
        rw [mset_eq (d := d) (a := x0) (i := (0 : Int)) (v := (0 : Int))]
        refine ⟨m_inR (by omega) (by omega), fun c3 => ?_, fun c3 => ?_⟩
        · refine k_278 hS3 hx0 (fun F1 hS4 => ?_)
          refine t_279_51 ?_
          have q1 : (g_278 x0 (mset d x0 0 0)) (x0 + 1) 9 = d (x0 + 1) 9 := (congrFun (F1 (x0 + 1) (by omega)) 9).trans (congrFun (mset_ne (by omega)) 9)
          have q2 : (g_278 x0 (mset d x0 0 0)) (x0 + 1) (12 + 68 * x2 + 5) = d (x0 + 1) (12 + 68 * x2 + 5) := (congrFun (F1 (x0 + 1) (by omega)) (12 + 68 * x2 + 5)).trans (congrFun (mset_ne (by omega)) (12 + 68 * x2 + 5))
          refine k_226 hS4 hx0 (by omega) (by omega) (by omega) (by omega) (fun e4 F2 Q2 hS5 => ?_)
          refine t_279_57 ?_
          have y0 : v_279 x0 x1 x2 d = v_226 x0 x1 x2 (g_278 x0 (mset d x0 0 0)) := by simp only [v_279, if_neg (show ¬ v_237 x0 x1 d = 0 from c0), if_neg (show ¬ v_236 x0 x2 d = 0 from c1), if_neg (show ¬ v_225 x0 x1 x2 d = 0 from c2), if_neg (show ¬ (0 : Int) < 0 from Int.not_lt.mpr c3)]
          have y1 : g_279 x0 x1 x2 d = g_226 x0 x1 x2 (g_278 x0 (mset d x0 0 0)) := by simp only [g_279, if_neg (show ¬ v_237 x0 x1 d = 0 from c0), if_neg (show ¬ v_236 x0 x2 d = 0 from c1), if_neg (show ¬ v_225 x0 x1 x2 d = 0 from c2), if_neg (show ¬ (0 : Int) < 0 from Int.not_lt.mpr c3)]
          rw [y0] at h
          rw [y1] at h
          exact h (show ∀ b : Int, (b < x0 ∨ x0 + 2 < b) → (g_226 x0 x1 x2 (g_278 x0 (mset d x0 0 0))) b = d b from fun b hb => (F2 b (by omega)).trans ((F1 b (by omega)).trans (mset_ne (by omega)))) hS5
        · exact (show False by omega).elim
    · have hS6 : Safe (mset d x0 0 1) := s_11_f0 hS hx0 (by omega)
      rw [mset_eq (d := d) (a := x0) (i := (0 : Int)) (v := (1 : Int))]
      refine ⟨m_inR (by omega) (by omega), fun c2 => ?_, fun c2 => ?_⟩
      · exact (show False by omega).elim
      · have y0 : v_279 x0 x1 x2 d = 0 := by simp only [v_279, if_neg (show ¬ v_237 x0 x1 d = 0 from c0), if_pos (show v_236 x0 x2 d = 0 from c1), if_pos (show (0 : Int) < 1 from c2)]
        have y1 : g_279 x0 x1 x2 d = mset d x0 0 1 := by simp only [g_279, if_neg (show ¬ v_237 x0 x1 d = 0 from c0), if_pos (show v_236 x0 x2 d = 0 from c1), if_pos (show (0 : Int) < 1 from c2)]
        rw [y0] at h
        rw [y1] at h
        exact h (show ∀ b : Int, (b < x0 ∨ x0 + 2 < b) → (mset d x0 0 1) b = d b from fun b hb => mset_ne (by omega)) hS6
def st_282_59 (x0 x1 : Int) (r59 : Int → Int → mD → Int × mD) (x2 x3 : Int) (d : mD) : Int × mD := if x3 < x1 then r59 x2 (x3 + 1) (g_223 x0 d) else ((v_281 x0 d) - x2, d)
def lp_282_59 (x0 x1 : Int) : Nat → Int → Int → mD → Int × mD
  | 0 => st_282_59 x0 x1 (fun _ _ d => (0, d))
  | n + 1 => st_282_59 x0 x1 (lp_282_59 x0 x1 n)
theorem ls_282_59 {E : mO × tW} {K : tK} {x0 x1 : Int} (hx0 : mdB x0) (p1 : -2147483648 ≤ x1 ∧ x1 ≤ 2147483647) (N59 : Int) (r59 : Int → Int → mD → Int × mD) (ih59 : ∀ (x2 x3 : Int) (d : mD), Safe d → (0 ≤ x3 ∧ x3 ≤ x1 ∧ x1 ≤ 99) → (0 ≤ x2 ∧ x2 ≤ 61) → (d (x0 + 1) 0 + (x1 - x3) ≤ 999) → (mpP (d (x0 + 1))) → 0 ≤ x1 - x3 → x1 - x3 < N59 → ((∀ b : Int, (b < x0 ∨ x0 + 2 < b) → (r59 x2 x3 d).2 b = d b) → Safe (r59 x2 x3 d).2 → K (.inl (some (0, (r59 x2 x3 d).1))) (r59 x2 x3 d).2) → tRun E 282 (59, [.inr (11, x0), .inl (0, x1), .inl (0, x2), .inl (0, x3)], [], 0, 0, d) K) (x2 x3 : Int) (d : mD) (hS : Safe d) (i0 : 0 ≤ x3 ∧ x3 ≤ x1 ∧ x1 ≤ 99) (i1 : 0 ≤ x2 ∧ x2 ≤ 61) (i2 : d (x0 + 1) 0 + (x1 - x3) ≤ 999) (hmp : mpP (d (x0 + 1))) (hm : x1 - x3 ≤ N59) (h : (∀ b : Int, (b < x0 ∨ x0 + 2 < b) → (st_282_59 x0 x1 r59 x2 x3 d).2 b = d b) → Safe (st_282_59 x0 x1 r59 x2 x3 d).2 → K (.inl (some (0, (st_282_59 x0 x1 r59 x2 x3 d).1))) (st_282_59 x0 x1 r59 x2 x3 d).2) : tRun E 282 (59, [.inr (11, x0), .inl (0, x1), .inl (0, x2), .inl (0, x3)], [], 0, 0, d) K := by
  refine t_282_59 ?_
  refine ⟨⟨m_inR (by omega) (by omega), m_inR (by omega) (by omega)⟩, fun c0 => ?_, fun c0 => ?_⟩
  · refine k_281 hS hx0 (fun e1 => ?_)
    refine t_282_78 ?_
    have y0 : st_282_59 x0 x1 r59 x2 x3 d = ((v_281 x0 d) - x2, d) := by simp only [st_282_59, if_neg (show ¬ x3 < x1 from Int.not_lt.mpr c0)]
    rw [y0] at h
    exact h (show ∀ b : Int, (b < x0 ∨ x0 + 2 < b) → d b = d b from fun _ _ => rfl) hS
  · refine k_223 hS hx0 hmp (by omega) (fun F1 Q1 n1_0 hS1 => ?_)
    refine t_282_68 ?_
    refine ih59 x2 (x3 + 1)  (g_223 x0 d) hS1 (by omega) (by omega) (by omega) (mpP.of (mh_7 hS hx0 _ rfl) (show ∀ i : Int, i = 7 ∨ (12 ≤ i ∧ i < 420 ∧ (i - 12) % 68 = 2) → (g_223 x0 d) (x0 + 1) i = d (x0 + 1) i from fun i hi => Q1 i (by omega)) hmp) (by omega) (by omega) ?_
    intro F hS_
    have y0 : st_282_59 x0 x1 r59 x2 x3 d = r59 x2 (x3 + 1) (g_223 x0 d) := by simp only [st_282_59, if_pos (show x3 < x1 from c0)]
    rw [y0] at h
    exact h (fun b hb => (F b hb).trans ((show ∀ b : Int, (b < x0 ∨ x0 + 2 < b) → (g_223 x0 d) b = d b from fun b hb => F1 b (by omega)) b hb)) hS_
theorem l_282_59 {E : mO × tW} {K : tK} {x0 x1 : Int} (hx0 : mdB x0) (p1 : -2147483648 ≤ x1 ∧ x1 ≤ 2147483647) : ∀ (n : Nat) (x2 x3 : Int) (d : mD), Safe d → (0 ≤ x3 ∧ x3 ≤ x1 ∧ x1 ≤ 99) → (0 ≤ x2 ∧ x2 ≤ 61) → (d (x0 + 1) 0 + (x1 - x3) ≤ 999) → (mpP (d (x0 + 1))) → x1 - x3 ≤ (n : Int) → ((∀ b : Int, (b < x0 ∨ x0 + 2 < b) → (lp_282_59 x0 x1 n x2 x3 d).2 b = d b) → Safe (lp_282_59 x0 x1 n x2 x3 d).2 → K (.inl (some (0, (lp_282_59 x0 x1 n x2 x3 d).1))) (lp_282_59 x0 x1 n x2 x3 d).2) → tRun E 282 (59, [.inr (11, x0), .inl (0, x1), .inl (0, x2), .inl (0, x3)], [], 0, 0, d) K := by
  intro n
  induction n with
  | zero =>
    intro x2 x3  d hS i0 i1 i2 hmp hm  h
    exact ls_282_59 hx0 p1 0 _ (fun _ _  _ _ _ _ _ _ m0 m1 _ => absurd m1 (by omega)) x2 x3  d hS i0 i1 i2 hmp hm  h
  | succ n ih =>
    intro x2 x3  d hS i0 i1 i2 hmp hm  h
    exact ls_282_59 hx0 p1 ((n + 1 : Nat) : Int) _ (fun x2 x3  d hS i0 i1 i2 hmp  m0 m1 h => ih x2 x3  d hS i0 i1 i2 hmp (by omega)  h) x2 x3  d hS i0 i1 i2 hmp hm  h
def f_282 (x0 x1 : Int) (d : mD) : Int × mD := if v_176 x1 1 99 d = 0 then (0, mset d x0 0 1) else if (999 : Int) < (d (x0 + 1) 0) + x1 then (0, mset d x0 0 2) else lp_282_59 x0 x1 (x1 - 0 : Int).toNat (v_281 x0 (g_278 x0 (mset d x0 0 0))) 0 (g_278 x0 (mset d x0 0 0))
def v_282 (x0 x1 : Int) (d : mD) : Int := (f_282 x0 x1 d).1
def g_282 (x0 x1 : Int) (d : mD) : mD := (f_282 x0 x1 d).2
theorem k_282 {E : mO × tW} {K : tK} {d : mD} {x0 x1 : Int} (hS : Safe d) (hx0 : mdB x0) (p1 : -2147483648 ≤ x1 ∧ x1 ≤ 2147483647) (hmp : mpP (d (x0 + 1))) (h : (∀ b : Int, (b < x0 ∨ x0 + 2 < b) → (g_282 x0 x1 d) b = d b) → Safe (g_282 x0 x1 d) → K (.inl (some (0, (v_282 x0 x1 d)))) (g_282 x0 x1 d)) : tCall E 282 [.inr (11, x0), .inl (0, x1)] d K := by
  simp only [v_282, g_282] at h
  refine t_282_0 ?_
  have w0 := mh_0 hS hx0 _ rfl
  have w7 := mh_7 hS hx0 _ rfl
  have w8 := mh_8 hS hx0 _ rfl
  have w9 := mh_9 hS hx0 _ rfl
  have w10 := mh_10 hS hx0 _ rfl
  have w11 := mh_11 hS hx0 _ rfl
  refine ⟨m_inR (by omega) (by omega), ?_⟩
  refine k_176 hS (m_inR (by omega) (by omega)) (m_inR (by omega) (by omega)) (m_inR (by omega) (by omega)) (fun e2 => ?_)
  refine t_282_10 ?_
  refine ⟨m_inR (by omega) (by omega), fun c0 => ?_, fun c0 => ?_⟩
  · have q1 := mh_0 hS hx0 _ rfl
    refine ⟨by omega, ⟨m_inR (by omega) (by omega), m_inR (by omega) (by omega)⟩, fun c1 => ?_, fun c1 => ?_⟩
    · have hS2 : Safe (mset d x0 0 0) := s_11_f0 hS hx0 (by omega)
      rw [mset_eq (d := d) (a := x0) (i := (0 : Int)) (v := (0 : Int))]
      refine ⟨m_inR (by omega) (by omega), fun c2 => ?_, fun c2 => ?_⟩
      · refine k_278 hS2 hx0 (fun F2 hS3 => ?_)
        refine t_282_52 ?_
        refine k_281 hS3 hx0 (fun e3 => ?_)
        refine t_282_56 ?_
        have q2 : (g_278 x0 (mset d x0 0 0)) (x0 + 1) 0 = d (x0 + 1) 0 := (congrFun (F2 (x0 + 1) (by omega)) 0).trans (congrFun (mset_ne (by omega)) 0)
        refine l_282_59 hx0 p1 (x1 - 0 : Int).toNat (v_281 x0 (g_278 x0 (mset d x0 0 0))) 0  (g_278 x0 (mset d x0 0 0)) hS3 (by omega) (by omega) (by omega) (mpP.of (mh_7 hS hx0 _ rfl) (show ∀ i : Int, i = 7 ∨ (12 ≤ i ∧ i < 420 ∧ (i - 12) % 68 = 2) → (g_278 x0 (mset d x0 0 0)) (x0 + 1) i = d (x0 + 1) i from fun i hi => (congrFun (F2 (x0 + 1) (by omega)) i).trans (congrFun (mset_ne (by omega)) i)) hmp) (by omega) ?_
        intro F hS_
        have y0 : f_282 x0 x1 d = lp_282_59 x0 x1 (x1 - 0 : Int).toNat (v_281 x0 (g_278 x0 (mset d x0 0 0))) 0 (g_278 x0 (mset d x0 0 0)) := by simp only [f_282, if_neg (show ¬ v_176 x1 1 99 d = 0 from c0), if_neg (show ¬ (999 : Int) < (d (x0 + 1) 0) + x1 from Int.not_lt.mpr c1), if_neg (show ¬ (0 : Int) < 0 from Int.not_lt.mpr c2)]
        rw [y0] at h
        exact h (fun b hb => (F b hb).trans ((show ∀ b : Int, (b < x0 ∨ x0 + 2 < b) → (g_278 x0 (mset d x0 0 0)) b = d b from fun b hb => (F2 b (by omega)).trans (mset_ne (by omega))) b hb)) hS_
      · exact (show False by omega).elim
    · have hS4 : Safe (mset d x0 0 2) := s_11_f0 hS hx0 (by omega)
      rw [mset_eq (d := d) (a := x0) (i := (0 : Int)) (v := (2 : Int))]
      refine ⟨m_inR (by omega) (by omega), fun c2 => ?_, fun c2 => ?_⟩
      · exact (show False by omega).elim
      · have y0 : f_282 x0 x1 d = (0, mset d x0 0 2) := by simp only [f_282, if_neg (show ¬ v_176 x1 1 99 d = 0 from c0), if_pos (show (999 : Int) < (d (x0 + 1) 0) + x1 from c1), if_pos (show (0 : Int) < 2 from c2)]
        rw [y0] at h
        exact h (show ∀ b : Int, (b < x0 ∨ x0 + 2 < b) → (mset d x0 0 2) b = d b from fun b hb => mset_ne (by omega)) hS4
  · have hS5 : Safe (mset d x0 0 1) := s_11_f0 hS hx0 (by omega)
    rw [mset_eq (d := d) (a := x0) (i := (0 : Int)) (v := (1 : Int))]
    refine ⟨m_inR (by omega) (by omega), fun c1 => ?_, fun c1 => ?_⟩
    · exact (show False by omega).elim
    · have y0 : f_282 x0 x1 d = (0, mset d x0 0 1) := by simp only [f_282, if_pos (show v_176 x1 1 99 d = 0 from c0), if_pos (show (0 : Int) < 1 from c1)]
      rw [y0] at h
      exact h (show ∀ b : Int, (b < x0 ∨ x0 + 2 < b) → (mset d x0 0 1) b = d b from fun b hb => mset_ne (by omega)) hS5
def v_283 (x0 x1 : Int) (d : mD) : Int := if v_238 x0 x1 d = 0 then 0 else if v_227 x0 x1 d = 0 then 0 else v_228 x0 x1 (g_278 x0 (mset d x0 0 0))
def g_283 (x0 x1 : Int) (d : mD) : mD := if v_238 x0 x1 d = 0 then mset d x0 0 1 else if v_227 x0 x1 d = 0 then mset d x0 0 2 else g_228 x0 x1 (g_278 x0 (mset d x0 0 0))
theorem k_283 {E : mO × tW} {K : tK} {d : mD} {x0 x1 : Int} (hS : Safe d) (hx0 : mdB x0) (p1 : -2147483648 ≤ x1 ∧ x1 ≤ 2147483647) (hmp : mpP (d (x0 + 1))) (hmw : mwP (d (x0 + 1))) (h : (∀ b : Int, (b < x0 ∨ x0 + 2 < b) → (g_283 x0 x1 d) b = d b) → Safe (g_283 x0 x1 d) → K (.inl (some (0, (v_283 x0 x1 d)))) (g_283 x0 x1 d)) : tCall E 283 [.inr (11, x0), .inl (0, x1)] d K := by
  refine t_283_0 ?_
  have w0 := mh_0 hS hx0 _ rfl
  have w7 := mh_7 hS hx0 _ rfl
  have w8 := mh_8 hS hx0 _ rfl
  have w9 := mh_9 hS hx0 _ rfl
  have w10 := mh_10 hS hx0 _ rfl
  have w11 := mh_11 hS hx0 _ rfl
  refine k_238 hS hx0 (m_inR (by omega) (by omega)) (fun e1 => ?_)
  refine t_283_6 ?_
  refine ⟨m_inR (by omega) (by omega), fun c0 => ?_, fun c0 => ?_⟩
  · refine k_227 hS hx0 (by omega) (fun e2 => ?_)
    refine t_283_18 ?_
    refine ⟨m_inR (by omega) (by omega), fun c1 => ?_, fun c1 => ?_⟩
    · have hS1 : Safe (mset d x0 0 2) := s_11_f0 hS hx0 (by omega)
      rw [mset_eq (d := d) (a := x0) (i := (0 : Int)) (v := (2 : Int))]
      refine ⟨m_inR (by omega) (by omega), fun c2 => ?_, fun c2 => ?_⟩
      · exact (show False by omega).elim
      · have y0 : v_283 x0 x1 d = 0 := by simp only [v_283, if_neg (show ¬ v_238 x0 x1 d = 0 from c0), if_pos (show v_227 x0 x1 d = 0 from c1), if_pos (show (0 : Int) < 2 from c2)]
        have y1 : g_283 x0 x1 d = mset d x0 0 2 := by simp only [g_283, if_neg (show ¬ v_238 x0 x1 d = 0 from c0), if_pos (show v_227 x0 x1 d = 0 from c1), if_pos (show (0 : Int) < 2 from c2)]
        rw [y0] at h
        rw [y1] at h
        exact h (show ∀ b : Int, (b < x0 ∨ x0 + 2 < b) → (mset d x0 0 2) b = d b from fun b hb => mset_ne (by omega)) hS1
    · have hS2 : Safe (mset d x0 0 0) := s_11_f0 hS hx0 (by omega)
      rw [mset_eq (d := d) (a := x0) (i := (0 : Int)) (v := (0 : Int))]
      refine ⟨m_inR (by omega) (by omega), fun c2 => ?_, fun c2 => ?_⟩
      · refine k_278 hS2 hx0 (fun F1 hS3 => ?_)
        refine t_283_42 ?_
        refine k_228 hS3 hx0 (by omega) (mpP.of (mh_7 hS hx0 _ rfl) (show ∀ i : Int, i = 7 ∨ (12 ≤ i ∧ i < 420 ∧ (i - 12) % 68 = 2) → (g_278 x0 (mset d x0 0 0)) (x0 + 1) i = d (x0 + 1) i from fun i hi => (congrFun (F1 (x0 + 1) (by omega)) i).trans (congrFun (mset_ne (by omega)) i)) hmp) (mwP.eq (F1 (x0 + 1) (by omega)) (mwP.eq (mset_ne (by omega)) hmw)) (fun e3 F2 Q2 P2hmp P2hmw hS4 => ?_)
        refine t_283_47 ?_
        have y0 : v_283 x0 x1 d = v_228 x0 x1 (g_278 x0 (mset d x0 0 0)) := by simp only [v_283, if_neg (show ¬ v_238 x0 x1 d = 0 from c0), if_neg (show ¬ v_227 x0 x1 d = 0 from c1), if_neg (show ¬ (0 : Int) < 0 from Int.not_lt.mpr c2)]
        have y1 : g_283 x0 x1 d = g_228 x0 x1 (g_278 x0 (mset d x0 0 0)) := by simp only [g_283, if_neg (show ¬ v_238 x0 x1 d = 0 from c0), if_neg (show ¬ v_227 x0 x1 d = 0 from c1), if_neg (show ¬ (0 : Int) < 0 from Int.not_lt.mpr c2)]
        rw [y0] at h
        rw [y1] at h
        exact h (show ∀ b : Int, (b < x0 ∨ x0 + 2 < b) → (g_228 x0 x1 (g_278 x0 (mset d x0 0 0))) b = d b from fun b hb => (F2 b (by omega)).trans ((F1 b (by omega)).trans (mset_ne (by omega)))) hS4
      · exact (show False by omega).elim
  · have hS5 : Safe (mset d x0 0 1) := s_11_f0 hS hx0 (by omega)
    rw [mset_eq (d := d) (a := x0) (i := (0 : Int)) (v := (1 : Int))]
    refine ⟨m_inR (by omega) (by omega), fun c1 => ?_, fun c1 => ?_⟩
    · exact (show False by omega).elim
    · have y0 : v_283 x0 x1 d = 0 := by simp only [v_283, if_pos (show v_238 x0 x1 d = 0 from c0), if_pos (show (0 : Int) < 1 from c1)]
      have y1 : g_283 x0 x1 d = mset d x0 0 1 := by simp only [g_283, if_pos (show v_238 x0 x1 d = 0 from c0), if_pos (show (0 : Int) < 1 from c1)]
      rw [y0] at h
      rw [y1] at h
      exact h (show ∀ b : Int, (b < x0 ∨ x0 + 2 < b) → (mset d x0 0 1) b = d b from fun b hb => mset_ne (by omega)) hS5
def v_284 (x0 x1 x2 : Int) (d : mD) : Int := if v_238 x0 x1 d = 0 then 0 else if v_237 x0 x2 d = 0 then 0 else if v_234 x0 x1 x2 d = 0 then v_235 x0 x1 x2 (g_278 x0 (mset d x0 0 0)) else 0
def g_284 (x0 x1 x2 : Int) (d : mD) : mD := if v_238 x0 x1 d = 0 then mset d x0 0 1 else if v_237 x0 x2 d = 0 then mset d x0 0 1 else if v_234 x0 x1 x2 d = 0 then g_235 x0 x1 x2 (g_278 x0 (mset d x0 0 0)) else mset d x0 0 2
theorem k_284 {E : mO × tW} {K : tK} {d : mD} {x0 x1 x2 : Int} (hS : Safe d) (hx0 : mdB x0) (p1 : -2147483648 ≤ x1 ∧ x1 ≤ 2147483647) (p2 : -2147483648 ≤ x2 ∧ x2 ≤ 2147483647) (hmp : mpP (d (x0 + 1))) (hmw : mwP (d (x0 + 1))) (h : (∀ b : Int, (b < x0 ∨ x0 + 2 < b) → (g_284 x0 x1 x2 d) b = d b) → Safe (g_284 x0 x1 x2 d) → K (.inl (some (0, (v_284 x0 x1 x2 d)))) (g_284 x0 x1 x2 d)) : tCall E 284 [.inr (11, x0), .inl (0, x1), .inl (0, x2)] d K := by
  refine t_284_0 ?_
  have w0 := mh_0 hS hx0 _ rfl
  have w7 := mh_7 hS hx0 _ rfl
  have w8 := mh_8 hS hx0 _ rfl
  have w9 := mh_9 hS hx0 _ rfl
  have w10 := mh_10 hS hx0 _ rfl
  have w11 := mh_11 hS hx0 _ rfl
  refine k_238 hS hx0 (m_inR (by omega) (by omega)) (fun e1 => ?_)
  refine t_284_6 ?_
  refine ⟨m_inR (by omega) (by omega), fun c0 => ?_, fun c0 => ?_⟩
  · have hS1 : Safe (mset d x0 0 1) := s_11_f0 hS hx0 (by omega)
    rw [mset_eq (d := d) (a := x0) (i := (0 : Int)) (v := (1 : Int))]
    refine ⟨m_inR (by omega) (by omega), fun c1 => ?_, fun c1 => ?_⟩
    · exact (show False by omega).elim
    · have y0 : v_284 x0 x1 x2 d = 0 := by simp only [v_284, if_pos (show v_238 x0 x1 d = 0 from c0), if_pos (show (0 : Int) < 1 from c1)]
      have y1 : g_284 x0 x1 x2 d = mset d x0 0 1 := by simp only [g_284, if_pos (show v_238 x0 x1 d = 0 from c0), if_pos (show (0 : Int) < 1 from c1)]
      rw [y0] at h
      rw [y1] at h
      exact h (show ∀ b : Int, (b < x0 ∨ x0 + 2 < b) → (mset d x0 0 1) b = d b from fun b hb => mset_ne (by omega)) hS1
  · refine k_237 hS hx0 (m_inR (by omega) (by omega)) (fun e2 => ?_)
    refine t_284_14 ?_
    refine ⟨m_inR (by omega) (by omega), fun c1 => ?_, fun c1 => ?_⟩
    · refine k_234 hS hx0 (by omega) (by omega) (fun e3 => ?_)
      refine t_284_27 ?_
      refine ⟨m_inR (by omega) (by omega), fun c2 => ?_, fun c2 => ?_⟩
      · have hS2 : Safe (mset d x0 0 2) := s_11_f0 hS hx0 (by omega)
        rw [mset_eq (d := d) (a := x0) (i := (0 : Int)) (v := (2 : Int))]
        refine ⟨m_inR (by omega) (by omega), fun c3 => ?_, fun c3 => ?_⟩
        · exact (show False by omega).elim
        · have y0 : v_284 x0 x1 x2 d = 0 := by simp only [v_284, if_neg (show ¬ v_238 x0 x1 d = 0 from c0), if_neg (show ¬ v_237 x0 x2 d = 0 from c1), if_neg (show ¬ v_234 x0 x1 x2 d = 0 from c2), if_pos (show (0 : Int) < 2 from c3)]
          have y1 : g_284 x0 x1 x2 d = mset d x0 0 2 := by simp only [g_284, if_neg (show ¬ v_238 x0 x1 d = 0 from c0), if_neg (show ¬ v_237 x0 x2 d = 0 from c1), if_neg (show ¬ v_234 x0 x1 x2 d = 0 from c2), if_pos (show (0 : Int) < 2 from c3)]
          rw [y0] at h
          rw [y1] at h
          exact h (show ∀ b : Int, (b < x0 ∨ x0 + 2 < b) → (mset d x0 0 2) b = d b from fun b hb => mset_ne (by omega)) hS2
      · have hS3 : Safe (mset d x0 0 0) := s_11_f0 hS hx0 (by omega)
        rw [mset_eq (d := d) (a := x0) (i := (0 : Int)) (v := (0 : Int))]
        refine ⟨m_inR (by omega) (by omega), fun c3 => ?_, fun c3 => ?_⟩
        · refine k_278 hS3 hx0 (fun F1 hS4 => ?_)
          refine t_284_51 ?_
          have q1 : (g_278 x0 (mset d x0 0 0)) (x0 + 1) (452 + 24 * x1 + 6) = d (x0 + 1) (452 + 24 * x1 + 6) := (congrFun (F1 (x0 + 1) (by omega)) (452 + 24 * x1 + 6)).trans (congrFun (mset_ne (by omega)) (452 + 24 * x1 + 6))
          refine k_235 hS4 hx0 (by omega) (by omega) (mpP.of (mh_7 hS hx0 _ rfl) (show ∀ i : Int, i = 7 ∨ (12 ≤ i ∧ i < 420 ∧ (i - 12) % 68 = 2) → (g_278 x0 (mset d x0 0 0)) (x0 + 1) i = d (x0 + 1) i from fun i hi => (congrFun (F1 (x0 + 1) (by omega)) i).trans (congrFun (mset_ne (by omega)) i)) hmp) (mwP.eq (F1 (x0 + 1) (by omega)) (mwP.eq (mset_ne (by omega)) hmw)) (by omega) (fun e4 F2 Q2 P2hmp P2hmw hS5 => ?_)
          refine t_284_57 ?_
          have y0 : v_284 x0 x1 x2 d = v_235 x0 x1 x2 (g_278 x0 (mset d x0 0 0)) := by simp only [v_284, if_neg (show ¬ v_238 x0 x1 d = 0 from c0), if_neg (show ¬ v_237 x0 x2 d = 0 from c1), if_pos (show v_234 x0 x1 x2 d = 0 from c2), if_neg (show ¬ (0 : Int) < 0 from Int.not_lt.mpr c3)]
          have y1 : g_284 x0 x1 x2 d = g_235 x0 x1 x2 (g_278 x0 (mset d x0 0 0)) := by simp only [g_284, if_neg (show ¬ v_238 x0 x1 d = 0 from c0), if_neg (show ¬ v_237 x0 x2 d = 0 from c1), if_pos (show v_234 x0 x1 x2 d = 0 from c2), if_neg (show ¬ (0 : Int) < 0 from Int.not_lt.mpr c3)]
          rw [y0] at h
          rw [y1] at h
          exact h (show ∀ b : Int, (b < x0 ∨ x0 + 2 < b) → (g_235 x0 x1 x2 (g_278 x0 (mset d x0 0 0))) b = d b from fun b hb => (F2 b (by omega)).trans ((F1 b (by omega)).trans (mset_ne (by omega)))) hS5
        · exact (show False by omega).elim
    · have hS6 : Safe (mset d x0 0 1) := s_11_f0 hS hx0 (by omega)
      rw [mset_eq (d := d) (a := x0) (i := (0 : Int)) (v := (1 : Int))]
      refine ⟨m_inR (by omega) (by omega), fun c2 => ?_, fun c2 => ?_⟩
      · exact (show False by omega).elim
      · have y0 : v_284 x0 x1 x2 d = 0 := by simp only [v_284, if_neg (show ¬ v_238 x0 x1 d = 0 from c0), if_pos (show v_237 x0 x2 d = 0 from c1), if_pos (show (0 : Int) < 1 from c2)]
        have y1 : g_284 x0 x1 x2 d = mset d x0 0 1 := by simp only [g_284, if_neg (show ¬ v_238 x0 x1 d = 0 from c0), if_pos (show v_237 x0 x2 d = 0 from c1), if_pos (show (0 : Int) < 1 from c2)]
        rw [y0] at h
        rw [y1] at h
        exact h (show ∀ b : Int, (b < x0 ∨ x0 + 2 < b) → (mset d x0 0 1) b = d b from fun b hb => mset_ne (by omega)) hS6
def st_285_79 (x0 x1 x2 x3 : Int) (r79 : Int → Int → mD → Int × mD) (x4 x5 : Int) (d : mD) : Int × mD := if x5 < d (x0 + 1) 10 then (if (0 : Int) < x4 then (if d (x0 + 1) ((1916 + (5 * x5)) + 0) = x1 then (if d (x0 + 1) ((1916 + (5 * x5)) + 3) = 0 then r79 (x4 + (-1)) (x5 + 1) (mset d (x0 + 1) ((1916 + (5 * x5)) + 0) x2) else r79 x4 (x5 + 1) d) else r79 x4 (x5 + 1) d) else (v_245 x0 x2 0 d, d)) else (v_245 x0 x2 0 d, d)
def lp_285_79 (x0 x1 x2 x3 : Int) : Nat → Int → Int → mD → Int × mD
  | 0 => st_285_79 x0 x1 x2 x3 (fun _ _ d => (0, d))
  | n + 1 => st_285_79 x0 x1 x2 x3 (lp_285_79 x0 x1 x2 x3 n)
theorem ls_285_79 {E : mO × tW} {K : tK} {x0 x1 x2 x3 : Int} (hx0 : mdB x0) (p1 : -2147483648 ≤ x1 ∧ x1 ≤ 2147483647) (p2 : -2147483648 ≤ x2 ∧ x2 ≤ 2147483647) (p3 : -2147483648 ≤ x3 ∧ x3 ≤ 2147483647) (N79 : Int) (r79 : Int → Int → mD → Int × mD) (ih79 : ∀ (x4 x5 : Int) (d : mD), Safe d → (0 ≤ x5 ∧ x5 ≤ 200) → (0 ≤ x4 ∧ x4 ≤ 200) → (0 ≤ x2 ∧ x2 ≤ 15) → 0 ≤ 200 - x5 → 200 - x5 < N79 → ((∀ b : Int, (b < x0 ∨ x0 + 2 < b) → (r79 x4 x5 d).2 b = d b) → Safe (r79 x4 x5 d).2 → K (.inl (some (0, (r79 x4 x5 d).1))) (r79 x4 x5 d).2) → tRun E 285 (79, [.inr (11, x0), .inl (0, x1), .inl (0, x2), .inl (0, x3), .inl (0, x4), .inl (0, x5)], [], 0, 0, d) K) (x4 x5 : Int) (d : mD) (hS : Safe d) (i0 : 0 ≤ x5 ∧ x5 ≤ 200) (i1 : 0 ≤ x4 ∧ x4 ≤ 200) (i2 : 0 ≤ x2 ∧ x2 ≤ 15) (hm : 200 - x5 ≤ N79) (h : (∀ b : Int, (b < x0 ∨ x0 + 2 < b) → (st_285_79 x0 x1 x2 x3 r79 x4 x5 d).2 b = d b) → Safe (st_285_79 x0 x1 x2 x3 r79 x4 x5 d).2 → K (.inl (some (0, (st_285_79 x0 x1 x2 x3 r79 x4 x5 d).1))) (st_285_79 x0 x1 x2 x3 r79 x4 x5 d).2) : tRun E 285 (79, [.inr (11, x0), .inl (0, x1), .inl (0, x2), .inl (0, x3), .inl (0, x4), .inl (0, x5)], [], 0, 0, d) K := by
  refine t_285_79 ?_
  have q1 := mh_10 hS hx0 _ rfl
  refine ⟨by omega, ⟨m_inR (by omega) (by omega), m_inR (by omega) (by omega)⟩, fun c0 => ?_, fun c0 => ?_⟩
  · refine k_245 hS hx0 (m_inR (by omega) (by omega)) (m_inR (by omega) (by omega)) (fun e1 => ?_)
    refine t_285_155 ?_
    have y0 : st_285_79 x0 x1 x2 x3 r79 x4 x5 d = (v_245 x0 x2 0 d, d) := by simp only [st_285_79, if_neg (show ¬ x5 < d (x0 + 1) 10 from Int.not_lt.mpr c0)]
    rw [y0] at h
    exact h (show ∀ b : Int, (b < x0 ∨ x0 + 2 < b) → d b = d b from fun _ _ => rfl) hS
  · refine ⟨m_inR (by omega) (by omega), fun c1 => ?_, fun c1 => ?_⟩
    · refine k_245 hS hx0 (m_inR (by omega) (by omega)) (m_inR (by omega) (by omega)) (fun e2 => ?_)
      refine t_285_155 ?_
      have y0 : st_285_79 x0 x1 x2 x3 r79 x4 x5 d = (v_245 x0 x2 0 d, d) := by simp only [st_285_79, if_pos (show x5 < d (x0 + 1) 10 from c0), if_neg (show ¬ (0 : Int) < x4 from Int.not_lt.mpr c1)]
      rw [y0] at h
      exact h (show ∀ b : Int, (b < x0 ∨ x0 + 2 < b) → d b = d b from fun _ _ => rfl) hS
    · refine k_180 hS ?_
      refine t_285_105 ?_
      have q2 := mk_0 hS hx0 x5 ((1916 + (5 * x5)) + 0) (by omega) (by omega)
      refine ⟨by omega, ⟨m_inR (by omega) (by omega), m_inR (by omega) (by omega)⟩, fun c2 => ?_, fun c2 => ?_⟩
      · refine ih79 x4 (x5 + 1)  d hS (by omega) (by omega) (by omega) (by omega) (by omega) ?_
        intro F hS_
        have y0 : st_285_79 x0 x1 x2 x3 r79 x4 x5 d = r79 x4 (x5 + 1) d := by simp only [st_285_79, if_pos (show x5 < d (x0 + 1) 10 from c0), if_pos (show (0 : Int) < x4 from c1), if_neg (show ¬ d (x0 + 1) ((1916 + (5 * x5)) + 0) = x1 from c2)]
        rw [y0] at h
        exact h F hS_
      · refine k_180 hS ?_
        refine t_285_121 ?_
        have q3 := mk_3 hS hx0 x5 ((1916 + (5 * x5)) + 3) (by omega) (by omega)
        refine ⟨by omega, m_inR (by omega) (by omega), fun c3 => ?_, fun c3 => ?_⟩
        · refine ih79 x4 (x5 + 1)  d hS (by omega) (by omega) (by omega) (by omega) (by omega) ?_
          intro F hS_
          have y0 : st_285_79 x0 x1 x2 x3 r79 x4 x5 d = r79 x4 (x5 + 1) d := by simp only [st_285_79, if_pos (show x5 < d (x0 + 1) 10 from c0), if_pos (show (0 : Int) < x4 from c1), if_pos (show d (x0 + 1) ((1916 + (5 * x5)) + 0) = x1 from c2), if_neg (show ¬ d (x0 + 1) ((1916 + (5 * x5)) + 3) = 0 from c3)]
          rw [y0] at h
          exact h F hS_
        · refine k_180 hS ?_
          refine t_285_136 ?_
          refine ⟨by omega, ?_⟩
          have hS1 : Safe (mset d (x0 + 1) ((1916 + (5 * x5)) + 0) x2) := smk_0 hS hx0 x5 ((1916 + (5 * x5)) + 0) (by omega) (by omega) (by omega)
          refine ih79 (x4 + (-1)) (x5 + 1)  (mset d (x0 + 1) ((1916 + (5 * x5)) + 0) x2) hS1 (by omega) (by omega) (by omega) (by omega) (by omega) ?_
          intro F hS_
          have y0 : st_285_79 x0 x1 x2 x3 r79 x4 x5 d = r79 (x4 + (-1)) (x5 + 1) (mset d (x0 + 1) ((1916 + (5 * x5)) + 0) x2) := by simp only [st_285_79, if_pos (show x5 < d (x0 + 1) 10 from c0), if_pos (show (0 : Int) < x4 from c1), if_pos (show d (x0 + 1) ((1916 + (5 * x5)) + 0) = x1 from c2), if_pos (show d (x0 + 1) ((1916 + (5 * x5)) + 3) = 0 from c3)]
          rw [y0] at h
          exact h (fun b hb => (F b hb).trans ((show ∀ b : Int, (b < x0 ∨ x0 + 2 < b) → (mset d (x0 + 1) ((1916 + (5 * x5)) + 0) x2) b = d b from fun b hb => mset_ne (by omega)) b hb)) hS_
theorem l_285_79 {E : mO × tW} {K : tK} {x0 x1 x2 x3 : Int} (hx0 : mdB x0) (p1 : -2147483648 ≤ x1 ∧ x1 ≤ 2147483647) (p2 : -2147483648 ≤ x2 ∧ x2 ≤ 2147483647) (p3 : -2147483648 ≤ x3 ∧ x3 ≤ 2147483647) : ∀ (n : Nat) (x4 x5 : Int) (d : mD), Safe d → (0 ≤ x5 ∧ x5 ≤ 200) → (0 ≤ x4 ∧ x4 ≤ 200) → (0 ≤ x2 ∧ x2 ≤ 15) → 200 - x5 ≤ (n : Int) → ((∀ b : Int, (b < x0 ∨ x0 + 2 < b) → (lp_285_79 x0 x1 x2 x3 n x4 x5 d).2 b = d b) → Safe (lp_285_79 x0 x1 x2 x3 n x4 x5 d).2 → K (.inl (some (0, (lp_285_79 x0 x1 x2 x3 n x4 x5 d).1))) (lp_285_79 x0 x1 x2 x3 n x4 x5 d).2) → tRun E 285 (79, [.inr (11, x0), .inl (0, x1), .inl (0, x2), .inl (0, x3), .inl (0, x4), .inl (0, x5)], [], 0, 0, d) K := by
  intro n
  induction n with
  | zero =>
    intro x4 x5  d hS i0 i1 i2 hm  h
    exact ls_285_79 hx0 p1 p2 p3 0 _ (fun _ _  _ _ _ _ _ m0 m1 _ => absurd m1 (by omega)) x4 x5  d hS i0 i1 i2 hm  h
  | succ n ih =>
    intro x4 x5  d hS i0 i1 i2 hm  h
    exact ls_285_79 hx0 p1 p2 p3 ((n + 1 : Nat) : Int) _ (fun x4 x5  d hS i0 i1 i2  m0 m1 h => ih x4 x5  d hS i0 i1 i2 (by omega)  h) x4 x5  d hS i0 i1 i2 hm  h
def f_285 (x0 x1 x2 x3 : Int) (d : mD) : Int × mD := if v_237 x0 x1 d = 0 then (0, mset d x0 0 1) else if v_237 x0 x2 d = 0 then (0, mset d x0 0 1) else if v_176 x3 1 200 d = 0 then (0, mset d x0 0 2) else if x1 = x2 then (0, mset d x0 0 3) else if v_245 x0 x1 0 d < x3 then (0, mset d x0 0 3) else lp_285_79 x0 x1 x2 x3 (200 - 0 : Int).toNat x3 0 (g_278 x0 (mset d x0 0 0))
def v_285 (x0 x1 x2 x3 : Int) (d : mD) : Int := (f_285 x0 x1 x2 x3 d).1
def g_285 (x0 x1 x2 x3 : Int) (d : mD) : mD := (f_285 x0 x1 x2 x3 d).2
theorem k_285 {E : mO × tW} {K : tK} {d : mD} {x0 x1 x2 x3 : Int} (hS : Safe d) (hx0 : mdB x0) (p1 : -2147483648 ≤ x1 ∧ x1 ≤ 2147483647) (p2 : -2147483648 ≤ x2 ∧ x2 ≤ 2147483647) (p3 : -2147483648 ≤ x3 ∧ x3 ≤ 2147483647) (h : (∀ b : Int, (b < x0 ∨ x0 + 2 < b) → (g_285 x0 x1 x2 x3 d) b = d b) → Safe (g_285 x0 x1 x2 x3 d) → K (.inl (some (0, (v_285 x0 x1 x2 x3 d)))) (g_285 x0 x1 x2 x3 d)) : tCall E 285 [.inr (11, x0), .inl (0, x1), .inl (0, x2), .inl (0, x3)] d K := by
  simp only [v_285, g_285] at h
  refine t_285_0 ?_
  have w0 := mh_0 hS hx0 _ rfl
  have w7 := mh_7 hS hx0 _ rfl
  have w8 := mh_8 hS hx0 _ rfl
  have w9 := mh_9 hS hx0 _ rfl
  have w10 := mh_10 hS hx0 _ rfl
  have w11 := mh_11 hS hx0 _ rfl
  refine k_237 hS hx0 (m_inR (by omega) (by omega)) (fun e3 => ?_)
  refine t_285_6 ?_
  refine ⟨m_inR (by omega) (by omega), fun c0 => ?_, fun c0 => ?_⟩
  · have hS2 : Safe (mset d x0 0 1) := s_11_f0 hS hx0 (by omega)
    rw [mset_eq (d := d) (a := x0) (i := (0 : Int)) (v := (1 : Int))]
    refine ⟨m_inR (by omega) (by omega), fun c1 => ?_, fun c1 => ?_⟩
    · exact (show False by omega).elim
    · have y0 : f_285 x0 x1 x2 x3 d = (0, mset d x0 0 1) := by simp only [f_285, if_pos (show v_237 x0 x1 d = 0 from c0), if_pos (show (0 : Int) < 1 from c1)]
      rw [y0] at h
      exact h (show ∀ b : Int, (b < x0 ∨ x0 + 2 < b) → (mset d x0 0 1) b = d b from fun b hb => mset_ne (by omega)) hS2
  · refine k_237 hS hx0 (m_inR (by omega) (by omega)) (fun e4 => ?_)
    refine t_285_14 ?_
    refine ⟨m_inR (by omega) (by omega), fun c1 => ?_, fun c1 => ?_⟩
    · refine ⟨m_inR (by omega) (by omega), ?_⟩
      refine k_176 hS (m_inR (by omega) (by omega)) (m_inR (by omega) (by omega)) (m_inR (by omega) (by omega)) (fun e5 => ?_)
      refine t_285_30 ?_
      refine ⟨m_inR (by omega) (by omega), fun c2 => ?_, fun c2 => ?_⟩
      · refine ⟨⟨m_inR (by omega) (by omega), m_inR (by omega) (by omega)⟩, fun c3 => ?_, fun c3 => ?_⟩
        · have hS3 : Safe (mset d x0 0 3) := s_11_f0 hS hx0 (by omega)
          rw [mset_eq (d := d) (a := x0) (i := (0 : Int)) (v := (3 : Int))]
          refine ⟨m_inR (by omega) (by omega), fun c4 => ?_, fun c4 => ?_⟩
          · exact (show False by omega).elim
          · have y0 : f_285 x0 x1 x2 x3 d = (0, mset d x0 0 3) := by simp only [f_285, if_neg (show ¬ v_237 x0 x1 d = 0 from c0), if_neg (show ¬ v_237 x0 x2 d = 0 from c1), if_neg (show ¬ v_176 x3 1 200 d = 0 from c2), if_pos (show x1 = x2 from c3), if_pos (show (0 : Int) < 3 from c4)]
            rw [y0] at h
            exact h (show ∀ b : Int, (b < x0 ∨ x0 + 2 < b) → (mset d x0 0 3) b = d b from fun b hb => mset_ne (by omega)) hS3
        · refine k_245 hS hx0 (m_inR (by omega) (by omega)) (m_inR (by omega) (by omega)) (fun e6 => ?_)
          refine t_285_48 ?_
          refine ⟨⟨m_inR (by omega) (by omega), m_inR (by omega) (by omega)⟩, fun c4 => ?_, fun c4 => ?_⟩
          · have hS4 : Safe (mset d x0 0 0) := s_11_f0 hS hx0 (by omega)
            rw [mset_eq (d := d) (a := x0) (i := (0 : Int)) (v := (0 : Int))]
            refine ⟨m_inR (by omega) (by omega), fun c5 => ?_, fun c5 => ?_⟩
            · refine k_278 hS4 hx0 (fun F1 hS5 => ?_)
              refine t_285_73 ?_
              refine l_285_79 hx0 p1 p2 p3 (200 - 0 : Int).toNat x3 0  (g_278 x0 (mset d x0 0 0)) hS5 (by omega) (by omega) (by omega) (by omega) ?_
              intro F hS_
              have y0 : f_285 x0 x1 x2 x3 d = lp_285_79 x0 x1 x2 x3 (200 - 0 : Int).toNat x3 0 (g_278 x0 (mset d x0 0 0)) := by simp only [f_285, if_neg (show ¬ v_237 x0 x1 d = 0 from c0), if_neg (show ¬ v_237 x0 x2 d = 0 from c1), if_neg (show ¬ v_176 x3 1 200 d = 0 from c2), if_neg (show ¬ x1 = x2 from c3), if_neg (show ¬ v_245 x0 x1 0 d < x3 from Int.not_lt.mpr c4), if_neg (show ¬ (0 : Int) < 0 from Int.not_lt.mpr c5)]
              rw [y0] at h
              exact h (fun b hb => (F b hb).trans ((show ∀ b : Int, (b < x0 ∨ x0 + 2 < b) → (g_278 x0 (mset d x0 0 0)) b = d b from fun b hb => (F1 b (by omega)).trans (mset_ne (by omega))) b hb)) hS_
            · exact (show False by omega).elim
          · have hS6 : Safe (mset d x0 0 3) := s_11_f0 hS hx0 (by omega)
            rw [mset_eq (d := d) (a := x0) (i := (0 : Int)) (v := (3 : Int))]
            refine ⟨m_inR (by omega) (by omega), fun c5 => ?_, fun c5 => ?_⟩
            · exact (show False by omega).elim
            · have y0 : f_285 x0 x1 x2 x3 d = (0, mset d x0 0 3) := by simp only [f_285, if_neg (show ¬ v_237 x0 x1 d = 0 from c0), if_neg (show ¬ v_237 x0 x2 d = 0 from c1), if_neg (show ¬ v_176 x3 1 200 d = 0 from c2), if_neg (show ¬ x1 = x2 from c3), if_pos (show v_245 x0 x1 0 d < x3 from c4), if_pos (show (0 : Int) < 3 from c5)]
              rw [y0] at h
              exact h (show ∀ b : Int, (b < x0 ∨ x0 + 2 < b) → (mset d x0 0 3) b = d b from fun b hb => mset_ne (by omega)) hS6
      · have hS7 : Safe (mset d x0 0 2) := s_11_f0 hS hx0 (by omega)
        rw [mset_eq (d := d) (a := x0) (i := (0 : Int)) (v := (2 : Int))]
        refine ⟨m_inR (by omega) (by omega), fun c3 => ?_, fun c3 => ?_⟩
        · exact (show False by omega).elim
        · have y0 : f_285 x0 x1 x2 x3 d = (0, mset d x0 0 2) := by simp only [f_285, if_neg (show ¬ v_237 x0 x1 d = 0 from c0), if_neg (show ¬ v_237 x0 x2 d = 0 from c1), if_pos (show v_176 x3 1 200 d = 0 from c2), if_pos (show (0 : Int) < 2 from c3)]
          rw [y0] at h
          exact h (show ∀ b : Int, (b < x0 ∨ x0 + 2 < b) → (mset d x0 0 2) b = d b from fun b hb => mset_ne (by omega)) hS7
    · have hS8 : Safe (mset d x0 0 1) := s_11_f0 hS hx0 (by omega)
      rw [mset_eq (d := d) (a := x0) (i := (0 : Int)) (v := (1 : Int))]
      refine ⟨m_inR (by omega) (by omega), fun c2 => ?_, fun c2 => ?_⟩
      · exact (show False by omega).elim
      · have y0 : f_285 x0 x1 x2 x3 d = (0, mset d x0 0 1) := by simp only [f_285, if_neg (show ¬ v_237 x0 x1 d = 0 from c0), if_pos (show v_237 x0 x2 d = 0 from c1), if_pos (show (0 : Int) < 1 from c2)]
        rw [y0] at h
        exact h (show ∀ b : Int, (b < x0 ∨ x0 + 2 < b) → (mset d x0 0 1) b = d b from fun b hb => mset_ne (by omega)) hS8
def v_287 (x0 x1 : Int) (d : mD) : Int := if v_176 x1 1 9999 d = 0 then 0 else if (99999 : Int) < (d (x0 + 1) 1) + x1 then 0 else (g_219 x0 (mset (g_278 x0 (mset d x0 0 0)) (x0 + 1) 1 ((d (x0 + 1) 1) + x1))) (x0 + 1) 1
def g_287 (x0 x1 : Int) (d : mD) : mD := if v_176 x1 1 9999 d = 0 then mset d x0 0 1 else if (99999 : Int) < (d (x0 + 1) 1) + x1 then mset d x0 0 2 else g_219 x0 (mset (g_278 x0 (mset d x0 0 0)) (x0 + 1) 1 ((d (x0 + 1) 1) + x1))
theorem k_287 {E : mO × tW} {K : tK} {d : mD} {x0 x1 : Int} (hS : Safe d) (hx0 : mdB x0) (p1 : -2147483648 ≤ x1 ∧ x1 ≤ 2147483647) (h : (∀ b : Int, (b < x0 ∨ x0 + 2 < b) → (g_287 x0 x1 d) b = d b) → Safe (g_287 x0 x1 d) → K (.inl (some (0, (v_287 x0 x1 d)))) (g_287 x0 x1 d)) : tCall E 287 [.inr (11, x0), .inl (0, x1)] d K := by
  refine t_287_0 ?_
  have w0 := mh_0 hS hx0 _ rfl
  have w7 := mh_7 hS hx0 _ rfl
  have w8 := mh_8 hS hx0 _ rfl
  have w9 := mh_9 hS hx0 _ rfl
  have w10 := mh_10 hS hx0 _ rfl
  have w11 := mh_11 hS hx0 _ rfl
  refine ⟨m_inR (by omega) (by omega), ?_⟩
  refine k_176 hS (m_inR (by omega) (by omega)) (m_inR (by omega) (by omega)) (m_inR (by omega) (by omega)) (fun e1 => ?_)
  refine t_287_10 ?_
  refine ⟨m_inR (by omega) (by omega), fun c0 => ?_, fun c0 => ?_⟩
  · have q1 := mh_1 hS hx0 _ rfl
    refine ⟨by omega, ⟨m_inR (by omega) (by omega), m_inR (by omega) (by omega)⟩, fun c1 => ?_, fun c1 => ?_⟩
    · have hS1 : Safe (mset d x0 0 0) := s_11_f0 hS hx0 (by omega)
      rw [mset_eq (d := d) (a := x0) (i := (0 : Int)) (v := (0 : Int))]
      refine ⟨m_inR (by omega) (by omega), fun c2 => ?_, fun c2 => ?_⟩
      · refine k_278 hS1 hx0 (fun F1 hS2 => ?_)
        refine t_287_51 ?_
        rw [F1 (x0 + 1) (by omega)]
        rw [mset_ni (d := d) (a := x0) (i := (0 : Int)) (v := (0 : Int)) (b := x0 + 1) (j := (1 : Int)) (by omega)]
        refine ⟨by omega, by omega, ?_⟩
        have hS3 : Safe (mset (g_278 x0 (mset d x0 0 0)) (x0 + 1) 1 ((d (x0 + 1) 1) + x1)) := smh_1 hS2 hx0 _ rfl (by omega)
        refine k_219 hS3 hx0 (fun e2 F2 Q2 hS4 => ?_)
        refine t_287_65 ?_
        have q2 := mh_1 hS4 hx0 _ rfl
        refine ⟨by omega, ?_⟩
        have y0 : v_287 x0 x1 d = (g_219 x0 (mset (g_278 x0 (mset d x0 0 0)) (x0 + 1) 1 ((d (x0 + 1) 1) + x1))) (x0 + 1) 1 := by simp only [v_287, if_neg (show ¬ v_176 x1 1 9999 d = 0 from c0), if_neg (show ¬ (99999 : Int) < (d (x0 + 1) 1) + x1 from Int.not_lt.mpr c1), if_neg (show ¬ (0 : Int) < 0 from Int.not_lt.mpr c2)]
        have y1 : g_287 x0 x1 d = g_219 x0 (mset (g_278 x0 (mset d x0 0 0)) (x0 + 1) 1 ((d (x0 + 1) 1) + x1)) := by simp only [g_287, if_neg (show ¬ v_176 x1 1 9999 d = 0 from c0), if_neg (show ¬ (99999 : Int) < (d (x0 + 1) 1) + x1 from Int.not_lt.mpr c1), if_neg (show ¬ (0 : Int) < 0 from Int.not_lt.mpr c2)]
        rw [y0] at h
        rw [y1] at h
        exact h (show ∀ b : Int, (b < x0 ∨ x0 + 2 < b) → (g_219 x0 (mset (g_278 x0 (mset d x0 0 0)) (x0 + 1) 1 ((d (x0 + 1) 1) + x1))) b = d b from fun b hb => (F2 b (by omega)).trans ((mset_ne (by omega)).trans ((F1 b (by omega)).trans (mset_ne (by omega))))) hS4
      · exact (show False by omega).elim
    · have hS5 : Safe (mset d x0 0 2) := s_11_f0 hS hx0 (by omega)
      rw [mset_eq (d := d) (a := x0) (i := (0 : Int)) (v := (2 : Int))]
      refine ⟨m_inR (by omega) (by omega), fun c2 => ?_, fun c2 => ?_⟩
      · exact (show False by omega).elim
      · have y0 : v_287 x0 x1 d = 0 := by simp only [v_287, if_neg (show ¬ v_176 x1 1 9999 d = 0 from c0), if_pos (show (99999 : Int) < (d (x0 + 1) 1) + x1 from c1), if_pos (show (0 : Int) < 2 from c2)]
        have y1 : g_287 x0 x1 d = mset d x0 0 2 := by simp only [g_287, if_neg (show ¬ v_176 x1 1 9999 d = 0 from c0), if_pos (show (99999 : Int) < (d (x0 + 1) 1) + x1 from c1), if_pos (show (0 : Int) < 2 from c2)]
        rw [y0] at h
        rw [y1] at h
        exact h (show ∀ b : Int, (b < x0 ∨ x0 + 2 < b) → (mset d x0 0 2) b = d b from fun b hb => mset_ne (by omega)) hS5
  · have hS6 : Safe (mset d x0 0 1) := s_11_f0 hS hx0 (by omega)
    rw [mset_eq (d := d) (a := x0) (i := (0 : Int)) (v := (1 : Int))]
    refine ⟨m_inR (by omega) (by omega), fun c1 => ?_, fun c1 => ?_⟩
    · exact (show False by omega).elim
    · have y0 : v_287 x0 x1 d = 0 := by simp only [v_287, if_pos (show v_176 x1 1 9999 d = 0 from c0), if_pos (show (0 : Int) < 1 from c1)]
      have y1 : g_287 x0 x1 d = mset d x0 0 1 := by simp only [g_287, if_pos (show v_176 x1 1 9999 d = 0 from c0), if_pos (show (0 : Int) < 1 from c1)]
      rw [y0] at h
      rw [y1] at h
      exact h (show ∀ b : Int, (b < x0 ∨ x0 + 2 < b) → (mset d x0 0 1) b = d b from fun b hb => mset_ne (by omega)) hS6
def v_288 (x0 x1 x2 : Int) (d : mD) : Int := if v_236 x0 x1 d = 0 then 0 else if v_236 x0 x2 d = 0 then 0 else if v_270 x0 x1 x2 d = 0 then 0 else (g_229 x0 x1 x2 (g_278 x0 (mset d x0 0 0))) (x0 + 1) ((12 + (68 * x2)) + 5)
def g_288 (x0 x1 x2 : Int) (d : mD) : mD := if v_236 x0 x1 d = 0 then mset d x0 0 1 else if v_236 x0 x2 d = 0 then mset d x0 0 1 else if v_270 x0 x1 x2 d = 0 then mset d x0 0 2 else g_229 x0 x1 x2 (g_278 x0 (mset d x0 0 0))
theorem k_288 {E : mO × tW} {K : tK} {d : mD} {x0 x1 x2 : Int} (hS : Safe d) (hx0 : mdB x0) (p1 : -2147483648 ≤ x1 ∧ x1 ≤ 2147483647) (p2 : -2147483648 ≤ x2 ∧ x2 ≤ 2147483647) (hqq : qqP (d (x0 + 1))) (h : (∀ b : Int, (b < x0 ∨ x0 + 2 < b) → (g_288 x0 x1 x2 d) b = d b) → Safe (g_288 x0 x1 x2 d) → K (.inl (some (0, (v_288 x0 x1 x2 d)))) (g_288 x0 x1 x2 d)) : tCall E 288 [.inr (11, x0), .inl (0, x1), .inl (0, x2)] d K := by
  refine t_288_0 ?_
  have w0 := mh_0 hS hx0 _ rfl
  have w7 := mh_7 hS hx0 _ rfl
  have w8 := mh_8 hS hx0 _ rfl
  have w9 := mh_9 hS hx0 _ rfl
  have w10 := mh_10 hS hx0 _ rfl
  have w11 := mh_11 hS hx0 _ rfl
  refine k_236 hS hx0 (m_inR (by omega) (by omega)) (fun e1 => ?_)
  refine t_288_6 ?_
  refine ⟨m_inR (by omega) (by omega), fun c0 => ?_, fun c0 => ?_⟩
  · have hS1 : Safe (mset d x0 0 1) := s_11_f0 hS hx0 (by omega)
    rw [mset_eq (d := d) (a := x0) (i := (0 : Int)) (v := (1 : Int))]
    refine ⟨m_inR (by omega) (by omega), fun c1 => ?_, fun c1 => ?_⟩
    · exact (show False by omega).elim
    · have y0 : v_288 x0 x1 x2 d = 0 := by simp only [v_288, if_pos (show v_236 x0 x1 d = 0 from c0), if_pos (show (0 : Int) < 1 from c1)]
      have y1 : g_288 x0 x1 x2 d = mset d x0 0 1 := by simp only [g_288, if_pos (show v_236 x0 x1 d = 0 from c0), if_pos (show (0 : Int) < 1 from c1)]
      rw [y0] at h
      rw [y1] at h
      exact h (show ∀ b : Int, (b < x0 ∨ x0 + 2 < b) → (mset d x0 0 1) b = d b from fun b hb => mset_ne (by omega)) hS1
  · refine k_236 hS hx0 (m_inR (by omega) (by omega)) (fun e2 => ?_)
    refine t_288_14 ?_
    refine ⟨m_inR (by omega) (by omega), fun c1 => ?_, fun c1 => ?_⟩
    · refine k_270 hS hx0 (by omega) (by omega) (fun e3 => ?_)
      refine t_288_27 ?_
      refine ⟨m_inR (by omega) (by omega), fun c2 => ?_, fun c2 => ?_⟩
      · have hS2 : Safe (mset d x0 0 2) := s_11_f0 hS hx0 (by omega)
        rw [mset_eq (d := d) (a := x0) (i := (0 : Int)) (v := (2 : Int))]
        refine ⟨m_inR (by omega) (by omega), fun c3 => ?_, fun c3 => ?_⟩
        · exact (show False by omega).elim
        · have y0 : v_288 x0 x1 x2 d = 0 := by simp only [v_288, if_neg (show ¬ v_236 x0 x1 d = 0 from c0), if_neg (show ¬ v_236 x0 x2 d = 0 from c1), if_pos (show v_270 x0 x1 x2 d = 0 from c2), if_pos (show (0 : Int) < 2 from c3)]
          have y1 : g_288 x0 x1 x2 d = mset d x0 0 2 := by simp only [g_288, if_neg (show ¬ v_236 x0 x1 d = 0 from c0), if_neg (show ¬ v_236 x0 x2 d = 0 from c1), if_pos (show v_270 x0 x1 x2 d = 0 from c2), if_pos (show (0 : Int) < 2 from c3)]
          rw [y0] at h
          rw [y1] at h
          exact h (show ∀ b : Int, (b < x0 ∨ x0 + 2 < b) → (mset d x0 0 2) b = d b from fun b hb => mset_ne (by omega)) hS2
      · have hS3 : Safe (mset d x0 0 0) := s_11_f0 hS hx0 (by omega)
        rw [mset_eq (d := d) (a := x0) (i := (0 : Int)) (v := (0 : Int))]
        refine ⟨m_inR (by omega) (by omega), fun c3 => ?_, fun c3 => ?_⟩
        · refine k_278 hS3 hx0 (fun F1 hS4 => ?_)
          refine t_288_51 ?_
          have q1 : (g_278 x0 (mset d x0 0 0)) (x0 + 1) (12 + 68 * x1 + 5) = d (x0 + 1) (12 + 68 * x1 + 5) := (congrFun (F1 (x0 + 1) (by omega)) (12 + 68 * x1 + 5)).trans (congrFun (mset_ne (by omega)) (12 + 68 * x1 + 5))
          have q2 : (g_278 x0 (mset d x0 0 0)) (x0 + 1) (12 + 68 * x2 + 5) = d (x0 + 1) (12 + 68 * x2 + 5) := (congrFun (F1 (x0 + 1) (by omega)) (12 + 68 * x2 + 5)).trans (congrFun (mset_ne (by omega)) (12 + 68 * x2 + 5))
          refine k_229 hS4 hx0 (by omega) (by omega) (by have u1 := hqq x1 (by omega) (by omega); have u2 := hqq x2 (by omega) (by omega); omega) (by omega) (fun F2 Q2 hS5 => ?_)
          refine t_288_57 ?_
          refine k_177 hS5 ?_
          refine t_288_65 ?_
          have q3 := mo_5 hS5 hx0 x2 ((12 + (68 * x2)) + 5) (by omega) (by omega)
          refine ⟨by omega, ?_⟩
          have y0 : v_288 x0 x1 x2 d = (g_229 x0 x1 x2 (g_278 x0 (mset d x0 0 0))) (x0 + 1) ((12 + (68 * x2)) + 5) := by simp only [v_288, if_neg (show ¬ v_236 x0 x1 d = 0 from c0), if_neg (show ¬ v_236 x0 x2 d = 0 from c1), if_neg (show ¬ v_270 x0 x1 x2 d = 0 from c2), if_neg (show ¬ (0 : Int) < 0 from Int.not_lt.mpr c3)]
          have y1 : g_288 x0 x1 x2 d = g_229 x0 x1 x2 (g_278 x0 (mset d x0 0 0)) := by simp only [g_288, if_neg (show ¬ v_236 x0 x1 d = 0 from c0), if_neg (show ¬ v_236 x0 x2 d = 0 from c1), if_neg (show ¬ v_270 x0 x1 x2 d = 0 from c2), if_neg (show ¬ (0 : Int) < 0 from Int.not_lt.mpr c3)]
          rw [y0] at h
          rw [y1] at h
          exact h (show ∀ b : Int, (b < x0 ∨ x0 + 2 < b) → (g_229 x0 x1 x2 (g_278 x0 (mset d x0 0 0))) b = d b from fun b hb => (F2 b (by omega)).trans ((F1 b (by omega)).trans (mset_ne (by omega)))) hS5
        · exact (show False by omega).elim
    · have hS6 : Safe (mset d x0 0 1) := s_11_f0 hS hx0 (by omega)
      rw [mset_eq (d := d) (a := x0) (i := (0 : Int)) (v := (1 : Int))]
      refine ⟨m_inR (by omega) (by omega), fun c2 => ?_, fun c2 => ?_⟩
      · exact (show False by omega).elim
      · have y0 : v_288 x0 x1 x2 d = 0 := by simp only [v_288, if_neg (show ¬ v_236 x0 x1 d = 0 from c0), if_pos (show v_236 x0 x2 d = 0 from c1), if_pos (show (0 : Int) < 1 from c2)]
        have y1 : g_288 x0 x1 x2 d = mset d x0 0 1 := by simp only [g_288, if_neg (show ¬ v_236 x0 x1 d = 0 from c0), if_pos (show v_236 x0 x2 d = 0 from c1), if_pos (show (0 : Int) < 1 from c2)]
        rw [y0] at h
        rw [y1] at h
        exact h (show ∀ b : Int, (b < x0 ∨ x0 + 2 < b) → (mset d x0 0 1) b = d b from fun b hb => mset_ne (by omega)) hS6
def st_289_64 (x0 x1 : Int) (r64 : Int → Int → mD → Int × mD) (x2 x3 : Int) (d : mD) : Int × mD := if x3 < d (x0 + 1) 7 then r64 (x2 + (d (x0 + 1) ((12 + (68 * x3)) + 4))) (x3 + 1) d else (x2, d)
def lp_289_64 (x0 x1 : Int) : Nat → Int → Int → mD → Int × mD
  | 0 => st_289_64 x0 x1 (fun _ _ d => (0, d))
  | n + 1 => st_289_64 x0 x1 (lp_289_64 x0 x1 n)
theorem ls_289_64 {E : mO × tW} {K : tK} {x0 x1 : Int} (hx0 : mdB x0) (p1 : -2147483648 ≤ x1 ∧ x1 ≤ 2147483647) (N64 : Int) (r64 : Int → Int → mD → Int × mD) (ih64 : ∀ (x2 x3 : Int) (d : mD), Safe d → (0 ≤ x3 ∧ x3 ≤ 6) → 0 ≤ 6 - x3 → 6 - x3 < N64 → ((∀ b : Int, (b < x0 ∨ x0 + 2 < b) → (r64 x2 x3 d).2 b = d b) → Safe (r64 x2 x3 d).2 → K (.inl (some (0, (r64 x2 x3 d).1))) (r64 x2 x3 d).2) → tRun E 289 (64, [.inr (11, x0), .inl (0, x1), .inl (0, x2), .inl (0, x3)], [], 0, 0, d) K) (x2 x3 : Int) (d : mD) (hS : Safe d) (i0 : 0 ≤ x3 ∧ x3 ≤ 6) (hm : 6 - x3 ≤ N64) (h : (∀ b : Int, (b < x0 ∨ x0 + 2 < b) → (st_289_64 x0 x1 r64 x2 x3 d).2 b = d b) → Safe (st_289_64 x0 x1 r64 x2 x3 d).2 → K (.inl (some (0, (st_289_64 x0 x1 r64 x2 x3 d).1))) (st_289_64 x0 x1 r64 x2 x3 d).2) : tRun E 289 (64, [.inr (11, x0), .inl (0, x1), .inl (0, x2), .inl (0, x3)], [], 0, 0, d) K := by
  refine t_289_64 ?_
  have q1 := mh_7 hS hx0 _ rfl
  refine ⟨by omega, ⟨m_inR (by omega) (by omega), m_inR (by omega) (by omega)⟩, fun c0 => ?_, fun c0 => ?_⟩
  · have y0 : st_289_64 x0 x1 r64 x2 x3 d = (x2, d) := by simp only [st_289_64, if_neg (show ¬ x3 < d (x0 + 1) 7 from Int.not_lt.mpr c0)]
    rw [y0] at h
    exact h (show ∀ b : Int, (b < x0 ∨ x0 + 2 < b) → d b = d b from fun _ _ => rfl) hS
  · refine k_177 hS ?_
    refine t_289_84 ?_
    refine ⟨by omega, ?_⟩
    have q2 := mo_4 hS hx0 x3 ((12 + (68 * x3)) + 4) (by omega) (by omega)
    refine ih64 (x2 + (d (x0 + 1) ((12 + (68 * x3)) + 4))) (x3 + 1)  d hS (by omega) (by omega) (by omega) ?_
    intro F hS_
    have y0 : st_289_64 x0 x1 r64 x2 x3 d = r64 (x2 + (d (x0 + 1) ((12 + (68 * x3)) + 4))) (x3 + 1) d := by simp only [st_289_64, if_pos (show x3 < d (x0 + 1) 7 from c0)]
    rw [y0] at h
    exact h F hS_
theorem l_289_64 {E : mO × tW} {K : tK} {x0 x1 : Int} (hx0 : mdB x0) (p1 : -2147483648 ≤ x1 ∧ x1 ≤ 2147483647) : ∀ (n : Nat) (x2 x3 : Int) (d : mD), Safe d → (0 ≤ x3 ∧ x3 ≤ 6) → 6 - x3 ≤ (n : Int) → ((∀ b : Int, (b < x0 ∨ x0 + 2 < b) → (lp_289_64 x0 x1 n x2 x3 d).2 b = d b) → Safe (lp_289_64 x0 x1 n x2 x3 d).2 → K (.inl (some (0, (lp_289_64 x0 x1 n x2 x3 d).1))) (lp_289_64 x0 x1 n x2 x3 d).2) → tRun E 289 (64, [.inr (11, x0), .inl (0, x1), .inl (0, x2), .inl (0, x3)], [], 0, 0, d) K := by
  intro n
  induction n with
  | zero =>
    intro x2 x3  d hS i0 hm  h
    exact ls_289_64 hx0 p1 0 _ (fun _ _  _ _ _ m0 m1 _ => absurd m1 (by omega)) x2 x3  d hS i0 hm  h
  | succ n ih =>
    intro x2 x3  d hS i0 hm  h
    exact ls_289_64 hx0 p1 ((n + 1 : Nat) : Int) _ (fun x2 x3  d hS i0  m0 m1 h => ih x2 x3  d hS i0 (by omega)  h) x2 x3  d hS i0 hm  h
def f_289 (x0 x1 : Int) (d : mD) : Int × mD := if v_236 x0 x1 d = 0 then (0, mset d x0 0 1) else if d (x0 + 1) ((12 + (68 * x1)) + 4) = 0 then lp_289_64 x0 x1 (6 - 0 : Int).toNat 0 0 (mset (g_278 x0 (mset d x0 0 0)) (x0 + 1) ((12 + (68 * x1)) + 4) 1) else (0, mset d x0 0 2)
def v_289 (x0 x1 : Int) (d : mD) : Int := (f_289 x0 x1 d).1
def g_289 (x0 x1 : Int) (d : mD) : mD := (f_289 x0 x1 d).2
theorem k_289 {E : mO × tW} {K : tK} {d : mD} {x0 x1 : Int} (hS : Safe d) (hx0 : mdB x0) (p1 : -2147483648 ≤ x1 ∧ x1 ≤ 2147483647) (h : (∀ b : Int, (b < x0 ∨ x0 + 2 < b) → (g_289 x0 x1 d) b = d b) → Safe (g_289 x0 x1 d) → K (.inl (some (0, (v_289 x0 x1 d)))) (g_289 x0 x1 d)) : tCall E 289 [.inr (11, x0), .inl (0, x1)] d K := by
  simp only [v_289, g_289] at h
  refine t_289_0 ?_
  have w0 := mh_0 hS hx0 _ rfl
  have w7 := mh_7 hS hx0 _ rfl
  have w8 := mh_8 hS hx0 _ rfl
  have w9 := mh_9 hS hx0 _ rfl
  have w10 := mh_10 hS hx0 _ rfl
  have w11 := mh_11 hS hx0 _ rfl
  refine k_236 hS hx0 (m_inR (by omega) (by omega)) (fun e1 => ?_)
  refine t_289_6 ?_
  refine ⟨m_inR (by omega) (by omega), fun c0 => ?_, fun c0 => ?_⟩
  · refine k_177 hS ?_
    refine t_289_21 ?_
    have q3 := mo_4 hS hx0 x1 ((12 + (68 * x1)) + 4) (by omega) (by omega)
    refine ⟨by omega, m_inR (by omega) (by omega), fun c1 => ?_, fun c1 => ?_⟩
    · have hS1 : Safe (mset d x0 0 2) := s_11_f0 hS hx0 (by omega)
      rw [mset_eq (d := d) (a := x0) (i := (0 : Int)) (v := (2 : Int))]
      refine ⟨m_inR (by omega) (by omega), fun c2 => ?_, fun c2 => ?_⟩
      · exact (show False by omega).elim
      · have y0 : f_289 x0 x1 d = (0, mset d x0 0 2) := by simp only [f_289, if_neg (show ¬ v_236 x0 x1 d = 0 from c0), if_neg (show ¬ d (x0 + 1) ((12 + (68 * x1)) + 4) = 0 from c1), if_pos (show (0 : Int) < 2 from c2)]
        rw [y0] at h
        exact h (show ∀ b : Int, (b < x0 ∨ x0 + 2 < b) → (mset d x0 0 2) b = d b from fun b hb => mset_ne (by omega)) hS1
    · have hS2 : Safe (mset d x0 0 0) := s_11_f0 hS hx0 (by omega)
      rw [mset_eq (d := d) (a := x0) (i := (0 : Int)) (v := (0 : Int))]
      refine ⟨m_inR (by omega) (by omega), fun c2 => ?_, fun c2 => ?_⟩
      · refine k_278 hS2 hx0 (fun F1 hS3 => ?_)
        refine t_289_48 ?_
        refine k_177 hS3 ?_
        refine t_289_56 ?_
        refine ⟨by omega, ?_⟩
        have hS4 : Safe (mset (g_278 x0 (mset d x0 0 0)) (x0 + 1) ((12 + (68 * x1)) + 4) 1) := smo_4 hS3 hx0 x1 ((12 + (68 * x1)) + 4) (by omega) (by omega) (by omega)
        refine l_289_64 hx0 p1 (6 - 0 : Int).toNat 0 0  (mset (g_278 x0 (mset d x0 0 0)) (x0 + 1) ((12 + (68 * x1)) + 4) 1) hS4 (by omega) (by omega) ?_
        intro F hS_
        have y0 : f_289 x0 x1 d = lp_289_64 x0 x1 (6 - 0 : Int).toNat 0 0 (mset (g_278 x0 (mset d x0 0 0)) (x0 + 1) ((12 + (68 * x1)) + 4) 1) := by simp only [f_289, if_neg (show ¬ v_236 x0 x1 d = 0 from c0), if_pos (show d (x0 + 1) ((12 + (68 * x1)) + 4) = 0 from c1), if_neg (show ¬ (0 : Int) < 0 from Int.not_lt.mpr c2)]
        rw [y0] at h
        exact h (fun b hb => (F b hb).trans ((show ∀ b : Int, (b < x0 ∨ x0 + 2 < b) → (mset (g_278 x0 (mset d x0 0 0)) (x0 + 1) ((12 + (68 * x1)) + 4) 1) b = d b from fun b hb => (mset_ne (by omega)).trans ((F1 b (by omega)).trans (mset_ne (by omega)))) b hb)) hS_
      · exact (show False by omega).elim
  · have hS5 : Safe (mset d x0 0 1) := s_11_f0 hS hx0 (by omega)
    rw [mset_eq (d := d) (a := x0) (i := (0 : Int)) (v := (1 : Int))]
    refine ⟨m_inR (by omega) (by omega), fun c1 => ?_, fun c1 => ?_⟩
    · exact (show False by omega).elim
    · have y0 : f_289 x0 x1 d = (0, mset d x0 0 1) := by simp only [f_289, if_pos (show v_236 x0 x1 d = 0 from c0), if_pos (show (0 : Int) < 1 from c1)]
      rw [y0] at h
      exact h (show ∀ b : Int, (b < x0 ∨ x0 + 2 < b) → (mset d x0 0 1) b = d b from fun b hb => mset_ne (by omega)) hS5
def v_291 (x0 : Int) (d : mD) : Int := if x0 < 2 then 0 else 1
theorem k_291 {E : mO × tW} {K : tK} {d : mD} {x0 : Int} (hS : Safe d) (p0 : -2147483648 ≤ x0 ∧ x0 ≤ 2147483647) (h : ((0 ≤ (v_291 x0 d) ∧ (v_291 x0 d) ≤ 1)) → K (.inl (some (0, (v_291 x0 d)))) d) : tCall E 291 [.inl (0, x0)] d K := by
  refine t_291_0 ?_
  refine ⟨⟨m_inR (by omega) (by omega), m_inR (by omega) (by omega)⟩, fun c0 => ?_, fun c0 => ?_⟩
  · have y0 : v_291 x0 d = 1 := by simp only [v_291, if_neg (show ¬ x0 < 2 from Int.not_lt.mpr c0)]
    rw [y0] at h
    exact h (show (0 ≤ ((1 : Int)) ∧ ((1 : Int)) ≤ 1) from (by omega))
  · have y0 : v_291 x0 d = 0 := by simp only [v_291, if_pos (show x0 < 2 from c0)]
    rw [y0] at h
    exact h (show (0 ≤ ((0 : Int)) ∧ ((0 : Int)) ≤ 1) from (by omega))
def v_292 (x0 : Int) (d : mD) : Int := if x0 = 1 then 3 else if x0 = 3 then 20 else if x0 = 4 then 99 else 9
theorem k_292 {E : mO × tW} {K : tK} {d : mD} {x0 : Int} (hS : Safe d) (p0 : -2147483648 ≤ x0 ∧ x0 ≤ 2147483647) (h : ((0 ≤ (v_292 x0 d) ∧ (v_292 x0 d) ≤ 99) ∧ (¬ x0 = 1 ∨ (v_292 x0 d) ≤ 3)) → K (.inl (some (0, (v_292 x0 d)))) d) : tCall E 292 [.inl (0, x0)] d K := by
  refine t_292_0 ?_
  refine ⟨⟨m_inR (by omega) (by omega), m_inR (by omega) (by omega)⟩, fun c0 => ?_, fun c0 => ?_⟩
  · refine ⟨⟨m_inR (by omega) (by omega), m_inR (by omega) (by omega)⟩, fun c1 => ?_, fun c1 => ?_⟩
    · refine ⟨⟨m_inR (by omega) (by omega), m_inR (by omega) (by omega)⟩, fun c2 => ?_, fun c2 => ?_⟩
      · have y0 : v_292 x0 d = 9 := by simp only [v_292, if_neg (show ¬ x0 = 1 from c0), if_neg (show ¬ x0 = 3 from c1), if_neg (show ¬ x0 = 4 from c2)]
        rw [y0] at h
        exact h (show (0 ≤ ((9 : Int)) ∧ ((9 : Int)) ≤ 99) ∧ (¬ x0 = 1 ∨ ((9 : Int)) ≤ 3) from (by omega))
      · have y0 : v_292 x0 d = 99 := by simp only [v_292, if_neg (show ¬ x0 = 1 from c0), if_neg (show ¬ x0 = 3 from c1), if_pos (show x0 = 4 from c2)]
        rw [y0] at h
        exact h (show (0 ≤ ((99 : Int)) ∧ ((99 : Int)) ≤ 99) ∧ (¬ x0 = 1 ∨ ((99 : Int)) ≤ 3) from (by omega))
    · have y0 : v_292 x0 d = 20 := by simp only [v_292, if_neg (show ¬ x0 = 1 from c0), if_pos (show x0 = 3 from c1)]
      rw [y0] at h
      exact h (show (0 ≤ ((20 : Int)) ∧ ((20 : Int)) ≤ 99) ∧ (¬ x0 = 1 ∨ ((20 : Int)) ≤ 3) from (by omega))
  · have y0 : v_292 x0 d = 3 := by simp only [v_292, if_pos (show x0 = 1 from c0)]
    rw [y0] at h
    exact h (show (0 ≤ ((3 : Int)) ∧ ((3 : Int)) ≤ 99) ∧ (¬ x0 = 1 ∨ ((3 : Int)) ≤ 3) from (by omega))
def v_293 (x0 x1 x2 : Int) (d : mD) : Int := if v_176 x1 0 4 d = 0 then 0 else if v_176 x2 (v_291 x1 d) (v_292 x1 d) d = 0 then 0 else d (x0 + 1) (2 + x1)
def g_293 (x0 x1 x2 : Int) (d : mD) : mD := if v_176 x1 0 4 d = 0 then mset d x0 0 1 else if v_176 x2 (v_291 x1 d) (v_292 x1 d) d = 0 then mset d x0 0 1 else mset (g_278 x0 (mset d x0 0 0)) (x0 + 1) (2 + x1) x2
theorem k_293 {E : mO × tW} {K : tK} {d : mD} {x0 x1 x2 : Int} (hS : Safe d) (hx0 : mdB x0) (p1 : -2147483648 ≤ x1 ∧ x1 ≤ 2147483647) (p2 : -2147483648 ≤ x2 ∧ x2 ≤ 2147483647) (h : (∀ b : Int, (b < x0 ∨ x0 + 2 < b) → (g_293 x0 x1 x2 d) b = d b) → Safe (g_293 x0 x1 x2 d) → K (.inl (some (0, (v_293 x0 x1 x2 d)))) (g_293 x0 x1 x2 d)) : tCall E 293 [.inr (11, x0), .inl (0, x1), .inl (0, x2)] d K := by
  refine t_293_0 ?_
  have w0 := mh_0 hS hx0 _ rfl
  have w7 := mh_7 hS hx0 _ rfl
  have w8 := mh_8 hS hx0 _ rfl
  have w9 := mh_9 hS hx0 _ rfl
  have w10 := mh_10 hS hx0 _ rfl
  have w11 := mh_11 hS hx0 _ rfl
  refine ⟨m_inR (by omega) (by omega), ?_⟩
  refine k_176 hS (m_inR (by omega) (by omega)) (m_inR (by omega) (by omega)) (m_inR (by omega) (by omega)) (fun e1 => ?_)
  refine t_293_10 ?_
  refine ⟨m_inR (by omega) (by omega), fun c0 => ?_, fun c0 => ?_⟩
  · have hS1 : Safe (mset d x0 0 1) := s_11_f0 hS hx0 (by omega)
    rw [mset_eq (d := d) (a := x0) (i := (0 : Int)) (v := (1 : Int))]
    refine ⟨m_inR (by omega) (by omega), fun c1 => ?_, fun c1 => ?_⟩
    · exact (show False by omega).elim
    · have y0 : v_293 x0 x1 x2 d = 0 := by simp only [v_293, if_pos (show v_176 x1 0 4 d = 0 from c0), if_pos (show (0 : Int) < 1 from c1)]
      have y1 : g_293 x0 x1 x2 d = mset d x0 0 1 := by simp only [g_293, if_pos (show v_176 x1 0 4 d = 0 from c0), if_pos (show (0 : Int) < 1 from c1)]
      rw [y0] at h
      rw [y1] at h
      exact h (show ∀ b : Int, (b < x0 ∨ x0 + 2 < b) → (mset d x0 0 1) b = d b from fun b hb => mset_ne (by omega)) hS1
  · refine ⟨m_inR (by omega) (by omega), ?_⟩
    refine k_291 hS (m_inR (by omega) (by omega)) (fun e2 => ?_)
    refine t_293_19 ?_
    refine ⟨m_inR (by omega) (by omega), ?_⟩
    refine k_292 hS (m_inR (by omega) (by omega)) (fun e3 => ?_)
    refine t_293_24 ?_
    refine ⟨m_inR (by omega) (by omega), ?_⟩
    refine k_176 hS (m_inR (by omega) (by omega)) (m_inR (by omega) (by omega)) (m_inR (by omega) (by omega)) (fun e4 => ?_)
    refine t_293_28 ?_
    refine ⟨m_inR (by omega) (by omega), fun c1 => ?_, fun c1 => ?_⟩
    · have hS2 : Safe (mset d x0 0 1) := s_11_f0 hS hx0 (by omega)
      rw [mset_eq (d := d) (a := x0) (i := (0 : Int)) (v := (1 : Int))]
      refine ⟨m_inR (by omega) (by omega), fun c2 => ?_, fun c2 => ?_⟩
      · exact (show False by omega).elim
      · have y0 : v_293 x0 x1 x2 d = 0 := by simp only [v_293, if_neg (show ¬ v_176 x1 0 4 d = 0 from c0), if_pos (show v_176 x2 (v_291 x1 d) (v_292 x1 d) d = 0 from c1), if_pos (show (0 : Int) < 1 from c2)]
        have y1 : g_293 x0 x1 x2 d = mset d x0 0 1 := by simp only [g_293, if_neg (show ¬ v_176 x1 0 4 d = 0 from c0), if_pos (show v_176 x2 (v_291 x1 d) (v_292 x1 d) d = 0 from c1), if_pos (show (0 : Int) < 1 from c2)]
        rw [y0] at h
        rw [y1] at h
        exact h (show ∀ b : Int, (b < x0 ∨ x0 + 2 < b) → (mset d x0 0 1) b = d b from fun b hb => mset_ne (by omega)) hS2
    · have hS3 : Safe (mset d x0 0 0) := s_11_f0 hS hx0 (by omega)
      rw [mset_eq (d := d) (a := x0) (i := (0 : Int)) (v := (0 : Int))]
      refine ⟨m_inR (by omega) (by omega), fun c2 => ?_, fun c2 => ?_⟩
      · refine k_278 hS3 hx0 (fun F1 hS4 => ?_)
        refine t_293_52 ?_
        rw [F1 (x0 + 1) (by omega)]
        rw [mset_ne (d := d) (a := x0) (i := (0 : Int)) (v := (0 : Int)) (b := x0 + 1) (by omega)]
        refine ⟨by omega, by omega, ?_⟩
        have hS5 : Safe (mset (g_278 x0 (mset d x0 0 0)) (x0 + 1) (2 + x1) x2) := smstg hS4 hx0 x1 (2 + x1) (by omega) (by omega) (by omega)
        have q1 := mstg hS hx0 x1 (2 + x1) (by omega) (by omega)
        have y0 : v_293 x0 x1 x2 d = d (x0 + 1) (2 + x1) := by simp only [v_293, if_neg (show ¬ v_176 x1 0 4 d = 0 from c0), if_neg (show ¬ v_176 x2 (v_291 x1 d) (v_292 x1 d) d = 0 from c1), if_neg (show ¬ (0 : Int) < 0 from Int.not_lt.mpr c2)]
        have y1 : g_293 x0 x1 x2 d = mset (g_278 x0 (mset d x0 0 0)) (x0 + 1) (2 + x1) x2 := by simp only [g_293, if_neg (show ¬ v_176 x1 0 4 d = 0 from c0), if_neg (show ¬ v_176 x2 (v_291 x1 d) (v_292 x1 d) d = 0 from c1), if_neg (show ¬ (0 : Int) < 0 from Int.not_lt.mpr c2)]
        rw [y0] at h
        rw [y1] at h
        exact h (show ∀ b : Int, (b < x0 ∨ x0 + 2 < b) → (mset (g_278 x0 (mset d x0 0 0)) (x0 + 1) (2 + x1) x2) b = d b from fun b hb => (mset_ne (by omega)).trans ((F1 b (by omega)).trans (mset_ne (by omega)))) hS5
      · exact (show False by omega).elim
def st_294_37 (x0 : Int) (r37 : Int → mD → Int × mD) (x1 : Int) (d : mD) : Int × mD := if x1 < 3116 then r37 (x1 + 1) (mset d (x0 + 1) x1 (d (x0 + 2) ((3116 * (d x0 7)) + x1))) else (d x0 7, d)
def lp_294_37 (x0 : Int) : Nat → Int → mD → Int × mD
  | 0 => st_294_37 x0 (fun _ d => (0, d))
  | n + 1 => st_294_37 x0 (lp_294_37 x0 n)
theorem ls_294_37 {E : mO × tW} {K : tK} {x0 : Int} (hx0 : mdB x0) (N37 : Int) (r37 : Int → mD → Int × mD) (ih37 : ∀ (x1 : Int) (d : mD), Safe d → (0 ≤ x1 ∧ x1 ≤ 3116) → (0 ≤ d x0 7 ∧ d x0 7 ≤ 7) → 0 ≤ 3116 - x1 → 3116 - x1 < N37 → ((∀ b : Int, (b < x0 ∨ x0 + 1 < b) → (r37 x1 d).2 b = d b) → Safe (r37 x1 d).2 → K (.inl (some (0, (r37 x1 d).1))) (r37 x1 d).2) → tRun E 294 (37, [.inr (11, x0), .inl (0, x1)], [], 0, 0, d) K) (x1 : Int) (d : mD) (hS : Safe d) (i0 : 0 ≤ x1 ∧ x1 ≤ 3116) (i1 : 0 ≤ d x0 7 ∧ d x0 7 ≤ 7) (hm : 3116 - x1 ≤ N37) (h : (∀ b : Int, (b < x0 ∨ x0 + 1 < b) → (st_294_37 x0 r37 x1 d).2 b = d b) → Safe (st_294_37 x0 r37 x1 d).2 → K (.inl (some (0, (st_294_37 x0 r37 x1 d).1))) (st_294_37 x0 r37 x1 d).2) : tRun E 294 (37, [.inr (11, x0), .inl (0, x1)], [], 0, 0, d) K := by
  refine t_294_37 ?_
  refine ⟨⟨m_inR (by omega) (by omega), m_inR (by omega) (by omega)⟩, fun c0 => ?_, fun c0 => ?_⟩
  · have q1 := r_11_f7 hS hx0
    have y0 : st_294_37 x0 r37 x1 d = (d x0 7, d) := by simp only [st_294_37, if_neg (show ¬ x1 < 3116 from Int.not_lt.mpr c0)]
    rw [y0] at h
    exact h (show ∀ b : Int, (b < x0 ∨ x0 + 1 < b) → d b = d b from fun _ _ => rfl) hS
  · have q2 := r_11_f7 hS hx0
    refine ⟨by omega, by omega, ?_⟩
    have hS1 : Safe (mset d (x0 + 1) x1 (d (x0 + 2) ((3116 * (d x0 7)) + x1))) := sr_1 hS hx0 (j := ((3116 * (d x0 7)) + x1) % 3116) (by omega) (rr_2 hS hx0 ((3116 * (d x0 7)) + x1))
    have q3 : (mset d (x0 + 1) x1 (d (x0 + 2) ((3116 * (d x0 7)) + x1))) x0 7 = d x0 7 := congrFun (mset_ne (by omega)) 7
    refine ih37 (x1 + 1)  (mset d (x0 + 1) x1 (d (x0 + 2) ((3116 * (d x0 7)) + x1))) hS1 (by omega) (by omega) (by omega) (by omega) ?_
    intro F hS_
    have y0 : st_294_37 x0 r37 x1 d = r37 (x1 + 1) (mset d (x0 + 1) x1 (d (x0 + 2) ((3116 * (d x0 7)) + x1))) := by simp only [st_294_37, if_pos (show x1 < 3116 from c0)]
    rw [y0] at h
    exact h (fun b hb => (F b hb).trans ((show ∀ b : Int, (b < x0 ∨ x0 + 1 < b) → (mset d (x0 + 1) x1 (d (x0 + 2) ((3116 * (d x0 7)) + x1))) b = d b from fun b hb => mset_ne (by omega)) b hb)) hS_
theorem l_294_37 {E : mO × tW} {K : tK} {x0 : Int} (hx0 : mdB x0) : ∀ (n : Nat) (x1 : Int) (d : mD), Safe d → (0 ≤ x1 ∧ x1 ≤ 3116) → (0 ≤ d x0 7 ∧ d x0 7 ≤ 7) → 3116 - x1 ≤ (n : Int) → ((∀ b : Int, (b < x0 ∨ x0 + 1 < b) → (lp_294_37 x0 n x1 d).2 b = d b) → Safe (lp_294_37 x0 n x1 d).2 → K (.inl (some (0, (lp_294_37 x0 n x1 d).1))) (lp_294_37 x0 n x1 d).2) → tRun E 294 (37, [.inr (11, x0), .inl (0, x1)], [], 0, 0, d) K := by
  intro n
  induction n with
  | zero =>
    intro x1  d hS i0 i1 hm  h
    exact ls_294_37 hx0 0 _ (fun _  _ _ _ _ m0 m1 _ => absurd m1 (by omega)) x1  d hS i0 i1 hm  h
  | succ n ih =>
    intro x1  d hS i0 i1 hm  h
    exact ls_294_37 hx0 ((n + 1 : Nat) : Int) _ (fun x1  d hS i0 i1  m0 m1 h => ih x1  d hS i0 i1 (by omega)  h) x1  d hS i0 i1 hm  h
def f_294 (x0 : Int) (d : mD) : Int × mD := if (0 : Int) < d x0 7 then lp_294_37 x0 (3116 - 0 : Int).toNat 0 (mset (mset d x0 0 0) x0 7 ((d x0 7) - 1)) else (0, mset d x0 0 1)
def v_294 (x0 : Int) (d : mD) : Int := (f_294 x0 d).1
def g_294 (x0 : Int) (d : mD) : mD := (f_294 x0 d).2
theorem k_294 {E : mO × tW} {K : tK} {d : mD} {x0 : Int} (hS : Safe d) (hx0 : mdB x0) (h : (∀ b : Int, (b < x0 ∨ x0 + 1 < b) → (g_294 x0 d) b = d b) → Safe (g_294 x0 d) → K (.inl (some (0, (v_294 x0 d)))) (g_294 x0 d)) : tCall E 294 [.inr (11, x0)] d K := by
  simp only [v_294, g_294] at h
  refine t_294_0 ?_
  have w0 := mh_0 hS hx0 _ rfl
  have w7 := mh_7 hS hx0 _ rfl
  have w8 := mh_8 hS hx0 _ rfl
  have w9 := mh_9 hS hx0 _ rfl
  have w10 := mh_10 hS hx0 _ rfl
  have w11 := mh_11 hS hx0 _ rfl
  have q4 := r_11_f7 hS hx0
  refine ⟨m_inR (by omega) (by omega), fun c0 => ?_, fun c0 => ?_⟩
  · have hS2 : Safe (mset d x0 0 1) := s_11_f0 hS hx0 (by omega)
    rw [mset_eq (d := d) (a := x0) (i := (0 : Int)) (v := (1 : Int))]
    refine ⟨m_inR (by omega) (by omega), fun c1 => ?_, fun c1 => ?_⟩
    · exact (show False by omega).elim
    · have y0 : f_294 x0 d = (0, mset d x0 0 1) := by simp only [f_294, if_neg (show ¬ (0 : Int) < d x0 7 from Int.not_lt.mpr c0), if_pos (show (0 : Int) < 1 from c1)]
      rw [y0] at h
      exact h (show ∀ b : Int, (b < x0 ∨ x0 + 1 < b) → (mset d x0 0 1) b = d b from fun b hb => mset_ne (by omega)) hS2
  · have hS3 : Safe (mset d x0 0 0) := s_11_f0 hS hx0 (by omega)
    rw [mset_eq (d := d) (a := x0) (i := (0 : Int)) (v := (0 : Int))]
    refine ⟨m_inR (by omega) (by omega), fun c1 => ?_, fun c1 => ?_⟩
    · rw [mset_ni (d := d) (a := x0) (i := (0 : Int)) (v := (0 : Int)) (b := x0) (j := (7 : Int)) (by omega)]
      have hS4 : Safe (mset (mset d x0 0 0) x0 7 ((d x0 7) - 1)) := s_11_f7 hS3 hx0 (by omega)
      have q5 : (mset (mset d x0 0 0) x0 7 ((d x0 7) - 1)) x0 7 = (d x0 7) - 1 := mset_eq
      refine l_294_37 hx0 (3116 - 0 : Int).toNat 0  (mset (mset d x0 0 0) x0 7 ((d x0 7) - 1)) hS4 (by omega) (by omega) (by omega) ?_
      intro F hS_
      have y0 : f_294 x0 d = lp_294_37 x0 (3116 - 0 : Int).toNat 0 (mset (mset d x0 0 0) x0 7 ((d x0 7) - 1)) := by simp only [f_294, if_pos (show (0 : Int) < d x0 7 from c0), if_neg (show ¬ (0 : Int) < 0 from Int.not_lt.mpr c1)]
      rw [y0] at h
      exact h (fun b hb => (F b hb).trans ((show ∀ b : Int, (b < x0 ∨ x0 + 1 < b) → (mset (mset d x0 0 0) x0 7 ((d x0 7) - 1)) b = d b from fun b hb => (mset_ne (by omega)).trans (mset_ne (by omega))) b hb)) hS_
    · exact (show False by omega).elim
def st_295_29 (x0 x1 : Int) (r29 : Int → mD → mD) (x2 : Int) (d : mD) : mD := if x2 < 3116 then r29 (x2 + 1) (mset d (x0 + 3) ((3116 * x1) + x2) (d (x0 + 1) x2)) else mset d (x0 + 6) x1 1
def lp_295_29 (x0 x1 : Int) : Nat → Int → mD → mD
  | 0 => st_295_29 x0 x1 (fun _ d => d)
  | n + 1 => st_295_29 x0 x1 (lp_295_29 x0 x1 n)
theorem ls_295_29 {E : mO × tW} {K : tK} {x0 x1 : Int} (hx0 : mdB x0) (p1 : -2147483648 ≤ x1 ∧ x1 ≤ 2147483647) (N29 : Int) (r29 : Int → mD → mD) (ih29 : ∀ (x2 : Int) (d : mD), Safe d → (0 ≤ x2 ∧ x2 ≤ 3116) → (0 ≤ x1 ∧ x1 ≤ 1) → 0 ≤ 3116 - x2 → 3116 - x2 < N29 → ((∀ b : Int, (b < x0 ∨ x0 < b) ∧ (b < x0 + 3 ∨ x0 + 3 < b) ∧ (b < x0 + 6 ∨ x0 + 6 < b) → (r29 x2 d) b = d b) → Safe (r29 x2 d) → K (.inl none) (r29 x2 d)) → tRun E 295 (29, [.inr (11, x0), .inl (0, x1), .inl (0, x2)], [], 0, 0, d) K) (x2 : Int) (d : mD) (hS : Safe d) (i0 : 0 ≤ x2 ∧ x2 ≤ 3116) (i1 : 0 ≤ x1 ∧ x1 ≤ 1) (hm : 3116 - x2 ≤ N29) (h : (∀ b : Int, (b < x0 ∨ x0 < b) ∧ (b < x0 + 3 ∨ x0 + 3 < b) ∧ (b < x0 + 6 ∨ x0 + 6 < b) → (st_295_29 x0 x1 r29 x2 d) b = d b) → Safe (st_295_29 x0 x1 r29 x2 d) → K (.inl none) (st_295_29 x0 x1 r29 x2 d)) : tRun E 295 (29, [.inr (11, x0), .inl (0, x1), .inl (0, x2)], [], 0, 0, d) K := by
  refine t_295_29 ?_
  refine ⟨⟨m_inR (by omega) (by omega), m_inR (by omega) (by omega)⟩, fun c0 => ?_, fun c0 => ?_⟩
  · refine ⟨by omega, ?_⟩
    have hS1 : Safe (mset d (x0 + 6) x1 1) := s_11_6 hS hx0 (by omega)
    have y0 : st_295_29 x0 x1 r29 x2 d = mset d (x0 + 6) x1 1 := by simp only [st_295_29, if_neg (show ¬ x2 < 3116 from Int.not_lt.mpr c0)]
    rw [y0] at h
    exact h (show ∀ b : Int, (b < x0 ∨ x0 < b) ∧ (b < x0 + 3 ∨ x0 + 3 < b) ∧ (b < x0 + 6 ∨ x0 + 6 < b) → (mset d (x0 + 6) x1 1) b = d b from fun b hb => mset_ne (by omega)) hS1
  · refine ⟨by omega, by omega, ?_⟩
    have hS2 : Safe (mset d (x0 + 3) ((3116 * x1) + x2) (d (x0 + 1) x2)) := sr_3 hS hx0 (j := x2) (by omega) (rr_1 hS hx0 x2)
    refine ih29 (x2 + 1)  (mset d (x0 + 3) ((3116 * x1) + x2) (d (x0 + 1) x2)) hS2 (by omega) (by omega) (by omega) (by omega) ?_
    intro F hS_
    have y0 : st_295_29 x0 x1 r29 x2 d = r29 (x2 + 1) (mset d (x0 + 3) ((3116 * x1) + x2) (d (x0 + 1) x2)) := by simp only [st_295_29, if_pos (show x2 < 3116 from c0)]
    rw [y0] at h
    exact h (fun b hb => (F b hb).trans ((show ∀ b : Int, (b < x0 ∨ x0 < b) ∧ (b < x0 + 3 ∨ x0 + 3 < b) ∧ (b < x0 + 6 ∨ x0 + 6 < b) → (mset d (x0 + 3) ((3116 * x1) + x2) (d (x0 + 1) x2)) b = d b from fun b hb => mset_ne (by omega)) b hb)) hS_
theorem l_295_29 {E : mO × tW} {K : tK} {x0 x1 : Int} (hx0 : mdB x0) (p1 : -2147483648 ≤ x1 ∧ x1 ≤ 2147483647) : ∀ (n : Nat) (x2 : Int) (d : mD), Safe d → (0 ≤ x2 ∧ x2 ≤ 3116) → (0 ≤ x1 ∧ x1 ≤ 1) → 3116 - x2 ≤ (n : Int) → ((∀ b : Int, (b < x0 ∨ x0 < b) ∧ (b < x0 + 3 ∨ x0 + 3 < b) ∧ (b < x0 + 6 ∨ x0 + 6 < b) → (lp_295_29 x0 x1 n x2 d) b = d b) → Safe (lp_295_29 x0 x1 n x2 d) → K (.inl none) (lp_295_29 x0 x1 n x2 d)) → tRun E 295 (29, [.inr (11, x0), .inl (0, x1), .inl (0, x2)], [], 0, 0, d) K := by
  intro n
  induction n with
  | zero =>
    intro x2  d hS i0 i1 hm  h
    exact ls_295_29 hx0 p1 0 _ (fun _  _ _ _ _ m0 m1 _ => absurd m1 (by omega)) x2  d hS i0 i1 hm  h
  | succ n ih =>
    intro x2  d hS i0 i1 hm  h
    exact ls_295_29 hx0 p1 ((n + 1 : Nat) : Int) _ (fun x2  d hS i0 i1  m0 m1 h => ih x2  d hS i0 i1 (by omega)  h) x2  d hS i0 i1 hm  h
def g_295 (x0 x1 : Int) (d : mD) : mD := if v_176 x1 0 1 d = 0 then mset d x0 0 1 else lp_295_29 x0 x1 (3116 - 0 : Int).toNat 0 (mset d x0 0 0)
theorem k_295 {E : mO × tW} {K : tK} {d : mD} {x0 x1 : Int} (hS : Safe d) (hx0 : mdB x0) (p1 : -2147483648 ≤ x1 ∧ x1 ≤ 2147483647) (h : (∀ b : Int, (b < x0 ∨ x0 < b) ∧ (b < x0 + 3 ∨ x0 + 3 < b) ∧ (b < x0 + 6 ∨ x0 + 6 < b) → (g_295 x0 x1 d) b = d b) → Safe (g_295 x0 x1 d) → K (.inl none) (g_295 x0 x1 d)) : tCall E 295 [.inr (11, x0), .inl (0, x1)] d K := by
  refine t_295_0 ?_
  have w0 := mh_0 hS hx0 _ rfl
  have w7 := mh_7 hS hx0 _ rfl
  have w8 := mh_8 hS hx0 _ rfl
  have w9 := mh_9 hS hx0 _ rfl
  have w10 := mh_10 hS hx0 _ rfl
  have w11 := mh_11 hS hx0 _ rfl
  refine ⟨m_inR (by omega) (by omega), ?_⟩
  refine k_176 hS (m_inR (by omega) (by omega)) (m_inR (by omega) (by omega)) (m_inR (by omega) (by omega)) (fun e1 => ?_)
  refine t_295_8 ?_
  refine ⟨m_inR (by omega) (by omega), fun c0 => ?_, fun c0 => ?_⟩
  · have hS3 : Safe (mset d x0 0 1) := s_11_f0 hS hx0 (by omega)
    rw [mset_eq (d := d) (a := x0) (i := (0 : Int)) (v := (1 : Int))]
    refine ⟨m_inR (by omega) (by omega), fun c1 => ?_, fun c1 => ?_⟩
    · exact (show False by omega).elim
    · have y0 : g_295 x0 x1 d = mset d x0 0 1 := by simp only [g_295, if_pos (show v_176 x1 0 1 d = 0 from c0), if_pos (show (0 : Int) < 1 from c1)]
      rw [y0] at h
      exact h (show ∀ b : Int, (b < x0 ∨ x0 < b) ∧ (b < x0 + 3 ∨ x0 + 3 < b) ∧ (b < x0 + 6 ∨ x0 + 6 < b) → (mset d x0 0 1) b = d b from fun b hb => mset_ne (by omega)) hS3
  · have hS4 : Safe (mset d x0 0 0) := s_11_f0 hS hx0 (by omega)
    rw [mset_eq (d := d) (a := x0) (i := (0 : Int)) (v := (0 : Int))]
    refine ⟨m_inR (by omega) (by omega), fun c1 => ?_, fun c1 => ?_⟩
    · refine l_295_29 hx0 p1 (3116 - 0 : Int).toNat 0  (mset d x0 0 0) hS4 (by omega) (by omega) (by omega) ?_
      intro F hS_
      have y0 : g_295 x0 x1 d = lp_295_29 x0 x1 (3116 - 0 : Int).toNat 0 (mset d x0 0 0) := by simp only [g_295, if_neg (show ¬ v_176 x1 0 1 d = 0 from c0), if_neg (show ¬ (0 : Int) < 0 from Int.not_lt.mpr c1)]
      rw [y0] at h
      exact h (fun b hb => (F b hb).trans ((show ∀ b : Int, (b < x0 ∨ x0 < b) ∧ (b < x0 + 3 ∨ x0 + 3 < b) ∧ (b < x0 + 6 ∨ x0 + 6 < b) → (mset d x0 0 0) b = d b from fun b hb => mset_ne (by omega)) b hb)) hS_
    · exact (show False by omega).elim
def st_296_42 (x0 x1 : Int) (r42 : Int → mD → mD) (x2 : Int) (d : mD) : mD := if x2 < 3116 then r42 (x2 + 1) (mset d (x0 + 1) x2 (d (x0 + 3) ((3116 * x1) + x2))) else mset d x0 7 0
def lp_296_42 (x0 x1 : Int) : Nat → Int → mD → mD
  | 0 => st_296_42 x0 x1 (fun _ d => d)
  | n + 1 => st_296_42 x0 x1 (lp_296_42 x0 x1 n)
theorem ls_296_42 {E : mO × tW} {K : tK} {x0 x1 : Int} (hx0 : mdB x0) (p1 : -2147483648 ≤ x1 ∧ x1 ≤ 2147483647) (N42 : Int) (r42 : Int → mD → mD) (ih42 : ∀ (x2 : Int) (d : mD), Safe d → (0 ≤ x2 ∧ x2 ≤ 3116) → (0 ≤ x1 ∧ x1 ≤ 1) → 0 ≤ 3116 - x2 → 3116 - x2 < N42 → ((∀ b : Int, (b < x0 ∨ x0 + 1 < b) → (r42 x2 d) b = d b) → Safe (r42 x2 d) → K (.inl none) (r42 x2 d)) → tRun E 296 (42, [.inr (11, x0), .inl (0, x1), .inl (0, x2)], [], 0, 0, d) K) (x2 : Int) (d : mD) (hS : Safe d) (i0 : 0 ≤ x2 ∧ x2 ≤ 3116) (i1 : 0 ≤ x1 ∧ x1 ≤ 1) (hm : 3116 - x2 ≤ N42) (h : (∀ b : Int, (b < x0 ∨ x0 + 1 < b) → (st_296_42 x0 x1 r42 x2 d) b = d b) → Safe (st_296_42 x0 x1 r42 x2 d) → K (.inl none) (st_296_42 x0 x1 r42 x2 d)) : tRun E 296 (42, [.inr (11, x0), .inl (0, x1), .inl (0, x2)], [], 0, 0, d) K := by
  refine t_296_42 ?_
  refine ⟨⟨m_inR (by omega) (by omega), m_inR (by omega) (by omega)⟩, fun c0 => ?_, fun c0 => ?_⟩
  · have hS1 : Safe (mset d x0 7 0) := s_11_f7 hS hx0 (by omega)
    have y0 : st_296_42 x0 x1 r42 x2 d = mset d x0 7 0 := by simp only [st_296_42, if_neg (show ¬ x2 < 3116 from Int.not_lt.mpr c0)]
    rw [y0] at h
    exact h (show ∀ b : Int, (b < x0 ∨ x0 + 1 < b) → (mset d x0 7 0) b = d b from fun b hb => mset_ne (by omega)) hS1
  · refine ⟨by omega, by omega, ?_⟩
    have hS2 : Safe (mset d (x0 + 1) x2 (d (x0 + 3) ((3116 * x1) + x2))) := sr_1 hS hx0 (j := ((3116 * x1) + x2) % 3116) (by omega) (rr_3 hS hx0 ((3116 * x1) + x2))
    refine ih42 (x2 + 1)  (mset d (x0 + 1) x2 (d (x0 + 3) ((3116 * x1) + x2))) hS2 (by omega) (by omega) (by omega) (by omega) ?_
    intro F hS_
    have y0 : st_296_42 x0 x1 r42 x2 d = r42 (x2 + 1) (mset d (x0 + 1) x2 (d (x0 + 3) ((3116 * x1) + x2))) := by simp only [st_296_42, if_pos (show x2 < 3116 from c0)]
    rw [y0] at h
    exact h (fun b hb => (F b hb).trans ((show ∀ b : Int, (b < x0 ∨ x0 + 1 < b) → (mset d (x0 + 1) x2 (d (x0 + 3) ((3116 * x1) + x2))) b = d b from fun b hb => mset_ne (by omega)) b hb)) hS_
theorem l_296_42 {E : mO × tW} {K : tK} {x0 x1 : Int} (hx0 : mdB x0) (p1 : -2147483648 ≤ x1 ∧ x1 ≤ 2147483647) : ∀ (n : Nat) (x2 : Int) (d : mD), Safe d → (0 ≤ x2 ∧ x2 ≤ 3116) → (0 ≤ x1 ∧ x1 ≤ 1) → 3116 - x2 ≤ (n : Int) → ((∀ b : Int, (b < x0 ∨ x0 + 1 < b) → (lp_296_42 x0 x1 n x2 d) b = d b) → Safe (lp_296_42 x0 x1 n x2 d) → K (.inl none) (lp_296_42 x0 x1 n x2 d)) → tRun E 296 (42, [.inr (11, x0), .inl (0, x1), .inl (0, x2)], [], 0, 0, d) K := by
  intro n
  induction n with
  | zero =>
    intro x2  d hS i0 i1 hm  h
    exact ls_296_42 hx0 p1 0 _ (fun _  _ _ _ _ m0 m1 _ => absurd m1 (by omega)) x2  d hS i0 i1 hm  h
  | succ n ih =>
    intro x2  d hS i0 i1 hm  h
    exact ls_296_42 hx0 p1 ((n + 1 : Nat) : Int) _ (fun x2  d hS i0 i1  m0 m1 h => ih x2  d hS i0 i1 (by omega)  h) x2  d hS i0 i1 hm  h
def g_296 (x0 x1 : Int) (d : mD) : mD := if v_176 x1 0 1 d = 0 then mset d x0 0 1 else if d (x0 + 6) x1 = 0 then mset d x0 0 2 else lp_296_42 x0 x1 (3116 - 0 : Int).toNat 0 (mset d x0 0 0)
theorem k_296 {E : mO × tW} {K : tK} {d : mD} {x0 x1 : Int} (hS : Safe d) (hx0 : mdB x0) (p1 : -2147483648 ≤ x1 ∧ x1 ≤ 2147483647) (h : (∀ b : Int, (b < x0 ∨ x0 + 1 < b) → (g_296 x0 x1 d) b = d b) → Safe (g_296 x0 x1 d) → K (.inl none) (g_296 x0 x1 d)) : tCall E 296 [.inr (11, x0), .inl (0, x1)] d K := by
  refine t_296_0 ?_
  have w0 := mh_0 hS hx0 _ rfl
  have w7 := mh_7 hS hx0 _ rfl
  have w8 := mh_8 hS hx0 _ rfl
  have w9 := mh_9 hS hx0 _ rfl
  have w10 := mh_10 hS hx0 _ rfl
  have w11 := mh_11 hS hx0 _ rfl
  refine ⟨m_inR (by omega) (by omega), ?_⟩
  refine k_176 hS (m_inR (by omega) (by omega)) (m_inR (by omega) (by omega)) (m_inR (by omega) (by omega)) (fun e1 => ?_)
  refine t_296_8 ?_
  refine ⟨m_inR (by omega) (by omega), fun c0 => ?_, fun c0 => ?_⟩
  · have q1 := r_11_6 hS hx0 x1
    refine ⟨by omega, m_inR (by omega) (by omega), fun c1 => ?_, fun c1 => ?_⟩
    · have hS3 : Safe (mset d x0 0 2) := s_11_f0 hS hx0 (by omega)
      rw [mset_eq (d := d) (a := x0) (i := (0 : Int)) (v := (2 : Int))]
      refine ⟨m_inR (by omega) (by omega), fun c2 => ?_, fun c2 => ?_⟩
      · exact (show False by omega).elim
      · have y0 : g_296 x0 x1 d = mset d x0 0 2 := by simp only [g_296, if_neg (show ¬ v_176 x1 0 1 d = 0 from c0), if_pos (show d (x0 + 6) x1 = 0 from c1), if_pos (show (0 : Int) < 2 from c2)]
        rw [y0] at h
        exact h (show ∀ b : Int, (b < x0 ∨ x0 + 1 < b) → (mset d x0 0 2) b = d b from fun b hb => mset_ne (by omega)) hS3
    · have hS4 : Safe (mset d x0 0 0) := s_11_f0 hS hx0 (by omega)
      rw [mset_eq (d := d) (a := x0) (i := (0 : Int)) (v := (0 : Int))]
      refine ⟨m_inR (by omega) (by omega), fun c2 => ?_, fun c2 => ?_⟩
      · refine l_296_42 hx0 p1 (3116 - 0 : Int).toNat 0  (mset d x0 0 0) hS4 (by omega) (by omega) (by omega) ?_
        intro F hS_
        have y0 : g_296 x0 x1 d = lp_296_42 x0 x1 (3116 - 0 : Int).toNat 0 (mset d x0 0 0) := by simp only [g_296, if_neg (show ¬ v_176 x1 0 1 d = 0 from c0), if_neg (show ¬ d (x0 + 6) x1 = 0 from c1), if_neg (show ¬ (0 : Int) < 0 from Int.not_lt.mpr c2)]
        rw [y0] at h
        exact h (fun b hb => (F b hb).trans ((show ∀ b : Int, (b < x0 ∨ x0 + 1 < b) → (mset d x0 0 0) b = d b from fun b hb => mset_ne (by omega)) b hb)) hS_
      · exact (show False by omega).elim
  · have hS5 : Safe (mset d x0 0 1) := s_11_f0 hS hx0 (by omega)
    rw [mset_eq (d := d) (a := x0) (i := (0 : Int)) (v := (1 : Int))]
    refine ⟨m_inR (by omega) (by omega), fun c1 => ?_, fun c1 => ?_⟩
    · exact (show False by omega).elim
    · have y0 : g_296 x0 x1 d = mset d x0 0 1 := by simp only [g_296, if_pos (show v_176 x1 0 1 d = 0 from c0), if_pos (show (0 : Int) < 1 from c1)]
      rw [y0] at h
      exact h (show ∀ b : Int, (b < x0 ∨ x0 + 1 < b) → (mset d x0 0 1) b = d b from fun b hb => mset_ne (by omega)) hS5
/-! ===== contracts of the reference's methods: printed by a program of mine ===== -/
def g_188 (x0 x1 x2 : Int) (d : mD) : mD := if d x0 13 = 0 then mset (mset (mset d x0 13 1) x0 11 x1) x0 12 x2 else d
theorem k_188 {E : mO × tW} {K : tK} {d : mD} {x0 x1 x2 : Int} (hS : Safe d) (hx0 : mdB x0) (p1 : 0 ≤ x1 ∧ x1 ≤ 6) (p2 : 0 ≤ x2 ∧ x2 ≤ 1000) (h : (∀ b : Int, (b < x0 ∨ x0 < b) → (g_188 x0 x1 x2 d) b = d b) → (g_188 x0 x1 x2 d) x0 9 = d x0 9 → ((g_188 x0 x1 x2 d) x0 13 = 1) → (d x0 10 ≤ (g_188 x0 x1 x2 d) x0 10) → (d x0 13 = 0 ∨ ¬ (g_188 x0 x1 x2 d) x0 13 = 0) → Safe (g_188 x0 x1 x2 d) → K (.inl none) (g_188 x0 x1 x2 d)) : tCall E 188 [.inr (11, x0), .inl (0, x1), .inl (0, x2)] d K := by
  refine t_188_0 ?_
  have q1 := r_11_f13 hS hx0
  refine ⟨m_inR (by omega) (by omega), fun c0 => ?_, fun c0 => ?_⟩
  · have y0 : g_188 x0 x1 x2 d = d := by simp only [g_188, if_neg (show ¬ d x0 13 = 0 from c0)]
    rw [y0] at h
    exact h (show ∀ b : Int, (b < x0 ∨ x0 < b) → d b = d b from fun _ _ => rfl) (show d x0 9 = d x0 9 from rfl) (show d x0 13 = 1 by omega) (show d x0 10 ≤ d x0 10 by omega) (show d x0 13 = 0 ∨ ¬ d x0 13 = 0 by omega) hS
  · refine ⟨by omega, ?_⟩
    have hS1 : Safe (mset d x0 13 1) := s_11_f13 hS hx0 (by omega)
    have hS2 : Safe (mset (mset d x0 13 1) x0 11 x1) := s_11_f11 hS1 hx0 (by omega)
    have hS3 : Safe (mset (mset (mset d x0 13 1) x0 11 x1) x0 12 x2) := s_11_f12 hS2 hx0 (by omega)
    have q2 : (mset (mset (mset d x0 13 1) x0 11 x1) x0 12 x2) x0 13 = 1 := ((mset_ni (by omega)).trans (mset_ni (by omega))).trans (mset_eq)
    have q3 : (mset (mset (mset d x0 13 1) x0 11 x1) x0 12 x2) x0 10 = d x0 10 := ((mset_ni (by omega)).trans (mset_ni (by omega))).trans (mset_ni (by omega))
    have y0 : g_188 x0 x1 x2 d = mset (mset (mset d x0 13 1) x0 11 x1) x0 12 x2 := by simp only [g_188, if_pos (show d x0 13 = 0 from c0)]
    rw [y0] at h
    exact h (show ∀ b : Int, (b < x0 ∨ x0 < b) → (mset (mset (mset d x0 13 1) x0 11 x1) x0 12 x2) b = d b from fun b hb => (mset_ne (by omega)).trans ((mset_ne (by omega)).trans (mset_ne (by omega)))) (show (mset (mset (mset d x0 13 1) x0 11 x1) x0 12 x2) x0 9 = d x0 9 from ((mset_ni (by omega)).trans (mset_ni (by omega))).trans (mset_ni (by omega))) (show (mset (mset (mset d x0 13 1) x0 11 x1) x0 12 x2) x0 13 = 1 by omega) (show d x0 10 ≤ (mset (mset (mset d x0 13 1) x0 11 x1) x0 12 x2) x0 10 by omega) (show d x0 13 = 0 ∨ ¬ (mset (mset (mset d x0 13 1) x0 11 x1) x0 12 x2) x0 13 = 0 by omega) hS3
def st_189_0 (x0 : Int) (r0 : mD → mD) (d : mD) : mD := if d x0 10 < d x0 9 then (if d (x0 + 7) (d x0 10) = 10 then r0 (mset d x0 10 ((d x0 10) + 1)) else if d (x0 + 7) (d x0 10) = 32 then r0 (mset d x0 10 ((d x0 10) + 1)) else d) else d
def lp_189_0 (x0 : Int) : Nat → mD → mD
  | 0 => st_189_0 x0 (fun d => d)
  | n + 1 => st_189_0 x0 (lp_189_0 x0 n)
theorem ls_189_0 {E : mO × tW} {K : tK} {x0 : Int} (hx0 : mdB x0) (N0 : Int) (r0 : mD → mD) (ih0 : ∀ (d : mD), Safe d → 0 ≤ 1000 - d x0 10 → 1000 - d x0 10 < N0 → ((∀ b : Int, (b < x0 ∨ x0 < b) → (r0  d) b = d b) → (r0  d) x0 9 = d x0 9 → (d x0 10 ≤ (r0  d) x0 10) → (d x0 13 = 0 ∨ ¬ (r0  d) x0 13 = 0) → Safe (r0  d) → K (.inl none) (r0  d)) → tRun E 189 (0, [.inr (11, x0)], [], 0, 0, d) K) (d : mD) (hS : Safe d) (hm : 1000 - d x0 10 ≤ N0) (h : (∀ b : Int, (b < x0 ∨ x0 < b) → (st_189_0 x0 r0 d) b = d b) → (st_189_0 x0 r0 d) x0 9 = d x0 9 → (d x0 10 ≤ (st_189_0 x0 r0 d) x0 10) → (d x0 13 = 0 ∨ ¬ (st_189_0 x0 r0 d) x0 13 = 0) → Safe (st_189_0 x0 r0 d) → K (.inl none) (st_189_0 x0 r0 d)) : tRun E 189 (0, [.inr (11, x0)], [], 0, 0, d) K := by
  refine t_189_0 ?_
  have w8 := r_11_f9 hS hx0
  have w9 := r_11_f10 hS hx0
  have q1 := r_11_f10 hS hx0
  have q2 := r_11_f9 hS hx0
  refine ⟨⟨m_inR (by omega) (by omega), m_inR (by omega) (by omega)⟩, fun c0 => ?_, fun c0 => ?_⟩
  · have y0 : st_189_0 x0 r0 d = d := by simp only [st_189_0, if_neg (show ¬ d x0 10 < d x0 9 from Int.not_lt.mpr c0)]
    rw [y0] at h
    exact h (show ∀ b : Int, (b < x0 ∨ x0 < b) → d b = d b from fun _ _ => rfl) (show d x0 9 = d x0 9 from rfl) (show d x0 10 ≤ d x0 10 by omega) (show d x0 13 = 0 ∨ ¬ d x0 13 = 0 by omega) hS
  · have q3 := r_11_7 hS hx0 (d x0 10)
    refine ⟨by omega, ⟨m_inR (by omega) (by omega), m_inR (by omega) (by omega)⟩, fun c1 => ?_, fun c1 => ?_⟩
    · have hS1 : Safe (mset d x0 10 ((d x0 10) + 1)) := s_11_f10 hS hx0 (by omega)
      have q4 := r_11_f10 hS1 hx0
      have q5 : (mset d x0 10 ((d x0 10) + 1)) x0 10 = (d x0 10) + 1 := mset_eq
      refine ih0   (mset d x0 10 ((d x0 10) + 1)) hS1 (by omega) (by omega) ?_
      intro F k0 n0 n1 hS_
      have q6 : (mset d x0 10 ((d x0 10) + 1)) x0 13 = d x0 13 := mset_ni (by omega)
      have y0 : st_189_0 x0 r0 d = r0 (mset d x0 10 ((d x0 10) + 1)) := by simp only [st_189_0, if_pos (show d x0 10 < d x0 9 from c0), if_pos (show d (x0 + 7) (d x0 10) = 10 from c1)]
      rw [y0] at h
      exact h (fun b hb => (F b hb).trans ((show ∀ b : Int, (b < x0 ∨ x0 < b) → (mset d x0 10 ((d x0 10) + 1)) b = d b from fun b hb => mset_ne (by omega)) b hb)) (k0.trans (mset_ni (by omega))) (by omega) (by omega) hS_
    · refine ⟨by omega, ⟨m_inR (by omega) (by omega), m_inR (by omega) (by omega)⟩, fun c2 => ?_, fun c2 => ?_⟩
      · have y0 : st_189_0 x0 r0 d = d := by simp only [st_189_0, if_pos (show d x0 10 < d x0 9 from c0), if_neg (show ¬ d (x0 + 7) (d x0 10) = 10 from c1), if_neg (show ¬ d (x0 + 7) (d x0 10) = 32 from c2)]
        rw [y0] at h
        exact h (show ∀ b : Int, (b < x0 ∨ x0 < b) → d b = d b from fun _ _ => rfl) (show d x0 9 = d x0 9 from rfl) (show d x0 10 ≤ d x0 10 by omega) (show d x0 13 = 0 ∨ ¬ d x0 13 = 0 by omega) hS
      · have hS2 : Safe (mset d x0 10 ((d x0 10) + 1)) := s_11_f10 hS hx0 (by omega)
        have q7 := r_11_f10 hS2 hx0
        have q8 : (mset d x0 10 ((d x0 10) + 1)) x0 10 = (d x0 10) + 1 := mset_eq
        refine ih0   (mset d x0 10 ((d x0 10) + 1)) hS2 (by omega) (by omega) ?_
        intro F k0 n0 n1 hS_
        have q9 : (mset d x0 10 ((d x0 10) + 1)) x0 13 = d x0 13 := mset_ni (by omega)
        have y0 : st_189_0 x0 r0 d = r0 (mset d x0 10 ((d x0 10) + 1)) := by simp only [st_189_0, if_pos (show d x0 10 < d x0 9 from c0), if_neg (show ¬ d (x0 + 7) (d x0 10) = 10 from c1), if_pos (show d (x0 + 7) (d x0 10) = 32 from c2)]
        rw [y0] at h
        exact h (fun b hb => (F b hb).trans ((show ∀ b : Int, (b < x0 ∨ x0 < b) → (mset d x0 10 ((d x0 10) + 1)) b = d b from fun b hb => mset_ne (by omega)) b hb)) (k0.trans (mset_ni (by omega))) (by omega) (by omega) hS_
theorem l_189_0 {E : mO × tW} {K : tK} {x0 : Int} (hx0 : mdB x0) : ∀ (n : Nat) (d : mD), Safe d → 1000 - d x0 10 ≤ (n : Int) → ((∀ b : Int, (b < x0 ∨ x0 < b) → (lp_189_0 x0 n d) b = d b) → (lp_189_0 x0 n d) x0 9 = d x0 9 → (d x0 10 ≤ (lp_189_0 x0 n d) x0 10) → (d x0 13 = 0 ∨ ¬ (lp_189_0 x0 n d) x0 13 = 0) → Safe (lp_189_0 x0 n d) → K (.inl none) (lp_189_0 x0 n d)) → tRun E 189 (0, [.inr (11, x0)], [], 0, 0, d) K := by
  intro n
  induction n with
  | zero =>
    intro   d hS  hm  h
    exact ls_189_0 hx0 0 _ (fun   _ _  m0 m1 _ => absurd m1 (by omega))   d hS  hm  h
  | succ n ih =>
    intro   d hS  hm  h
    exact ls_189_0 hx0 ((n + 1 : Nat) : Int) _ (fun   d hS   m0 m1 h => ih   d hS  (by omega)  h)   d hS  hm  h
def g_189 (x0 : Int) (d : mD) : mD := lp_189_0 x0 (1000 - d x0 10 : Int).toNat d
theorem k_189 {E : mO × tW} {K : tK} {d : mD} {x0 : Int} (hS : Safe d) (hx0 : mdB x0) (h : (∀ b : Int, (b < x0 ∨ x0 < b) → (g_189 x0 d) b = d b) → (g_189 x0 d) x0 9 = d x0 9 → (d x0 10 ≤ (g_189 x0 d) x0 10) → (d x0 13 = 0 ∨ ¬ (g_189 x0 d) x0 13 = 0) → Safe (g_189 x0 d) → K (.inl none) (g_189 x0 d)) : tCall E 189 [.inr (11, x0)] d K := by
  have q10 := r_11_f10 hS hx0
  refine l_189_0 hx0 (1000 - d x0 10 : Int).toNat   d hS (by omega) ?_
  intro F k0 n0 n1 hS_
  have y0 : g_189 x0 d = lp_189_0 x0 (1000 - d x0 10 : Int).toNat d := by simp only [g_189]
  rw [y0] at h
  exact h F k0 (by omega) (by omega) hS_
def v_192 (x0 x1 : Int) (d : mD) : Int := if (g_189 x0 d) x0 10 < d x0 9 then (if d (x0 + 7) ((g_189 x0 d) x0 10) = x1 then 1 else 0) else 0
def g_192 (x0 x1 : Int) (d : mD) : mD := g_189 x0 d
theorem k_192 {E : mO × tW} {K : tK} {d : mD} {x0 x1 : Int} (hS : Safe d) (hx0 : mdB x0) (p1 : -2147483648 ≤ x1 ∧ x1 ≤ 2147483647) (h : (0 ≤ (v_192 x0 x1 d) ∧ (v_192 x0 x1 d) ≤ 1) → (∀ b : Int, (b < x0 ∨ x0 < b) → (g_192 x0 x1 d) b = d b) → (g_192 x0 x1 d) x0 9 = d x0 9 → (d x0 10 ≤ (g_192 x0 x1 d) x0 10) → (d x0 13 = 0 ∨ ¬ (g_192 x0 x1 d) x0 13 = 0) → ((v_192 x0 x1 d) = 0 ∨ (g_192 x0 x1 d) x0 10 < (g_192 x0 x1 d) x0 9) → Safe (g_192 x0 x1 d) → K (.inl (some (0, (v_192 x0 x1 d)))) (g_192 x0 x1 d)) : tCall E 192 [.inr (11, x0), .inl (0, x1)] d K := by
  refine t_192_0 ?_
  have w8 := r_11_f9 hS hx0
  have w9 := r_11_f10 hS hx0
  refine k_189 hS hx0 (fun F1 k1_0 n1_0 n1_1 hS1 => ?_)
  refine t_192_4 ?_
  have w8 := r_11_f9 hS1 hx0
  have w9 := r_11_f10 hS1 hx0
  rw [k1_0]
  have q1 := r_11_f10 hS1 hx0
  have q2 := r_11_f9 hS hx0
  refine ⟨⟨m_inR (by omega) (by omega), m_inR (by omega) (by omega)⟩, fun c0 => ?_, fun c0 => ?_⟩
  · refine ⟨by omega, ?_⟩
    have q3 : (g_189 x0 d) x0 9 = d x0 9 := k1_0
    have y0 : v_192 x0 x1 d = 0 := by simp only [v_192, if_neg (show ¬ (g_189 x0 d) x0 10 < d x0 9 from Int.not_lt.mpr c0)]
    have y1 : g_192 x0 x1 d = g_189 x0 d := by simp only [g_192, if_neg (show ¬ (g_189 x0 d) x0 10 < d x0 9 from Int.not_lt.mpr c0)]
    rw [y0] at h
    rw [y1] at h
    exact h (show 0 ≤ ((0 : Int)) ∧ ((0 : Int)) ≤ 1 from (by omega)) (show ∀ b : Int, (b < x0 ∨ x0 < b) → (g_189 x0 d) b = d b from fun b hb => F1 b (by omega)) (show (g_189 x0 d) x0 9 = d x0 9 from k1_0) (show d x0 10 ≤ (g_189 x0 d) x0 10 by omega) (show d x0 13 = 0 ∨ ¬ (g_189 x0 d) x0 13 = 0 by omega) (show ((0 : Int)) = 0 ∨ (g_189 x0 d) x0 10 < (g_189 x0 d) x0 9 by omega) hS1
  · rw [F1 (x0 + 7) (by omega)]
    have q4 := r_11_7 hS hx0 ((g_189 x0 d) x0 10)
    refine ⟨by omega, ⟨m_inR (by omega) (by omega), m_inR (by omega) (by omega)⟩, fun c1 => ?_, fun c1 => ?_⟩
    · refine ⟨by omega, ?_⟩
      have q5 : (g_189 x0 d) x0 9 = d x0 9 := k1_0
      have y0 : v_192 x0 x1 d = 0 := by simp only [v_192, if_pos (show (g_189 x0 d) x0 10 < d x0 9 from c0), if_neg (show ¬ d (x0 + 7) ((g_189 x0 d) x0 10) = x1 from c1)]
      have y1 : g_192 x0 x1 d = g_189 x0 d := by simp only [g_192, if_pos (show (g_189 x0 d) x0 10 < d x0 9 from c0), if_neg (show ¬ d (x0 + 7) ((g_189 x0 d) x0 10) = x1 from c1)]
      rw [y0] at h
      rw [y1] at h
      exact h (show 0 ≤ ((0 : Int)) ∧ ((0 : Int)) ≤ 1 from (by omega)) (show ∀ b : Int, (b < x0 ∨ x0 < b) → (g_189 x0 d) b = d b from fun b hb => F1 b (by omega)) (show (g_189 x0 d) x0 9 = d x0 9 from k1_0) (show d x0 10 ≤ (g_189 x0 d) x0 10 by omega) (show d x0 13 = 0 ∨ ¬ (g_189 x0 d) x0 13 = 0 by omega) (show ((0 : Int)) = 0 ∨ (g_189 x0 d) x0 10 < (g_189 x0 d) x0 9 by omega) hS1
    · refine ⟨by omega, ?_⟩
      have q6 : (g_189 x0 d) x0 9 = d x0 9 := k1_0
      have y0 : v_192 x0 x1 d = 1 := by simp only [v_192, if_pos (show (g_189 x0 d) x0 10 < d x0 9 from c0), if_pos (show d (x0 + 7) ((g_189 x0 d) x0 10) = x1 from c1)]
      have y1 : g_192 x0 x1 d = g_189 x0 d := by simp only [g_192, if_pos (show (g_189 x0 d) x0 10 < d x0 9 from c0), if_pos (show d (x0 + 7) ((g_189 x0 d) x0 10) = x1 from c1)]
      rw [y0] at h
      rw [y1] at h
      exact h (show 0 ≤ ((1 : Int)) ∧ ((1 : Int)) ≤ 1 from (by omega)) (show ∀ b : Int, (b < x0 ∨ x0 < b) → (g_189 x0 d) b = d b from fun b hb => F1 b (by omega)) (show (g_189 x0 d) x0 9 = d x0 9 from k1_0) (show d x0 10 ≤ (g_189 x0 d) x0 10 by omega) (show d x0 13 = 0 ∨ ¬ (g_189 x0 d) x0 13 = 0 by omega) (show ((1 : Int)) = 0 ∨ (g_189 x0 d) x0 10 < (g_189 x0 d) x0 9 by omega) hS1
def tb27 (k : Int) : Int := 27 ^ k.toNat - 1
theorem tb27_s (k : Int) : (0 ≤ k ∧ tb27 (k + 1) = 27 * tb27 k + 26) ∨ k < 0 := by
  by_cases h : 0 ≤ k
  · left
    refine ⟨h, ?_⟩
    unfold tb27
    rw [show (k + 1).toNat = k.toNat + 1 by omega, Int.pow_succ]
    omega
  · right; omega
theorem tb27_b (k : Int) : (k = 0 ∧ tb27 k = 0) ∨ (1 ≤ k ∧ k ≤ 6 ∧ 0 ≤ tb27 k ∧ tb27 k ≤ 387420488) ∨ (7 ≤ k ∧ k ≤ 8 ∧ 0 ≤ tb27 k ∧ tb27 k ≤ 282429536480) ∨ 8 < k ∨ k < 0 := by
  by_cases h : 0 ≤ k ∧ k ≤ 8
  · have h : k = 0 ∨ k = 1 ∨ k = 2 ∨ k = 3 ∨ k = 4 ∨ k = 5 ∨ k = 6 ∨ k = 7 ∨ k = 8 := by omega
    rcases h with h | h | h | h | h | h | h | h | h <;> subst h <;> decide
  · omega
def st_193_17 (x0 x1 : Int) (r17 : Int → Int → mD → Int × mD) (x2 x4 : Int) (d : mD) : Int × mD := if v_190 x0 (d x0 10) d = 0 then (x2, d) else if x4 < x1 then r17 ((((27 * x2) + (d (x0 + 7) (d x0 10))) - 97) + 1) (x4 + 1) (mset d x0 10 ((d x0 10) + 1)) else r17 ((-1)) (x4 + 1) (mset d x0 10 ((d x0 10) + 1))
def lp_193_17 (x0 x1 : Int) : Nat → Int → Int → mD → Int × mD
  | 0 => st_193_17 x0 x1 (fun _ _ d => (0, d))
  | n + 1 => st_193_17 x0 x1 (lp_193_17 x0 x1 n)
theorem ls_193_17 {E : mO × tW} {K : tK} {x0 x1 : Int} (hx0 : mdB x0) (p1 : 6 ≤ x1 ∧ x1 ≤ 8) (h68 : x1 = 6 ∨ x1 = 8) (N17 : Int) (r17 : Int → Int → mD → Int × mD) (ih17 : ∀ (x2 x4 : Int) (d : mD), Safe d → ((x4 ≤ x1 ∧ 0 ≤ x2 ∧ x2 ≤ tb27 x4) ∨ (x1 < x4 ∧ x2 = -1)) → (0 ≤ x4 ∧ x4 ≤ d x0 10) → 0 ≤ 1000 - d x0 10 → 1000 - d x0 10 < N17 → (((-1 ≤ (r17 x2 x4 d).1 ∧ (r17 x2 x4 d).1 ≤ 282429536480) ∧ (¬ x1 = 6 ∨ (r17 x2 x4 d).1 ≤ 387420488)) → (∀ b : Int, (b < x0 ∨ x0 < b) → (r17 x2 x4 d).2 b = d b) → (r17 x2 x4 d).2 x0 9 = d x0 9 → (d x0 10 ≤ (r17 x2 x4 d).2 x0 10) → (d x0 13 = 0 ∨ ¬ (r17 x2 x4 d).2 x0 13 = 0) → (¬ x4 = 0 ∨ ¬ 1 ≤ (r17 x2 x4 d).1 ∨ d x0 10 < (r17 x2 x4 d).2 x0 10) → Safe (r17 x2 x4 d).2 → K (.inl (some (1, (r17 x2 x4 d).1))) (r17 x2 x4 d).2) → tRun E 193 (17, [.inr (11, x0), .inl (0, x1), .inl (1, x2), tu, .inl (0, x4)], [], 0, 0, d) K) (x2 x4 : Int) (d : mD) (hS : Safe d) (i0 : (x4 ≤ x1 ∧ 0 ≤ x2 ∧ x2 ≤ tb27 x4) ∨ (x1 < x4 ∧ x2 = -1)) (i1 : 0 ≤ x4 ∧ x4 ≤ d x0 10) (hm : 1000 - d x0 10 ≤ N17) (h : ((-1 ≤ (st_193_17 x0 x1 r17 x2 x4 d).1 ∧ (st_193_17 x0 x1 r17 x2 x4 d).1 ≤ 282429536480) ∧ (¬ x1 = 6 ∨ (st_193_17 x0 x1 r17 x2 x4 d).1 ≤ 387420488)) → (∀ b : Int, (b < x0 ∨ x0 < b) → (st_193_17 x0 x1 r17 x2 x4 d).2 b = d b) → (st_193_17 x0 x1 r17 x2 x4 d).2 x0 9 = d x0 9 → (d x0 10 ≤ (st_193_17 x0 x1 r17 x2 x4 d).2 x0 10) → (d x0 13 = 0 ∨ ¬ (st_193_17 x0 x1 r17 x2 x4 d).2 x0 13 = 0) → (¬ x4 = 0 ∨ ¬ 1 ≤ (st_193_17 x0 x1 r17 x2 x4 d).1 ∨ d x0 10 < (st_193_17 x0 x1 r17 x2 x4 d).2 x0 10) → Safe (st_193_17 x0 x1 r17 x2 x4 d).2 → K (.inl (some (1, (st_193_17 x0 x1 r17 x2 x4 d).1))) (st_193_17 x0 x1 r17 x2 x4 d).2) : tRun E 193 (17, [.inr (11, x0), .inl (0, x1), .inl (1, x2), tu, .inl (0, x4)], [], 0, 0, d) K := by
  refine t_193_17 ?_
  have w1 := tb27_s x4
  have w2 := tb27_b x4
  have w8 := r_11_f9 hS hx0
  have w9 := r_11_f10 hS hx0
  have q1 := r_11_f10 hS hx0
  refine k_190 hS hx0 (by omega) (fun e1 => ?_)
  refine t_193_25 ?_
  have w8 := r_11_f9 hS hx0
  have w9 := r_11_f10 hS hx0
  refine ⟨m_inR (by omega) (by omega), fun c0 => ?_, fun c0 => ?_⟩
  · have y0 : st_193_17 x0 x1 r17 x2 x4 d = (x2, d) := by simp only [st_193_17, if_pos (show v_190 x0 (d x0 10) d = 0 from c0)]
    rw [y0] at h
    exact h (show (-1 ≤ x2 ∧ x2 ≤ 282429536480) ∧ (¬ x1 = 6 ∨ x2 ≤ 387420488) from (by omega)) (show ∀ b : Int, (b < x0 ∨ x0 < b) → d b = d b from fun _ _ => rfl) (show d x0 9 = d x0 9 from rfl) (show d x0 10 ≤ d x0 10 by omega) (show d x0 13 = 0 ∨ ¬ d x0 13 = 0 by omega) (show ¬ x4 = 0 ∨ ¬ 1 ≤ x2 ∨ d x0 10 < d x0 10 by omega) hS
  · refine ⟨⟨m_inR (by omega) (by omega), m_inR (by omega) (by omega)⟩, fun c1 => ?_, fun c1 => ?_⟩
    · have hS1 : Safe (mset d x0 10 ((d x0 10) + 1)) := s_11_f10 hS hx0 (by omega)
      have q2 := tb27_b 0
      have q3 : (mset d x0 10 ((d x0 10) + 1)) x0 10 = (d x0 10) + 1 := mset_eq
      refine ih17 ((-1)) (x4 + 1)  (mset d x0 10 ((d x0 10) + 1)) hS1 (by omega) (by omega) (by omega) (by omega) ?_
      intro e F k0 n0 n1 n2 hS_
      have q4 : (mset d x0 10 ((d x0 10) + 1)) x0 13 = d x0 13 := mset_ni (by omega)
      have y0 : st_193_17 x0 x1 r17 x2 x4 d = r17 ((-1)) (x4 + 1) (mset d x0 10 ((d x0 10) + 1)) := by simp only [st_193_17, if_neg (show ¬ v_190 x0 (d x0 10) d = 0 from c0), if_neg (show ¬ x4 < x1 from Int.not_lt.mpr c1)]
      rw [y0] at h
      exact h e (fun b hb => (F b hb).trans ((show ∀ b : Int, (b < x0 ∨ x0 < b) → (mset d x0 10 ((d x0 10) + 1)) b = d b from fun b hb => mset_ne (by omega)) b hb)) (k0.trans (mset_ni (by omega))) (by omega) (by omega) (by omega) hS_
    · have q5 := r_11_7 hS hx0 (d x0 10)
      refine ⟨by omega, m_inR (by omega) (by omega), ?_⟩
      have hS2 : Safe (mset d x0 10 ((d x0 10) + 1)) := s_11_f10 hS hx0 (by omega)
      have q6 := tb27_b 0
      have q7 : (mset d x0 10 ((d x0 10) + 1)) x0 10 = (d x0 10) + 1 := mset_eq
      refine ih17 ((((27 * x2) + (d (x0 + 7) (d x0 10))) - 97) + 1) (x4 + 1)  (mset d x0 10 ((d x0 10) + 1)) hS2 (by omega) (by omega) (by omega) (by omega) ?_
      intro e F k0 n0 n1 n2 hS_
      have q8 : (mset d x0 10 ((d x0 10) + 1)) x0 13 = d x0 13 := mset_ni (by omega)
      have y0 : st_193_17 x0 x1 r17 x2 x4 d = r17 ((((27 * x2) + (d (x0 + 7) (d x0 10))) - 97) + 1) (x4 + 1) (mset d x0 10 ((d x0 10) + 1)) := by simp only [st_193_17, if_neg (show ¬ v_190 x0 (d x0 10) d = 0 from c0), if_pos (show x4 < x1 from c1)]
      rw [y0] at h
      exact h e (fun b hb => (F b hb).trans ((show ∀ b : Int, (b < x0 ∨ x0 < b) → (mset d x0 10 ((d x0 10) + 1)) b = d b from fun b hb => mset_ne (by omega)) b hb)) (k0.trans (mset_ni (by omega))) (by omega) (by omega) (by omega) hS_
theorem l_193_17 {E : mO × tW} {K : tK} {x0 x1 : Int} (hx0 : mdB x0) (p1 : 6 ≤ x1 ∧ x1 ≤ 8) (h68 : x1 = 6 ∨ x1 = 8) : ∀ (n : Nat) (x2 x4 : Int) (d : mD), Safe d → ((x4 ≤ x1 ∧ 0 ≤ x2 ∧ x2 ≤ tb27 x4) ∨ (x1 < x4 ∧ x2 = -1)) → (0 ≤ x4 ∧ x4 ≤ d x0 10) → 1000 - d x0 10 ≤ (n : Int) → (((-1 ≤ (lp_193_17 x0 x1 n x2 x4 d).1 ∧ (lp_193_17 x0 x1 n x2 x4 d).1 ≤ 282429536480) ∧ (¬ x1 = 6 ∨ (lp_193_17 x0 x1 n x2 x4 d).1 ≤ 387420488)) → (∀ b : Int, (b < x0 ∨ x0 < b) → (lp_193_17 x0 x1 n x2 x4 d).2 b = d b) → (lp_193_17 x0 x1 n x2 x4 d).2 x0 9 = d x0 9 → (d x0 10 ≤ (lp_193_17 x0 x1 n x2 x4 d).2 x0 10) → (d x0 13 = 0 ∨ ¬ (lp_193_17 x0 x1 n x2 x4 d).2 x0 13 = 0) → (¬ x4 = 0 ∨ ¬ 1 ≤ (lp_193_17 x0 x1 n x2 x4 d).1 ∨ d x0 10 < (lp_193_17 x0 x1 n x2 x4 d).2 x0 10) → Safe (lp_193_17 x0 x1 n x2 x4 d).2 → K (.inl (some (1, (lp_193_17 x0 x1 n x2 x4 d).1))) (lp_193_17 x0 x1 n x2 x4 d).2) → tRun E 193 (17, [.inr (11, x0), .inl (0, x1), .inl (1, x2), tu, .inl (0, x4)], [], 0, 0, d) K := by
  intro n
  induction n with
  | zero =>
    intro x2 x4  d hS i0 i1 hm  h
    exact ls_193_17 hx0 p1 h68 0 _ (fun _ _  _ _ _ _ m0 m1 _ => absurd m1 (by omega)) x2 x4  d hS i0 i1 hm  h
  | succ n ih =>
    intro x2 x4  d hS i0 i1 hm  h
    exact ls_193_17 hx0 p1 h68 ((n + 1 : Nat) : Int) _ (fun x2 x4  d hS i0 i1  m0 m1 h => ih x2 x4  d hS i0 i1 (by omega)  h) x2 x4  d hS i0 i1 hm  h
def f_193 (x0 x1 : Int) (d : mD) : Int × mD := lp_193_17 x0 x1 (1000 - (mset (g_189 x0 d) x0 16 ((g_189 x0 d) x0 10)) x0 10 : Int).toNat 0 0 (mset (g_189 x0 d) x0 16 ((g_189 x0 d) x0 10))
def v_193 (x0 x1 : Int) (d : mD) : Int := (f_193 x0 x1 d).1
def g_193 (x0 x1 : Int) (d : mD) : mD := (f_193 x0 x1 d).2
theorem k_193 {E : mO × tW} {K : tK} {d : mD} {x0 x1 : Int} (hS : Safe d) (hx0 : mdB x0) (p1 : 6 ≤ x1 ∧ x1 ≤ 8) (h68 : x1 = 6 ∨ x1 = 8) (h : ((-1 ≤ (v_193 x0 x1 d) ∧ (v_193 x0 x1 d) ≤ 282429536480) ∧ (¬ x1 = 6 ∨ (v_193 x0 x1 d) ≤ 387420488)) → (∀ b : Int, (b < x0 ∨ x0 < b) → (g_193 x0 x1 d) b = d b) → (g_193 x0 x1 d) x0 9 = d x0 9 → (d x0 10 ≤ (g_193 x0 x1 d) x0 10) → (d x0 13 = 0 ∨ ¬ (g_193 x0 x1 d) x0 13 = 0) → (¬ 1 ≤ (v_193 x0 x1 d) ∨ d x0 10 < (g_193 x0 x1 d) x0 10) → Safe (g_193 x0 x1 d) → K (.inl (some (1, (v_193 x0 x1 d)))) (g_193 x0 x1 d)) : tCall E 193 [.inr (11, x0), .inl (0, x1)] d K := by
  simp only [v_193, g_193] at h
  refine t_193_0 ?_
  have w8 := r_11_f9 hS hx0
  have w9 := r_11_f10 hS hx0
  refine k_189 hS hx0 (fun F1 k1_0 n1_0 n1_1 hS3 => ?_)
  refine t_193_4 ?_
  have w8 := r_11_f9 hS3 hx0
  have w9 := r_11_f10 hS3 hx0
  have q9 := r_11_f10 hS3 hx0
  have hS4 : Safe (mset (g_189 x0 d) x0 16 ((g_189 x0 d) x0 10)) := s_11_f16 hS3 hx0 (by omega)
  have q10 := tb27_b 0
  have q11 : (mset (g_189 x0 d) x0 16 ((g_189 x0 d) x0 10)) x0 10 = (g_189 x0 d) x0 10 := mset_ni (by omega)
  refine l_193_17 hx0 p1 h68 (1000 - (mset (g_189 x0 d) x0 16 ((g_189 x0 d) x0 10)) x0 10 : Int).toNat 0 0  (mset (g_189 x0 d) x0 16 ((g_189 x0 d) x0 10)) hS4 (by omega) (by omega) (by omega) ?_
  intro e F k0 n0 n1 n2 hS_
  have q12 : (mset (g_189 x0 d) x0 16 ((g_189 x0 d) x0 10)) x0 13 = (g_189 x0 d) x0 13 := mset_ni (by omega)
  have y0 : f_193 x0 x1 d = lp_193_17 x0 x1 (1000 - (mset (g_189 x0 d) x0 16 ((g_189 x0 d) x0 10)) x0 10 : Int).toNat 0 0 (mset (g_189 x0 d) x0 16 ((g_189 x0 d) x0 10)) := by simp only [f_193]
  rw [y0] at h
  exact h e (fun b hb => (F b hb).trans ((show ∀ b : Int, (b < x0 ∨ x0 < b) → (mset (g_189 x0 d) x0 16 ((g_189 x0 d) x0 10)) b = d b from fun b hb => (mset_ne (by omega)).trans (F1 b (by omega))) b hb)) (k0.trans ((mset_ni (by omega)).trans (k1_0))) (by omega) (by omega) (by omega) hS_
/-! ===== contracts of the reference's methods: printed by a program of mine ===== -/
def st_197_28 (x0 x1 x2 : Int) (r28 : Int → mD → Int × mD) (x3 : Int) (d : mD) : Int × mD := if v_191 x0 (d x0 10) d = 0 then (if x3 = 0 then (if (g_188 x0 1 (d x0 15) d) x0 13 = 0 then ((g_188 x0 1 (d x0 15) d) x0 14, g_188 x0 1 (d x0 15) d) else (0, g_188 x0 1 (d x0 15) d)) else if (5 : Int) < x3 then (if (g_188 x0 1 (d x0 15) d) x0 13 = 0 then ((g_188 x0 1 (d x0 15) d) x0 14, g_188 x0 1 (d x0 15) d) else (0, g_188 x0 1 (d x0 15) d)) else if v_176 (d x0 14) x1 x2 d = 0 then (if (g_188 x0 2 (d x0 15) d) x0 13 = 0 then ((g_188 x0 2 (d x0 15) d) x0 14, g_188 x0 2 (d x0 15) d) else (0, g_188 x0 2 (d x0 15) d)) else if d x0 13 = 0 then (d x0 14, d) else (0, d)) else if x3 < 5 then r28 (x3 + 1) (mset (mset d x0 14 (((10 * (d x0 14)) + (d (x0 + 7) (d x0 10))) - 48)) x0 10 ((d x0 10) + 1)) else r28 (x3 + 1) (mset (mset d x0 14 (d x0 14)) x0 10 ((d x0 10) + 1))
def lp_197_28 (x0 x1 x2 : Int) : Nat → Int → mD → Int × mD
  | 0 => st_197_28 x0 x1 x2 (fun _ d => (0, d))
  | n + 1 => st_197_28 x0 x1 x2 (lp_197_28 x0 x1 x2 n)
theorem ls_197_28 {E : mO × tW} {K : tK} {x0 x1 x2 : Int} (hx0 : mdB x0) (p1 : 0 ≤ x1 ∧ x1 ≤ 99999) (p2 : 0 ≤ x2 ∧ x2 ≤ 99999) (N28 : Int) (r28 : Int → mD → Int × mD) (ih28 : ∀ (x3 : Int) (d : mD), Safe d → (0 ≤ x3 ∧ x3 ≤ d x0 10) → (0 ≤ d x0 14 ∧ ((x3 = 0 ∧ d x0 14 ≤ 0) ∨ (x3 = 1 ∧ d x0 14 ≤ 9) ∨ (x3 = 2 ∧ d x0 14 ≤ 99) ∨ (x3 = 3 ∧ d x0 14 ≤ 999) ∨ (x3 = 4 ∧ d x0 14 ≤ 9999) ∨ (5 ≤ x3 ∧ d x0 14 ≤ 99999))) → 0 ≤ 1000 - d x0 10 → 1000 - d x0 10 < N28 → (((0 ≤ (r28 x3 d).1 ∧ (r28 x3 d).1 ≤ x2) ∧ ((r28 x3 d).1 = 0 ∨ x1 ≤ (r28 x3 d).1)) → (∀ b : Int, (b < x0 ∨ x0 < b) → (r28 x3 d).2 b = d b) → (r28 x3 d).2 x0 9 = d x0 9 → (d x0 10 ≤ (r28 x3 d).2 x0 10) → (d x0 13 = 0 ∨ ¬ (r28 x3 d).2 x0 13 = 0) → (¬ (r28 x3 d).2 x0 13 = 0 ∨ (x1 ≤ (r28 x3 d).1 ∧ (r28 x3 d).1 ≤ x2)) → Safe (r28 x3 d).2 → K (.inl (some (0, (r28 x3 d).1))) (r28 x3 d).2) → tRun E 197 (28, [.inr (11, x0), .inl (0, x1), .inl (0, x2), .inl (0, x3)], [], 0, 0, d) K) (x3 : Int) (d : mD) (hS : Safe d) (i0 : 0 ≤ x3 ∧ x3 ≤ d x0 10) (i1 : 0 ≤ d x0 14 ∧ ((x3 = 0 ∧ d x0 14 ≤ 0) ∨ (x3 = 1 ∧ d x0 14 ≤ 9) ∨ (x3 = 2 ∧ d x0 14 ≤ 99) ∨ (x3 = 3 ∧ d x0 14 ≤ 999) ∨ (x3 = 4 ∧ d x0 14 ≤ 9999) ∨ (5 ≤ x3 ∧ d x0 14 ≤ 99999))) (hm : 1000 - d x0 10 ≤ N28) (h : ((0 ≤ (st_197_28 x0 x1 x2 r28 x3 d).1 ∧ (st_197_28 x0 x1 x2 r28 x3 d).1 ≤ x2) ∧ ((st_197_28 x0 x1 x2 r28 x3 d).1 = 0 ∨ x1 ≤ (st_197_28 x0 x1 x2 r28 x3 d).1)) → (∀ b : Int, (b < x0 ∨ x0 < b) → (st_197_28 x0 x1 x2 r28 x3 d).2 b = d b) → (st_197_28 x0 x1 x2 r28 x3 d).2 x0 9 = d x0 9 → (d x0 10 ≤ (st_197_28 x0 x1 x2 r28 x3 d).2 x0 10) → (d x0 13 = 0 ∨ ¬ (st_197_28 x0 x1 x2 r28 x3 d).2 x0 13 = 0) → (¬ (st_197_28 x0 x1 x2 r28 x3 d).2 x0 13 = 0 ∨ (x1 ≤ (st_197_28 x0 x1 x2 r28 x3 d).1 ∧ (st_197_28 x0 x1 x2 r28 x3 d).1 ≤ x2)) → Safe (st_197_28 x0 x1 x2 r28 x3 d).2 → K (.inl (some (0, (st_197_28 x0 x1 x2 r28 x3 d).1))) (st_197_28 x0 x1 x2 r28 x3 d).2) : tRun E 197 (28, [.inr (11, x0), .inl (0, x1), .inl (0, x2), .inl (0, x3)], [], 0, 0, d) K := by
  refine t_197_28 ?_
  have w8 := r_11_f9 hS hx0
  have w9 := r_11_f10 hS hx0
  have q1 := r_11_f10 hS hx0
  refine k_191 hS hx0 (by omega) (fun e1 => ?_)
  refine t_197_36 ?_
  have w8 := r_11_f9 hS hx0
  have w9 := r_11_f10 hS hx0
  refine ⟨m_inR (by omega) (by omega), fun c0 => ?_, fun c0 => ?_⟩
  · refine ⟨m_inR (by omega) (by omega), fun c1 => ?_, fun c1 => ?_⟩
    · have q2 := r_11_f15 hS hx0
      refine k_188 hS hx0 (by omega) (by omega) (fun F1 k1_0 n1_0 n1_1 n1_2 hS1 => ?_)
      refine t_197_109 ?_
      have w8 := r_11_f9 hS1 hx0
      have w9 := r_11_f10 hS1 hx0
      refine t_197_136 ?_
      have w8 := r_11_f9 hS1 hx0
      have w9 := r_11_f10 hS1 hx0
      have q3 := r_11_f13 hS1 hx0
      refine ⟨m_inR (by omega) (by omega), fun c2 => ?_, fun c2 => ?_⟩
      · have q4 := r_11_f14 hS1 hx0
        have y0 : st_197_28 x0 x1 x2 r28 x3 d = ((g_188 x0 1 (d x0 15) d) x0 14, g_188 x0 1 (d x0 15) d) := by simp only [st_197_28, if_pos (show v_191 x0 (d x0 10) d = 0 from c0), if_pos (show x3 = 0 from c1), if_pos (show (g_188 x0 1 (d x0 15) d) x0 13 = 0 from c2)]
        rw [y0] at h
        exact h (show (0 ≤ ((g_188 x0 1 (d x0 15) d) x0 14) ∧ ((g_188 x0 1 (d x0 15) d) x0 14) ≤ x2) ∧ (((g_188 x0 1 (d x0 15) d) x0 14) = 0 ∨ x1 ≤ ((g_188 x0 1 (d x0 15) d) x0 14)) from (by omega)) (show ∀ b : Int, (b < x0 ∨ x0 < b) → (g_188 x0 1 (d x0 15) d) b = d b from fun b hb => F1 b (by omega)) (show (g_188 x0 1 (d x0 15) d) x0 9 = d x0 9 from k1_0) (show d x0 10 ≤ (g_188 x0 1 (d x0 15) d) x0 10 by omega) (show d x0 13 = 0 ∨ ¬ (g_188 x0 1 (d x0 15) d) x0 13 = 0 by omega) (show ¬ (g_188 x0 1 (d x0 15) d) x0 13 = 0 ∨ (x1 ≤ ((g_188 x0 1 (d x0 15) d) x0 14) ∧ ((g_188 x0 1 (d x0 15) d) x0 14) ≤ x2) by omega) hS1
      · have y0 : st_197_28 x0 x1 x2 r28 x3 d = (0, g_188 x0 1 (d x0 15) d) := by simp only [st_197_28, if_pos (show v_191 x0 (d x0 10) d = 0 from c0), if_pos (show x3 = 0 from c1), if_neg (show ¬ (g_188 x0 1 (d x0 15) d) x0 13 = 0 from c2)]
        rw [y0] at h
        exact h (show (0 ≤ ((0 : Int)) ∧ ((0 : Int)) ≤ x2) ∧ (((0 : Int)) = 0 ∨ x1 ≤ ((0 : Int))) from (by omega)) (show ∀ b : Int, (b < x0 ∨ x0 < b) → (g_188 x0 1 (d x0 15) d) b = d b from fun b hb => F1 b (by omega)) (show (g_188 x0 1 (d x0 15) d) x0 9 = d x0 9 from k1_0) (show d x0 10 ≤ (g_188 x0 1 (d x0 15) d) x0 10 by omega) (show d x0 13 = 0 ∨ ¬ (g_188 x0 1 (d x0 15) d) x0 13 = 0 by omega) (show ¬ (g_188 x0 1 (d x0 15) d) x0 13 = 0 ∨ (x1 ≤ ((0 : Int)) ∧ ((0 : Int)) ≤ x2) by omega) hS1
    · refine ⟨⟨m_inR (by omega) (by omega), m_inR (by omega) (by omega)⟩, fun c2 => ?_, fun c2 => ?_⟩
      · have q5 := r_11_f14 hS hx0
        refine ⟨m_inR (by omega) (by omega), m_inR (by omega) (by omega), m_inR (by omega) (by omega), ?_⟩
        refine k_176 hS (m_inR (by omega) (by omega)) (m_inR (by omega) (by omega)) (m_inR (by omega) (by omega)) (fun e2 => ?_)
        refine t_197_124 ?_
        have w8 := r_11_f9 hS hx0
        have w9 := r_11_f10 hS hx0
        refine ⟨m_inR (by omega) (by omega), fun c3 => ?_, fun c3 => ?_⟩
        · refine t_197_136 ?_
          have w8 := r_11_f9 hS hx0
          have w9 := r_11_f10 hS hx0
          have q6 := r_11_f13 hS hx0
          refine ⟨m_inR (by omega) (by omega), fun c4 => ?_, fun c4 => ?_⟩
          · have y0 : st_197_28 x0 x1 x2 r28 x3 d = (d x0 14, d) := by simp only [st_197_28, if_pos (show v_191 x0 (d x0 10) d = 0 from c0), if_neg (show ¬ x3 = 0 from c1), if_neg (show ¬ (5 : Int) < x3 from Int.not_lt.mpr c2), if_neg (show ¬ v_176 (d x0 14) x1 x2 d = 0 from c3), if_pos (show d x0 13 = 0 from c4)]
            rw [y0] at h
            exact h (show (0 ≤ (d x0 14) ∧ (d x0 14) ≤ x2) ∧ ((d x0 14) = 0 ∨ x1 ≤ (d x0 14)) from (by omega)) (show ∀ b : Int, (b < x0 ∨ x0 < b) → d b = d b from fun _ _ => rfl) (show d x0 9 = d x0 9 from rfl) (show d x0 10 ≤ d x0 10 by omega) (show d x0 13 = 0 ∨ ¬ d x0 13 = 0 by omega) (show ¬ d x0 13 = 0 ∨ (x1 ≤ (d x0 14) ∧ (d x0 14) ≤ x2) by omega) hS
          · have y0 : st_197_28 x0 x1 x2 r28 x3 d = (0, d) := by simp only [st_197_28, if_pos (show v_191 x0 (d x0 10) d = 0 from c0), if_neg (show ¬ x3 = 0 from c1), if_neg (show ¬ (5 : Int) < x3 from Int.not_lt.mpr c2), if_neg (show ¬ v_176 (d x0 14) x1 x2 d = 0 from c3), if_neg (show ¬ d x0 13 = 0 from c4)]
            rw [y0] at h
            exact h (show (0 ≤ ((0 : Int)) ∧ ((0 : Int)) ≤ x2) ∧ (((0 : Int)) = 0 ∨ x1 ≤ ((0 : Int))) from (by omega)) (show ∀ b : Int, (b < x0 ∨ x0 < b) → d b = d b from fun _ _ => rfl) (show d x0 9 = d x0 9 from rfl) (show d x0 10 ≤ d x0 10 by omega) (show d x0 13 = 0 ∨ ¬ d x0 13 = 0 by omega) (show ¬ d x0 13 = 0 ∨ (x1 ≤ ((0 : Int)) ∧ ((0 : Int)) ≤ x2) by omega) hS
        · have q7 := r_11_f15 hS hx0
          refine k_188 hS hx0 (by omega) (by omega) (fun F2 k2_0 n2_0 n2_1 n2_2 hS2 => ?_)
          refine t_197_136 ?_
          have w8 := r_11_f9 hS2 hx0
          have w9 := r_11_f10 hS2 hx0
          have q8 := r_11_f13 hS2 hx0
          refine ⟨m_inR (by omega) (by omega), fun c4 => ?_, fun c4 => ?_⟩
          · have q9 := r_11_f14 hS2 hx0
            have y0 : st_197_28 x0 x1 x2 r28 x3 d = ((g_188 x0 2 (d x0 15) d) x0 14, g_188 x0 2 (d x0 15) d) := by simp only [st_197_28, if_pos (show v_191 x0 (d x0 10) d = 0 from c0), if_neg (show ¬ x3 = 0 from c1), if_neg (show ¬ (5 : Int) < x3 from Int.not_lt.mpr c2), if_pos (show v_176 (d x0 14) x1 x2 d = 0 from c3), if_pos (show (g_188 x0 2 (d x0 15) d) x0 13 = 0 from c4)]
            rw [y0] at h
            exact h (show (0 ≤ ((g_188 x0 2 (d x0 15) d) x0 14) ∧ ((g_188 x0 2 (d x0 15) d) x0 14) ≤ x2) ∧ (((g_188 x0 2 (d x0 15) d) x0 14) = 0 ∨ x1 ≤ ((g_188 x0 2 (d x0 15) d) x0 14)) from (by omega)) (show ∀ b : Int, (b < x0 ∨ x0 < b) → (g_188 x0 2 (d x0 15) d) b = d b from fun b hb => F2 b (by omega)) (show (g_188 x0 2 (d x0 15) d) x0 9 = d x0 9 from k2_0) (show d x0 10 ≤ (g_188 x0 2 (d x0 15) d) x0 10 by omega) (show d x0 13 = 0 ∨ ¬ (g_188 x0 2 (d x0 15) d) x0 13 = 0 by omega) (show ¬ (g_188 x0 2 (d x0 15) d) x0 13 = 0 ∨ (x1 ≤ ((g_188 x0 2 (d x0 15) d) x0 14) ∧ ((g_188 x0 2 (d x0 15) d) x0 14) ≤ x2) by omega) hS2
          · have y0 : st_197_28 x0 x1 x2 r28 x3 d = (0, g_188 x0 2 (d x0 15) d) := by simp only [st_197_28, if_pos (show v_191 x0 (d x0 10) d = 0 from c0), if_neg (show ¬ x3 = 0 from c1), if_neg (show ¬ (5 : Int) < x3 from Int.not_lt.mpr c2), if_pos (show v_176 (d x0 14) x1 x2 d = 0 from c3), if_neg (show ¬ (g_188 x0 2 (d x0 15) d) x0 13 = 0 from c4)]
            rw [y0] at h
            exact h (show (0 ≤ ((0 : Int)) ∧ ((0 : Int)) ≤ x2) ∧ (((0 : Int)) = 0 ∨ x1 ≤ ((0 : Int))) from (by omega)) (show ∀ b : Int, (b < x0 ∨ x0 < b) → (g_188 x0 2 (d x0 15) d) b = d b from fun b hb => F2 b (by omega)) (show (g_188 x0 2 (d x0 15) d) x0 9 = d x0 9 from k2_0) (show d x0 10 ≤ (g_188 x0 2 (d x0 15) d) x0 10 by omega) (show d x0 13 = 0 ∨ ¬ (g_188 x0 2 (d x0 15) d) x0 13 = 0 by omega) (show ¬ (g_188 x0 2 (d x0 15) d) x0 13 = 0 ∨ (x1 ≤ ((0 : Int)) ∧ ((0 : Int)) ≤ x2) by omega) hS2
      · have q10 := r_11_f15 hS hx0
        refine k_188 hS hx0 (by omega) (by omega) (fun F3 k3_0 n3_0 n3_1 n3_2 hS3 => ?_)
        refine t_197_109 ?_
        have w8 := r_11_f9 hS3 hx0
        have w9 := r_11_f10 hS3 hx0
        refine t_197_136 ?_
        have w8 := r_11_f9 hS3 hx0
        have w9 := r_11_f10 hS3 hx0
        have q11 := r_11_f13 hS3 hx0
        refine ⟨m_inR (by omega) (by omega), fun c3 => ?_, fun c3 => ?_⟩
        · have q12 := r_11_f14 hS3 hx0
          have y0 : st_197_28 x0 x1 x2 r28 x3 d = ((g_188 x0 1 (d x0 15) d) x0 14, g_188 x0 1 (d x0 15) d) := by simp only [st_197_28, if_pos (show v_191 x0 (d x0 10) d = 0 from c0), if_neg (show ¬ x3 = 0 from c1), if_pos (show (5 : Int) < x3 from c2), if_pos (show (g_188 x0 1 (d x0 15) d) x0 13 = 0 from c3)]
          rw [y0] at h
          exact h (show (0 ≤ ((g_188 x0 1 (d x0 15) d) x0 14) ∧ ((g_188 x0 1 (d x0 15) d) x0 14) ≤ x2) ∧ (((g_188 x0 1 (d x0 15) d) x0 14) = 0 ∨ x1 ≤ ((g_188 x0 1 (d x0 15) d) x0 14)) from (by omega)) (show ∀ b : Int, (b < x0 ∨ x0 < b) → (g_188 x0 1 (d x0 15) d) b = d b from fun b hb => F3 b (by omega)) (show (g_188 x0 1 (d x0 15) d) x0 9 = d x0 9 from k3_0) (show d x0 10 ≤ (g_188 x0 1 (d x0 15) d) x0 10 by omega) (show d x0 13 = 0 ∨ ¬ (g_188 x0 1 (d x0 15) d) x0 13 = 0 by omega) (show ¬ (g_188 x0 1 (d x0 15) d) x0 13 = 0 ∨ (x1 ≤ ((g_188 x0 1 (d x0 15) d) x0 14) ∧ ((g_188 x0 1 (d x0 15) d) x0 14) ≤ x2) by omega) hS3
        · have y0 : st_197_28 x0 x1 x2 r28 x3 d = (0, g_188 x0 1 (d x0 15) d) := by simp only [st_197_28, if_pos (show v_191 x0 (d x0 10) d = 0 from c0), if_neg (show ¬ x3 = 0 from c1), if_pos (show (5 : Int) < x3 from c2), if_neg (show ¬ (g_188 x0 1 (d x0 15) d) x0 13 = 0 from c3)]
          rw [y0] at h
          exact h (show (0 ≤ ((0 : Int)) ∧ ((0 : Int)) ≤ x2) ∧ (((0 : Int)) = 0 ∨ x1 ≤ ((0 : Int))) from (by omega)) (show ∀ b : Int, (b < x0 ∨ x0 < b) → (g_188 x0 1 (d x0 15) d) b = d b from fun b hb => F3 b (by omega)) (show (g_188 x0 1 (d x0 15) d) x0 9 = d x0 9 from k3_0) (show d x0 10 ≤ (g_188 x0 1 (d x0 15) d) x0 10 by omega) (show d x0 13 = 0 ∨ ¬ (g_188 x0 1 (d x0 15) d) x0 13 = 0 by omega) (show ¬ (g_188 x0 1 (d x0 15) d) x0 13 = 0 ∨ (x1 ≤ ((0 : Int)) ∧ ((0 : Int)) ≤ x2) by omega) hS3
  · refine ⟨⟨m_inR (by omega) (by omega), m_inR (by omega) (by omega)⟩, fun c1 => ?_, fun c1 => ?_⟩
    · have q13 := r_11_f14 hS hx0
      have hS4 : Safe (mset d x0 14 (d x0 14)) := s_11_f14 hS hx0 (by omega)
      rw [mset_ni (d := d) (a := x0) (i := (14 : Int)) (v := d x0 14) (b := x0) (j := (10 : Int)) (by omega)]
      have hS5 : Safe (mset (mset d x0 14 (d x0 14)) x0 10 ((d x0 10) + 1)) := s_11_f10 hS4 hx0 (by omega)
      have q14 : (mset (mset d x0 14 (d x0 14)) x0 10 ((d x0 10) + 1)) x0 10 = (d x0 10) + 1 := mset_eq
      have q15 : (mset (mset d x0 14 (d x0 14)) x0 10 ((d x0 10) + 1)) x0 14 = d x0 14 := (mset_ni (by omega)).trans (mset_eq)
      refine ih28 (x3 + 1)  (mset (mset d x0 14 (d x0 14)) x0 10 ((d x0 10) + 1)) hS5 (by omega) (by obtain ⟨z0, z⟩ := i1; rcases z with z | z | z | z | z | z <;> omega) (by omega) (by omega) ?_
      intro e F k0 n0 n1 n2 hS_
      have q16 : (mset (mset d x0 14 (d x0 14)) x0 10 ((d x0 10) + 1)) x0 13 = d x0 13 := (mset_ni (by omega)).trans (mset_ni (by omega))
      have y0 : st_197_28 x0 x1 x2 r28 x3 d = r28 (x3 + 1) (mset (mset d x0 14 (d x0 14)) x0 10 ((d x0 10) + 1)) := by simp only [st_197_28, if_neg (show ¬ v_191 x0 (d x0 10) d = 0 from c0), if_neg (show ¬ x3 < 5 from Int.not_lt.mpr c1)]
      rw [y0] at h
      exact h e (fun b hb => (F b hb).trans ((show ∀ b : Int, (b < x0 ∨ x0 < b) → (mset (mset d x0 14 (d x0 14)) x0 10 ((d x0 10) + 1)) b = d b from fun b hb => (mset_ne (by omega)).trans (mset_ne (by omega))) b hb)) (k0.trans ((mset_ni (by omega)).trans (mset_ni (by omega)))) (by omega) (by omega) (by omega) hS_
    · have q17 := r_11_f14 hS hx0
      have q18 := r_11_7 hS hx0 (d x0 10)
      refine ⟨by omega, ?_⟩
      have hS6 : Safe (mset d x0 14 (((10 * (d x0 14)) + (d (x0 + 7) (d x0 10))) - 48)) := s_11_f14 hS hx0 (by omega)
      rw [mset_ni (d := d) (a := x0) (i := (14 : Int)) (v := ((10 * (d x0 14)) + (d (x0 + 7) (d x0 10))) - 48) (b := x0) (j := (10 : Int)) (by omega)]
      have hS7 : Safe (mset (mset d x0 14 (((10 * (d x0 14)) + (d (x0 + 7) (d x0 10))) - 48)) x0 10 ((d x0 10) + 1)) := s_11_f10 hS6 hx0 (by omega)
      have q19 : (mset (mset d x0 14 (((10 * (d x0 14)) + (d (x0 + 7) (d x0 10))) - 48)) x0 10 ((d x0 10) + 1)) x0 10 = (d x0 10) + 1 := mset_eq
      have q20 : (mset (mset d x0 14 (((10 * (d x0 14)) + (d (x0 + 7) (d x0 10))) - 48)) x0 10 ((d x0 10) + 1)) x0 14 = ((10 * (d x0 14)) + (d (x0 + 7) (d x0 10))) - 48 := (mset_ni (by omega)).trans (mset_eq)
      refine ih28 (x3 + 1)  (mset (mset d x0 14 (((10 * (d x0 14)) + (d (x0 + 7) (d x0 10))) - 48)) x0 10 ((d x0 10) + 1)) hS7 (by omega) (by obtain ⟨z0, z⟩ := i1; rcases z with z | z | z | z | z | z <;> omega) (by omega) (by omega) ?_
      intro e F k0 n0 n1 n2 hS_
      have q21 : (mset (mset d x0 14 (((10 * (d x0 14)) + (d (x0 + 7) (d x0 10))) - 48)) x0 10 ((d x0 10) + 1)) x0 13 = d x0 13 := (mset_ni (by omega)).trans (mset_ni (by omega))
      have y0 : st_197_28 x0 x1 x2 r28 x3 d = r28 (x3 + 1) (mset (mset d x0 14 (((10 * (d x0 14)) + (d (x0 + 7) (d x0 10))) - 48)) x0 10 ((d x0 10) + 1)) := by simp only [st_197_28, if_neg (show ¬ v_191 x0 (d x0 10) d = 0 from c0), if_pos (show x3 < 5 from c1)]
      rw [y0] at h
      exact h e (fun b hb => (F b hb).trans ((show ∀ b : Int, (b < x0 ∨ x0 < b) → (mset (mset d x0 14 (((10 * (d x0 14)) + (d (x0 + 7) (d x0 10))) - 48)) x0 10 ((d x0 10) + 1)) b = d b from fun b hb => (mset_ne (by omega)).trans (mset_ne (by omega))) b hb)) (k0.trans ((mset_ni (by omega)).trans (mset_ni (by omega)))) (by omega) (by omega) (by omega) hS_
theorem l_197_28 {E : mO × tW} {K : tK} {x0 x1 x2 : Int} (hx0 : mdB x0) (p1 : 0 ≤ x1 ∧ x1 ≤ 99999) (p2 : 0 ≤ x2 ∧ x2 ≤ 99999) : ∀ (n : Nat) (x3 : Int) (d : mD), Safe d → (0 ≤ x3 ∧ x3 ≤ d x0 10) → (0 ≤ d x0 14 ∧ ((x3 = 0 ∧ d x0 14 ≤ 0) ∨ (x3 = 1 ∧ d x0 14 ≤ 9) ∨ (x3 = 2 ∧ d x0 14 ≤ 99) ∨ (x3 = 3 ∧ d x0 14 ≤ 999) ∨ (x3 = 4 ∧ d x0 14 ≤ 9999) ∨ (5 ≤ x3 ∧ d x0 14 ≤ 99999))) → 1000 - d x0 10 ≤ (n : Int) → (((0 ≤ (lp_197_28 x0 x1 x2 n x3 d).1 ∧ (lp_197_28 x0 x1 x2 n x3 d).1 ≤ x2) ∧ ((lp_197_28 x0 x1 x2 n x3 d).1 = 0 ∨ x1 ≤ (lp_197_28 x0 x1 x2 n x3 d).1)) → (∀ b : Int, (b < x0 ∨ x0 < b) → (lp_197_28 x0 x1 x2 n x3 d).2 b = d b) → (lp_197_28 x0 x1 x2 n x3 d).2 x0 9 = d x0 9 → (d x0 10 ≤ (lp_197_28 x0 x1 x2 n x3 d).2 x0 10) → (d x0 13 = 0 ∨ ¬ (lp_197_28 x0 x1 x2 n x3 d).2 x0 13 = 0) → (¬ (lp_197_28 x0 x1 x2 n x3 d).2 x0 13 = 0 ∨ (x1 ≤ (lp_197_28 x0 x1 x2 n x3 d).1 ∧ (lp_197_28 x0 x1 x2 n x3 d).1 ≤ x2)) → Safe (lp_197_28 x0 x1 x2 n x3 d).2 → K (.inl (some (0, (lp_197_28 x0 x1 x2 n x3 d).1))) (lp_197_28 x0 x1 x2 n x3 d).2) → tRun E 197 (28, [.inr (11, x0), .inl (0, x1), .inl (0, x2), .inl (0, x3)], [], 0, 0, d) K := by
  intro n
  induction n with
  | zero =>
    intro x3  d hS i0 i1 hm  h
    exact ls_197_28 hx0 p1 p2 0 _ (fun _  _ _ _ _ m0 m1 _ => absurd m1 (by omega)) x3  d hS i0 i1 hm  h
  | succ n ih =>
    intro x3  d hS i0 i1 hm  h
    exact ls_197_28 hx0 p1 p2 ((n + 1 : Nat) : Int) _ (fun x3  d hS i0 i1  m0 m1 h => ih x3  d hS i0 i1 (by omega)  h) x3  d hS i0 i1 hm  h
def f_197 (x0 x1 x2 : Int) (d : mD) : Int × mD := if d x0 13 = 0 then lp_197_28 x0 x1 x2 (1000 - (mset (mset (g_189 x0 d) x0 15 ((g_189 x0 d) x0 10)) x0 14 0) x0 10 : Int).toNat 0 (mset (mset (g_189 x0 d) x0 15 ((g_189 x0 d) x0 10)) x0 14 0) else (0, d)
def v_197 (x0 x1 x2 : Int) (d : mD) : Int := (f_197 x0 x1 x2 d).1
def g_197 (x0 x1 x2 : Int) (d : mD) : mD := (f_197 x0 x1 x2 d).2
theorem k_197 {E : mO × tW} {K : tK} {d : mD} {x0 x1 x2 : Int} (hS : Safe d) (hx0 : mdB x0) (p1 : 0 ≤ x1 ∧ x1 ≤ 99999) (p2 : 0 ≤ x2 ∧ x2 ≤ 99999) (h : ((0 ≤ (v_197 x0 x1 x2 d) ∧ (v_197 x0 x1 x2 d) ≤ x2) ∧ ((v_197 x0 x1 x2 d) = 0 ∨ x1 ≤ (v_197 x0 x1 x2 d))) → (∀ b : Int, (b < x0 ∨ x0 < b) → (g_197 x0 x1 x2 d) b = d b) → (g_197 x0 x1 x2 d) x0 9 = d x0 9 → (d x0 10 ≤ (g_197 x0 x1 x2 d) x0 10) → (d x0 13 = 0 ∨ ¬ (g_197 x0 x1 x2 d) x0 13 = 0) → (¬ (g_197 x0 x1 x2 d) x0 13 = 0 ∨ (x1 ≤ (v_197 x0 x1 x2 d) ∧ (v_197 x0 x1 x2 d) ≤ x2)) → Safe (g_197 x0 x1 x2 d) → K (.inl (some (0, (v_197 x0 x1 x2 d)))) (g_197 x0 x1 x2 d)) : tCall E 197 [.inr (11, x0), .inl (0, x1), .inl (0, x2)] d K := by
  simp only [v_197, g_197] at h
  refine t_197_0 ?_
  have w8 := r_11_f9 hS hx0
  have w9 := r_11_f10 hS hx0
  have q22 := r_11_f13 hS hx0
  refine ⟨m_inR (by omega) (by omega), fun c0 => ?_, fun c0 => ?_⟩
  · refine k_189 hS hx0 (fun F4 k4_0 n4_0 n4_1 hS8 => ?_)
    refine t_197_13 ?_
    have w8 := r_11_f9 hS8 hx0
    have w9 := r_11_f10 hS8 hx0
    have q23 := r_11_f10 hS8 hx0
    have hS9 : Safe (mset (g_189 x0 d) x0 15 ((g_189 x0 d) x0 10)) := s_11_f15 hS8 hx0 (by omega)
    have hS10 : Safe (mset (mset (g_189 x0 d) x0 15 ((g_189 x0 d) x0 10)) x0 14 0) := s_11_f14 hS9 hx0 (by omega)
    have q24 : (mset (mset (g_189 x0 d) x0 15 ((g_189 x0 d) x0 10)) x0 14 0) x0 10 = (g_189 x0 d) x0 10 := (mset_ni (by omega)).trans (mset_ni (by omega))
    have q25 : (mset (mset (g_189 x0 d) x0 15 ((g_189 x0 d) x0 10)) x0 14 0) x0 14 = 0 := mset_eq
    refine l_197_28 hx0 p1 p2 (1000 - (mset (mset (g_189 x0 d) x0 15 ((g_189 x0 d) x0 10)) x0 14 0) x0 10 : Int).toNat 0  (mset (mset (g_189 x0 d) x0 15 ((g_189 x0 d) x0 10)) x0 14 0) hS10 (by omega) (by omega) (by omega) ?_
    intro e F k0 n0 n1 n2 hS_
    have q26 : (mset (mset (g_189 x0 d) x0 15 ((g_189 x0 d) x0 10)) x0 14 0) x0 13 = (g_189 x0 d) x0 13 := (mset_ni (by omega)).trans (mset_ni (by omega))
    have y0 : f_197 x0 x1 x2 d = lp_197_28 x0 x1 x2 (1000 - (mset (mset (g_189 x0 d) x0 15 ((g_189 x0 d) x0 10)) x0 14 0) x0 10 : Int).toNat 0 (mset (mset (g_189 x0 d) x0 15 ((g_189 x0 d) x0 10)) x0 14 0) := by simp only [f_197, if_pos (show d x0 13 = 0 from c0)]
    rw [y0] at h
    exact h e (fun b hb => (F b hb).trans ((show ∀ b : Int, (b < x0 ∨ x0 < b) → (mset (mset (g_189 x0 d) x0 15 ((g_189 x0 d) x0 10)) x0 14 0) b = d b from fun b hb => (mset_ne (by omega)).trans ((mset_ne (by omega)).trans (F4 b (by omega)))) b hb)) (k0.trans (((mset_ni (by omega)).trans (mset_ni (by omega))).trans (k4_0))) (by omega) (by omega) (by omega) hS_
  · have y0 : f_197 x0 x1 x2 d = (0, d) := by simp only [f_197, if_neg (show ¬ d x0 13 = 0 from c0)]
    rw [y0] at h
    exact h (show (0 ≤ ((0 : Int)) ∧ ((0 : Int)) ≤ x2) ∧ (((0 : Int)) = 0 ∨ x1 ≤ ((0 : Int))) from (by omega)) (show ∀ b : Int, (b < x0 ∨ x0 < b) → d b = d b from fun _ _ => rfl) (show d x0 9 = d x0 9 from rfl) (show d x0 10 ≤ d x0 10 by omega) (show d x0 13 = 0 ∨ ¬ d x0 13 = 0 by omega) (show ¬ d x0 13 = 0 ∨ (x1 ≤ ((0 : Int)) ∧ ((0 : Int)) ≤ x2) by omega) hS
/-! ===== contracts of the reference's methods: printed by a program of mine ===== -/
theorem bl_189 {x0 : Int} : ∀ (n : Nat) (d : mD), d x0 9 ≤ 1000 → 1000 - d x0 10 ≤ (n : Int) → (¬ ((lp_189_0 x0 n d) x0 10 < (lp_189_0 x0 n d) x0 9 ∧ ((lp_189_0 x0 n d) (x0 + 7) ((lp_189_0 x0 n d) x0 10) = 10 ∨ (lp_189_0 x0 n d) (x0 + 7) ((lp_189_0 x0 n d) x0 10) = 32))) ∧ (lp_189_0 x0 n d) x0 9 = d x0 9 ∧ (lp_189_0 x0 n d) (x0 + 7) = d (x0 + 7) := by
  intro n
  induction n with
  | zero =>
    intro d h9 hn
    have e : lp_189_0 x0 0 d = d := by
      show st_189_0 x0 _ d = d
      unfold st_189_0
      rw [if_neg (by omega)]
    rw [e]
    exact ⟨fun c => by omega, rfl, rfl⟩
  | succ n ih =>
    intro d h9 hn
    have e1 : (mset d x0 10 (d x0 10 + 1)) x0 9 = d x0 9 := mset_ni (by omega)
    have e2 : (mset d x0 10 (d x0 10 + 1)) (x0 + 7) = d (x0 + 7) := mset_ne (by omega)
    have e3 : (mset d x0 10 (d x0 10 + 1)) x0 10 = d x0 10 + 1 := mset_eq
    have k := ih (mset d x0 10 (d x0 10 + 1)) (by omega) (by omega)
    rw [e1, e2] at k
    have e : lp_189_0 x0 (n + 1) d = if d x0 10 < d x0 9 then (if d (x0 + 7) (d x0 10) = 10 then lp_189_0 x0 n (mset d x0 10 ((d x0 10) + 1)) else if d (x0 + 7) (d x0 10) = 32 then lp_189_0 x0 n (mset d x0 10 ((d x0 10) + 1)) else d) else d := rfl
    rw [e]
    by_cases c : d x0 10 < d x0 9
    · rw [if_pos c]
      by_cases c1 : d (x0 + 7) (d x0 10) = 10
      · rw [if_pos c1]; exact k
      · rw [if_neg c1]
        by_cases c2 : d (x0 + 7) (d x0 10) = 32
        · rw [if_pos c2]; exact k
        · rw [if_neg c2]
          exact ⟨fun z => z.2.elim c1 c2, rfl, rfl⟩
    · rw [if_neg c]
      exact ⟨fun z => c z.1, rfl, rfl⟩
theorem bl_stay {x0 : Int} {d : mD} (h : ¬ (d x0 10 < d x0 9 ∧ (d (x0 + 7) (d x0 10) = 10 ∨ d (x0 + 7) (d x0 10) = 32))) (n : Nat) : lp_189_0 x0 n d = d := by
  have g : ∀ r, st_189_0 x0 r d = d := by
    intro r
    unfold st_189_0
    by_cases c : d x0 10 < d x0 9
    · rw [if_pos c, if_neg (fun z => h ⟨c, Or.inl z⟩), if_neg (fun z => h ⟨c, Or.inr z⟩)]
    · rw [if_neg c]
  cases n with
  | zero => exact g _
  | succ n => exact g _
theorem isn2 {x0 : Int} {d : mD} (h9 : d x0 9 ≤ 1000) : ¬ v_192 x0 59 d = 0 ∨ v_192 x0 59 (g_192 x0 59 d) = 0 := by
  by_cases h : v_192 x0 59 d = 0
  · right
    have k := bl_189 (x0 := x0) (1000 - d x0 10 : Int).toNat d h9 (by omega)
    have e : g_189 x0 (g_189 x0 d) = g_189 x0 d := bl_stay k.1 _
    have k2 : (g_189 x0 d) x0 9 = d x0 9 := k.2.1
    have k3 : (g_189 x0 d) (x0 + 7) = d (x0 + 7) := k.2.2
    unfold v_192 g_192
    rw [e, k2, k3]
    exact h
  · exact Or.inl h
def v_194 (x0 x1 : Int) (d : mD) : Int := if (g_189 x0 d) x0 13 = 0 then (if mcmp (v_193 x0 8 (g_189 x0 d)) x1 = 0 then 1 else 0) else 0
def g_194 (x0 x1 : Int) (d : mD) : mD := if (g_189 x0 d) x0 13 = 0 then (if mcmp (v_193 x0 8 (g_189 x0 d)) x1 = 0 then g_193 x0 8 (g_189 x0 d) else mset (g_193 x0 8 (g_189 x0 d)) x0 10 ((g_189 x0 d) x0 10)) else mset (g_189 x0 d) x0 10 ((g_189 x0 d) x0 10)
theorem k_194 {E : mO × tW} {K : tK} {d : mD} {x0 x1 : Int} (hS : Safe d) (hx0 : mdB x0) (p1 : 1 ≤ x1 ∧ x1 ≤ 282429536480) (h : (0 ≤ (v_194 x0 x1 d) ∧ (v_194 x0 x1 d) ≤ 1) → (∀ b : Int, (b < x0 ∨ x0 < b) → (g_194 x0 x1 d) b = d b) → (g_194 x0 x1 d) x0 9 = d x0 9 → (d x0 10 ≤ (g_194 x0 x1 d) x0 10) → (d x0 13 = 0 ∨ ¬ (g_194 x0 x1 d) x0 13 = 0) → ((v_194 x0 x1 d) = 0 ∨ d x0 10 < (g_194 x0 x1 d) x0 10) → Safe (g_194 x0 x1 d) → K (.inl (some (0, (v_194 x0 x1 d)))) (g_194 x0 x1 d)) : tCall E 194 [.inr (11, x0), .inl (1, x1)] d K := by
  refine t_194_0 ?_
  have w8 := r_11_f9 hS hx0
  have w9 := r_11_f10 hS hx0
  refine k_189 hS hx0 (fun F1 k1_0 n1_0 n1_1 hS1 => ?_)
  refine t_194_4 ?_
  have w8 := r_11_f9 hS1 hx0
  have w9 := r_11_f10 hS1 hx0
  have q1 := r_11_f13 hS1 hx0
  refine ⟨m_inR (by omega) (by omega), fun c0 => ?_, fun c0 => ?_⟩
  · refine ⟨m_inR (by omega) (by omega), fun c1 => ?_, fun c1 => ?_⟩
    · exact (show False by omega).elim
    · have q2 := r_11_f10 hS1 hx0
      have hS2 : Safe (mset (g_189 x0 d) x0 10 ((g_189 x0 d) x0 10)) := s_11_f10 hS1 hx0 (by omega)
      refine ⟨by omega, ?_⟩
      have q3 : (mset (g_189 x0 d) x0 10 ((g_189 x0 d) x0 10)) x0 10 = (g_189 x0 d) x0 10 := mset_eq
      have q4 : (mset (g_189 x0 d) x0 10 ((g_189 x0 d) x0 10)) x0 13 = (g_189 x0 d) x0 13 := mset_ni (by omega)
      have y0 : v_194 x0 x1 d = 0 := by simp only [v_194, if_neg (show ¬ (g_189 x0 d) x0 13 = 0 from c0), if_pos (show (0 : Int) = 0 from c1)]
      have y1 : g_194 x0 x1 d = mset (g_189 x0 d) x0 10 ((g_189 x0 d) x0 10) := by simp only [g_194, if_neg (show ¬ (g_189 x0 d) x0 13 = 0 from c0), if_pos (show (0 : Int) = 0 from c1)]
      rw [y0] at h
      rw [y1] at h
      exact h (show 0 ≤ ((0 : Int)) ∧ ((0 : Int)) ≤ 1 from (by omega)) (show ∀ b : Int, (b < x0 ∨ x0 < b) → (mset (g_189 x0 d) x0 10 ((g_189 x0 d) x0 10)) b = d b from fun b hb => (mset_ne (by omega)).trans (F1 b (by omega))) (show (mset (g_189 x0 d) x0 10 ((g_189 x0 d) x0 10)) x0 9 = d x0 9 from (mset_ni (by omega)).trans (k1_0)) (show d x0 10 ≤ (mset (g_189 x0 d) x0 10 ((g_189 x0 d) x0 10)) x0 10 by omega) (show d x0 13 = 0 ∨ ¬ (mset (g_189 x0 d) x0 10 ((g_189 x0 d) x0 10)) x0 13 = 0 by omega) (show ((0 : Int)) = 0 ∨ d x0 10 < (mset (g_189 x0 d) x0 10 ((g_189 x0 d) x0 10)) x0 10 by omega) hS2
  · refine k_193 hS1 hx0 (by omega) (by omega) (fun e1 F2 k2_0 n2_0 n2_1 n2_2 hS3 => ?_)
    refine t_194_22 ?_
    have w8 := r_11_f9 hS3 hx0
    have w9 := r_11_f10 hS3 hx0
    have q5 := mcmp_r (v_193 x0 8 (g_189 x0 d)) x1
    refine ⟨⟨⟨by omega, by omega⟩, ⟨by omega, by omega⟩⟩, m_inR (by omega) (by omega), fun c1 => ?_, fun c1 => ?_⟩
    · refine ⟨m_inR (by omega) (by omega), fun c2 => ?_, fun c2 => ?_⟩
      · exact (show False by omega).elim
      · have q6 := r_11_f10 hS1 hx0
        have hS4 : Safe (mset (g_193 x0 8 (g_189 x0 d)) x0 10 ((g_189 x0 d) x0 10)) := s_11_f10 hS3 hx0 (by omega)
        refine ⟨by omega, ?_⟩
        have q7 : (mset (g_193 x0 8 (g_189 x0 d)) x0 10 ((g_189 x0 d) x0 10)) x0 10 = (g_189 x0 d) x0 10 := mset_eq
        have q8 : (mset (g_193 x0 8 (g_189 x0 d)) x0 10 ((g_189 x0 d) x0 10)) x0 13 = (g_193 x0 8 (g_189 x0 d)) x0 13 := mset_ni (by omega)
        have y0 : v_194 x0 x1 d = 0 := by simp only [v_194, if_pos (show (g_189 x0 d) x0 13 = 0 from c0), if_neg (show ¬ mcmp (v_193 x0 8 (g_189 x0 d)) x1 = 0 from c1), if_pos (show (0 : Int) = 0 from c2)]
        have y1 : g_194 x0 x1 d = mset (g_193 x0 8 (g_189 x0 d)) x0 10 ((g_189 x0 d) x0 10) := by simp only [g_194, if_pos (show (g_189 x0 d) x0 13 = 0 from c0), if_neg (show ¬ mcmp (v_193 x0 8 (g_189 x0 d)) x1 = 0 from c1), if_pos (show (0 : Int) = 0 from c2)]
        rw [y0] at h
        rw [y1] at h
        exact h (show 0 ≤ ((0 : Int)) ∧ ((0 : Int)) ≤ 1 from (by omega)) (show ∀ b : Int, (b < x0 ∨ x0 < b) → (mset (g_193 x0 8 (g_189 x0 d)) x0 10 ((g_189 x0 d) x0 10)) b = d b from fun b hb => (mset_ne (by omega)).trans ((F2 b (by omega)).trans (F1 b (by omega)))) (show (mset (g_193 x0 8 (g_189 x0 d)) x0 10 ((g_189 x0 d) x0 10)) x0 9 = d x0 9 from ((mset_ni (by omega)).trans (k2_0)).trans (k1_0)) (show d x0 10 ≤ (mset (g_193 x0 8 (g_189 x0 d)) x0 10 ((g_189 x0 d) x0 10)) x0 10 by omega) (show d x0 13 = 0 ∨ ¬ (mset (g_193 x0 8 (g_189 x0 d)) x0 10 ((g_189 x0 d) x0 10)) x0 13 = 0 by omega) (show ((0 : Int)) = 0 ∨ d x0 10 < (mset (g_193 x0 8 (g_189 x0 d)) x0 10 ((g_189 x0 d) x0 10)) x0 10 by omega) hS4
    · refine ⟨m_inR (by omega) (by omega), fun c2 => ?_, fun c2 => ?_⟩
      · refine ⟨by omega, ?_⟩
        have y0 : v_194 x0 x1 d = 1 := by simp only [v_194, if_pos (show (g_189 x0 d) x0 13 = 0 from c0), if_pos (show mcmp (v_193 x0 8 (g_189 x0 d)) x1 = 0 from c1), if_neg (show ¬ (1 : Int) = 0 from c2)]
        have y1 : g_194 x0 x1 d = g_193 x0 8 (g_189 x0 d) := by simp only [g_194, if_pos (show (g_189 x0 d) x0 13 = 0 from c0), if_pos (show mcmp (v_193 x0 8 (g_189 x0 d)) x1 = 0 from c1), if_neg (show ¬ (1 : Int) = 0 from c2)]
        rw [y0] at h
        rw [y1] at h
        exact h (show 0 ≤ ((1 : Int)) ∧ ((1 : Int)) ≤ 1 from (by omega)) (show ∀ b : Int, (b < x0 ∨ x0 < b) → (g_193 x0 8 (g_189 x0 d)) b = d b from fun b hb => (F2 b (by omega)).trans (F1 b (by omega))) (show (g_193 x0 8 (g_189 x0 d)) x0 9 = d x0 9 from (k2_0).trans (k1_0)) (show d x0 10 ≤ (g_193 x0 8 (g_189 x0 d)) x0 10 by omega) (show d x0 13 = 0 ∨ ¬ (g_193 x0 8 (g_189 x0 d)) x0 13 = 0 by omega) (show ((1 : Int)) = 0 ∨ d x0 10 < (g_193 x0 8 (g_189 x0 d)) x0 10 by omega) hS3
      · exact (show False by omega).elim
def g_195 (x0 : Int) (d : mD) : mD := if d x0 13 = 0 then (if v_192 x0 59 d = 0 then g_188 x0 1 ((g_192 x0 59 d) x0 10) (g_192 x0 59 d) else mset (g_192 x0 59 d) x0 10 (((g_192 x0 59 d) x0 10) + 1)) else d
theorem k_195 {E : mO × tW} {K : tK} {d : mD} {x0 : Int} (hS : Safe d) (hx0 : mdB x0) (h : (∀ b : Int, (b < x0 ∨ x0 < b) → (g_195 x0 d) b = d b) → (g_195 x0 d) x0 9 = d x0 9 → (d x0 10 ≤ (g_195 x0 d) x0 10) → (d x0 13 = 0 ∨ ¬ (g_195 x0 d) x0 13 = 0) → (¬ d x0 13 = 0 ∨ ¬ v_192 x0 59 d = 0 ∨ ¬ (g_195 x0 d) x0 13 = 0) → Safe (g_195 x0 d) → K (.inl none) (g_195 x0 d)) : tCall E 195 [.inr (11, x0)] d K := by
  refine t_195_0 ?_
  have w8 := r_11_f9 hS hx0
  have w9 := r_11_f10 hS hx0
  have q1 := r_11_f13 hS hx0
  refine ⟨m_inR (by omega) (by omega), fun c0 => ?_, fun c0 => ?_⟩
  · refine t_195_38 ?_
    have w8 := r_11_f9 hS hx0
    have w9 := r_11_f10 hS hx0
    have y0 : g_195 x0 d = d := by simp only [g_195, if_neg (show ¬ d x0 13 = 0 from c0)]
    rw [y0] at h
    exact h (show ∀ b : Int, (b < x0 ∨ x0 < b) → d b = d b from fun _ _ => rfl) (show d x0 9 = d x0 9 from rfl) (show d x0 10 ≤ d x0 10 by omega) (show d x0 13 = 0 ∨ ¬ d x0 13 = 0 by omega) (show ¬ d x0 13 = 0 ∨ ¬ v_192 x0 59 d = 0 ∨ ¬ d x0 13 = 0 by omega) hS
  · refine k_192 hS hx0 (m_inR (by omega) (by omega)) (fun e1 F1 k1_0 n1_0 n1_1 n1_2 hS1 => ?_)
    refine t_195_13 ?_
    have w8 := r_11_f9 hS1 hx0
    have w9 := r_11_f10 hS1 hx0
    refine ⟨m_inR (by omega) (by omega), fun c1 => ?_, fun c1 => ?_⟩
    · have q2 := r_11_f10 hS1 hx0
      refine k_188 hS1 hx0 (by omega) (by omega) (fun F2 k2_0 n2_0 n2_1 n2_2 hS2 => ?_)
      refine t_195_38 ?_
      have w8 := r_11_f9 hS2 hx0
      have w9 := r_11_f10 hS2 hx0
      have y0 : g_195 x0 d = g_188 x0 1 ((g_192 x0 59 d) x0 10) (g_192 x0 59 d) := by simp only [g_195, if_pos (show d x0 13 = 0 from c0), if_pos (show v_192 x0 59 d = 0 from c1)]
      rw [y0] at h
      exact h (show ∀ b : Int, (b < x0 ∨ x0 < b) → (g_188 x0 1 ((g_192 x0 59 d) x0 10) (g_192 x0 59 d)) b = d b from fun b hb => (F2 b (by omega)).trans (F1 b (by omega))) (show (g_188 x0 1 ((g_192 x0 59 d) x0 10) (g_192 x0 59 d)) x0 9 = d x0 9 from (k2_0).trans (k1_0)) (show d x0 10 ≤ (g_188 x0 1 ((g_192 x0 59 d) x0 10) (g_192 x0 59 d)) x0 10 by omega) (show d x0 13 = 0 ∨ ¬ (g_188 x0 1 ((g_192 x0 59 d) x0 10) (g_192 x0 59 d)) x0 13 = 0 by omega) (show ¬ d x0 13 = 0 ∨ ¬ v_192 x0 59 d = 0 ∨ ¬ (g_188 x0 1 ((g_192 x0 59 d) x0 10) (g_192 x0 59 d)) x0 13 = 0 by omega) hS2
    · have q3 := r_11_f10 hS1 hx0
      have hS3 : Safe (mset (g_192 x0 59 d) x0 10 (((g_192 x0 59 d) x0 10) + 1)) := s_11_f10 hS1 hx0 (by omega)
      refine t_195_38 ?_
      have w8 := r_11_f9 hS3 hx0
      have w9 := r_11_f10 hS3 hx0
      have q4 : (mset (g_192 x0 59 d) x0 10 (((g_192 x0 59 d) x0 10) + 1)) x0 10 = ((g_192 x0 59 d) x0 10) + 1 := mset_eq
      have q5 : (mset (g_192 x0 59 d) x0 10 (((g_192 x0 59 d) x0 10) + 1)) x0 13 = (g_192 x0 59 d) x0 13 := mset_ni (by omega)
      have y0 : g_195 x0 d = mset (g_192 x0 59 d) x0 10 (((g_192 x0 59 d) x0 10) + 1) := by simp only [g_195, if_pos (show d x0 13 = 0 from c0), if_neg (show ¬ v_192 x0 59 d = 0 from c1)]
      rw [y0] at h
      exact h (show ∀ b : Int, (b < x0 ∨ x0 < b) → (mset (g_192 x0 59 d) x0 10 (((g_192 x0 59 d) x0 10) + 1)) b = d b from fun b hb => (mset_ne (by omega)).trans (F1 b (by omega))) (show (mset (g_192 x0 59 d) x0 10 (((g_192 x0 59 d) x0 10) + 1)) x0 9 = d x0 9 from (mset_ni (by omega)).trans (k1_0)) (show d x0 10 ≤ (mset (g_192 x0 59 d) x0 10 (((g_192 x0 59 d) x0 10) + 1)) x0 10 by omega) (show d x0 13 = 0 ∨ ¬ (mset (g_192 x0 59 d) x0 10 (((g_192 x0 59 d) x0 10) + 1)) x0 13 = 0 by omega) (show ¬ d x0 13 = 0 ∨ ¬ v_192 x0 59 d = 0 ∨ ¬ (mset (g_192 x0 59 d) x0 10 (((g_192 x0 59 d) x0 10) + 1)) x0 13 = 0 by omega) hS3
def v_196 (x0 x1 : Int) (d : mD) : Int := if d x0 13 = 0 then (if v_192 x0 59 d = 0 then (if (g_195 x0 (g_192 x0 59 d)) x0 13 = 0 then 1 else 0) else if x1 = 0 then (if (g_195 x0 (g_188 x0 6 ((g_192 x0 59 d) x0 10) (g_192 x0 59 d))) x0 13 = 0 then 1 else 0) else if (g_195 x0 (g_192 x0 59 d)) x0 13 = 0 then 1 else 0) else if (g_195 x0 d) x0 13 = 0 then 1 else 0
def g_196 (x0 x1 : Int) (d : mD) : mD := if d x0 13 = 0 then (if v_192 x0 59 d = 0 then g_195 x0 (g_192 x0 59 d) else if x1 = 0 then g_195 x0 (g_188 x0 6 ((g_192 x0 59 d) x0 10) (g_192 x0 59 d)) else g_195 x0 (g_192 x0 59 d)) else g_195 x0 d
theorem k_196 {E : mO × tW} {K : tK} {d : mD} {x0 x1 : Int} (hS : Safe d) (hx0 : mdB x0) (p1 : 0 ≤ x1 ∧ x1 ≤ 1) (h : ((0 ≤ (v_196 x0 x1 d) ∧ (v_196 x0 x1 d) ≤ 1) ∧ ((v_196 x0 x1 d) = 0 ∨ ¬ x1 = 0)) → (∀ b : Int, (b < x0 ∨ x0 < b) → (g_196 x0 x1 d) b = d b) → (g_196 x0 x1 d) x0 9 = d x0 9 → (d x0 10 ≤ (g_196 x0 x1 d) x0 10) → (d x0 13 = 0 ∨ ¬ (g_196 x0 x1 d) x0 13 = 0) → ((v_196 x0 x1 d) = 0 ∨ (g_196 x0 x1 d) x0 13 = 0) → Safe (g_196 x0 x1 d) → K (.inl (some (0, (v_196 x0 x1 d)))) (g_196 x0 x1 d)) : tCall E 196 [.inr (11, x0), .inl (0, x1)] d K := by
  refine t_196_0 ?_
  have w8 := r_11_f9 hS hx0
  have w9 := r_11_f10 hS hx0
  have w7 := isn2 (x0 := x0) (r_11_f9 hS hx0).2
  have q1 := r_11_f13 hS hx0
  refine ⟨m_inR (by omega) (by omega), fun c0 => ?_, fun c0 => ?_⟩
  · refine t_196_30 ?_
    have w8 := r_11_f9 hS hx0
    have w9 := r_11_f10 hS hx0
    have w7 := isn2 (x0 := x0) (r_11_f9 hS hx0).2
    refine k_195 hS hx0 (fun F1 k1_0 n1_0 n1_1 n1_2 hS1 => ?_)
    refine t_196_34 ?_
    have w8 := r_11_f9 hS1 hx0
    have w9 := r_11_f10 hS1 hx0
    have w7 := isn2 (x0 := x0) (r_11_f9 hS hx0).2
    have q2 := r_11_f13 hS1 hx0
    refine ⟨m_inR (by omega) (by omega), fun c1 => ?_, fun c1 => ?_⟩
    · refine ⟨by omega, ?_⟩
      have y0 : v_196 x0 x1 d = 0 := by simp only [v_196, if_neg (show ¬ d x0 13 = 0 from c0), if_neg (show ¬ (g_195 x0 d) x0 13 = 0 from c1)]
      have y1 : g_196 x0 x1 d = g_195 x0 d := by simp only [g_196, if_neg (show ¬ d x0 13 = 0 from c0), if_neg (show ¬ (g_195 x0 d) x0 13 = 0 from c1)]
      rw [y0] at h
      rw [y1] at h
      exact h (show (0 ≤ ((0 : Int)) ∧ ((0 : Int)) ≤ 1) ∧ (((0 : Int)) = 0 ∨ ¬ x1 = 0) from (by omega)) (show ∀ b : Int, (b < x0 ∨ x0 < b) → (g_195 x0 d) b = d b from fun b hb => F1 b (by omega)) (show (g_195 x0 d) x0 9 = d x0 9 from k1_0) (show d x0 10 ≤ (g_195 x0 d) x0 10 by omega) (show d x0 13 = 0 ∨ ¬ (g_195 x0 d) x0 13 = 0 by omega) (show ((0 : Int)) = 0 ∨ (g_195 x0 d) x0 13 = 0 by omega) hS1
    · refine ⟨by omega, ?_⟩
      have y0 : v_196 x0 x1 d = 1 := by simp only [v_196, if_neg (show ¬ d x0 13 = 0 from c0), if_pos (show (g_195 x0 d) x0 13 = 0 from c1)]
      have y1 : g_196 x0 x1 d = g_195 x0 d := by simp only [g_196, if_neg (show ¬ d x0 13 = 0 from c0), if_pos (show (g_195 x0 d) x0 13 = 0 from c1)]
      rw [y0] at h
      rw [y1] at h
      exact h (show (0 ≤ ((1 : Int)) ∧ ((1 : Int)) ≤ 1) ∧ (((1 : Int)) = 0 ∨ ¬ x1 = 0) from (by omega)) (show ∀ b : Int, (b < x0 ∨ x0 < b) → (g_195 x0 d) b = d b from fun b hb => F1 b (by omega)) (show (g_195 x0 d) x0 9 = d x0 9 from k1_0) (show d x0 10 ≤ (g_195 x0 d) x0 10 by omega) (show d x0 13 = 0 ∨ ¬ (g_195 x0 d) x0 13 = 0 by omega) (show ((1 : Int)) = 0 ∨ (g_195 x0 d) x0 13 = 0 by omega) hS1
  · refine k_192 hS hx0 (m_inR (by omega) (by omega)) (fun e1 F2 k2_0 n2_0 n2_1 n2_2 hS2 => ?_)
    refine t_196_13 ?_
    have w8 := r_11_f9 hS2 hx0
    have w9 := r_11_f10 hS2 hx0
    have w7 := isn2 (x0 := x0) (r_11_f9 hS hx0).2
    refine ⟨m_inR (by omega) (by omega), fun c1 => ?_, fun c1 => ?_⟩
    · refine t_196_30 ?_
      have w8 := r_11_f9 hS2 hx0
      have w9 := r_11_f10 hS2 hx0
      have w7 := isn2 (x0 := x0) (r_11_f9 hS hx0).2
      refine k_195 hS2 hx0 (fun F3 k3_0 n3_0 n3_1 n3_2 hS3 => ?_)
      refine t_196_34 ?_
      have w8 := r_11_f9 hS3 hx0
      have w9 := r_11_f10 hS3 hx0
      have w7 := isn2 (x0 := x0) (r_11_f9 hS hx0).2
      have q3 := r_11_f13 hS3 hx0
      refine ⟨m_inR (by omega) (by omega), fun c2 => ?_, fun c2 => ?_⟩
      · refine ⟨by omega, ?_⟩
        have y0 : v_196 x0 x1 d = 0 := by simp only [v_196, if_pos (show d x0 13 = 0 from c0), if_pos (show v_192 x0 59 d = 0 from c1), if_neg (show ¬ (g_195 x0 (g_192 x0 59 d)) x0 13 = 0 from c2)]
        have y1 : g_196 x0 x1 d = g_195 x0 (g_192 x0 59 d) := by simp only [g_196, if_pos (show d x0 13 = 0 from c0), if_pos (show v_192 x0 59 d = 0 from c1), if_neg (show ¬ (g_195 x0 (g_192 x0 59 d)) x0 13 = 0 from c2)]
        rw [y0] at h
        rw [y1] at h
        exact h (show (0 ≤ ((0 : Int)) ∧ ((0 : Int)) ≤ 1) ∧ (((0 : Int)) = 0 ∨ ¬ x1 = 0) from (by omega)) (show ∀ b : Int, (b < x0 ∨ x0 < b) → (g_195 x0 (g_192 x0 59 d)) b = d b from fun b hb => (F3 b (by omega)).trans (F2 b (by omega))) (show (g_195 x0 (g_192 x0 59 d)) x0 9 = d x0 9 from (k3_0).trans (k2_0)) (show d x0 10 ≤ (g_195 x0 (g_192 x0 59 d)) x0 10 by omega) (show d x0 13 = 0 ∨ ¬ (g_195 x0 (g_192 x0 59 d)) x0 13 = 0 by omega) (show ((0 : Int)) = 0 ∨ (g_195 x0 (g_192 x0 59 d)) x0 13 = 0 by omega) hS3
      · refine ⟨by omega, ?_⟩
        have y0 : v_196 x0 x1 d = 1 := by simp only [v_196, if_pos (show d x0 13 = 0 from c0), if_pos (show v_192 x0 59 d = 0 from c1), if_pos (show (g_195 x0 (g_192 x0 59 d)) x0 13 = 0 from c2)]
        have y1 : g_196 x0 x1 d = g_195 x0 (g_192 x0 59 d) := by simp only [g_196, if_pos (show d x0 13 = 0 from c0), if_pos (show v_192 x0 59 d = 0 from c1), if_pos (show (g_195 x0 (g_192 x0 59 d)) x0 13 = 0 from c2)]
        rw [y0] at h
        rw [y1] at h
        exact h (show (0 ≤ ((1 : Int)) ∧ ((1 : Int)) ≤ 1) ∧ (((1 : Int)) = 0 ∨ ¬ x1 = 0) from (by omega)) (show ∀ b : Int, (b < x0 ∨ x0 < b) → (g_195 x0 (g_192 x0 59 d)) b = d b from fun b hb => (F3 b (by omega)).trans (F2 b (by omega))) (show (g_195 x0 (g_192 x0 59 d)) x0 9 = d x0 9 from (k3_0).trans (k2_0)) (show d x0 10 ≤ (g_195 x0 (g_192 x0 59 d)) x0 10 by omega) (show d x0 13 = 0 ∨ ¬ (g_195 x0 (g_192 x0 59 d)) x0 13 = 0 by omega) (show ((1 : Int)) = 0 ∨ (g_195 x0 (g_192 x0 59 d)) x0 13 = 0 by omega) hS3
    · refine ⟨m_inR (by omega) (by omega), fun c2 => ?_, fun c2 => ?_⟩
      · refine t_196_30 ?_
        have w8 := r_11_f9 hS2 hx0
        have w9 := r_11_f10 hS2 hx0
        have w7 := isn2 (x0 := x0) (r_11_f9 hS hx0).2
        refine k_195 hS2 hx0 (fun F4 k4_0 n4_0 n4_1 n4_2 hS4 => ?_)
        refine t_196_34 ?_
        have w8 := r_11_f9 hS4 hx0
        have w9 := r_11_f10 hS4 hx0
        have w7 := isn2 (x0 := x0) (r_11_f9 hS hx0).2
        have q4 := r_11_f13 hS4 hx0
        refine ⟨m_inR (by omega) (by omega), fun c3 => ?_, fun c3 => ?_⟩
        · refine ⟨by omega, ?_⟩
          have y0 : v_196 x0 x1 d = 0 := by simp only [v_196, if_pos (show d x0 13 = 0 from c0), if_neg (show ¬ v_192 x0 59 d = 0 from c1), if_neg (show ¬ x1 = 0 from c2), if_neg (show ¬ (g_195 x0 (g_192 x0 59 d)) x0 13 = 0 from c3)]
          have y1 : g_196 x0 x1 d = g_195 x0 (g_192 x0 59 d) := by simp only [g_196, if_pos (show d x0 13 = 0 from c0), if_neg (show ¬ v_192 x0 59 d = 0 from c1), if_neg (show ¬ x1 = 0 from c2), if_neg (show ¬ (g_195 x0 (g_192 x0 59 d)) x0 13 = 0 from c3)]
          rw [y0] at h
          rw [y1] at h
          exact h (show (0 ≤ ((0 : Int)) ∧ ((0 : Int)) ≤ 1) ∧ (((0 : Int)) = 0 ∨ ¬ x1 = 0) from (by omega)) (show ∀ b : Int, (b < x0 ∨ x0 < b) → (g_195 x0 (g_192 x0 59 d)) b = d b from fun b hb => (F4 b (by omega)).trans (F2 b (by omega))) (show (g_195 x0 (g_192 x0 59 d)) x0 9 = d x0 9 from (k4_0).trans (k2_0)) (show d x0 10 ≤ (g_195 x0 (g_192 x0 59 d)) x0 10 by omega) (show d x0 13 = 0 ∨ ¬ (g_195 x0 (g_192 x0 59 d)) x0 13 = 0 by omega) (show ((0 : Int)) = 0 ∨ (g_195 x0 (g_192 x0 59 d)) x0 13 = 0 by omega) hS4
        · refine ⟨by omega, ?_⟩
          have y0 : v_196 x0 x1 d = 1 := by simp only [v_196, if_pos (show d x0 13 = 0 from c0), if_neg (show ¬ v_192 x0 59 d = 0 from c1), if_neg (show ¬ x1 = 0 from c2), if_pos (show (g_195 x0 (g_192 x0 59 d)) x0 13 = 0 from c3)]
          have y1 : g_196 x0 x1 d = g_195 x0 (g_192 x0 59 d) := by simp only [g_196, if_pos (show d x0 13 = 0 from c0), if_neg (show ¬ v_192 x0 59 d = 0 from c1), if_neg (show ¬ x1 = 0 from c2), if_pos (show (g_195 x0 (g_192 x0 59 d)) x0 13 = 0 from c3)]
          rw [y0] at h
          rw [y1] at h
          exact h (show (0 ≤ ((1 : Int)) ∧ ((1 : Int)) ≤ 1) ∧ (((1 : Int)) = 0 ∨ ¬ x1 = 0) from (by omega)) (show ∀ b : Int, (b < x0 ∨ x0 < b) → (g_195 x0 (g_192 x0 59 d)) b = d b from fun b hb => (F4 b (by omega)).trans (F2 b (by omega))) (show (g_195 x0 (g_192 x0 59 d)) x0 9 = d x0 9 from (k4_0).trans (k2_0)) (show d x0 10 ≤ (g_195 x0 (g_192 x0 59 d)) x0 10 by omega) (show d x0 13 = 0 ∨ ¬ (g_195 x0 (g_192 x0 59 d)) x0 13 = 0 by omega) (show ((1 : Int)) = 0 ∨ (g_195 x0 (g_192 x0 59 d)) x0 13 = 0 by omega) hS4
      · have q5 := r_11_f10 hS2 hx0
        refine k_188 hS2 hx0 (by omega) (by omega) (fun F5 k5_0 n5_0 n5_1 n5_2 hS5 => ?_)
        refine t_196_30 ?_
        have w8 := r_11_f9 hS5 hx0
        have w9 := r_11_f10 hS5 hx0
        have w7 := isn2 (x0 := x0) (r_11_f9 hS hx0).2
        refine k_195 hS5 hx0 (fun F6 k6_0 n6_0 n6_1 n6_2 hS6 => ?_)
        refine t_196_34 ?_
        have w8 := r_11_f9 hS6 hx0
        have w9 := r_11_f10 hS6 hx0
        have w7 := isn2 (x0 := x0) (r_11_f9 hS hx0).2
        have q6 := r_11_f13 hS6 hx0
        refine ⟨m_inR (by omega) (by omega), fun c3 => ?_, fun c3 => ?_⟩
        · refine ⟨by omega, ?_⟩
          have y0 : v_196 x0 x1 d = 0 := by simp only [v_196, if_pos (show d x0 13 = 0 from c0), if_neg (show ¬ v_192 x0 59 d = 0 from c1), if_pos (show x1 = 0 from c2), if_neg (show ¬ (g_195 x0 (g_188 x0 6 ((g_192 x0 59 d) x0 10) (g_192 x0 59 d))) x0 13 = 0 from c3)]
          have y1 : g_196 x0 x1 d = g_195 x0 (g_188 x0 6 ((g_192 x0 59 d) x0 10) (g_192 x0 59 d)) := by simp only [g_196, if_pos (show d x0 13 = 0 from c0), if_neg (show ¬ v_192 x0 59 d = 0 from c1), if_pos (show x1 = 0 from c2), if_neg (show ¬ (g_195 x0 (g_188 x0 6 ((g_192 x0 59 d) x0 10) (g_192 x0 59 d))) x0 13 = 0 from c3)]
          rw [y0] at h
          rw [y1] at h
          exact h (show (0 ≤ ((0 : Int)) ∧ ((0 : Int)) ≤ 1) ∧ (((0 : Int)) = 0 ∨ ¬ x1 = 0) from (by omega)) (show ∀ b : Int, (b < x0 ∨ x0 < b) → (g_195 x0 (g_188 x0 6 ((g_192 x0 59 d) x0 10) (g_192 x0 59 d))) b = d b from fun b hb => (F6 b (by omega)).trans ((F5 b (by omega)).trans (F2 b (by omega)))) (show (g_195 x0 (g_188 x0 6 ((g_192 x0 59 d) x0 10) (g_192 x0 59 d))) x0 9 = d x0 9 from ((k6_0).trans (k5_0)).trans (k2_0)) (show d x0 10 ≤ (g_195 x0 (g_188 x0 6 ((g_192 x0 59 d) x0 10) (g_192 x0 59 d))) x0 10 by omega) (show d x0 13 = 0 ∨ ¬ (g_195 x0 (g_188 x0 6 ((g_192 x0 59 d) x0 10) (g_192 x0 59 d))) x0 13 = 0 by omega) (show ((0 : Int)) = 0 ∨ (g_195 x0 (g_188 x0 6 ((g_192 x0 59 d) x0 10) (g_192 x0 59 d))) x0 13 = 0 by omega) hS6
        · refine ⟨by omega, ?_⟩
          have y0 : v_196 x0 x1 d = 1 := by simp only [v_196, if_pos (show d x0 13 = 0 from c0), if_neg (show ¬ v_192 x0 59 d = 0 from c1), if_pos (show x1 = 0 from c2), if_pos (show (g_195 x0 (g_188 x0 6 ((g_192 x0 59 d) x0 10) (g_192 x0 59 d))) x0 13 = 0 from c3)]
          have y1 : g_196 x0 x1 d = g_195 x0 (g_188 x0 6 ((g_192 x0 59 d) x0 10) (g_192 x0 59 d)) := by simp only [g_196, if_pos (show d x0 13 = 0 from c0), if_neg (show ¬ v_192 x0 59 d = 0 from c1), if_pos (show x1 = 0 from c2), if_pos (show (g_195 x0 (g_188 x0 6 ((g_192 x0 59 d) x0 10) (g_192 x0 59 d))) x0 13 = 0 from c3)]
          rw [y0] at h
          rw [y1] at h
          exact h (show (0 ≤ ((1 : Int)) ∧ ((1 : Int)) ≤ 1) ∧ (((1 : Int)) = 0 ∨ ¬ x1 = 0) from (by omega)) (show ∀ b : Int, (b < x0 ∨ x0 < b) → (g_195 x0 (g_188 x0 6 ((g_192 x0 59 d) x0 10) (g_192 x0 59 d))) b = d b from fun b hb => (F6 b (by omega)).trans ((F5 b (by omega)).trans (F2 b (by omega)))) (show (g_195 x0 (g_188 x0 6 ((g_192 x0 59 d) x0 10) (g_192 x0 59 d))) x0 9 = d x0 9 from ((k6_0).trans (k5_0)).trans (k2_0)) (show d x0 10 ≤ (g_195 x0 (g_188 x0 6 ((g_192 x0 59 d) x0 10) (g_192 x0 59 d))) x0 10 by omega) (show d x0 13 = 0 ∨ ¬ (g_195 x0 (g_188 x0 6 ((g_192 x0 59 d) x0 10) (g_192 x0 59 d))) x0 13 = 0 by omega) (show ((1 : Int)) = 0 ∨ (g_195 x0 (g_188 x0 6 ((g_192 x0 59 d) x0 10) (g_192 x0 59 d))) x0 13 = 0 by omega) hS6
def v_198 (x0 : Int) (d : mD) : Int := if d x0 13 = 0 then (if (0 : Int) < mcmp (v_193 x0 6 d) 0 then (if (g_193 x0 6 d) x0 13 = 0 then v_193 x0 6 d else 0) else if (g_188 x0 1 ((g_193 x0 6 d) x0 16) (g_193 x0 6 d)) x0 13 = 0 then v_193 x0 6 d else 0) else 0
def g_198 (x0 : Int) (d : mD) : mD := if d x0 13 = 0 then (if (0 : Int) < mcmp (v_193 x0 6 d) 0 then g_193 x0 6 d else g_188 x0 1 ((g_193 x0 6 d) x0 16) (g_193 x0 6 d)) else d
theorem k_198 {E : mO × tW} {K : tK} {d : mD} {x0 : Int} (hS : Safe d) (hx0 : mdB x0) (h : (0 ≤ (v_198 x0 d) ∧ (v_198 x0 d) ≤ 387420488) → (∀ b : Int, (b < x0 ∨ x0 < b) → (g_198 x0 d) b = d b) → (g_198 x0 d) x0 9 = d x0 9 → (d x0 10 ≤ (g_198 x0 d) x0 10) → (d x0 13 = 0 ∨ ¬ (g_198 x0 d) x0 13 = 0) → Safe (g_198 x0 d) → K (.inl (some (0, (v_198 x0 d)))) (g_198 x0 d)) : tCall E 198 [.inr (11, x0)] d K := by
  refine t_198_0 ?_
  have w8 := r_11_f9 hS hx0
  have w9 := r_11_f10 hS hx0
  have q1 := r_11_f13 hS hx0
  refine ⟨m_inR (by omega) (by omega), fun c0 => ?_, fun c0 => ?_⟩
  · refine k_193 hS hx0 (by omega) (by omega) (fun e1 F1 k1_0 n1_0 n1_1 n1_2 hS1 => ?_)
    refine t_198_15 ?_
    have w8 := r_11_f9 hS1 hx0
    have w9 := r_11_f10 hS1 hx0
    have q2 := mcmp_r (v_193 x0 6 d) 0
    refine ⟨⟨⟨by omega, by omega⟩, ⟨by omega, by omega⟩⟩, m_inR (by omega) (by omega), fun c1 => ?_, fun c1 => ?_⟩
    · refine t_198_31 ?_
      have w8 := r_11_f9 hS1 hx0
      have w9 := r_11_f10 hS1 hx0
      have q3 := r_11_f13 hS1 hx0
      refine ⟨m_inR (by omega) (by omega), fun c2 => ?_, fun c2 => ?_⟩
      · have y0 : v_198 x0 d = v_193 x0 6 d := by simp only [v_198, if_pos (show d x0 13 = 0 from c0), if_pos (show (0 : Int) < mcmp (v_193 x0 6 d) 0 from c1), if_pos (show (g_193 x0 6 d) x0 13 = 0 from c2)]
        have y1 : g_198 x0 d = g_193 x0 6 d := by simp only [g_198, if_pos (show d x0 13 = 0 from c0), if_pos (show (0 : Int) < mcmp (v_193 x0 6 d) 0 from c1), if_pos (show (g_193 x0 6 d) x0 13 = 0 from c2)]
        rw [y0] at h
        rw [y1] at h
        exact h (show 0 ≤ (v_193 x0 6 d) ∧ (v_193 x0 6 d) ≤ 387420488 from (by omega)) (show ∀ b : Int, (b < x0 ∨ x0 < b) → (g_193 x0 6 d) b = d b from fun b hb => F1 b (by omega)) (show (g_193 x0 6 d) x0 9 = d x0 9 from k1_0) (show d x0 10 ≤ (g_193 x0 6 d) x0 10 by omega) (show d x0 13 = 0 ∨ ¬ (g_193 x0 6 d) x0 13 = 0 by omega) hS1
      · have y0 : v_198 x0 d = 0 := by simp only [v_198, if_pos (show d x0 13 = 0 from c0), if_pos (show (0 : Int) < mcmp (v_193 x0 6 d) 0 from c1), if_neg (show ¬ (g_193 x0 6 d) x0 13 = 0 from c2)]
        have y1 : g_198 x0 d = g_193 x0 6 d := by simp only [g_198, if_pos (show d x0 13 = 0 from c0), if_pos (show (0 : Int) < mcmp (v_193 x0 6 d) 0 from c1), if_neg (show ¬ (g_193 x0 6 d) x0 13 = 0 from c2)]
        rw [y0] at h
        rw [y1] at h
        exact h (show 0 ≤ ((0 : Int)) ∧ ((0 : Int)) ≤ 387420488 from (by omega)) (show ∀ b : Int, (b < x0 ∨ x0 < b) → (g_193 x0 6 d) b = d b from fun b hb => F1 b (by omega)) (show (g_193 x0 6 d) x0 9 = d x0 9 from k1_0) (show d x0 10 ≤ (g_193 x0 6 d) x0 10 by omega) (show d x0 13 = 0 ∨ ¬ (g_193 x0 6 d) x0 13 = 0 by omega) hS1
    · have q4 := r_11_f16 hS1 hx0
      refine k_188 hS1 hx0 (by omega) (by omega) (fun F2 k2_0 n2_0 n2_1 n2_2 hS2 => ?_)
      refine t_198_31 ?_
      have w8 := r_11_f9 hS2 hx0
      have w9 := r_11_f10 hS2 hx0
      have q5 := r_11_f13 hS2 hx0
      refine ⟨m_inR (by omega) (by omega), fun c2 => ?_, fun c2 => ?_⟩
      · have y0 : v_198 x0 d = v_193 x0 6 d := by simp only [v_198, if_pos (show d x0 13 = 0 from c0), if_neg (show ¬ (0 : Int) < mcmp (v_193 x0 6 d) 0 from Int.not_lt.mpr c1), if_pos (show (g_188 x0 1 ((g_193 x0 6 d) x0 16) (g_193 x0 6 d)) x0 13 = 0 from c2)]
        have y1 : g_198 x0 d = g_188 x0 1 ((g_193 x0 6 d) x0 16) (g_193 x0 6 d) := by simp only [g_198, if_pos (show d x0 13 = 0 from c0), if_neg (show ¬ (0 : Int) < mcmp (v_193 x0 6 d) 0 from Int.not_lt.mpr c1), if_pos (show (g_188 x0 1 ((g_193 x0 6 d) x0 16) (g_193 x0 6 d)) x0 13 = 0 from c2)]
        rw [y0] at h
        rw [y1] at h
        exact h (show 0 ≤ (v_193 x0 6 d) ∧ (v_193 x0 6 d) ≤ 387420488 from (by omega)) (show ∀ b : Int, (b < x0 ∨ x0 < b) → (g_188 x0 1 ((g_193 x0 6 d) x0 16) (g_193 x0 6 d)) b = d b from fun b hb => (F2 b (by omega)).trans (F1 b (by omega))) (show (g_188 x0 1 ((g_193 x0 6 d) x0 16) (g_193 x0 6 d)) x0 9 = d x0 9 from (k2_0).trans (k1_0)) (show d x0 10 ≤ (g_188 x0 1 ((g_193 x0 6 d) x0 16) (g_193 x0 6 d)) x0 10 by omega) (show d x0 13 = 0 ∨ ¬ (g_188 x0 1 ((g_193 x0 6 d) x0 16) (g_193 x0 6 d)) x0 13 = 0 by omega) hS2
      · have y0 : v_198 x0 d = 0 := by simp only [v_198, if_pos (show d x0 13 = 0 from c0), if_neg (show ¬ (0 : Int) < mcmp (v_193 x0 6 d) 0 from Int.not_lt.mpr c1), if_neg (show ¬ (g_188 x0 1 ((g_193 x0 6 d) x0 16) (g_193 x0 6 d)) x0 13 = 0 from c2)]
        have y1 : g_198 x0 d = g_188 x0 1 ((g_193 x0 6 d) x0 16) (g_193 x0 6 d) := by simp only [g_198, if_pos (show d x0 13 = 0 from c0), if_neg (show ¬ (0 : Int) < mcmp (v_193 x0 6 d) 0 from Int.not_lt.mpr c1), if_neg (show ¬ (g_188 x0 1 ((g_193 x0 6 d) x0 16) (g_193 x0 6 d)) x0 13 = 0 from c2)]
        rw [y0] at h
        rw [y1] at h
        exact h (show 0 ≤ ((0 : Int)) ∧ ((0 : Int)) ≤ 387420488 from (by omega)) (show ∀ b : Int, (b < x0 ∨ x0 < b) → (g_188 x0 1 ((g_193 x0 6 d) x0 16) (g_193 x0 6 d)) b = d b from fun b hb => (F2 b (by omega)).trans (F1 b (by omega))) (show (g_188 x0 1 ((g_193 x0 6 d) x0 16) (g_193 x0 6 d)) x0 9 = d x0 9 from (k2_0).trans (k1_0)) (show d x0 10 ≤ (g_188 x0 1 ((g_193 x0 6 d) x0 16) (g_193 x0 6 d)) x0 10 by omega) (show d x0 13 = 0 ∨ ¬ (g_188 x0 1 ((g_193 x0 6 d) x0 16) (g_193 x0 6 d)) x0 13 = 0 by omega) hS2
  · have y0 : v_198 x0 d = 0 := by simp only [v_198, if_neg (show ¬ d x0 13 = 0 from c0)]
    have y1 : g_198 x0 d = d := by simp only [g_198, if_neg (show ¬ d x0 13 = 0 from c0)]
    rw [y0] at h
    rw [y1] at h
    exact h (show 0 ≤ ((0 : Int)) ∧ ((0 : Int)) ≤ 387420488 from (by omega)) (show ∀ b : Int, (b < x0 ∨ x0 < b) → d b = d b from fun _ _ => rfl) (show d x0 9 = d x0 9 from rfl) (show d x0 10 ≤ d x0 10 by omega) (show d x0 13 = 0 ∨ ¬ d x0 13 = 0 by omega) hS
def v_199 (x0 x1 : Int) (d : mD) : Int := if v_183 x0 (v_198 x0 d) (g_198 x0 d) = (-1) then (if (g_188 x0 4 ((g_198 x0 d) x0 16) (g_198 x0 d)) x0 13 = 0 then v_183 x0 (v_198 x0 d) (g_198 x0 d) else 0) else if x1 = 0 then (if (g_198 x0 d) x0 13 = 0 then v_183 x0 (v_198 x0 d) (g_198 x0 d) else 0) else if v_201 x0 (v_183 x0 (v_198 x0 d) (g_198 x0 d)) (g_198 x0 d) = (-1) then (if (g_188 x0 4 ((g_198 x0 d) x0 16) (g_198 x0 d)) x0 13 = 0 then v_183 x0 (v_198 x0 d) (g_198 x0 d) else 0) else if (g_198 x0 d) x0 13 = 0 then v_183 x0 (v_198 x0 d) (g_198 x0 d) else 0
def g_199 (x0 x1 : Int) (d : mD) : mD := if v_183 x0 (v_198 x0 d) (g_198 x0 d) = (-1) then g_188 x0 4 ((g_198 x0 d) x0 16) (g_198 x0 d) else if x1 = 0 then g_198 x0 d else if v_201 x0 (v_183 x0 (v_198 x0 d) (g_198 x0 d)) (g_198 x0 d) = (-1) then g_188 x0 4 ((g_198 x0 d) x0 16) (g_198 x0 d) else g_198 x0 d
theorem k_199 {E : mO × tW} {K : tK} {d : mD} {x0 x1 : Int} (hS : Safe d) (hx0 : mdB x0) (p1 : 0 ≤ x1 ∧ x1 ≤ 1) (h : (0 ≤ (v_199 x0 x1 d) ∧ (v_199 x0 x1 d) ≤ 15) → (∀ b : Int, (b < x0 ∨ x0 < b) → (g_199 x0 x1 d) b = d b) → (g_199 x0 x1 d) x0 9 = d x0 9 → (d x0 10 ≤ (g_199 x0 x1 d) x0 10) → (d x0 13 = 0 ∨ ¬ (g_199 x0 x1 d) x0 13 = 0) → (¬ (g_199 x0 x1 d) x0 13 = 0 ∨ x1 = 0 ∨ 0 ≤ v_201 x0 (v_199 x0 x1 d) (g_199 x0 x1 d)) → Safe (g_199 x0 x1 d) → K (.inl (some (0, (v_199 x0 x1 d)))) (g_199 x0 x1 d)) : tCall E 199 [.inr (11, x0), .inl (0, x1)] d K := by
  refine t_199_0 ?_
  have w8 := r_11_f9 hS hx0
  have w9 := r_11_f10 hS hx0
  refine k_198 hS hx0 (fun e1 F1 k1_0 n1_0 n1_1 hS1 => ?_)
  refine t_199_5 ?_
  have w8 := r_11_f9 hS1 hx0
  have w9 := r_11_f10 hS1 hx0
  refine k_183 hS1 hx0 (m_inR (by omega) (by omega)) (fun e2 => ?_)
  refine t_199_8 ?_
  have w8 := r_11_f9 hS1 hx0
  have w9 := r_11_f10 hS1 hx0
  refine ⟨⟨m_inR (by omega) (by omega), m_inR (by omega) (by omega)⟩, fun c0 => ?_, fun c0 => ?_⟩
  · have q1 := r_11_f16 hS1 hx0
    refine k_188 hS1 hx0 (by omega) (by omega) (fun F2 k2_0 n2_0 n2_1 n2_2 hS2 => ?_)
    refine t_199_36 ?_
    have w8 := r_11_f9 hS2 hx0
    have w9 := r_11_f10 hS2 hx0
    have q2 := r_11_f13 hS2 hx0
    refine ⟨m_inR (by omega) (by omega), fun c1 => ?_, fun c1 => ?_⟩
    · have y0 : v_199 x0 x1 d = v_183 x0 (v_198 x0 d) (g_198 x0 d) := by simp only [v_199, if_pos (show v_183 x0 (v_198 x0 d) (g_198 x0 d) = (-1) from c0), if_pos (show (g_188 x0 4 ((g_198 x0 d) x0 16) (g_198 x0 d)) x0 13 = 0 from c1)]
      have y1 : g_199 x0 x1 d = g_188 x0 4 ((g_198 x0 d) x0 16) (g_198 x0 d) := by simp only [g_199, if_pos (show v_183 x0 (v_198 x0 d) (g_198 x0 d) = (-1) from c0), if_pos (show (g_188 x0 4 ((g_198 x0 d) x0 16) (g_198 x0 d)) x0 13 = 0 from c1)]
      rw [y0] at h
      rw [y1] at h
      exact h (show 0 ≤ (v_183 x0 (v_198 x0 d) (g_198 x0 d)) ∧ (v_183 x0 (v_198 x0 d) (g_198 x0 d)) ≤ 15 from (by omega)) (show ∀ b : Int, (b < x0 ∨ x0 < b) → (g_188 x0 4 ((g_198 x0 d) x0 16) (g_198 x0 d)) b = d b from fun b hb => (F2 b (by omega)).trans (F1 b (by omega))) (show (g_188 x0 4 ((g_198 x0 d) x0 16) (g_198 x0 d)) x0 9 = d x0 9 from (k2_0).trans (k1_0)) (show d x0 10 ≤ (g_188 x0 4 ((g_198 x0 d) x0 16) (g_198 x0 d)) x0 10 by omega) (show d x0 13 = 0 ∨ ¬ (g_188 x0 4 ((g_198 x0 d) x0 16) (g_198 x0 d)) x0 13 = 0 by omega) (show ¬ (g_188 x0 4 ((g_198 x0 d) x0 16) (g_198 x0 d)) x0 13 = 0 ∨ x1 = 0 ∨ 0 ≤ v_201 x0 (v_183 x0 (v_198 x0 d) (g_198 x0 d)) (g_188 x0 4 ((g_198 x0 d) x0 16) (g_198 x0 d)) by omega) hS2
    · have y0 : v_199 x0 x1 d = 0 := by simp only [v_199, if_pos (show v_183 x0 (v_198 x0 d) (g_198 x0 d) = (-1) from c0), if_neg (show ¬ (g_188 x0 4 ((g_198 x0 d) x0 16) (g_198 x0 d)) x0 13 = 0 from c1)]
      have y1 : g_199 x0 x1 d = g_188 x0 4 ((g_198 x0 d) x0 16) (g_198 x0 d) := by simp only [g_199, if_pos (show v_183 x0 (v_198 x0 d) (g_198 x0 d) = (-1) from c0), if_neg (show ¬ (g_188 x0 4 ((g_198 x0 d) x0 16) (g_198 x0 d)) x0 13 = 0 from c1)]
      rw [y0] at h
      rw [y1] at h
      exact h (show 0 ≤ ((0 : Int)) ∧ ((0 : Int)) ≤ 15 from (by omega)) (show ∀ b : Int, (b < x0 ∨ x0 < b) → (g_188 x0 4 ((g_198 x0 d) x0 16) (g_198 x0 d)) b = d b from fun b hb => (F2 b (by omega)).trans (F1 b (by omega))) (show (g_188 x0 4 ((g_198 x0 d) x0 16) (g_198 x0 d)) x0 9 = d x0 9 from (k2_0).trans (k1_0)) (show d x0 10 ≤ (g_188 x0 4 ((g_198 x0 d) x0 16) (g_198 x0 d)) x0 10 by omega) (show d x0 13 = 0 ∨ ¬ (g_188 x0 4 ((g_198 x0 d) x0 16) (g_198 x0 d)) x0 13 = 0 by omega) (show ¬ (g_188 x0 4 ((g_198 x0 d) x0 16) (g_198 x0 d)) x0 13 = 0 ∨ x1 = 0 ∨ 0 ≤ v_201 x0 ((0 : Int)) (g_188 x0 4 ((g_198 x0 d) x0 16) (g_198 x0 d)) by omega) hS2
  · refine ⟨m_inR (by omega) (by omega), fun c1 => ?_, fun c1 => ?_⟩
    · refine t_199_36 ?_
      have w8 := r_11_f9 hS1 hx0
      have w9 := r_11_f10 hS1 hx0
      have q3 := r_11_f13 hS1 hx0
      refine ⟨m_inR (by omega) (by omega), fun c2 => ?_, fun c2 => ?_⟩
      · have y0 : v_199 x0 x1 d = v_183 x0 (v_198 x0 d) (g_198 x0 d) := by simp only [v_199, if_neg (show ¬ v_183 x0 (v_198 x0 d) (g_198 x0 d) = (-1) from c0), if_pos (show x1 = 0 from c1), if_pos (show (g_198 x0 d) x0 13 = 0 from c2)]
        have y1 : g_199 x0 x1 d = g_198 x0 d := by simp only [g_199, if_neg (show ¬ v_183 x0 (v_198 x0 d) (g_198 x0 d) = (-1) from c0), if_pos (show x1 = 0 from c1), if_pos (show (g_198 x0 d) x0 13 = 0 from c2)]
        rw [y0] at h
        rw [y1] at h
        exact h (show 0 ≤ (v_183 x0 (v_198 x0 d) (g_198 x0 d)) ∧ (v_183 x0 (v_198 x0 d) (g_198 x0 d)) ≤ 15 from (by omega)) (show ∀ b : Int, (b < x0 ∨ x0 < b) → (g_198 x0 d) b = d b from fun b hb => F1 b (by omega)) (show (g_198 x0 d) x0 9 = d x0 9 from k1_0) (show d x0 10 ≤ (g_198 x0 d) x0 10 by omega) (show d x0 13 = 0 ∨ ¬ (g_198 x0 d) x0 13 = 0 by omega) (show ¬ (g_198 x0 d) x0 13 = 0 ∨ x1 = 0 ∨ 0 ≤ v_201 x0 (v_183 x0 (v_198 x0 d) (g_198 x0 d)) (g_198 x0 d) by omega) hS1
      · have y0 : v_199 x0 x1 d = 0 := by simp only [v_199, if_neg (show ¬ v_183 x0 (v_198 x0 d) (g_198 x0 d) = (-1) from c0), if_pos (show x1 = 0 from c1), if_neg (show ¬ (g_198 x0 d) x0 13 = 0 from c2)]
        have y1 : g_199 x0 x1 d = g_198 x0 d := by simp only [g_199, if_neg (show ¬ v_183 x0 (v_198 x0 d) (g_198 x0 d) = (-1) from c0), if_pos (show x1 = 0 from c1), if_neg (show ¬ (g_198 x0 d) x0 13 = 0 from c2)]
        rw [y0] at h
        rw [y1] at h
        exact h (show 0 ≤ ((0 : Int)) ∧ ((0 : Int)) ≤ 15 from (by omega)) (show ∀ b : Int, (b < x0 ∨ x0 < b) → (g_198 x0 d) b = d b from fun b hb => F1 b (by omega)) (show (g_198 x0 d) x0 9 = d x0 9 from k1_0) (show d x0 10 ≤ (g_198 x0 d) x0 10 by omega) (show d x0 13 = 0 ∨ ¬ (g_198 x0 d) x0 13 = 0 by omega) (show ¬ (g_198 x0 d) x0 13 = 0 ∨ x1 = 0 ∨ 0 ≤ v_201 x0 ((0 : Int)) (g_198 x0 d) by omega) hS1
    · refine k_201 hS1 hx0 (m_inR (by omega) (by omega)) (fun e3 => ?_)
      refine t_199_23 ?_
      have w8 := r_11_f9 hS1 hx0
      have w9 := r_11_f10 hS1 hx0
      refine ⟨⟨m_inR (by omega) (by omega), m_inR (by omega) (by omega)⟩, fun c2 => ?_, fun c2 => ?_⟩
      · refine t_199_36 ?_
        have w8 := r_11_f9 hS1 hx0
        have w9 := r_11_f10 hS1 hx0
        have q4 := r_11_f13 hS1 hx0
        refine ⟨m_inR (by omega) (by omega), fun c3 => ?_, fun c3 => ?_⟩
        · have y0 : v_199 x0 x1 d = v_183 x0 (v_198 x0 d) (g_198 x0 d) := by simp only [v_199, if_neg (show ¬ v_183 x0 (v_198 x0 d) (g_198 x0 d) = (-1) from c0), if_neg (show ¬ x1 = 0 from c1), if_neg (show ¬ v_201 x0 (v_183 x0 (v_198 x0 d) (g_198 x0 d)) (g_198 x0 d) = (-1) from c2), if_pos (show (g_198 x0 d) x0 13 = 0 from c3)]
          have y1 : g_199 x0 x1 d = g_198 x0 d := by simp only [g_199, if_neg (show ¬ v_183 x0 (v_198 x0 d) (g_198 x0 d) = (-1) from c0), if_neg (show ¬ x1 = 0 from c1), if_neg (show ¬ v_201 x0 (v_183 x0 (v_198 x0 d) (g_198 x0 d)) (g_198 x0 d) = (-1) from c2), if_pos (show (g_198 x0 d) x0 13 = 0 from c3)]
          rw [y0] at h
          rw [y1] at h
          exact h (show 0 ≤ (v_183 x0 (v_198 x0 d) (g_198 x0 d)) ∧ (v_183 x0 (v_198 x0 d) (g_198 x0 d)) ≤ 15 from (by omega)) (show ∀ b : Int, (b < x0 ∨ x0 < b) → (g_198 x0 d) b = d b from fun b hb => F1 b (by omega)) (show (g_198 x0 d) x0 9 = d x0 9 from k1_0) (show d x0 10 ≤ (g_198 x0 d) x0 10 by omega) (show d x0 13 = 0 ∨ ¬ (g_198 x0 d) x0 13 = 0 by omega) (show ¬ (g_198 x0 d) x0 13 = 0 ∨ x1 = 0 ∨ 0 ≤ v_201 x0 (v_183 x0 (v_198 x0 d) (g_198 x0 d)) (g_198 x0 d) by omega) hS1
        · have y0 : v_199 x0 x1 d = 0 := by simp only [v_199, if_neg (show ¬ v_183 x0 (v_198 x0 d) (g_198 x0 d) = (-1) from c0), if_neg (show ¬ x1 = 0 from c1), if_neg (show ¬ v_201 x0 (v_183 x0 (v_198 x0 d) (g_198 x0 d)) (g_198 x0 d) = (-1) from c2), if_neg (show ¬ (g_198 x0 d) x0 13 = 0 from c3)]
          have y1 : g_199 x0 x1 d = g_198 x0 d := by simp only [g_199, if_neg (show ¬ v_183 x0 (v_198 x0 d) (g_198 x0 d) = (-1) from c0), if_neg (show ¬ x1 = 0 from c1), if_neg (show ¬ v_201 x0 (v_183 x0 (v_198 x0 d) (g_198 x0 d)) (g_198 x0 d) = (-1) from c2), if_neg (show ¬ (g_198 x0 d) x0 13 = 0 from c3)]
          rw [y0] at h
          rw [y1] at h
          exact h (show 0 ≤ ((0 : Int)) ∧ ((0 : Int)) ≤ 15 from (by omega)) (show ∀ b : Int, (b < x0 ∨ x0 < b) → (g_198 x0 d) b = d b from fun b hb => F1 b (by omega)) (show (g_198 x0 d) x0 9 = d x0 9 from k1_0) (show d x0 10 ≤ (g_198 x0 d) x0 10 by omega) (show d x0 13 = 0 ∨ ¬ (g_198 x0 d) x0 13 = 0 by omega) (show ¬ (g_198 x0 d) x0 13 = 0 ∨ x1 = 0 ∨ 0 ≤ v_201 x0 ((0 : Int)) (g_198 x0 d) by omega) hS1
      · have q5 := r_11_f16 hS1 hx0
        refine k_188 hS1 hx0 (by omega) (by omega) (fun F3 k3_0 n3_0 n3_1 n3_2 hS3 => ?_)
        refine t_199_36 ?_
        have w8 := r_11_f9 hS3 hx0
        have w9 := r_11_f10 hS3 hx0
        have q6 := r_11_f13 hS3 hx0
        refine ⟨m_inR (by omega) (by omega), fun c3 => ?_, fun c3 => ?_⟩
        · have y0 : v_199 x0 x1 d = v_183 x0 (v_198 x0 d) (g_198 x0 d) := by simp only [v_199, if_neg (show ¬ v_183 x0 (v_198 x0 d) (g_198 x0 d) = (-1) from c0), if_neg (show ¬ x1 = 0 from c1), if_pos (show v_201 x0 (v_183 x0 (v_198 x0 d) (g_198 x0 d)) (g_198 x0 d) = (-1) from c2), if_pos (show (g_188 x0 4 ((g_198 x0 d) x0 16) (g_198 x0 d)) x0 13 = 0 from c3)]
          have y1 : g_199 x0 x1 d = g_188 x0 4 ((g_198 x0 d) x0 16) (g_198 x0 d) := by simp only [g_199, if_neg (show ¬ v_183 x0 (v_198 x0 d) (g_198 x0 d) = (-1) from c0), if_neg (show ¬ x1 = 0 from c1), if_pos (show v_201 x0 (v_183 x0 (v_198 x0 d) (g_198 x0 d)) (g_198 x0 d) = (-1) from c2), if_pos (show (g_188 x0 4 ((g_198 x0 d) x0 16) (g_198 x0 d)) x0 13 = 0 from c3)]
          rw [y0] at h
          rw [y1] at h
          exact h (show 0 ≤ (v_183 x0 (v_198 x0 d) (g_198 x0 d)) ∧ (v_183 x0 (v_198 x0 d) (g_198 x0 d)) ≤ 15 from (by omega)) (show ∀ b : Int, (b < x0 ∨ x0 < b) → (g_188 x0 4 ((g_198 x0 d) x0 16) (g_198 x0 d)) b = d b from fun b hb => (F3 b (by omega)).trans (F1 b (by omega))) (show (g_188 x0 4 ((g_198 x0 d) x0 16) (g_198 x0 d)) x0 9 = d x0 9 from (k3_0).trans (k1_0)) (show d x0 10 ≤ (g_188 x0 4 ((g_198 x0 d) x0 16) (g_198 x0 d)) x0 10 by omega) (show d x0 13 = 0 ∨ ¬ (g_188 x0 4 ((g_198 x0 d) x0 16) (g_198 x0 d)) x0 13 = 0 by omega) (show ¬ (g_188 x0 4 ((g_198 x0 d) x0 16) (g_198 x0 d)) x0 13 = 0 ∨ x1 = 0 ∨ 0 ≤ v_201 x0 (v_183 x0 (v_198 x0 d) (g_198 x0 d)) (g_188 x0 4 ((g_198 x0 d) x0 16) (g_198 x0 d)) by omega) hS3
        · have y0 : v_199 x0 x1 d = 0 := by simp only [v_199, if_neg (show ¬ v_183 x0 (v_198 x0 d) (g_198 x0 d) = (-1) from c0), if_neg (show ¬ x1 = 0 from c1), if_pos (show v_201 x0 (v_183 x0 (v_198 x0 d) (g_198 x0 d)) (g_198 x0 d) = (-1) from c2), if_neg (show ¬ (g_188 x0 4 ((g_198 x0 d) x0 16) (g_198 x0 d)) x0 13 = 0 from c3)]
          have y1 : g_199 x0 x1 d = g_188 x0 4 ((g_198 x0 d) x0 16) (g_198 x0 d) := by simp only [g_199, if_neg (show ¬ v_183 x0 (v_198 x0 d) (g_198 x0 d) = (-1) from c0), if_neg (show ¬ x1 = 0 from c1), if_pos (show v_201 x0 (v_183 x0 (v_198 x0 d) (g_198 x0 d)) (g_198 x0 d) = (-1) from c2), if_neg (show ¬ (g_188 x0 4 ((g_198 x0 d) x0 16) (g_198 x0 d)) x0 13 = 0 from c3)]
          rw [y0] at h
          rw [y1] at h
          exact h (show 0 ≤ ((0 : Int)) ∧ ((0 : Int)) ≤ 15 from (by omega)) (show ∀ b : Int, (b < x0 ∨ x0 < b) → (g_188 x0 4 ((g_198 x0 d) x0 16) (g_198 x0 d)) b = d b from fun b hb => (F3 b (by omega)).trans (F1 b (by omega))) (show (g_188 x0 4 ((g_198 x0 d) x0 16) (g_198 x0 d)) x0 9 = d x0 9 from (k3_0).trans (k1_0)) (show d x0 10 ≤ (g_188 x0 4 ((g_198 x0 d) x0 16) (g_198 x0 d)) x0 10 by omega) (show d x0 13 = 0 ∨ ¬ (g_188 x0 4 ((g_198 x0 d) x0 16) (g_198 x0 d)) x0 13 = 0 by omega) (show ¬ (g_188 x0 4 ((g_198 x0 d) x0 16) (g_198 x0 d)) x0 13 = 0 ∨ x1 = 0 ∨ 0 ≤ v_201 x0 ((0 : Int)) (g_188 x0 4 ((g_198 x0 d) x0 16) (g_198 x0 d)) by omega) hS3
def v_200 (x0 : Int) (d : mD) : Int := if v_184 x0 (v_198 x0 d) (g_198 x0 d) = (-1) then (if (g_188 x0 4 ((g_198 x0 d) x0 16) (g_198 x0 d)) x0 13 = 0 then v_184 x0 (v_198 x0 d) (g_198 x0 d) else 0) else if (g_198 x0 d) x0 13 = 0 then v_184 x0 (v_198 x0 d) (g_198 x0 d) else 0
def g_200 (x0 : Int) (d : mD) : mD := if v_184 x0 (v_198 x0 d) (g_198 x0 d) = (-1) then g_188 x0 4 ((g_198 x0 d) x0 16) (g_198 x0 d) else g_198 x0 d
theorem k_200 {E : mO × tW} {K : tK} {d : mD} {x0 : Int} (hS : Safe d) (hx0 : mdB x0) (h : (0 ≤ (v_200 x0 d) ∧ (v_200 x0 d) ≤ 5) → (∀ b : Int, (b < x0 ∨ x0 < b) → (g_200 x0 d) b = d b) → (g_200 x0 d) x0 9 = d x0 9 → (d x0 10 ≤ (g_200 x0 d) x0 10) → (d x0 13 = 0 ∨ ¬ (g_200 x0 d) x0 13 = 0) → Safe (g_200 x0 d) → K (.inl (some (0, (v_200 x0 d)))) (g_200 x0 d)) : tCall E 200 [.inr (11, x0)] d K := by
  refine t_200_0 ?_
  have w8 := r_11_f9 hS hx0
  have w9 := r_11_f10 hS hx0
  refine k_198 hS hx0 (fun e1 F1 k1_0 n1_0 n1_1 hS1 => ?_)
  refine t_200_5 ?_
  have w8 := r_11_f9 hS1 hx0
  have w9 := r_11_f10 hS1 hx0
  refine k_184 hS1 hx0 (m_inR (by omega) (by omega)) (fun e2 => ?_)
  refine t_200_8 ?_
  have w8 := r_11_f9 hS1 hx0
  have w9 := r_11_f10 hS1 hx0
  refine ⟨⟨m_inR (by omega) (by omega), m_inR (by omega) (by omega)⟩, fun c0 => ?_, fun c0 => ?_⟩
  · refine t_200_23 ?_
    have w8 := r_11_f9 hS1 hx0
    have w9 := r_11_f10 hS1 hx0
    have q1 := r_11_f13 hS1 hx0
    refine ⟨m_inR (by omega) (by omega), fun c1 => ?_, fun c1 => ?_⟩
    · have y0 : v_200 x0 d = v_184 x0 (v_198 x0 d) (g_198 x0 d) := by simp only [v_200, if_neg (show ¬ v_184 x0 (v_198 x0 d) (g_198 x0 d) = (-1) from c0), if_pos (show (g_198 x0 d) x0 13 = 0 from c1)]
      have y1 : g_200 x0 d = g_198 x0 d := by simp only [g_200, if_neg (show ¬ v_184 x0 (v_198 x0 d) (g_198 x0 d) = (-1) from c0), if_pos (show (g_198 x0 d) x0 13 = 0 from c1)]
      rw [y0] at h
      rw [y1] at h
      exact h (show 0 ≤ (v_184 x0 (v_198 x0 d) (g_198 x0 d)) ∧ (v_184 x0 (v_198 x0 d) (g_198 x0 d)) ≤ 5 from (by omega)) (show ∀ b : Int, (b < x0 ∨ x0 < b) → (g_198 x0 d) b = d b from fun b hb => F1 b (by omega)) (show (g_198 x0 d) x0 9 = d x0 9 from k1_0) (show d x0 10 ≤ (g_198 x0 d) x0 10 by omega) (show d x0 13 = 0 ∨ ¬ (g_198 x0 d) x0 13 = 0 by omega) hS1
    · have y0 : v_200 x0 d = 0 := by simp only [v_200, if_neg (show ¬ v_184 x0 (v_198 x0 d) (g_198 x0 d) = (-1) from c0), if_neg (show ¬ (g_198 x0 d) x0 13 = 0 from c1)]
      have y1 : g_200 x0 d = g_198 x0 d := by simp only [g_200, if_neg (show ¬ v_184 x0 (v_198 x0 d) (g_198 x0 d) = (-1) from c0), if_neg (show ¬ (g_198 x0 d) x0 13 = 0 from c1)]
      rw [y0] at h
      rw [y1] at h
      exact h (show 0 ≤ ((0 : Int)) ∧ ((0 : Int)) ≤ 5 from (by omega)) (show ∀ b : Int, (b < x0 ∨ x0 < b) → (g_198 x0 d) b = d b from fun b hb => F1 b (by omega)) (show (g_198 x0 d) x0 9 = d x0 9 from k1_0) (show d x0 10 ≤ (g_198 x0 d) x0 10 by omega) (show d x0 13 = 0 ∨ ¬ (g_198 x0 d) x0 13 = 0 by omega) hS1
  · have q2 := r_11_f16 hS1 hx0
    refine k_188 hS1 hx0 (by omega) (by omega) (fun F2 k2_0 n2_0 n2_1 n2_2 hS2 => ?_)
    refine t_200_23 ?_
    have w8 := r_11_f9 hS2 hx0
    have w9 := r_11_f10 hS2 hx0
    have q3 := r_11_f13 hS2 hx0
    refine ⟨m_inR (by omega) (by omega), fun c1 => ?_, fun c1 => ?_⟩
    · have y0 : v_200 x0 d = v_184 x0 (v_198 x0 d) (g_198 x0 d) := by simp only [v_200, if_pos (show v_184 x0 (v_198 x0 d) (g_198 x0 d) = (-1) from c0), if_pos (show (g_188 x0 4 ((g_198 x0 d) x0 16) (g_198 x0 d)) x0 13 = 0 from c1)]
      have y1 : g_200 x0 d = g_188 x0 4 ((g_198 x0 d) x0 16) (g_198 x0 d) := by simp only [g_200, if_pos (show v_184 x0 (v_198 x0 d) (g_198 x0 d) = (-1) from c0), if_pos (show (g_188 x0 4 ((g_198 x0 d) x0 16) (g_198 x0 d)) x0 13 = 0 from c1)]
      rw [y0] at h
      rw [y1] at h
      exact h (show 0 ≤ (v_184 x0 (v_198 x0 d) (g_198 x0 d)) ∧ (v_184 x0 (v_198 x0 d) (g_198 x0 d)) ≤ 5 from (by omega)) (show ∀ b : Int, (b < x0 ∨ x0 < b) → (g_188 x0 4 ((g_198 x0 d) x0 16) (g_198 x0 d)) b = d b from fun b hb => (F2 b (by omega)).trans (F1 b (by omega))) (show (g_188 x0 4 ((g_198 x0 d) x0 16) (g_198 x0 d)) x0 9 = d x0 9 from (k2_0).trans (k1_0)) (show d x0 10 ≤ (g_188 x0 4 ((g_198 x0 d) x0 16) (g_198 x0 d)) x0 10 by omega) (show d x0 13 = 0 ∨ ¬ (g_188 x0 4 ((g_198 x0 d) x0 16) (g_198 x0 d)) x0 13 = 0 by omega) hS2
    · have y0 : v_200 x0 d = 0 := by simp only [v_200, if_pos (show v_184 x0 (v_198 x0 d) (g_198 x0 d) = (-1) from c0), if_neg (show ¬ (g_188 x0 4 ((g_198 x0 d) x0 16) (g_198 x0 d)) x0 13 = 0 from c1)]
      have y1 : g_200 x0 d = g_188 x0 4 ((g_198 x0 d) x0 16) (g_198 x0 d) := by simp only [g_200, if_pos (show v_184 x0 (v_198 x0 d) (g_198 x0 d) = (-1) from c0), if_neg (show ¬ (g_188 x0 4 ((g_198 x0 d) x0 16) (g_198 x0 d)) x0 13 = 0 from c1)]
      rw [y0] at h
      rw [y1] at h
      exact h (show 0 ≤ ((0 : Int)) ∧ ((0 : Int)) ≤ 5 from (by omega)) (show ∀ b : Int, (b < x0 ∨ x0 < b) → (g_188 x0 4 ((g_198 x0 d) x0 16) (g_198 x0 d)) b = d b from fun b hb => (F2 b (by omega)).trans (F1 b (by omega))) (show (g_188 x0 4 ((g_198 x0 d) x0 16) (g_198 x0 d)) x0 9 = d x0 9 from (k2_0).trans (k1_0)) (show d x0 10 ≤ (g_188 x0 4 ((g_198 x0 d) x0 16) (g_198 x0 d)) x0 10 by omega) (show d x0 13 = 0 ∨ ¬ (g_188 x0 4 ((g_198 x0 d) x0 16) (g_198 x0 d)) x0 13 = 0 by omega) hS2
/-! ===== contracts of the reference's methods: printed by a program of mine ===== -/
def st_210_4 (x0 : Int) (r4 : Int → Int → mD → Int × mD) (x1 x2 : Int) (d : mD) : Int × mD := if x2 < d x0 9 then (if v_190 x0 x2 d = 0 then r4 ((-1)) (x2 + 1) d else if x2 < 6 then (if x1 < 0 then r4 ((-1)) (x2 + 1) d else r4 ((((27 * x1) + (d (x0 + 7) x2)) - 97) + 1) (x2 + 1) d) else r4 ((-1)) (x2 + 1) d) else if x1 < 0 then (0, mset d x0 9 0) else (x1, mset d x0 9 0)
def lp_210_4 (x0 : Int) : Nat → Int → Int → mD → Int × mD
  | 0 => st_210_4 x0 (fun _ _ d => (0, d))
  | n + 1 => st_210_4 x0 (lp_210_4 x0 n)
theorem ls_210_4 {E : mO × tW} {K : tK} {x0 : Int} (hx0 : mdB x0) (N4 : Int) (r4 : Int → Int → mD → Int × mD) (ih4 : ∀ (x1 x2 : Int) (d : mD), Safe d → (0 ≤ x2 ∧ x2 ≤ 1000) → (-1 ≤ x1 ∧ ((x2 = 0 ∧ x1 ≤ 0) ∨ (x2 = 1 ∧ x1 ≤ 26) ∨ (x2 = 2 ∧ x1 ≤ 728) ∨ (x2 = 3 ∧ x1 ≤ 19682) ∨ (x2 = 4 ∧ x1 ≤ 531440) ∨ (x2 = 5 ∧ x1 ≤ 14348906) ∨ (6 ≤ x2 ∧ x1 ≤ 387420488))) → 0 ≤ 1000 - x2 → 1000 - x2 < N4 → ((0 ≤ (r4 x1 x2 d).1 ∧ (r4 x1 x2 d).1 ≤ 387420488) → (∀ b : Int, (b < x0 ∨ x0 < b) → (r4 x1 x2 d).2 b = d b) → Safe (r4 x1 x2 d).2 → K (.inl (some (0, (r4 x1 x2 d).1))) (r4 x1 x2 d).2) → tRun E 210 (4, [.inr (11, x0), .inl (0, x1), .inl (0, x2)], [], 0, 0, d) K) (x1 x2 : Int) (d : mD) (hS : Safe d) (i0 : 0 ≤ x2 ∧ x2 ≤ 1000) (i1 : -1 ≤ x1 ∧ ((x2 = 0 ∧ x1 ≤ 0) ∨ (x2 = 1 ∧ x1 ≤ 26) ∨ (x2 = 2 ∧ x1 ≤ 728) ∨ (x2 = 3 ∧ x1 ≤ 19682) ∨ (x2 = 4 ∧ x1 ≤ 531440) ∨ (x2 = 5 ∧ x1 ≤ 14348906) ∨ (6 ≤ x2 ∧ x1 ≤ 387420488))) (hm : 1000 - x2 ≤ N4) (h : (0 ≤ (st_210_4 x0 r4 x1 x2 d).1 ∧ (st_210_4 x0 r4 x1 x2 d).1 ≤ 387420488) → (∀ b : Int, (b < x0 ∨ x0 < b) → (st_210_4 x0 r4 x1 x2 d).2 b = d b) → Safe (st_210_4 x0 r4 x1 x2 d).2 → K (.inl (some (0, (st_210_4 x0 r4 x1 x2 d).1))) (st_210_4 x0 r4 x1 x2 d).2) : tRun E 210 (4, [.inr (11, x0), .inl (0, x1), .inl (0, x2)], [], 0, 0, d) K := by
  refine t_210_4 ?_
  have w8 := r_11_f9 hS hx0
  have w9 := r_11_f10 hS hx0
  have q1 := r_11_f9 hS hx0
  refine ⟨⟨m_inR (by omega) (by omega), m_inR (by omega) (by omega)⟩, fun c0 => ?_, fun c0 => ?_⟩
  · have hS1 : Safe (mset d x0 9 0) := s_11_f9 hS hx0 (by omega)
    refine ⟨m_inR (by omega) (by omega), fun c1 => ?_, fun c1 => ?_⟩
    · have y0 : st_210_4 x0 r4 x1 x2 d = (x1, mset d x0 9 0) := by simp only [st_210_4, if_neg (show ¬ x2 < d x0 9 from Int.not_lt.mpr c0), if_neg (show ¬ x1 < 0 from Int.not_lt.mpr c1)]
      rw [y0] at h
      exact h (show 0 ≤ x1 ∧ x1 ≤ 387420488 from (by omega)) (show ∀ b : Int, (b < x0 ∨ x0 < b) → (mset d x0 9 0) b = d b from fun b hb => mset_ne (by omega)) hS1
    · have y0 : st_210_4 x0 r4 x1 x2 d = (0, mset d x0 9 0) := by simp only [st_210_4, if_neg (show ¬ x2 < d x0 9 from Int.not_lt.mpr c0), if_pos (show x1 < 0 from c1)]
      rw [y0] at h
      exact h (show 0 ≤ ((0 : Int)) ∧ ((0 : Int)) ≤ 387420488 from (by omega)) (show ∀ b : Int, (b < x0 ∨ x0 < b) → (mset d x0 9 0) b = d b from fun b hb => mset_ne (by omega)) hS1
  · refine k_190 hS hx0 (by omega) (fun e1 => ?_)
    refine t_210_17 ?_
    have w8 := r_11_f9 hS hx0
    have w9 := r_11_f10 hS hx0
    refine ⟨m_inR (by omega) (by omega), fun c1 => ?_, fun c1 => ?_⟩
    · refine ih4 ((-1)) (x2 + 1)  d hS (by omega) (by obtain ⟨z0, z⟩ := i1; rcases z with z | z | z | z | z | z | z <;> omega) (by omega) (by omega) ?_
      intro e F hS_
      have y0 : st_210_4 x0 r4 x1 x2 d = r4 ((-1)) (x2 + 1) d := by simp only [st_210_4, if_pos (show x2 < d x0 9 from c0), if_pos (show v_190 x0 x2 d = 0 from c1)]
      rw [y0] at h
      exact h e F hS_
    · refine ⟨⟨m_inR (by omega) (by omega), m_inR (by omega) (by omega)⟩, fun c2 => ?_, fun c2 => ?_⟩
      · refine ih4 ((-1)) (x2 + 1)  d hS (by omega) (by obtain ⟨z0, z⟩ := i1; rcases z with z | z | z | z | z | z | z <;> omega) (by omega) (by omega) ?_
        intro e F hS_
        have y0 : st_210_4 x0 r4 x1 x2 d = r4 ((-1)) (x2 + 1) d := by simp only [st_210_4, if_pos (show x2 < d x0 9 from c0), if_neg (show ¬ v_190 x0 x2 d = 0 from c1), if_neg (show ¬ x2 < 6 from Int.not_lt.mpr c2)]
        rw [y0] at h
        exact h e F hS_
      · refine ⟨m_inR (by omega) (by omega), fun c3 => ?_, fun c3 => ?_⟩
        · refine ih4 ((-1)) (x2 + 1)  d hS (by omega) (by obtain ⟨z0, z⟩ := i1; rcases z with z | z | z | z | z | z | z <;> omega) (by omega) (by omega) ?_
          intro e F hS_
          have y0 : st_210_4 x0 r4 x1 x2 d = r4 ((-1)) (x2 + 1) d := by simp only [st_210_4, if_pos (show x2 < d x0 9 from c0), if_neg (show ¬ v_190 x0 x2 d = 0 from c1), if_pos (show x2 < 6 from c2), if_pos (show x1 < 0 from c3)]
          rw [y0] at h
          exact h e F hS_
        · refine ⟨by omega, ?_⟩
          have q2 := r_11_7 hS hx0 x2
          refine ih4 ((((27 * x1) + (d (x0 + 7) x2)) - 97) + 1) (x2 + 1)  d hS (by omega) (by obtain ⟨z0, z⟩ := i1; rcases z with z | z | z | z | z | z | z <;> omega) (by omega) (by omega) ?_
          intro e F hS_
          have y0 : st_210_4 x0 r4 x1 x2 d = r4 ((((27 * x1) + (d (x0 + 7) x2)) - 97) + 1) (x2 + 1) d := by simp only [st_210_4, if_pos (show x2 < d x0 9 from c0), if_neg (show ¬ v_190 x0 x2 d = 0 from c1), if_pos (show x2 < 6 from c2), if_neg (show ¬ x1 < 0 from Int.not_lt.mpr c3)]
          rw [y0] at h
          exact h e F hS_
theorem l_210_4 {E : mO × tW} {K : tK} {x0 : Int} (hx0 : mdB x0) : ∀ (n : Nat) (x1 x2 : Int) (d : mD), Safe d → (0 ≤ x2 ∧ x2 ≤ 1000) → (-1 ≤ x1 ∧ ((x2 = 0 ∧ x1 ≤ 0) ∨ (x2 = 1 ∧ x1 ≤ 26) ∨ (x2 = 2 ∧ x1 ≤ 728) ∨ (x2 = 3 ∧ x1 ≤ 19682) ∨ (x2 = 4 ∧ x1 ≤ 531440) ∨ (x2 = 5 ∧ x1 ≤ 14348906) ∨ (6 ≤ x2 ∧ x1 ≤ 387420488))) → 1000 - x2 ≤ (n : Int) → ((0 ≤ (lp_210_4 x0 n x1 x2 d).1 ∧ (lp_210_4 x0 n x1 x2 d).1 ≤ 387420488) → (∀ b : Int, (b < x0 ∨ x0 < b) → (lp_210_4 x0 n x1 x2 d).2 b = d b) → Safe (lp_210_4 x0 n x1 x2 d).2 → K (.inl (some (0, (lp_210_4 x0 n x1 x2 d).1))) (lp_210_4 x0 n x1 x2 d).2) → tRun E 210 (4, [.inr (11, x0), .inl (0, x1), .inl (0, x2)], [], 0, 0, d) K := by
  intro n
  induction n with
  | zero =>
    intro x1 x2  d hS i0 i1 hm  h
    exact ls_210_4 hx0 0 _ (fun _ _  _ _ _ _ m0 m1 _ => absurd m1 (by omega)) x1 x2  d hS i0 i1 hm  h
  | succ n ih =>
    intro x1 x2  d hS i0 i1 hm  h
    exact ls_210_4 hx0 ((n + 1 : Nat) : Int) _ (fun x1 x2  d hS i0 i1  m0 m1 h => ih x1 x2  d hS i0 i1 (by omega)  h) x1 x2  d hS i0 i1 hm  h
def f_210 (x0 : Int) (d : mD) : Int × mD := lp_210_4 x0 (1000 - 0 : Int).toNat 0 0 d
def v_210 (x0 : Int) (d : mD) : Int := (f_210 x0 d).1
def g_210 (x0 : Int) (d : mD) : mD := (f_210 x0 d).2
theorem k_210 {E : mO × tW} {K : tK} {d : mD} {x0 : Int} (hS : Safe d) (hx0 : mdB x0) (h : (0 ≤ (v_210 x0 d) ∧ (v_210 x0 d) ≤ 387420488) → (∀ b : Int, (b < x0 ∨ x0 < b) → (g_210 x0 d) b = d b) → Safe (g_210 x0 d) → K (.inl (some (0, (v_210 x0 d)))) (g_210 x0 d)) : tCall E 210 [.inr (11, x0)] d K := by
  simp only [v_210, g_210] at h
  refine t_210_0 ?_
  have w8 := r_11_f9 hS hx0
  have w9 := r_11_f10 hS hx0
  refine l_210_4 hx0 (1000 - 0 : Int).toNat 0 0  d hS (by omega) (by omega) (by omega) ?_
  intro e F hS_
  have y0 : f_210 x0 d = lp_210_4 x0 (1000 - 0 : Int).toNat 0 0 d := by simp only [f_210]
  rw [y0] at h
  exact h e F hS_
def v_208 (x0 : Int) (d : mD) : Int := d x0 11
def g_208 (x0 : Int) (d : mD) : mD := mset d x0 0 0
theorem k_208 {E : mO × tW} {K : tK} {d : mD} {x0 : Int} (hS : Safe d) (hx0 : mdB x0) (h : (∀ b : Int, (b < x0 ∨ x0 < b) → (g_208 x0 d) b = d b) → Safe (g_208 x0 d) → K (.inl (some (0, (v_208 x0 d)))) (g_208 x0 d)) : tCall E 208 [.inr (11, x0)] d K := by
  refine t_208_0 ?_
  have hS1 : Safe (mset d x0 0 0) := s_11_f0 hS hx0 (by omega)
  rw [mset_ni (d := d) (a := x0) (i := (0 : Int)) (v := (0 : Int)) (b := x0) (j := (11 : Int)) (by omega)]
  have q1 := r_11_f11 hS hx0
  have y0 : v_208 x0 d = d x0 11 := by simp only [v_208]
  have y1 : g_208 x0 d = mset d x0 0 0 := by simp only [g_208]
  rw [y0] at h
  rw [y1] at h
  exact h (show ∀ b : Int, (b < x0 ∨ x0 < b) → (mset d x0 0 0) b = d b from fun b hb => mset_ne (by omega)) hS1
def v_209 (x0 : Int) (d : mD) : Int := d x0 12
def g_209 (x0 : Int) (d : mD) : mD := mset d x0 0 0
theorem k_209 {E : mO × tW} {K : tK} {d : mD} {x0 : Int} (hS : Safe d) (hx0 : mdB x0) (h : (∀ b : Int, (b < x0 ∨ x0 < b) → (g_209 x0 d) b = d b) → Safe (g_209 x0 d) → K (.inl (some (0, (v_209 x0 d)))) (g_209 x0 d)) : tCall E 209 [.inr (11, x0)] d K := by
  refine t_209_0 ?_
  have hS1 : Safe (mset d x0 0 0) := s_11_f0 hS hx0 (by omega)
  rw [mset_ni (d := d) (a := x0) (i := (0 : Int)) (v := (0 : Int)) (b := x0) (j := (12 : Int)) (by omega)]
  have q1 := r_11_f12 hS hx0
  have y0 : v_209 x0 d = d x0 12 := by simp only [v_209]
  have y1 : g_209 x0 d = mset d x0 0 0 := by simp only [g_209]
  rw [y0] at h
  rw [y1] at h
  exact h (show ∀ b : Int, (b < x0 ∨ x0 < b) → (mset d x0 0 0) b = d b from fun b hb => mset_ne (by omega)) hS1
def v_211 (x0 x1 : Int) (d : mD) : Int := if x1 = 0 then (if v_183 x0 (v_210 x0 d) (g_210 x0 d) = (-1) then 0 else v_183 x0 (v_210 x0 d) (g_210 x0 d)) else if v_184 x0 (v_210 x0 d) (g_210 x0 d) = (-1) then 0 else v_184 x0 (v_210 x0 d) (g_210 x0 d)
def g_211 (x0 x1 : Int) (d : mD) : mD := if x1 = 0 then (if v_183 x0 (v_210 x0 d) (g_210 x0 d) = (-1) then mset (g_210 x0 d) x0 0 1 else mset (g_210 x0 d) x0 0 0) else if v_184 x0 (v_210 x0 d) (g_210 x0 d) = (-1) then mset (g_210 x0 d) x0 0 1 else mset (g_210 x0 d) x0 0 0
theorem k_211 {E : mO × tW} {K : tK} {d : mD} {x0 x1 : Int} (hS : Safe d) (hx0 : mdB x0) (p1 : 0 ≤ x1 ∧ x1 ≤ 1) (h : (∀ b : Int, (b < x0 ∨ x0 < b) → (g_211 x0 x1 d) b = d b) → Safe (g_211 x0 x1 d) → K (.inl (some (0, (v_211 x0 x1 d)))) (g_211 x0 x1 d)) : tCall E 211 [.inr (11, x0), .inl (0, x1)] d K := by
  refine t_211_0 ?_
  refine k_210 hS hx0 (fun e1 F1 hS1 => ?_)
  refine t_211_4 ?_
  refine ⟨m_inR (by omega) (by omega), fun c0 => ?_, fun c0 => ?_⟩
  · refine k_183 hS1 hx0 (m_inR (by omega) (by omega)) (fun e2 => ?_)
    refine t_211_22 ?_
    refine ⟨⟨m_inR (by omega) (by omega), m_inR (by omega) (by omega)⟩, fun c1 => ?_, fun c1 => ?_⟩
    · have hS2 : Safe (mset (g_210 x0 d) x0 0 0) := s_11_f0 hS1 hx0 (by omega)
      rw [mset_eq (d := g_210 x0 d) (a := x0) (i := (0 : Int)) (v := (0 : Int))]
      refine ⟨m_inR (by omega) (by omega), fun c2 => ?_, fun c2 => ?_⟩
      · have y0 : v_211 x0 x1 d = v_183 x0 (v_210 x0 d) (g_210 x0 d) := by simp only [v_211, if_pos (show x1 = 0 from c0), if_neg (show ¬ v_183 x0 (v_210 x0 d) (g_210 x0 d) = (-1) from c1), if_neg (show ¬ (0 : Int) < 0 from Int.not_lt.mpr c2)]
        have y1 : g_211 x0 x1 d = mset (g_210 x0 d) x0 0 0 := by simp only [g_211, if_pos (show x1 = 0 from c0), if_neg (show ¬ v_183 x0 (v_210 x0 d) (g_210 x0 d) = (-1) from c1), if_neg (show ¬ (0 : Int) < 0 from Int.not_lt.mpr c2)]
        rw [y0] at h
        rw [y1] at h
        exact h (show ∀ b : Int, (b < x0 ∨ x0 < b) → (mset (g_210 x0 d) x0 0 0) b = d b from fun b hb => (mset_ne (by omega)).trans (F1 b (by omega))) hS2
      · exact (show False by omega).elim
    · have hS3 : Safe (mset (g_210 x0 d) x0 0 1) := s_11_f0 hS1 hx0 (by omega)
      rw [mset_eq (d := g_210 x0 d) (a := x0) (i := (0 : Int)) (v := (1 : Int))]
      refine ⟨m_inR (by omega) (by omega), fun c2 => ?_, fun c2 => ?_⟩
      · exact (show False by omega).elim
      · have y0 : v_211 x0 x1 d = 0 := by simp only [v_211, if_pos (show x1 = 0 from c0), if_pos (show v_183 x0 (v_210 x0 d) (g_210 x0 d) = (-1) from c1), if_pos (show (0 : Int) < 1 from c2)]
        have y1 : g_211 x0 x1 d = mset (g_210 x0 d) x0 0 1 := by simp only [g_211, if_pos (show x1 = 0 from c0), if_pos (show v_183 x0 (v_210 x0 d) (g_210 x0 d) = (-1) from c1), if_pos (show (0 : Int) < 1 from c2)]
        rw [y0] at h
        rw [y1] at h
        exact h (show ∀ b : Int, (b < x0 ∨ x0 < b) → (mset (g_210 x0 d) x0 0 1) b = d b from fun b hb => (mset_ne (by omega)).trans (F1 b (by omega))) hS3
  · refine k_184 hS1 hx0 (m_inR (by omega) (by omega)) (fun e3 => ?_)
    refine t_211_14 ?_
    refine t_211_22 ?_
    refine ⟨⟨m_inR (by omega) (by omega), m_inR (by omega) (by omega)⟩, fun c1 => ?_, fun c1 => ?_⟩
    · have hS4 : Safe (mset (g_210 x0 d) x0 0 0) := s_11_f0 hS1 hx0 (by omega)
      rw [mset_eq (d := g_210 x0 d) (a := x0) (i := (0 : Int)) (v := (0 : Int))]
      refine ⟨m_inR (by omega) (by omega), fun c2 => ?_, fun c2 => ?_⟩
      · have y0 : v_211 x0 x1 d = v_184 x0 (v_210 x0 d) (g_210 x0 d) := by simp only [v_211, if_neg (show ¬ x1 = 0 from c0), if_neg (show ¬ v_184 x0 (v_210 x0 d) (g_210 x0 d) = (-1) from c1), if_neg (show ¬ (0 : Int) < 0 from Int.not_lt.mpr c2)]
        have y1 : g_211 x0 x1 d = mset (g_210 x0 d) x0 0 0 := by simp only [g_211, if_neg (show ¬ x1 = 0 from c0), if_neg (show ¬ v_184 x0 (v_210 x0 d) (g_210 x0 d) = (-1) from c1), if_neg (show ¬ (0 : Int) < 0 from Int.not_lt.mpr c2)]
        rw [y0] at h
        rw [y1] at h
        exact h (show ∀ b : Int, (b < x0 ∨ x0 < b) → (mset (g_210 x0 d) x0 0 0) b = d b from fun b hb => (mset_ne (by omega)).trans (F1 b (by omega))) hS4
      · exact (show False by omega).elim
    · have hS5 : Safe (mset (g_210 x0 d) x0 0 1) := s_11_f0 hS1 hx0 (by omega)
      rw [mset_eq (d := g_210 x0 d) (a := x0) (i := (0 : Int)) (v := (1 : Int))]
      refine ⟨m_inR (by omega) (by omega), fun c2 => ?_, fun c2 => ?_⟩
      · exact (show False by omega).elim
      · have y0 : v_211 x0 x1 d = 0 := by simp only [v_211, if_neg (show ¬ x1 = 0 from c0), if_pos (show v_184 x0 (v_210 x0 d) (g_210 x0 d) = (-1) from c1), if_pos (show (0 : Int) < 1 from c2)]
        have y1 : g_211 x0 x1 d = mset (g_210 x0 d) x0 0 1 := by simp only [g_211, if_neg (show ¬ x1 = 0 from c0), if_pos (show v_184 x0 (v_210 x0 d) (g_210 x0 d) = (-1) from c1), if_pos (show (0 : Int) < 1 from c2)]
        rw [y0] at h
        rw [y1] at h
        exact h (show ∀ b : Int, (b < x0 ∨ x0 < b) → (mset (g_210 x0 d) x0 0 1) b = d b from fun b hb => (mset_ne (by omega)).trans (F1 b (by omega))) hS5
