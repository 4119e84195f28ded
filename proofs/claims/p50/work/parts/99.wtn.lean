/-! ===== the fund grows by deposits alone; an act that can be done tells no negative number ===== -/
theorem fund219l : ∀ (n : Nat) (y : Int) (w : Row), CS w → w 11 ≤ (n : Int) → (LP_219_2 n y w).2 1 ≤ w 1 := by
  intro n
  induction n with
  | zero =>
    intro y w hC h
    show (ST_219_2 _ y w).2 1 ≤ w 1
    unfold ST_219_2
    rw [if_neg (by omega)]
    exact Int.le_refl _
  | succ n ih =>
    intro y w hC h
    obtain ⟨hg, -⟩ := id hC
    obtain ⟨n7, n8, n9, n10, n11, n0, n1, n2, n3, n4, n5, n6⟩ := id hg.1
    by_cases c : 0 < w 11 ∧ w 6 ≤ w 1
    · have gt := (hg.2.2.2.2.2.2.2 0 (by decide) c.1).1
      simp only [Int.add_zero] at gt
      have go := (hg.2.2.2.2.2.1 (w 2916) gt.1 gt.2).1
      obtain ⟨w', e, hS⟩ := st219 (n := n) (y := y) (w := w) c.1 n11.2 c.2 ⟨gt.1, by omega⟩ ⟨go.1, by omega⟩
      rw [e]
      have := ih (y + 1) w' (hC.step c.1 c.2 hS) (by have := hS.2.1; omega)
      have := hS.1
      omega
    · show (ST_219_2 _ y w).2 1 ≤ w 1
      unfold ST_219_2
      by_cases c1 : 0 < w 11
      · rw [if_pos c1, if_pos (by omega)]
        exact Int.le_refl _
      · rw [if_neg c1]
        exact Int.le_refl _
theorem fund219 {w : Row} (hC : CB w) : W_219 w 1 ≤ w 1 := by
  have n11 := hC.1.1.2.2.2.2.1
  exact fund219l (w 11 : Int).toNat 0 w hC.s (by omega)
theorem fund223 {w : Row} (hC : CB w) (h0 : w 0 ≤ 1198) : W_223 w 1 ≤ w 1 := by
  obtain ⟨hg, s, d, h⟩ := hC
  obtain ⟨n7, n8, n9, n10, n11, n0, n1, n2, n3, n4, n5, n6⟩ := id hg.1
  obtain ⟨g1, r1, b1⟩ := tick hg h h0
  have e0 : ws w 0 (w 0 + 1) 0 = w 0 + 1 := wse rfl
  have ew : ∀ i, ¬ i = 0 → ws w 0 (w 0 + 1) i = w i := fun i hi => wsn hi
  obtain ⟨d1, w1, -, k2, k3, k4, k5, k6⟩ := officeLoop (s := s) (N := 0) (i := 0) (r4 := fun _ _ d => (0, d)) (X := ¬ (w 0 + 1) % 20 = 0) (6 - 0 : Int).toNat (6 - 0 : Int).toNat 0 0 (mset d s 2 (d s 2 + 1)) (ws w 0 (w 0 + 1)) (by omega) g1 r1 b1 (by rw [ew 7 (by omega), show (((6 - 0 : Int).toNat : Nat) : Int) = 6 by decide]; omega) (by rw [ew 7 (by omega), show (((6 - 0 : Int).toNat : Nat) : Int) = 6 by decide]; omega)
  have f0 : w1 0 = w 0 + 1 := by rw [k6 0 (by omega), e0]
  have fw : ∀ j, ¬ j = 0 → j ≤ 11 ∨ (452 ≤ j ∧ j < 1916 ∧ (5 ≤ (j - 452) % 24 ∨ (j - 452) % 24 ≤ 2)) ∨ (420 ≤ j ∧ j < 452) ∨ 1916 ≤ j → w1 j = w j := fun j a b => by rw [k6 j b, ew j a]
  have eW : W_223 w = LP_223_71 (61 - 0 : Int).toNat 0 w1 := k2
  have f1 : w1 1 = w 1 := fw 1 (by decide) (by omega)
  rw [eW]
  by_cases c : (w 0 + 1) % 20 = 0
  · have nw := newWeek k3 k4 (fun k a b => by
      rw [fw 10 (by omega) (by omega)] at b
      have := hg.2.2.2.2.2.1 k a b
      rw [fw _ (by omega) (by omega), f0]
      omega) (fun t p a b x y => by
      rw [fw 9 (by omega) (by omega)] at b
      have := (hg.2.2.2.2.1 t a b).2.2.2.2 p x y
      rw [fw (452 + 24 * t + 8 + p) (by omega) (Or.inr (Or.inl ⟨by omega, by omega, Or.inl (by omega)⟩)), f0]
      omega) (by rw [f0]; exact c)
    obtain ⟨w2, q1, q2, q3, q4, -⟩ := weekLoop (s := s) (60 - 0 : Int).toNat (61 - 0 : Int).toNat 0 (g_49 (s + 10) d1) w1 (by omega) k3 nw (by rw [f0]; exact c) (by rw [fw 9 (by omega) (by omega), show (((60 - 0 : Int).toNat : Nat) : Int) = 60 by decide]; omega) (by rw [fw 9 (by omega) (by omega), show (((61 - 0 : Int).toNat : Nat) : Int) = 61 by decide]; omega)
    rw [q1]
    have := fund219 ⟨q2, s, _, q3⟩
    have := q4 1 (by decide) (by decide)
    omega
  · have hr := k4.r (k5 c)
    have e : ∀ n : Nat, 0 < n → LP_223_71 n 0 w1 = W_219 w1 := fun n hn => by
      cases n with
      | zero => omega
      | succ n =>
        show ST_223_71 _ 0 w1 = _
        unfold ST_223_71
        split
        · rw [if_neg (by rw [f0]; exact c)]
        · rfl
    rw [e _ (by decide)]
    have := fund219 ⟨k3, s, _, hr⟩
    omega
theorem fundHours : ∀ (n : Nat) (w : Row), CB w → w 0 + (n : Int) ≤ 1199 → hoursW n w 1 ≤ w 1 := by
  intro n
  induction n with
  | zero =>
    intro w _ _
    exact Int.le_refl _
  | succ n ih =>
    intro w hC h
    obtain ⟨hg, s, d, r⟩ := id hC
    have a := fund223 hC (by omega)
    obtain ⟨-, j1, j2, j3, -⟩ := passHours (s := s) (N := 1) (by decide) hg r (by omega)
    have eh : hoursW (1 : Int).toNat w = W_223 w := rfl
    rw [eh] at j1 j2 j3
    have b := ih (W_223 w) ⟨j1, s, _, j2⟩ (by omega)
    show hoursW n (W_223 w) 1 ≤ w 1
    omega
theorem lreS {o : Int} {w : Row} : (LRe o w).2 = ws w (12 + 68 * o + 4) 1 := by
  have gen : ∀ (n : Nat) (m i : Int) (u : Row), (LP_289_64 o n m i u).2 = u := by
    intro n
    induction n with
    | zero =>
      intro m i u
      show (ST_289_64 o _ m i u).2 = u
      unfold ST_289_64
      split <;> rfl
    | succ n ih =>
      intro m i u
      show (ST_289_64 o _ m i u).2 = u
      unfold ST_289_64
      split
      · exact ih _ _ _
      · rfl
  exact gen _ _ _ _
-- what an act does to the fund
theorem fundNW {A : Int → Int} {c : Int} {w : Row} (hC : CB w) (h9 : w 0 ≤ 999) (hr : RG A w) (hf : A 0 = 7 → w 1 + A 3 ≤ 99999) (ok : OKA (A 0) (A 1) (A 2) (A 3) w) : NW (A 0) (A 1) (A 2) (A 3) c w 1 ≤ w 1 + A 3 := by
  obtain ⟨hg, s, d, r⟩ := id hC
  obtain ⟨n7, n8, n9, n10, n11, n0, n1, n2, n3, n4, n5, n6⟩ := id hg.1
  have r3 := hr.2.2.2.2.2.2.2.2.2.2.2
  have cs : A 0 = 0 ∨ A 0 = 1 ∨ A 0 = 2 ∨ A 0 = 3 ∨ A 0 = 4 ∨ A 0 = 5 ∨ A 0 = 6 ∨ A 0 = 7 ∨ A 0 = 8 ∨ A 0 = 9 ∨ A 0 = 10 ∨ A 0 = 11 := by
    have := hr.1
    omega
  rcases cs with e | e | e | e | e | e | e | e | e | e | e | e
  · have q := hr.2.1 e
    have go := (hg.2.1 _ q.2.1 q.2.2).2.2.2.2.1
    obtain ⟨-, -, -, -, -, hS⟩ := newW (p := A 1) (o := A 2) (w := w) (by omega) (by omega) (by omega)
    rw [e]
    have : W_226 (A 1) (A 2) w 1 = w 1 := hS 1 (by omega) (by omega) (by omega) (by omega)
    show W_226 (A 1) (A 2) w 1 ≤ _
    omega
  · have q := hr.2.2.1 e
    have o := ok.2.1 e
    obtain ⟨-, p2, p3, -⟩ := placeIn hg r q o
    have gt := hg.2.2.2.1 _ q.1 q.2
    have go := (hg.2.1 _ gt.2.1.1 gt.2.1.2).2.2.2.2.1
    have tk := take220 (o := w (452 + 24 * A 1 + 1)) (w := w) p2 (by omega) (by omega)
    rw [e]
    have : WLv (A 1) w 1 = w 1 := by
      unfold WLv
      rw [wsn (by omega), wsn (by omega)]
      exact tk.2.2 1 (by omega) (by omega)
    show WLv (A 1) w 1 ≤ _
    omega
  · have q := hr.2.2.2.1 e
    have o := ok.2.2.1 e
    have := fundHours (A 1).toNat w hC (by omega)
    rw [e]
    show hoursW (A 1).toNat w 1 ≤ _
    omega
  · have q := hr.2.2.2.2.1 e
    rw [e]
    have ev : V_227 (A 1) w = if w (452 + 24 * A 1 + 4) = 1 then (if w (452 + 24 * A 1 + 5) = 0 then 1 else 0) else 0 := rfl
    have o := ok.2.2.2.1 e
    rw [ev] at o
    have o1 : w (452 + 24 * A 1 + 4) = 1 ∧ w (452 + 24 * A 1 + 5) = 0 := by
      by_cases c1 : w (452 + 24 * A 1 + 4) = 1
      · rw [if_pos c1] at o
        by_cases c2 : w (452 + 24 * A 1 + 5) = 0
        · exact ⟨c1, c2⟩
        · rw [if_neg c2] at o
          exact absurd rfl o
      · rw [if_neg c1] at o
        exact absurd rfl o
    have f := (claim hg r q o1.1 o1.2 h9).2.2.2
    have := f 1 (by decide)
    show W_228 (A 1) w 1 ≤ _
    omega
  · have q := hr.2.2.2.2.2.1 e
    have o := ok.2.2.2.2.1 e
    rw [e]
    have := (attest hg r q.1 q.2 o h9).2.2.2 1 (by decide)
    show W_235 (A 1) (A 2) w 1 ≤ _
    omega
  · rw [e]
    have := lp285f (p := A 1) (o := A 2) (m0 := A 3) (200 - 0 : Int).toNat (A 3) 0 w (by decide) 1 (by decide)
    show (LP_285_79 (A 1) (A 2) (A 3) (200 - 0 : Int).toNat (A 3) 0 w).2 1 ≤ _
    omega
  · rw [e]
    obtain ⟨w', j0, j1, j2, -, j6⟩ := offLoop2 (s := s) (p := A 1) (m0 := A 3) (200 - 0 : Int).toNat (200 - 0 : Int).toNat (A 3) 0 d w (by decide) hg r (by omega) (by omega)
    have a := fund219 ⟨j1, s, _, j2⟩
    have b := j6 1 (by decide) (by decide)
    show (LP_286_65 (A 1) (A 3) (200 - 0 : Int).toNat (A 3) 0 w).2 1 ≤ _
    rw [j0]
    show W_219 w' 1 ≤ _
    omega
  · rw [e]
    obtain ⟨a1, a2⟩ := setFund (v := w 1 + A 3) hg r (by have := hf e; omega)
    have a := fund219 ⟨a1, s, _, a2⟩
    rw [wse rfl] at a
    show W_219 (ws w 1 (w 1 + A 3)) 1 ≤ _
    exact a
  · have q := hr.2.2.2.2.2.2.2.2.1 e
    have o := ok.2.2.2.2.2.2.2.1 e
    have ev : V_270 (A 1) (A 2) w = if A 1 = A 2 then 0 else if w (12 + 68 * A 1 + 4) = 0 then 0 else if w (12 + 68 * A 2 + 4) = 0 then 0 else 1 := rfl
    rw [ev] at o
    have o1 : ¬ A 1 = A 2 := fun z => o (if_pos z)
    rw [if_neg o1] at o
    have o2 : ¬ w (12 + 68 * A 1 + 4) = 0 := fun z => o (if_pos z)
    rw [if_neg o2] at o
    have o3 : ¬ w (12 + 68 * A 2 + 4) = 0 := fun z => o (if_pos z)
    have oo : w (12 + 68 * A 2 + 4) = 1 := by
      rcases (hg.2.1 _ q.2.1 q.2.2).2.2.2.1 with z | z
      · exact absurd z o3
      · exact z
    have := (merge hg r q.1 q.2 o1 oo).2.2 1 (by decide) (by decide)
    rw [e]
    show W_229 (A 1) (A 2) w 1 ≤ _
    omega
  · have q := hr.2.2.2.2.2.2.2.2.2.1 e
    rw [e]
    show (LRe (A 1) w).2 1 ≤ _
    rw [lreS, wsn (by omega)]
    omega
  · rw [e]
    show W_182 c w 1 ≤ _
    unfold W_182
    rw [wsn (by decide), wsn (by omega), wsn (by omega)]
    omega
  · have q := hr.2.2.2.2.2.2.2.2.2.2.1 e
    rw [e]
    show ws w (2 + A 1) (A 2) 1 ≤ _
    rw [wsn (by omega)]
    omega
theorem duPos {E' : mO × tW} {A : Int → Int} {d : mD} (hT : TKL E') (h : Inv2 E' d) (hr : RG A (d 770)) (hf : A 0 = 7 → d 770 1 + A 3 ≤ 99999) (ok : OKA (A 0) (A 1) (A 2) (A 3) (d 770)) : 0 ≤ DU (A 0) (A 1) (A 2) (A 3) (d 770) := by
  obtain ⟨⟨hS, hh, hi⟩, -⟩ := id h
  obtain ⟨hg, hw, hp, ht, r⟩ := id hi.1
  have tm : d 1 2 = d 770 0 := r.1.2.1
  generalize hww : d 770 = w at *
  obtain ⟨n7, n8, n9, n10, n11, n0, n1, n2, n3, n4, n5, n6⟩ := id hg.1
  have r3 := hr.2.2.2.2.2.2.2.2.2.2.2
  have cs : A 0 = 0 ∨ A 0 = 1 ∨ A 0 = 2 ∨ A 0 = 3 ∨ A 0 = 4 ∨ A 0 = 5 ∨ A 0 = 6 ∨ A 0 = 7 ∨ A 0 = 8 ∨ A 0 = 9 ∨ A 0 = 10 ∨ A 0 = 11 := by
    have := hr.1
    omega
  rcases cs with e | e | e | e | e | e | e | e | e | e | e | e
  · have q := hr.2.1 e
    have go := (hg.2.1 _ q.2.1 q.2.2).2.2.2.2.1
    obtain ⟨e9, -⟩ := newW (p := A 1) (o := A 2) (w := w) (by omega) (by omega) (by omega)
    have e9 : V_226 (A 1) (A 2) w = w 9 := e9
    rw [e, show DU 0 (A 1) (A 2) (A 3) w = V_226 (A 1) (A 2) w from if_neg (ok.1 e), e9]
    omega
  · have q := hr.2.2.1 e
    have gt := hg.2.2.2.1 _ q.1 q.2
    rw [e, show DU 1 (A 1) (A 2) (A 3) w = w 0 - w (452 + 24 * A 1 + 2) from if_pos (ok.2.1 e)]
    omega
  · have q := hr.2.2.2.1 e
    have o := ok.2.2.1 e
    obtain ⟨j0, -⟩ := passHours (s := 1) (N := A 1) (by omega) hg r (by omega)
    obtain ⟨-, fv, -⟩ := p_68 (E := E') (x0 := 1) (x1 := A 1) hS s1B (by omega) (by omega) (Or.inr (by omega)) ⟨hT.t 6 1 (by decide), trivial, trivial⟩ hh
    rw [e, show DU 2 (A 1) (A 2) (A 3) w = srvN (hoursW (A 1).toNat w) - srvN w from if_neg o, ← j0]
    exact fv.1
  · have q := hr.2.2.2.2.1 e
    have o := ok.2.2.2.1 e
    have ev : V_227 (A 1) w = if w (452 + 24 * A 1 + 4) = 1 then (if w (452 + 24 * A 1 + 5) = 0 then 1 else 0) else 0 := rfl
    have o' := o
    rw [ev] at o'
    have o1 : w (452 + 24 * A 1 + 4) = 1 ∧ w (452 + 24 * A 1 + 5) = 0 := by
      by_cases c1 : w (452 + 24 * A 1 + 4) = 1
      · rw [if_pos c1] at o'
        by_cases c2 : w (452 + 24 * A 1 + 5) = 0
        · exact ⟨c1, c2⟩
        · rw [if_neg c2] at o'
          exact absurd rfl o'
      · rw [if_neg c1] at o'
        exact absurd rfl o'
    have j0 := (claim hg r q o1.1 o1.2 ht).1
    obtain ⟨-, fv, -⟩ := p_74 (E := E') (x0 := 1) (x1 := A 1) hS s1B (by omega) ⟨hT.t 6 1 (by decide), trivial, trivial⟩ hh
    rw [e, show DU 3 (A 1) (A 2) (A 3) w = V_228 (A 1) w from if_neg o, ← j0]
    exact fv.1
  · have q := hr.2.2.2.2.2.1 e
    have o := ok.2.2.2.2.1 e
    have j0 := (attest hg r q.1 q.2 o ht).1
    obtain ⟨q1, -⟩ := hinder hg r q.1 q.2
    have w2 : d (1 + 10 + 4) (A 2) ≤ 2 := by
      rcases (p_77 (E := E') (x0 := 1) (x1 := A 1) (x2 := A 2) hS s1B (by omega) (by omega) ⟨hT.t 6 1 (by decide), trivial, trivial, trivial⟩ hh).2.2 with z | z
      · exact absurd (q1.trans o) z
      · exact z
    obtain ⟨-, fv, -⟩ := p_75 (E := E') (x0 := 1) (x1 := A 1) (x2 := A 2) hS s1B (by omega) (by omega) w2 ⟨hT.t 6 1 (by decide), trivial, trivial, trivial⟩ hh
    rw [e, show DU 4 (A 1) (A 2) (A 3) w = V_235 (A 1) (A 2) w from if_pos o, ← j0]
    exact fv.1
  · have q := hr.2.2.2.2.2.2.1 e
    obtain ⟨w', j0, j1, -⟩ := giveLoop (s := 1) (p := A 1) (o := A 2) (m0 := A 3) (200 - 0 : Int).toNat (200 - 0 : Int).toNat (A 3) 0 d w (by decide) hg r q.2 (by omega) (by omega)
    have vr := v245Rng (p := A 2) (q := 0) j1
    rw [e, show DU 5 (A 1) (A 2) (A 3) w = (LGv (A 1) (A 2) (A 3) w).1 from if_neg (ok.2.2.2.2.2.1 e)]
    unfold LGv
    rw [j0]
    exact vr.1
  · obtain ⟨w', j0, j1, j2, -, -⟩ := offLoop2 (s := 1) (p := A 1) (m0 := A 3) (200 - 0 : Int).toNat (200 - 0 : Int).toNat (A 3) 0 d w (by decide) hg r (by omega) (by omega)
    have j2 : Rel 1 (g_115 58 (A 1) (A 3) d) w' := j2
    have q := hr.2.2.2.2.2.2.2.1 e
    obtain ⟨s0, -⟩ := settle j1 j2
    obtain ⟨fh, f1, fS⟩ := p_115 (E := E') (x0 := 58) (x1 := A 1) (x2 := A 3) hS s1B (by omega) (by omega) ⟨hT.t 9 58 (by decide), trivial, trivial, trivial⟩ hh
    obtain ⟨-, fv, -⟩ := p_82 (E := E') (x0 := 1) fS s1B ⟨hT.t 6 1 (by decide), trivial⟩ fh
    rw [e, show DU 6 (A 1) (A 2) (A 3) w = (LOf (A 1) (A 3) w).1 from if_neg (ok.2.2.2.2.2.2.1 e)]
    unfold LOf
    rw [j0]
    show 0 ≤ V_219 w'
    rw [← s0]
    exact fv.1
  · obtain ⟨a1, a2⟩ := setFund (v := w 1 + A 3) hg r (by have := hf e; omega)
    obtain ⟨-, s1, -⟩ := settle a1 a2
    rw [e, show DU 7 (A 1) (A 2) (A 3) w = W_219 (ws w 1 (w 1 + A 3)) 1 from rfl]
    exact s1.1.2.2.2.2.2.2.1.1
  · have q := hr.2.2.2.2.2.2.2.2.1 e
    have o := ok.2.2.2.2.2.2.2.1 e
    have ev : V_270 (A 1) (A 2) w = if A 1 = A 2 then 0 else if w (12 + 68 * A 1 + 4) = 0 then 0 else if w (12 + 68 * A 2 + 4) = 0 then 0 else 1 := rfl
    have o' := o
    rw [ev] at o'
    have o1 : ¬ A 1 = A 2 := fun z => o' (if_pos z)
    rw [if_neg o1] at o'
    have o2 : ¬ w (12 + 68 * A 1 + 4) = 0 := fun z => o' (if_pos z)
    rw [if_neg o2] at o'
    have o3 : ¬ w (12 + 68 * A 2 + 4) = 0 := fun z => o' (if_pos z)
    have oo : w (12 + 68 * A 2 + 4) = 1 := by
      rcases (hg.2.1 _ q.2.1 q.2.2).2.2.2.1 with z | z
      · exact absurd z o3
      · exact z
    obtain ⟨j1, -, j3⟩ := merge hg r q.1 q.2 o1 oo
    have w7 := j3 7 (by decide) (by decide)
    rw [e, show DU 8 (A 1) (A 2) (A 3) w = W_229 (A 1) (A 2) w (12 + 68 * A 2 + 5) from if_neg o]
    exact (j1.2.1 (A 2) q.2.1 (by omega)).2.2.2.2.1.1
  · have q := hr.2.2.2.2.2.2.2.2.2.1 e
    obtain ⟨j1, j2⟩ := setOpen hg r q
    have n7' := j1.1.1
    have oc := openCnt (x1 := A 1) j1 j2 (6 - 0 : Int).toNat 0 0 (by decide) (by omega)
    have ob := b37 (d := mset d 8 (A 1) 1) (6 - 0 : Int).toNat 0 0 (by decide)
    rw [e, show DU 9 (A 1) (A 2) (A 3) w = (LRe (A 1) w).1 from if_pos (ok.2.2.2.2.2.2.2.2.1 e)]
    unfold LRe
    rw [oc]
    exact ob.1
  · rw [e, show DU 10 (A 1) (A 2) (A 3) w = w 8 from if_neg (ok.2.2.2.2.2.2.2.2.2.1 e)]
    omega
  · have q := hr.2.2.2.2.2.2.2.2.2.2.1 e
    rw [e, show DU 11 (A 1) (A 2) (A 3) w = w (2 + A 1) from if_pos (ok.2.2.2.2.2.2.2.2.2.2 e)]
    have : A 1 = 0 ∨ A 1 = 1 ∨ A 1 = 2 ∨ A 1 = 3 ∨ A 1 = 4 := by omega
    rcases this with z | z | z | z | z <;> rw [z]
    · exact n2.1
    · exact n3.1
    · exact Int.le_trans (by decide) n4.1
    · exact Int.le_trans (by decide) n5.1
    · exact Int.le_trans (by decide) n6.1
