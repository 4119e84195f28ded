/-! ===== give and offer ===== -/
theorem ownW {b p q : Int} {d : mD} {w : Row} (hW : WR b d w) (hg : GG w) : csum (wOwnF b p q d) (d b 5).toNat = V_245 p q w := by
  obtain ⟨n7, n8, n9, n10, n11, n0, n1, n2, n3, n4, n5, n6⟩ := id hg.1
  obtain ⟨q0, q1, q2, q3, q4, q5, q6⟩ := hW.eq
  rw [v245 n10, q5]
  refine csum_congr (fun k x y => ?_)
  obtain ⟨g1, g2, g3, g4, g5⟩ := hW.2.2.2.2.2.2.2.1 k x (by omega)
  show (if d (b + 19) k = p ∧ d (b + 22) k = q then (1 : Int) else 0) = _
  rw [g1, g4]
theorem giveSkip {a o n0 r : Int} : ∀ (n : Nat) (m k : Int) (w : Row), 0 < m → 0 ≤ k → k ≤ r → r < w 10 → w 10 - k ≤ (n : Int) → (∀ j, k ≤ j → j < r → ¬ (w (1916 + 5 * j + 0) = a ∧ w (1916 + 5 * j + 3) = 0)) → ∃ n2 : Nat, w 10 - r ≤ (n2 : Int) ∧ LP_285_79 a o n0 n m k w = LP_285_79 a o n0 n2 m r w := by
  intro n
  induction n with
  | zero =>
    intro m k w hm k0 k1 k2 k3 h
    omega
  | succ n ih =>
    intro m k w hm k0 k1 k2 k3 h
    by_cases c : k = r
    · exact ⟨n + 1, by omega, by rw [c]⟩
    · obtain ⟨n2, p1, p2⟩ := ih m (k + 1) w hm (by omega) (by omega) k2 (by omega) (fun j x y => h j (by omega) y)
      refine ⟨n2, p1, ?_⟩
      rw [← p2]
      show ST_285_79 a o n0 _ m k w = _
      unfold ST_285_79
      rw [if_pos (by omega), if_pos hm]
      by_cases c1 : w (1916 + 5 * k + 0) = a
      · rw [if_pos c1, if_neg (fun z => h k (Int.le_refl k) (by omega) ⟨c1, z⟩)]
      · rw [if_neg c1]
theorem giveRun {E : mO × tW} {K : tK} {b x a o n0 : Int} {A : Int → Int} (hx : x < b ∨ b + 27 < x) (e1 : A 1 = a) (e2 : A 2 = o) (hao : ¬ a = o) (h3 : A 3 ≤ 200) : ∀ (m : Nat) (i : Int) (d : mD) (w : Row) (kk : Int) (fuel : Nat), d x = A → WR b d w → CB w → 0 ≤ a ∧ a < w 8 → 0 ≤ o ∧ o < w 8 → A 3 - i = (m : Int) → 0 ≤ i → 0 ≤ kk → w 10 - kk ≤ (fuel : Int) → (∀ j, 0 ≤ j → j < kk → j < w 10 → ¬ (w (1916 + 5 * j + 0) = a ∧ w (1916 + 5 * j + 3) = 0)) → (m : Int) ≤ V_245 a 0 w → (∀ d', WR b d' (LP_285_79 a o n0 fuel (m : Int) kk w).2 → WF b d d' → K (.inl (some (0, (LP_285_79 a o n0 fuel (m : Int) kk w).1))) d') →
    tRun E 372 (261, [.inr (41, b), .inr (46, x), .inl (0, i), tu], [], 0, 0, d) K := by
  intro m
  induction m with
  | zero =>
    intro i d w kk fuel hA hW hC ha ho hi i0 hk hf hno hm k
    have hg := hC.1
    obtain ⟨n7, n8, n9, n10, n11, n0', n1, n2, n3, n4, n5, n6⟩ := id hg.1
    obtain ⟨q0, q1, q2, q3, q4, q5, q6⟩ := hW.eq
    have z : ¬ (0 : Int) < ((0 : Nat) : Int) := by decide
    have e : LP_285_79 a o n0 fuel ((0 : Nat) : Int) kk w = (V_245 o 0 w, w) := by
      cases fuel with
      | zero =>
        show ST_285_79 a o n0 _ _ kk w = _
        unfold ST_285_79
        by_cases c : kk < w 10
        · rw [if_pos c, if_neg z]
        · rw [if_neg c]
      | succ n =>
        show ST_285_79 a o n0 _ _ kk w = _
        unfold ST_285_79
        by_cases c : kk < w 10
        · rw [if_pos c, if_neg z]
        · rw [if_neg c]
    rw [e] at k
    refine t_372_261 ⟨by decide, ⟨m_inR (by omega) (by omega), by rw [hA]; exact m_inR (by omega) (by omega)⟩, fun _ => ⟨by decide, ?_⟩, fun y => absurd y (by rw [hA]; omega)⟩
    rw [show d x 2 = o by rw [hA]; exact e2]
    refine k_362 hW.1.1 (m_inR (by omega) (by omega)) (m_inR (by omega) (by omega)) (by omega) ?_
    rw [ownW hW hg]
    refine t_372_297 ?_
    exact k d hW WF.refl
  | succ m ih =>
    intro i d w kk fuel hA hW hC ha ho hi i0 hk hf hno hm k
    obtain ⟨hg, s, dd, hr⟩ := id hC
    obtain ⟨n7, n8, n9, n10, n11, n0', n1, n2, n3, n4, n5, n6⟩ := id hg.1
    obtain ⟨q0, q1, q2, q3, q4, q5, q6⟩ := hW.eq
    have rK := hW.2.2.2.2.2.2.2.1
    refine t_372_261 ⟨by decide, ⟨m_inR (by omega) (by omega), by rw [hA]; exact m_inR (by omega) (by omega)⟩, fun y => absurd y (by rw [hA]; omega), fun _ => ⟨by decide, ?_⟩⟩
    rw [show d x 1 = a by rw [hA]; exact e1]
    refine k_363 hW.1.1 (m_inR (by omega) (by omega)) (by omega) (fun r hr' => ?_)
    rw [q5] at hr'
    have v0 := v245 (p := a) (q := 0) n10
    rcases hr' with ⟨-, no⟩ | ⟨r0, r1, r2, r3⟩
    · have cz : V_245 a 0 w = 0 := by
        rw [v0]
        refine csum_zero (fun j x y => ?_)
        obtain ⟨g1, g2, g3, g4, g5⟩ := rK j x (by omega)
        exact if_neg (fun z => no j x (by omega) ⟨g1.trans z.1, g4.trans z.2⟩)
      omega
    · obtain ⟨g1, g2, g3, g4, g5⟩ := rK r r0 r1
      have w1 : w (1916 + 5 * r + 0) = a := g1.symm.trans r2.1
      have w3 : w (1916 + 5 * r + 3) = 0 := g4.symm.trans r2.2
      have rk : kk ≤ r := by
        by_cases c : r < kk
        · exact absurd ⟨w1, w3⟩ (hno r r0 c r1)
        · omega
      have hnl : ∀ j, 0 ≤ j → j < r → ¬ (w (1916 + 5 * j + 0) = a ∧ w (1916 + 5 * j + 3) = 0) := fun j x y z => by
        obtain ⟨u1, u2, u3, u4, u5⟩ := rK j x (by omega)
        exact r3 j x y ⟨u1.trans z.1, u4.trans z.2⟩
      obtain ⟨f2, p1, p2⟩ := giveSkip (a := a) (o := o) (n0 := n0) (r := r) fuel ((m + 1 : Nat) : Int) kk w (by omega) hk rk r1 hf (fun j x y => hnl j (by omega) y)
      obtain ⟨a1, a2⟩ := giveStep (o := o) hg hr ⟨r0, r1⟩ ho
      have wd := giveW (o := o) hg hW ⟨r0, r1⟩ ho
      cases f2 with
      | zero => omega
      | succ f2 =>
        have e3 : LP_285_79 a o n0 (f2 + 1) ((m + 1 : Nat) : Int) r w = LP_285_79 a o n0 f2 ((m : Nat) : Int) (r + 1) (ws w (1916 + 5 * r + 0) o) := by
          show ST_285_79 a o n0 _ _ r w = _
          unfold ST_285_79
          rw [if_pos r1, if_pos (by omega), if_pos w1, if_pos w3, show ((m + 1 : Nat) : Int) + (-1) = (m : Int) by omega]
        rw [p2, e3] at k
        refine t_372_279 ⟨by decide, ⟨r0, by omega⟩, ?_⟩
        rw [show d x 2 = o by rw [hA]; exact e2]
        have S : ∀ j, ¬ j = 1916 + 5 * r + 0 → ws w (1916 + 5 * r + 0) o j = w j := fun j hj => wsn hj
        have S0 : ws w (1916 + 5 * r + 0) o (1916 + 5 * r + 0) = o := wse rfl
        have S10 := S 10 (by omega)
        have S8 := S 8 (by omega)
        refine ih (i + 1) _ (ws w (1916 + 5 * r + 0) o) (r + 1) f2 ?_ wd ⟨a1, s, _, a2⟩ (by rw [S8]; exact ha) (by rw [S8]; exact ho) (by omega) (by omega) (by omega) (by rw [S10]; omega) (fun j x y _ z => ?_) ?_ (fun d' h1 h2 => k d' h1 ((WF.set (by omega) (by omega) (by omega)).trans h2))
        · rw [← hA]
          funext j
          exact ms_a (by omega)
        · by_cases c : j = r
          · rw [c, S0] at z
            exact hao z.1.symm
          · rw [S _ (by omega), S _ (by omega)] at z
            exact hnl j x (by omega) z
        · have v2 := v245 (p := a) (q := 0) (w := ws w (1916 + 5 * r + 0) o) (by rw [S10]; exact n10)
          have cu := csum_upd (f := fun k => if w (1916 + 5 * k + 0) = a ∧ w (1916 + 5 * k + 3) = 0 then 1 else 0) (g := fun k => if ws w (1916 + 5 * r + 0) o (1916 + 5 * k + 0) = a ∧ ws w (1916 + 5 * r + 0) o (1916 + 5 * k + 3) = 0 then 1 else 0) (n := (w 10).toNat) (k := r) r0 (by omega) (fun j x y z => by
            show (if w (1916 + 5 * j + 0) = a ∧ w (1916 + 5 * j + 3) = 0 then (1 : Int) else 0) = if ws w (1916 + 5 * r + 0) o (1916 + 5 * j + 0) = a ∧ ws w (1916 + 5 * r + 0) o (1916 + 5 * j + 3) = 0 then 1 else 0
            rw [S _ (by omega), S _ (by omega)])
          have y1 : (if w (1916 + 5 * r + 0) = a ∧ w (1916 + 5 * r + 3) = 0 then (1 : Int) else 0) = 1 := if_pos ⟨w1, w3⟩
          have y2 : (if ws w (1916 + 5 * r + 0) o (1916 + 5 * r + 0) = a ∧ ws w (1916 + 5 * r + 0) o (1916 + 5 * r + 3) = 0 then (1 : Int) else 0) = 0 := if_neg (fun z => hao (z.1.symm.trans S0))
          rw [y1, y2, ← v0] at cu
          rw [S10] at v2
          rw [v2]
          omega
theorem d_5 {E : mO × tW} {K : tK} {b x : Int} {d : mD} {w : Row} (hx : x < b ∨ b + 27 < x) (hW : WR b d w) (hC : CB w) (e0 : d x 0 = 5) (ha : 0 ≤ d x 1 ∧ d x 1 < w 8) (ho : 0 ≤ d x 2 ∧ d x 2 < w 8) (hn : 1 ≤ d x 3 ∧ d x 3 ≤ 200)
    (k0 : (d x 1 = d x 2 ∨ V_245 (d x 1) 0 w < d x 3) → K (.inl (some (0, -100000))) d) (k1 : ¬ d x 1 = d x 2 → ¬ V_245 (d x 1) 0 w < d x 3 → ∀ d', WR b d' (LGv (d x 1) (d x 2) (d x 3) w).2 → WF b d d' → K (.inl (some (0, (LGv (d x 1) (d x 2) (d x 3) w).1))) d') : tCall E 372 [.inr (41, b), .inr (46, x)] d K := by
  have hg := hC.1
  obtain ⟨n7, n8, n9, n10, n11, n0, n1, n2, n3, n4, n5, n6⟩ := id hg.1
  obtain ⟨q0, q1, q2, q3, q4, q5, q6⟩ := hW.eq
  refine t_372_0 ⟨by decide, m_inR (by omega) (by omega), fun z => absurd (e0.symm.trans z) (by decide), fun z => absurd (e0.symm.trans z) (by decide), fun z => absurd (e0.symm.trans z) (by decide), fun z => absurd (e0.symm.trans z) (by decide), fun z => absurd (e0.symm.trans z) (by decide), fun _ => ⟨by decide, by decide, ⟨m_inR (by omega) (by omega), m_inR (by omega) (by omega)⟩, fun c => k0 (Or.inl c), fun c => ⟨by decide, ?_⟩⟩, fun z => absurd (e0.symm.trans z) (by decide), fun z => absurd (e0.symm.trans z) (by decide), fun z => absurd (e0.symm.trans z) (by decide), fun z => absurd (e0.symm.trans z) (by decide), fun z => absurd (e0.symm.trans z) (by decide), fun z => absurd z (by omega)⟩
  refine k_362 hW.1.1 (m_inR (by omega) (by omega)) (m_inR (by omega) (by omega)) (by omega) ?_
  rw [ownW hW hg]
  have vr : 0 ≤ V_245 (d x 1) 0 w ∧ V_245 (d x 1) 0 w ≤ 200 := by
    rw [v245 n10]
    have := csum_rng (f := fun k => if w (1916 + 5 * k + 0) = d x 1 ∧ w (1916 + 5 * k + 3) = 0 then 1 else 0) (n := (w 10).toNat) (B := 1) (fun i _ _ => by
      show 0 ≤ (if _ then (1 : Int) else 0) ∧ (if _ then (1 : Int) else 0) ≤ 1
      split <;> omega)
    omega
  refine t_372_250 ⟨by decide, ⟨m_inR (by omega) (by omega), m_inR (by omega) (by omega)⟩, fun c2 => ?_, fun c2 => k0 (Or.inr c2)⟩
  have e : ((d x 3).toNat : Int) = d x 3 := by omega
  refine giveRun (A := d x) (n0 := d x 3) hx rfl rfl c hn.2 (d x 3).toNat 0 d w 0 (200 - 0 : Int).toNat rfl hW hC ha ho (by omega) (by decide) (by decide) (by rw [show (((200 - 0 : Int).toNat : Nat) : Int) = 200 by decide]; omega) (fun j y z _ => by omega) (by omega) (fun d' h1 h2 => ?_)
  rw [e] at h1 ⊢
  exact k1 c (by omega) d' h1 h2
theorem offSkip {a n0 r : Int} : ∀ (n : Nat) (m k : Int) (w : Row), 0 < m → 0 ≤ k → k ≤ r → r < w 10 → w 10 - k ≤ (n : Int) → (∀ j, k ≤ j → j < r → ¬ (w (1916 + 5 * j + 0) = a ∧ w (1916 + 5 * j + 3) = 0)) → ∃ n2 : Nat, w 10 - r ≤ (n2 : Int) ∧ LP_286_65 a n0 n m k w = LP_286_65 a n0 n2 m r w := by
  intro n
  induction n with
  | zero =>
    intro m k w hm k0 k1 k2 k3 h
    omega
  | succ n ih =>
    intro m k w hm k0 k1 k2 k3 h
    by_cases c : k = r
    · exact ⟨n + 1, by omega, by rw [c]⟩
    · obtain ⟨n2, p1, p2⟩ := ih m (k + 1) w hm (by omega) (by omega) k2 (by omega) (fun j x y => h j (by omega) y)
      refine ⟨n2, p1, ?_⟩
      rw [← p2]
      show ST_286_65 a n0 _ m k w = _
      unfold ST_286_65
      rw [if_pos (by omega), if_pos hm]
      by_cases c1 : w (1916 + 5 * k + 0) = a
      · rw [if_pos c1, if_neg (fun z => h k (Int.le_refl k) (by omega) ⟨c1, z⟩)]
      · rw [if_neg c1]
theorem offRun {E : mO × tW} {K : tK} {b x a n0 : Int} {A : Int → Int} (hx : x < b ∨ b + 27 < x) (e1 : A 1 = a) (h3 : A 3 ≤ 200) : ∀ (m : Nat) (i : Int) (v3 : tV) (d : mD) (w : Row) (kk : Int) (fuel : Nat), d x = A → WR b d w → CB w → PB 19800 w → 0 ≤ a ∧ a < w 8 → A 3 - i = (m : Int) → 0 ≤ i → 0 ≤ kk → w 10 - kk ≤ (fuel : Int) → (∀ j, 0 ≤ j → j < kk → j < w 10 → ¬ (w (1916 + 5 * j + 0) = a ∧ w (1916 + 5 * j + 3) = 0)) → (m : Int) ≤ V_245 a 0 w → (∀ d', WR b d' (LP_286_65 a n0 fuel (m : Int) kk w).2 → WF b d d' → K (.inl (some (0, (LP_286_65 a n0 fuel (m : Int) kk w).1))) d') →
    tRun E 372 (317, [.inr (41, b), .inr (46, x), .inl (0, i), v3], [], 0, 0, d) K := by
  intro m
  induction m with
  | zero =>
    intro i v3 d w kk fuel hA hW hC hP ha hi i0 hk hf hno hm k
    have hg := hC.1
    have z : ¬ (0 : Int) < ((0 : Nat) : Int) := by decide
    have e : LP_286_65 a n0 fuel ((0 : Nat) : Int) kk w = (V_219 w, W_219 w) := by
      cases fuel with
      | zero =>
        show ST_286_65 a n0 _ _ kk w = _
        unfold ST_286_65
        by_cases c : kk < w 10
        · rw [if_pos c, if_neg z]
        · rw [if_neg c]
      | succ n =>
        show ST_286_65 a n0 _ _ kk w = _
        unfold ST_286_65
        by_cases c : kk < w 10
        · rw [if_pos c, if_neg z]
        · rw [if_neg c]
    rw [e] at k
    refine t_372_317 ⟨by decide, ⟨m_inR (by omega) (by omega), by rw [hA]; exact m_inR (by omega) (by omega)⟩, fun _ => ?_, fun y => absurd y (by rw [hA]; omega)⟩
    refine w_350 hW hC hP (fun d' h1 h2 => ?_)
    refine t_372_369 ?_
    exact k d' h1 h2
  | succ m ih =>
    intro i v3 d w kk fuel hA hW hC hP ha hi i0 hk hf hno hm k
    obtain ⟨hg, s, dd, hr⟩ := id hC
    obtain ⟨n7, n8, n9, n10, n11, n0', n1, n2, n3, n4, n5, n6⟩ := id hg.1
    obtain ⟨q0, q1, q2, q3, q4, q5, q6⟩ := hW.eq
    have rK := hW.2.2.2.2.2.2.2.1
    refine t_372_317 ⟨by decide, ⟨m_inR (by omega) (by omega), by rw [hA]; exact m_inR (by omega) (by omega)⟩, fun y => absurd y (by rw [hA]; omega), fun _ => ⟨by decide, ?_⟩⟩
    rw [show d x 1 = a by rw [hA]; exact e1]
    refine k_363 hW.1.1 (m_inR (by omega) (by omega)) (by omega) (fun r hr' => ?_)
    rw [q5] at hr'
    have v0 := v245 (p := a) (q := 0) n10
    rcases hr' with ⟨-, no⟩ | ⟨r0, r1, r2, r3⟩
    · have cz : V_245 a 0 w = 0 := by
        rw [v0]
        refine csum_zero (fun j x y => ?_)
        obtain ⟨g1, g2, g3, g4, g5⟩ := rK j x (by omega)
        exact if_neg (fun z => no j x (by omega) ⟨g1.trans z.1, g4.trans z.2⟩)
      omega
    · obtain ⟨g1, g2, g3, g4, g5⟩ := rK r r0 r1
      have w1 : w (1916 + 5 * r + 0) = a := g1.symm.trans r2.1
      have w3 : w (1916 + 5 * r + 3) = 0 := g4.symm.trans r2.2
      have rk : kk ≤ r := by
        by_cases c : r < kk
        · exact absurd ⟨w1, w3⟩ (hno r r0 c r1)
        · omega
      have hnl : ∀ j, 0 ≤ j → j < r → ¬ (w (1916 + 5 * j + 0) = a ∧ w (1916 + 5 * j + 3) = 0) := fun j x y z => by
        obtain ⟨u1, u2, u3, u4, u5⟩ := rK j x (by omega)
        exact r3 j x y ⟨u1.trans z.1, u4.trans z.2⟩
      obtain ⟨f2, p1, p2⟩ := offSkip (a := a) (n0 := n0) (r := r) fuel ((m + 1 : Nat) : Int) kk w (by omega) hk rk r1 hf (fun j x y => hnl j (by omega) y)
      obtain ⟨h11, a1, a2⟩ := offStep hg hr ⟨r0, r1⟩ w3
      have wd := offW hg hW ⟨r0, r1⟩ h11
      cases f2 with
      | zero => omega
      | succ f2 =>
        have e3 : LP_286_65 a n0 (f2 + 1) ((m + 1 : Nat) : Int) r w = LP_286_65 a n0 f2 ((m : Nat) : Int) (r + 1) (ws (ws (ws w ((1916 + (5 * r)) + 3) 1) (2916 + (w 11)) r) 11 ((w 11) + 1)) := by
          show ST_286_65 a n0 _ _ r w = _
          unfold ST_286_65
          rw [if_pos r1, if_pos (by omega), if_pos w1, if_pos w3, show ((m + 1 : Nat) : Int) + (-1) = (m : Int) by omega]
        rw [p2, e3] at k
        have y6 : mset d (b + 22) r 1 b 6 = w 11 := by rw [ms_a (by omega)]; exact q6
        have y7 : mset (mset d (b + 22) r 1) (b + 24) (w 11) r b 6 = w 11 := by rw [ms_a (by omega)]; exact y6
        refine t_372_331 ⟨⟨r0, by omega⟩, by rw [y6]; omega, ?_⟩
        rw [y6, y7]
        have S : ∀ j, ¬ j = 1916 + 5 * r + 3 → ¬ j = 2916 + w 11 → ¬ j = 11 → ws (ws (ws w ((1916 + (5 * r)) + 3) 1) (2916 + (w 11)) r) 11 ((w 11) + 1) j = w j := fun j x y z => by rw [wsn z, wsn y, wsn x]
        have S3 : ws (ws (ws w ((1916 + (5 * r)) + 3) 1) (2916 + (w 11)) r) 11 ((w 11) + 1) (1916 + 5 * r + 3) = 1 := by rw [wsn (by omega), wsn (by omega), wse rfl]
        have hF : WF b d (mset (mset (mset d (b + 22) r 1) (b + 24) (w 11) r) b 6 (w 11 + 1)) := ((WF.refl.st (by omega) (by omega) (by omega)).st (by omega) (by omega) (by omega)).st (by omega) (by omega) (by omega)
        generalize ws (ws (ws w ((1916 + (5 * r)) + 3) 1) (2916 + (w 11)) r) 11 ((w 11) + 1) = w' at *
        have S10 := S 10 (by omega) (by omega) (by omega)
        have S8 := S 8 (by omega) (by omega) (by omega)
        refine ih (i + 1) _ _ w' (r + 1) f2 ((hF.1 x hx).trans hA) wd ⟨a1, s, _, a2⟩ (fun p y0 y1 => ?_) (by rw [S8]; exact ha) (by omega) (by omega) (by omega) (by rw [S10]; omega) (fun j x y y' z => ?_) ?_ (fun d' h1 h2 => k d' h1 (hF.trans h2))
        · rw [S8] at y1
          rw [S (420 + 2 * p + 1) (by omega) (by omega) (by omega)]
          exact hP p y0 y1
        · by_cases c : j = r
          · rw [c, S3] at z
            exact absurd z.2 (by decide)
          · rw [S10] at y'
            rw [S _ (by omega) (by omega) (by omega), S _ (by omega) (by omega) (by omega)] at z
            exact hnl j x (by omega) z
        · have v2 := v245 (p := a) (q := 0) (w := w') (by rw [S10]; exact n10)
          have cu := csum_upd (f := fun k => if w (1916 + 5 * k + 0) = a ∧ w (1916 + 5 * k + 3) = 0 then 1 else 0) (g := fun k => if w' (1916 + 5 * k + 0) = a ∧ w' (1916 + 5 * k + 3) = 0 then 1 else 0) (n := (w 10).toNat) (k := r) r0 (by omega) (fun j x y z => by
            show (if w (1916 + 5 * j + 0) = a ∧ w (1916 + 5 * j + 3) = 0 then (1 : Int) else 0) = if w' (1916 + 5 * j + 0) = a ∧ w' (1916 + 5 * j + 3) = 0 then 1 else 0
            rw [S (1916 + 5 * j + 0) (by omega) (by omega) (by omega), S (1916 + 5 * j + 3) (by omega) (by omega) (by omega)])
          have y1 : (if w (1916 + 5 * r + 0) = a ∧ w (1916 + 5 * r + 3) = 0 then (1 : Int) else 0) = 1 := if_pos ⟨w1, w3⟩
          have y2 : (if w' (1916 + 5 * r + 0) = a ∧ w' (1916 + 5 * r + 3) = 0 then (1 : Int) else 0) = 0 := if_neg (fun z => absurd (z.2.symm.trans S3) (by decide))
          rw [y1, y2, ← v0] at cu
          rw [S10] at v2
          rw [v2]
          omega
theorem d_6 {E : mO × tW} {K : tK} {b x : Int} {d : mD} {w : Row} (hx : x < b ∨ b + 27 < x) (hW : WR b d w) (hC : CB w) (hP : GP w) (e0 : d x 0 = 6) (ha : 0 ≤ d x 1 ∧ d x 1 < w 8) (hn : 1 ≤ d x 3 ∧ d x 3 ≤ 200)
    (k0 : V_245 (d x 1) 0 w < d x 3 → K (.inl (some (0, -100000))) d) (k1 : ¬ V_245 (d x 1) 0 w < d x 3 → ∀ d', WR b d' (LOf (d x 1) (d x 3) w).2 → WF b d d' → K (.inl (some (0, (LOf (d x 1) (d x 3) w).1))) d') : tCall E 372 [.inr (41, b), .inr (46, x)] d K := by
  have hg := hC.1
  obtain ⟨n7, n8, n9, n10, n11, n0, n1, n2, n3, n4, n5, n6⟩ := id hg.1
  obtain ⟨q0, q1, q2, q3, q4, q5, q6⟩ := hW.eq
  refine t_372_0 ⟨by decide, m_inR (by omega) (by omega), fun z => absurd (e0.symm.trans z) (by decide), fun z => absurd (e0.symm.trans z) (by decide), fun z => absurd (e0.symm.trans z) (by decide), fun z => absurd (e0.symm.trans z) (by decide), fun z => absurd (e0.symm.trans z) (by decide), fun z => absurd (e0.symm.trans z) (by decide), fun _ => ⟨by decide, ?_⟩, fun z => absurd (e0.symm.trans z) (by decide), fun z => absurd (e0.symm.trans z) (by decide), fun z => absurd (e0.symm.trans z) (by decide), fun z => absurd (e0.symm.trans z) (by decide), fun z => absurd z (by omega)⟩
  refine k_362 hW.1.1 (m_inR (by omega) (by omega)) (m_inR (by omega) (by omega)) (by omega) ?_
  rw [ownW hW hg]
  have vr : 0 ≤ V_245 (d x 1) 0 w ∧ V_245 (d x 1) 0 w ≤ 200 := by
    rw [v245 n10]
    have := csum_rng (f := fun k => if w (1916 + 5 * k + 0) = d x 1 ∧ w (1916 + 5 * k + 3) = 0 then 1 else 0) (n := (w 10).toNat) (B := 1) (fun i _ _ => by
      show 0 ≤ (if _ then (1 : Int) else 0) ∧ (if _ then (1 : Int) else 0) ≤ 1
      split <;> omega)
    omega
  refine t_372_306 ⟨by decide, ⟨m_inR (by omega) (by omega), m_inR (by omega) (by omega)⟩, fun c2 => ?_, fun c2 => k0 c2⟩
  have e : ((d x 3).toNat : Int) = d x 3 := by omega
  refine offRun (A := d x) (n0 := d x 3) hx rfl hn.2 (d x 3).toNat 0 tu d w 0 (200 - 0 : Int).toNat rfl hW hC (hP.pb hg.1) ha (by omega) (by decide) (by decide) (by rw [show (((200 - 0 : Int).toNat : Nat) : Int) = 200 by decide]; omega) (fun j y z _ => by omega) (by omega) (fun d' h1 h2 => ?_)
  rw [e] at h1 ⊢
  exact k1 (by omega) d' h1 h2
