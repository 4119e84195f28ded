/-! ===== World.settle ===== -/
def PB (B : Int) (w : Row) : Prop := ∀ p, 0 ≤ p → p < w 8 → 0 ≤ w (420 + 2 * p + 1) ∧ w (420 + 2 * p + 1) ≤ B
theorem GP.pb {w : Row} (hn : GN w) (h : GP w) : PB 19800 w := by
  intro p x y
  have g := h p x y
  have c : 0 ≤ C2 w ∧ C2 w ≤ ((w 10).toNat : Int) * 1 := csum_rng (fun i _ _ => by split <;> omega)
  have n := hn.2.2.2.1
  omega
theorem stlStepW {m b : Int} {d : mD} {w w' : Row} (hm : 0 ≤ m) (hg : GG w) (h : WM m b d w) (hp : PB 100000 w) (h11 : 0 < w 11) (h6 : w 6 ≤ w 1) (hS : StepS w w') :
    WM (m + 1) b (mset (mset (mset d b 1 (w 1 - w 6)) (b + 7) (w (1916 + 5 * w 2916 + 0)) (w (420 + 2 * w (1916 + 5 * w 2916 + 0) + 1) + w 6)) (b + 22) (w 2916) 2) w' := by
  obtain ⟨hN, hO, hQ, hT, hC, hK, hR⟩ := hg
  obtain ⟨n7, n8, n9, n10, n11, n0, n1, n2, n3, n4, n5, n6⟩ := id hN
  obtain ⟨rB, ⟨a0, a1, a2, a3, a4, a5, a6⟩, rO, rQ, rP, r1, r2, rK, ⟨s1', s2'⟩, rH, rD⟩ := h
  obtain ⟨s1, s2, s3, s4, s5, s6⟩ := hS
  have gtk := (hR.2 0 (by omega) h11).1
  simp only [Int.add_zero] at gtk
  have gow := (hK (w 2916) gtk.1 gtk.2).1
  have gpu := hp _ gow.1 gow.2
  have S6 : ∀ i, (¬ i = 1 ∧ ¬ i = 11 ∧ ¬ i = 420 + 2 * w (1916 + 5 * w 2916 + 0) + 1 ∧ ¬ i = 1916 + 5 * w 2916 + 3 ∧ ¬ (2916 ≤ i ∧ i < 2916 + w 11 - 1)) → w' i = w i := fun i h => s6 i h.1 h.2.1 h.2.2.1 h.2.2.2.1 h.2.2.2.2
  have hB : WB b (mset (mset (mset d b 1 (w 1 - w 6)) (b + 7) (w (1916 + 5 * w 2916 + 0)) (w (420 + 2 * w (1916 + 5 * w 2916 + 0) + 1) + w 6)) (b + 22) (w 2916) 2) :=
    ((rB.st (by omega) (by omega) (by omega) (by omega)).st (by omega) (by omega) (by omega) (by omega)).st (by decide) (by omega) (by omega) (by omega)
  have e1 : mset (mset (mset d b 1 (w 1 - w 6)) (b + 7) (w (1916 + 5 * w 2916 + 0)) (w (420 + 2 * w (1916 + 5 * w 2916 + 0) + 1) + w 6)) (b + 22) (w 2916) 2 b 1 = w 1 - w 6 := by rw [ms_a (by omega), ms_a (by omega), ms_e rfl rfl]
  have e7 : mset (mset (mset d b 1 (w 1 - w 6)) (b + 7) (w (1916 + 5 * w 2916 + 0)) (w (420 + 2 * w (1916 + 5 * w 2916 + 0) + 1) + w 6)) (b + 22) (w 2916) 2 (b + 7) (w (1916 + 5 * w 2916 + 0)) = w (420 + 2 * w (1916 + 5 * w 2916 + 0) + 1) + w 6 := by rw [ms_a (by omega), ms_e rfl rfl]
  have e22 : mset (mset (mset d b 1 (w 1 - w 6)) (b + 7) (w (1916 + 5 * w 2916 + 0)) (w (420 + 2 * w (1916 + 5 * w 2916 + 0) + 1) + w 6)) (b + 22) (w 2916) 2 (b + 22) (w 2916) = 2 := ms_e rfl rfl
  have fd : ∀ c, ¬ c = b → ¬ c = b + 7 → ¬ c = b + 22 → mset (mset (mset d b 1 (w 1 - w 6)) (b + 7) (w (1916 + 5 * w 2916 + 0)) (w (420 + 2 * w (1916 + 5 * w 2916 + 0) + 1) + w 6)) (b + 22) (w 2916) 2 c = d c := fun c x y z => by
    funext j
    rw [ms_a z, ms_a y, ms_a x]
  have fb : ∀ j, ¬ j = 1 → mset (mset (mset d b 1 (w 1 - w 6)) (b + 7) (w (1916 + 5 * w 2916 + 0)) (w (420 + 2 * w (1916 + 5 * w 2916 + 0) + 1) + w 6)) (b + 22) (w 2916) 2 b j = d b j := fun j x => by rw [ms_a (by omega), ms_a (by omega), ms_i x]
  have f7 : ∀ j, ¬ j = w (1916 + 5 * w 2916 + 0) → mset (mset (mset d b 1 (w 1 - w 6)) (b + 7) (w (1916 + 5 * w 2916 + 0)) (w (420 + 2 * w (1916 + 5 * w 2916 + 0) + 1) + w 6)) (b + 22) (w 2916) 2 (b + 7) j = d (b + 7) j := fun j x => by rw [ms_a (by omega), ms_i x, ms_a (by omega)]
  have f22 : ∀ j, ¬ j = w 2916 → mset (mset (mset d b 1 (w 1 - w 6)) (b + 7) (w (1916 + 5 * w 2916 + 0)) (w (420 + 2 * w (1916 + 5 * w 2916 + 0) + 1) + w 6)) (b + 22) (w 2916) 2 (b + 22) j = d (b + 22) j := fun j x => by rw [ms_i x, ms_a (by omega), ms_a (by omega)]
  generalize mset (mset (mset d b 1 (w 1 - w 6)) (b + 7) (w (1916 + 5 * w 2916 + 0)) (w (420 + 2 * w (1916 + 5 * w 2916 + 0) + 1) + w 6)) (b + 22) (w 2916) 2 = d' at *
  refine ⟨hB, ⟨?_, ?_, ?_, ?_, ?_, ?_, fun k x y => ?_⟩, rO.k (fun c x y z => fd c (by omega) (by omega) (by omega)) (fun i hi => S6 i (by omega)) n7, rQ.k (fd _ (by omega) (by omega) (by omega)) (fun i hi => S6 i (by omega)) n7 hO, fun p x y => ?_, r1.k (fun c x y => fd c (by omega) (by omega) (by omega)) (fun i hi => S6 i (by omega)) n9, r2.k (fun c x y => fd c (by omega) (by omega) (by omega)) (fun i hi => S6 i (by omega)) n9, fun k x y => ?_, ⟨?_, fun k x y => ?_⟩, rH.k (fd _ (by omega) (by omega) (by omega)) (fun i hi => S6 i (by omega)) n9 n10 hK.of, rD.k (fb 7 (by decide)) (fun c x y => fd c (by omega) (by omega) (by omega)) (fun i hi => S6 i (by omega)) n9⟩
  · rw [fb 0 (by decide), S6 0 (by omega)]; exact a0
  · rw [e1, s1]
  · rw [fb 2 (by decide), S6 7 (by omega)]; exact a2
  · rw [fb 3 (by decide), S6 8 (by omega)]; exact a3
  · rw [fb 4 (by decide), S6 9 (by omega)]; exact a4
  · rw [fb 5 (by decide), S6 10 (by omega)]; exact a5
  · rw [fd (b + 1) (by omega) (by omega) (by omega), S6 (2 + k) (by omega)]; exact a6 k x y
  · have g := rP p x y
    rw [S6 8 (by omega)]
    by_cases q : p = w (1916 + 5 * w 2916 + 0)
    · rw [q, e7, if_pos gow.2, s3]
    · rw [f7 p q, S6 (420 + 2 * p + 1) (by omega)]
      exact g
  · rw [S6 10 (by omega)] at y
    obtain ⟨g1, g2, g3, g4, g5⟩ := rK k x y
    rw [fd (b + 19) (by omega) (by omega) (by omega), fd (b + 20) (by omega) (by omega) (by omega), fd (b + 21) (by omega) (by omega) (by omega), fd (b + 23) (by omega) (by omega) (by omega), S6 (1916 + 5 * k + 0) (by omega), S6 (1916 + 5 * k + 1) (by omega), S6 (1916 + 5 * k + 2) (by omega), S6 (1916 + 5 * k + 4) (by omega)]
    refine ⟨g1, g2, g3, ?_, g5⟩
    by_cases q : k = w 2916
    · rw [q, e22, s4]
    · rw [f22 k q, S6 (1916 + 5 * k + 3) (by omega)]
      exact g4
  · rw [fb 6 (by decide), s1', s2]
    omega
  · rw [s2] at y
    rw [fd (b + 24) (by omega) (by omega) (by omega), s5 k x y, show m + 1 + k = m + (k + 1) by omega, s2' (k + 1) (by omega) (by omega), show (2916 : Int) + (k + 1) = 2916 + k + 1 by omega]
theorem stlEnd {m b : Int} {d : mD} {w : Row} (hm : 0 ≤ m) (hg : GG w) (h : WM m b d w) : WR b (mset (mcopy d (b + 24) m (b + 24) 0 (d b 6 - m)) b 6 (d b 6 - m)) w ∧ WF b d (mset (mcopy d (b + 24) m (b + 24) 0 (d b 6 - m)) b 6 (d b 6 - m)) := by
  obtain ⟨hN, hO, hQ, hT, hC, hK, hR⟩ := hg
  obtain ⟨n7, n8, n9, n10, n11, n0, n1, n2, n3, n4, n5, n6⟩ := id hN
  obtain ⟨rB, rA, rO, rQ, rP, r1, r2, rK, ⟨s1, s2⟩, rH, rD⟩ := h
  have hB : WB b (mset (mcopy d (b + 24) m (b + 24) 0 (d b 6 - m)) b 6 (d b 6 - m)) := (rB.cp (by omega) (by omega) (by omega) (by omega)).st (by omega) (by omega) (by omega) (by omega)
  have hF : WF b d (mset (mcopy d (b + 24) m (b + 24) 0 (d b 6 - m)) b 6 (d b 6 - m)) := (WF.refl.cp (by omega) (by omega)).st (by omega) (by omega) (by omega)
  have fd : ∀ c, ¬ c = b → ¬ c = b + 24 → mset (mcopy d (b + 24) m (b + 24) 0 (d b 6 - m)) b 6 (d b 6 - m) c = d c := fun c x y => by
    funext j
    rw [ms_a x, mc_n y]
  have fb : ∀ j, ¬ j = 6 → mset (mcopy d (b + 24) m (b + 24) 0 (d b 6 - m)) b 6 (d b 6 - m) b j = d b j := fun j x => by rw [ms_i x, mc_n (by omega)]
  have e6 : mset (mcopy d (b + 24) m (b + 24) 0 (d b 6 - m)) b 6 (d b 6 - m) b 6 = d b 6 - m := ms_e rfl rfl
  have e24 : ∀ k, 0 ≤ k → k < d b 6 - m → mset (mcopy d (b + 24) m (b + 24) 0 (d b 6 - m)) b 6 (d b 6 - m) (b + 24) k = d (b + 24) (m + k) := fun k x y => by
    rw [ms_a (by omega)]
    unfold mcopy
    rw [if_pos ⟨rfl, x, by omega⟩]
    congr 1
    omega
  generalize mset (mcopy d (b + 24) m (b + 24) 0 (d b 6 - m)) b 6 (d b 6 - m) = d' at *
  refine ⟨⟨hB, rA.k (fun j x y => fb j (by omega)) (fd _ (by omega) (by omega)) (fun _ _ => rfl), rO.k (fun c x y z => fd c (by omega) (by omega)) (fun _ _ => rfl) n7, rQ.k (fd _ (by omega) (by omega)) (fun _ _ => rfl) n7 hO, rP.k (fd _ (by omega) (by omega)) (fun _ _ => rfl), r1.k (fun c x y => fd c (by omega) (by omega)) (fun _ _ => rfl) n9, r2.k (fun c x y => fd c (by omega) (by omega)) (fun _ _ => rfl) n9, rK.k (fun c x y => fd c (by omega) (by omega)) (fun _ _ => rfl) n10, ⟨by rw [e6]; omega, fun k x y => ?_⟩, rH.k (fd _ (by omega) (by omega)) (fun _ _ => rfl) n9 n10 hK.of, rD.k (fb 7 (by decide)) (fun c x y => fd c (by omega) (by omega)) (fun _ _ => rfl) n9⟩, hF⟩
  rw [Int.zero_add, e24 k x (by omega)]
  exact s2 k x y
theorem stlStop {E : mO × tW} {K : tK} {n : Nat} {m y b : Int} {d : mD} {w : Row} (hm : 0 ≤ m) (h2 : m + w 11 ≤ 200) (h : WM m b d w) (hg : GG w) (e : LP_219_2 n y w = (y, w)) (k : ∀ r, LP_219_2 n y w = r → ∀ d', WR b d' r.2 → WF b d d' → K (.inl (some (0, m + (r.1 - y)))) d') :
    (0 ≤ m ∧ 0 ≤ (0 : Int) ∧ 0 ≤ (d b 6) - m ∧ m + ((d b 6) - m) ≤ 200 ∧ (0 : Int) + ((d b 6) - m) ≤ 200) ∧ K (.inl (some (0, m))) (mset (mcopy d (b + 24) m (b + 24) 0 ((d b 6) - m)) b 6 (((mcopy d (b + 24) m (b + 24) 0 ((d b 6) - m)) b 6) - m)) := by
  have s1 : d b 6 = w 11 + m := h.2.2.2.2.2.2.2.2.1.1
  have n11 := hg.1.2.2.2.2.1
  obtain ⟨q1, q2⟩ := stlEnd hm hg h
  have k1 : K (.inl (some (0, m + (y - y)))) (mset (mcopy d (b + 24) m (b + 24) 0 (d b 6 - m)) b 6 (d b 6 - m)) := k (y, w) e _ q1 q2
  rw [Int.sub_self, Int.add_zero] at k1
  refine ⟨⟨hm, by decide, by omega, by omega, by omega⟩, ?_⟩
  rw [mc_n (show ¬ b = b + 24 by omega)]
  exact k1
theorem stlRun {E : mO × tW} {K : tK} {b : Int} : ∀ (n : Nat) (m y B : Int) (d : mD) (w : Row), 0 ≤ m → m + w 11 ≤ 200 → WM m b d w → CS w → PB B w → B + 99 * w 11 ≤ 100000 → w 11 ≤ (n : Int) → (∀ r, LP_219_2 n y w = r → ∀ d', WR b d' r.2 → WF b d d' → K (.inl (some (0, m + (r.1 - y)))) d') → tRun E 350 (2, [.inr (41, b), .inl (0, m)], [], 0, 0, d) K := by
  intro n
  induction n with
  | zero =>
    intro m y B d w hm h2 h hC hp hB hn k
    have s1 : d b 6 = w 11 + m := h.2.2.2.2.2.2.2.2.1.1
    have n11 := hC.1.1.2.2.2.2.1
    refine t_350_2 ⟨⟨m_inR (by omega) (by omega), h.1.1.m (by omega) (by omega)⟩, fun c => ?_, fun c => absurd c (by omega)⟩
    exact stlStop (E := E) hm h2 h hC.1 (by
      show ST_219_2 _ y w = _
      unfold ST_219_2
      rw [if_neg (by omega)]) k
  | succ n ih =>
    intro m y B d w hm h2 h hC hp hB hn k
    obtain ⟨hN, hO, hQ, hT, hC', hK, hR⟩ := id hC.1
    obtain ⟨n7, n8, n9, n10, n11, n0, n1, n2, n3, n4, n5, n6⟩ := id hN
    obtain ⟨rB, ⟨a0, a1, a2, a3, a4, a5, a6⟩, rO, rQ, rP, r1, r2, rK, ⟨s1, s2⟩, rH, rD⟩ := id h
    have e4 : d (b + 1) 4 = w 6 := a6 4 (by decide) (by decide)
    have hM : ∀ c i : Int, 0 ≤ c → c ≤ 27 → mInR (d (b + c) i) := fun c i x y => rB.1.m (by omega) (by omega)
    by_cases c1 : 0 < w 11
    · by_cases c2 : w 1 < w 6
      · refine t_350_2 ⟨⟨m_inR (by omega) (by omega), rB.1.m (by omega) (by omega)⟩, fun c => absurd c1 (by omega), fun c => ⟨by decide, ⟨rB.1.m (by omega) (by omega), rB.1.m (by omega) (by omega)⟩, fun _ => ?_, fun c3 => absurd c2 (by omega)⟩⟩
        exact stlStop (E := E) hm h2 h hC.1 (by
          show ST_219_2 _ y w = _
          unfold ST_219_2
          rw [if_pos c1, if_pos c2]) k
      · have gtk := (hR.2 0 (by omega) c1).1
        simp only [Int.add_zero] at gtk
        have gow := (hK (w 2916) gtk.1 gtk.2).1
        obtain ⟨w', e1, hS⟩ := st219 (n := n) (y := y) c1 n11.2 (by omega) (by omega) (by omega)
        have e24 : d (b + 24) m = w 2916 := by
          have := s2 0 (by omega) c1
          simpa using this
        have e19 : d (b + 19) (w 2916) = w (1916 + 5 * w 2916 + 0) := (rK _ gtk.1 gtk.2).1
        have e7 : d (b + 7) (w (1916 + 5 * w 2916 + 0)) = w (420 + 2 * w (1916 + 5 * w 2916 + 0) + 1) := by
          rw [rP _ gow.1 (by omega), if_pos gow.2]
        have hp1 : PB 100000 w := fun p x y => ⟨(hp p x y).1, by have := (hp p x y).2; omega⟩
        have h' := stlStepW hm hC.1 h hp1 c1 (by omega) hS
        have e11 := hS.2.1
        have hp' : PB (B + 99) w' := fun p x y => by
          rw [hS.2.2.2.2.2 8 (by omega) (by omega) (by omega) (by omega) (by omega)] at y
          by_cases q : p = w (1916 + 5 * w 2916 + 0)
          · rw [q, hS.2.2.1]
            have := hp _ gow.1 gow.2
            omega
          · rw [hS.2.2.2.2.2 (420 + 2 * p + 1) (by omega) (by omega) (by omega) (by omega) (by omega)]
            have := hp p x y
            omega
        have kk := ih (m + 1) (y + 1) (B + 99) _ w' (by omega) (by omega) h' (hC.step c1 (by omega) hS) hp' (by omega) (by omega) (fun r er d' q1 q2 => by
          have k1 := k r (e1.trans er) d' q1 ((((WF.refl.st (by omega) (by omega) (by omega)).st (by omega) (by omega) (by omega)).st (by omega) (by omega) (by omega)).trans q2)
          rw [show m + 1 + (r.1 - (y + 1)) = m + (r.1 - y) by omega]
          exact k1)
        refine t_350_2 ⟨⟨m_inR (by omega) (by omega), rB.1.m (by omega) (by omega)⟩, fun c => absurd c1 (by omega), fun c => ⟨by decide, ⟨rB.1.m (by omega) (by omega), rB.1.m (by omega) (by omega)⟩, fun c3 => absurd c3 (by omega), fun c3 => ?_⟩⟩
        simp (disch := omega) only [mz_e, mz_i, mz_a]
        rw [e24, e19, e7, e4, a1]
        repeat' apply And.intro
        all_goals first
          | exact kk
          | omega
          | trivial
    · refine t_350_2 ⟨⟨m_inR (by omega) (by omega), rB.1.m (by omega) (by omega)⟩, fun c => ?_, fun c => absurd c (by omega)⟩
      exact stlStop (E := E) hm h2 h hC.1 (by
        show ST_219_2 _ y w = _
        unfold ST_219_2
        rw [if_neg c1]) k
theorem w_350 {E : mO × tW} {K : tK} {b : Int} {d : mD} {w : Row} (hW : WR b d w) (hC : CB w) (hp : PB 19800 w) (k : ∀ d', WR b d' (W_219 w) → WF b d d' → K (.inl (some (0, V_219 w))) d') : tCall E 350 [.inr (41, b)] d K := by
  have n11 := hC.1.1.2.2.2.2.1
  refine t_350_0 ?_
  refine stlRun (w 11).toNat 0 0 19800 d w (by decide) (by omega) hW hC.s hp (by omega) (by omega) (fun r e d' h1 h2 => ?_)
  have e2 : F_219 w = r := e
  have k1 := k d' (by unfold W_219; rw [e2]; exact h1) h2
  unfold V_219 at k1
  rw [e2] at k1
  rw [show (0 : Int) + (r.1 - 0) = r.1 by omega]
  exact k1
