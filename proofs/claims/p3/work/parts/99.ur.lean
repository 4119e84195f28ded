/-! ===== addPerson ===== -/
theorem f47a {c : Int} {d : mD} (h0 : 0 ≤ d 11 0) : ∀ b, (b < 11 ∨ 63 < b) → g_47 11 c d b = d b := fun b hb => by
  unfold g_47
  split
  · have eh : g_8 (11 + 6 + (1 + 2 * d 11 0)) = fun e => mfl e (19 + 2 * d 11 0) 0 16 := by
      funext e
      unfold g_8 g_300
      rw [show 11 + 6 + (1 + 2 * d 11 0) + 1 = 19 + 2 * d 11 0 by omega]
    rw [eh]
    funext j
    simp (disch := omega) only [ms_a, fl_n]
  · rfl
theorem f47n {c : Int} {d : mD} (h0 : 0 ≤ d 11 0 ∧ d 11 0 < 16) : g_47 11 c d 11 0 = d 11 0 + 1 := by
  unfold g_47
  rw [if_pos h0.2]
  exact ms_e rfl rfl
theorem opAddP {d : mD} (hi : CI d) : OPR d (g_336 0 778 d) (g_290 769 (g_336 0 778 d)) (v_336 0 778 d) (v_290 769 (g_336 0 778 d)) := by
  obtain ⟨i1, i2, i3, i4⟩ := id hi
  obtain ⟨hg, hw, hp, ht, hr⟩ := id i1
  have o8 : d 11 0 = d 770 8 := hr.2.2.2.1.1
  have n8 := hg.1.2.1
  have fin : ∀ (D : mD) (c vr : Int), (∀ b, ¬ b = 578 → ¬ b = 778 → D b = d b) → D 578 1 = 0 → ¬ c = 0 → OPR d D (mset (mset D 769 9 0) 769 0 c) c vr := fun D c vr h1 h2 h3 => by
    refine ⟨hi.noText (D := D) (fun b x y z => ?_) ?_ ?_ ?_, ms_e rfl rfl, fun z => absurd z h3, fun r => r.q (fun i _ _ => ?_) ?_ (fun b hb => ?_)⟩
    · rw [← h1 b x z]
      funext j
      rw [ms_a y, ms_a y]
    · rw [ms_a (by decide), ms_a (by decide), h2]
    · rw [ms_i (by decide), ms_e rfl rfl]
    · rw [ms_i (by decide), ms_i (by decide), h1 769 (by decide) (by decide)]
    · rw [ms_a (by decide), ms_a (by decide), h1 770 (by decide) (by decide)]
    · rw [ms_i (by decide), ms_i (by decide), h1 769 (by decide) (by decide)]
    · rw [← h1 b (by omega) (by omega)]
      funext j
      rw [ms_a (by omega), ms_a (by omega)]
  have d0 : ∀ b, ¬ b = 578 → ¬ b = 778 → mset d 578 1 0 b = d b := fun b x _ => by
    funext j
    exact ms_a x
  have key : ∀ D : mD, (∀ b, ¬ b = 578 → ¬ b = 778 → D b = d b) → v_183 769 (v_210 769 D) (g_210 769 D) = v_48 11 (v_93 578 0 (d 578 1) d) (mset d 578 1 0) ∧ g_210 769 D = mset D 769 9 0 ∧ ((v_93 578 0 (d 578 1) d = -1 ∧ v_210 769 D = 0) ∨ (okN (v_93 578 0 (d 578 1) d) ∧ v_210 769 D = nm (v_93 578 0 (d 578 1) d) ∧ ¬ v_210 769 D = 0)) := fun D hD => by
    obtain ⟨n1, n2, n3, n4, -⟩ := nameEq hi hD
    have r : g_210 769 D 770 = d 770 := by
      rw [n3, ← hD 770 (by decide) (by decide)]
      funext j
      exact ms_a (by decide)
    refine ⟨by rw [m_v_183, r, n4], n3, ?_⟩
    rcases n1 with ⟨a, b⟩ | ⟨a, b⟩
    · exact Or.inl ⟨n2 a, b⟩
    · refine Or.inr ⟨a, b, ?_⟩
      rw [b]
      obtain ⟨q1, q2, q3, q4, q5, q6, q7, q8⟩ := a
      unfold nm
      omega
  unfold v_336 g_336
  rw [show (0 : Int) + 578 = 578 by decide, n01, n641, show (1 : Int) + 10 = 11 by decide, o8]
  obtain ⟨k1, k2, k3⟩ := key _ d0
  by_cases c1 : v_93 578 0 (d 578 1) d = -1
  · rw [if_pos c1, if_pos c1]
    have z : v_210 769 (mset d 578 1 0) = 0 := by
      rcases k3 with k3 | k3
      · exact k3.2
      · exact absurd k3.1.1 (by omega)
    have e : g_290 769 (mset d 578 1 0) = mset (mset (mset d 578 1 0) 769 9 0) 769 0 1 := by
      unfold g_290
      rw [if_pos z, k2]
    rw [e]
    exact fin _ 1 _ d0 (ms_e rfl rfl) (by decide)
  · rw [if_neg c1, if_neg c1]
    have z : ¬ v_210 769 (mset d 578 1 0) = 0 := by
      rcases k3 with k3 | k3
      · exact absurd k3.1 c1
      · exact k3.2.2
    have e8 : mset d 578 1 0 770 8 = d 770 8 := ms_a (by decide)
    by_cases c2 : d 770 8 < 16
    · rw [if_pos c2, if_pos c2]
      by_cases c3 : v_48 11 (v_93 578 0 (d 578 1) d) (mset d 578 1 0) = -1
      · rw [if_pos c3, if_pos c3]
        clear k1 k2 k3 z e8
        generalize hc : v_93 578 0 (d 578 1) d = c at *
        generalize hdc : mset d 578 1 0 = dc at *
        have ok : OKR 1 dc (d 770) := i1.fr (fun b x y => d0 b (by omega) (by omega))
        have hn : 0 ≤ dc 64 1 ∧ dc 64 1 < 8 := by
          rw [d0 64 (by decide) (by decide)]
          exact i2.1
        obtain ⟨kk, kf, -, -⟩ := keepC hn ok
        have kO : OKR 1 (g_2 64 1 dc) (d 770) := ok.fr (fun b x y => kf b (by omega) (by omega))
        have k11 : g_2 64 1 dc 11 0 = d 770 8 := by rw [kf 11 (by decide) (by omega), d0 11 (by decide) (by decide), o8]
        have f47 := f47a (c := c) (d := g_2 64 1 dc) (by omega)
        have f47v := f47n (c := c) (d := g_2 64 1 dc) (by omega)
        rw [f47v, k11]
        generalize hU : g_47 11 c (g_2 64 1 dc) = U at *
        generalize hDD : mset U 778 0 (d 770 8 + 1 - 1) = D
        have DU : ∀ b, ¬ b = 778 → D b = U b := fun b hb => by
          rw [← hDD]
          funext j
          exact ms_a hb
        have D0 : D 778 0 = d 770 8 := by
          rw [← hDD, ms_e rfl rfl]
          omega
        have Dc : ∀ b, 63 < b → ¬ b = 778 → D b = g_2 64 1 dc b := fun b x y => by rw [DU b y, f47 b (by omega)]
        have Dd : ∀ b, 569 < b → ¬ b = 578 → ¬ b = 778 → D b = d b := fun b x y z => by rw [Dc b (by omega) z, kf b (by omega) (by omega), d0 b y z]
        have D8 : D 578 1 = 0 := by rw [Dc 578 (by decide) (by decide), kf 578 (by decide) (by omega), ← hdc, ms_e rfl rfl]
        -- the reference's text is that of d
        have ht' : TextR d D := i4.fr rfl rfl (by rw [Dd 769 (by decide) (by decide) (by decide)]) (by rw [Dd 776 (by decide) (by decide) (by decide)])
        obtain ⟨t1, t2⟩ := content ht'
        rw [hc] at t1
        have t1 : okN c ∧ v_210 769 D = nm c := by
          rcases t1 with t1 | t1
          · exact absurd t1.1 c1
          · exact t1
        have nz : ¬ nm c = 0 := by
          obtain ⟨q1, q2, q3, q4, q5, q6, q7, q8⟩ := t1.1
          unfold nm
          omega
        have g70 : mset D 769 9 0 770 = d 770 := by
          rw [← Dd 770 (by decide) (by decide) (by decide)]
          funext j
          exact ms_a (by decide)
        have v83 : V_183 (nm c) (d 770) = -1 := by
          rw [← findP (s := 1) ok.2.2.2.2.2.2.2.1 t1.1]
          exact c3
        have kw := keep278 (d := mset (mset D 769 9 0) 769 0 0)
        obtain ⟨w1, w2, w3⟩ := id kw
        have m9 : ∀ b, ¬ b = 769 → mset (mset D 769 9 0) 769 0 0 b = D b := fun b hb => by
          funext j
          rw [ms_a hb, ms_a hb]
        have r70 : g_278 769 (mset (mset D 769 9 0) 769 0 0) 770 = d 770 := by rw [w1 770 (by decide) (by decide), m9 770 (by decide), Dd 770 (by decide) (by decide) (by decide)]
        obtain ⟨a1, a2, a3, a4, a5⟩ := addP (s := 1) (c := c) hg hw kO.2.2.2.2 c2 t1.1
        have gp := addPX (c := nm c) hg c2 hp
        have a3 : Rel 1 U (W_182 (nm c) (d 770)) := by rw [← hU]; exact a3
        have n16 : ¬ d 770 8 = 16 := by omega
        have e : g_290 769 D = rset (g_278 769 (mset (mset D 769 9 0) 769 0 0)) (W_182 (nm c) (d 770)) ∧ v_290 769 D = d 770 8 := by
          unfold g_290 v_290
          rw [t1.2, if_neg nz, if_neg nz, show (769 : Int) + 1 = 770 by decide, Dd 770 (by decide) (by decide) (by decide), if_neg n16, if_neg n16, t2, m_v_183, g70, if_pos v83, if_pos v83, m_g_182, r70, rset_at, a4]
          exact ⟨rfl, by omega⟩
        rw [e.1, e.2]
        generalize hR : g_278 769 (mset (mset D 769 9 0) 769 0 0) = R at *
        have rn : ∀ b, ¬ b = 770 → rset R (W_182 (nm c) (d 770)) b = R b := fun b hb => rset_ne hb
        have rb : ∀ b, ¬ b = 769 → ¬ b = 770 → ¬ b = 771 → rset R (W_182 (nm c) (d 770)) b = D b := fun b x y z => by rw [rn b y, w1 b x z, m9 b x]
        have hHd : HistRel dc := i2.fr (fun b x y => d0 b (by omega) (by omega)) (by rw [d0 769 (by decide) (by decide)]) (fun j _ _ => by rw [d0 771 (by decide) (by decide)])
        have h70 : dc 770 = d 770 := d0 770 (by decide) (by decide)
        refine ⟨⟨?_, ?_, i3.fr (fun b hb => by rw [rb b (by omega) (by omega) (by omega), Dd b (by omega) (by omega) (by omega)]), ?_⟩, ?_, fun _ => ⟨D0, inI.of (by omega)⟩, fun r => r.keep (by have := i2.2.1; have := i2.2.2.1; omega) kw (by rw [ms_i (by decide), ms_i (by decide), Dd 769 (by decide) (by decide) (by decide)]) (by rw [m9 770 (by decide), Dd 770 (by decide) (by decide) (by decide)]) (by rw [m9 771 (by decide), Dd 771 (by decide) (by decide) (by decide)]) (by rw [rn 769 (by decide)]) (rn 771 (by decide)) (by rw [rb 772 (by decide) (by decide) (by decide), Dd 772 (by decide) (by decide) (by decide)]) (by rw [rb 775 (by decide) (by decide) (by decide), Dd 775 (by decide) (by decide) (by decide)]) (by rw [rset_at]; exact r.1.fr (fun u u0 u1 => ⟨a5 _ (by omega) (by omega), a5 _ (by omega) (by omega)⟩))⟩
        · rw [rset_at]
          have : OKR 1 U (W_182 (nm c) (d 770)) := ⟨a1, a2, gp, by rw [a5 0 (by decide) (by decide)]; exact ht, a3⟩
          exact this.fr (fun b x y => by rw [rb b (by omega) (by omega) (by omega), DU b (by omega)])
        · refine keepH hHd (by rw [h70]; exact ok) (fun b x y => by rw [rb b (by omega) (by omega) (by omega), Dc b (by omega) (by omega)]) kw ?_ ?_ ?_ ?_ ?_
          · rw [ms_i (by decide), ms_i (by decide), Dd 769 (by decide) (by decide) (by decide), d0 769 (by decide) (by decide)]
          · rw [m9 770 (by decide), Dd 770 (by decide) (by decide) (by decide), h70]
          · rw [m9 771 (by decide), Dd 771 (by decide) (by decide) (by decide), d0 771 (by decide) (by decide)]
          · rw [rn 769 (by decide)]
          · rw [rn 771 (by decide)]
        · have z1 : rset R (W_182 (nm c) (d 770)) 578 1 = 0 := by rw [rb 578 (by decide) (by decide) (by decide), D8]
          have z2 : rset R (W_182 (nm c) (d 770)) 769 9 = 0 := by rw [rn 769 (by decide), w2 9 (by decide), ms_i (by decide), ms_e rfl rfl]
          exact ⟨by omega, by omega, fun i x y => by omega⟩
        · rw [rn 769 (by decide), w2 0 (by decide), ms_e rfl rfl]
      · rw [if_neg c3, if_neg c3]
        have e : g_290 769 (mset d 578 1 0) = mset (mset (mset d 578 1 0) 769 9 0) 769 0 2 := by
          unfold g_290
          rw [if_neg z, show (769 : Int) + 1 = 770 by decide, e8, if_neg (by omega), k1, if_neg c3, k2]
        rw [e]
        exact fin _ 2 _ d0 (ms_e rfl rfl) (by decide)
    · rw [if_neg c2, if_neg c2]
      have e : g_290 769 (mset d 578 1 0) = mset (mset (mset d 578 1 0) 769 9 0) 769 0 2 := by
        unfold g_290
        rw [if_neg z, show (769 : Int) + 1 = 770 by decide, e8, if_pos (by omega), k2]
      rw [e]
      exact fin _ 2 _ d0 (ms_e rfl rfl) (by decide)
