/-! ===== append, truncate, find, addPerson ===== -/
theorem f185n {x1 x2 x3 x4 x5 : Int} {e : mD} : (∀ b, ¬ b = 769 → ¬ b = 776 → g_185 769 x5 (g_185 769 x4 (g_185 769 x3 (g_185 769 x2 (g_185 769 x1 e)))) b = e b) ∧ ∀ j, ¬ j = 9 → g_185 769 x5 (g_185 769 x4 (g_185 769 x3 (g_185 769 x2 (g_185 769 x1 e)))) 769 j = e 769 j := ⟨fun b x y => by rw [f185.1 b x y, f185.1 b x y, f185.1 b x y, f185.1 b x y, f185.1 b x y], fun j x => by rw [f185.2 j x, f185.2 j x, f185.2 j x, f185.2 j x, f185.2 j x]⟩
theorem opApp {d : mD} {x1 x2 x3 x4 x5 : Int} (hi : CI d) : OPR d (g_301 0 x1 x2 x3 x4 x5 778 d) (g_186 769 x1 x2 x3 x4 x5 (g_301 0 x1 x2 x3 x4 x5 778 d)) (v_301 0 x1 x2 x3 x4 x5 778 d) (v_186 769 x1 x2 x3 x4 x5 (g_301 0 x1 x2 x3 x4 x5 778 d)) := by
  obtain ⟨i1, i2, i3, i4⟩ := id hi
  have e9 := i4.2.1
  unfold v_301 g_301
  rw [show (0 : Int) + 578 = 578 by decide]
  by_cases c : (1000 : Int) < d 578 1 + 20
  · rw [if_pos c, if_pos c]
    have e : g_186 769 x1 x2 x3 x4 x5 d = mset d 769 0 1 := by
      unfold g_186
      rw [e9, if_pos c]
    rw [e]
    exact OPR.fail hi (by decide)
  · rw [if_neg c, if_neg c]
    have f87 := (i4.app (a := x1) (b := x2) (c := x3) (x := x4) (y := x5) (by omega)).2.2
    have a2 := (i4.app (a := x1) (b := x2) (c := x3) (x := x4) (y := x5) (by omega)).2.1
    generalize hT : g_87 578 x5 (g_87 578 x4 (g_87 578 x3 (g_87 578 x2 (g_87 578 x1 d)))) = T at *
    generalize hD : mset T 778 0 (T 578 1) = D
    have Db : ∀ b, ¬ b = 778 → D b = T b := fun b hb => by
      rw [← hD]
      funext j
      exact ms_a hb
    have Dd : ∀ b, ¬ b = 578 → ¬ b = 579 → ¬ b = 778 → D b = d b := fun b x y z => by rw [Db b z, f87 b x y]
    have D0 : D 778 0 = T 578 1 := by rw [← hD, ms_e rfl rfl]
    have m9 : ∀ b, ¬ b = 769 → mset D 769 0 0 b = D b := fun b hb => by
      funext j
      exact ms_a hb
    have ht : TextR d (mset D 769 0 0) := i4.fr rfl rfl (by rw [ms_i (by decide), Dd 769 (by decide) (by decide) (by decide)]) (by rw [m9 776 (by decide), Dd 776 (by decide) (by decide) (by decide)])
    have ap := (ht.app (a := x1) (b := x2) (c := x3) (x := x4) (y := x5) (by omega)).1
    rw [hT] at ap
    obtain ⟨f1, f2⟩ := f185n (x1 := x1) (x2 := x2) (x3 := x3) (x4 := x4) (x5 := x5) (e := mset D 769 0 0)
    have D9 : D 769 9 = d 578 1 := by rw [Dd 769 (by decide) (by decide) (by decide), e9]
    have eg : g_186 769 x1 x2 x3 x4 x5 D = g_185 769 x5 (g_185 769 x4 (g_185 769 x3 (g_185 769 x2 (g_185 769 x1 (mset D 769 0 0))))) := by
      unfold g_186
      rw [D9, if_neg c]
    have ev : v_186 769 x1 x2 x3 x4 x5 D = g_185 769 x5 (g_185 769 x4 (g_185 769 x3 (g_185 769 x2 (g_185 769 x1 (mset D 769 0 0))))) 769 9 := by
      unfold v_186
      rw [D9, if_neg c]
    rw [eg, ev]
    generalize g_185 769 x5 (g_185 769 x4 (g_185 769 x3 (g_185 769 x2 (g_185 769 x1 (mset D 769 0 0))))) = Z at *
    have Zd : ∀ b, ¬ b = 578 → ¬ b = 579 → ¬ b = 778 → ¬ b = 769 → ¬ b = 776 → Z b = d b := fun b x y z u t => by rw [f1 b u t, m9 b u, Dd b x y z]
    have ZT : ∀ b, ¬ b = 769 → ¬ b = 776 → ¬ b = 778 → Z b = T b := fun b x y z => by rw [f1 b x y, m9 b x, Db b z]
    refine ⟨⟨?_, i2.fr (fun b x y => Zd b (by omega) (by omega) (by omega) (by omega) (by omega)) ?_ (fun j _ _ => by rw [Zd 771 (by decide) (by decide) (by decide) (by decide) (by decide)]), i3.fr (fun b hb => Zd b (by omega) (by omega) (by omega) (by omega) (by omega)), ap.fr ?_ ?_ rfl rfl⟩, ?_, fun _ => ⟨?_, inI.of (by have := ap.2.1; have := ap.1; omega)⟩, fun r => r.q (fun i _ _ => by rw [Zd 770 (by decide) (by decide) (by decide) (by decide) (by decide)]) (by rw [f2 7 (by decide), ms_i (by decide), Dd 769 (by decide) (by decide) (by decide)]) (fun b hb => Zd b (by omega) (by omega) (by omega) (by omega) (by omega))⟩
    · rw [Zd 770 (by decide) (by decide) (by decide) (by decide) (by decide)]
      exact i1.fr (fun b x y => Zd b (by omega) (by omega) (by omega) (by omega) (by omega))
    · rw [f2 7 (by decide), ms_i (by decide), Dd 769 (by decide) (by decide) (by decide)]
    · rw [ZT 578 (by decide) (by decide) (by decide)]
    · rw [ZT 579 (by decide) (by decide) (by decide)]
    · rw [f2 0 (by decide), ms_e rfl rfl]
    · rw [D0]
      exact ap.2.1.symm
theorem opTrunc {d : mD} {n : Int} (hi : CI d) : OPR d (g_302 0 n 778 d) (g_187 769 n (g_302 0 n 778 d)) (v_302 0 n 778 d) (v_187 769 n (g_302 0 n 778 d)) := by
  obtain ⟨i1, i2, i3, i4⟩ := id hi
  have e9 := i4.2.1
  have hl := i4.1
  unfold v_302 g_302
  rw [show (0 : Int) + 578 = 578 by decide]
  by_cases c : 0 ≤ n ∧ n ≤ d 578 1
  · rw [if_neg (show ¬ n < 0 by omega), if_neg (show ¬ n < 0 by omega), if_neg (show ¬ d 578 1 < n by omega), if_neg (show ¬ d 578 1 < n by omega)]
    generalize hD : mset (mset d 578 1 n) 778 0 n = D
    have Dd : ∀ b, ¬ b = 578 → ¬ b = 778 → D b = d b := fun b x y => by
      rw [← hD]
      funext j
      rw [ms_a y, ms_a x]
    have D0 : D 778 0 = n := by rw [← hD, ms_e rfl rfl]
    have D8 : D 578 1 = n := by rw [← hD, ms_a (by decide), ms_e rfl rfl]
    have D9 : D 769 9 = d 578 1 := by rw [Dd 769 (by decide) (by decide), e9]
    have eg : g_187 769 n D = mset (mset D 769 0 0) 769 9 n := by
      unfold g_187
      rw [v176, D9, if_pos c, if_neg (by decide)]
    have ev : v_187 769 n D = n := by
      unfold v_187
      rw [v176, D9, if_pos c, if_neg (by decide)]
    rw [eg, ev]
    have Zd : ∀ b, ¬ b = 578 → ¬ b = 778 → ¬ b = 769 → mset (mset D 769 0 0) 769 9 n b = d b := fun b x y z => by
      rw [← Dd b x y]
      funext j
      rw [ms_a z, ms_a z]
    refine ⟨⟨?_, i2.fr (fun b x y => Zd b (by omega) (by omega) (by omega)) ?_ (fun j _ _ => by rw [Zd 771 (by decide) (by decide) (by decide)]), i3.fr (fun b hb => Zd b (by omega) (by omega) (by omega)), ?_⟩, ?_, fun _ => ⟨D0, inI.of (by omega)⟩, fun r => r.q (fun i _ _ => by rw [Zd 770 (by decide) (by decide) (by decide)]) (by rw [ms_i (by decide), ms_i (by decide), Dd 769 (by decide) (by decide)]) (fun b hb => Zd b (by omega) (by omega) (by omega))⟩
    · rw [Zd 770 (by decide) (by decide) (by decide)]
      exact i1.fr (fun b x y => Zd b (by omega) (by omega) (by omega))
    · rw [ms_i (by decide), ms_i (by decide), Dd 769 (by decide) (by decide)]
    · have z8 : mset (mset D 769 0 0) 769 9 n 578 1 = n := by rw [ms_a (by decide), ms_a (by decide), D8]
      refine ⟨by omega, by rw [z8, ms_e rfl rfl], fun i x y => ?_⟩
      rw [Zd 579 (by decide) (by decide) (by decide), Zd 776 (by decide) (by decide) (by decide)]
      exact i4.2.2 i x (by omega)
    · rw [ms_i (by decide), ms_e rfl rfl]
  · have ev : (if n < 0 then (1 : Int) else if d 578 1 < n then 1 else 0) = 1 := by
      by_cases z : n < 0
      · rw [if_pos z]
      · rw [if_neg z, if_pos (by omega)]
    have eg : ∀ u : mD, (if n < 0 then d else if d 578 1 < n then d else u) = d := fun u => by
      by_cases z : n < 0
      · rw [if_pos z]
      · rw [if_neg z, if_pos (by omega)]
    rw [ev, eg]
    have e : g_187 769 n d = mset d 769 0 1 := by
      unfold g_187
      rw [v176, e9, if_neg c, if_pos rfl]
    rw [e]
    exact OPR.fail hi (by decide)
-- the text goes
theorem CI.noText {d D d2 : mD} (h : CI d) (hD : ∀ b, ¬ b = 578 → ¬ b = 769 → ¬ b = 778 → d2 b = d b) (h8 : d2 578 1 = 0) (h9 : d2 769 9 = 0) (h7 : d2 769 7 = d 769 7) : CI d2 := by
  obtain ⟨i1, i2, i3, i4⟩ := h
  refine ⟨?_, i2.fr (fun b x y => hD b (by omega) (by omega) (by omega)) h7 (fun j _ _ => by rw [hD 771 (by decide) (by decide) (by decide)]), i3.fr (fun b hb => hD b (by omega) (by omega) (by omega)), by omega, by omega, fun i x y => by omega⟩
  rw [hD 770 (by decide) (by decide) (by decide)]
  exact i1.fr (fun b x y => hD b (by omega) (by omega) (by omega))
theorem nameEq {d D : mD} (hi : CI d) (hD : ∀ b, ¬ b = 578 → ¬ b = 778 → D b = d b) : ((v_93 578 0 (d 578 1) d ≤ 0 ∧ v_210 769 D = 0) ∨ (okN (v_93 578 0 (d 578 1) d) ∧ v_210 769 D = nm (v_93 578 0 (d 578 1) d))) ∧ (v_93 578 0 (d 578 1) d ≤ 0 → v_93 578 0 (d 578 1) d = -1) ∧ g_210 769 D = mset D 769 9 0 ∧ v_48 11 (v_93 578 0 (d 578 1) d) (mset d 578 1 0) = V_183 (v_210 769 D) (d 770) ∧ v_36 3 (v_93 578 0 (d 578 1) d) (mset d 578 1 0) = V_184 (v_210 769 D) (d 770) := by
  obtain ⟨i1, i2, i3, i4⟩ := hi
  have ht : TextR d D := i4.fr rfl rfl (by rw [hD 769 (by decide) (by decide)]) (by rw [hD 776 (by decide) (by decide)])
  obtain ⟨c1, c2⟩ := content ht
  have hr : Rel 1 (mset d 578 1 0) (d 770) := (i1.fr (fun b x y => by funext j; exact ms_a (by omega))).2.2.2.2
  have hP := hr.2.2.2.1
  have hO := hr.2.1
  rcases c1 with ⟨c1, c3⟩ | ⟨c1, c3⟩
  · refine ⟨Or.inl ⟨by omega, c3⟩, fun _ => c1, c2, ?_, ?_⟩
    · exact noP (s := 1) hP (by omega) (by omega)
    · exact noO (s := 1) hO (by omega) (by omega)
  · refine ⟨Or.inr ⟨c1, c3⟩, fun z => absurd c1.1 (by omega), c2, ?_, ?_⟩
    · rw [c3]
      exact findP (s := 1) hP c1
    · rw [c3]
      exact findO (s := 1) hO c1
theorem opFind {d : mD} {k : Int} (hi : CI d) : OPR d (g_304 0 k 778 d) (g_211 769 k (g_304 0 k 778 d)) (v_304 0 k 778 d) (v_211 769 k (g_304 0 k 778 d)) := by
  have fin : ∀ (D : mD) (c v vr : Int), (∀ b, ¬ b = 578 → ¬ b = 778 → D b = d b) → D 578 1 = 0 → (c = 0 → D 778 0 = vr ∧ inI vr) → OPR d D (mset (mset D 769 9 0) 769 0 c) c vr := fun D c v vr h1 h2 h3 => by
    refine ⟨hi.noText (D := D) (fun b x y z => ?_) ?_ ?_ ?_, ms_e rfl rfl, h3, fun r => r.q (fun i _ _ => ?_) ?_ (fun b hb => ?_)⟩
    · rw [← h1 b x z]
      funext j
      rw [ms_a y, ms_a y]
    · rw [ms_a (by decide), ms_a (by decide), h2]
    · rw [ms_i (by decide), ms_e rfl rfl]
    · rw [ms_i (by decide), ms_i (by decide), h1 769 (by decide) (by decide)]
    · rw [ms_a (by decide), ms_a (by decide), h1 770 (by decide) (by decide)]
    · rw [ms_i (by decide), ms_i (by decide), h1 769 (by decide) (by decide)]
    · rw [← h1 b (by omega) (by omega)]
      funext j
      rw [ms_a (by omega), ms_a (by omega)]
  unfold v_304 g_304
  rw [show (0 : Int) + 578 = 578 by decide, n01, show (1 : Int) + 10 = 11 by decide, show (1 : Int) + 2 = 3 by decide]
  have d0 : ∀ b, ¬ b = 578 → ¬ b = 778 → mset d 578 1 0 b = d b := fun b x _ => by
    funext j
    exact ms_a x
  have d1 : ∀ v b, ¬ b = 578 → ¬ b = 778 → mset (mset d 578 1 0) 778 0 v b = d b := fun v b x y => by
    funext j
    rw [ms_a y, ms_a x]
  have key : ∀ D, (∀ b, ¬ b = 578 → ¬ b = 778 → D b = d b) → v_48 11 (v_93 578 0 (d 578 1) d) (mset d 578 1 0) = v_183 769 (v_210 769 D) (g_210 769 D) ∧ v_36 3 (v_93 578 0 (d 578 1) d) (mset d 578 1 0) = v_184 769 (v_210 769 D) (g_210 769 D) ∧ g_210 769 D = mset D 769 9 0 := fun D hD => by
    obtain ⟨-, -, n3, n4, n5⟩ := nameEq hi hD
    have r : g_210 769 D 770 = d 770 := by
      rw [n3, ← hD 770 (by decide) (by decide)]
      funext j
      exact ms_a (by decide)
    rw [m_v_183, m_v_184, r]
    exact ⟨n4, n5, n3⟩
  by_cases ck : k = 0
  · rw [if_pos ck, if_pos ck]
    by_cases c : v_48 11 (v_93 578 0 (d 578 1) d) (mset d 578 1 0) = -1
    · rw [if_pos c, if_pos c]
      obtain ⟨k1, -, k3⟩ := key _ d0
      have e : g_211 769 k (mset d 578 1 0) = mset (mset (mset d 578 1 0) 769 9 0) 769 0 1 := by
        unfold g_211
        rw [if_pos ck, ← k1, if_pos c, k3]
      rw [e]
      exact fin _ 1 0 _ d0 (ms_e rfl rfl) (fun z => absurd z (by decide))
    · rw [if_neg c, if_neg c]
      obtain ⟨k1, -, k3⟩ := key _ (d1 (v_48 11 (v_93 578 0 (d 578 1) d) (mset d 578 1 0)))
      have rg : -100000 ≤ v_48 11 (v_93 578 0 (d 578 1) d) (mset d 578 1 0) ∧ v_48 11 (v_93 578 0 (d 578 1) d) (mset d 578 1 0) ≤ 100000 := by
        have n8 := hi.1.1.1.2.1
        rcases V183_rng (m := v_210 769 (mset d 578 1 0)) n8 with z | z
        · rw [(nameEq hi d0).2.2.2.1, z]; decide
        · rw [(nameEq hi d0).2.2.2.1]; omega
      generalize hv : v_48 11 (v_93 578 0 (d 578 1) d) (mset d 578 1 0) = v at *
      have e : g_211 769 k (mset (mset d 578 1 0) 778 0 v) = mset (mset (mset (mset d 578 1 0) 778 0 v) 769 9 0) 769 0 0 ∧ v_211 769 k (mset (mset d 578 1 0) 778 0 v) = v := by
        unfold g_211 v_211
        rw [if_pos ck, if_pos ck, ← k1, if_neg c, if_neg c, k3]
        exact ⟨rfl, rfl⟩
      rw [e.1, e.2]
      exact fin _ 0 0 _ (d1 v) (by rw [ms_a (by decide), ms_e rfl rfl]) (fun _ => ⟨ms_e rfl rfl, inI.of rg⟩)
  · rw [if_neg ck, if_neg ck]
    by_cases c : v_36 3 (v_93 578 0 (d 578 1) d) (mset d 578 1 0) = -1
    · rw [if_pos c, if_pos c]
      obtain ⟨-, k1, k3⟩ := key _ d0
      have e : g_211 769 k (mset d 578 1 0) = mset (mset (mset d 578 1 0) 769 9 0) 769 0 1 := by
        unfold g_211
        rw [if_neg ck, ← k1, if_pos c, k3]
      rw [e]
      exact fin _ 1 0 _ d0 (ms_e rfl rfl) (fun z => absurd z (by decide))
    · rw [if_neg c, if_neg c]
      obtain ⟨-, k1, k3⟩ := key _ (d1 (v_36 3 (v_93 578 0 (d 578 1) d) (mset d 578 1 0)))
      have rg : -100000 ≤ v_36 3 (v_93 578 0 (d 578 1) d) (mset d 578 1 0) ∧ v_36 3 (v_93 578 0 (d 578 1) d) (mset d 578 1 0) ≤ 100000 := by
        have n7 := hi.1.1.1.1
        rcases V184_rng (m := v_210 769 (mset d 578 1 0)) n7 with z | z
        · rw [(nameEq hi d0).2.2.2.2, z]; decide
        · rw [(nameEq hi d0).2.2.2.2]; omega
      generalize hv : v_36 3 (v_93 578 0 (d 578 1) d) (mset d 578 1 0) = v at *
      have e : g_211 769 k (mset (mset d 578 1 0) 778 0 v) = mset (mset (mset (mset d 578 1 0) 778 0 v) 769 9 0) 769 0 0 ∧ v_211 769 k (mset (mset d 578 1 0) 778 0 v) = v := by
        unfold g_211 v_211
        rw [if_neg ck, if_neg ck, ← k1, if_neg c, if_neg c, k3]
        exact ⟨rfl, rfl⟩
      rw [e.1, e.2]
      exact fin _ 0 0 _ (d1 v) (by rw [ms_a (by decide), ms_e rfl rfl]) (fun _ => ⟨ms_e rfl rfl, inI.of rg⟩)
