/-! ===== small changes ===== -/
theorem GWt.of {w w' : Row} (h : GWt w) (h8 : w' 8 = w 8) (h9 : w' 9 = w 9) (e : ∀ t q, 0 ≤ t → t < w 9 → 0 ≤ q → q < 16 → w' (452 + 24 * t + 8 + q) = w (452 + 24 * t + 8 + q)) (p8 : 0 ≤ w 8) : GWt w' := by
  intro t x y q u v
  rw [h9] at y
  rw [h8] at u
  rw [e t q x y (by omega) v]
  exact h t x y q u v
-- one number ahead of the offices
theorem setHead {s j v : Int} {d d' : mD} {w : Row} (hg : GG w) (h : Rel s d w) (hj : 1 ≤ j ∧ j ≤ 6) (hN' : GN (ws w j v)) (hA : RelA s d' (ws w j v)) (hd : ∀ b, ¬ b = s → ¬ b = s + 1 → d' b = d b) : GG (ws w j v) ∧ Rel s d' (ws w j v) := by
  obtain ⟨hN, hO, hQ, hT, hC, hK, hR⟩ := id hg
  obtain ⟨n7, n8, n9, n10, n11, n0, n1, n2, n3, n4, n5, n6⟩ := id hN
  obtain ⟨rA, rO, rQ, rP, rT, rC, rK, rR, rB, rH⟩ := h
  have e : ∀ i, ¬ (1 ≤ i ∧ i ≤ 6) → ws w j v i = w i := fun i hi => wsn (by omega)
  generalize ws w j v = w' at *
  exact ⟨⟨hN', hO.k (fun i hi => e i (by omega)) hN, hQ.k (fun i hi => e i (by omega)) hN hO, hT.k (fun i hi => e i (by omega)) hN hO, hC.k (fun i hi => e i (by omega)) hN, hK.k (fun i hi => e i (by omega)) hN, hR.k (fun i hi => e i (by omega)) hN⟩, hA, rO.k (fun b x y => hd b (by omega) (by omega)) (fun i hi => e i (by omega)) n7, rQ.k (hd _ (by omega) (by omega)) (fun i hi => e i (by omega)) n7 hO, rP.k (fun b x y => hd b (by omega) (by omega)) (fun i hi => e i (by omega)) n8, rT.k (fun b x y => hd b (by omega) (by omega)) (fun i hi => e i (by omega)) n9, rC.k (fun b x => hd b (by omega) (by omega)) (fun i hi => e i (by omega)) n9, rK.k (by rw [hd _ (by omega) (by omega)]) (fun b x y => hd b (by omega) (by omega)) (fun i hi => e i (by omega)) n10, rR.k (by rw [hd _ (by omega) (by omega)]) (hd _ (by omega) (by omega)) (fun i hi => e i (by omega)) n11, rB.k (fun b x y => hd b (by omega) (by omega)) (fun i hi => e i (by omega)) n8 n9 n10 hK.of, rH.k (fun b x y => hd b (by omega) (by omega)) (fun i hi => e i (by omega)) n8 n9 n10 hK.of⟩
theorem setFund {s v : Int} {d : mD} {w : Row} (hg : GG w) (h : Rel s d w) (hv : 0 ≤ v ∧ v ≤ 99999) : GG (ws w 1 v) ∧ Rel s (mset d s 1 v) (ws w 1 v) := by
  obtain ⟨n7, n8, n9, n10, n11, n0, n1, n2, n3, n4, n5, n6⟩ := id hg.1
  obtain ⟨a1, a2, a3⟩ := id h.1
  refine setHead hg h ⟨by decide, by decide⟩ ?_ ⟨?_, ?_, fun k x y => ?_⟩ (fun b x y => by funext j; exact ms_a x)
  · unfold GN
    simp (disch := omega) only [wse, wsn]
    omega
  · rw [wse rfl, ms_e rfl rfl]
  · rw [wsn (by omega), ms_i (by omega)]; exact a2
  · rw [wsn (by omega), ms_a (by omega)]; exact a3 k x y
theorem setSet {s k v : Int} {d : mD} {w : Row} (hg : GG w) (h : Rel s d w) (hk : 0 ≤ k ∧ k < 5) (hN' : GN (ws w (2 + k) v)) : GG (ws w (2 + k) v) ∧ Rel s (mset d (s + 1) k v) (ws w (2 + k) v) := by
  obtain ⟨a1, a2, a3⟩ := id h.1
  refine setHead hg h ⟨by omega, by omega⟩ hN' ⟨?_, ?_, fun j x y => ?_⟩ (fun b x y => by funext j; exact ms_a y)
  · rw [wsn (by omega), ms_a (by omega)]; exact a1
  · rw [wsn (by omega), ms_a (by omega)]; exact a2
  · by_cases c : j = k
    · rw [c, wse rfl, ms_e rfl rfl]
    · rw [wsn (by omega), ms_i c]; exact a3 j x y
theorem setOpen {s o : Int} {d : mD} {w : Row} (hg : GG w) (h : Rel s d w) (ho : 0 ≤ o ∧ o < w 7) : GG (ws w (12 + 68 * o + 4) 1) ∧ Rel s (mset d (s + 7) o 1) (ws w (12 + 68 * o + 4) 1) := by
  obtain ⟨hN, hO, hQ, hT, hC, hK, hR⟩ := id hg
  obtain ⟨n7, n8, n9, n10, n11, n0, n1, n2, n3, n4, n5, n6⟩ := id hN
  obtain ⟨rA, ⟨o1, o2⟩, rQ, rP, rT, rC, rK, rR, rB, rH⟩ := h
  have eo : ws w (12 + 68 * o + 4) 1 (12 + 68 * o + 4) = 1 := wse rfl
  have e : ∀ i, ¬ i = 12 + 68 * o + 4 → ws w (12 + 68 * o + 4) 1 i = w i := fun i hi => wsn hi
  generalize ws w (12 + 68 * o + 4) 1 = w' at *
  have fd : ∀ b, ¬ b = s + 7 → mset d (s + 7) o 1 b = d b := fun b x => by
    funext j
    exact ms_a x
  refine ⟨⟨hN.k (fun i hi => e i (by omega)), fun o' x y => ?_, hQ.k (fun i hi => e i (by omega)) hN hO, hT.k (fun i hi => e i (by omega)) hN hO, hC.k (fun i hi => e i (by omega)) hN, hK.k (fun i hi => e i (by omega)) hN, hR.k (fun i hi => e i (by omega)) hN⟩, rA.k (fun b x => fd b (by omega)) (fun i hi => e i (by omega)), ⟨?_, fun o' x y => ?_⟩, rQ.k (fd _ (by omega)) (fun i hi => e i (by omega)) n7 hO, rP.k (fun b x y => fd b (by omega)) (fun i hi => e i (by omega)) n8, rT.k (fun b x y => fd b (by omega)) (fun i hi => e i (by omega)) n9, rC.k (fun b x => fd b (by omega)) (fun i hi => e i (by omega)) n9, rK.k (by rw [fd _ (by omega)]) (fun b x y => fd b (by omega)) (fun i hi => e i (by omega)) n10, rR.k (by rw [fd _ (by omega)]) (fd _ (by omega)) (fun i hi => e i (by omega)) n11, rB.k (fun b x y => fd b (by omega)) (fun i hi => e i (by omega)) n8 n9 n10 hK.of, rH.k (fun b x y => fd b (by omega)) (fun i hi => e i (by omega)) n8 n9 n10 hK.of⟩
  · rw [e 7 (by omega)] at y
    have g := hO o' x y
    rw [e (12 + 68 * o' + 1) (by omega), e (12 + 68 * o' + 2) (by omega), e (12 + 68 * o' + 3) (by omega), e (12 + 68 * o' + 5) (by omega), e (12 + 68 * o' + 6) (by omega), e 9 (by omega), csum_congr (f := fun t => if w' (452 + 24 * t + 4) = 1 ∧ w' (452 + 24 * t + 1) = o' then 1 else 0) (g := fun t => if w (452 + 24 * t + 4) = 1 ∧ w (452 + 24 * t + 1) = o' then 1 else 0) (fun t a b => by
      show (if w' (452 + 24 * t + 4) = 1 ∧ w' (452 + 24 * t + 1) = o' then (1 : Int) else 0) = if w (452 + 24 * t + 4) = 1 ∧ w (452 + 24 * t + 1) = o' then 1 else 0
      rw [e (452 + 24 * t + 4) (by omega), e (452 + 24 * t + 1) (by omega)])]
    by_cases c : o' = o
    · rw [c, eo]
      rw [c] at g
      exact ⟨g.1, g.2.1, g.2.2.1, Or.inr rfl, g.2.2.2.2.1, fun z => absurd z (by decide), g.2.2.2.2.2.2⟩
    · rw [e (12 + 68 * o' + 4) (by omega)]
      exact g
  · rw [fd _ (by omega), e 7 (by omega)]; exact o1
  · rw [e 7 (by omega)] at y
    have g := o2 o' x y
    rw [fd (s + 3) (by omega), fd (s + 4) (by omega), fd (s + 5) (by omega), fd (s + 6) (by omega), fd (s + 8) (by omega), e (12 + 68 * o' + 0) (by omega), e (12 + 68 * o' + 1) (by omega), e (12 + 68 * o' + 2) (by omega), e (12 + 68 * o' + 3) (by omega), e (12 + 68 * o' + 5) (by omega)]
    refine ⟨g.1, g.2.1, g.2.2.1, g.2.2.2.1, ?_, g.2.2.2.2.2⟩
    by_cases c : o' = o
    · rw [c, eo, ms_e rfl rfl]
    · rw [e _ (by omega), ms_i c]; exact g.2.2.2.2.1
-- a new person
theorem addP {s c : Int} {d : mD} {w : Row} (hg : GG w) (hw : GWt w) (h : Rel s d w) (h8 : w 8 < 16) (hc : okN c) : GG (W_182 (nm c) w) ∧ GWt (W_182 (nm c) w) ∧ Rel s (g_47 (s + 10) c d) (W_182 (nm c) w) ∧ W_182 (nm c) w 8 = w 8 + 1 ∧ ∀ i, ¬ i = 8 → ¬ (420 ≤ i ∧ i < 452) → W_182 (nm c) w i = w i := by
  obtain ⟨hN, hO, hQ, hT, hC, hK, hR⟩ := id hg
  obtain ⟨n7, n8, n9, n10, n11, n0, n1, n2, n3, n4, n5, n6⟩ := id hN
  obtain ⟨rA, rO, rQ, ⟨p1, p2⟩, rT, rC, rK, rR, rB, rH⟩ := h
  generalize hw' : W_182 (nm c) w = w'
  have e8 : w' 8 = w 8 + 1 := by
    rw [← hw']
    unfold W_182
    simp (disch := omega) only [wse, wsn]
  have ep0 : w' (420 + 2 * w 8 + 0) = nm c := by
    rw [← hw']
    unfold W_182
    simp (disch := omega) only [wse, wsn]
  have ep1 : w' (420 + 2 * w 8 + 1) = 0 := by
    rw [← hw']
    unfold W_182
    simp (disch := omega) only [wse, wsn]
  have e : ∀ i, ¬ i = 8 → ¬ i = 420 + 2 * w 8 + 0 → ¬ i = 420 + 2 * w 8 + 1 → w' i = w i := fun i x y z => by
    rw [← hw']
    unfold W_182
    simp (disch := omega) only [wsn]
  have eh : g_8 (s + 10 + 6 + (1 + 2 * w 8)) = fun d => mfl d (s + 18 + 2 * w 8) 0 16 := by
    funext d
    unfold g_8 g_300
    rw [show s + 10 + 6 + (1 + 2 * w 8) + 1 = s + 18 + 2 * w 8 by omega]
  generalize hd : g_47 (s + 10) c d = d'
  have ed : d' = mset (mfl (mset (mset (mset (mset (mset d (s + 11) (w 8) c) (s + 12) (w 8) 0) (s + 13) (w 8) 0) (s + 14) (w 8) 0) (s + 15) (w 8) 0) (s + 18 + 2 * w 8) 0 16) (s + 10) 0 (w 8 + 1) := by
    rw [← hd]
    unfold g_47
    rw [p1, if_pos h8, eh]
    simp only [show s + 10 + 1 = s + 11 by omega, show s + 10 + 2 = s + 12 by omega, show s + 10 + 3 = s + 13 by omega, show s + 10 + 4 = s + 14 by omega, show s + 10 + 5 = s + 15 by omega]
  have fd : ∀ b, ¬ (s + 10 ≤ b ∧ b ≤ s + 15) → ¬ b = s + 18 + 2 * w 8 → d' b = d b := fun b x y => by
    rw [ed]
    funext j
    simp (disch := omega) only [ms_a, fl_n]
  have fe : ∀ b j, s + 11 ≤ b → b ≤ s + 15 → ¬ j = w 8 → d' b j = d b j := fun b j x y z => by
    rw [ed]
    simp (disch := omega) only [ms_a, ms_i, fl_n]
  have pO : ∀ k, perO w' k = perO w k ∨ ¬ (0 ≤ k ∧ k < w 10) := fun k => by
    by_cases q : 0 ≤ k ∧ k < w 10
    · have g := hK k q.1 q.2
      refine Or.inl ?_
      unfold perO
      rw [e (1916 + 5 * k + 1) (by omega) (by omega) (by omega), e _ (by omega) (by omega) (by omega)]
    · exact Or.inr q
  have pO' : ∀ k, 0 ≤ k → k < w 10 → perO w' k = perO w k ∧ perO w k < w 8 := fun k a b => by
    refine ⟨(pO k).elim id (fun z => absurd ⟨a, b⟩ z), ?_⟩
    have g := hK k a b
    exact (hT _ g.2.1.1 g.2.1.2).1.2
  refine ⟨⟨?_, hO.k (fun i hi => e i (by omega) (by omega) (by omega)) hN, hQ.k (fun i hi => e i (by omega) (by omega) (by omega)) hN hO, ?_, hC.k (fun i hi => e i (by omega) (by omega) (by omega)) hN, ?_, hR.k (fun i hi => e i (by omega) (by omega) (by omega)) hN⟩, ?_, ⟨rA.k (fun b x => fd b (by omega) (by omega)) (fun i hi => e i (by omega) (by omega) (by omega)), rO.k (fun b x y => fd b (by omega) (by omega)) (fun i hi => e i (by omega) (by omega) (by omega)) n7, rQ.k (fd _ (by omega) (by omega)) (fun i hi => e i (by omega) (by omega) (by omega)) n7 hO, ⟨?_, fun p x y => ?_⟩, rT.k (fun b x y => fd b (by omega) (by omega)) (fun i hi => e i (by omega) (by omega) (by omega)) n9, rC.k (fun b x => fd b (by omega) (by omega)) (fun i hi => e i (by omega) (by omega) (by omega)) n9, rK.k (by rw [fd _ (by omega) (by omega)]) (fun b x y => fd b (by omega) (by omega)) (fun i hi => e i (by omega) (by omega) (by omega)) n10, rR.k (by rw [fd _ (by omega) (by omega)]) (fd _ (by omega) (by omega)) (fun i hi => e i (by omega) (by omega) (by omega)) n11, ?_, ?_⟩, e8, fun i x y => e i x (by omega) (by omega)⟩
  · unfold GN
    rw [e8, e 0 (by omega) (by omega) (by omega), e 1 (by omega) (by omega) (by omega), e 2 (by omega) (by omega) (by omega), e 3 (by omega) (by omega) (by omega), e 4 (by omega) (by omega) (by omega), e 5 (by omega) (by omega) (by omega), e 6 (by omega) (by omega) (by omega), e 7 (by omega) (by omega) (by omega), e 9 (by omega) (by omega) (by omega), e 10 (by omega) (by omega) (by omega), e 11 (by omega) (by omega) (by omega)]
    omega
  · intro t x y
    rw [e 9 (by omega) (by omega) (by omega)] at y
    have g := hT t x y
    rw [e (452 + 24 * t + 0) (by omega) (by omega) (by omega), e (452 + 24 * t + 1) (by omega) (by omega) (by omega), e (452 + 24 * t + 2) (by omega) (by omega) (by omega), e (452 + 24 * t + 3) (by omega) (by omega) (by omega), e (452 + 24 * t + 4) (by omega) (by omega) (by omega), e 0 (by omega) (by omega) (by omega), e 7 (by omega) (by omega) (by omega), e8]
    refine ⟨by omega, g.2.1, g.2.2.1, g.2.2.2.1, fun z => ?_, g.2.2.2.2.2⟩
    obtain ⟨z1, k, z2, z3, z4⟩ := g.2.2.2.2.1 z
    have go := hO _ g.2.1.1 g.2.1.2
    exact ⟨z1, k, z2, by rw [e _ (by omega) (by omega) (by omega)]; exact z3, by rw [e _ (by omega) (by omega) (by omega)]; exact z4⟩
  · intro k x y
    rw [e 10 (by omega) (by omega) (by omega)] at y
    have g := hK k x y
    rw [e (1916 + 5 * k + 0) (by omega) (by omega) (by omega), e (1916 + 5 * k + 1) (by omega) (by omega) (by omega), e (1916 + 5 * k + 2) (by omega) (by omega) (by omega), e (1916 + 5 * k + 3) (by omega) (by omega) (by omega), e (1916 + 5 * k + 4) (by omega) (by omega) (by omega), e 0 (by omega) (by omega) (by omega), e8, e 9 (by omega) (by omega) (by omega), (pO' k x y).1]
    refine ⟨by omega, g.2.1, g.2.2.1, g.2.2.2.1, g.2.2.2.2.1, fun i a b => ?_⟩
    rw [e (1916 + 5 * i + 2) (by omega) (by omega) (by omega), (pO' i a (by omega)).1]
    exact g.2.2.2.2.2 i a b
  · intro t x y q u v
    rw [e 9 (by omega) (by omega) (by omega)] at y
    rw [e8] at u
    rw [e _ (by omega) (by omega) (by omega)]
    exact hw t x y q (by omega) v
  · rw [ed, e8, ms_e rfl rfl]
  · rw [e8] at y
    by_cases q : p = w 8
    · rw [q, ep0, ep1, ed]
      simp (disch := omega) only [ms_a, ms_e, fl_n]
      exact ⟨⟨hc, trivial⟩, trivial⟩
    · rw [e (420 + 2 * p + 0) (by omega) (by omega) (by omega), e (420 + 2 * p + 1) (by omega) (by omega) (by omega), fe (s + 11) p (by omega) (by omega) q, fe (s + 12) p (by omega) (by omega) q]
      exact p2 p x (by omega)
  · intro p x y
    rw [e8] at y
    have hm : madeR w' p = madeR w p := madeR_k' (e 10 (by omega) (by omega) (by omega)) (fun k a b => ⟨(pO' k a b).1, e _ (by omega) (by omega) (by omega), e 0 (by omega) (by omega) (by omega)⟩)
    have ha : attR w' p = attR w p := by
      unfold attR
      rw [e 9 (by omega) (by omega) (by omega), e 0 (by omega) (by omega) (by omega)]
      exact csum_congr (fun t a b => by rw [e (452 + 24 * t + 8 + p) (by omega) (by omega) (by omega)])
    have hb : ∀ r, (∃ t, 0 ≤ t ∧ t < w' 9 ∧ w' (452 + 24 * t + 0) = r ∧ attd w' t p) ↔ ∃ t, 0 ≤ t ∧ t < w 9 ∧ w (452 + 24 * t + 0) = r ∧ attd w t p := fun r => by
      rw [e 9 (by omega) (by omega) (by omega)]
      constructor
      · rintro ⟨t, a, b, c, dd⟩
        rw [e _ (by omega) (by omega) (by omega)] at c
        unfold attd at dd
        rw [e (452 + 24 * t + 8 + p) (by omega) (by omega) (by omega), e 0 (by omega) (by omega) (by omega)] at dd
        exact ⟨t, a, b, c, dd⟩
      · rintro ⟨t, a, b, c, dd⟩
        refine ⟨t, a, b, by rw [e _ (by omega) (by omega) (by omega)]; exact c, ?_⟩
        unfold attd
        rw [e (452 + 24 * t + 8 + p) (by omega) (by omega) (by omega), e 0 (by omega) (by omega) (by omega)]
        exact dd
    rw [hm, ha]
    by_cases q : p = w 8
    · have z1 : d' (s + 13) p = 0 := by
        rw [ed, q]
        simp (disch := omega) only [ms_a, ms_e, fl_n]
      have z2 : d' (s + 14) p = 0 := by
        rw [ed, q]
        simp (disch := omega) only [ms_a, ms_e, fl_n]
      have z3 : d' (s + 15) p = 0 := by
        rw [ed, q]
        simp (disch := omega) only [ms_a, ms_e, fl_n]
      rw [z1, z2, z3]
      refine ⟨?_, ?_, fun r a b => ?_⟩
      · unfold madeR
        refine (csum_zero (fun k a b => ?_)).symm
        have := (pO' k a (by omega)).2
        rw [if_neg (by omega)]
      · unfold attR
        refine (csum_zero (fun t a b => ?_)).symm
        rw [hw t a (by omega) p (by omega) (by omega), if_neg (by omega)]
      · rw [ib_zero, hb]
        constructor
        · intro z; cases z
        · rintro ⟨t, a, b, c, dd⟩
          unfold attd at dd
          rw [hw t a b p (by omega) (by omega)] at dd
          omega
    · obtain ⟨g1, g2, g3⟩ := rB p x (by omega)
      rw [fe (s + 13) p (by omega) (by omega) q, fe (s + 14) p (by omega) (by omega) q, fe (s + 15) p (by omega) (by omega) q]
      exact ⟨g1, g2, fun r a b => (g3 r a b).trans (hb r).symm⟩
  · intro p x y h0 u v
    rw [e8] at y
    have hb : (∃ k, 0 ≤ k ∧ k < w' 10 ∧ w' (1916 + 5 * k + 2) = h0 ∧ perO w' k = p) ↔ ∃ k, 0 ≤ k ∧ k < w 10 ∧ w (1916 + 5 * k + 2) = h0 ∧ perO w k = p := by
      rw [e 10 (by omega) (by omega) (by omega)]
      constructor
      · rintro ⟨k, a, b, c, dd⟩
        rw [e _ (by omega) (by omega) (by omega)] at c
        rw [(pO' k a b).1] at dd
        exact ⟨k, a, b, c, dd⟩
      · rintro ⟨k, a, b, c, dd⟩
        exact ⟨k, a, b, by rw [e _ (by omega) (by omega) (by omega)]; exact c, by rw [(pO' k a b).1]; exact dd⟩
    rw [hb]
    by_cases q : p = w 8
    · have z : d' (s + 18 + 2 * p) (h0 / 64) = 0 := by
        rw [ed, q]
        simp (disch := omega) only [ms_a]
        exact fl_e rfl (by omega) (by omega)
      rw [z, lb_zero]
      constructor
      · intro z; cases z
      · rintro ⟨k, a, b, c, dd⟩
        have := (pO' k a b).2
        omega
    · rw [fd _ (by omega) (by omega)]
      exact rH p x (by omega) h0 u v
