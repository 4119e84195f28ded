/-! ===== claims and witnesses ===== -/
-- a ticket's claim is written
theorem setC {s t c v : Int} {d : mD} {w w' : Row} (hg : GG w) (h : Rel s d w) (ht : 0 ≤ t ∧ t < w 9) (hc : c = 0 ∨ c = 1) (hv : v = 0 ∨ v = 1) (h1 : v = 1 → c = 1 ∧ w (452 + 24 * t + 3) ≤ 999) (h2 : c = 1 → w (452 + 24 * t + 4) = 1) (e5 : w' (452 + 24 * t + 5) = c) (e6 : w' (452 + 24 * t + 6) = v) (e : ∀ i, ¬ i = 452 + 24 * t + 5 → ¬ i = 452 + 24 * t + 6 → w' i = w i) : GG w' ∧ Rel s (mset d (s + 55) t (c + v)) w' := by
  obtain ⟨hN, hO, hQ, hT, hC, hK, hR⟩ := id hg
  obtain ⟨n7, n8, n9, n10, n11, n0, n1, n2, n3, n4, n5, n6⟩ := id hN
  obtain ⟨rA, rO, rQ, rP, rT, rC, rK, rR, rB, rH⟩ := h
  have fd : ∀ b, ¬ b = s + 55 → mset d (s + 55) t (c + v) b = d b := fun b x => by
    funext j
    exact ms_a x
  refine ⟨⟨hN.k (fun i hi => e i (by omega) (by omega)), hO.k (fun i hi => e i (by omega) (by omega)) hN, hQ.k (fun i hi => e i (by omega) (by omega)) hN hO, hT.k (fun i hi => e i (by omega) (by omega)) hN hO, ?_, hK.k (fun i hi => e i (by omega) (by omega)) hN, hR.k (fun i hi => e i (by omega) (by omega)) hN⟩, rA.k (fun b x => fd b (by omega)) (fun i hi => e i (by omega) (by omega)), rO.k (fun b x y => fd b (by omega)) (fun i hi => e i (by omega) (by omega)) n7, rQ.k (fd _ (by omega)) (fun i hi => e i (by omega) (by omega)) n7 hO, rP.k (fun b x y => fd b (by omega)) (fun i hi => e i (by omega) (by omega)) n8, rT.k (fun b x y => fd b (by omega)) (fun i hi => e i (by omega) (by omega)) n9, ?_, rK.k (by rw [fd _ (by omega)]) (fun b x y => fd b (by omega)) (fun i hi => e i (by omega) (by omega)) n10, rR.k (by rw [fd _ (by omega)]) (fd _ (by omega)) (fun i hi => e i (by omega) (by omega)) n11, rB.k (fun b x y => fd b (by omega)) (fun i hi => e i (by omega) (by omega)) n8 n9 n10 hK.of, rH.k (fun b x y => fd b (by omega)) (fun i hi => e i (by omega) (by omega)) n8 n9 n10 hK.of⟩
  · intro t' x y
    rw [e 9 (by omega) (by omega)] at y
    have g := hC t' x y
    rw [e (452 + 24 * t' + 3) (by omega) (by omega), e (452 + 24 * t' + 4) (by omega) (by omega), e 0 (by omega) (by omega)]
    have gp : ∀ p, 0 ≤ p → p < 16 → 0 ≤ w' (452 + 24 * t' + 8 + p) ∧ w' (452 + 24 * t' + 8 + p) ≤ w 0 + 1 := fun p a b => by
      rw [e _ (by omega) (by omega)]
      exact g.2.2.2.2 p a b
    by_cases q : t' = t
    · rw [q] at gp ⊢
      rw [e5, e6]
      exact ⟨hc, hv, h1, h2, gp⟩
    · rw [e (452 + 24 * t' + 5) (by omega) (by omega), e (452 + 24 * t' + 6) (by omega) (by omega)]
      exact ⟨g.1, g.2.1, g.2.2.1, g.2.2.2.1, gp⟩
  · intro t' x y
    rw [e 9 (by omega) (by omega)] at y
    obtain ⟨g1, g2, g3, g4⟩ := rC t' x y
    rw [fd (s + 56) (by omega), e (452 + 24 * t' + 7) (by omega) (by omega)]
    refine ⟨?_, by rw [g2]; exact csum_congr (fun p a b => by rw [e (452 + 24 * t' + 8 + p) (by omega) (by omega)]), fun p a b => by rw [e (452 + 24 * t' + 8 + p) (by omega) (by omega)]; exact g3 p a b, g4⟩
    by_cases q : t' = t
    · rw [q, e5, e6, ms_e rfl rfl]
    · rw [e (452 + 24 * t' + 5) (by omega) (by omega), e (452 + 24 * t' + 6) (by omega) (by omega), ms_i q]
      exact g1
theorem canClaim {s t : Int} {d : mD} {w : Row} (hg : GG w) (h : Rel s d w) (ht : 0 ≤ t ∧ t < w 9) : v_73 s t d = V_227 t w ∧ (V_227 t w = 0 ∨ V_227 t w = 1) ∧ (V_227 t w = 1 ↔ w (452 + 24 * t + 4) = 1 ∧ w (452 + 24 * t + 5) = 0) := by
  obtain ⟨-, -, -, -, rT, rC, -⟩ := h
  have gt := (rT.2 t ht.1 ht.2).2.2.2.2
  have gc := (rC t ht.1 ht.2).1
  have g := hg.2.2.2.2.1 t ht.1 ht.2
  unfold v_73 V_227
  rw [show s + 49 + 5 = s + 54 by omega, show s + 49 + 6 = s + 55 by omega, gt, gc]
  by_cases c1 : w (452 + 24 * t + 4) = 1
  · rw [if_pos c1, if_pos c1]
    by_cases c2 : w (452 + 24 * t + 5) = 0
    · have c3 : w (452 + 24 * t + 6) = 0 := by
        rcases g.2.1 with z | z
        · exact z
        · have := (g.2.2.1 z).1
          omega
      rw [if_pos (by omega), if_pos c2]
      exact ⟨rfl, Or.inr rfl, ⟨fun _ => ⟨c1, c2⟩, fun _ => rfl⟩⟩
    · rw [if_neg (by omega), if_neg c2]
      exact ⟨rfl, Or.inl rfl, ⟨fun z => absurd z (by decide), fun z => absurd z.2 c2⟩⟩
  · rw [if_neg c1, if_neg c1]
    exact ⟨rfl, Or.inl rfl, ⟨fun z => absurd z (by decide), fun z => absurd z.1 c1⟩⟩
theorem claim {s t : Int} {d : mD} {w : Row} (hg : GG w) (h : Rel s d w) (ht : 0 ≤ t ∧ t < w 9) (hs : w (452 + 24 * t + 4) = 1) (hc : w (452 + 24 * t + 5) = 0) (h9 : w 0 ≤ 999) : v_74 s t d = V_228 t w ∧ GG (W_228 t w) ∧ Rel s (g_74 s t d) (W_228 t w) ∧ ∀ i, i ≤ 9 → W_228 t w i = w i := by
  have n9 := hg.1.2.2.1
  have n3 := hg.1.2.2.2.2.2.2.2.2.1
  have gt := hg.2.2.2.1 t ht.1 ht.2
  have g := hg.2.2.2.2.1 t ht.1 ht.2
  have h6 : w (452 + 24 * t + 6) = 0 := by
    rcases g.2.1 with z | z
    · exact z
    · have := (g.2.2.1 z).1
      omega
  have e3 : d (s + 1) 1 = w 3 := h.1.2.2 1 (by omega) (by omega)
  have hen : w (452 + 24 * t + 3) ≤ 999 := by
    have := gt.2.2.2.2.2 (by omega)
    omega
  obtain ⟨g1, r1⟩ := setC (c := 1) (v := 0) (w' := ws w (452 + 24 * t + 5) 1) hg h ht (Or.inr rfl) (Or.inl rfl) (fun z => absurd z (by decide)) (fun _ => hs) (wse rfl) (by rw [wsn (by omega)]; exact h6) (fun i a b => wsn a)
  rw [show (1 : Int) + 0 = 1 by decide] at r1
  unfold v_74 g_74 V_228 W_228
  rw [e3, show s + 49 + 6 = s + 55 by omega]
  by_cases c : 0 < w 3
  · have hz : ¬ w 3 = 0 := by omega
    simp only [if_neg hz, if_pos c]
    exact ⟨trivial, g1, r1, fun i hi => wsn (by omega)⟩
  · have hz : w 3 = 0 := by omega
    simp only [if_pos hz, if_neg c]
    obtain ⟨g2, r2⟩ := setC (s := s) (t := t) (c := 1) (v := 1) (w' := ws (ws w (452 + 24 * t + 5) 1) (452 + 24 * t + 6) 1) g1 r1 (by rw [wsn (by omega)]; exact ht) (Or.inr rfl) (Or.inr rfl) (fun _ => ⟨rfl, by rw [wsn (by omega)]; exact hen⟩) (fun _ => by rw [wsn (by omega)]; exact hs) (by rw [wsn (by omega), wse rfl]) (wse rfl) (fun i a b => wsn b)
    rw [show (1 : Int) + 1 = 2 by decide] at r2
    obtain ⟨m1, m2, m3, m4⟩ := makes (t := t) g2 r2 (by rw [wsn (by omega), wsn (by omega)]; exact ht) (by rw [wsn (by omega), wsn (by omega)]; exact hs) (by rw [wsn (by omega), wsn (by omega)]; exact hen)
    unfold v_76 g_76
    rw [show s + 49 + 6 = s + 55 by omega]
    exact ⟨m1, m2, m3, fun i hi => by rw [m4 i (by omega) (by omega), wsn (by omega), wsn (by omega)]⟩
-- a witness
theorem lp233 {p : Int} : ∀ (n : Nat) (a k : Int) (w : Row), 0 ≤ k → k ≤ w 9 → w 9 - k ≤ (n : Int) → LP_233_4 p n a k w = a + (csum (fun t => if 0 < w (452 + 24 * t + 8 + p) ∧ (w (452 + 24 * t + 8 + p) - 1) / 20 = w 0 / 20 then 1 else 0) (w 9).toNat - csum (fun t => if 0 < w (452 + 24 * t + 8 + p) ∧ (w (452 + 24 * t + 8 + p) - 1) / 20 = w 0 / 20 then 1 else 0) k.toNat) := by
  intro n
  induction n with
  | zero =>
    intro a k w h0 hk hn
    have : k = w 9 := by omega
    rw [this]
    show ST_233_4 p _ a (w 9) w = _
    unfold ST_233_4
    rw [if_neg (by omega)]
    omega
  | succ n ih =>
    intro a k w h0 hk hn
    by_cases c1 : k < w 9
    · have i := fun a => ih a (k + 1) w (by omega) (by omega) (by omega)
      rw [csum_s _ h0] at i
      show ST_233_4 p _ a k w = _
      unfold ST_233_4
      rw [if_pos c1]
      unfold V_232
      by_cases c2 : 0 < w (452 + 24 * k + 8 + p)
      · rw [if_pos c2]
        by_cases c3 : (w (452 + 24 * k + 8 + p) - 1) / 20 = w 0 / 20
        · rw [if_pos c3, if_neg (by decide), i, if_pos ⟨c2, c3⟩]
          omega
        · rw [if_neg c3, if_pos rfl, i, if_neg (fun z => c3 z.2)]
          omega
      · rw [if_neg c2, if_pos rfl, i, if_neg (fun z => c2 z.1)]
        omega
    · have : k = w 9 := by omega
      rw [this]
      show ST_233_4 p _ a (w 9) w = _
      unfold ST_233_4
      rw [if_neg (by omega)]
      omega
theorem v233 {p : Int} {w : Row} (h9 : 0 ≤ w 9 ∧ w 9 ≤ 60) : V_233 p w = attR w p := by
  have h := lp233 (p := p) (61 - 0 : Int).toNat 0 0 w (by decide) h9.1 (by rw [show (((61 - 0 : Int).toNat : Nat) : Int) = 61 by decide]; omega)
  unfold V_233 attR
  rw [h]
  show 0 + (_ - csum _ 0) = _
  simp only [csum]
  omega
theorem v232 {t p : Int} {w : Row} : (V_232 t p w = 0 ∨ V_232 t p w = 1) ∧ (V_232 t p w = 0 ↔ ¬ attd w t p) := by
  unfold V_232 attd
  by_cases c2 : 0 < w (452 + 24 * t + 8 + p)
  · rw [if_pos c2]
    by_cases c3 : (w (452 + 24 * t + 8 + p) - 1) / 20 = w 0 / 20
    · rw [if_pos c3]
      exact ⟨Or.inr rfl, ⟨fun z => absurd z (by decide), fun z => absurd ⟨c2, c3⟩ z⟩⟩
    · rw [if_neg c3]
      exact ⟨Or.inl rfl, ⟨fun _ z => c3 z.2, fun _ => rfl⟩⟩
  · rw [if_neg c2]
    exact ⟨Or.inl rfl, ⟨fun _ z => c2 z.1, fun _ => rfl⟩⟩
theorem lp234 {t p : Int} : ∀ (n : Nat) (a k : Int) (w : Row), 0 ≤ k → w 9 - k ≤ (n : Int) → (a = 0 ∨ a = 1) → (LP_234_97 t p n (452 + 24 * t) a k w = 0 ∨ LP_234_97 t p n (452 + 24 * t) a k w = 7) ∧ (LP_234_97 t p n (452 + 24 * t) a k w = 0 ↔ a = 0 ∧ ¬ ∃ j, k ≤ j ∧ j < w 9 ∧ w (452 + 24 * j + 0) = p ∧ attd w j (w (452 + 24 * t + 0))) := by
  have m00 : mior 0 0 = 0 := by decide
  have m10 : mior 1 0 = 1 := by decide
  have m01 : mior 0 1 = 1 := by decide
  have m11 : mior 1 1 = 1 := by decide
  intro n
  induction n with
  | zero =>
    intro a k w h0 hn ha
    have e : LP_234_97 t p 0 (452 + 24 * t) a k w = if a = 0 then 0 else 7 := by
      show ST_234_97 t p _ (452 + 24 * t) a k w = _
      unfold ST_234_97
      rw [if_neg (by omega)]
    rw [e]
    rcases ha with rfl | rfl
    · rw [if_pos rfl]
      exact ⟨Or.inl rfl, ⟨fun _ => ⟨rfl, fun ⟨j, a, b, _⟩ => by omega⟩, fun _ => rfl⟩⟩
    · rw [if_neg (by decide)]
      exact ⟨Or.inr rfl, ⟨fun z => absurd z (by decide), fun z => absurd z.1 (by decide)⟩⟩
  | succ n ih =>
    intro a k w h0 hn ha
    by_cases c1 : k < w 9
    · have pass : (w (452 + 24 * k + 0) = p → ¬ attd w k (w (452 + 24 * t + 0))) → LP_234_97 t p (n + 1) (452 + 24 * t) a k w = LP_234_97 t p n (452 + 24 * t) a (k + 1) w → (LP_234_97 t p (n + 1) (452 + 24 * t) a k w = 0 ∨ LP_234_97 t p (n + 1) (452 + 24 * t) a k w = 7) ∧ (LP_234_97 t p (n + 1) (452 + 24 * t) a k w = 0 ↔ a = 0 ∧ ¬ ∃ j, k ≤ j ∧ j < w 9 ∧ w (452 + 24 * j + 0) = p ∧ attd w j (w (452 + 24 * t + 0))) := fun hn' e => by
        obtain ⟨i1, i2⟩ := ih a (k + 1) w (by omega) (by omega) ha
        rw [e]
        refine ⟨i1, i2.trans ⟨fun z => ⟨z.1, fun ⟨j, x, y, u, v⟩ => ?_⟩, fun z => ⟨z.1, fun ⟨j, x, y, u, v⟩ => z.2 ⟨j, by omega, y, u, v⟩⟩⟩⟩
        by_cases hj : j = k
        · rw [hj] at u v
          exact hn' u v
        · exact z.2 ⟨j, by omega, y, u, v⟩
      by_cases c2 : w (452 + 24 * k + 0) = p
      · by_cases c3 : V_232 k (w (452 + 24 * t + 0)) w = 0
        · refine pass (fun _ => v232.2.mp c3) ?_
          show ST_234_97 t p _ (452 + 24 * t) a k w = _
          unfold ST_234_97
          rw [if_pos c1, if_pos c2, if_pos c3]
          rcases ha with rfl | rfl
          · rw [m00]
          · rw [m10]
        · have e : LP_234_97 t p (n + 1) (452 + 24 * t) a k w = LP_234_97 t p n (452 + 24 * t) 1 (k + 1) w := by
            show ST_234_97 t p _ (452 + 24 * t) a k w = _
            unfold ST_234_97
            rw [if_pos c1, if_pos c2, if_neg c3]
            rcases ha with rfl | rfl
            · rw [m01]
            · rw [m11]
          obtain ⟨i1, i2⟩ := ih 1 (k + 1) w (by omega) (by omega) (Or.inr rfl)
          have hat : attd w k (w (452 + 24 * t + 0)) := by
            rcases Classical.em (attd w k (w (452 + 24 * t + 0))) with z | z
            · exact z
            · exact absurd (v232.2.mpr z) c3
          rw [e]
          exact ⟨i1, i2.trans ⟨fun z => absurd z.1 (by decide), fun z => absurd ⟨k, by omega, c1, c2, hat⟩ z.2⟩⟩
      · refine pass (fun z => absurd z c2) ?_
        show ST_234_97 t p _ (452 + 24 * t) a k w = _
        unfold ST_234_97
        rw [if_pos c1, if_neg c2]
        rcases ha with rfl | rfl
        · rw [m00]
        · rw [m10]
    · have e : LP_234_97 t p (n + 1) (452 + 24 * t) a k w = if a = 0 then 0 else 7 := by
        show ST_234_97 t p _ (452 + 24 * t) a k w = _
        unfold ST_234_97
        rw [if_neg c1]
      rw [e]
      rcases ha with rfl | rfl
      · rw [if_pos rfl]
        exact ⟨Or.inl rfl, ⟨fun _ => ⟨rfl, fun ⟨j, a, b, _⟩ => by omega⟩, fun _ => rfl⟩⟩
      · rw [if_neg (by decide)]
        exact ⟨Or.inr rfl, ⟨fun z => absurd z (by decide), fun z => absurd z.1 (by decide)⟩⟩
-- the hours that two tickets have in common
theorem untilEq {s t : Int} {d : mD} {w : Row} (h : Rel s d w) (ht : 0 ≤ t ∧ t < w 9) : v_98 (s + 49) t (d s 2) d = V_212 t w := by
  obtain ⟨⟨-, a2, -⟩, -, -, -, rT, -⟩ := h
  unfold v_98 V_212
  rw [show s + 49 + 4 = s + 53 by omega, (rT.2 t ht.1 ht.2).2.2.2.1, a2]
theorem comLoop {s t p : Int} {d : mD} {w : Row} (h : Rel s d w) (ht : 0 ≤ t ∧ t < w 9) : ∀ (nc nr : Nat) (m k : Int), 0 ≤ k → 0 ≤ m → w 9 - k ≤ (nc : Int) → w 9 - k ≤ (nr : Int) → lp_78_5 s t p nc m k d = LP_231_5 t p nr m k w := by
  obtain ⟨⟨-, a2, -⟩, -, -, -, ⟨t1, t2⟩, -⟩ := id h
  have gt := t2 t ht.1 ht.2
  intro nc
  induction nc with
  | zero =>
    intro nr m k h0 hm h1 h2
    have e : lp_78_5 s t p 0 m k d = m := by
      show st_78_5 s t p _ m k d = m
      unfold st_78_5
      rw [if_neg (by rw [t1]; omega)]
    rw [e]
    cases nr with
    | zero =>
      show m = ST_231_5 t p _ m k w
      unfold ST_231_5
      rw [if_neg (by omega)]
    | succ nr =>
      show m = ST_231_5 t p _ m k w
      unfold ST_231_5
      rw [if_neg (by omega)]
  | succ nc ih =>
    intro nr m k h0 hm h1 h2
    by_cases c1 : k < w 9
    · cases nr with
      | zero => omega
      | succ nr =>
        have gk := t2 k h0 c1
        show st_78_5 s t p _ m k d = ST_231_5 t p _ m k w
        unfold st_78_5 ST_231_5
        rw [if_pos (by rw [t1]; exact c1), if_pos c1]
        rw [show s + 49 + 1 = s + 50 by omega, show s + 49 + 2 = s + 51 by omega, show s + 49 + 3 = s + 52 by omega, gk.1, gk.2.1, gt.2.1, gt.2.2.1, gk.2.2.1]
        by_cases c2 : k = t
        · rw [if_pos c2, if_pos c2]
          exact ih nr m (k + 1) (by omega) hm (by omega) (by omega)
        · rw [if_neg c2, if_neg c2]
          by_cases c3 : w (452 + 24 * k + 0) = p
          · rw [if_pos c3, if_pos c3]
            by_cases c4 : w (452 + 24 * k + 1) = w (452 + 24 * t + 1)
            · rw [if_pos c4, if_pos c4, untilEq h ht, untilEq h ⟨h0, c1⟩]
              have e1 := mmin_r (V_212 t w) (V_212 k w)
              have e2 := mmax_r (w (452 + 24 * t + 2)) (w (452 + 24 * k + 2))
              have e3 := mmax_r m (mmin (V_212 t w) (V_212 k w) - mmax (w (452 + 24 * t + 2)) (w (452 + 24 * k + 2)))
              have e4 : V_230 t k w = if mmax (w (452 + 24 * t + 2)) (w (452 + 24 * k + 2)) < mmin (V_212 t w) (V_212 k w) then mmin (V_212 t w) (V_212 k w) - mmax (w (452 + 24 * t + 2)) (w (452 + 24 * k + 2)) else 0 := by
                unfold V_230 mmax mmin
                repeat' split
                all_goals omega
              have e5 : (if m < V_230 t k w then V_230 t k w else m) = mmax m (mmin (V_212 t w) (V_212 k w) - mmax (w (452 + 24 * t + 2)) (w (452 + 24 * k + 2))) := by
                rw [e4]
                split
                · split <;> omega
                · split <;> omega
              rw [← e5]
              by_cases c5 : m < V_230 t k w
              · rw [if_pos c5, if_pos c5]
                exact ih nr _ (k + 1) (by omega) (by omega) (by omega) (by omega)
              · rw [if_neg c5, if_neg c5]
                exact ih nr m (k + 1) (by omega) hm (by omega) (by omega)
            · rw [if_neg c4, if_neg c4]
              exact ih nr m (k + 1) (by omega) hm (by omega) (by omega)
          · rw [if_neg c3, if_neg c3]
            exact ih nr m (k + 1) (by omega) hm (by omega) (by omega)
    · have e : lp_78_5 s t p (nc + 1) m k d = m := by
        show st_78_5 s t p _ m k d = m
        unfold st_78_5
        rw [if_neg (by rw [t1]; omega)]
      rw [e]
      cases nr with
      | zero =>
        show m = ST_231_5 t p _ m k w
        unfold ST_231_5
        rw [if_neg (by omega)]
      | succ nr =>
        show m = ST_231_5 t p _ m k w
        unfold ST_231_5
        rw [if_neg (by omega)]
theorem common {s t p : Int} {d : mD} {w : Row} (hg : GG w) (h : Rel s d w) (ht : 0 ≤ t ∧ t < w 9) : v_78 s t p d = V_231 t p w := by
  have n9 := hg.1.2.2.1
  exact comLoop h ht (60 - 0 : Int).toNat (61 - 0 : Int).toNat 0 0 (by omega) (by omega) (by rw [show (((60 - 0 : Int).toNat : Nat) : Int) = 60 by decide]; omega) (by rw [show (((61 - 0 : Int).toNat : Nat) : Int) = 61 by decide]; omega)
theorem ibit {W p : Int} (p0 : 0 ≤ p) (p1 : p < 31) : miand (mishr W p) 1 = if ib W p.toNat = true then 1 else 0 := by
  have e := iget W p.toNat (by omega)
  rw [igetb W p.toNat (by omega), show ((p.toNat : Nat) : Int) = p by omega] at e
  exact e
theorem hinder {s t p : Int} {d : mD} {w : Row} (hg : GG w) (h : Rel s d w) (ht : 0 ≤ t ∧ t < w 9) (hp : 0 ≤ p ∧ p < w 8) : v_77 s t p d = V_234 t p w ∧ (V_234 t p w = 0 → w (452 + 24 * t + 5) = 1 ∧ w (452 + 24 * t + 6) = 0 ∧ ¬ w (452 + 24 * t + 0) = p ∧ w (452 + 24 * t + 8 + p) = 0) := by
  have n8 := hg.1.2.1
  have n9 := hg.1.2.2.1
  have gT := hg.2.2.2.1 t ht.1 ht.2
  have gC := hg.2.2.2.2.1 t ht.1 ht.2
  have z0 : w (452 + 24 * t + 5) = 0 → w (452 + 24 * t + 5) + w (452 + 24 * t + 6) = 0 := fun z => by
    rcases gC.2.1 with q | q
    · omega
    · have := (gC.2.2.1 q).1
      omega
  have z1 : ¬ w (452 + 24 * t + 5) = 0 → w (452 + 24 * t + 6) = 0 → w (452 + 24 * t + 5) = 1 ∧ ¬ w (452 + 24 * t + 5) + w (452 + 24 * t + 6) = 0 ∧ ¬ w (452 + 24 * t + 5) + w (452 + 24 * t + 6) = 2 := fun z z' => by
    rcases gC.1 with q | q <;> omega
  have z2 : ¬ w (452 + 24 * t + 6) = 0 → ¬ w (452 + 24 * t + 5) + w (452 + 24 * t + 6) = 0 ∧ w (452 + 24 * t + 5) + w (452 + 24 * t + 6) = 2 := fun z => by
    rcases gC.2.1 with q | q
    · omega
    · have := (gC.2.2.1 q).1
      omega
  have hcom := common (p := p) hg h ht
  obtain ⟨⟨a1, a2, a3⟩, -, -, -, ⟨t1, t2⟩, rC, -, -, rB, -⟩ := id h
  have gt := t2 t ht.1 ht.2
  have gc := rC t ht.1 ht.2
  have gb := rB p hp.1 hp.2
  have gb2 := rB _ gT.1.1 gT.1.2
  have bit := gc.2.2.1 p hp.1 (by omega)
  have l := (lp234 (t := t) (p := p) (61 - 0 : Int).toNat 0 0 w (by omega) (by rw [show (((61 - 0 : Int).toNat : Nat) : Int) = 61 by decide]; omega) (Or.inl rfl))
  have e2 : d (s + 1) 2 = w 4 := a3 2 (by omega) (by omega)
  have ev : v_99 (s + 49) t p d = if w (452 + 24 * t + 8 + p) = 0 then 0 else 1 := by
    unfold v_99
    rw [show s + 49 + 7 = s + 56 by omega, ibit hp.1 (by omega)]
    by_cases z : ib (d (s + 56) t) p.toNat = true
    · rw [if_pos z, if_neg (by decide), if_neg (bit.mp z)]
    · rw [if_neg z, if_pos rfl]
      by_cases z2 : w (452 + 24 * t + 8 + p) = 0
      · rw [if_pos z2]
      · exact absurd (bit.mpr z2) z
  unfold v_77 V_234
  rw [show s + 49 + 6 = s + 55 by omega, show s + 49 + 1 = s + 50 by omega, show s + 10 + 4 = s + 14 by omega, show s + 10 + 5 = s + 15 by omega, gc.1, gt.1, ev, hcom, e2, gb.2.1, v233 n9, ibit hp.1 (by omega)]
  by_cases c1 : w (452 + 24 * t + 5) = 0
  · rw [if_pos (z0 c1), if_pos c1]
    exact ⟨rfl, fun z => absurd z (by decide)⟩
  · rw [if_neg (show ¬ w (452 + 24 * t + 5) + w (452 + 24 * t + 6) = 0 from fun z => (by
      rcases Classical.em (w (452 + 24 * t + 6) = 0) with q | q
      · exact (z1 c1 q).2.1 z
      · exact (z2 q).1 z)), if_neg c1]
    by_cases c2 : w (452 + 24 * t + 6) = 0
    · rw [if_neg (z1 c1 c2).2.2, if_pos c2]
      by_cases c3 : w (452 + 24 * t + 0) = p
      · rw [if_pos c3, if_pos c3]
        exact ⟨rfl, fun z => absurd z (by decide)⟩
      · rw [if_neg c3, if_neg c3]
        by_cases c4 : w (452 + 24 * t + 8 + p) = 0
        · rw [if_pos c4, if_pos rfl, if_pos c4]
          refine ⟨?_, fun _ => ⟨(z1 c1 c2).1, c2, c3, c4⟩⟩
          split
          · rfl
          · split
            · obtain ⟨l1, l2⟩ := l
              have hb := gb2.2.2 p hp.1 (by omega)
              by_cases z : ib (d (s + 15) (w (452 + 24 * t + 0))) p.toNat = true
              · rw [if_pos z, if_neg (by decide)]
                obtain ⟨j, j1, j2, j3, j4⟩ := hb.mp z
                rcases l1 with q | q
                · exact absurd ⟨j, j1, j2, j3, j4⟩ (l2.mp q).2
                · exact q.symm
              · rw [if_neg z, if_pos rfl]
                exact (l2.mpr ⟨rfl, fun ⟨j, j1, j2, j3, j4⟩ => z (hb.mpr ⟨j, j1, j2, j3, j4⟩)⟩).symm
            · rfl
        · rw [if_neg c4, if_neg (by decide), if_neg c4]
          exact ⟨rfl, fun z => absurd z (by decide)⟩
    · rw [if_pos (z2 c2).2, if_neg c2]
      exact ⟨rfl, fun z => absurd z (by decide)⟩
