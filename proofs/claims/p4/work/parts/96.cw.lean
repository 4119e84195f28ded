/-! ===== claims and witnesses ===== -/
-- a ticket's claim is written
theorem setC {s t c v : Int} {d : mD} {w w' : Row} (hg : GG w) (h : Rel s d w) (ht : 0 ≤ t ∧ t < w 9) (hc : c = 0 ∨ c = 1) (hv : v = 0 ∨ v = 1) (h1 : v = 1 → c = 1 ∧ w (452 + 24 * t + 3) ≤ 999) (h2 : c = 1 → w (452 + 24 * t + 4) = 1) (e5 : w' (452 + 24 * t + 5) = c) (e6 : w' (452 + 24 * t + 6) = v) (e : ∀ i, ¬ i = 452 + 24 * t + 5 → ¬ i = 452 + 24 * t + 6 → w' i = w i) : GG w' ∧ Rel s (mset d (s + 55) t (c + v)) w' := by
  obtain ⟨hN, hO, hQ, hT, hC, hK, hR⟩ := id hg
  obtain ⟨n7, n8, n9, n10, n11, n0, n1, n2, n3, n4, n5, n6⟩ := id hN
  obtain ⟨rA, rO, rQ, rP, rT, rC, rK, rR, rB, rH⟩ := h
  have fd : ∀ b, ¬ b = s + 55 → mset d (s + 55) t (c + v) b = d b := fun b x => by
    funext j
    exact ms_a x
  refine ⟨⟨hN.k (fun i hi => e i (by omega) (by omega)), hO.k (fun i hi => e i (by omega) (by omega)) hN, hQ.k (fun i hi => e i (by omega) (by omega)) hN hO, hT.k (fun i hi => e i (by omega) (by omega)) hN hO, ?_, hK.k (fun i hi => e i (by omega) (by omega)) hN, hR.k (fun i hi => e i (by omega) (by omega)) hN⟩, rA.k (fun b x => fd b (by omega)) (fun i hi => e i (by omega) (by omega)), rO.k (fun b x y => fd b (by omega)) (fun i hi => e i (by omega) (by omega)) n7, rQ.k (fd _ (by omega)) (fun i hi => e i (by omega) (by omega)) n7 hO, rP.k (fun b x y => fd b (by omega)) (fun i hi => e i (by omega) (by omega)) n8, rT.k (fun b x y => fd b (by omega)) (fun i hi => e i (by omega) (by omega)) n9, ?_, rK.k (by rw [fd _ (by omega)]) (fun b x y => fd b (by omega)) (fun i hi => e i (by omega) (by omega)) n10, rR.k (by rw [fd _ (by omega)]) (fd _ (by omega)) (fun i hi => e i (by omega) (by omega)) n11, rB.k (fun b x y => fd b (by omega)) (fun i hi => e i (by omega) (by omega)) n8 n9 n10 hK.of, rH.k (fun b x y => fd b (by omega)) (fun i hi => e i (by omega) (by omega)) n8 n9 n10 hK.of⟩
  · intro t' x y
    rw [e 9 (by omega) (by omega)] at y
    have g := hC t' x y
    rw [e (452 + 24 * t' + 3) (by omega) (by omega), e (452 + 24 * t' + 4) (by omega) (by omega), e 0 (by omega) (by omega)]
    have gp : ∀ p, 0 ≤ p → p < 16 → 0 ≤ w' (452 + 24 * t' + 8 + p) ∧ w' (452 + 24 * t' + 8 + p) ≤ w 0 + 1 := fun p a b => by
      rw [e _ (by omega) (by omega)]
      exact g.2.2.2.2 p a b
    by_cases q : t' = t
    · rw [q] at gp ⊢
      rw [e5, e6]
      exact ⟨hc, hv, h1, h2, gp⟩
    · rw [e (452 + 24 * t' + 5) (by omega) (by omega), e (452 + 24 * t' + 6) (by omega) (by omega)]
      exact ⟨g.1, g.2.1, g.2.2.1, g.2.2.2.1, gp⟩
  · intro t' x y
    rw [e 9 (by omega) (by omega)] at y
    obtain ⟨g1, g2, g3, g4⟩ := rC t' x y
    rw [fd (s + 56) (by omega), e (452 + 24 * t' + 7) (by omega) (by omega)]
    refine ⟨?_, by rw [g2]; exact csum_congr (fun p a b => by rw [e (452 + 24 * t' + 8 + p) (by omega) (by omega)]), fun p a b => by rw [e (452 + 24 * t' + 8 + p) (by omega) (by omega)]; exact g3 p a b, g4⟩
    by_cases q : t' = t
    · rw [q, e5, e6, ms_e rfl rfl]
    · rw [e (452 + 24 * t' + 5) (by omega) (by omega), e (452 + 24 * t' + 6) (by omega) (by omega), ms_i q]
      exact g1
theorem canClaim {s t : Int} {d : mD} {w : Row} (hg : GG w) (h : Rel s d w) (ht : 0 ≤ t ∧ t < w 9) : v_73 s t d = V_227 t w ∧ (V_227 t w = 0 ∨ V_227 t w = 1) ∧ (V_227 t w = 1 ↔ w (452 + 24 * t + 4) = 1 ∧ w (452 + 24 * t + 5) = 0) := by
  obtain ⟨-, -, -, -, rT, rC, -⟩ := h
  have gt := (rT.2 t ht.1 ht.2).2.2.2.2
  have gc := (rC t ht.1 ht.2).1
  have g := hg.2.2.2.2.1 t ht.1 ht.2
  unfold v_73 V_227
  rw [show s + 49 + 5 = s + 54 by omega, show s + 49 + 6 = s + 55 by omega, gt, gc]
  by_cases c1 : w (452 + 24 * t + 4) = 1
  · rw [if_pos c1, if_pos c1]
    by_cases c2 : w (452 + 24 * t + 5) = 0
    · have c3 : w (452 + 24 * t + 6) = 0 := by
        rcases g.2.1 with z | z
        · exact z
        · have := (g.2.2.1 z).1
          omega
      rw [if_pos (by omega), if_pos c2]
      exact ⟨rfl, Or.inr rfl, ⟨fun _ => ⟨c1, c2⟩, fun _ => rfl⟩⟩
    · rw [if_neg (by omega), if_neg c2]
      exact ⟨rfl, Or.inl rfl, ⟨fun z => absurd z (by decide), fun z => absurd z.2 c2⟩⟩
  · rw [if_neg c1, if_neg c1]
    exact ⟨rfl, Or.inl rfl, ⟨fun z => absurd z (by decide), fun z => absurd z.1 c1⟩⟩
theorem claim {s t : Int} {d : mD} {w : Row} (hg : GG w) (h : Rel s d w) (ht : 0 ≤ t ∧ t < w 9) (hs : w (452 + 24 * t + 4) = 1) (hc : w (452 + 24 * t + 5) = 0) (h9 : w 0 ≤ 999) : v_74 s t d = V_228 t w ∧ GG (W_228 t w) ∧ Rel s (g_74 s t d) (W_228 t w) ∧ ∀ i, i ≤ 9 → W_228 t w i = w i := by
  have n9 := hg.1.2.2.1
  have n3 := hg.1.2.2.2.2.2.2.2.2.1
  have gt := hg.2.2.2.1 t ht.1 ht.2
  have g := hg.2.2.2.2.1 t ht.1 ht.2
  have h6 : w (452 + 24 * t + 6) = 0 := by
    rcases g.2.1 with z | z
    · exact z
    · have := (g.2.2.1 z).1
      omega
  have e3 : d (s + 1) 1 = w 3 := h.1.2.2 1 (by omega) (by omega)
  have hen : w (452 + 24 * t + 3) ≤ 999 := by
    have := gt.2.2.2.2.2 (by omega)
    omega
  obtain ⟨g1, r1⟩ := setC (c := 1) (v := 0) (w' := ws w (452 + 24 * t + 5) 1) hg h ht (Or.inr rfl) (Or.inl rfl) (fun z => absurd z (by decide)) (fun _ => hs) (wse rfl) (by rw [wsn (by omega)]; exact h6) (fun i a b => wsn a)
  rw [show (1 : Int) + 0 = 1 by decide] at r1
  unfold v_74 g_74 V_228 W_228
  rw [e3, show s + 49 + 6 = s + 55 by omega]
  by_cases c : 0 < w 3
  · have hz : ¬ w 3 = 0 := by omega
    simp only [if_neg hz, if_pos c]
    exact ⟨trivial, g1, r1, fun i hi => wsn (by omega)⟩
  · have hz : w 3 = 0 := by omega
    simp only [if_pos hz, if_neg c]
    obtain ⟨g2, r2⟩ := setC (s := s) (t := t) (c := 1) (v := 1) (w' := ws (ws w (452 + 24 * t + 5) 1) (452 + 24 * t + 6) 1) g1 r1 (by rw [wsn (by omega)]; exact ht) (Or.inr rfl) (Or.inr rfl) (fun _ => ⟨rfl, by rw [wsn (by omega)]; exact hen⟩) (fun _ => by rw [wsn (by omega)]; exact hs) (by rw [wsn (by omega), wse rfl]) (wse rfl) (fun i a b => wsn b)
    rw [show (1 : Int) + 1 = 2 by decide] at r2
    obtain ⟨m1, m2, m3, m4⟩ := makes (t := t) g2 r2 (by rw [wsn (by omega), wsn (by omega)]; exact ht) (by rw [wsn (by omega), wsn (by omega)]; exact hs) (by rw [wsn (by omega), wsn (by omega)]; exact hen)
    unfold v_76 g_76
    rw [show s + 49 + 6 = s + 55 by omega]
    exact ⟨m1, m2, m3, fun i hi => by rw [m4 i (by omega) (by omega), wsn (by omega), wsn (by omega)]⟩
-- a witness
theorem lp233 {p : Int} : ∀ (n : Nat) (a k : Int) (w : Row), 0 ≤ k → k ≤ w 9 → w 9 - k ≤ (n : Int) → LP_233_4 p n a k w = a + (csum (fun t => if 0 < w (452 + 24 * t + 8 + p) ∧ (w (452 + 24 * t + 8 + p) - 1) / 20 = w 0 / 20 then 1 else 0) (w 9).toNat - csum (fun t => if 0 < w (452 + 24 * t + 8 + p) ∧ (w (452 + 24 * t + 8 + p) - 1) / 20 = w 0 / 20 then 1 else 0) k.toNat) := by
  intro n
  induction n with
  | zero =>
    intro a k w h0 hk hn
    have : k = w 9 := by omega
    rw [this]
    show ST_233_4 p _ a (w 9) w = _
    unfold ST_233_4
    rw [if_neg (by omega)]
    omega
  | succ n ih =>
    intro a k w h0 hk hn
    by_cases c1 : k < w 9
    · have i := fun a => ih a (k + 1) w (by omega) (by omega) (by omega)
      rw [csum_s _ h0] at i
      show ST_233_4 p _ a k w = _
      unfold ST_233_4
      rw [if_pos c1]
      unfold V_232
      by_cases c2 : 0 < w (452 + 24 * k + 8 + p)
      · rw [if_pos c2]
        by_cases c3 : (w (452 + 24 * k + 8 + p) - 1) / 20 = w 0 / 20
        · rw [if_pos c3, if_neg (by decide), i, if_pos ⟨c2, c3⟩]
          omega
        · rw [if_neg c3, if_pos rfl, i, if_neg (fun z => c3 z.2)]
          omega
      · rw [if_neg c2, if_pos rfl, i, if_neg (fun z => c2 z.1)]
        omega
    · have : k = w 9 := by omega
      rw [this]
      show ST_233_4 p _ a (w 9) w = _
      unfold ST_233_4
      rw [if_neg (by omega)]
      omega
theorem v233 {p : Int} {w : Row} (h9 : 0 ≤ w 9 ∧ w 9 ≤ 60) : V_233 p w = attR w p := by
  have h := lp233 (p := p) (61 - 0 : Int).toNat 0 0 w (by decide) h9.1 (by rw [show (((61 - 0 : Int).toNat : Nat) : Int) = 61 by decide]; omega)
  unfold V_233 attR
  rw [h]
  show 0 + (_ - csum _ 0) = _
  simp only [csum]
  omega
theorem v232 {t p : Int} {w : Row} : (V_232 t p w = 0 ∨ V_232 t p w = 1) ∧ (V_232 t p w = 0 ↔ ¬ attd w t p) := by
  unfold V_232 attd
  by_cases c2 : 0 < w (452 + 24 * t + 8 + p)
  · rw [if_pos c2]
    by_cases c3 : (w (452 + 24 * t + 8 + p) - 1) / 20 = w 0 / 20
    · rw [if_pos c3]
      exact ⟨Or.inr rfl, ⟨fun z => absurd z (by decide), fun z => absurd ⟨c2, c3⟩ z⟩⟩
    · rw [if_neg c3]
      exact ⟨Or.inl rfl, ⟨fun _ z => c3 z.2, fun _ => rfl⟩⟩
  · rw [if_neg c2]
    exact ⟨Or.inl rfl, ⟨fun _ z => c2 z.1, fun _ => rfl⟩⟩
theorem lp234 {t p : Int} : ∀ (n : Nat) (a k : Int) (w : Row), 0 ≤ k → w 9 - k ≤ (n : Int) → (a = 0 ∨ a = 1) → (LP_234_97 t p n (452 + 24 * t) a k w = 0 ∨ LP_234_97 t p n (452 + 24 * t) a k w = 7) ∧ (LP_234_97 t p n (452 + 24 * t) a k w = 0 ↔ a = 0 ∧ ¬ ∃ j, k ≤ j ∧ j < w 9 ∧ w (452 + 24 * j + 0) = p ∧ attd w j (w (452 + 24 * t + 0))) := by
  have m00 : mior 0 0 = 0 := by decide
  have m10 : mior 1 0 = 1 := by decide
  have m01 : mior 0 1 = 1 := by decide
  have m11 : mior 1 1 = 1 := by decide
  intro n
  induction n with
  | zero =>
    intro a k w h0 hn ha
    have e : LP_234_97 t p 0 (452 + 24 * t) a k w = if a = 0 then 0 else 7 := by
      show ST_234_97 t p _ (452 + 24 * t) a k w = _
      unfold ST_234_97
      rw [if_neg (by omega)]
    rw [e]
    rcases ha with rfl | rfl
    · rw [if_pos rfl]
      exact ⟨Or.inl rfl, ⟨fun _ => ⟨rfl, fun ⟨j, a, b, _⟩ => by omega⟩, fun _ => rfl⟩⟩
    · rw [if_neg (by decide)]
      exact ⟨Or.inr rfl, ⟨fun z => absurd z (by decide), fun z => absurd z.1 (by decide)⟩⟩
  | succ n ih =>
    intro a k w h0 hn ha
    by_cases c1 : k < w 9
    · have pass : (w (452 + 24 * k + 0) = p → ¬ attd w k (w (452 + 24 * t + 0))) → LP_234_97 t p (n + 1) (452 + 24 * t) a k w = LP_234_97 t p n (452 + 24 * t) a (k + 1) w → (LP_234_97 t p (n + 1) (452 + 24 * t) a k w = 0 ∨ LP_234_97 t p (n + 1) (452 + 24 * t) a k w = 7) ∧ (LP_234_97 t p (n + 1) (452 + 24 * t) a k w = 0 ↔ a = 0 ∧ ¬ ∃ j, k ≤ j ∧ j < w 9 ∧ w (452 + 24 * j + 0) = p ∧ attd w j (w (452 + 24 * t + 0))) := fun hn' e => by
        obtain ⟨i1, i2⟩ := ih a (k + 1) w (by omega) (by omega) ha
        rw [e]
        refine ⟨i1, i2.trans ⟨fun z => ⟨z.1, fun ⟨j, x, y, u, v⟩ => ?_⟩, fun z => ⟨z.1, fun ⟨j, x, y, u, v⟩ => z.2 ⟨j, by omega, y, u, v⟩⟩⟩⟩
        by_cases hj : j = k
        · rw [hj] at u v
          exact hn' u v
        · exact z.2 ⟨j, by omega, y, u, v⟩
      by_cases c2 : w (452 + 24 * k + 0) = p
      · by_cases c3 : V_232 k (w (452 + 24 * t + 0)) w = 0
        · refine pass (fun _ => v232.2.mp c3) ?_
          show ST_234_97 t p _ (452 + 24 * t) a k w = _
          unfold ST_234_97
          rw [if_pos c1, if_pos c2, if_pos c3]
          rcases ha with rfl | rfl
          · rw [m00]
          · rw [m10]
        · have e : LP_234_97 t p (n + 1) (452 + 24 * t) a k w = LP_234_97 t p n (452 + 24 * t) 1 (k + 1) w := by
            show ST_234_97 t p _ (452 + 24 * t) a k w = _
            unfold ST_234_97
            rw [if_pos c1, if_pos c2, if_neg c3]
            rcases ha with rfl | rfl
            · rw [m01]
            · rw [m11]
          obtain ⟨i1, i2⟩ := ih 1 (k + 1) w (by omega) (by omega) (Or.inr rfl)
          have hat : attd w k (w (452 + 24 * t + 0)) := by
            rcases Classical.em (attd w k (w (452 + 24 * t + 0))) with z | z
            · exact z
            · exact absurd (v232.2.mpr z) c3
          rw [e]
          exact ⟨i1, i2.trans ⟨fun z => absurd z.1 (by decide), fun z => absurd ⟨k, by omega, c1, c2, hat⟩ z.2⟩⟩
      · refine pass (fun z => absurd z c2) ?_
        show ST_234_97 t p _ (452 + 24 * t) a k w = _
        unfold ST_234_97
        rw [if_pos c1, if_neg c2]
        rcases ha with rfl | rfl
        · rw [m00]
        · rw [m10]
    · have e : LP_234_97 t p (n + 1) (452 + 24 * t) a k w = if a = 0 then 0 else 7 := by
        show ST_234_97 t p _ (452 + 24 * t) a k w = _
        unfold ST_234_97
        rw [if_neg c1]
      rw [e]
      rcases ha with rfl | rfl
      · rw [if_pos rfl]
        exact ⟨Or.inl rfl, ⟨fun _ => ⟨rfl, fun ⟨j, a, b, _⟩ => by omega⟩, fun _ => rfl⟩⟩
      · rw [if_neg (by decide)]
        exact ⟨Or.inr rfl, ⟨fun z => absurd z (by decide), fun z => absurd z.1 (by decide)⟩⟩
-- the hours that two tickets have in common
theorem untilEq {s t : Int} {d : mD} {w : Row} (h : Rel s d w) (ht : 0 ≤ t ∧ t < w 9) : v_98 (s + 49) t (d s 2) d = V_212 t w := by
  obtain ⟨⟨-, a2, -⟩, -, -, -, rT, -⟩ := h
  unfold v_98 V_212
  rw [show s + 49 + 4 = s + 53 by omega, (rT.2 t ht.1 ht.2).2.2.2.1, a2]
theorem comLoop {s t p : Int} {d : mD} {w : Row} (h : Rel s d w) (ht : 0 ≤ t ∧ t < w 9) : ∀ (nc nr : Nat) (m k : Int), 0 ≤ k → 0 ≤ m → w 9 - k ≤ (nc : Int) → w 9 - k ≤ (nr : Int) → lp_78_5 s t p nc m k d = LP_231_5 t p nr m k w := by
  obtain ⟨⟨-, a2, -⟩, -, -, -, ⟨t1, t2⟩, -⟩ := id h
  have gt := t2 t ht.1 ht.2
  intro nc
  induction nc with
  | zero =>
    intro nr m k h0 hm h1 h2
    have e : lp_78_5 s t p 0 m k d = m := by
      show st_78_5 s t p _ m k d = m
      unfold st_78_5
      rw [if_neg (by rw [t1]; omega)]
    rw [e]
    cases nr with
    | zero =>
      show m = ST_231_5 t p _ m k w
      unfold ST_231_5
      rw [if_neg (by omega)]
    | succ nr =>
      show m = ST_231_5 t p _ m k w
      unfold ST_231_5
      rw [if_neg (by omega)]
  | succ nc ih =>
    intro nr m k h0 hm h1 h2
    by_cases c1 : k < w 9
    · cases nr with
      | zero => omega
      | succ nr =>
        have gk := t2 k h0 c1
        show st_78_5 s t p _ m k d = ST_231_5 t p _ m k w
        unfold st_78_5 ST_231_5
        rw [if_pos (by rw [t1]; exact c1), if_pos c1]
        rw [show s + 49 + 1 = s + 50 by omega, show s + 49 + 2 = s + 51 by omega, show s + 49 + 3 = s + 52 by omega, gk.1, gk.2.1, gt.2.1, gt.2.2.1, gk.2.2.1]
        by_cases c2 : k = t
        · rw [if_pos c2, if_pos c2]
          exact ih nr m (k + 1) (by omega) hm (by omega) (by omega)
        · rw [if_neg c2, if_neg c2]
          by_cases c3 : w (452 + 24 * k + 0) = p
          · rw [if_pos c3, if_pos c3]
            by_cases c4 : w (452 + 24 * k + 1) = w (452 + 24 * t + 1)
            · rw [if_pos c4, if_pos c4, untilEq h ht, untilEq h ⟨h0, c1⟩]
              have e1 := mmin_r (V_212 t w) (V_212 k w)
              have e2 := mmax_r (w (452 + 24 * t + 2)) (w (452 + 24 * k + 2))
              have e3 := mmax_r m (mmin (V_212 t w) (V_212 k w) - mmax (w (452 + 24 * t + 2)) (w (452 + 24 * k + 2)))
              have e4 : V_230 t k w = if mmax (w (452 + 24 * t + 2)) (w (452 + 24 * k + 2)) < mmin (V_212 t w) (V_212 k w) then mmin (V_212 t w) (V_212 k w) - mmax (w (452 + 24 * t + 2)) (w (452 + 24 * k + 2)) else 0 := by
                unfold V_230 mmax mmin
                repeat' split
                all_goals omega
              have e5 : (if m < V_230 t k w then V_230 t k w else m) = mmax m (mmin (V_212 t w) (V_212 k w) - mmax (w (452 + 24 * t + 2)) (w (452 + 24 * k + 2))) := by
                rw [e4]
                split
                · split <;> omega
                · split <;> omega
              rw [← e5]
              by_cases c5 : m < V_230 t k w
              · rw [if_pos c5, if_pos c5]
                exact ih nr _ (k + 1) (by omega) (by omega) (by omega) (by omega)
              · rw [if_neg c5, if_neg c5]
                exact ih nr m (k + 1) (by omega) hm (by omega) (by omega)
            · rw [if_neg c4, if_neg c4]
              exact ih nr m (k + 1) (by omega) hm (by omega) (by omega)
          · rw [if_neg c3, if_neg c3]
            exact ih nr m (k + 1) (by omega) hm (by omega) (by omega)
    · have e : lp_78_5 s t p (nc + 1) m k d = m := by
        show st_78_5 s t p _ m k d = m
        unfold st_78_5
        rw [if_neg (by rw [t1]; omega)]
      rw [e]
      cases nr with
      | zero =>
        show m = ST_231_5 t p _ m k w
        unfold ST_231_5
        rw [if_neg (by omega)]
      | succ nr =>
        show m = ST_231_5 t p _ m k w
        unfold ST_231_5
        rw [if_neg (by omega)]
theorem common {s t p : Int} {d : mD} {w : Row} (hg : GG w) (h : Rel s d w) (ht : 0 ≤ t ∧ t < w 9) : v_78 s t p d = V_231 t p w := by
  have n9 := hg.1.2.2.1
  exact comLoop h ht (60 - 0 : Int).toNat (61 - 0 : Int).toNat 0 0 (by omega) (by omega) (by rw [show (((60 - 0 : Int).toNat : Nat) : Int) = 60 by decide]; omega) (by rw [show (((61 - 0 : Int).toNat : Nat) : Int) = 61 by decide]; omega)
theorem ibit {W p : Int} (p0 : 0 ≤ p) (p1 : p < 31) : miand (mishr W p) 1 = if ib W p.toNat = true then 1 else 0 := by
  have e := iget W p.toNat (by omega)
  rw [igetb W p.toNat (by omega), show ((p.toNat : Nat) : Int) = p by omega] at e
  exact e
theorem hinder {s t p : Int} {d : mD} {w : Row} (hg : GG w) (h : Rel s d w) (ht : 0 ≤ t ∧ t < w 9) (hp : 0 ≤ p ∧ p < w 8) : v_77 s t p d = V_234 t p w ∧ (V_234 t p w = 0 → w (452 + 24 * t + 5) = 1 ∧ w (452 + 24 * t + 6) = 0 ∧ ¬ w (452 + 24 * t + 0) = p ∧ w (452 + 24 * t + 8 + p) = 0) := by
  have n8 := hg.1.2.1
  have n9 := hg.1.2.2.1
  have gT := hg.2.2.2.1 t ht.1 ht.2
  have gC := hg.2.2.2.2.1 t ht.1 ht.2
  have z0 : w (452 + 24 * t + 5) = 0 → w (452 + 24 * t + 5) + w (452 + 24 * t + 6) = 0 := fun z => by
    rcases gC.2.1 with q | q
    · omega
    · have := (gC.2.2.1 q).1
      omega
  have z1 : ¬ w (452 + 24 * t + 5) = 0 → w (452 + 24 * t + 6) = 0 → w (452 + 24 * t + 5) = 1 ∧ ¬ w (452 + 24 * t + 5) + w (452 + 24 * t + 6) = 0 ∧ ¬ w (452 + 24 * t + 5) + w (452 + 24 * t + 6) = 2 := fun z z' => by
    rcases gC.1 with q | q <;> omega
  have z2 : ¬ w (452 + 24 * t + 6) = 0 → ¬ w (452 + 24 * t + 5) + w (452 + 24 * t + 6) = 0 ∧ w (452 + 24 * t + 5) + w (452 + 24 * t + 6) = 2 := fun z => by
    rcases gC.2.1 with q | q
    · omega
    · have := (gC.2.2.1 q).1
      omega
  have hcom := common (p := p) hg h ht
  obtain ⟨⟨a1, a2, a3⟩, -, -, -, ⟨t1, t2⟩, rC, -, -, rB, -⟩ := id h
  have gt := t2 t ht.1 ht.2
  have gc := rC t ht.1 ht.2
  have gb := rB p hp.1 hp.2
  have gb2 := rB _ gT.1.1 gT.1.2
  have bit := gc.2.2.1 p hp.1 (by omega)
  have l := (lp234 (t := t) (p := p) (61 - 0 : Int).toNat 0 0 w (by omega) (by rw [show (((61 - 0 : Int).toNat : Nat) : Int) = 61 by decide]; omega) (Or.inl rfl))
  have e2 : d (s + 1) 2 = w 4 := a3 2 (by omega) (by omega)
  have ev : v_99 (s + 49) t p d = if w (452 + 24 * t + 8 + p) = 0 then 0 else 1 := by
    unfold v_99
    rw [show s + 49 + 7 = s + 56 by omega, ibit hp.1 (by omega)]
    by_cases z : ib (d (s + 56) t) p.toNat = true
    · rw [if_pos z, if_neg (by decide), if_neg (bit.mp z)]
    · rw [if_neg z, if_pos rfl]
      by_cases z2 : w (452 + 24 * t + 8 + p) = 0
      · rw [if_pos z2]
      · exact absurd (bit.mpr z2) z
  unfold v_77 V_234
  rw [show s + 49 + 6 = s + 55 by omega, show s + 49 + 1 = s + 50 by omega, show s + 10 + 4 = s + 14 by omega, show s + 10 + 5 = s + 15 by omega, gc.1, gt.1, ev, hcom, e2, gb.2.1, v233 n9, ibit hp.1 (by omega)]
  by_cases c1 : w (452 + 24 * t + 5) = 0
  · rw [if_pos (z0 c1), if_pos c1]
    exact ⟨rfl, fun z => absurd z (by decide)⟩
  · rw [if_neg (show ¬ w (452 + 24 * t + 5) + w (452 + 24 * t + 6) = 0 from fun z => (by
      rcases Classical.em (w (452 + 24 * t + 6) = 0) with q | q
      · exact (z1 c1 q).2.1 z
      · exact (z2 q).1 z)), if_neg c1]
    by_cases c2 : w (452 + 24 * t + 6) = 0
    · rw [if_neg (z1 c1 c2).2.2, if_pos c2]
      by_cases c3 : w (452 + 24 * t + 0) = p
      · rw [if_pos c3, if_pos c3]
        exact ⟨rfl, fun z => absurd z (by decide)⟩
      · rw [if_neg c3, if_neg c3]
        by_cases c4 : w (452 + 24 * t + 8 + p) = 0
        · rw [if_pos c4, if_pos rfl, if_pos c4]
          refine ⟨?_, fun _ => ⟨(z1 c1 c2).1, c2, c3, c4⟩⟩
          split
          · rfl
          · split
            · obtain ⟨l1, l2⟩ := l
              have hb := gb2.2.2 p hp.1 (by omega)
              by_cases z : ib (d (s + 15) (w (452 + 24 * t + 0))) p.toNat = true
              · rw [if_pos z, if_neg (by decide)]
                obtain ⟨j, j1, j2, j3, j4⟩ := hb.mp z
                rcases l1 with q | q
                · exact absurd ⟨j, j1, j2, j3, j4⟩ (l2.mp q).2
                · exact q.symm
              · rw [if_neg z, if_pos rfl]
                exact (l2.mpr ⟨rfl, fun ⟨j, j1, j2, j3, j4⟩ => z (hb.mpr ⟨j, j1, j2, j3, j4⟩)⟩).symm
            · rfl
        · rw [if_neg c4, if_neg (by decide), if_neg c4]
          exact ⟨rfl, fun z => absurd z (by decide)⟩
    · rw [if_pos (z2 c2).2, if_neg c2]
      exact ⟨rfl, fun z => absurd z (by decide)⟩
/-! ===== a person is a witness ===== -/
theorem madeR_k' {w w' : Row} {p : Int} (h10 : w' 10 = w 10) (h : ∀ k, 0 ≤ k → k < w 10 → perO w' k = perO w k ∧ w' (1916 + 5 * k + 4) = w (1916 + 5 * k + 4) ∧ w' 0 = w 0) : madeR w' p = madeR w p := by
  unfold madeR
  rw [h10]
  refine csum_congr (fun k a b => ?_)
  obtain ⟨x, y, z⟩ := h k a (by omega)
  rw [x, y, z]
theorem witStep {s t p : Int} {d : mD} {w w' : Row} (hg : GG w) (h : Rel s d w) (ht : 0 ≤ t ∧ t < w 9) (hp : 0 ≤ p ∧ p < w 8) (hz : w (452 + 24 * t + 8 + p) = 0) (e8 : w' (452 + 24 * t + 8 + p) = w 0 + 1) (e7 : w' (452 + 24 * t + 7) = w (452 + 24 * t + 7) + 1) (e : ∀ i, ¬ i = 452 + 24 * t + 8 + p → ¬ i = 452 + 24 * t + 7 → w' i = w i) :
    GG w' ∧ Rel s (mset (mset (mset d (s + 56) t (mior (d (s + 56) t) (mishl 1 p))) (s + 14) p (d (s + 14) p + 1)) (s + 15) p (mior (d (s + 15) p) (mishl 1 (d (s + 50) t)))) w' := by
  obtain ⟨hN, hO, hQ, hT, hC, hK, hR⟩ := id hg
  obtain ⟨n7, n8, n9, n10, n11, n0, n1, n2, n3, n4, n5, n6⟩ := id hN
  obtain ⟨rA, rO, rQ, rP, ⟨t1, t2⟩, rC, rK, rR, rB, rH⟩ := h
  have gt := hT t ht.1 ht.2
  have ew := (t2 t ht.1 ht.2).1
  rw [ew]
  generalize hd : (mset (mset (mset d (s + 56) t (mior (d (s + 56) t) (mishl 1 p))) (s + 14) p (d (s + 14) p + 1)) (s + 15) p (mior (d (s + 15) p) (mishl 1 (w (452 + 24 * t + 0))))) = d'
  have fd : ∀ b, ¬ b = s + 56 → ¬ b = s + 14 → ¬ b = s + 15 → d' b = d b := fun b x y z => by
    rw [← hd]
    funext j
    simp (disch := omega) only [ms_a]
  have e0 : w' 0 = w 0 := e 0 (by omega) (by omega)
  have e9 : w' 9 = w 9 := e 9 (by omega) (by omega)
  have ei : ∀ i, i < 452 + 24 * t + 7 ∨ 452 + 24 * t + 24 ≤ i → w' i = w i := fun i hi => e i (by omega) (by omega)
  have ef : ∀ t' f, 0 ≤ f → f ≤ 6 → w' (452 + 24 * t' + f) = w (452 + 24 * t' + f) := fun t' f a b => e _ (by omega) (by omega)
  have eq8 : ∀ t' q, 0 ≤ q → q < 16 → ¬ (t' = t ∧ q = p) → w' (452 + 24 * t' + 8 + q) = w (452 + 24 * t' + 8 + q) := fun t' q a b c => by
    have h1 : ¬ 452 + 24 * t' + 8 + q = 452 + 24 * t + 8 + p := fun z => by
      have : t' = t := by omega
      subst this
      exact c ⟨rfl, by omega⟩
    exact e _ h1 (by omega)
  have at0 : ∀ t' q, 0 ≤ q → q < 16 → (attd w' t' q ↔ attd w t' q ∨ (t' = t ∧ q = p)) := fun t' q a b => by
    unfold attd
    rw [e0]
    by_cases c : t' = t ∧ q = p
    · obtain ⟨rfl, rfl⟩ := c
      rw [e8, hz]
      constructor
      · intro _; exact Or.inr ⟨rfl, rfl⟩
      · intro _
        refine ⟨by omega, by rw [show w 0 + 1 - 1 = w 0 by omega]⟩
    · rw [eq8 t' q a b c]
      exact ⟨fun z => Or.inl z, fun z => z.elim id (fun z => absurd z c)⟩
  have needC : ∀ i, (i = 0 ∨ i = 9 ∨ (452 ≤ i ∧ i < 1916 ∧ 3 ≤ (i - 452) % 24 ∧ (i - 452) % 24 ≤ 6)) → w' i = w i := fun i hi => e i (by omega) (by omega)
  refine ⟨⟨hN.k (fun i hi => e i (by omega) (by omega)), hO.k (fun i hi => e i (by omega) (by omega)) hN, hQ.k (fun i hi => e i (by omega) (by omega)) hN hO, hT.k (fun i hi => e i (by omega) (by omega)) hN hO, ?_, hK.k (fun i hi => e i (by omega) (by omega)) hN, hR.k (fun i hi => e i (by omega) (by omega)) hN⟩, rA.k (fun b x => fd b (by omega) (by omega) (by omega)) (fun i hi => e i (by omega) (by omega)), rO.k (fun b x y => fd b (by omega) (by omega) (by omega)) (fun i hi => e i (by omega) (by omega)) n7, rQ.k (fd _ (by omega) (by omega) (by omega)) (fun i hi => e i (by omega) (by omega)) n7 hO, rP.k (fun b x y => fd b (by omega) (by omega) (by omega)) (fun i hi => e i (by omega) (by omega)) n8, RelT.k (fun b x y => fd b (by omega) (by omega) (by omega)) (fun i hi => e i (by omega) (by omega)) n9 ⟨t1, t2⟩, ?_, rK.k (by rw [fd _ (by omega) (by omega) (by omega)]) (fun b x y => fd b (by omega) (by omega) (by omega)) (fun i hi => e i (by omega) (by omega)) n10, rR.k (by rw [fd _ (by omega) (by omega) (by omega)]) (fd _ (by omega) (by omega) (by omega)) (fun i hi => e i (by omega) (by omega)) n11, ?_, rH.k (fun b x y => fd b (by omega) (by omega) (by omega)) (fun i hi => e i (by omega) (by omega)) n8 n9 n10 hK.of⟩
  · intro t' x y
    rw [e9] at y
    have g := hC t' x y
    rw [ef t' 3 (by decide) (by decide), ef t' 4 (by decide) (by decide), ef t' 5 (by decide) (by decide), ef t' 6 (by decide) (by decide), e0]
    refine ⟨g.1, g.2.1, g.2.2.1, g.2.2.2.1, fun q a b => ?_⟩
    by_cases c : t' = t ∧ q = p
    · obtain ⟨rfl, rfl⟩ := c
      rw [e8]
      omega
    · rw [eq8 t' q a b c]
      exact g.2.2.2.2 q a b
  · intro t' x y
    rw [e9] at y
    obtain ⟨g1, g2, g3, g4, g5⟩ := rC t' x y
    rw [fd (s + 55) (by omega) (by omega) (by omega), ef t' 5 (by decide) (by decide), ef t' 6 (by decide) (by decide)]
    by_cases c : t' = t
    · subst c
      have hm : d' (s + 56) t' = mior (d (s + 56) t') (mishl 1 p) := by
        rw [← hd]
        simp (disch := omega) only [ms_a, ms_e]
      have hr := mior_rng g4 g5 hp.1 (by omega : p < 16)
      rw [hm, e7]
      refine ⟨g1, ?_, fun q a b => ?_, hr.1, hr.2⟩
      · have hs := csum_upd (f := fun q => if w' (452 + 24 * t' + 8 + q) = 0 then 0 else 1) (g := fun q => if w (452 + 24 * t' + 8 + q) = 0 then 0 else 1) (n := 16) (k := p) hp.1 (by omega) (fun i a b c => by
          show (if w' (452 + 24 * t' + 8 + i) = 0 then (0 : Int) else 1) = if w (452 + 24 * t' + 8 + i) = 0 then 0 else 1
          rw [eq8 t' i a (by omega) (fun z => c z.2)])
        rw [e8, hz, if_neg (by omega), if_pos rfl] at hs
        rw [hs, g2]
        omega
      · have hb := iset (d (s + 56) t') p.toNat q.toNat (by omega) (by omega)
        rw [show ((p.toNat : Nat) : Int) = p by omega] at hb
        rw [hb]
        by_cases c : q = p
        · subst c
          rw [if_pos rfl, e8]
          exact ⟨fun _ => by omega, fun _ => rfl⟩
        · rw [if_neg (by omega), eq8 t' q a b (fun z => c z.2)]
          exact g3 q a b
    · have hm : d' (s + 56) t' = d (s + 56) t' := by
        rw [← hd]
        simp (disch := omega) only [ms_a, ms_i]
      rw [hm, e (452 + 24 * t' + 7) (by omega) (by omega)]
      refine ⟨g1, ?_, fun q a b => ?_, g4, g5⟩
      · rw [g2]
        exact csum_congr (fun q a b => by rw [eq8 t' q a (by omega) (fun z => c z.1)])
      · rw [eq8 t' q a b (fun z => c z.1)]
        exact g3 q a b
  · intro q x y
    rw [e 8 (by omega) (by omega)] at y
    obtain ⟨g1, g2, g3⟩ := rB q x y
    rw [fd (s + 13) (by omega) (by omega) (by omega)]
    have hat : attR w' q = attR w q + (if q = p then 1 else 0) := by
      unfold attR
      rw [e9, e0]
      by_cases c : q = p
      · subst c
        have hs := csum_upd (f := fun t => if 0 < w' (452 + 24 * t + 8 + q) ∧ (w' (452 + 24 * t + 8 + q) - 1) / 20 = w 0 / 20 then 1 else 0) (g := fun t => if 0 < w (452 + 24 * t + 8 + q) ∧ (w (452 + 24 * t + 8 + q) - 1) / 20 = w 0 / 20 then 1 else 0) (n := (w 9).toNat) (k := t) ht.1 (by omega) (fun i a b c => by
          show (if 0 < w' (452 + 24 * i + 8 + q) ∧ (w' (452 + 24 * i + 8 + q) - 1) / 20 = w 0 / 20 then (1 : Int) else 0) = if 0 < w (452 + 24 * i + 8 + q) ∧ (w (452 + 24 * i + 8 + q) - 1) / 20 = w 0 / 20 then 1 else 0
          rw [eq8 i q x (by omega) (fun z => c z.1)])
        rw [e8, hz, if_pos ⟨by omega, by rw [show w 0 + 1 - 1 = w 0 by omega]⟩, if_neg (fun z => absurd z.1 (by decide))] at hs
        rw [hs, if_pos rfl]
        omega
      · rw [if_neg c, Int.add_zero]
        exact csum_congr (fun t' a b => by rw [eq8 t' q x (by omega) (fun z => c z.2)])
    refine ⟨?_, ?_, fun r a b => ?_⟩
    · rw [g1]
      refine (madeR_k' ?_ ?_).symm
      · exact e 10 (by omega) (by omega)
      · intro k a b
        have gk := hK k a b
        refine ⟨?_, e _ (by omega) (by omega), e0⟩
        unfold perO
        rw [e (1916 + 5 * k + 1) (by omega) (by omega), ef _ 0 (by decide) (by decide)]
    · rw [hat, ← g2, ← hd]
      by_cases c : q = p
      · rw [if_pos c, c]
        simp (disch := omega) only [ms_a, ms_e]
      · rw [if_neg c]
        simp (disch := omega) only [ms_a, ms_i]
        omega
    · have hx : ib (d' (s + 15) q) r.toNat = true ↔ ib (d (s + 15) q) r.toNat = true ∨ (q = p ∧ r = w (452 + 24 * t + 0)) := by
        by_cases c : q = p
        · subst c
          have hm : d' (s + 15) q = mior (d (s + 15) q) (mishl 1 (w (452 + 24 * t + 0))) := by
            rw [← hd]
            simp (disch := omega) only [ms_e]
          have hb := iset (d (s + 15) q) (w (452 + 24 * t + 0)).toNat r.toNat (by omega) (by omega)
          rw [show (((w (452 + 24 * t + 0)).toNat : Nat) : Int) = w (452 + 24 * t + 0) by omega] at hb
          rw [hm, hb]
          by_cases c2 : r = w (452 + 24 * t + 0)
          · rw [if_pos (by omega)]
            exact ⟨fun _ => Or.inr ⟨rfl, c2⟩, fun _ => rfl⟩
          · rw [if_neg (by omega)]
            exact ⟨fun z => Or.inl z, fun z => z.elim id (fun z => absurd z.2 c2)⟩
        · have hm : d' (s + 15) q = d (s + 15) q := by
            rw [← hd]
            simp (disch := omega) only [ms_a, ms_i]
          rw [hm]
          exact ⟨fun z => Or.inl z, fun z => z.elim id (fun z => absurd z.1 c)⟩
      rw [hx, g3 r a b, e9]
      constructor
      · rintro (⟨t', z1, z2, z3, z4⟩ | ⟨z1, z2⟩)
        · exact ⟨t', z1, z2, by rw [ef t' 0 (by decide) (by decide)]; exact z3, (at0 t' q x (by omega)).mpr (Or.inl z4)⟩
        · exact ⟨t, ht.1, ht.2, by rw [ef t 0 (by decide) (by decide), z2], (at0 t q x (by omega)).mpr (Or.inr ⟨rfl, z1⟩)⟩
      · rintro ⟨t', z1, z2, z3, z4⟩
        rw [ef t' 0 (by decide) (by decide)] at z3
        rcases (at0 t' q x (by omega)).mp z4 with z | ⟨z, z'⟩
        · exact Or.inl ⟨t', z1, z2, z3, z⟩
        · rw [z] at z3
          exact Or.inr ⟨z', z3.symm⟩
theorem witCount {s t : Int} {d d2 : mD} {w : Row} (h : Rel s d w) (ht : 0 ≤ t ∧ t < w 9) : v_298 (d (s + 56) t) d2 = w (452 + 24 * t + 7) := by
  obtain ⟨g1, g2, g3, g4, g5⟩ := h.2.2.2.2.2.1 t ht.1 ht.2
  rw [v298_bits g4 g5, g2]
  refine csum_congr (fun p a b => ?_)
  have k := g3 p a (by omega)
  by_cases z : ib (d (s + 56) t) p.toNat = true
  · rw [if_pos z, if_neg (k.mp z)]
  · rw [if_neg z]
    by_cases z2 : w (452 + 24 * t + 8 + p) = 0
    · rw [if_pos z2]
    · exact absurd (k.mpr z2) z
theorem attest {s t p : Int} {d : mD} {w : Row} (hg : GG w) (h : Rel s d w) (ht : 0 ≤ t ∧ t < w 9) (hp : 0 ≤ p ∧ p < w 8) (hv : V_234 t p w = 0) (h9 : w 0 ≤ 999) : v_75 s t p d = V_235 t p w ∧ GG (W_235 t p w) ∧ Rel s (g_75 s t p d) (W_235 t p w) ∧ ∀ i, i ≤ 9 → W_235 t p w i = w i := by
  have n9 := hg.1.2.2.1
  have n8 := hg.1.2.1
  obtain ⟨c5, c6, c0, c8⟩ := (hinder hg h ht hp).2 hv
  have gt := hg.2.2.2.1 t ht.1 ht.2
  have gC := hg.2.2.2.2.1 t ht.1 ht.2
  have c4 := gC.2.2.2.1 c5
  have hen : w (452 + 24 * t + 3) ≤ 999 := by
    have := gt.2.2.2.2.2 (by omega)
    omega
  have e3 : d (s + 1) 1 = w 3 := h.1.2.2 1 (by omega) (by omega)
  have h8 : ¬ 452 + 24 * t + 8 + p = 452 + 24 * t + 7 := by omega
  generalize hw1 : ws (ws w (((452 + (24 * t)) + 8) + p) ((w 0) + 1)) ((452 + (24 * t)) + 7) ((w ((452 + (24 * t)) + 7)) + 1) = w1
  have f8 : w1 (452 + 24 * t + 8 + p) = w 0 + 1 := by rw [← hw1, wsn h8, wse rfl]
  have f7 : w1 (452 + 24 * t + 7) = w (452 + 24 * t + 7) + 1 := by rw [← hw1, wse rfl]
  have fi : ∀ i, ¬ i = 452 + 24 * t + 8 + p → ¬ i = 452 + 24 * t + 7 → w1 i = w i := fun i a b => by rw [← hw1, wsn b, wsn a]
  obtain ⟨g1, r1⟩ := witStep hg h ht hp c8 f8 f7 fi
  have t9 : w1 9 = w 9 := fi 9 (by omega) (by omega)
  generalize hd1 : (mset (mset (mset d (s + 56) t (mior (d (s + 56) t) (mishl 1 p))) (s + 14) p (d (s + 14) p + 1)) (s + 15) p (mior (d (s + 15) p) (mishl 1 (d (s + 50) t)))) = d1 at r1
  have hcnt := witCount (d2 := d1) r1 (t := t) (by rw [t9]; exact ht)
  have hm : d1 (s + 56) t = mior (d (s + 56) t) (mishl 1 p) := by
    rw [← hd1]
    simp (disch := omega) only [ms_a, ms_e]
  rw [hm, f7] at hcnt
  unfold v_75 g_75 V_235 W_235
  rw [show s + 49 + 7 = s + 56 by omega, show s + 10 + 4 = s + 14 by omega, show s + 10 + 5 = s + 15 by omega, show s + 49 + 1 = s + 50 by omega, hd1, hcnt, e3, hw1]
  by_cases c : w (452 + 24 * t + 7) + 1 < w 3
  · simp only [if_pos c]
    exact ⟨trivial, g1, r1, fun i hi => fi i (by omega) (by omega)⟩
  · simp only [if_neg c]
    obtain ⟨g2, r2⟩ := setC (s := s) (t := t) (c := 1) (v := 1) (w' := ws w1 (452 + 24 * t + 6) 1) g1 r1 (by rw [t9]; exact ht) (Or.inr rfl) (Or.inr rfl) (fun _ => ⟨rfl, by rw [fi _ (by omega) (by omega)]; exact hen⟩) (fun _ => by rw [fi _ (by omega) (by omega)]; exact c4) (by rw [wsn (by omega), fi _ (by omega) (by omega)]; exact c5) (wse rfl) (fun i a b => wsn b)
    rw [show (1 : Int) + 1 = 2 by decide] at r2
    obtain ⟨m1, m2, m3, m4⟩ := makes (t := t) g2 r2 (by rw [wsn (by omega), t9]; exact ht) (by rw [wsn (by omega), fi _ (by omega) (by omega)]; exact c4) (by rw [wsn (by omega), fi _ (by omega) (by omega)]; exact hen)
    unfold v_76 g_76
    rw [show s + 49 + 6 = s + 55 by omega]
    exact ⟨m1, m2, m3, fun i hi => by rw [m4 i (by omega) (by omega), wsn (by omega), fi i (by omega) (by omega)]⟩
/-! ===== tokens change hands; tokens are offered ===== -/
theorem cntGen {L : Nat → Int → Int → Int} {f : Int → Int} {N : Int} (hz : ∀ (n : Nat) (a k : Int), N ≤ k → L n a k = a) (hs : ∀ (n : Nat) (a k : Int), 0 ≤ k → k < N → L (n + 1) a k = L n (a + f k) (k + 1)) : ∀ (n : Nat) (a k : Int), 0 ≤ k → k ≤ N → N - k ≤ (n : Int) → L n a k = a + (csum f N.toNat - csum f k.toNat) := by
  intro n
  induction n with
  | zero =>
    intro a k h0 hk hn
    have e : k = N := by omega
    rw [hz 0 a k (by omega), e]
    omega
  | succ n ih =>
    intro a k h0 hk hn
    by_cases c : k < N
    · have i := ih (a + f k) (k + 1) (by omega) (by omega) (by omega)
      rw [csum_s _ h0] at i
      rw [hs n a k h0 c, i]
      omega
    · have e : k = N := by omega
      rw [hz _ a k (by omega), e]
      omega
theorem cnt0 {L : Nat → Int → Int → Int} {f : Int → Int} {N : Int} {n : Nat} (hN : 0 ≤ N) (hn : N ≤ (n : Int)) (hz : ∀ (n : Nat) (a k : Int), N ≤ k → L n a k = a) (hs : ∀ (n : Nat) (a k : Int), 0 ≤ k → k < N → L (n + 1) a k = L n (a + f k) (k + 1)) : L n 0 0 = csum f N.toNat := by
  rw [cntGen hz hs n 0 0 (by omega) hN (by omega)]
  show 0 + (_ - csum _ 0) = _
  simp only [csum]
  omega
theorem v245 {p q : Int} {w : Row} (h10 : 0 ≤ w 10 ∧ w 10 ≤ 200) : V_245 p q w = csum (fun k => if w (1916 + 5 * k + 0) = p ∧ w (1916 + 5 * k + 3) = q then 1 else 0) (w 10).toNat := by
  unfold V_245
  refine cnt0 (L := fun n a k => LP_245_5 p q n a k w) h10.1 (by rw [show (((200 - 0 : Int).toNat : Nat) : Int) = 200 by decide]; omega) (fun n a k h => ?_) (fun n a k h0 h => ?_)
  · cases n with
    | zero =>
      show ST_245_5 p q _ a k w = a
      unfold ST_245_5
      rw [if_neg (by omega)]
    | succ n =>
      show ST_245_5 p q _ a k w = a
      unfold ST_245_5
      rw [if_neg (by omega)]
  · show ST_245_5 p q _ a k w = _
    unfold ST_245_5
    rw [if_pos h]
    by_cases c2 : w (1916 + 5 * k + 0) = p
    · by_cases c3 : w (1916 + 5 * k + 3) = q
      · rw [if_pos c2, if_pos c3, if_pos ⟨c2, c3⟩]
      · rw [if_pos c2, if_neg c3, if_neg (fun z => c3 z.2)]
    · rw [if_neg c2, if_neg (fun z => c2 z.1)]
theorem v111 {s p q : Int} {d : mD} (h10 : 0 ≤ d (s + 57) 0 ∧ d (s + 57) 0 ≤ 200) : v_111 (s + 57) p q d = csum (fun k => if d (s + 58) k = p ∧ d (s + 61) k = q then 1 else 0) (d (s + 57) 0).toNat := by
  unfold v_111
  refine cnt0 (L := fun n a k => lp_111_5 (s + 57) p q n a k d) h10.1 (by rw [show (((200 - 0 : Int).toNat : Nat) : Int) = 200 by decide]; omega) (fun n a k h => ?_) (fun n a k h0 h => ?_)
  · cases n with
    | zero =>
      show st_111_5 (s + 57) p q _ a k d = a
      unfold st_111_5
      rw [if_neg (by omega)]
    | succ n =>
      show st_111_5 (s + 57) p q _ a k d = a
      unfold st_111_5
      rw [if_neg (by omega)]
  · show st_111_5 (s + 57) p q _ a k d = _
    unfold st_111_5
    rw [if_pos h, show s + 57 + 1 = s + 58 by omega, show s + 57 + 4 = s + 61 by omega]
    by_cases c2 : d (s + 58) k = p
    · by_cases c3 : d (s + 61) k = q <;> simp [c2, c3]
    · simp [c2]
theorem owned {s p q : Int} {d : mD} {w : Row} (hg : GG w) (h : Rel s d w) : v_111 (s + 57) p q d = V_245 p q w := by
  have n10 := hg.1.2.2.2.1
  obtain ⟨-, -, -, -, -, -, ⟨k1, k2⟩, -⟩ := h
  rw [v111 (by rw [k1]; exact n10), v245 n10, k1]
  refine csum_congr (fun k a b => ?_)
  have g := k2 k a (by omega)
  rw [g.1, g.2.2.2]
-- one token goes to another person
theorem giveStep {s k o : Int} {d : mD} {w : Row} (hg : GG w) (h : Rel s d w) (hk : 0 ≤ k ∧ k < w 10) (ho : 0 ≤ o ∧ o < w 8) : GG (ws w (1916 + 5 * k + 0) o) ∧ Rel s (mset d (s + 58) k o) (ws w (1916 + 5 * k + 0) o) := by
  obtain ⟨hN, hO, hQ, hT, hC, hK, hR⟩ := id hg
  obtain ⟨n7, n8, n9, n10, n11, n0, n1, n2, n3, n4, n5, n6⟩ := id hN
  obtain ⟨rA, rO, rQ, rP, rT, rC, ⟨k1, k2⟩, rR, rB, rH⟩ := h
  generalize hw : ws w (1916 + 5 * k + 0) o = w'
  have eo : w' (1916 + 5 * k + 0) = o := by rw [← hw]; exact wse rfl
  have e : ∀ i, ¬ i = 1916 + 5 * k + 0 → w' i = w i := fun i hi => by rw [← hw]; exact wsn hi
  have fd : ∀ b, ¬ b = s + 58 → mset d (s + 58) k o b = d b := fun b x => by
    funext j
    exact ms_a x
  refine ⟨⟨hN.k (fun i hi => e i (by omega)), hO.k (fun i hi => e i (by omega)) hN, hQ.k (fun i hi => e i (by omega)) hN hO, hT.k (fun i hi => e i (by omega)) hN hO, hC.k (fun i hi => e i (by omega)) hN, hK.k2 (fun i hi => e i (by omega)) hN (fun j x y => ?_), hR.k (fun i hi => e i (by omega)) hN⟩, rA.k (fun b x => fd b (by omega)) (fun i hi => e i (by omega)), rO.k (fun b x y => fd b (by omega)) (fun i hi => e i (by omega)) n7, rQ.k (fd _ (by omega)) (fun i hi => e i (by omega)) n7 hO, rP.k (fun b x y => fd b (by omega)) (fun i hi => e i (by omega)) n8, rT.k (fun b x y => fd b (by omega)) (fun i hi => e i (by omega)) n9, rC.k (fun b x => fd b (by omega)) (fun i hi => e i (by omega)) n9, ⟨?_, fun j x y => ?_⟩, rR.k (by rw [fd _ (by omega)]) (fd _ (by omega)) (fun i hi => e i (by omega)) n11, rB.k (fun b x y => fd b (by omega)) (fun i hi => e i (by omega)) n8 n9 n10 hK.of, rH.k (fun b x y => fd b (by omega)) (fun i hi => e i (by omega)) n8 n9 n10 hK.of⟩
  · have g := hK j x y
    refine ⟨?_, by rw [e _ (by omega)]; exact g.2.2.2.1⟩
    by_cases c : j = k
    · rw [c, eo]; exact ho
    · rw [e _ (by omega)]; exact g.1
  · rw [fd _ (by omega), e 10 (by omega)]; exact k1
  · rw [e 10 (by omega)] at y
    have g := k2 j x y
    rw [fd (s + 59) (by omega), fd (s + 60) (by omega), fd (s + 61) (by omega), e (1916 + 5 * j + 1) (by omega), e (1916 + 5 * j + 2) (by omega), e (1916 + 5 * j + 3) (by omega)]
    refine ⟨?_, g.2⟩
    by_cases c : j = k
    · rw [c, eo, ms_e rfl rfl]
    · rw [e _ (by omega), ms_i c]; exact g.1
theorem giveLoop {s p o m0 : Int} : ∀ (nc nr : Nat) (m k : Int) (d : mD) (w : Row), 0 ≤ k → GG w → Rel s d w → 0 ≤ o ∧ o < w 8 → w 10 - k ≤ (nc : Int) → w 10 - k ≤ (nr : Int) →
    ∃ w', LP_285_79 p o m0 nr m k w = (V_245 o 0 w', w') ∧ GG w' ∧ Rel s (lp_114_6 (s + 57) p o m0 nc m k d) w' ∧ XR w w' := by
  intro nc
  induction nc with
  | zero =>
    intro nr m k d w h0 hg h ho h1 h2
    have k1 := h.2.2.2.2.2.2.1.1
    have e : lp_114_6 (s + 57) p o m0 0 m k d = d := by
      show st_114_6 (s + 57) p o m0 _ m k d = d
      unfold st_114_6
      rw [if_neg (by omega)]
    refine ⟨w, ?_, hg, by rw [e]; exact h, XR.refl⟩
    cases nr with
    | zero =>
      show ST_285_79 p o m0 _ m k w = _
      unfold ST_285_79
      rw [if_neg (by omega)]
    | succ nr =>
      show ST_285_79 p o m0 _ m k w = _
      unfold ST_285_79
      rw [if_neg (by omega)]
  | succ nc ih =>
    intro nr m k d w h0 hg h ho h1 h2
    obtain ⟨k1, k2⟩ := h.2.2.2.2.2.2.1
    by_cases c1 : k < w 10
    · cases nr with
      | zero => omega
      | succ nr =>
        have g := k2 k h0 c1
        by_cases c2 : 0 < m
        · by_cases c3 : w (1916 + 5 * k + 0) = p
          · by_cases c4 : w (1916 + 5 * k + 3) = 0
            · obtain ⟨g', r'⟩ := giveStep (o := o) hg h ⟨h0, c1⟩ ho
              have e : lp_114_6 (s + 57) p o m0 (nc + 1) m k d = lp_114_6 (s + 57) p o m0 nc (m + -1) (k + 1) (mset d (s + 58) k o) := by
                show st_114_6 (s + 57) p o m0 _ m k d = _
                unfold st_114_6
                rw [if_pos (by omega), if_pos c2, show s + 57 + 1 = s + 58 by omega, show s + 57 + 4 = s + 61 by omega, if_pos (by rw [g.1]; exact c3), if_pos (by rw [g.2.2.2]; exact c4)]
              have e2 : LP_285_79 p o m0 (nr + 1) m k w = LP_285_79 p o m0 nr (m + -1) (k + 1) (ws w (1916 + 5 * k + 0) o) := by
                show ST_285_79 p o m0 _ m k w = _
                unfold ST_285_79
                rw [if_pos c1, if_pos c2, if_pos c3, if_pos c4]
              rw [e, e2]
              have e10 : ws w (1916 + 5 * k + 0) o 10 = w 10 := wsn (by omega)
              have e8 : ws w (1916 + 5 * k + 0) o 8 = w 8 := wsn (by omega)
              obtain ⟨w', q1, q2, q3, q4⟩ := ih nr (m + -1) (k + 1) _ _ (by omega) g' r' (by rw [e8]; exact ho) (by rw [e10]; omega) (by rw [e10]; omega)
              exact ⟨w', q1, q2, q3, XR.trans ⟨GXI.keep hg.1.2.1 e8 (wsn (by omega)) (fun t q a b u v => wsn (by have := hg.1.2.2.1; omega)) (fun p a b => wsn (by omega)) (Int.le_of_eq (C2_of e10 (fun j a b => by rw [wsn (by omega)])).symm), wsn (by omega)⟩ q4⟩
            · have e : lp_114_6 (s + 57) p o m0 (nc + 1) m k d = lp_114_6 (s + 57) p o m0 nc m (k + 1) d := by
                show st_114_6 (s + 57) p o m0 _ m k d = _
                unfold st_114_6
                rw [if_pos (by omega), if_pos c2, show s + 57 + 1 = s + 58 by omega, show s + 57 + 4 = s + 61 by omega, if_pos (by rw [g.1]; exact c3), if_neg (by rw [g.2.2.2]; exact c4)]
              have e2 : LP_285_79 p o m0 (nr + 1) m k w = LP_285_79 p o m0 nr m (k + 1) w := by
                show ST_285_79 p o m0 _ m k w = _
                unfold ST_285_79
                rw [if_pos c1, if_pos c2, if_pos c3, if_neg c4]
              rw [e, e2]
              exact ih nr m (k + 1) d w (by omega) hg h ho (by omega) (by omega)
          · have e : lp_114_6 (s + 57) p o m0 (nc + 1) m k d = lp_114_6 (s + 57) p o m0 nc m (k + 1) d := by
              show st_114_6 (s + 57) p o m0 _ m k d = _
              unfold st_114_6
              rw [if_pos (by omega), if_pos c2, show s + 57 + 1 = s + 58 by omega, if_neg (by rw [g.1]; exact c3)]
            have e2 : LP_285_79 p o m0 (nr + 1) m k w = LP_285_79 p o m0 nr m (k + 1) w := by
              show ST_285_79 p o m0 _ m k w = _
              unfold ST_285_79
              rw [if_pos c1, if_pos c2, if_neg c3]
            rw [e, e2]
            exact ih nr m (k + 1) d w (by omega) hg h ho (by omega) (by omega)
        · have e : lp_114_6 (s + 57) p o m0 (nc + 1) m k d = d := by
            show st_114_6 (s + 57) p o m0 _ m k d = d
            unfold st_114_6
            rw [if_pos (by omega), if_neg c2]
          refine ⟨w, ?_, hg, by rw [e]; exact h, XR.refl⟩
          show ST_285_79 p o m0 _ m k w = _
          unfold ST_285_79
          rw [if_pos c1, if_neg c2]
    · have e : lp_114_6 (s + 57) p o m0 (nc + 1) m k d = d := by
        show st_114_6 (s + 57) p o m0 _ m k d = d
        unfold st_114_6
        rw [if_neg (by omega)]
      refine ⟨w, ?_, hg, by rw [e]; exact h, XR.refl⟩
      cases nr with
      | zero =>
        show ST_285_79 p o m0 _ m k w = _
        unfold ST_285_79
        rw [if_neg (by omega)]
      | succ nr =>
        show ST_285_79 p o m0 _ m k w = _
        unfold ST_285_79
        rw [if_neg (by omega)]
-- one token is offered
theorem csum_full {f : Int → Int} {n : Nat} (h : ∀ i : Int, 0 ≤ i → i < (n : Int) → f i ≤ 1) {k : Int} (k0 : 0 ≤ k) (k1 : k < (n : Int)) (hk : f k ≤ 0) : csum f n + 1 ≤ (n : Int) := by
  induction n with
  | zero => omega
  | succ n ih =>
    have hn := h (n : Int) (by omega) (by omega)
    show csum f n + f (n : Int) + 1 ≤ _
    by_cases c : k = (n : Int)
    · rw [c] at hk
      have : ∀ m : Nat, (m : Int) ≤ (n : Int) → csum f m ≤ (m : Int) := fun m => by
        induction m with
        | zero => intro _; simp [csum]
        | succ m ihm =>
          intro hm
          have a := ihm (by omega)
          have b := h (m : Int) (by omega) (by omega)
          show csum f m + f (m : Int) ≤ _
          omega
      have := this n (by omega)
      omega
    · have := ih (fun i a b => h i a (by omega)) (by omega)
      omega
theorem offStep {s k : Int} {d : mD} {w : Row} (hg : GG w) (h : Rel s d w) (hk : 0 ≤ k ∧ k < w 10) (h3 : w (1916 + 5 * k + 3) = 0) : w 11 < 200 ∧ GG (ws (ws (ws w ((1916 + (5 * k)) + 3) 1) (2916 + (w 11)) k) 11 ((w 11) + 1)) ∧ Rel s (mset (mset (mset d (s + 61) k 1) (s + 62) (w 11) k) (s + 57) 5 (w 11 + 1)) (ws (ws (ws w ((1916 + (5 * k)) + 3) 1) (2916 + (w 11)) k) 11 ((w 11) + 1)) := by
  obtain ⟨hN, hO, hQ, hT, hC, hK, hR⟩ := id hg
  obtain ⟨n7, n8, n9, n10, n11, n0, n1, n2, n3, n4, n5, n6⟩ := id hN
  obtain ⟨rA, rO, rQ, rP, rT, rC, ⟨k1, k2⟩, ⟨r1, r2⟩, rB, rH⟩ := h
  have hlt : w 11 < 200 := by
    have := csum_full (f := fun k => if w (1916 + 5 * k + 3) = 1 then 1 else 0) (n := (w 10).toNat) (fun i a b => by
      show (if w (1916 + 5 * i + 3) = 1 then (1 : Int) else 0) ≤ 1
      split <;> omega) (k := k) hk.1 (by omega) (by
      show (if w (1916 + 5 * k + 3) = 1 then (1 : Int) else 0) ≤ 0
      rw [if_neg (by omega)]
      omega)
    have r := hR.1
    omega
  refine ⟨hlt, ?_⟩
  generalize hw : (ws (ws (ws w ((1916 + (5 * k)) + 3) 1) (2916 + (w 11)) k) 11 ((w 11) + 1)) = w'
  have e11 : w' 11 = w 11 + 1 := by rw [← hw]; exact wse rfl
  have e3 : w' (1916 + 5 * k + 3) = 1 := by
    rw [← hw]
    simp (disch := omega) only [wse, wsn]
  have er : w' (2916 + w 11) = k := by
    rw [← hw]
    simp (disch := omega) only [wse, wsn]
  have e : ∀ i, ¬ i = 1916 + 5 * k + 3 → ¬ i = 2916 + w 11 → ¬ i = 11 → w' i = w i := fun i a b c => by
    rw [← hw, wsn c, wsn b, wsn a]
  generalize hd : mset (mset (mset d (s + 61) k 1) (s + 62) (w 11) k) (s + 57) 5 (w 11 + 1) = d'
  have fd : ∀ b, ¬ b = s + 61 → ¬ b = s + 62 → ¬ b = s + 57 → d' b = d b := fun b x y z => by
    rw [← hd]
    funext j
    simp (disch := omega) only [ms_a]
  have nk : ∀ i, 0 ≤ i → i < w 11 → ¬ w (2916 + i) = k := fun i a b z => by
    have := (hR.2 i a b).2.1
    rw [z] at this
    omega
  refine ⟨⟨?_, hO.k (fun i hi => e i (by omega) (by omega) (by omega)) hN, hQ.k (fun i hi => e i (by omega) (by omega) (by omega)) hN hO, hT.k (fun i hi => e i (by omega) (by omega) (by omega)) hN hO, hC.k (fun i hi => e i (by omega) (by omega) (by omega)) hN, hK.k2 (fun i hi => e i (by omega) (by omega) (by omega)) hN (fun j x y => ?_), ⟨?_, fun j x y => ?_⟩⟩, rA.k (fun b x => fd b (by omega) (by omega) (by omega)) (fun i hi => e i (by omega) (by omega) (by omega)), rO.k (fun b x y => fd b (by omega) (by omega) (by omega)) (fun i hi => e i (by omega) (by omega) (by omega)) n7, rQ.k (fd _ (by omega) (by omega) (by omega)) (fun i hi => e i (by omega) (by omega) (by omega)) n7 hO, rP.k (fun b x y => fd b (by omega) (by omega) (by omega)) (fun i hi => e i (by omega) (by omega) (by omega)) n8, rT.k (fun b x y => fd b (by omega) (by omega) (by omega)) (fun i hi => e i (by omega) (by omega) (by omega)) n9, rC.k (fun b x => fd b (by omega) (by omega) (by omega)) (fun i hi => e i (by omega) (by omega) (by omega)) n9, ⟨?_, fun j x y => ?_⟩, ⟨?_, fun j x y => ?_⟩, rB.k (fun b x y => fd b (by omega) (by omega) (by omega)) (fun i hi => e i (by omega) (by omega) (by omega)) n8 n9 n10 hK.of, rH.k (fun b x y => fd b (by omega) (by omega) (by omega)) (fun i hi => e i (by omega) (by omega) (by omega)) n8 n9 n10 hK.of⟩
  · unfold GN
    rw [e11, e 0 (by omega) (by omega) (by omega), e 1 (by omega) (by omega) (by omega), e 2 (by omega) (by omega) (by omega), e 3 (by omega) (by omega) (by omega), e 4 (by omega) (by omega) (by omega), e 5 (by omega) (by omega) (by omega), e 6 (by omega) (by omega) (by omega), e 7 (by omega) (by omega) (by omega), e 8 (by omega) (by omega) (by omega), e 9 (by omega) (by omega) (by omega), e 10 (by omega) (by omega) (by omega)]
    omega
  · have g := hK j x y
    refine ⟨by rw [e _ (by omega) (by omega) (by omega)]; exact g.1, ?_⟩
    by_cases c : j = k
    · rw [c, e3]; omega
    · rw [e _ (by omega) (by omega) (by omega)]; exact g.2.2.2.1
  · have hs := csum_upd (f := fun k => if w' (1916 + 5 * k + 3) = 1 then 1 else 0) (g := fun k => if w (1916 + 5 * k + 3) = 1 then 1 else 0) (n := (w 10).toNat) (k := k) hk.1 (by omega) (fun i a b c => by
      show (if w' (1916 + 5 * i + 3) = 1 then (1 : Int) else 0) = if w (1916 + 5 * i + 3) = 1 then 1 else 0
      rw [e _ (by omega) (by omega) (by omega)])
    rw [e3, h3, if_pos rfl, if_neg (by decide)] at hs
    rw [e11, e 10 (by omega) (by omega) (by omega), hs, ← hR.1]
    omega
  · rw [e11] at y
    rw [e 10 (by omega) (by omega) (by omega)]
    by_cases c : j = w 11
    · rw [c, er, e3]
      refine ⟨hk, rfl, fun i a b => ?_⟩
      rw [e _ (by omega) (by omega) (by omega)]
      exact nk i a b
    · have g := hR.2 j x (by omega)
      have := nk j x (by omega)
      rw [e (2916 + j) (by omega) (by omega) (by omega), e (1916 + 5 * w (2916 + j) + 3) (by omega) (by omega) (by omega)]
      refine ⟨g.1, g.2.1, fun i a b => ?_⟩
      rw [e (2916 + i) (by omega) (by omega) (by omega)]
      exact g.2.2 i a b
  · rw [e 10 (by omega) (by omega) (by omega), ← hd, ms_i (by omega)]
    simp (disch := omega) only [ms_a]
    exact k1
  · rw [e 10 (by omega) (by omega) (by omega)] at y
    have g := k2 j x y
    rw [fd (s + 58) (by omega) (by omega) (by omega), fd (s + 59) (by omega) (by omega) (by omega), fd (s + 60) (by omega) (by omega) (by omega), e (1916 + 5 * j + 0) (by omega) (by omega) (by omega), e (1916 + 5 * j + 1) (by omega) (by omega) (by omega), e (1916 + 5 * j + 2) (by omega) (by omega) (by omega)]
    refine ⟨g.1, g.2.1, g.2.2.1, ?_⟩
    rw [← hd]
    by_cases c : j = k
    · rw [c, e3]
      simp (disch := omega) only [ms_a, ms_e]
    · rw [e _ (by omega) (by omega) (by omega)]
      simp (disch := omega) only [ms_a, ms_i]
      exact g.2.2.2
  · rw [e11, ← hd, ms_e rfl rfl]
  · rw [e11] at y
    rw [← hd]
    by_cases c : j = w 11
    · rw [c, er]
      simp (disch := omega) only [ms_a, ms_e]
    · rw [e _ (by omega) (by omega) (by omega)]
      simp (disch := omega) only [ms_a, ms_i]
      exact r2 j x (by omega)
theorem offIdle {p m0 : Int} : ∀ (n : Nat) (m k : Int) (w : Row), w 10 - k ≤ (n : Int) → 0 ≤ k → (∀ j, 0 ≤ j → j < w 10 → ¬ w (1916 + 5 * j + 3) = 0) → LP_286_65 p m0 n m k w = (V_219 w, W_219 w) := by
  intro n
  induction n with
  | zero =>
    intro m k w hn h0 hz
    show ST_286_65 p m0 _ m k w = _
    unfold ST_286_65
    rw [if_neg (by omega)]
  | succ n ih =>
    intro m k w hn h0 hz
    show ST_286_65 p m0 _ m k w = _
    unfold ST_286_65
    by_cases c1 : k < w 10
    · rw [if_pos c1]
      by_cases c2 : 0 < m
      · rw [if_pos c2, if_neg (hz k h0 c1)]
        split
        · exact ih m (k + 1) w (by omega) (by omega) hz
        · exact ih m (k + 1) w (by omega) (by omega) hz
      · rw [if_neg c2]
    · rw [if_neg c1]
theorem offLoop {s p m0 : Int} : ∀ (nc nr : Nat) (m k : Int) (d : mD) (w : Row), 0 ≤ k → GG w → Rel s d w → w 10 - k ≤ (nc : Int) → w 10 - k ≤ (nr : Int) →
    ∃ w', LP_286_65 p m0 nr m k w = (V_219 w', W_219 w') ∧ GG w' ∧ Rel s (lp_115_5 (s + 57) p m0 nc m k d) w' ∧ XR w w' := by
  intro nc
  induction nc with
  | zero =>
    intro nr m k d w h0 hg h h1 h2
    have k1 := h.2.2.2.2.2.2.1.1
    have e : lp_115_5 (s + 57) p m0 0 m k d = d := by
      show st_115_5 (s + 57) p m0 _ m k d = d
      unfold st_115_5
      rw [if_neg (by omega)]
    refine ⟨w, ?_, hg, by rw [e]; exact h, XR.refl⟩
    cases nr with
    | zero =>
      show ST_286_65 p m0 _ m k w = _
      unfold ST_286_65
      rw [if_neg (by omega)]
    | succ nr =>
      show ST_286_65 p m0 _ m k w = _
      unfold ST_286_65
      rw [if_neg (by omega)]
  | succ nc ih =>
    intro nr m k d w h0 hg h h1 h2
    obtain ⟨k1, k2⟩ := h.2.2.2.2.2.2.1
    have r1 := h.2.2.2.2.2.2.2.1.1
    by_cases c1 : k < w 10
    · cases nr with
      | zero => omega
      | succ nr =>
        have g := k2 k h0 c1
        by_cases c2 : 0 < m
        · by_cases c5 : w 11 < 200
          · by_cases c3 : w (1916 + 5 * k + 0) = p
            · by_cases c4 : w (1916 + 5 * k + 3) = 0
              · obtain ⟨-, g', r'⟩ := offStep hg h ⟨h0, c1⟩ c4
                have e : lp_115_5 (s + 57) p m0 (nc + 1) m k d = lp_115_5 (s + 57) p m0 nc (m + -1) (k + 1) (mset (mset (mset d (s + 61) k 1) (s + 62) (w 11) k) (s + 57) 5 (w 11 + 1)) := by
                  show st_115_5 (s + 57) p m0 _ m k d = _
                  unfold st_115_5
                  rw [if_pos (by omega), if_pos c2, if_pos (by rw [r1]; exact c5), show s + 57 + 1 = s + 58 by omega, show s + 57 + 4 = s + 61 by omega, show s + 57 + 5 = s + 62 by omega, if_pos (by rw [g.1]; exact c3), if_pos (by rw [g.2.2.2]; exact c4), r1]
                have e2 : LP_286_65 p m0 (nr + 1) m k w = LP_286_65 p m0 nr (m + -1) (k + 1) (ws (ws (ws w ((1916 + (5 * k)) + 3) 1) (2916 + (w 11)) k) 11 ((w 11) + 1)) := by
                  show ST_286_65 p m0 _ m k w = _
                  unfold ST_286_65
                  rw [if_pos c1, if_pos c2, if_pos c3, if_pos c4]
                rw [e, e2]
                have n11 := hg.1.2.2.2.2.1
                have e10 : (ws (ws (ws w ((1916 + (5 * k)) + 3) 1) (2916 + (w 11)) k) 11 ((w 11) + 1)) 10 = w 10 := by
                  simp (disch := omega) only [wsn]
                obtain ⟨w', q1, q2, q3, q4⟩ := ih nr (m + -1) (k + 1) _ _ (by omega) g' r' (by rw [e10]; omega) (by rw [e10]; omega)
                refine ⟨w', q1, q2, q3, XR.trans ?_ q4⟩
                have n8 := hg.1.2.1
                have n9 := hg.1.2.2.1
                have n10 := hg.1.2.2.2.1
                generalize hu : (ws (ws (ws w ((1916 + (5 * k)) + 3) 1) (2916 + (w 11)) k) 11 ((w 11) + 1)) = u at *
                have ue : ∀ i, ¬ i = 11 → ¬ i = 1916 + 5 * k + 3 → ¬ i = 2916 + w 11 → u i = w i := fun i a b c => by
                  rw [← hu]
                  simp (disch := omega) only [wsn]
                have u3 : u (1916 + 5 * k + 3) = 1 := by
                  rw [← hu]
                  simp (disch := omega) only [wsn, wse]
                refine ⟨GXI.keep hg.1.2.1 (ue 8 (by omega) (by omega) (by omega)) (ue 9 (by omega) (by omega) (by omega)) (fun t q a b x y => ue _ (by omega) (by omega) (by omega)) (fun p a b => ue _ (by omega) (by omega) (by omega)) (Int.le_of_eq (C2_of e10 (fun j a b => ?_)).symm), ue 0 (by omega) (by omega) (by omega)⟩
                by_cases z : j = k
                · rw [z, u3, c4]
                  exact ⟨fun y => absurd y (by decide), fun y => absurd y (by decide)⟩
                · rw [ue _ (by omega) (by omega) (by omega)]
              · have e : lp_115_5 (s + 57) p m0 (nc + 1) m k d = lp_115_5 (s + 57) p m0 nc m (k + 1) d := by
                  show st_115_5 (s + 57) p m0 _ m k d = _
                  unfold st_115_5
                  rw [if_pos (by omega), if_pos c2, if_pos (by rw [r1]; exact c5), show s + 57 + 1 = s + 58 by omega, show s + 57 + 4 = s + 61 by omega, if_pos (by rw [g.1]; exact c3), if_neg (by rw [g.2.2.2]; exact c4)]
                have e2 : LP_286_65 p m0 (nr + 1) m k w = LP_286_65 p m0 nr m (k + 1) w := by
                  show ST_286_65 p m0 _ m k w = _
                  unfold ST_286_65
                  rw [if_pos c1, if_pos c2, if_pos c3, if_neg c4]
                rw [e, e2]
                exact ih nr m (k + 1) d w (by omega) hg h (by omega) (by omega)
            · have e : lp_115_5 (s + 57) p m0 (nc + 1) m k d = lp_115_5 (s + 57) p m0 nc m (k + 1) d := by
                show st_115_5 (s + 57) p m0 _ m k d = _
                unfold st_115_5
                rw [if_pos (by omega), if_pos c2, if_pos (by rw [r1]; exact c5), show s + 57 + 1 = s + 58 by omega, if_neg (by rw [g.1]; exact c3)]
              have e2 : LP_286_65 p m0 (nr + 1) m k w = LP_286_65 p m0 nr m (k + 1) w := by
                show ST_286_65 p m0 _ m k w = _
                unfold ST_286_65
                rw [if_pos c1, if_pos c2, if_neg c3]
              rw [e, e2]
              exact ih nr m (k + 1) d w (by omega) hg h (by omega) (by omega)
          · have e : lp_115_5 (s + 57) p m0 (nc + 1) m k d = d := by
              show st_115_5 (s + 57) p m0 _ m k d = d
              unfold st_115_5
              rw [if_pos (by omega), if_pos c2, if_neg (by rw [r1]; exact c5)]
            refine ⟨w, offIdle (nr + 1) m k w (by omega) h0 (fun j a b z => ?_), hg, by rw [e]; exact h, XR.refl⟩
            exact absurd (offStep hg h ⟨a, b⟩ z).1 c5
        · have e : lp_115_5 (s + 57) p m0 (nc + 1) m k d = d := by
            show st_115_5 (s + 57) p m0 _ m k d = d
            unfold st_115_5
            rw [if_pos (by omega), if_neg c2]
          refine ⟨w, ?_, hg, by rw [e]; exact h, XR.refl⟩
          show ST_286_65 p m0 _ m k w = _
          unfold ST_286_65
          rw [if_pos c1, if_neg c2]
    · have e : lp_115_5 (s + 57) p m0 (nc + 1) m k d = d := by
        show st_115_5 (s + 57) p m0 _ m k d = d
        unfold st_115_5
        rw [if_neg (by omega)]
      refine ⟨w, ?_, hg, by rw [e]; exact h, XR.refl⟩
      cases nr with
      | zero =>
        show ST_286_65 p m0 _ m k w = _
        unfold ST_286_65
        rw [if_neg (by omega)]
      | succ nr =>
        show ST_286_65 p m0 _ m k w = _
        unfold ST_286_65
        rw [if_neg (by omega)]
/-! ===== small changes ===== -/
theorem GWt.of {w w' : Row} (h : GWt w) (h8 : w' 8 = w 8) (h9 : w' 9 = w 9) (e : ∀ t q, 0 ≤ t → t < w 9 → 0 ≤ q → q < 16 → w' (452 + 24 * t + 8 + q) = w (452 + 24 * t + 8 + q)) (p8 : 0 ≤ w 8) : GWt w' := by
  intro t x y q u v
  rw [h9] at y
  rw [h8] at u
  rw [e t q x y (by omega) v]
  exact h t x y q u v
-- one number ahead of the offices
theorem setHead {s j v : Int} {d d' : mD} {w : Row} (hg : GG w) (h : Rel s d w) (hj : 1 ≤ j ∧ j ≤ 6) (hN' : GN (ws w j v)) (hA : RelA s d' (ws w j v)) (hd : ∀ b, ¬ b = s → ¬ b = s + 1 → d' b = d b) : GG (ws w j v) ∧ Rel s d' (ws w j v) := by
  obtain ⟨hN, hO, hQ, hT, hC, hK, hR⟩ := id hg
  obtain ⟨n7, n8, n9, n10, n11, n0, n1, n2, n3, n4, n5, n6⟩ := id hN
  obtain ⟨rA, rO, rQ, rP, rT, rC, rK, rR, rB, rH⟩ := h
  have e : ∀ i, ¬ (1 ≤ i ∧ i ≤ 6) → ws w j v i = w i := fun i hi => wsn (by omega)
  generalize ws w j v = w' at *
  exact ⟨⟨hN', hO.k (fun i hi => e i (by omega)) hN, hQ.k (fun i hi => e i (by omega)) hN hO, hT.k (fun i hi => e i (by omega)) hN hO, hC.k (fun i hi => e i (by omega)) hN, hK.k (fun i hi => e i (by omega)) hN, hR.k (fun i hi => e i (by omega)) hN⟩, hA, rO.k (fun b x y => hd b (by omega) (by omega)) (fun i hi => e i (by omega)) n7, rQ.k (hd _ (by omega) (by omega)) (fun i hi => e i (by omega)) n7 hO, rP.k (fun b x y => hd b (by omega) (by omega)) (fun i hi => e i (by omega)) n8, rT.k (fun b x y => hd b (by omega) (by omega)) (fun i hi => e i (by omega)) n9, rC.k (fun b x => hd b (by omega) (by omega)) (fun i hi => e i (by omega)) n9, rK.k (by rw [hd _ (by omega) (by omega)]) (fun b x y => hd b (by omega) (by omega)) (fun i hi => e i (by omega)) n10, rR.k (by rw [hd _ (by omega) (by omega)]) (hd _ (by omega) (by omega)) (fun i hi => e i (by omega)) n11, rB.k (fun b x y => hd b (by omega) (by omega)) (fun i hi => e i (by omega)) n8 n9 n10 hK.of, rH.k (fun b x y => hd b (by omega) (by omega)) (fun i hi => e i (by omega)) n8 n9 n10 hK.of⟩
theorem setFund {s v : Int} {d : mD} {w : Row} (hg : GG w) (h : Rel s d w) (hv : 0 ≤ v ∧ v ≤ 99999) : GG (ws w 1 v) ∧ Rel s (mset d s 1 v) (ws w 1 v) := by
  obtain ⟨n7, n8, n9, n10, n11, n0, n1, n2, n3, n4, n5, n6⟩ := id hg.1
  obtain ⟨a1, a2, a3⟩ := id h.1
  refine setHead hg h ⟨by decide, by decide⟩ ?_ ⟨?_, ?_, fun k x y => ?_⟩ (fun b x y => by funext j; exact ms_a x)
  · unfold GN
    simp (disch := omega) only [wse, wsn]
    omega
  · rw [wse rfl, ms_e rfl rfl]
  · rw [wsn (by omega), ms_i (by omega)]; exact a2
  · rw [wsn (by omega), ms_a (by omega)]; exact a3 k x y
theorem setSet {s k v : Int} {d : mD} {w : Row} (hg : GG w) (h : Rel s d w) (hk : 0 ≤ k ∧ k < 5) (hN' : GN (ws w (2 + k) v)) : GG (ws w (2 + k) v) ∧ Rel s (mset d (s + 1) k v) (ws w (2 + k) v) := by
  obtain ⟨a1, a2, a3⟩ := id h.1
  refine setHead hg h ⟨by omega, by omega⟩ hN' ⟨?_, ?_, fun j x y => ?_⟩ (fun b x y => by funext j; exact ms_a y)
  · rw [wsn (by omega), ms_a (by omega)]; exact a1
  · rw [wsn (by omega), ms_a (by omega)]; exact a2
  · by_cases c : j = k
    · rw [c, wse rfl, ms_e rfl rfl]
    · rw [wsn (by omega), ms_i c]; exact a3 j x y
theorem setOpen {s o : Int} {d : mD} {w : Row} (hg : GG w) (h : Rel s d w) (ho : 0 ≤ o ∧ o < w 7) : GG (ws w (12 + 68 * o + 4) 1) ∧ Rel s (mset d (s + 7) o 1) (ws w (12 + 68 * o + 4) 1) := by
  obtain ⟨hN, hO, hQ, hT, hC, hK, hR⟩ := id hg
  obtain ⟨n7, n8, n9, n10, n11, n0, n1, n2, n3, n4, n5, n6⟩ := id hN
  obtain ⟨rA, ⟨o1, o2⟩, rQ, rP, rT, rC, rK, rR, rB, rH⟩ := h
  have eo : ws w (12 + 68 * o + 4) 1 (12 + 68 * o + 4) = 1 := wse rfl
  have e : ∀ i, ¬ i = 12 + 68 * o + 4 → ws w (12 + 68 * o + 4) 1 i = w i := fun i hi => wsn hi
  generalize ws w (12 + 68 * o + 4) 1 = w' at *
  have fd : ∀ b, ¬ b = s + 7 → mset d (s + 7) o 1 b = d b := fun b x => by
    funext j
    exact ms_a x
  refine ⟨⟨hN.k (fun i hi => e i (by omega)), fun o' x y => ?_, hQ.k (fun i hi => e i (by omega)) hN hO, hT.k (fun i hi => e i (by omega)) hN hO, hC.k (fun i hi => e i (by omega)) hN, hK.k (fun i hi => e i (by omega)) hN, hR.k (fun i hi => e i (by omega)) hN⟩, rA.k (fun b x => fd b (by omega)) (fun i hi => e i (by omega)), ⟨?_, fun o' x y => ?_⟩, rQ.k (fd _ (by omega)) (fun i hi => e i (by omega)) n7 hO, rP.k (fun b x y => fd b (by omega)) (fun i hi => e i (by omega)) n8, rT.k (fun b x y => fd b (by omega)) (fun i hi => e i (by omega)) n9, rC.k (fun b x => fd b (by omega)) (fun i hi => e i (by omega)) n9, rK.k (by rw [fd _ (by omega)]) (fun b x y => fd b (by omega)) (fun i hi => e i (by omega)) n10, rR.k (by rw [fd _ (by omega)]) (fd _ (by omega)) (fun i hi => e i (by omega)) n11, rB.k (fun b x y => fd b (by omega)) (fun i hi => e i (by omega)) n8 n9 n10 hK.of, rH.k (fun b x y => fd b (by omega)) (fun i hi => e i (by omega)) n8 n9 n10 hK.of⟩
  · rw [e 7 (by omega)] at y
    have g := hO o' x y
    rw [e (12 + 68 * o' + 1) (by omega), e (12 + 68 * o' + 2) (by omega), e (12 + 68 * o' + 3) (by omega), e (12 + 68 * o' + 5) (by omega), e (12 + 68 * o' + 6) (by omega), e 9 (by omega), csum_congr (f := fun t => if w' (452 + 24 * t + 4) = 1 ∧ w' (452 + 24 * t + 1) = o' then 1 else 0) (g := fun t => if w (452 + 24 * t + 4) = 1 ∧ w (452 + 24 * t + 1) = o' then 1 else 0) (fun t a b => by
      show (if w' (452 + 24 * t + 4) = 1 ∧ w' (452 + 24 * t + 1) = o' then (1 : Int) else 0) = if w (452 + 24 * t + 4) = 1 ∧ w (452 + 24 * t + 1) = o' then 1 else 0
      rw [e (452 + 24 * t + 4) (by omega), e (452 + 24 * t + 1) (by omega)])]
    by_cases c : o' = o
    · rw [c, eo]
      rw [c] at g
      exact ⟨g.1, g.2.1, g.2.2.1, Or.inr rfl, g.2.2.2.2.1, fun z => absurd z (by decide), g.2.2.2.2.2.2⟩
    · rw [e (12 + 68 * o' + 4) (by omega)]
      exact g
  · rw [fd _ (by omega), e 7 (by omega)]; exact o1
  · rw [e 7 (by omega)] at y
    have g := o2 o' x y
    rw [fd (s + 3) (by omega), fd (s + 4) (by omega), fd (s + 5) (by omega), fd (s + 6) (by omega), fd (s + 8) (by omega), e (12 + 68 * o' + 0) (by omega), e (12 + 68 * o' + 1) (by omega), e (12 + 68 * o' + 2) (by omega), e (12 + 68 * o' + 3) (by omega), e (12 + 68 * o' + 5) (by omega)]
    refine ⟨g.1, g.2.1, g.2.2.1, g.2.2.2.1, ?_, g.2.2.2.2.2⟩
    by_cases c : o' = o
    · rw [c, eo, ms_e rfl rfl]
    · rw [e _ (by omega), ms_i c]; exact g.2.2.2.2.1
-- a new person
theorem addP {s c : Int} {d : mD} {w : Row} (hg : GG w) (hw : GWt w) (h : Rel s d w) (h8 : w 8 < 16) (hc : okN c) : GG (W_182 (nm c) w) ∧ GWt (W_182 (nm c) w) ∧ Rel s (g_47 (s + 10) c d) (W_182 (nm c) w) ∧ W_182 (nm c) w 8 = w 8 + 1 ∧ ∀ i, ¬ i = 8 → ¬ (420 ≤ i ∧ i < 452) → W_182 (nm c) w i = w i := by
  obtain ⟨hN, hO, hQ, hT, hC, hK, hR⟩ := id hg
  obtain ⟨n7, n8, n9, n10, n11, n0, n1, n2, n3, n4, n5, n6⟩ := id hN
  obtain ⟨rA, rO, rQ, ⟨p1, p2⟩, rT, rC, rK, rR, rB, rH⟩ := h
  generalize hw' : W_182 (nm c) w = w'
  have e8 : w' 8 = w 8 + 1 := by
    rw [← hw']
    unfold W_182
    simp (disch := omega) only [wse, wsn]
  have ep0 : w' (420 + 2 * w 8 + 0) = nm c := by
    rw [← hw']
    unfold W_182
    simp (disch := omega) only [wse, wsn]
  have ep1 : w' (420 + 2 * w 8 + 1) = 0 := by
    rw [← hw']
    unfold W_182
    simp (disch := omega) only [wse, wsn]
  have e : ∀ i, ¬ i = 8 → ¬ i = 420 + 2 * w 8 + 0 → ¬ i = 420 + 2 * w 8 + 1 → w' i = w i := fun i x y z => by
    rw [← hw']
    unfold W_182
    simp (disch := omega) only [wsn]
  have eh : g_8 (s + 10 + 6 + (1 + 2 * w 8)) = fun d => mfl d (s + 18 + 2 * w 8) 0 16 := by
    funext d
    unfold g_8 g_300
    rw [show s + 10 + 6 + (1 + 2 * w 8) + 1 = s + 18 + 2 * w 8 by omega]
  generalize hd : g_47 (s + 10) c d = d'
  have ed : d' = mset (mfl (mset (mset (mset (mset (mset d (s + 11) (w 8) c) (s + 12) (w 8) 0) (s + 13) (w 8) 0) (s + 14) (w 8) 0) (s + 15) (w 8) 0) (s + 18 + 2 * w 8) 0 16) (s + 10) 0 (w 8 + 1) := by
    rw [← hd]
    unfold g_47
    rw [p1, if_pos h8, eh]
    simp only [show s + 10 + 1 = s + 11 by omega, show s + 10 + 2 = s + 12 by omega, show s + 10 + 3 = s + 13 by omega, show s + 10 + 4 = s + 14 by omega, show s + 10 + 5 = s + 15 by omega]
  have fd : ∀ b, ¬ (s + 10 ≤ b ∧ b ≤ s + 15) → ¬ b = s + 18 + 2 * w 8 → d' b = d b := fun b x y => by
    rw [ed]
    funext j
    simp (disch := omega) only [ms_a, fl_n]
  have fe : ∀ b j, s + 11 ≤ b → b ≤ s + 15 → ¬ j = w 8 → d' b j = d b j := fun b j x y z => by
    rw [ed]
    simp (disch := omega) only [ms_a, ms_i, fl_n]
  have pO : ∀ k, perO w' k = perO w k ∨ ¬ (0 ≤ k ∧ k < w 10) := fun k => by
    by_cases q : 0 ≤ k ∧ k < w 10
    · have g := hK k q.1 q.2
      refine Or.inl ?_
      unfold perO
      rw [e (1916 + 5 * k + 1) (by omega) (by omega) (by omega), e _ (by omega) (by omega) (by omega)]
    · exact Or.inr q
  have pO' : ∀ k, 0 ≤ k → k < w 10 → perO w' k = perO w k ∧ perO w k < w 8 := fun k a b => by
    refine ⟨(pO k).elim id (fun z => absurd ⟨a, b⟩ z), ?_⟩
    have g := hK k a b
    exact (hT _ g.2.1.1 g.2.1.2).1.2
  refine ⟨⟨?_, hO.k (fun i hi => e i (by omega) (by omega) (by omega)) hN, hQ.k (fun i hi => e i (by omega) (by omega) (by omega)) hN hO, ?_, hC.k (fun i hi => e i (by omega) (by omega) (by omega)) hN, ?_, hR.k (fun i hi => e i (by omega) (by omega) (by omega)) hN⟩, ?_, ⟨rA.k (fun b x => fd b (by omega) (by omega)) (fun i hi => e i (by omega) (by omega) (by omega)), rO.k (fun b x y => fd b (by omega) (by omega)) (fun i hi => e i (by omega) (by omega) (by omega)) n7, rQ.k (fd _ (by omega) (by omega)) (fun i hi => e i (by omega) (by omega) (by omega)) n7 hO, ⟨?_, fun p x y => ?_⟩, rT.k (fun b x y => fd b (by omega) (by omega)) (fun i hi => e i (by omega) (by omega) (by omega)) n9, rC.k (fun b x => fd b (by omega) (by omega)) (fun i hi => e i (by omega) (by omega) (by omega)) n9, rK.k (by rw [fd _ (by omega) (by omega)]) (fun b x y => fd b (by omega) (by omega)) (fun i hi => e i (by omega) (by omega) (by omega)) n10, rR.k (by rw [fd _ (by omega) (by omega)]) (fd _ (by omega) (by omega)) (fun i hi => e i (by omega) (by omega) (by omega)) n11, ?_, ?_⟩, e8, fun i x y => e i x (by omega) (by omega)⟩
  · unfold GN
    rw [e8, e 0 (by omega) (by omega) (by omega), e 1 (by omega) (by omega) (by omega), e 2 (by omega) (by omega) (by omega), e 3 (by omega) (by omega) (by omega), e 4 (by omega) (by omega) (by omega), e 5 (by omega) (by omega) (by omega), e 6 (by omega) (by omega) (by omega), e 7 (by omega) (by omega) (by omega), e 9 (by omega) (by omega) (by omega), e 10 (by omega) (by omega) (by omega), e 11 (by omega) (by omega) (by omega)]
    omega
  · intro t x y
    rw [e 9 (by omega) (by omega) (by omega)] at y
    have g := hT t x y
    rw [e (452 + 24 * t + 0) (by omega) (by omega) (by omega), e (452 + 24 * t + 1) (by omega) (by omega) (by omega), e (452 + 24 * t + 2) (by omega) (by omega) (by omega), e (452 + 24 * t + 3) (by omega) (by omega) (by omega), e (452 + 24 * t + 4) (by omega) (by omega) (by omega), e 0 (by omega) (by omega) (by omega), e 7 (by omega) (by omega) (by omega), e8]
    refine ⟨by omega, g.2.1, g.2.2.1, g.2.2.2.1, fun z => ?_, g.2.2.2.2.2⟩
    obtain ⟨z1, k, z2, z3, z4⟩ := g.2.2.2.2.1 z
    have go := hO _ g.2.1.1 g.2.1.2
    exact ⟨z1, k, z2, by rw [e _ (by omega) (by omega) (by omega)]; exact z3, by rw [e _ (by omega) (by omega) (by omega)]; exact z4⟩
  · intro k x y
    rw [e 10 (by omega) (by omega) (by omega)] at y
    have g := hK k x y
    rw [e (1916 + 5 * k + 0) (by omega) (by omega) (by omega), e (1916 + 5 * k + 1) (by omega) (by omega) (by omega), e (1916 + 5 * k + 2) (by omega) (by omega) (by omega), e (1916 + 5 * k + 3) (by omega) (by omega) (by omega), e (1916 + 5 * k + 4) (by omega) (by omega) (by omega), e 0 (by omega) (by omega) (by omega), e8, e 9 (by omega) (by omega) (by omega), (pO' k x y).1]
    refine ⟨by omega, g.2.1, g.2.2.1, g.2.2.2.1, g.2.2.2.2.1, fun i a b => ?_⟩
    rw [e (1916 + 5 * i + 2) (by omega) (by omega) (by omega), (pO' i a (by omega)).1]
    exact g.2.2.2.2.2 i a b
  · intro t x y q u v
    rw [e 9 (by omega) (by omega) (by omega)] at y
    rw [e8] at u
    rw [e _ (by omega) (by omega) (by omega)]
    exact hw t x y q (by omega) v
  · rw [ed, e8, ms_e rfl rfl]
  · rw [e8] at y
    by_cases q : p = w 8
    · rw [q, ep0, ep1, ed]
      simp (disch := omega) only [ms_a, ms_e, fl_n]
      exact ⟨⟨hc, trivial⟩, trivial⟩
    · rw [e (420 + 2 * p + 0) (by omega) (by omega) (by omega), e (420 + 2 * p + 1) (by omega) (by omega) (by omega), fe (s + 11) p (by omega) (by omega) q, fe (s + 12) p (by omega) (by omega) q]
      exact p2 p x (by omega)
  · intro p x y
    rw [e8] at y
    have hm : madeR w' p = madeR w p := madeR_k' (e 10 (by omega) (by omega) (by omega)) (fun k a b => ⟨(pO' k a b).1, e _ (by omega) (by omega) (by omega), e 0 (by omega) (by omega) (by omega)⟩)
    have ha : attR w' p = attR w p := by
      unfold attR
      rw [e 9 (by omega) (by omega) (by omega), e 0 (by omega) (by omega) (by omega)]
      exact csum_congr (fun t a b => by rw [e (452 + 24 * t + 8 + p) (by omega) (by omega) (by omega)])
    have hb : ∀ r, (∃ t, 0 ≤ t ∧ t < w' 9 ∧ w' (452 + 24 * t + 0) = r ∧ attd w' t p) ↔ ∃ t, 0 ≤ t ∧ t < w 9 ∧ w (452 + 24 * t + 0) = r ∧ attd w t p := fun r => by
      rw [e 9 (by omega) (by omega) (by omega)]
      constructor
      · rintro ⟨t, a, b, c, dd⟩
        rw [e _ (by omega) (by omega) (by omega)] at c
        unfold attd at dd
        rw [e (452 + 24 * t + 8 + p) (by omega) (by omega) (by omega), e 0 (by omega) (by omega) (by omega)] at dd
        exact ⟨t, a, b, c, dd⟩
      · rintro ⟨t, a, b, c, dd⟩
        refine ⟨t, a, b, by rw [e _ (by omega) (by omega) (by omega)]; exact c, ?_⟩
        unfold attd
        rw [e (452 + 24 * t + 8 + p) (by omega) (by omega) (by omega), e 0 (by omega) (by omega) (by omega)]
        exact dd
    rw [hm, ha]
    by_cases q : p = w 8
    · have z1 : d' (s + 13) p = 0 := by
        rw [ed, q]
        simp (disch := omega) only [ms_a, ms_e, fl_n]
      have z2 : d' (s + 14) p = 0 := by
        rw [ed, q]
        simp (disch := omega) only [ms_a, ms_e, fl_n]
      have z3 : d' (s + 15) p = 0 := by
        rw [ed, q]
        simp (disch := omega) only [ms_a, ms_e, fl_n]
      rw [z1, z2, z3]
      refine ⟨?_, ?_, fun r a b => ?_⟩
      · unfold madeR
        refine (csum_zero (fun k a b => ?_)).symm
        have := (pO' k a (by omega)).2
        rw [if_neg (by omega)]
      · unfold attR
        refine (csum_zero (fun t a b => ?_)).symm
        rw [hw t a (by omega) p (by omega) (by omega), if_neg (by omega)]
      · rw [ib_zero, hb]
        constructor
        · intro z; cases z
        · rintro ⟨t, a, b, c, dd⟩
          unfold attd at dd
          rw [hw t a b p (by omega) (by omega)] at dd
          omega
    · obtain ⟨g1, g2, g3⟩ := rB p x (by omega)
      rw [fe (s + 13) p (by omega) (by omega) q, fe (s + 14) p (by omega) (by omega) q, fe (s + 15) p (by omega) (by omega) q]
      exact ⟨g1, g2, fun r a b => (g3 r a b).trans (hb r).symm⟩
  · intro p x y h0 u v
    rw [e8] at y
    have hb : (∃ k, 0 ≤ k ∧ k < w' 10 ∧ w' (1916 + 5 * k + 2) = h0 ∧ perO w' k = p) ↔ ∃ k, 0 ≤ k ∧ k < w 10 ∧ w (1916 + 5 * k + 2) = h0 ∧ perO w k = p := by
      rw [e 10 (by omega) (by omega) (by omega)]
      constructor
      · rintro ⟨k, a, b, c, dd⟩
        rw [e _ (by omega) (by omega) (by omega)] at c
        rw [(pO' k a b).1] at dd
        exact ⟨k, a, b, c, dd⟩
      · rintro ⟨k, a, b, c, dd⟩
        exact ⟨k, a, b, by rw [e _ (by omega) (by omega) (by omega)]; exact c, by rw [(pO' k a b).1]; exact dd⟩
    rw [hb]
    by_cases q : p = w 8
    · have z : d' (s + 18 + 2 * p) (h0 / 64) = 0 := by
        rw [ed, q]
        simp (disch := omega) only [ms_a]
        exact fl_e rfl (by omega) (by omega)
      rw [z, lb_zero]
      constructor
      · intro z; cases z
      · rintro ⟨k, a, b, c, dd⟩
        have := (pO' k a b).2
        omega
    · rw [fd _ (by omega) (by omega)]
      exact rH p x (by omega) h0 u v
/-! ===== names: looking them up, and a new office ===== -/
theorem find36 {s c m : Int} {d : mD} {w : Row} (h0 : d (s + 2) 0 = w 7) (h : ∀ o, 0 ≤ o → o < w 7 → (d (s + 3) o = c ↔ w (12 + 68 * o + 0) = m)) : ∀ (n : Nat) (x : Int), 0 ≤ x → lp_36_2 (s + 2) c n x d = LP_184_2 m n x w := by
  have st : ∀ (r : Int → mD → Int) (R : Int → Row → Int) (x : Int), 0 ≤ x → (x < w 7 → r (x + 1) d = R (x + 1) w) → st_36_2 (s + 2) c r x d = ST_184_2 m R x w := fun r R x a hr => by
    unfold st_36_2 ST_184_2
    rw [h0, show s + 2 + 1 = s + 3 by omega]
    by_cases q : x < w 7
    · rw [if_pos q, if_pos q]
      by_cases z : d (s + 3) x = c
      · rw [if_pos z, if_pos ((h x a q).1 z)]
      · rw [if_neg z, if_neg (fun y => z ((h x a q).2 y))]; exact hr q
    · rw [if_neg q, if_neg q]
  intro n
  induction n with
  | zero => intro x a; exact st _ _ x a (fun _ => rfl)
  | succ n ih => intro x a; exact st _ _ x a (fun _ => ih (x + 1) (by omega))
theorem find48 {s c m : Int} {d : mD} {w : Row} (h0 : d (s + 10) 0 = w 8) (h : ∀ p, 0 ≤ p → p < w 8 → (d (s + 11) p = c ↔ w (420 + 2 * p + 0) = m)) : ∀ (n : Nat) (x : Int), 0 ≤ x → lp_48_2 (s + 10) c n x d = LP_183_2 m n x w := by
  have st : ∀ (r : Int → mD → Int) (R : Int → Row → Int) (x : Int), 0 ≤ x → (x < w 8 → r (x + 1) d = R (x + 1) w) → st_48_2 (s + 10) c r x d = ST_183_2 m R x w := fun r R x a hr => by
    unfold st_48_2 ST_183_2
    rw [h0, show s + 10 + 1 = s + 11 by omega]
    by_cases q : x < w 8
    · rw [if_pos q, if_pos q]
      by_cases z : d (s + 11) x = c
      · rw [if_pos z, if_pos ((h x a q).1 z)]
      · rw [if_neg z, if_neg (fun y => z ((h x a q).2 y))]; exact hr q
    · rw [if_neg q, if_neg q]
  intro n
  induction n with
  | zero => intro x a; exact st _ _ x a (fun _ => rfl)
  | succ n ih => intro x a; exact st _ _ x a (fun _ => ih (x + 1) (by omega))
theorem findO {s c : Int} {d : mD} {w : Row} (h : RelO s d w) (hc : okN c) : v_36 (s + 2) c d = V_184 (nm c) w := by
  unfold v_36 V_184
  refine find36 h.1 (fun o x y => ?_) _ 0 (by omega)
  have g := (h.2 o x y).1
  exact ⟨fun z => by rw [← g.2, z], fun z => nm_inj g.1 hc (by rw [g.2, z])⟩
theorem findP {s c : Int} {d : mD} {w : Row} (h : RelP s d w) (hc : okN c) : v_48 (s + 10) c d = V_183 (nm c) w := by
  unfold v_48 V_183
  refine find48 h.1 (fun o x y => ?_) _ 0 (by omega)
  have g := (h.2 o x y).1
  exact ⟨fun z => by rw [← g.2, z], fun z => nm_inj g.1 hc (by rw [g.2, z])⟩
theorem noO {s c m : Int} {d : mD} {w : Row} (h : RelO s d w) (hc : c ≤ 0) (hm : m ≤ 0) : v_36 (s + 2) c d = V_184 m w := by
  unfold v_36 V_184
  refine find36 h.1 (fun o x y => ?_) _ 0 (by omega)
  have g := (h.2 o x y).1
  have g1 := nm_pos g.1
  have g2 := g.1.1
  exact ⟨fun z => by omega, fun z => by omega⟩
theorem noP {s c m : Int} {d : mD} {w : Row} (h : RelP s d w) (hc : c ≤ 0) (hm : m ≤ 0) : v_48 (s + 10) c d = V_183 m w := by
  unfold v_48 V_183
  refine find48 h.1 (fun o x y => ?_) _ 0 (by omega)
  have g := (h.2 o x y).1
  have g1 := nm_pos g.1
  have g2 := g.1.1
  exact ⟨fun z => by omega, fun z => by omega⟩
-- the answers' ranges
theorem V184_lo {m : Int} {w : Row} : ∀ (n : Nat) (x : Int), 0 ≤ x → w 7 ≤ x + n → -1 ≤ LP_184_2 m n x w ∧ LP_184_2 m n x w < w 7 ∨ w 7 ≤ x ∧ LP_184_2 m n x w = -1 := by
  intro n
  induction n with
  | zero =>
    intro x a b
    refine Or.inr ⟨by omega, ?_⟩
    show ST_184_2 m _ x w = -1
    unfold ST_184_2
    rw [if_neg (by omega)]
  | succ n ih =>
    intro x a b
    show (-1 ≤ ST_184_2 m (LP_184_2 m n) x w ∧ ST_184_2 m (LP_184_2 m n) x w < w 7) ∨ _ ∧ ST_184_2 m (LP_184_2 m n) x w = -1
    unfold ST_184_2
    by_cases q : x < w 7
    · rw [if_pos q]
      by_cases z : w (12 + 68 * x + 0) = m
      · rw [if_pos z]; exact Or.inl ⟨by omega, q⟩
      · rw [if_neg z]
        have := ih (x + 1) (by omega) (by omega)
        omega
    · rw [if_neg q]; exact Or.inr ⟨by omega, rfl⟩
theorem V183_lo {m : Int} {w : Row} : ∀ (n : Nat) (x : Int), 0 ≤ x → w 8 ≤ x + n → -1 ≤ LP_183_2 m n x w ∧ LP_183_2 m n x w < w 8 ∨ w 8 ≤ x ∧ LP_183_2 m n x w = -1 := by
  intro n
  induction n with
  | zero =>
    intro x a b
    refine Or.inr ⟨by omega, ?_⟩
    show ST_183_2 m _ x w = -1
    unfold ST_183_2
    rw [if_neg (by omega)]
  | succ n ih =>
    intro x a b
    show (-1 ≤ ST_183_2 m (LP_183_2 m n) x w ∧ ST_183_2 m (LP_183_2 m n) x w < w 8) ∨ _ ∧ ST_183_2 m (LP_183_2 m n) x w = -1
    unfold ST_183_2
    by_cases q : x < w 8
    · rw [if_pos q]
      by_cases z : w (420 + 2 * x + 0) = m
      · rw [if_pos z]; exact Or.inl ⟨by omega, q⟩
      · rw [if_neg z]
        have := ih (x + 1) (by omega) (by omega)
        omega
    · rw [if_neg q]; exact Or.inr ⟨by omega, rfl⟩
theorem V184_rng {m : Int} {w : Row} (h : 0 ≤ w 7 ∧ w 7 ≤ 6) : V_184 m w = -1 ∨ (0 ≤ V_184 m w ∧ V_184 m w < w 7) := by
  have := V184_lo (m := m) (w := w) (6 - 0 : Int).toNat 0 (by omega) (by omega)
  unfold V_184
  omega
theorem V183_rng {m : Int} {w : Row} (h : 0 ≤ w 8 ∧ w 8 ≤ 16) : V_183 m w = -1 ∨ (0 ≤ V_183 m w ∧ V_183 m w < w 8) := by
  have := V183_lo (m := m) (w := w) (16 - 0 : Int).toNat 0 (by omega) (by omega)
  unfold V_183
  omega
-- a new office, while nobody has a ticket
def GZ (w : Row) : Prop := ∀ o, w 7 ≤ o → o < 6 → w (12 + 68 * o + 5) = 0 ∧ w (12 + 68 * o + 6) = 0
theorem addO {s c a1 a2 a3 : Int} {d : mD} {w : Row} (hg : GG w) (hz : GZ w) (h : Rel s d w) (h7 : w 7 < 6) (h9 : w 9 = 0) (h10 : w 10 = 0) (hc : okN c) (b1 : 1 ≤ a1 ∧ a1 ≤ 4) (b2 : 1 ≤ a2 ∧ a2 ≤ 6) (b3 : 1 ≤ a3 ∧ a3 ≤ 20) : GG (W_181 (nm c) a1 a2 a3 w) ∧ GZ (W_181 (nm c) a1 a2 a3 w) ∧ Rel s (g_35 (s + 2) c a1 a2 a3 d) (W_181 (nm c) a1 a2 a3 w) ∧ W_181 (nm c) a1 a2 a3 w 7 = w 7 + 1 ∧ ∀ i, ¬ i = 7 → ¬ (12 ≤ i ∧ i < 420) → W_181 (nm c) a1 a2 a3 w i = w i := by
  obtain ⟨hN, hO, hQ, hT, hC, hK, hR⟩ := id hg
  obtain ⟨n7, n8, n9, n10, n11, n0, n1, n2, n3, n4, n5, n6⟩ := id hN
  obtain ⟨rA, ⟨o1, o2⟩, rQ, rP, rT, rC, rK, rR, rB, rH⟩ := h
  have h11 : w 11 = 0 := by
    have := hR.1
    rw [h10] at this
    exact this
  generalize hw' : W_181 (nm c) a1 a2 a3 w = w'
  have e7 : w' 7 = w 7 + 1 := by
    rw [← hw']
    unfold W_181
    simp (disch := omega) only [wse, wsn]
  have p0 : w' (12 + 68 * w 7 + 0) = nm c := by
    rw [← hw']
    unfold W_181
    simp (disch := omega) only [wse, wsn]
  have p1 : w' (12 + 68 * w 7 + 1) = a1 := by
    rw [← hw']
    unfold W_181
    simp (disch := omega) only [wse, wsn]
  have p2 : w' (12 + 68 * w 7 + 2) = a2 := by
    rw [← hw']
    unfold W_181
    simp (disch := omega) only [wse, wsn]
  have p3 : w' (12 + 68 * w 7 + 3) = a3 := by
    rw [← hw']
    unfold W_181
    simp (disch := omega) only [wse, wsn]
  have p4 : w' (12 + 68 * w 7 + 4) = 1 := by
    rw [← hw']
    unfold W_181
    simp (disch := omega) only [wse, wsn]
  have e : ∀ i, ¬ i = 7 → ¬ (12 + 68 * w 7 + 0 ≤ i ∧ i ≤ 12 + 68 * w 7 + 4) → w' i = w i := fun i x y => by
    rw [← hw']
    unfold W_181
    simp (disch := omega) only [wsn]
  have z5 : w' (12 + 68 * w 7 + 5) = 0 := by rw [e _ (by omega) (by omega)]; exact (hz (w 7) (by omega) h7).1
  have z6 : w' (12 + 68 * w 7 + 6) = 0 := by rw [e _ (by omega) (by omega)]; exact (hz (w 7) (by omega) h7).2
  generalize hd : g_35 (s + 2) c a1 a2 a3 d = d'
  have ed : d' = mset (mset (mset (mset (mset (mset (mset d (s + 3) (w 7) c) (s + 4) (w 7) a1) (s + 5) (w 7) a2) (s + 6) (w 7) a3) (s + 7) (w 7) 1) (s + 8) (w 7) 0) (s + 2) 0 (w 7 + 1) := by
    rw [← hd]
    unfold g_35
    rw [o1, if_pos h7]
    simp only [show s + 2 + 1 = s + 3 by omega, show s + 2 + 2 = s + 4 by omega, show s + 2 + 3 = s + 5 by omega, show s + 2 + 4 = s + 6 by omega, show s + 2 + 5 = s + 7 by omega, show s + 2 + 6 = s + 8 by omega]
  have fd : ∀ b, ¬ (s + 2 ≤ b ∧ b ≤ s + 8) → d' b = d b := fun b x => by
    rw [ed]
    funext j
    simp (disch := omega) only [ms_a]
  have fe : ∀ b j, s + 3 ≤ b → b ≤ s + 8 → ¬ j = w 7 → d' b j = d b j := fun b j x y z => by
    rw [ed]
    simp (disch := omega) only [ms_a, ms_i]
  have h9' : w' 9 = 0 := by rw [e 9 (by omega) (by omega)]; exact h9
  have h10' : w' 10 = 0 := by rw [e 10 (by omega) (by omega)]; exact h10
  have h11' : w' 11 = 0 := by rw [e 11 (by omega) (by omega)]; exact h11
  refine ⟨⟨?_, fun o x y => ?_, fun o x y k u v => ?_, fun t x y => absurd y (by omega), fun t x y => absurd y (by omega), fun k x y => absurd y (by omega), ?_, fun k x y => absurd y (by omega)⟩, fun o x y => ?_, ⟨rA.k (fun b x => fd b (by omega)) (fun i hi => e i (by omega) (by omega)), ⟨?_, fun o x y => ?_⟩, fun o x y k u v => ?_, rP.k (fun b x y => fd b (by omega)) (fun i hi => e i (by omega) (by omega)) n8, rT.k (fun b x y => fd b (by omega)) (fun i hi => e i (by omega) (by omega)) n9, rC.k (fun b x => fd b (by omega)) (fun i hi => e i (by omega) (by omega)) n9, rK.k (by rw [fd _ (by omega)]) (fun b x y => fd b (by omega)) (fun i hi => e i (by omega) (by omega)) n10, rR.k (by rw [fd _ (by omega)]) (fd _ (by omega)) (fun i hi => e i (by omega) (by omega)) n11, rB.k (fun b x y => fd b (by omega)) (fun i hi => e i (by omega) (by omega)) n8 n9 n10 hK.of, rH.k (fun b x y => fd b (by omega)) (fun i hi => e i (by omega) (by omega)) n8 n9 n10 hK.of⟩, e7, fun i x y => e i x (by omega)⟩
  · unfold GN
    rw [e7, e 0 (by omega) (by omega), e 1 (by omega) (by omega), e 2 (by omega) (by omega), e 3 (by omega) (by omega), e 4 (by omega) (by omega), e 5 (by omega) (by omega), e 6 (by omega) (by omega), e 8 (by omega) (by omega), h9', h10', h11']
    omega
  · rw [h9']
    rw [e7] at y
    by_cases q : o = w 7
    · rw [q, p1, p2, p3, p4, z5, z6]
      exact ⟨b1, b2, b3, Or.inr rfl, by omega, fun _ => rfl, rfl⟩
    · have g := hO o x (by omega)
      rw [h9] at g
      rw [e (12 + 68 * o + 1) (by omega) (by omega), e (12 + 68 * o + 2) (by omega) (by omega), e (12 + 68 * o + 3) (by omega) (by omega), e (12 + 68 * o + 4) (by omega) (by omega), e (12 + 68 * o + 5) (by omega) (by omega), e (12 + 68 * o + 6) (by omega) (by omega)]
      exact g
  · rw [e7] at y
    by_cases q : o = w 7
    · rw [q, z5] at v; omega
    · rw [e _ (by omega) (by omega)] at v
      have := (hQ o x (by omega) k u v).1
      omega
  · rw [h11', h10']; rfl
  · rw [e7] at x
    rw [e _ (by omega) (by omega), e _ (by omega) (by omega)]
    exact hz o (by omega) y
  · rw [ed, e7, ms_e rfl rfl]
  · rw [e7] at y
    by_cases q : o = w 7
    · rw [q, p0, p1, p2, p3, p4, z5, ed]
      simp (disch := omega) only [ms_a, ms_e]
      exact ⟨⟨hc, trivial⟩, trivial, trivial, trivial, trivial, trivial⟩
    · rw [e (12 + 68 * o + 0) (by omega) (by omega), e (12 + 68 * o + 1) (by omega) (by omega), e (12 + 68 * o + 2) (by omega) (by omega), e (12 + 68 * o + 3) (by omega) (by omega), e (12 + 68 * o + 4) (by omega) (by omega), e (12 + 68 * o + 5) (by omega) (by omega), fe (s + 3) o (by omega) (by omega) q, fe (s + 4) o (by omega) (by omega) q, fe (s + 5) o (by omega) (by omega) q, fe (s + 6) o (by omega) (by omega) q, fe (s + 7) o (by omega) (by omega) q, fe (s + 8) o (by omega) (by omega) q]
      exact o2 o x (by omega)
  · rw [e7] at y
    by_cases q : o = w 7
    · rw [q, z5] at v; omega
    · rw [e _ (by omega) (by omega)] at v
      have := (hQ o x (by omega) k u v).1
      omega
/-! ===== sorted queues: two enumerations of one set, the first of each person ===== -/
def incS (κ q : Int → Int) (m : Int) : Prop := ∀ i k, 0 ≤ i → i < k → k < m → κ (q i) < κ (q k)
def memS (q : Int → Int) (m t : Int) : Prop := ∃ k, 0 ≤ k ∧ k < m ∧ q k = t
theorem incS.pt {κ f g : Int → Int} {m n : Int} (hf : incS κ f m) (hg : incS κ g n) (h : ∀ t, memS f m t ↔ memS g n t) : ∀ (N : Nat) (k : Int), 0 ≤ k → k < N → k < m → k < n ∧ f k = g k := by
  intro N
  induction N with
  | zero => intro k a b; omega
  | succ N ih =>
    intro k a b c
    by_cases q : k < N
    · exact ih k a q c
    · obtain ⟨l, l0, l1, l2⟩ := (h (f k)).1 ⟨k, a, c, rfl⟩
      have hl : k ≤ l := by
        by_cases z : l < k
        · have e := (ih l l0 (by omega) (by omega)).2
          have y := hf l k l0 z c
          rw [e, l2] at y
          omega
        · omega
      have kn : k < n := by omega
      refine ⟨kn, ?_⟩
      by_cases z : l = k
      · rw [z] at l2
        exact l2.symm
      · exfalso
        obtain ⟨i, i0, i1, i2⟩ := (h (g k)).2 ⟨k, a, kn, rfl⟩
        have y1 := hg k l a (by omega) l1
        rw [l2, ← i2] at y1
        by_cases zz : i < k
        · have e := (ih i i0 (by omega) i1).2
          have y2 := hg i k i0 zz kn
          rw [← e, i2] at y2
          omega
        · by_cases z3 : i = k
          · rw [z3] at y1; omega
          · have y3 := hf k i a (by omega) i1
            omega
theorem incS.ext {κ f g : Int → Int} {m n : Int} (hf : incS κ f m) (hg : incS κ g n) (h : ∀ t, memS f m t ↔ memS g n t) (hm : 0 ≤ m) (hn : 0 ≤ n) : m = n ∧ ∀ k, 0 ≤ k → k < m → f k = g k := by
  have a : m ≤ n := by
    by_cases z : m = 0
    · omega
    · have := (hf.pt hg h m.toNat (m - 1) (by omega) (by omega) (by omega)).1
      omega
  have b : n ≤ m := by
    by_cases z : n = 0
    · omega
    · have := (hg.pt hf (fun t => (h t).symm) n.toNat (n - 1) (by omega) (by omega) (by omega)).1
      omega
  exact ⟨by omega, fun k x y => (hf.pt hg h m.toNat k x (by omega) y).2⟩
theorem incS.inj {κ q : Int → Int} {m i k : Int} (h : incS κ q m) (i0 : 0 ≤ i) (i1 : i < m) (k0 : 0 ≤ k) (k1 : k < m) (e : q i = q k) : i = k := by
  by_cases a : i < k
  · have := h i k i0 a k1
    rw [e] at this
    omega
  · by_cases b : k < i
    · have := h k i k0 b i1
      rw [e] at this
      omega
    · omega
theorem incS.ins {κ q q' : Int → Int} {m pos t : Int} (h : incS κ q m) (p : 0 ≤ pos ∧ pos ≤ m) (e1 : ∀ k, 0 ≤ k → k < pos → q' k = q k) (e2 : q' pos = t) (e3 : ∀ k, pos < k → k ≤ m → q' k = q (k - 1)) (lo : ∀ k, 0 ≤ k → k < pos → κ (q k) < κ t) (hi : ∀ k, pos ≤ k → k < m → κ t < κ (q k)) : incS κ q' (m + 1) ∧ ∀ x, memS q' (m + 1) x ↔ (x = t ∨ memS q m x) := by
  refine ⟨fun i k a b c => ?_, fun x => ⟨?_, ?_⟩⟩
  · by_cases z1 : k < pos
    · rw [e1 i a (by omega), e1 k (by omega) z1]
      exact h i k a b (by omega)
    · by_cases z2 : k = pos
      · rw [e1 i a (by omega), z2, e2]
        exact lo i a (by omega)
      · rw [e3 k (by omega) (by omega)]
        by_cases z3 : i < pos
        · rw [e1 i a z3]
          exact h i (k - 1) a (by omega) (by omega)
        · by_cases z4 : i = pos
          · rw [z4, e2]
            exact hi (k - 1) (by omega) (by omega)
          · rw [e3 i (by omega) (by omega)]
            exact h (i - 1) (k - 1) (by omega) (by omega) (by omega)
  · rintro ⟨k, a, b, c⟩
    by_cases z1 : k < pos
    · rw [e1 k a z1] at c
      exact Or.inr ⟨k, a, by omega, c⟩
    · by_cases z2 : k = pos
      · rw [z2, e2] at c
        exact Or.inl c.symm
      · rw [e3 k (by omega) (by omega)] at c
        exact Or.inr ⟨k - 1, by omega, by omega, c⟩
  · rintro (c | ⟨k, a, b, c⟩)
    · exact ⟨pos, p.1, by omega, by rw [e2, c]⟩
    · by_cases z1 : k < pos
      · exact ⟨k, a, by omega, by rw [e1 k a z1]; exact c⟩
      · exact ⟨k + 1, by omega, by omega, by rw [e3 (k + 1) (by omega) (by omega), show k + 1 - 1 = k by omega]; exact c⟩
theorem incS.rem {κ q q' : Int → Int} {m pos : Int} (h : incS κ q m) (p : 0 ≤ pos ∧ pos < m) (e1 : ∀ k, 0 ≤ k → k < pos → q' k = q k) (e2 : ∀ k, pos ≤ k → k < m - 1 → q' k = q (k + 1)) : incS κ q' (m - 1) ∧ ∀ x, memS q' (m - 1) x ↔ (memS q m x ∧ ¬ x = q pos) := by
  refine ⟨fun i k a b c => ?_, fun x => ⟨?_, ?_⟩⟩
  · by_cases z1 : k < pos
    · rw [e1 i a (by omega), e1 k (by omega) z1]
      exact h i k a b (by omega)
    · rw [e2 k (by omega) (by omega)]
      by_cases z3 : i < pos
      · rw [e1 i a z3]
        exact h i (k + 1) a (by omega) (by omega)
      · rw [e2 i (by omega) (by omega)]
        exact h (i + 1) (k + 1) (by omega) (by omega) (by omega)
  · rintro ⟨k, a, b, c⟩
    by_cases z1 : k < pos
    · rw [e1 k a z1] at c
      refine ⟨⟨k, a, by omega, c⟩, fun z => ?_⟩
      have := h.inj a (by omega) p.1 p.2 (c.trans z)
      omega
    · rw [e2 k (by omega) (by omega)] at c
      refine ⟨⟨k + 1, by omega, by omega, c⟩, fun z => ?_⟩
      have := h.inj (i := k + 1) (by omega) (by omega) p.1 p.2 (c.trans z)
      omega
  · rintro ⟨⟨k, a, b, c⟩, n⟩
    by_cases z1 : k < pos
    · exact ⟨k, a, by omega, by rw [e1 k a z1]; exact c⟩
    · by_cases z2 : k = pos
      · rw [z2] at c
        exact absurd c.symm n
      · exact ⟨k - 1, by omega, by omega, by rw [e2 (k - 1) (by omega) (by omega), show k - 1 + 1 = k by omega]; exact c⟩
-- the first of each person among the first n
def inU (U : Int → Int) (n t : Int) : Prop := ∃ i, 0 ≤ i ∧ i < n ∧ U i = t
def bestS (κ p U : Int → Int) (n t : Int) : Prop := inU U n t ∧ ∀ x, inU U n x → p x = p t → κ t ≤ κ x
theorem inU_succ {U : Int → Int} {n x : Int} (hn : 0 ≤ n) : inU U (n + 1) x ↔ (inU U n x ∨ x = U n) := by
  constructor
  · rintro ⟨i, a, b, c⟩
    by_cases z : i = n
    · rw [z] at c; exact Or.inr c.symm
    · exact Or.inl ⟨i, a, by omega, c⟩
  · rintro (⟨i, a, b, c⟩ | c)
    · exact ⟨i, a, by omega, c⟩
    · exact ⟨n, hn, by omega, c.symm⟩
theorem minU {κ p U : Int → Int} {c : Int} : ∀ (n : Nat), (∃ x, inU U n x ∧ p x = c) → ∃ y, inU U n y ∧ p y = c ∧ ∀ x, inU U n x → p x = c → κ y ≤ κ x := by
  intro n
  induction n with
  | zero => rintro ⟨x, ⟨i, a, b, -⟩, -⟩; omega
  | succ n ih =>
    intro h
    have e : ∀ x, inU U ((n + 1 : Nat) : Int) x ↔ (inU U n x ∨ x = U n) := fun x => by
      rw [show ((n + 1 : Nat) : Int) = (n : Int) + 1 by omega]
      exact inU_succ (by omega)
    by_cases q : ∃ x, inU U n x ∧ p x = c
    · obtain ⟨y, y1, y2, y3⟩ := ih q
      by_cases z : p (U n) = c ∧ κ (U n) < κ y
      · refine ⟨U n, (e _).2 (Or.inr rfl), z.1, fun x a b => ?_⟩
        rcases (e x).1 a with a | a
        · have := y3 x a b; omega
        · rw [a]; omega
      · refine ⟨y, (e _).2 (Or.inl y1), y2, fun x a b => ?_⟩
        rcases (e x).1 a with a | a
        · exact y3 x a b
        · rw [a] at b ⊢
          by_cases zz : κ (U n) < κ y
          · exact absurd ⟨b, zz⟩ z
          · omega
    · obtain ⟨x, x1, x2⟩ := h
      rcases (e x).1 x1 with a | a
      · exact absurd ⟨x, a, x2⟩ q
      · refine ⟨x, x1, x2, fun z z1 z2 => ?_⟩
        rcases (e z).1 z1 with b | b
        · exact absurd ⟨z, b, z2⟩ q
        · rw [a, b]; omega
theorem bestS.ex {κ p U : Int → Int} {n x : Int} (h : inU U n x) : ∃ y, bestS κ p U n y ∧ p y = p x ∧ κ y ≤ κ x := by
  have hn : ((n.toNat : Nat) : Int) = n := by
    obtain ⟨i, a, b, -⟩ := h
    omega
  have := minU (κ := κ) (p := p) (U := U) (c := p x) n.toNat
  rw [hn] at this
  obtain ⟨y, a, b, c⟩ := this ⟨x, h, rfl⟩
  exact ⟨y, ⟨a, fun z z1 z2 => c z z1 (z2.trans b)⟩, b, c x h rfl⟩
theorem bestStep {κ p U : Int → Int} {n : Int} (hn : 0 ≤ n) (hk : ∀ x, inU U n x → ¬ κ x = κ (U n)) (y : Int) : bestS κ p U (n + 1) y ↔ ((bestS κ p U n y ∧ (p y = p (U n) → κ y < κ (U n))) ∨ (y = U n ∧ ∀ x, bestS κ p U n x → p x = p (U n) → κ (U n) < κ x)) := by
  constructor
  · rintro ⟨a, b⟩
    rcases (inU_succ hn).1 a with a | a
    · refine Or.inl ⟨⟨a, fun x x1 x2 => b x ((inU_succ hn).2 (Or.inl x1)) x2⟩, fun z => ?_⟩
      have z1 := b (U n) ((inU_succ hn).2 (Or.inr rfl)) z.symm
      have z2 := hk y a
      omega
    · refine Or.inr ⟨a, fun x x1 x2 => ?_⟩
      have z1 := b x ((inU_succ hn).2 (Or.inl x1.1)) (by rw [a]; exact x2)
      have z2 := hk x x1.1
      rw [a] at z1
      omega
  · rintro (⟨⟨a, b⟩, c⟩ | ⟨a, b⟩)
    · refine ⟨(inU_succ hn).2 (Or.inl a), fun x x1 x2 => ?_⟩
      rcases (inU_succ hn).1 x1 with x1 | x1
      · exact b x x1 x2
      · rw [x1] at x2 ⊢
        have := c x2.symm
        omega
    · refine ⟨(inU_succ hn).2 (Or.inr a), fun x x1 x2 => ?_⟩
      rw [a] at x2 ⊢
      rcases (inU_succ hn).1 x1 with x1 | x1
      · obtain ⟨z, z1, z2, z3⟩ := bestS.ex (κ := κ) (p := p) x1
        have := b z z1 (z2.trans x2)
        omega
      · rw [x1]; omega
-- a step of the class: nobody of that person yet, or the one that stands ahead stays, or the one behind goes
theorem stNone {κ p U q q' : Int → Int} {n m : Int} (hn : 0 ≤ n) (hk : ∀ x, inU U n x → ¬ κ x = κ (U n)) (h : incS κ q m) (hb : ∀ x, memS q m x ↔ bestS κ p U n x) (hi : incS κ q' (m + 1) ∧ ∀ x, memS q' (m + 1) x ↔ (x = U n ∨ memS q m x)) (no : ∀ k, 0 ≤ k → k < m → ¬ p (q k) = p (U n)) : (∀ x, memS q' (m + 1) x ↔ bestS κ p U (n + 1) x) ∧ ∀ x, (inU U (n + 1) x ∧ ¬ bestS κ p U (n + 1) x) ↔ (inU U n x ∧ ¬ bestS κ p U n x) := by
  have nb : ∀ x, bestS κ p U n x → ¬ p x = p (U n) := fun x a b => by
    obtain ⟨k, k0, k1, k2⟩ := (hb x).2 a
    exact no k k0 k1 (by rw [k2]; exact b)
  have eb : ∀ x, bestS κ p U (n + 1) x ↔ (x = U n ∨ bestS κ p U n x) := fun x => by
    rw [bestStep hn hk]
    constructor
    · rintro (a | a)
      · exact Or.inr a.1
      · exact Or.inl a.1
    · rintro (a | a)
      · exact Or.inr ⟨a, fun z z1 z2 => absurd z2 (nb z z1)⟩
      · exact Or.inl ⟨a, fun z => absurd z (nb x a)⟩
  refine ⟨fun x => by rw [hi.2, hb, eb], fun x => ?_⟩
  rw [eb, inU_succ hn]
  constructor
  · rintro ⟨a | a, b⟩
    · exact ⟨a, fun z => b (Or.inr z)⟩
    · exact absurd (Or.inl a) b
  · rintro ⟨a, b⟩
    refine ⟨Or.inl a, ?_⟩
    rintro (z | z)
    · exact hk x a (by rw [z])
    · exact b z
theorem stKeep {κ p U q : Int → Int} {n m tw : Int} (hn : 0 ≤ n) (hk : ∀ x, inU U n x → ¬ κ x = κ (U n)) (h : incS κ q m) (hb : ∀ x, memS q m x ↔ bestS κ p U n x) (htw : 0 ≤ tw ∧ tw < m) (hp : p (q tw) = p (U n)) (hl : κ (q tw) < κ (U n)) : (∀ x, memS q m x ↔ bestS κ p U (n + 1) x) ∧ ∀ x, (inU U (n + 1) x ∧ ¬ bestS κ p U (n + 1) x) ↔ ((inU U n x ∧ ¬ bestS κ p U n x) ∨ x = U n) := by
  have bt : bestS κ p U n (q tw) := (hb _).1 ⟨tw, htw.1, htw.2, rfl⟩
  have eb : ∀ x, bestS κ p U (n + 1) x ↔ bestS κ p U n x := fun x => by
    rw [bestStep hn hk]
    constructor
    · rintro (a | a)
      · exact a.1
      · have := a.2 _ bt hp
        omega
    · intro a
      refine Or.inl ⟨a, fun z => ?_⟩
      have := a.2 _ bt.1 (by rw [hp, z])
      omega
  refine ⟨fun x => by rw [hb, eb], fun x => ?_⟩
  rw [eb, inU_succ hn]
  constructor
  · rintro ⟨a | a, b⟩
    · exact Or.inl ⟨a, b⟩
    · exact Or.inr a
  · rintro (⟨a, b⟩ | a)
    · exact ⟨Or.inl a, b⟩
    · exact ⟨Or.inr a, fun z => hk x z.1 (by rw [a])⟩
theorem stSwap {κ p U q q1 q' : Int → Int} {n m tw : Int} (hn : 0 ≤ n) (hk : ∀ x, inU U n x → ¬ κ x = κ (U n)) (h : incS κ q m) (hb : ∀ x, memS q m x ↔ bestS κ p U n x) (htw : 0 ≤ tw ∧ tw < m) (hp : p (q tw) = p (U n)) (hl : κ (U n) < κ (q tw)) (hr : ∀ x, memS q1 (m - 1) x ↔ (memS q m x ∧ ¬ x = q tw)) (hi : ∀ x, memS q' (m - 1 + 1) x ↔ (x = U n ∨ memS q1 (m - 1) x)) : (∀ x, memS q' m x ↔ bestS κ p U (n + 1) x) ∧ ∀ x, (inU U (n + 1) x ∧ ¬ bestS κ p U (n + 1) x) ↔ ((inU U n x ∧ ¬ bestS κ p U n x) ∨ x = q tw) := by
  have bt : bestS κ p U n (q tw) := (hb _).1 ⟨tw, htw.1, htw.2, rfl⟩
  have un : ∀ x, bestS κ p U n x → p x = p (U n) → x = q tw := fun x a b => by
    obtain ⟨k, k0, k1, k2⟩ := (hb x).2 a
    have e1 := a.2 _ bt.1 (by rw [hp, b])
    have e2 := bt.2 _ a.1 (by rw [hp, b])
    by_cases z : k = tw
    · rw [← k2, z]
    · exfalso
      by_cases zz : k < tw
      · have := h k tw k0 zz htw.2
        rw [k2] at this; omega
      · have := h tw k htw.1 (by omega) k1
        rw [k2] at this; omega
  have eb : ∀ x, bestS κ p U (n + 1) x ↔ (x = U n ∨ (bestS κ p U n x ∧ ¬ x = q tw)) := fun x => by
    rw [bestStep hn hk]
    constructor
    · rintro (a | a)
      · refine Or.inr ⟨a.1, fun z => ?_⟩
        have := a.2 (by rw [z]; exact hp)
        rw [z] at this
        omega
      · exact Or.inl a.1
    · rintro (a | a)
      · refine Or.inr ⟨a, fun z z1 z2 => ?_⟩
        rw [un z z1 z2]; exact hl
      · exact Or.inl ⟨a.1, fun z => absurd (un x a.1 z) a.2⟩
  refine ⟨fun x => ?_, fun x => ?_⟩
  · have := hi x
    rw [show m - 1 + 1 = m by omega] at this
    rw [this, hr, hb, eb]
  · rw [eb, inU_succ hn]
    constructor
    · rintro ⟨a | a, b⟩
      · by_cases z : x = q tw
        · exact Or.inr z
        · exact Or.inl ⟨a, fun y => b (Or.inr ⟨y, z⟩)⟩
      · exact absurd (Or.inl a) b
    · rintro (⟨a, b⟩ | a)
      · refine ⟨Or.inl a, ?_⟩
        rintro (z | z)
        · exact hk x a (by rw [z])
        · exact b z.1
      · refine ⟨Or.inl (by rw [a]; exact bt.1), ?_⟩
        rintro (z | z)
        · exact hk (q tw) bt.1 (by rw [← a, z])
        · exact z.2 a
/-! ===== merge, the class: ticket by ticket ===== -/
def PutD (s o p t : Int) (d d' : mD) : Prop := (∀ b, ¬ b = s + 8 → ¬ b = s + 9 → d' b = d b) ∧ (∀ j, ¬ j = o → d' (s + 8) j = d (s + 8) j) ∧ d' (s + 8) o = d (s + 8) o + 1 ∧ d' (s + 9) (o * 16 + p) = t ∧ (∀ k, p < k → k ≤ d (s + 8) o → d' (s + 9) (o * 16 + k) = d (s + 9) (o * 16 + k - 1)) ∧ ∀ j, ¬ (o * 16 + p ≤ j ∧ j ≤ o * 16 + d (s + 8) o) → d' (s + 9) j = d (s + 9) j
theorem lp40 {x0 o p t : Int} : ∀ (n : Nat) (x : Int) (d : mD), p ≤ x → x - p ≤ (n : Int) → (∀ b, ¬ b = x0 + 6 → ¬ b = x0 + 7 → lp_40_40 x0 o p t n (o * 16) x d b = d b) ∧ (∀ j, ¬ j = o → lp_40_40 x0 o p t n (o * 16) x d (x0 + 6) j = d (x0 + 6) j) ∧ lp_40_40 x0 o p t n (o * 16) x d (x0 + 6) o = d (x0 + 6) o + 1 ∧ lp_40_40 x0 o p t n (o * 16) x d (x0 + 7) (o * 16 + p) = t ∧ (∀ k, p < k → k ≤ x → lp_40_40 x0 o p t n (o * 16) x d (x0 + 7) (o * 16 + k) = d (x0 + 7) (o * 16 + k - 1)) ∧ ∀ j, ¬ (o * 16 + p ≤ j ∧ j ≤ o * 16 + x) → lp_40_40 x0 o p t n (o * 16) x d (x0 + 7) j = d (x0 + 7) j := by
  have base : ∀ (r : Int → Int → mD → mD) (x : Int) (d : mD), p ≤ x → ¬ p < x → st_40_40 x0 o p t r (o * 16) x d = mset (mset d (x0 + 7) (o * 16 + p) t) (x0 + 6) o (d (x0 + 6) o + 1) := fun r x d a b => by
    unfold st_40_40
    rw [if_neg b]
  have fin : ∀ (x : Int) (d d' : mD), p ≤ x → ¬ p < x → d' = mset (mset d (x0 + 7) (o * 16 + p) t) (x0 + 6) o (d (x0 + 6) o + 1) → (∀ b, ¬ b = x0 + 6 → ¬ b = x0 + 7 → d' b = d b) ∧ (∀ j, ¬ j = o → d' (x0 + 6) j = d (x0 + 6) j) ∧ d' (x0 + 6) o = d (x0 + 6) o + 1 ∧ d' (x0 + 7) (o * 16 + p) = t ∧ (∀ k, p < k → k ≤ x → d' (x0 + 7) (o * 16 + k) = d (x0 + 7) (o * 16 + k - 1)) ∧ ∀ j, ¬ (o * 16 + p ≤ j ∧ j ≤ o * 16 + x) → d' (x0 + 7) j = d (x0 + 7) j := fun x d d' a b e => by
    rw [e]
    refine ⟨fun c x y => by funext j; rw [ms_a x, ms_a y], fun j x => by rw [ms_i x, ms_a (by omega)], ms_e rfl rfl, by rw [ms_a (by omega), ms_e rfl rfl], fun k x y => by omega, fun j x => by rw [ms_a (by omega), ms_i (by omega)]⟩
  intro n
  induction n with
  | zero => intro x d a b; exact fin x d _ a (by omega) (base _ x d a (by omega))
  | succ n ih =>
    intro x d a b
    by_cases hc : p < x
    · have e : lp_40_40 x0 o p t (n + 1) (o * 16) x d = lp_40_40 x0 o p t n (o * 16) (x + -1) (mset d (x0 + 7) (o * 16 + x) (d (x0 + 7) (o * 16 + x - 1))) := by
        show st_40_40 x0 o p t _ (o * 16) x d = _
        unfold st_40_40
        rw [if_pos hc]
      rw [e]
      obtain ⟨i1, i2, i3, i4, i5, i6⟩ := ih (x + -1) (mset d (x0 + 7) (o * 16 + x) (d (x0 + 7) (o * 16 + x - 1))) (by omega) (by omega)
      have e6 : ∀ j, mset d (x0 + 7) (o * 16 + x) (d (x0 + 7) (o * 16 + x - 1)) (x0 + 6) j = d (x0 + 6) j := fun j => ms_a (by omega)
      refine ⟨fun c y z => by rw [i1 c y z]; funext j; exact ms_a z, fun j y => by rw [i2 j y, e6], by rw [i3, e6], i4, fun k y z => ?_, fun j y => by rw [i6 j (by omega), ms_i (by omega)]⟩
      by_cases q : k = x
      · rw [q, i6 _ (by omega), ms_e rfl rfl]
      · rw [i5 k y (by omega), ms_i (by omega)]
    · exact fin x d _ a hc (base _ x d a hc)
theorem put40 {s o p t : Int} {d : mD} (hp : 0 ≤ p ∧ p ≤ d (s + 8) o) (hl : d (s + 8) o < 16) : PutD s o p t d (g_40 (s + 2) o p t d) := by
  unfold g_40
  have e8 : s + 2 + 6 = s + 8 := by omega
  have e9 : s + 2 + 7 = s + 9 := by omega
  rw [if_neg (by omega), e8, if_neg (by omega), if_pos hl]
  obtain ⟨i1, i2, i3, i4, i5, i6⟩ := lp40 (x0 := s + 2) (o := o) (p := p) (t := t) (d (s + 8) o).toNat (d (s + 8) o) d hp.2 (by omega)
  rw [e8] at i1 i2 i3
  rw [e9] at i1 i4 i5 i6
  exact ⟨i1, i2, i3, i4, i5, i6⟩
theorem per62 {s o c m : Int} {d : mD} (hm : d (s + 8) o = m) : ∀ (n : Nat) (x : Int), 0 ≤ x → m ≤ x + n → (lp_62_2 s o c n x d = -1 ∧ ∀ k, x ≤ k → k < m → ¬ d (s + 50) (d (s + 9) (o * 16 + k)) = c) ∨ (x ≤ lp_62_2 s o c n x d ∧ lp_62_2 s o c n x d < m ∧ d (s + 50) (d (s + 9) (o * 16 + lp_62_2 s o c n x d)) = c) := by
  have st : ∀ (r : Int → mD → Int) (x : Int), st_62_2 s o c r x d = if x < m then (if d (s + 50) (d (s + 9) (o * 16 + x)) = c then x else r (x + 1) d) else -1 := fun r x => by
    unfold st_62_2 v_38
    rw [show s + 2 + 6 = s + 8 by omega, show s + 2 + 7 = s + 9 by omega, show s + 49 + 1 = s + 50 by omega, hm]
  intro n
  induction n with
  | zero =>
    intro x a b
    have e : lp_62_2 s o c 0 x d = -1 := by
      show st_62_2 s o c _ x d = _
      rw [st, if_neg (by omega)]
    exact Or.inl ⟨e, fun k x y => by omega⟩
  | succ n ih =>
    intro x a b
    have e : lp_62_2 s o c (n + 1) x d = if x < m then (if d (s + 50) (d (s + 9) (o * 16 + x)) = c then x else lp_62_2 s o c n (x + 1) d) else -1 := by
      show st_62_2 s o c _ x d = _
      rw [st]
    by_cases q : x < m
    · rw [if_pos q] at e
      by_cases z : d (s + 50) (d (s + 9) (o * 16 + x)) = c
      · rw [if_pos z] at e
        exact Or.inr ⟨by omega, by omega, by rw [e]; exact z⟩
      · rw [if_neg z] at e
        rw [e]
        rcases ih (x + 1) (by omega) (by omega) with ⟨i1, i2⟩ | ⟨i1, i2, i3⟩
        · refine Or.inl ⟨i1, fun k y1 y2 => ?_⟩
          by_cases y3 : k = x
          · rw [y3]; exact z
          · exact i2 k (by omega) y2
        · exact Or.inr ⟨by omega, i2, i3⟩
    · rw [if_neg q] at e
      exact Or.inl ⟨e, fun k x y => by omega⟩
theorem pl65 {s o c m : Int} {d : mD} (hm : d (s + 8) o = m) : ∀ (n : Nat) (x : Int), 0 ≤ x → x ≤ m → m ≤ x + n → x ≤ lp_65_2 s o c n x d ∧ lp_65_2 s o c n x d ≤ m ∧ (∀ k, x ≤ k → k < lp_65_2 s o c n x d → ¬ c < d (s + 52) (d (s + 9) (o * 16 + k))) ∧ (lp_65_2 s o c n x d < m → c < d (s + 52) (d (s + 9) (o * 16 + lp_65_2 s o c n x d))) := by
  have st : ∀ (r : Int → mD → Int) (x : Int), st_65_2 s o c r x d = if x < m then (if c < d (s + 52) (d (s + 9) (o * 16 + x)) then x else r (x + 1) d) else x := fun r x => by
    unfold st_65_2 v_38
    rw [show s + 2 + 6 = s + 8 by omega, show s + 2 + 7 = s + 9 by omega, show s + 49 + 3 = s + 52 by omega, hm]
  intro n
  induction n with
  | zero =>
    intro x a a2 b
    have e : lp_65_2 s o c 0 x d = x := by
      show st_65_2 s o c _ x d = _
      rw [st, if_neg (by omega)]
    rw [e]
    exact ⟨by omega, a2, fun k x y => by omega, fun z => by omega⟩
  | succ n ih =>
    intro x a a2 b
    have e : lp_65_2 s o c (n + 1) x d = if x < m then (if c < d (s + 52) (d (s + 9) (o * 16 + x)) then x else lp_65_2 s o c n (x + 1) d) else x := by
      show st_65_2 s o c _ x d = _
      rw [st]
    by_cases q : x < m
    · rw [if_pos q] at e
      by_cases z : c < d (s + 52) (d (s + 9) (o * 16 + x))
      · rw [if_pos z] at e
        rw [e]
        exact ⟨by omega, a2, fun k x y => by omega, fun _ => z⟩
      · rw [if_neg z] at e
        rw [e]
        obtain ⟨i1, i2, i3, i4⟩ := ih (x + 1) (by omega) (by omega) (by omega)
        refine ⟨by omega, i2, fun k y1 y2 => ?_, i4⟩
        by_cases y3 : k = x
        · rw [y3]; exact z
        · exact i3 k (by omega) y2
    · rw [if_neg q] at e
      rw [e]
      exact ⟨by omega, a2, fun k x y => by omega, fun z => by omega⟩
theorem pig16 {f : Int → Int} {m : Int} (hr : ∀ k, 0 ≤ k → k < m → 0 ≤ f k ∧ f k < 16) (hi : ∀ k i, 0 ≤ i → i < k → k < m → ¬ f i = f k) : m ≤ 16 := by
  by_cases z : m ≤ 0
  · omega
  · have e : (((m - 1).toNat : Nat) : Int) = m - 1 := by omega
    have := pigeon (f := f) (L := (m - 1).toNat) (N := 16) (fun k a b => hr k a (by omega)) (fun k i a b c => hi k i a b (by omega)) (p := f (m - 1)) (hr (m - 1) (by omega) (by omega)).1 (hr (m - 1) (by omega) (by omega)).2 (fun k a b => hi (m - 1) k a (by omega) (by omega))
    omega
def MC (κ U p : Int → Int) (s o2 T : Int) (d0 : mD) (n m : Int) (d : mD) : Prop :=
  (∀ b, ¬ b = s + 8 → ¬ b = s + 9 → ¬ b = s + 51 → ¬ b = s + 53 → ¬ b = s + 54 → d b = d0 b)
  ∧ (∀ o, ¬ o = o2 → d (s + 8) o = d0 (s + 8) o) ∧ d (s + 8) o2 = m
  ∧ (∀ i, ¬ (o2 * 16 ≤ i ∧ i < o2 * 16 + 16) → d (s + 9) i = d0 (s + 9) i)
  ∧ 0 ≤ m ∧ incS κ (fun k => d (s + 9) (o2 * 16 + k)) m ∧ (∀ t, memS (fun k => d (s + 9) (o2 * 16 + k)) m t ↔ bestS κ p U n t)
  ∧ (∀ t, (inU U n t → d (s + 51) t = o2) ∧ (¬ inU U n t → d (s + 51) t = d0 (s + 51) t))
  ∧ ∀ t, ((inU U n t ∧ ¬ bestS κ p U n t) → d (s + 53) t = T ∧ d (s + 54) t = 2) ∧ (¬ (inU U n t ∧ ¬ bestS κ p U n t) → d (s + 53) t = d0 (s + 53) t ∧ d (s + 54) t = d0 (s + 54) t)
theorem bestS.one {κ p U : Int → Int} {q : Int → Int} {n m i k : Int} (h : incS κ q m) (hb : ∀ x, memS q m x ↔ bestS κ p U n x) (a : 0 ≤ i) (b : i < k) (c : k < m) : ¬ p (q i) = p (q k) := fun z => by
  have bi := (hb (q i)).1 ⟨i, a, by omega, rfl⟩
  have bk := (hb (q k)).1 ⟨k, by omega, c, rfl⟩
  have := bk.2 _ bi.1 z
  have := h i k a b c
  omega
theorem stepM {κ U p j : Int → Int} {s o2 T n m : Int} {d0 d : mD} (hn : 0 ≤ n) (hk : ∀ x, inU U n x → ¬ κ x = κ (U n) ∧ (κ x < κ (U n) ↔ j x ≤ j (U n))) (hp : ∀ x, inU U (n + 1) x → d0 (s + 50) x = p x ∧ d0 (s + 52) x = j x ∧ 0 ≤ p x ∧ p x < 16) (hT : d0 s 2 = T) (h : MC κ U p s o2 T d0 n m d) : ∃ m', MC κ U p s o2 T d0 (n + 1) m' (g_64 s o2 (U n) d) := by
  obtain ⟨c1, c2, c3, c4, c5, c6, c7, c8, c9⟩ := h
  have hu : ∀ x, inU U n x → inU U (n + 1) x := fun x a => (inU_succ hn).2 (Or.inl a)
  have ht : inU U (n + 1) (U n) := (inU_succ hn).2 (Or.inr rfl)
  have hk1 : ∀ x, inU U n x → ¬ κ x = κ (U n) := fun x a => (hk x a).1
  have f50 : d (s + 50) = d0 (s + 50) := c1 _ (by omega) (by omega) (by omega) (by omega) (by omega)
  have f52 : d (s + 52) = d0 (s + 52) := c1 _ (by omega) (by omega) (by omega) (by omega) (by omega)
  have fs : d s 2 = T := by rw [c1 s (by omega) (by omega) (by omega) (by omega) (by omega)]; exact hT
  have mq : ∀ k, 0 ≤ k → k < m → inU U n (d (s + 9) (o2 * 16 + k)) := fun k a b => ((c7 _).1 ⟨k, a, b, rfl⟩).1
  have pr := hp (U n) ht
  have m16 : m ≤ 16 := pig16 (f := fun k => p (d (s + 9) (o2 * 16 + k))) (fun k a b => (hp _ (hu _ (mq k a b))).2.2) (fun k i a b c => bestS.one (q := fun k => d (s + 9) (o2 * 16 + k)) c6 c7 a b c)
  have eP : d (s + 49 + 1) (U n) = p (U n) := by rw [show s + 49 + 1 = s + 50 by omega, f50]; exact pr.1
  have eJ : d (s + 49 + 3) (U n) = j (U n) := by rw [show s + 49 + 3 = s + 52 by omega, f52]; exact pr.2.1
  have h62 := per62 (c := p (U n)) c3 (16 - 0 : Int).toNat 0 (by omega) (by omega)
  have h65 := pl65 (c := j (U n)) c3 (16 - 0 : Int).toNat 0 (by omega) (by omega) (by omega)
  have e62 : v_62 s o2 (p (U n)) d = lp_62_2 s o2 (p (U n)) (16 - 0 : Int).toNat 0 d := rfl
  have e65 : v_65 s o2 (j (U n)) d = lp_65_2 s o2 (j (U n)) (16 - 0 : Int).toNat 0 d := rfl
  rw [← e62] at h62
  rw [← e65] at h65
  have hg : g_64 s o2 (U n) d = if v_62 s o2 (p (U n)) d = (-1) then g_40 (s + 2) o2 (v_65 s o2 (j (U n)) d) (U n) (mset d (s + 51) (U n) o2) else if v_62 s o2 (p (U n)) d < v_65 s o2 (j (U n)) d then mset (mset (mset d (s + 51) (U n) o2) (s + 54) (U n) 2) (s + 53) (U n) T else g_40 (s + 2) o2 (v_65 s o2 (j (U n)) d) (U n) (g_41 (s + 2) o2 (v_62 s o2 (p (U n)) d) (mset (mset (mset d (s + 51) (U n) o2) (s + 54) (d (s + 9) (o2 * 16 + v_62 s o2 (p (U n)) d)) 2) (s + 53) (d (s + 9) (o2 * 16 + v_62 s o2 (p (U n)) d)) T)) := by
    unfold g_64 g_97
    rw [eP, eJ, fs, show s + 49 + 2 = s + 51 by omega, show s + 49 + 5 = s + 54 by omega, show s + 49 + 4 = s + 53 by omega]
    have e38 : v_38 (s + 2) o2 (v_62 s o2 (p (U n)) d) (mset d (s + 51) (U n) o2) = d (s + 9) (o2 * 16 + v_62 s o2 (p (U n)) d) := by
      unfold v_38
      rw [show s + 2 + 7 = s + 9 by omega, ms_a (by omega)]
    rw [e38]
  rw [hg]
  generalize v_62 s o2 (p (U n)) d = tw at *
  generalize v_65 s o2 (j (U n)) d = pos at *
  obtain ⟨p1, p2, p3, p4⟩ := h65
  have lo : ∀ k, 0 ≤ k → k < pos → κ (d (s + 9) (o2 * 16 + k)) < κ (U n) := fun k a b => by
    have y := p3 k a b
    have z := mq k a (by omega)
    rw [f52, (hp _ (hu _ z)).2.1] at y
    exact ((hk _ z).2).2 (by omega)
  have hi : ∀ k, pos ≤ k → k < m → κ (U n) < κ (d (s + 9) (o2 * 16 + k)) := fun k a b => by
    have y := p4 (by omega)
    have z := mq pos p1 (by omega)
    rw [f52, (hp _ (hu _ z)).2.1] at y
    have y1 := (hk _ z).1
    have y2 : ¬ κ (d (s + 9) (o2 * 16 + pos)) < κ (U n) := fun u => by
      have := ((hk _ z).2).1 u
      omega
    by_cases q : pos = k
    · rw [← q]; omega
    · have := c6 pos k p1 (by omega) b
      have this : κ (d (s + 9) (o2 * 16 + pos)) < κ (d (s + 9) (o2 * 16 + k)) := this
      omega
  have c8' : ∀ (d' : mD), (∀ x, d' (s + 51) x = mset d (s + 51) (U n) o2 (s + 51) x) → ∀ t, (inU U (n + 1) t → d' (s + 51) t = o2) ∧ (¬ inU U (n + 1) t → d' (s + 51) t = d0 (s + 51) t) := fun d' e t => by
    rw [e]
    by_cases z : t = U n
    · rw [z, ms_e rfl rfl]
      exact ⟨fun _ => rfl, fun y => absurd ht y⟩
    · rw [ms_i z, inU_succ hn]
      exact ⟨fun y => (c8 t).1 (y.elim id (fun u => absurd u z)), fun y => (c8 t).2 (fun u => y (Or.inl u))⟩
  by_cases z1 : tw = -1
  · rw [if_pos z1]
    have no : ∀ k, 0 ≤ k → k < m → ¬ p (d (s + 9) (o2 * 16 + k)) = p (U n) := fun k a b => by
      rcases h62 with ⟨-, y⟩ | ⟨y, -⟩
      · have := y k a b
        rw [f50, (hp _ (hu _ (mq k a b))).1] at this
        exact this
      · omega
    have m15 : m < 16 := by
      have e : ((m.toNat : Nat) : Int) = m := by omega
      have := pigeon (f := fun k => p (d (s + 9) (o2 * 16 + k))) (L := m.toNat) (N := 16) (fun k a b => (hp _ (hu _ (mq k a (by omega)))).2.2) (fun k i a b c => bestS.one (q := fun k => d (s + 9) (o2 * 16 + k)) c6 c7 a b (by omega)) (p := p (U n)) pr.2.2.1 pr.2.2.2 (fun k a b => no k a (by omega))
      omega
    have e8 : mset d (s + 51) (U n) o2 (s + 8) o2 = m := by rw [ms_a (by omega)]; exact c3
    obtain ⟨i1, i2, i3, i4, i5, i6⟩ := put40 (s := s) (o := o2) (p := pos) (t := U n) (d := mset d (s + 51) (U n) o2) (by rw [e8]; exact ⟨p1, p2⟩) (by rw [e8]; exact m15)
    generalize g_40 (s + 2) o2 pos (U n) (mset d (s + 51) (U n) o2) = d' at *
    rw [e8] at i3 i5 i6
    have hi' := c6.ins (q' := fun k => d' (s + 9) (o2 * 16 + k)) (t := U n) ⟨p1, p2⟩ (fun k a b => by show d' (s + 9) _ = _; rw [i6 _ (by omega), ms_a (by omega)]) i4 (fun k a b => by show d' (s + 9) _ = _; rw [i5 k a b, ms_a (by omega), show o2 * 16 + k - 1 = o2 * 16 + (k - 1) by omega]) lo hi
    obtain ⟨s1, s2⟩ := stNone hn hk1 c6 c7 hi' no
    refine ⟨m + 1, fun b x1 x2 x3 x4 x5 => ?_, fun o x => ?_, i3, fun i x => ?_, by omega, hi'.1, s1, c8' d' (fun x => by rw [i1 _ (by omega) (by omega)]), fun t => ?_⟩
    · rw [i1 b x1 x2, ← c1 b x1 x2 x3 x4 x5]
      funext k
      exact ms_a x3
    · rw [i2 o x, ms_a (by omega)]; exact c2 o x
    · rw [i6 i (by omega), ms_a (by omega)]; exact c4 i x
    · rw [s2 t, i1 _ (by omega) (by omega), i1 _ (by omega) (by omega), ms_a (by omega), ms_a (by omega)]
      exact c9 t
  · rw [if_neg z1]
    obtain ⟨t1, t2, t3⟩ : 0 ≤ tw ∧ tw < m ∧ d (s + 50) (d (s + 9) (o2 * 16 + tw)) = p (U n) := by
      rcases h62 with ⟨y, -⟩ | ⟨y1, y2, y3⟩
      · exact absurd y z1
      · exact ⟨y1, y2, y3⟩
    rw [f50, (hp _ (hu _ (mq tw t1 t2))).1] at t3
    by_cases z2 : tw < pos
    · rw [if_pos z2]
      obtain ⟨s1, s2⟩ := stKeep hn hk1 c6 c7 ⟨t1, t2⟩ t3 (lo tw t1 z2)
      have e9 : ∀ b, ¬ b = s + 51 → ¬ b = s + 53 → ¬ b = s + 54 → mset (mset (mset d (s + 51) (U n) o2) (s + 54) (U n) 2) (s + 53) (U n) T b = d b := fun b x y z => by
        funext k
        simp (disch := omega) only [ms_a]
      refine ⟨m, fun b x1 x2 x3 x4 x5 => ?_, fun o x => ?_, ?_, fun i x => ?_, c5, ?_, fun t => ?_, c8' _ (fun x => ?_), fun t => ?_⟩
      · rw [e9 b x3 x4 x5]; exact c1 b x1 x2 x3 x4 x5
      · rw [e9 _ (by omega) (by omega) (by omega)]; exact c2 o x
      · rw [e9 _ (by omega) (by omega) (by omega)]; exact c3
      · rw [e9 _ (by omega) (by omega) (by omega)]; exact c4 i x
      · rw [e9 _ (by omega) (by omega) (by omega)]; exact c6
      · rw [e9 _ (by omega) (by omega) (by omega)]; exact s1 t
      · rw [ms_a (by omega), ms_a (by omega)]
      · rw [s2 t]
        by_cases y : t = U n
        · rw [y, ms_e rfl rfl, ms_a (by omega), ms_e rfl rfl]
          exact ⟨fun _ => ⟨rfl, rfl⟩, fun u => absurd (Or.inr rfl) u⟩
        · rw [ms_i y, ms_a (by omega), ms_a (by omega), ms_a (by omega), ms_i y, ms_a (by omega)]
          exact ⟨fun u => (c9 t).1 (u.elim id (fun v => absurd v y)), fun u => (c9 t).2 (fun v => u (Or.inl v))⟩
    · rw [if_neg z2]
      generalize hX : d (s + 9) (o2 * 16 + tw) = X at *
      generalize hd1 : mset (mset (mset d (s + 51) (U n) o2) (s + 54) X 2) (s + 53) X T = d1
      have e9 : ∀ b, ¬ b = s + 51 → ¬ b = s + 53 → ¬ b = s + 54 → d1 b = d b := fun b x y z => by
        rw [← hd1]
        funext k
        simp (disch := omega) only [ms_a]
      have y8 : d1 (s + 8) o2 = m := by rw [e9 _ (by omega) (by omega) (by omega)]; exact c3
      obtain ⟨r1, r2, r3, r4, r5⟩ := take41 (s := s) (o := o2) (p := tw) (d := d1) t1 (by rw [y8]; exact t2) (by rw [y8]; exact m16)
      generalize g_41 (s + 2) o2 tw d1 = d2 at *
      rw [y8] at r3 r4 r5
      rw [e9 (s + 9) (by omega) (by omega) (by omega)] at r4 r5
      rw [e9 (s + 8) (by omega) (by omega) (by omega)] at r2
      obtain ⟨i1, i2, i3, i4, i5, i6⟩ := put40 (s := s) (o := o2) (p := pos) (t := U n) (d := d2) (by rw [r3]; omega) (by rw [r3]; omega)
      generalize g_40 (s + 2) o2 pos (U n) d2 = d' at *
      rw [r3] at i3 i5 i6
      have hr := c6.rem (q' := fun k => d2 (s + 9) (o2 * 16 + k)) ⟨t1, t2⟩ (fun k a b => r5 _ (by omega)) (fun k a b => by show d2 (s + 9) _ = _; rw [r4 k a b, show o2 * 16 + k + 1 = o2 * 16 + (k + 1) by omega])
      have hi' := hr.1.ins (q' := fun k => d' (s + 9) (o2 * 16 + k)) (t := U n) (pos := pos) ⟨p1, by omega⟩ (fun k a b => i6 _ (by omega)) i4 (fun k a b => by show d' (s + 9) _ = _; rw [i5 k a b, show o2 * 16 + k - 1 = o2 * 16 + (k - 1) by omega]) (fun k a b => by
        show κ (d2 (s + 9) (o2 * 16 + k)) < _
        rw [r5 _ (by omega)]
        exact lo k a b) (fun k a b => by
        show _ < κ (d2 (s + 9) (o2 * 16 + k))
        by_cases y : k < tw
        · rw [r5 _ (by omega)]
          exact hi k a (by omega)
        · rw [r4 k (by omega) (by omega), show o2 * 16 + k + 1 = o2 * 16 + (k + 1) by omega]
          exact hi (k + 1) (by omega) (by omega))
      have hl : κ (U n) < κ X := by
        rw [← hX]
        exact hi tw (by omega) t2
      have hr2 := hr.2
      obtain ⟨s1, s2⟩ := stSwap (q := fun k => d (s + 9) (o2 * 16 + k)) (tw := tw) (q1 := fun k => d2 (s + 9) (o2 * 16 + k)) (q' := fun k => d' (s + 9) (o2 * 16 + k)) hn hk1 c6 c7 ⟨t1, t2⟩ (by rw [hX]; exact t3) (by rw [hX]; exact hl) hr2 hi'.2
      rw [hX] at s2
      refine ⟨m, fun b x1 x2 x3 x4 x5 => ?_, fun o x => ?_, by rw [i3]; omega, fun i x => ?_, c5, ?_, s1, c8' d' (fun x => ?_), fun t => ?_⟩
      · rw [i1 b x1 x2, r1 b x1 x2, e9 b x3 x4 x5]; exact c1 b x1 x2 x3 x4 x5
      · rw [i2 o x, r2 o x]; exact c2 o x
      · rw [i6 i (by omega), r5 i (by omega)]; exact c4 i x
      · have := hi'.1
        rw [show m - 1 + 1 = m by omega] at this
        exact this
      · rw [i1 _ (by omega) (by omega), r1 _ (by omega) (by omega), ← hd1, ms_a (by omega), ms_a (by omega)]
      · rw [s2 t, i1 _ (by omega) (by omega), i1 _ (by omega) (by omega), r1 _ (by omega) (by omega), r1 _ (by omega) (by omega), ← hd1]
        by_cases y : t = X
        · rw [y, ms_e rfl rfl, ms_a (by omega), ms_e rfl rfl]
          exact ⟨fun _ => ⟨rfl, rfl⟩, fun u => absurd (Or.inr rfl) u⟩
        · rw [ms_i y, ms_a (by omega), ms_a (by omega), ms_a (by omega), ms_i y, ms_a (by omega)]
          exact ⟨fun u => (c9 t).1 (u.elim id (fun v => absurd v y)), fun u => (c9 t).2 (fun v => u (Or.inl v))⟩
