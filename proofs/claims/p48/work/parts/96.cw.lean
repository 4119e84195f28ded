/-! ===== claims and witnesses ===== -/
-- a ticket's claim is written
theorem setC {s t c v : Int} {d : mD} {w w' : Row} (hg : GG w) (h : Rel s d w) (ht : 0 ≤ t ∧ t < w 9) (hc : c = 0 ∨ c = 1) (hv : v = 0 ∨ v = 1) (h1 : v = 1 → c = 1 ∧ w (452 + 24 * t + 3) ≤ 999) (h2 : c = 1 → w (452 + 24 * t + 4) = 1) (e5 : w' (452 + 24 * t + 5) = c) (e6 : w' (452 + 24 * t + 6) = v) (e : ∀ i, ¬ i = 452 + 24 * t + 5 → ¬ i = 452 + 24 * t + 6 → w' i = w i) : GG w' ∧ Rel s (mset d (s + 55) t (c + v)) w' := by
  obtain ⟨hN, hO, hQ, hT, hC, hK, hR⟩ := id hg
  obtain ⟨n7, n8, n9, n10, n11, n0, n1, n2, n3, n4, n5, n6⟩ := id hN
  obtain ⟨rA, rO, rQ, rP, rT, rC, rK, rR, rB, rH⟩ := h
  have fd : ∀ b, ¬ b = s + 55 → mset d (s + 55) t (c + v) b = d b := fun b x => by
    funext j
    exact ms_a x
  refine ⟨⟨hN.k (fun i hi => e i (by omega) (by omega)), hO.k (fun i hi => e i (by omega) (by omega)) hN, hQ.k (fun i hi => e i (by omega) (by omega)) hN hO, hT.k (fun i hi => e i (by omega) (by omega)) hN hO, ?_, hK.k (fun i hi => e i (by omega) (by omega)) hN, hR.k (fun i hi => e i (by omega) (by omega)) hN⟩, rA.k (fun b x => fd b (by omega)) (fun i hi => e i (by omega) (by omega)), rO.k (fun b x y => fd b (by omega)) (fun i hi => e i (by omega) (by omega)) n7, rQ.k (fd _ (by omega)) (fun i hi => e i (by omega) (by omega)) n7 hO, rP.k (fun b x y => fd b (by omega)) (fun i hi => e i (by omega) (by omega)) n8, rT.k (fun b x y => fd b (by omega)) (fun i hi => e i (by omega) (by omega)) n9, ?_, rK.k (by rw [fd _ (by omega)]) (fun b x y => fd b (by omega)) (fun i hi => e i (by omega) (by omega)) n10, rR.k (by rw [fd _ (by omega)]) (fd _ (by omega)) (fun i hi => e i (by omega) (by omega)) n11, rB.k (fun b x y => fd b (by omega)) (fun i hi => e i (by omega) (by omega)) n8 n9 n10 hK.of, rH.k (fun b x y => fd b (by omega)) (fun i hi => e i (by omega) (by omega)) n8 n9 n10 hK.of⟩
  · intro t' x y
    rw [e 9 (by omega) (by omega)] at y
    have g := hC t' x y
    rw [e (452 + 24 * t' + 3) (by omega) (by omega), e (452 + 24 * t' + 4) (by omega) (by omega), e 0 (by omega) (by omega)]
    have gp : ∀ p, 0 ≤ p → p < 16 → 0 ≤ w' (452 + 24 * t' + 8 + p) ∧ w' (452 + 24 * t' + 8 + p) ≤ w 0 + 1 := fun p a b => by
      rw [e _ (by omega) (by omega)]
      exact g.2.2.2.2 p a b
    by_cases q : t' = t
    · rw [q] at gp ⊢
      rw [e5, e6]
      exact ⟨hc, hv, h1, h2, gp⟩
    · rw [e (452 + 24 * t' + 5) (by omega) (by omega), e (452 + 24 * t' + 6) (by omega) (by omega)]
      exact ⟨g.1, g.2.1, g.2.2.1, g.2.2.2.1, gp⟩
  · intro t' x y
    rw [e 9 (by omega) (by omega)] at y
    obtain ⟨g1, g2, g3, g4⟩ := rC t' x y
    rw [fd (s + 56) (by omega), e (452 + 24 * t' + 7) (by omega) (by omega)]
    refine ⟨?_, by rw [g2]; exact csum_congr (fun p a b => by rw [e (452 + 24 * t' + 8 + p) (by omega) (by omega)]), fun p a b => by rw [e (452 + 24 * t' + 8 + p) (by omega) (by omega)]; exact g3 p a b, g4⟩
    by_cases q : t' = t
    · rw [q, e5, e6, ms_e rfl rfl]
    · rw [e (452 + 24 * t' + 5) (by omega) (by omega), e (452 + 24 * t' + 6) (by omega) (by omega), ms_i q]
      exact g1
theorem canClaim {s t : Int} {d : mD} {w : Row} (hg : GG w) (h : Rel s d w) (ht : 0 ≤ t ∧ t < w 9) : v_73 s t d = V_227 t w ∧ (V_227 t w = 0 ∨ V_227 t w = 1) ∧ (V_227 t w = 1 ↔ w (452 + 24 * t + 4) = 1 ∧ w (452 + 24 * t + 5) = 0) := by
  obtain ⟨-, -, -, -, rT, rC, -⟩ := h
  have gt := (rT.2 t ht.1 ht.2).2.2.2.2
  have gc := (rC t ht.1 ht.2).1
  have g := hg.2.2.2.2.1 t ht.1 ht.2
  unfold v_73 V_227
  rw [show s + 49 + 5 = s + 54 by omega, show s + 49 + 6 = s + 55 by omega, gt, gc]
  by_cases c1 : w (452 + 24 * t + 4) = 1
  · rw [if_pos c1, if_pos c1]
    by_cases c2 : w (452 + 24 * t + 5) = 0
    · have c3 : w (452 + 24 * t + 6) = 0 := by
        rcases g.2.1 with z | z
        · exact z
        · have := (g.2.2.1 z).1
          omega
      rw [if_pos (by omega), if_pos c2]
      exact ⟨rfl, Or.inr rfl, ⟨fun _ => ⟨c1, c2⟩, fun _ => rfl⟩⟩
    · rw [if_neg (by omega), if_neg c2]
      exact ⟨rfl, Or.inl rfl, ⟨fun z => absurd z (by decide), fun z => absurd z.2 c2⟩⟩
  · rw [if_neg c1, if_neg c1]
    exact ⟨rfl, Or.inl rfl, ⟨fun z => absurd z (by decide), fun z => absurd z.1 c1⟩⟩
theorem claim {s t : Int} {d : mD} {w : Row} (hg : GG w) (h : Rel s d w) (ht : 0 ≤ t ∧ t < w 9) (hs : w (452 + 24 * t + 4) = 1) (hc : w (452 + 24 * t + 5) = 0) (h9 : w 0 ≤ 999) : v_74 s t d = V_228 t w ∧ GG (W_228 t w) ∧ Rel s (g_74 s t d) (W_228 t w) ∧ ∀ i, i ≤ 9 → W_228 t w i = w i := by
  have n9 := hg.1.2.2.1
  have n3 := hg.1.2.2.2.2.2.2.2.2.1
  have gt := hg.2.2.2.1 t ht.1 ht.2
  have g := hg.2.2.2.2.1 t ht.1 ht.2
  have h6 : w (452 + 24 * t + 6) = 0 := by
    rcases g.2.1 with z | z
    · exact z
    · have := (g.2.2.1 z).1
      omega
  have e3 : d (s + 1) 1 = w 3 := h.1.2.2 1 (by omega) (by omega)
  have hen : w (452 + 24 * t + 3) ≤ 999 := by
    have := gt.2.2.2.2.2 (by omega)
    omega
  obtain ⟨g1, r1⟩ := setC (c := 1) (v := 0) (w' := ws w (452 + 24 * t + 5) 1) hg h ht (Or.inr rfl) (Or.inl rfl) (fun z => absurd z (by decide)) (fun _ => hs) (wse rfl) (by rw [wsn (by omega)]; exact h6) (fun i a b => wsn a)
  rw [show (1 : Int) + 0 = 1 by decide] at r1
  unfold v_74 g_74 V_228 W_228
  rw [e3, show s + 49 + 6 = s + 55 by omega]
  by_cases c : 0 < w 3
  · have hz : ¬ w 3 = 0 := by omega
    simp only [if_neg hz, if_pos c]
    exact ⟨trivial, g1, r1, fun i hi => wsn (by omega)⟩
  · have hz : w 3 = 0 := by omega
    simp only [if_pos hz, if_neg c]
    obtain ⟨g2, r2⟩ := setC (s := s) (t := t) (c := 1) (v := 1) (w' := ws (ws w (452 + 24 * t + 5) 1) (452 + 24 * t + 6) 1) g1 r1 (by rw [wsn (by omega)]; exact ht) (Or.inr rfl) (Or.inr rfl) (fun _ => ⟨rfl, by rw [wsn (by omega)]; exact hen⟩) (fun _ => by rw [wsn (by omega)]; exact hs) (by rw [wsn (by omega), wse rfl]) (wse rfl) (fun i a b => wsn b)
    rw [show (1 : Int) + 1 = 2 by decide] at r2
    obtain ⟨m1, m2, m3, m4⟩ := makes (t := t) g2 r2 (by rw [wsn (by omega), wsn (by omega)]; exact ht) (by rw [wsn (by omega), wsn (by omega)]; exact hs) (by rw [wsn (by omega), wsn (by omega)]; exact hen)
    unfold v_76 g_76
    rw [show s + 49 + 6 = s + 55 by omega]
    exact ⟨m1, m2, m3, fun i hi => by rw [m4 i (by omega) (by omega), wsn (by omega), wsn (by omega)]⟩
-- a witness
theorem lp233 {p : Int} : ∀ (n : Nat) (a k : Int) (w : Row), 0 ≤ k → k ≤ w 9 → w 9 - k ≤ (n : Int) → LP_233_4 p n a k w = a + (csum (fun t => if 0 < w (452 + 24 * t + 8 + p) ∧ (w (452 + 24 * t + 8 + p) - 1) / 20 = w 0 / 20 then 1 else 0) (w 9).toNat - csum (fun t => if 0 < w (452 + 24 * t + 8 + p) ∧ (w (452 + 24 * t + 8 + p) - 1) / 20 = w 0 / 20 then 1 else 0) k.toNat) := by
  intro n
  induction n with
  | zero =>
    intro a k w h0 hk hn
    have : k = w 9 := by omega
    rw [this]
    show ST_233_4 p _ a (w 9) w = _
    unfold ST_233_4
    rw [if_neg (by omega)]
    omega
  | succ n ih =>
    intro a k w h0 hk hn
    by_cases c1 : k < w 9
    · have i := fun a => ih a (k + 1) w (by omega) (by omega) (by omega)
      rw [csum_s _ h0] at i
      show ST_233_4 p _ a k w = _
      unfold ST_233_4
      rw [if_pos c1]
      unfold V_232
      by_cases c2 : 0 < w (452 + 24 * k + 8 + p)
      · rw [if_pos c2]
        by_cases c3 : (w (452 + 24 * k + 8 + p) - 1) / 20 = w 0 / 20
        · rw [if_pos c3, if_neg (by decide), i, if_pos ⟨c2, c3⟩]
          omega
        · rw [if_neg c3, if_pos rfl, i, if_neg (fun z => c3 z.2)]
          omega
      · rw [if_neg c2, if_pos rfl, i, if_neg (fun z => c2 z.1)]
        omega
    · have : k = w 9 := by omega
      rw [this]
      show ST_233_4 p _ a (w 9) w = _
      unfold ST_233_4
      rw [if_neg (by omega)]
      omega
theorem v233 {p : Int} {w : Row} (h9 : 0 ≤ w 9 ∧ w 9 ≤ 60) : V_233 p w = attR w p := by
  have h := lp233 (p := p) (61 - 0 : Int).toNat 0 0 w (by decide) h9.1 (by rw [show (((61 - 0 : Int).toNat : Nat) : Int) = 61 by decide]; omega)
  unfold V_233 attR
  rw [h]
  show 0 + (_ - csum _ 0) = _
  simp only [csum]
  omega
theorem v232 {t p : Int} {w : Row} : (V_232 t p w = 0 ∨ V_232 t p w = 1) ∧ (V_232 t p w = 0 ↔ ¬ attd w t p) := by
  unfold V_232 attd
  by_cases c2 : 0 < w (452 + 24 * t + 8 + p)
  · rw [if_pos c2]
    by_cases c3 : (w (452 + 24 * t + 8 + p) - 1) / 20 = w 0 / 20
    · rw [if_pos c3]
      exact ⟨Or.inr rfl, ⟨fun z => absurd z (by decide), fun z => absurd ⟨c2, c3⟩ z⟩⟩
    · rw [if_neg c3]
      exact ⟨Or.inl rfl, ⟨fun _ z => c3 z.2, fun _ => rfl⟩⟩
  · rw [if_neg c2]
    exact ⟨Or.inl rfl, ⟨fun _ z => c2 z.1, fun _ => rfl⟩⟩
theorem lp234 {t p : Int} : ∀ (n : Nat) (a k : Int) (w : Row), 0 ≤ k → w 9 - k ≤ (n : Int) → (a = 0 ∨ a = 1) → (LP_234_97 t p n (452 + 24 * t) a k w = 0 ∨ LP_234_97 t p n (452 + 24 * t) a k w = 7) ∧ (LP_234_97 t p n (452 + 24 * t) a k w = 0 ↔ a = 0 ∧ ¬ ∃ j, k ≤ j ∧ j < w 9 ∧ w (452 + 24 * j + 0) = p ∧ attd w j (w (452 + 24 * t + 0))) := by
  have m00 : mior 0 0 = 0 := by decide
  have m10 : mior 1 0 = 1 := by decide
  have m01 : mior 0 1 = 1 := by decide
  have m11 : mior 1 1 = 1 := by decide
  intro n
  induction n with
  | zero =>
    intro a k w h0 hn ha
    have e : LP_234_97 t p 0 (452 + 24 * t) a k w = if a = 0 then 0 else 7 := by
      show ST_234_97 t p _ (452 + 24 * t) a k w = _
      unfold ST_234_97
      rw [if_neg (by omega)]
    rw [e]
    rcases ha with rfl | rfl
    · rw [if_pos rfl]
      exact ⟨Or.inl rfl, ⟨fun _ => ⟨rfl, fun ⟨j, a, b, _⟩ => by omega⟩, fun _ => rfl⟩⟩
    · rw [if_neg (by decide)]
      exact ⟨Or.inr rfl, ⟨fun z => absurd z (by decide), fun z => absurd z.1 (by decide)⟩⟩
  | succ n ih =>
    intro a k w h0 hn ha
    by_cases c1 : k < w 9
    · have pass : (w (452 + 24 * k + 0) = p → ¬ attd w k (w (452 + 24 * t + 0))) → LP_234_97 t p (n + 1) (452 + 24 * t) a k w = LP_234_97 t p n (452 + 24 * t) a (k + 1) w → (LP_234_97 t p (n + 1) (452 + 24 * t) a k w = 0 ∨ LP_234_97 t p (n + 1) (452 + 24 * t) a k w = 7) ∧ (LP_234_97 t p (n + 1) (452 + 24 * t) a k w = 0 ↔ a = 0 ∧ ¬ ∃ j, k ≤ j ∧ j < w 9 ∧ w (452 + 24 * j + 0) = p ∧ attd w j (w (452 + 24 * t + 0))) := fun hn' e => by
        obtain ⟨i1, i2⟩ := ih a (k + 1) w (by omega) (by omega) ha
        rw [e]
        refine ⟨i1, i2.trans ⟨fun z => ⟨z.1, fun ⟨j, x, y, u, v⟩ => ?_⟩, fun z => ⟨z.1, fun ⟨j, x, y, u, v⟩ => z.2 ⟨j, by omega, y, u, v⟩⟩⟩⟩
        by_cases hj : j = k
        · rw [hj] at u v
          exact hn' u v
        · exact z.2 ⟨j, by omega, y, u, v⟩
      by_cases c2 : w (452 + 24 * k + 0) = p
      · by_cases c3 : V_232 k (w (452 + 24 * t + 0)) w = 0
        · refine pass (fun _ => v232.2.mp c3) ?_
          show ST_234_97 t p _ (452 + 24 * t) a k w = _
          unfold ST_234_97
          rw [if_pos c1, if_pos c2, if_pos c3]
          rcases ha with rfl | rfl
          · rw [m00]
          · rw [m10]
        · have e : LP_234_97 t p (n + 1) (452 + 24 * t) a k w = LP_234_97 t p n (452 + 24 * t) 1 (k + 1) w := by
            show ST_234_97 t p _ (452 + 24 * t) a k w = _
            unfold ST_234_97
            rw [if_pos c1, if_pos c2, if_neg c3]
            rcases ha with rfl | rfl
            · rw [m01]
            · rw [m11]
          obtain ⟨i1, i2⟩ := ih 1 (k + 1) w (by omega) (by omega) (Or.inr rfl)
          have hat : attd w k (w (452 + 24 * t + 0)) := by
            rcases Classical.em (attd w k (w (452 + 24 * t + 0))) with z | z
            · exact z
            · exact absurd (v232.2.mpr z) c3
          rw [e]
          exact ⟨i1, i2.trans ⟨fun z => absurd z.1 (by decide), fun z => absurd ⟨k, by omega, c1, c2, hat⟩ z.2⟩⟩
      · refine pass (fun z => absurd z c2) ?_
        show ST_234_97 t p _ (452 + 24 * t) a k w = _
        unfold ST_234_97
        rw [if_pos c1, if_neg c2]
        rcases ha with rfl | rfl
        · rw [m00]
        · rw [m10]
    · have e : LP_234_97 t p (n + 1) (452 + 24 * t) a k w = if a = 0 then 0 else 7 := by
        show ST_234_97 t p _ (452 + 24 * t) a k w = _
        unfold ST_234_97
        rw [if_neg c1]
      rw [e]
      rcases ha with rfl | rfl
      · rw [if_pos rfl]
        exact ⟨Or.inl rfl, ⟨fun _ => ⟨rfl, fun ⟨j, a, b, _⟩ => by omega⟩, fun _ => rfl⟩⟩
      · rw [if_neg (by decide)]
        exact ⟨Or.inr rfl, ⟨fun z => absurd z (by decide), fun z => absurd z.1 (by decide)⟩⟩
-- the hours that two tickets have in common
theorem untilEq {s t : Int} {d : mD} {w : Row} (h : Rel s d w) (ht : 0 ≤ t ∧ t < w 9) : v_98 (s + 49) t (d s 2) d = V_212 t w := by
  obtain ⟨⟨-, a2, -⟩, -, -, -, rT, -⟩ := h
  unfold v_98 V_212
  rw [show s + 49 + 4 = s + 53 by omega, (rT.2 t ht.1 ht.2).2.2.2.1, a2]
theorem comLoop {s t p : Int} {d : mD} {w : Row} (h : Rel s d w) (ht : 0 ≤ t ∧ t < w 9) : ∀ (nc nr : Nat) (m k : Int), 0 ≤ k → 0 ≤ m → w 9 - k ≤ (nc : Int) → w 9 - k ≤ (nr : Int) → lp_78_5 s t p nc m k d = LP_231_5 t p nr m k w := by
  obtain ⟨⟨-, a2, -⟩, -, -, -, ⟨t1, t2⟩, -⟩ := id h
  have gt := t2 t ht.1 ht.2
  intro nc
  induction nc with
  | zero =>
    intro nr m k h0 hm h1 h2
    have e : lp_78_5 s t p 0 m k d = m := by
      show st_78_5 s t p _ m k d = m
      unfold st_78_5
      rw [if_neg (by rw [t1]; omega)]
    rw [e]
    cases nr with
    | zero =>
      show m = ST_231_5 t p _ m k w
      unfold ST_231_5
      rw [if_neg (by omega)]
    | succ nr =>
      show m = ST_231_5 t p _ m k w
      unfold ST_231_5
      rw [if_neg (by omega)]
  | succ nc ih =>
    intro nr m k h0 hm h1 h2
    by_cases c1 : k < w 9
    · cases nr with
      | zero => omega
      | succ nr =>
        have gk := t2 k h0 c1
        show st_78_5 s t p _ m k d = ST_231_5 t p _ m k w
        unfold st_78_5 ST_231_5
        rw [if_pos (by rw [t1]; exact c1), if_pos c1]
        rw [show s + 49 + 1 = s + 50 by omega, show s + 49 + 2 = s + 51 by omega, show s + 49 + 3 = s + 52 by omega, gk.1, gk.2.1, gt.2.1, gt.2.2.1, gk.2.2.1]
        by_cases c2 : k = t
        · rw [if_pos c2, if_pos c2]
          exact ih nr m (k + 1) (by omega) hm (by omega) (by omega)
        · rw [if_neg c2, if_neg c2]
          by_cases c3 : w (452 + 24 * k + 0) = p
          · rw [if_pos c3, if_pos c3]
            by_cases c4 : w (452 + 24 * k + 1) = w (452 + 24 * t + 1)
            · rw [if_pos c4, if_pos c4, untilEq h ht, untilEq h ⟨h0, c1⟩]
              have e1 := mmin_r (V_212 t w) (V_212 k w)
              have e2 := mmax_r (w (452 + 24 * t + 2)) (w (452 + 24 * k + 2))
              have e3 := mmax_r m (mmin (V_212 t w) (V_212 k w) - mmax (w (452 + 24 * t + 2)) (w (452 + 24 * k + 2)))
              have e4 : V_230 t k w = if mmax (w (452 + 24 * t + 2)) (w (452 + 24 * k + 2)) < mmin (V_212 t w) (V_212 k w) then mmin (V_212 t w) (V_212 k w) - mmax (w (452 + 24 * t + 2)) (w (452 + 24 * k + 2)) else 0 := by
                unfold V_230 mmax mmin
                repeat' split
                all_goals omega
              have e5 : (if m < V_230 t k w then V_230 t k w else m) = mmax m (mmin (V_212 t w) (V_212 k w) - mmax (w (452 + 24 * t + 2)) (w (452 + 24 * k + 2))) := by
                rw [e4]
                split
                · split <;> omega
                · split <;> omega
              rw [← e5]
              by_cases c5 : m < V_230 t k w
              · rw [if_pos c5, if_pos c5]
                exact ih nr _ (k + 1) (by omega) (by omega) (by omega) (by omega)
              · rw [if_neg c5, if_neg c5]
                exact ih nr m (k + 1) (by omega) hm (by omega) (by omega)
            · rw [if_neg c4, if_neg c4]
              exact ih nr m (k + 1) (by omega) hm (by omega) (by omega)
          · rw [if_neg c3, if_neg c3]
            exact ih nr m (k + 1) (by omega) hm (by omega) (by omega)
    · have e : lp_78_5 s t p (nc + 1) m k d = m := by
        show st_78_5 s t p _ m k d = m
        unfold st_78_5
        rw [if_neg (by rw [t1]; omega)]
      rw [e]
      cases nr with
      | zero =>
        show m = ST_231_5 t p _ m k w
        unfold ST_231_5
        rw [if_neg (by omega)]
      | succ nr =>
        show m = ST_231_5 t p _ m k w
        unfold ST_231_5
        rw [if_neg (by omega)]
theorem common {s t p : Int} {d : mD} {w : Row} (hg : GG w) (h : Rel s d w) (ht : 0 ≤ t ∧ t < w 9) : v_78 s t p d = V_231 t p w := by
  have n9 := hg.1.2.2.1
  exact comLoop h ht (60 - 0 : Int).toNat (61 - 0 : Int).toNat 0 0 (by omega) (by omega) (by rw [show (((60 - 0 : Int).toNat : Nat) : Int) = 60 by decide]; omega) (by rw [show (((61 - 0 : Int).toNat : Nat) : Int) = 61 by decide]; omega)
theorem ibit {W p : Int} (p0 : 0 ≤ p) (p1 : p < 31) : miand (mishr W p) 1 = if ib W p.toNat = true then 1 else 0 := by
  have e := iget W p.toNat (by omega)
  rw [igetb W p.toNat (by omega), show ((p.toNat : Nat) : Int) = p by omega] at e
  exact e
theorem hinder {s t p : Int} {d : mD} {w : Row} (hg : GG w) (h : Rel s d w) (ht : 0 ≤ t ∧ t < w 9) (hp : 0 ≤ p ∧ p < w 8) : v_77 s t p d = V_234 t p w ∧ (V_234 t p w = 0 → w (452 + 24 * t + 5) = 1 ∧ w (452 + 24 * t + 6) = 0 ∧ ¬ w (452 + 24 * t + 0) = p ∧ w (452 + 24 * t + 8 + p) = 0) := by
  have n8 := hg.1.2.1
  have n9 := hg.1.2.2.1
  have gT := hg.2.2.2.1 t ht.1 ht.2
  have gC := hg.2.2.2.2.1 t ht.1 ht.2
  have z0 : w (452 + 24 * t + 5) = 0 → w (452 + 24 * t + 5) + w (452 + 24 * t + 6) = 0 := fun z => by
    rcases gC.2.1 with q | q
    · omega
    · have := (gC.2.2.1 q).1
      omega
  have z1 : ¬ w (452 + 24 * t + 5) = 0 → w (452 + 24 * t + 6) = 0 → w (452 + 24 * t + 5) = 1 ∧ ¬ w (452 + 24 * t + 5) + w (452 + 24 * t + 6) = 0 ∧ ¬ w (452 + 24 * t + 5) + w (452 + 24 * t + 6) = 2 := fun z z' => by
    rcases gC.1 with q | q <;> omega
  have z2 : ¬ w (452 + 24 * t + 6) = 0 → ¬ w (452 + 24 * t + 5) + w (452 + 24 * t + 6) = 0 ∧ w (452 + 24 * t + 5) + w (452 + 24 * t + 6) = 2 := fun z => by
    rcases gC.2.1 with q | q
    · omega
    · have := (gC.2.2.1 q).1
      omega
  have hcom := common (p := p) hg h ht
  obtain ⟨⟨a1, a2, a3⟩, -, -, -, ⟨t1, t2⟩, rC, -, -, rB, -⟩ := id h
  have gt := t2 t ht.1 ht.2
  have gc := rC t ht.1 ht.2
  have gb := rB p hp.1 hp.2
  have gb2 := rB _ gT.1.1 gT.1.2
  have bit := gc.2.2.1 p hp.1 (by omega)
  have l := (lp234 (t := t) (p := p) (61 - 0 : Int).toNat 0 0 w (by omega) (by rw [show (((61 - 0 : Int).toNat : Nat) : Int) = 61 by decide]; omega) (Or.inl rfl))
  have e2 : d (s + 1) 2 = w 4 := a3 2 (by omega) (by omega)
  have ev : v_99 (s + 49) t p d = if w (452 + 24 * t + 8 + p) = 0 then 0 else 1 := by
    unfold v_99
    rw [show s + 49 + 7 = s + 56 by omega, ibit hp.1 (by omega)]
    by_cases z : ib (d (s + 56) t) p.toNat = true
    · rw [if_pos z, if_neg (by decide), if_neg (bit.mp z)]
    · rw [if_neg z, if_pos rfl]
      by_cases z2 : w (452 + 24 * t + 8 + p) = 0
      · rw [if_pos z2]
      · exact absurd (bit.mpr z2) z
  unfold v_77 V_234
  rw [show s + 49 + 6 = s + 55 by omega, show s + 49 + 1 = s + 50 by omega, show s + 10 + 4 = s + 14 by omega, show s + 10 + 5 = s + 15 by omega, gc.1, gt.1, ev, hcom, e2, gb.2.1, v233 n9, ibit hp.1 (by omega)]
  by_cases c1 : w (452 + 24 * t + 5) = 0
  · rw [if_pos (z0 c1), if_pos c1]
    exact ⟨rfl, fun z => absurd z (by decide)⟩
  · rw [if_neg (show ¬ w (452 + 24 * t + 5) + w (452 + 24 * t + 6) = 0 from fun z => (by
      rcases Classical.em (w (452 + 24 * t + 6) = 0) with q | q
      · exact (z1 c1 q).2.1 z
      · exact (z2 q).1 z)), if_neg c1]
    by_cases c2 : w (452 + 24 * t + 6) = 0
    · rw [if_neg (z1 c1 c2).2.2, if_pos c2]
      by_cases c3 : w (452 + 24 * t + 0) = p
      · rw [if_pos c3, if_pos c3]
        exact ⟨rfl, fun z => absurd z (by decide)⟩
      · rw [if_neg c3, if_neg c3]
        by_cases c4 : w (452 + 24 * t + 8 + p) = 0
        · rw [if_pos c4, if_pos rfl, if_pos c4]
          refine ⟨?_, fun _ => ⟨(z1 c1 c2).1, c2, c3, c4⟩⟩
          split
          · rfl
          · split
            · obtain ⟨l1, l2⟩ := l
              have hb := gb2.2.2 p hp.1 (by omega)
              by_cases z : ib (d (s + 15) (w (452 + 24 * t + 0))) p.toNat = true
              · rw [if_pos z, if_neg (by decide)]
                obtain ⟨j, j1, j2, j3, j4⟩ := hb.mp z
                rcases l1 with q | q
                · exact absurd ⟨j, j1, j2, j3, j4⟩ (l2.mp q).2
                · exact q.symm
              · rw [if_neg z, if_pos rfl]
                exact (l2.mpr ⟨rfl, fun ⟨j, j1, j2, j3, j4⟩ => z (hb.mpr ⟨j, j1, j2, j3, j4⟩)⟩).symm
            · rfl
        · rw [if_neg c4, if_neg (by decide), if_neg c4]
          exact ⟨rfl, fun z => absurd z (by decide)⟩
    · rw [if_pos (z2 c2).2, if_neg c2]
      exact ⟨rfl, fun z => absurd z (by decide)⟩
/-! ===== a person is a witness ===== -/
theorem madeR_k' {w w' : Row} {p : Int} (h10 : w' 10 = w 10) (h : ∀ k, 0 ≤ k → k < w 10 → perO w' k = perO w k ∧ w' (1916 + 5 * k + 4) = w (1916 + 5 * k + 4) ∧ w' 0 = w 0) : madeR w' p = madeR w p := by
  unfold madeR
  rw [h10]
  refine csum_congr (fun k a b => ?_)
  obtain ⟨x, y, z⟩ := h k a (by omega)
  rw [x, y, z]
theorem witStep {s t p : Int} {d : mD} {w w' : Row} (hg : GG w) (h : Rel s d w) (ht : 0 ≤ t ∧ t < w 9) (hp : 0 ≤ p ∧ p < w 8) (hz : w (452 + 24 * t + 8 + p) = 0) (e8 : w' (452 + 24 * t + 8 + p) = w 0 + 1) (e7 : w' (452 + 24 * t + 7) = w (452 + 24 * t + 7) + 1) (e : ∀ i, ¬ i = 452 + 24 * t + 8 + p → ¬ i = 452 + 24 * t + 7 → w' i = w i) :
    GG w' ∧ Rel s (mset (mset (mset d (s + 56) t (mior (d (s + 56) t) (mishl 1 p))) (s + 14) p (d (s + 14) p + 1)) (s + 15) p (mior (d (s + 15) p) (mishl 1 (d (s + 50) t)))) w' := by
  obtain ⟨hN, hO, hQ, hT, hC, hK, hR⟩ := id hg
  obtain ⟨n7, n8, n9, n10, n11, n0, n1, n2, n3, n4, n5, n6⟩ := id hN
  obtain ⟨rA, rO, rQ, rP, ⟨t1, t2⟩, rC, rK, rR, rB, rH⟩ := h
  have gt := hT t ht.1 ht.2
  have ew := (t2 t ht.1 ht.2).1
  rw [ew]
  generalize hd : (mset (mset (mset d (s + 56) t (mior (d (s + 56) t) (mishl 1 p))) (s + 14) p (d (s + 14) p + 1)) (s + 15) p (mior (d (s + 15) p) (mishl 1 (w (452 + 24 * t + 0))))) = d'
  have fd : ∀ b, ¬ b = s + 56 → ¬ b = s + 14 → ¬ b = s + 15 → d' b = d b := fun b x y z => by
    rw [← hd]
    funext j
    simp (disch := omega) only [ms_a]
  have e0 : w' 0 = w 0 := e 0 (by omega) (by omega)
  have e9 : w' 9 = w 9 := e 9 (by omega) (by omega)
  have ei : ∀ i, i < 452 + 24 * t + 7 ∨ 452 + 24 * t + 24 ≤ i → w' i = w i := fun i hi => e i (by omega) (by omega)
  have ef : ∀ t' f, 0 ≤ f → f ≤ 6 → w' (452 + 24 * t' + f) = w (452 + 24 * t' + f) := fun t' f a b => e _ (by omega) (by omega)
  have eq8 : ∀ t' q, 0 ≤ q → q < 16 → ¬ (t' = t ∧ q = p) → w' (452 + 24 * t' + 8 + q) = w (452 + 24 * t' + 8 + q) := fun t' q a b c => by
    have h1 : ¬ 452 + 24 * t' + 8 + q = 452 + 24 * t + 8 + p := fun z => by
      have : t' = t := by omega
      subst this
      exact c ⟨rfl, by omega⟩
    exact e _ h1 (by omega)
  have at0 : ∀ t' q, 0 ≤ q → q < 16 → (attd w' t' q ↔ attd w t' q ∨ (t' = t ∧ q = p)) := fun t' q a b => by
    unfold attd
    rw [e0]
    by_cases c : t' = t ∧ q = p
    · obtain ⟨rfl, rfl⟩ := c
      rw [e8, hz]
      constructor
      · intro _; exact Or.inr ⟨rfl, rfl⟩
      · intro _
        refine ⟨by omega, by rw [show w 0 + 1 - 1 = w 0 by omega]⟩
    · rw [eq8 t' q a b c]
      exact ⟨fun z => Or.inl z, fun z => z.elim id (fun z => absurd z c)⟩
  have needC : ∀ i, (i = 0 ∨ i = 9 ∨ (452 ≤ i ∧ i < 1916 ∧ 3 ≤ (i - 452) % 24 ∧ (i - 452) % 24 ≤ 6)) → w' i = w i := fun i hi => e i (by omega) (by omega)
  refine ⟨⟨hN.k (fun i hi => e i (by omega) (by omega)), hO.k (fun i hi => e i (by omega) (by omega)) hN, hQ.k (fun i hi => e i (by omega) (by omega)) hN hO, hT.k (fun i hi => e i (by omega) (by omega)) hN hO, ?_, hK.k (fun i hi => e i (by omega) (by omega)) hN, hR.k (fun i hi => e i (by omega) (by omega)) hN⟩, rA.k (fun b x => fd b (by omega) (by omega) (by omega)) (fun i hi => e i (by omega) (by omega)), rO.k (fun b x y => fd b (by omega) (by omega) (by omega)) (fun i hi => e i (by omega) (by omega)) n7, rQ.k (fd _ (by omega) (by omega) (by omega)) (fun i hi => e i (by omega) (by omega)) n7 hO, rP.k (fun b x y => fd b (by omega) (by omega) (by omega)) (fun i hi => e i (by omega) (by omega)) n8, RelT.k (fun b x y => fd b (by omega) (by omega) (by omega)) (fun i hi => e i (by omega) (by omega)) n9 ⟨t1, t2⟩, ?_, rK.k (by rw [fd _ (by omega) (by omega) (by omega)]) (fun b x y => fd b (by omega) (by omega) (by omega)) (fun i hi => e i (by omega) (by omega)) n10, rR.k (by rw [fd _ (by omega) (by omega) (by omega)]) (fd _ (by omega) (by omega) (by omega)) (fun i hi => e i (by omega) (by omega)) n11, ?_, rH.k (fun b x y => fd b (by omega) (by omega) (by omega)) (fun i hi => e i (by omega) (by omega)) n8 n9 n10 hK.of⟩
  · intro t' x y
    rw [e9] at y
    have g := hC t' x y
    rw [ef t' 3 (by decide) (by decide), ef t' 4 (by decide) (by decide), ef t' 5 (by decide) (by decide), ef t' 6 (by decide) (by decide), e0]
    refine ⟨g.1, g.2.1, g.2.2.1, g.2.2.2.1, fun q a b => ?_⟩
    by_cases c : t' = t ∧ q = p
    · obtain ⟨rfl, rfl⟩ := c
      rw [e8]
      omega
    · rw [eq8 t' q a b c]
      exact g.2.2.2.2 q a b
  · intro t' x y
    rw [e9] at y
    obtain ⟨g1, g2, g3, g4, g5⟩ := rC t' x y
    rw [fd (s + 55) (by omega) (by omega) (by omega), ef t' 5 (by decide) (by decide), ef t' 6 (by decide) (by decide)]
    by_cases c : t' = t
    · subst c
      have hm : d' (s + 56) t' = mior (d (s + 56) t') (mishl 1 p) := by
        rw [← hd]
        simp (disch := omega) only [ms_a, ms_e]
      have hr := mior_rng g4 g5 hp.1 (by omega : p < 16)
      rw [hm, e7]
      refine ⟨g1, ?_, fun q a b => ?_, hr.1, hr.2⟩
      · have hs := csum_upd (f := fun q => if w' (452 + 24 * t' + 8 + q) = 0 then 0 else 1) (g := fun q => if w (452 + 24 * t' + 8 + q) = 0 then 0 else 1) (n := 16) (k := p) hp.1 (by omega) (fun i a b c => by
          show (if w' (452 + 24 * t' + 8 + i) = 0 then (0 : Int) else 1) = if w (452 + 24 * t' + 8 + i) = 0 then 0 else 1
          rw [eq8 t' i a (by omega) (fun z => c z.2)])
        rw [e8, hz, if_neg (by omega), if_pos rfl] at hs
        rw [hs, g2]
        omega
      · have hb := iset (d (s + 56) t') p.toNat q.toNat (by omega) (by omega)
        rw [show ((p.toNat : Nat) : Int) = p by omega] at hb
        rw [hb]
        by_cases c : q = p
        · subst c
          rw [if_pos rfl, e8]
          exact ⟨fun _ => by omega, fun _ => rfl⟩
        · rw [if_neg (by omega), eq8 t' q a b (fun z => c z.2)]
          exact g3 q a b
    · have hm : d' (s + 56) t' = d (s + 56) t' := by
        rw [← hd]
        simp (disch := omega) only [ms_a, ms_i]
      rw [hm, e (452 + 24 * t' + 7) (by omega) (by omega)]
      refine ⟨g1, ?_, fun q a b => ?_, g4, g5⟩
      · rw [g2]
        exact csum_congr (fun q a b => by rw [eq8 t' q a (by omega) (fun z => c z.1)])
      · rw [eq8 t' q a b (fun z => c z.1)]
        exact g3 q a b
  · intro q x y
    rw [e 8 (by omega) (by omega)] at y
    obtain ⟨g1, g2, g3⟩ := rB q x y
    rw [fd (s + 13) (by omega) (by omega) (by omega)]
    have hat : attR w' q = attR w q + (if q = p then 1 else 0) := by
      unfold attR
      rw [e9, e0]
      by_cases c : q = p
      · subst c
        have hs := csum_upd (f := fun t => if 0 < w' (452 + 24 * t + 8 + q) ∧ (w' (452 + 24 * t + 8 + q) - 1) / 20 = w 0 / 20 then 1 else 0) (g := fun t => if 0 < w (452 + 24 * t + 8 + q) ∧ (w (452 + 24 * t + 8 + q) - 1) / 20 = w 0 / 20 then 1 else 0) (n := (w 9).toNat) (k := t) ht.1 (by omega) (fun i a b c => by
          show (if 0 < w' (452 + 24 * i + 8 + q) ∧ (w' (452 + 24 * i + 8 + q) - 1) / 20 = w 0 / 20 then (1 : Int) else 0) = if 0 < w (452 + 24 * i + 8 + q) ∧ (w (452 + 24 * i + 8 + q) - 1) / 20 = w 0 / 20 then 1 else 0
          rw [eq8 i q x (by omega) (fun z => c z.1)])
        rw [e8, hz, if_pos ⟨by omega, by rw [show w 0 + 1 - 1 = w 0 by omega]⟩, if_neg (fun z => absurd z.1 (by decide))] at hs
        rw [hs, if_pos rfl]
        omega
      · rw [if_neg c, Int.add_zero]
        exact csum_congr (fun t' a b => by rw [eq8 t' q x (by omega) (fun z => c z.2)])
    refine ⟨?_, ?_, fun r a b => ?_⟩
    · rw [g1]
      refine (madeR_k' ?_ ?_).symm
      · exact e 10 (by omega) (by omega)
      · intro k a b
        have gk := hK k a b
        refine ⟨?_, e _ (by omega) (by omega), e0⟩
        unfold perO
        rw [e (1916 + 5 * k + 1) (by omega) (by omega), ef _ 0 (by decide) (by decide)]
    · rw [hat, ← g2, ← hd]
      by_cases c : q = p
      · rw [if_pos c, c]
        simp (disch := omega) only [ms_a, ms_e]
      · rw [if_neg c]
        simp (disch := omega) only [ms_a, ms_i]
        omega
    · have hx : ib (d' (s + 15) q) r.toNat = true ↔ ib (d (s + 15) q) r.toNat = true ∨ (q = p ∧ r = w (452 + 24 * t + 0)) := by
        by_cases c : q = p
        · subst c
          have hm : d' (s + 15) q = mior (d (s + 15) q) (mishl 1 (w (452 + 24 * t + 0))) := by
            rw [← hd]
            simp (disch := omega) only [ms_e]
          have hb := iset (d (s + 15) q) (w (452 + 24 * t + 0)).toNat r.toNat (by omega) (by omega)
          rw [show (((w (452 + 24 * t + 0)).toNat : Nat) : Int) = w (452 + 24 * t + 0) by omega] at hb
          rw [hm, hb]
          by_cases c2 : r = w (452 + 24 * t + 0)
          · rw [if_pos (by omega)]
            exact ⟨fun _ => Or.inr ⟨rfl, c2⟩, fun _ => rfl⟩
          · rw [if_neg (by omega)]
            exact ⟨fun z => Or.inl z, fun z => z.elim id (fun z => absurd z.2 c2)⟩
        · have hm : d' (s + 15) q = d (s + 15) q := by
            rw [← hd]
            simp (disch := omega) only [ms_a, ms_i]
          rw [hm]
          exact ⟨fun z => Or.inl z, fun z => z.elim id (fun z => absurd z.1 c)⟩
      rw [hx, g3 r a b, e9]
      constructor
      · rintro (⟨t', z1, z2, z3, z4⟩ | ⟨z1, z2⟩)
        · exact ⟨t', z1, z2, by rw [ef t' 0 (by decide) (by decide)]; exact z3, (at0 t' q x (by omega)).mpr (Or.inl z4)⟩
        · exact ⟨t, ht.1, ht.2, by rw [ef t 0 (by decide) (by decide), z2], (at0 t q x (by omega)).mpr (Or.inr ⟨rfl, z1⟩)⟩
      · rintro ⟨t', z1, z2, z3, z4⟩
        rw [ef t' 0 (by decide) (by decide)] at z3
        rcases (at0 t' q x (by omega)).mp z4 with z | ⟨z, z'⟩
        · exact Or.inl ⟨t', z1, z2, z3, z⟩
        · rw [z] at z3
          exact Or.inr ⟨z', z3.symm⟩
theorem witCount {s t : Int} {d d2 : mD} {w : Row} (h : Rel s d w) (ht : 0 ≤ t ∧ t < w 9) : v_298 (d (s + 56) t) d2 = w (452 + 24 * t + 7) := by
  obtain ⟨g1, g2, g3, g4, g5⟩ := h.2.2.2.2.2.1 t ht.1 ht.2
  rw [v298_bits g4 g5, g2]
  refine csum_congr (fun p a b => ?_)
  have k := g3 p a (by omega)
  by_cases z : ib (d (s + 56) t) p.toNat = true
  · rw [if_pos z, if_neg (k.mp z)]
  · rw [if_neg z]
    by_cases z2 : w (452 + 24 * t + 8 + p) = 0
    · rw [if_pos z2]
    · exact absurd (k.mpr z2) z
theorem attest {s t p : Int} {d : mD} {w : Row} (hg : GG w) (h : Rel s d w) (ht : 0 ≤ t ∧ t < w 9) (hp : 0 ≤ p ∧ p < w 8) (hv : V_234 t p w = 0) (h9 : w 0 ≤ 999) : v_75 s t p d = V_235 t p w ∧ GG (W_235 t p w) ∧ Rel s (g_75 s t p d) (W_235 t p w) ∧ ∀ i, i ≤ 9 → W_235 t p w i = w i := by
  have n9 := hg.1.2.2.1
  have n8 := hg.1.2.1
  obtain ⟨c5, c6, c0, c8⟩ := (hinder hg h ht hp).2 hv
  have gt := hg.2.2.2.1 t ht.1 ht.2
  have gC := hg.2.2.2.2.1 t ht.1 ht.2
  have c4 := gC.2.2.2.1 c5
  have hen : w (452 + 24 * t + 3) ≤ 999 := by
    have := gt.2.2.2.2.2 (by omega)
    omega
  have e3 : d (s + 1) 1 = w 3 := h.1.2.2 1 (by omega) (by omega)
  have h8 : ¬ 452 + 24 * t + 8 + p = 452 + 24 * t + 7 := by omega
  generalize hw1 : ws (ws w (((452 + (24 * t)) + 8) + p) ((w 0) + 1)) ((452 + (24 * t)) + 7) ((w ((452 + (24 * t)) + 7)) + 1) = w1
  have f8 : w1 (452 + 24 * t + 8 + p) = w 0 + 1 := by rw [← hw1, wsn h8, wse rfl]
  have f7 : w1 (452 + 24 * t + 7) = w (452 + 24 * t + 7) + 1 := by rw [← hw1, wse rfl]
  have fi : ∀ i, ¬ i = 452 + 24 * t + 8 + p → ¬ i = 452 + 24 * t + 7 → w1 i = w i := fun i a b => by rw [← hw1, wsn b, wsn a]
  obtain ⟨g1, r1⟩ := witStep hg h ht hp c8 f8 f7 fi
  have t9 : w1 9 = w 9 := fi 9 (by omega) (by omega)
  generalize hd1 : (mset (mset (mset d (s + 56) t (mior (d (s + 56) t) (mishl 1 p))) (s + 14) p (d (s + 14) p + 1)) (s + 15) p (mior (d (s + 15) p) (mishl 1 (d (s + 50) t)))) = d1 at r1
  have hcnt := witCount (d2 := d1) r1 (t := t) (by rw [t9]; exact ht)
  have hm : d1 (s + 56) t = mior (d (s + 56) t) (mishl 1 p) := by
    rw [← hd1]
    simp (disch := omega) only [ms_a, ms_e]
  rw [hm, f7] at hcnt
  unfold v_75 g_75 V_235 W_235
  rw [show s + 49 + 7 = s + 56 by omega, show s + 10 + 4 = s + 14 by omega, show s + 10 + 5 = s + 15 by omega, show s + 49 + 1 = s + 50 by omega, hd1, hcnt, e3, hw1]
  by_cases c : w (452 + 24 * t + 7) + 1 < w 3
  · simp only [if_pos c]
    exact ⟨trivial, g1, r1, fun i hi => fi i (by omega) (by omega)⟩
  · simp only [if_neg c]
    obtain ⟨g2, r2⟩ := setC (s := s) (t := t) (c := 1) (v := 1) (w' := ws w1 (452 + 24 * t + 6) 1) g1 r1 (by rw [t9]; exact ht) (Or.inr rfl) (Or.inr rfl) (fun _ => ⟨rfl, by rw [fi _ (by omega) (by omega)]; exact hen⟩) (fun _ => by rw [fi _ (by omega) (by omega)]; exact c4) (by rw [wsn (by omega), fi _ (by omega) (by omega)]; exact c5) (wse rfl) (fun i a b => wsn b)
    rw [show (1 : Int) + 1 = 2 by decide] at r2
    obtain ⟨m1, m2, m3, m4⟩ := makes (t := t) g2 r2 (by rw [wsn (by omega), t9]; exact ht) (by rw [wsn (by omega), fi _ (by omega) (by omega)]; exact c4) (by rw [wsn (by omega), fi _ (by omega) (by omega)]; exact hen)
    unfold v_76 g_76
    rw [show s + 49 + 6 = s + 55 by omega]
    exact ⟨m1, m2, m3, fun i hi => by rw [m4 i (by omega) (by omega), wsn (by omega), fi i (by omega) (by omega)]⟩
/-! ===== tokens change hands; tokens are offered ===== -/
theorem cntGen {L : Nat → Int → Int → Int} {f : Int → Int} {N : Int} (hz : ∀ (n : Nat) (a k : Int), N ≤ k → L n a k = a) (hs : ∀ (n : Nat) (a k : Int), 0 ≤ k → k < N → L (n + 1) a k = L n (a + f k) (k + 1)) : ∀ (n : Nat) (a k : Int), 0 ≤ k → k ≤ N → N - k ≤ (n : Int) → L n a k = a + (csum f N.toNat - csum f k.toNat) := by
  intro n
  induction n with
  | zero =>
    intro a k h0 hk hn
    have e : k = N := by omega
    rw [hz 0 a k (by omega), e]
    omega
  | succ n ih =>
    intro a k h0 hk hn
    by_cases c : k < N
    · have i := ih (a + f k) (k + 1) (by omega) (by omega) (by omega)
      rw [csum_s _ h0] at i
      rw [hs n a k h0 c, i]
      omega
    · have e : k = N := by omega
      rw [hz _ a k (by omega), e]
      omega
theorem cnt0 {L : Nat → Int → Int → Int} {f : Int → Int} {N : Int} {n : Nat} (hN : 0 ≤ N) (hn : N ≤ (n : Int)) (hz : ∀ (n : Nat) (a k : Int), N ≤ k → L n a k = a) (hs : ∀ (n : Nat) (a k : Int), 0 ≤ k → k < N → L (n + 1) a k = L n (a + f k) (k + 1)) : L n 0 0 = csum f N.toNat := by
  rw [cntGen hz hs n 0 0 (by omega) hN (by omega)]
  show 0 + (_ - csum _ 0) = _
  simp only [csum]
  omega
theorem v245 {p q : Int} {w : Row} (h10 : 0 ≤ w 10 ∧ w 10 ≤ 200) : V_245 p q w = csum (fun k => if w (1916 + 5 * k + 0) = p ∧ w (1916 + 5 * k + 3) = q then 1 else 0) (w 10).toNat := by
  unfold V_245
  refine cnt0 (L := fun n a k => LP_245_5 p q n a k w) h10.1 (by rw [show (((200 - 0 : Int).toNat : Nat) : Int) = 200 by decide]; omega) (fun n a k h => ?_) (fun n a k h0 h => ?_)
  · cases n with
    | zero =>
      show ST_245_5 p q _ a k w = a
      unfold ST_245_5
      rw [if_neg (by omega)]
    | succ n =>
      show ST_245_5 p q _ a k w = a
      unfold ST_245_5
      rw [if_neg (by omega)]
  · show ST_245_5 p q _ a k w = _
    unfold ST_245_5
    rw [if_pos h]
    by_cases c2 : w (1916 + 5 * k + 0) = p
    · by_cases c3 : w (1916 + 5 * k + 3) = q
      · rw [if_pos c2, if_pos c3, if_pos ⟨c2, c3⟩]
      · rw [if_pos c2, if_neg c3, if_neg (fun z => c3 z.2)]
    · rw [if_neg c2, if_neg (fun z => c2 z.1)]
theorem v111 {s p q : Int} {d : mD} (h10 : 0 ≤ d (s + 57) 0 ∧ d (s + 57) 0 ≤ 200) : v_111 (s + 57) p q d = csum (fun k => if d (s + 58) k = p ∧ d (s + 61) k = q then 1 else 0) (d (s + 57) 0).toNat := by
  unfold v_111
  refine cnt0 (L := fun n a k => lp_111_5 (s + 57) p q n a k d) h10.1 (by rw [show (((200 - 0 : Int).toNat : Nat) : Int) = 200 by decide]; omega) (fun n a k h => ?_) (fun n a k h0 h => ?_)
  · cases n with
    | zero =>
      show st_111_5 (s + 57) p q _ a k d = a
      unfold st_111_5
      rw [if_neg (by omega)]
    | succ n =>
      show st_111_5 (s + 57) p q _ a k d = a
      unfold st_111_5
      rw [if_neg (by omega)]
  · show st_111_5 (s + 57) p q _ a k d = _
    unfold st_111_5
    rw [if_pos h, show s + 57 + 1 = s + 58 by omega, show s + 57 + 4 = s + 61 by omega]
    by_cases c2 : d (s + 58) k = p
    · by_cases c3 : d (s + 61) k = q <;> simp [c2, c3]
    · simp [c2]
theorem owned {s p q : Int} {d : mD} {w : Row} (hg : GG w) (h : Rel s d w) : v_111 (s + 57) p q d = V_245 p q w := by
  have n10 := hg.1.2.2.2.1
  obtain ⟨-, -, -, -, -, -, ⟨k1, k2⟩, -⟩ := h
  rw [v111 (by rw [k1]; exact n10), v245 n10, k1]
  refine csum_congr (fun k a b => ?_)
  have g := k2 k a (by omega)
  rw [g.1, g.2.2.2]
-- one token goes to another person
theorem giveStep {s k o : Int} {d : mD} {w : Row} (hg : GG w) (h : Rel s d w) (hk : 0 ≤ k ∧ k < w 10) (ho : 0 ≤ o ∧ o < w 8) : GG (ws w (1916 + 5 * k + 0) o) ∧ Rel s (mset d (s + 58) k o) (ws w (1916 + 5 * k + 0) o) := by
  obtain ⟨hN, hO, hQ, hT, hC, hK, hR⟩ := id hg
  obtain ⟨n7, n8, n9, n10, n11, n0, n1, n2, n3, n4, n5, n6⟩ := id hN
  obtain ⟨rA, rO, rQ, rP, rT, rC, ⟨k1, k2⟩, rR, rB, rH⟩ := h
  generalize hw : ws w (1916 + 5 * k + 0) o = w'
  have eo : w' (1916 + 5 * k + 0) = o := by rw [← hw]; exact wse rfl
  have e : ∀ i, ¬ i = 1916 + 5 * k + 0 → w' i = w i := fun i hi => by rw [← hw]; exact wsn hi
  have fd : ∀ b, ¬ b = s + 58 → mset d (s + 58) k o b = d b := fun b x => by
    funext j
    exact ms_a x
  refine ⟨⟨hN.k (fun i hi => e i (by omega)), hO.k (fun i hi => e i (by omega)) hN, hQ.k (fun i hi => e i (by omega)) hN hO, hT.k (fun i hi => e i (by omega)) hN hO, hC.k (fun i hi => e i (by omega)) hN, hK.k2 (fun i hi => e i (by omega)) hN (fun j x y => ?_), hR.k (fun i hi => e i (by omega)) hN⟩, rA.k (fun b x => fd b (by omega)) (fun i hi => e i (by omega)), rO.k (fun b x y => fd b (by omega)) (fun i hi => e i (by omega)) n7, rQ.k (fd _ (by omega)) (fun i hi => e i (by omega)) n7 hO, rP.k (fun b x y => fd b (by omega)) (fun i hi => e i (by omega)) n8, rT.k (fun b x y => fd b (by omega)) (fun i hi => e i (by omega)) n9, rC.k (fun b x => fd b (by omega)) (fun i hi => e i (by omega)) n9, ⟨?_, fun j x y => ?_⟩, rR.k (by rw [fd _ (by omega)]) (fd _ (by omega)) (fun i hi => e i (by omega)) n11, rB.k (fun b x y => fd b (by omega)) (fun i hi => e i (by omega)) n8 n9 n10 hK.of, rH.k (fun b x y => fd b (by omega)) (fun i hi => e i (by omega)) n8 n9 n10 hK.of⟩
  · have g := hK j x y
    refine ⟨?_, by rw [e _ (by omega)]; exact g.2.2.2.1⟩
    by_cases c : j = k
    · rw [c, eo]; exact ho
    · rw [e _ (by omega)]; exact g.1
  · rw [fd _ (by omega), e 10 (by omega)]; exact k1
  · rw [e 10 (by omega)] at y
    have g := k2 j x y
    rw [fd (s + 59) (by omega), fd (s + 60) (by omega), fd (s + 61) (by omega), e (1916 + 5 * j + 1) (by omega), e (1916 + 5 * j + 2) (by omega), e (1916 + 5 * j + 3) (by omega)]
    refine ⟨?_, g.2⟩
    by_cases c : j = k
    · rw [c, eo, ms_e rfl rfl]
    · rw [e _ (by omega), ms_i c]; exact g.1
theorem giveLoop {s p o m0 : Int} : ∀ (nc nr : Nat) (m k : Int) (d : mD) (w : Row), 0 ≤ k → GG w → Rel s d w → 0 ≤ o ∧ o < w 8 → w 10 - k ≤ (nc : Int) → w 10 - k ≤ (nr : Int) →
    ∃ w', LP_285_79 p o m0 nr m k w = (V_245 o 0 w', w') ∧ GG w' ∧ Rel s (lp_114_6 (s + 57) p o m0 nc m k d) w' ∧ XR w w' := by
  intro nc
  induction nc with
  | zero =>
    intro nr m k d w h0 hg h ho h1 h2
    have k1 := h.2.2.2.2.2.2.1.1
    have e : lp_114_6 (s + 57) p o m0 0 m k d = d := by
      show st_114_6 (s + 57) p o m0 _ m k d = d
      unfold st_114_6
      rw [if_neg (by omega)]
    refine ⟨w, ?_, hg, by rw [e]; exact h, XR.refl⟩
    cases nr with
    | zero =>
      show ST_285_79 p o m0 _ m k w = _
      unfold ST_285_79
      rw [if_neg (by omega)]
    | succ nr =>
      show ST_285_79 p o m0 _ m k w = _
      unfold ST_285_79
      rw [if_neg (by omega)]
  | succ nc ih =>
    intro nr m k d w h0 hg h ho h1 h2
    obtain ⟨k1, k2⟩ := h.2.2.2.2.2.2.1
    by_cases c1 : k < w 10
    · cases nr with
      | zero => omega
      | succ nr =>
        have g := k2 k h0 c1
        by_cases c2 : 0 < m
        · by_cases c3 : w (1916 + 5 * k + 0) = p
          · by_cases c4 : w (1916 + 5 * k + 3) = 0
            · obtain ⟨g', r'⟩ := giveStep (o := o) hg h ⟨h0, c1⟩ ho
              have e : lp_114_6 (s + 57) p o m0 (nc + 1) m k d = lp_114_6 (s + 57) p o m0 nc (m + -1) (k + 1) (mset d (s + 58) k o) := by
                show st_114_6 (s + 57) p o m0 _ m k d = _
                unfold st_114_6
                rw [if_pos (by omega), if_pos c2, show s + 57 + 1 = s + 58 by omega, show s + 57 + 4 = s + 61 by omega, if_pos (by rw [g.1]; exact c3), if_pos (by rw [g.2.2.2]; exact c4)]
              have e2 : LP_285_79 p o m0 (nr + 1) m k w = LP_285_79 p o m0 nr (m + -1) (k + 1) (ws w (1916 + 5 * k + 0) o) := by
                show ST_285_79 p o m0 _ m k w = _
                unfold ST_285_79
                rw [if_pos c1, if_pos c2, if_pos c3, if_pos c4]
              rw [e, e2]
              have e10 : ws w (1916 + 5 * k + 0) o 10 = w 10 := wsn (by omega)
              have e8 : ws w (1916 + 5 * k + 0) o 8 = w 8 := wsn (by omega)
              obtain ⟨w', q1, q2, q3, q4⟩ := ih nr (m + -1) (k + 1) _ _ (by omega) g' r' (by rw [e8]; exact ho) (by rw [e10]; omega) (by rw [e10]; omega)
              exact ⟨w', q1, q2, q3, XR.trans ⟨GXI.keep hg.1.2.1 e8 (wsn (by omega)) (fun t q a b u v => wsn (by have := hg.1.2.2.1; omega)) (fun p a b => wsn (by omega)) (Int.le_of_eq (C2_of e10 (fun j a b => by rw [wsn (by omega)])).symm), wsn (by omega)⟩ q4⟩
            · have e : lp_114_6 (s + 57) p o m0 (nc + 1) m k d = lp_114_6 (s + 57) p o m0 nc m (k + 1) d := by
                show st_114_6 (s + 57) p o m0 _ m k d = _
                unfold st_114_6
                rw [if_pos (by omega), if_pos c2, show s + 57 + 1 = s + 58 by omega, show s + 57 + 4 = s + 61 by omega, if_pos (by rw [g.1]; exact c3), if_neg (by rw [g.2.2.2]; exact c4)]
              have e2 : LP_285_79 p o m0 (nr + 1) m k w = LP_285_79 p o m0 nr m (k + 1) w := by
                show ST_285_79 p o m0 _ m k w = _
                unfold ST_285_79
                rw [if_pos c1, if_pos c2, if_pos c3, if_neg c4]
              rw [e, e2]
              exact ih nr m (k + 1) d w (by omega) hg h ho (by omega) (by omega)
          · have e : lp_114_6 (s + 57) p o m0 (nc + 1) m k d = lp_114_6 (s + 57) p o m0 nc m (k + 1) d := by
              show st_114_6 (s + 57) p o m0 _ m k d = _
              unfold st_114_6
              rw [if_pos (by omega), if_pos c2, show s + 57 + 1 = s + 58 by omega, if_neg (by rw [g.1]; exact c3)]
            have e2 : LP_285_79 p o m0 (nr + 1) m k w = LP_285_79 p o m0 nr m (k + 1) w := by
              show ST_285_79 p o m0 _ m k w = _
              unfold ST_285_79
              rw [if_pos c1, if_pos c2, if_neg c3]
            rw [e, e2]
            exact ih nr m (k + 1) d w (by omega) hg h ho (by omega) (by omega)
        · have e : lp_114_6 (s + 57) p o m0 (nc + 1) m k d = d := by
            show st_114_6 (s + 57) p o m0 _ m k d = d
            unfold st_114_6
            rw [if_pos (by omega), if_neg c2]
          refine ⟨w, ?_, hg, by rw [e]; exact h, XR.refl⟩
          show ST_285_79 p o m0 _ m k w = _
          unfold ST_285_79
          rw [if_pos c1, if_neg c2]
    · have e : lp_114_6 (s + 57) p o m0 (nc + 1) m k d = d := by
        show st_114_6 (s + 57) p o m0 _ m k d = d
        unfold st_114_6
        rw [if_neg (by omega)]
      refine ⟨w, ?_, hg, by rw [e]; exact h, XR.refl⟩
      cases nr with
      | zero =>
        show ST_285_79 p o m0 _ m k w = _
        unfold ST_285_79
        rw [if_neg (by omega)]
      | succ nr =>
        show ST_285_79 p o m0 _ m k w = _
        unfold ST_285_79
        rw [if_neg (by omega)]
-- one token is offered
theorem csum_full {f : Int → Int} {n : Nat} (h : ∀ i : Int, 0 ≤ i → i < (n : Int) → f i ≤ 1) {k : Int} (k0 : 0 ≤ k) (k1 : k < (n : Int)) (hk : f k ≤ 0) : csum f n + 1 ≤ (n : Int) := by
  induction n with
  | zero => omega
  | succ n ih =>
    have hn := h (n : Int) (by omega) (by omega)
    show csum f n + f (n : Int) + 1 ≤ _
    by_cases c : k = (n : Int)
    · rw [c] at hk
      have : ∀ m : Nat, (m : Int) ≤ (n : Int) → csum f m ≤ (m : Int) := fun m => by
        induction m with
        | zero => intro _; simp [csum]
        | succ m ihm =>
          intro hm
          have a := ihm (by omega)
          have b := h (m : Int) (by omega) (by omega)
          show csum f m + f (m : Int) ≤ _
          omega
      have := this n (by omega)
      omega
    · have := ih (fun i a b => h i a (by omega)) (by omega)
      omega
theorem offStep {s k : Int} {d : mD} {w : Row} (hg : GG w) (h : Rel s d w) (hk : 0 ≤ k ∧ k < w 10) (h3 : w (1916 + 5 * k + 3) = 0) : w 11 < 200 ∧ GG (ws (ws (ws w ((1916 + (5 * k)) + 3) 1) (2916 + (w 11)) k) 11 ((w 11) + 1)) ∧ Rel s (mset (mset (mset d (s + 61) k 1) (s + 62) (w 11) k) (s + 57) 5 (w 11 + 1)) (ws (ws (ws w ((1916 + (5 * k)) + 3) 1) (2916 + (w 11)) k) 11 ((w 11) + 1)) := by
  obtain ⟨hN, hO, hQ, hT, hC, hK, hR⟩ := id hg
  obtain ⟨n7, n8, n9, n10, n11, n0, n1, n2, n3, n4, n5, n6⟩ := id hN
  obtain ⟨rA, rO, rQ, rP, rT, rC, ⟨k1, k2⟩, ⟨r1, r2⟩, rB, rH⟩ := h
  have hlt : w 11 < 200 := by
    have := csum_full (f := fun k => if w (1916 + 5 * k + 3) = 1 then 1 else 0) (n := (w 10).toNat) (fun i a b => by
      show (if w (1916 + 5 * i + 3) = 1 then (1 : Int) else 0) ≤ 1
      split <;> omega) (k := k) hk.1 (by omega) (by
      show (if w (1916 + 5 * k + 3) = 1 then (1 : Int) else 0) ≤ 0
      rw [if_neg (by omega)]
      omega)
    have r := hR.1
    omega
  refine ⟨hlt, ?_⟩
  generalize hw : (ws (ws (ws w ((1916 + (5 * k)) + 3) 1) (2916 + (w 11)) k) 11 ((w 11) + 1)) = w'
  have e11 : w' 11 = w 11 + 1 := by rw [← hw]; exact wse rfl
  have e3 : w' (1916 + 5 * k + 3) = 1 := by
    rw [← hw]
    simp (disch := omega) only [wse, wsn]
  have er : w' (2916 + w 11) = k := by
    rw [← hw]
    simp (disch := omega) only [wse, wsn]
  have e : ∀ i, ¬ i = 1916 + 5 * k + 3 → ¬ i = 2916 + w 11 → ¬ i = 11 → w' i = w i := fun i a b c => by
    rw [← hw, wsn c, wsn b, wsn a]
  generalize hd : mset (mset (mset d (s + 61) k 1) (s + 62) (w 11) k) (s + 57) 5 (w 11 + 1) = d'
  have fd : ∀ b, ¬ b = s + 61 → ¬ b = s + 62 → ¬ b = s + 57 → d' b = d b := fun b x y z => by
    rw [← hd]
    funext j
    simp (disch := omega) only [ms_a]
  have nk : ∀ i, 0 ≤ i → i < w 11 → ¬ w (2916 + i) = k := fun i a b z => by
    have := (hR.2 i a b).2.1
    rw [z] at this
    omega
  refine ⟨⟨?_, hO.k (fun i hi => e i (by omega) (by omega) (by omega)) hN, hQ.k (fun i hi => e i (by omega) (by omega) (by omega)) hN hO, hT.k (fun i hi => e i (by omega) (by omega) (by omega)) hN hO, hC.k (fun i hi => e i (by omega) (by omega) (by omega)) hN, hK.k2 (fun i hi => e i (by omega) (by omega) (by omega)) hN (fun j x y => ?_), ⟨?_, fun j x y => ?_⟩⟩, rA.k (fun b x => fd b (by omega) (by omega) (by omega)) (fun i hi => e i (by omega) (by omega) (by omega)), rO.k (fun b x y => fd b (by omega) (by omega) (by omega)) (fun i hi => e i (by omega) (by omega) (by omega)) n7, rQ.k (fd _ (by omega) (by omega) (by omega)) (fun i hi => e i (by omega) (by omega) (by omega)) n7 hO, rP.k (fun b x y => fd b (by omega) (by omega) (by omega)) (fun i hi => e i (by omega) (by omega) (by omega)) n8, rT.k (fun b x y => fd b (by omega) (by omega) (by omega)) (fun i hi => e i (by omega) (by omega) (by omega)) n9, rC.k (fun b x => fd b (by omega) (by omega) (by omega)) (fun i hi => e i (by omega) (by omega) (by omega)) n9, ⟨?_, fun j x y => ?_⟩, ⟨?_, fun j x y => ?_⟩, rB.k (fun b x y => fd b (by omega) (by omega) (by omega)) (fun i hi => e i (by omega) (by omega) (by omega)) n8 n9 n10 hK.of, rH.k (fun b x y => fd b (by omega) (by omega) (by omega)) (fun i hi => e i (by omega) (by omega) (by omega)) n8 n9 n10 hK.of⟩
  · unfold GN
    rw [e11, e 0 (by omega) (by omega) (by omega), e 1 (by omega) (by omega) (by omega), e 2 (by omega) (by omega) (by omega), e 3 (by omega) (by omega) (by omega), e 4 (by omega) (by omega) (by omega), e 5 (by omega) (by omega) (by omega), e 6 (by omega) (by omega) (by omega), e 7 (by omega) (by omega) (by omega), e 8 (by omega) (by omega) (by omega), e 9 (by omega) (by omega) (by omega), e 10 (by omega) (by omega) (by omega)]
    omega
  · have g := hK j x y
    refine ⟨by rw [e _ (by omega) (by omega) (by omega)]; exact g.1, ?_⟩
    by_cases c : j = k
    · rw [c, e3]; omega
    · rw [e _ (by omega) (by omega) (by omega)]; exact g.2.2.2.1
  · have hs := csum_upd (f := fun k => if w' (1916 + 5 * k + 3) = 1 then 1 else 0) (g := fun k => if w (1916 + 5 * k + 3) = 1 then 1 else 0) (n := (w 10).toNat) (k := k) hk.1 (by omega) (fun i a b c => by
      show (if w' (1916 + 5 * i + 3) = 1 then (1 : Int) else 0) = if w (1916 + 5 * i + 3) = 1 then 1 else 0
      rw [e _ (by omega) (by omega) (by omega)])
    rw [e3, h3, if_pos rfl, if_neg (by decide)] at hs
    rw [e11, e 10 (by omega) (by omega) (by omega), hs, ← hR.1]
    omega
  · rw [e11] at y
    rw [e 10 (by omega) (by omega) (by omega)]
    by_cases c : j = w 11
    · rw [c, er, e3]
      refine ⟨hk, rfl, fun i a b => ?_⟩
      rw [e _ (by omega) (by omega) (by omega)]
      exact nk i a b
    · have g := hR.2 j x (by omega)
      have := nk j x (by omega)
      rw [e (2916 + j) (by omega) (by omega) (by omega), e (1916 + 5 * w (2916 + j) + 3) (by omega) (by omega) (by omega)]
      refine ⟨g.1, g.2.1, fun i a b => ?_⟩
      rw [e (2916 + i) (by omega) (by omega) (by omega)]
      exact g.2.2 i a b
  · rw [e 10 (by omega) (by omega) (by omega), ← hd, ms_i (by omega)]
    simp (disch := omega) only [ms_a]
    exact k1
  · rw [e 10 (by omega) (by omega) (by omega)] at y
    have g := k2 j x y
    rw [fd (s + 58) (by omega) (by omega) (by omega), fd (s + 59) (by omega) (by omega) (by omega), fd (s + 60) (by omega) (by omega) (by omega), e (1916 + 5 * j + 0) (by omega) (by omega) (by omega), e (1916 + 5 * j + 1) (by omega) (by omega) (by omega), e (1916 + 5 * j + 2) (by omega) (by omega) (by omega)]
    refine ⟨g.1, g.2.1, g.2.2.1, ?_⟩
    rw [← hd]
    by_cases c : j = k
    · rw [c, e3]
      simp (disch := omega) only [ms_a, ms_e]
    · rw [e _ (by omega) (by omega) (by omega)]
      simp (disch := omega) only [ms_a, ms_i]
      exact g.2.2.2
  · rw [e11, ← hd, ms_e rfl rfl]
  · rw [e11] at y
    rw [← hd]
    by_cases c : j = w 11
    · rw [c, er]
      simp (disch := omega) only [ms_a, ms_e]
    · rw [e _ (by omega) (by omega) (by omega)]
      simp (disch := omega) only [ms_a, ms_i]
      exact r2 j x (by omega)
theorem offIdle {p m0 : Int} : ∀ (n : Nat) (m k : Int) (w : Row), w 10 - k ≤ (n : Int) → 0 ≤ k → (∀ j, 0 ≤ j → j < w 10 → ¬ w (1916 + 5 * j + 3) = 0) → LP_286_65 p m0 n m k w = (V_219 w, W_219 w) := by
  intro n
  induction n with
  | zero =>
    intro m k w hn h0 hz
    show ST_286_65 p m0 _ m k w = _
    unfold ST_286_65
    rw [if_neg (by omega)]
  | succ n ih =>
    intro m k w hn h0 hz
    show ST_286_65 p m0 _ m k w = _
    unfold ST_286_65
    by_cases c1 : k < w 10
    · rw [if_pos c1]
      by_cases c2 : 0 < m
      · rw [if_pos c2, if_neg (hz k h0 c1)]
        split
        · exact ih m (k + 1) w (by omega) (by omega) hz
        · exact ih m (k + 1) w (by omega) (by omega) hz
      · rw [if_neg c2]
    · rw [if_neg c1]
theorem offLoop {s p m0 : Int} : ∀ (nc nr : Nat) (m k : Int) (d : mD) (w : Row), 0 ≤ k → GG w → Rel s d w → w 10 - k ≤ (nc : Int) → w 10 - k ≤ (nr : Int) →
    ∃ w', LP_286_65 p m0 nr m k w = (V_219 w', W_219 w') ∧ GG w' ∧ Rel s (lp_115_5 (s + 57) p m0 nc m k d) w' ∧ XR w w' := by
  intro nc
  induction nc with
  | zero =>
    intro nr m k d w h0 hg h h1 h2
    have k1 := h.2.2.2.2.2.2.1.1
    have e : lp_115_5 (s + 57) p m0 0 m k d = d := by
      show st_115_5 (s + 57) p m0 _ m k d = d
      unfold st_115_5
      rw [if_neg (by omega)]
    refine ⟨w, ?_, hg, by rw [e]; exact h, XR.refl⟩
    cases nr with
    | zero =>
      show ST_286_65 p m0 _ m k w = _
      unfold ST_286_65
      rw [if_neg (by omega)]
    | succ nr =>
      show ST_286_65 p m0 _ m k w = _
      unfold ST_286_65
      rw [if_neg (by omega)]
  | succ nc ih =>
    intro nr m k d w h0 hg h h1 h2
    obtain ⟨k1, k2⟩ := h.2.2.2.2.2.2.1
    have r1 := h.2.2.2.2.2.2.2.1.1
    by_cases c1 : k < w 10
    · cases nr with
      | zero => omega
      | succ nr =>
        have g := k2 k h0 c1
        by_cases c2 : 0 < m
        · by_cases c5 : w 11 < 200
          · by_cases c3 : w (1916 + 5 * k + 0) = p
            · by_cases c4 : w (1916 + 5 * k + 3) = 0
              · obtain ⟨-, g', r'⟩ := offStep hg h ⟨h0, c1⟩ c4
                have e : lp_115_5 (s + 57) p m0 (nc + 1) m k d = lp_115_5 (s + 57) p m0 nc (m + -1) (k + 1) (mset (mset (mset d (s + 61) k 1) (s + 62) (w 11) k) (s + 57) 5 (w 11 + 1)) := by
                  show st_115_5 (s + 57) p m0 _ m k d = _
                  unfold st_115_5
                  rw [if_pos (by omega), if_pos c2, if_pos (by rw [r1]; exact c5), show s + 57 + 1 = s + 58 by omega, show s + 57 + 4 = s + 61 by omega, show s + 57 + 5 = s + 62 by omega, if_pos (by rw [g.1]; exact c3), if_pos (by rw [g.2.2.2]; exact c4), r1]
                have e2 : LP_286_65 p m0 (nr + 1) m k w = LP_286_65 p m0 nr (m + -1) (k + 1) (ws (ws (ws w ((1916 + (5 * k)) + 3) 1) (2916 + (w 11)) k) 11 ((w 11) + 1)) := by
                  show ST_286_65 p m0 _ m k w = _
                  unfold ST_286_65
                  rw [if_pos c1, if_pos c2, if_pos c3, if_pos c4]
                rw [e, e2]
                have n11 := hg.1.2.2.2.2.1
                have e10 : (ws (ws (ws w ((1916 + (5 * k)) + 3) 1) (2916 + (w 11)) k) 11 ((w 11) + 1)) 10 = w 10 := by
                  simp (disch := omega) only [wsn]
                obtain ⟨w', q1, q2, q3, q4⟩ := ih nr (m + -1) (k + 1) _ _ (by omega) g' r' (by rw [e10]; omega) (by rw [e10]; omega)
                refine ⟨w', q1, q2, q3, XR.trans ?_ q4⟩
                have n8 := hg.1.2.1
                have n9 := hg.1.2.2.1
                have n10 := hg.1.2.2.2.1
                generalize hu : (ws (ws (ws w ((1916 + (5 * k)) + 3) 1) (2916 + (w 11)) k) 11 ((w 11) + 1)) = u at *
                have ue : ∀ i, ¬ i = 11 → ¬ i = 1916 + 5 * k + 3 → ¬ i = 2916 + w 11 → u i = w i := fun i a b c => by
                  rw [← hu]
                  simp (disch := omega) only [wsn]
                have u3 : u (1916 + 5 * k + 3) = 1 := by
                  rw [← hu]
                  simp (disch := omega) only [wsn, wse]
                refine ⟨GXI.keep hg.1.2.1 (ue 8 (by omega) (by omega) (by omega)) (ue 9 (by omega) (by omega) (by omega)) (fun t q a b x y => ue _ (by omega) (by omega) (by omega)) (fun p a b => ue _ (by omega) (by omega) (by omega)) (Int.le_of_eq (C2_of e10 (fun j a b => ?_)).symm), ue 0 (by omega) (by omega) (by omega)⟩
                by_cases z : j = k
                · rw [z, u3, c4]
                  exact ⟨fun y => absurd y (by decide), fun y => absurd y (by decide)⟩
                · rw [ue _ (by omega) (by omega) (by omega)]
              · have e : lp_115_5 (s + 57) p m0 (nc + 1) m k d = lp_115_5 (s + 57) p m0 nc m (k + 1) d := by
                  show st_115_5 (s + 57) p m0 _ m k d = _
                  unfold st_115_5
                  rw [if_pos (by omega), if_pos c2, if_pos (by rw [r1]; exact c5), show s + 57 + 1 = s + 58 by omega, show s + 57 + 4 = s + 61 by omega, if_pos (by rw [g.1]; exact c3), if_neg (by rw [g.2.2.2]; exact c4)]
                have e2 : LP_286_65 p m0 (nr + 1) m k w = LP_286_65 p m0 nr m (k + 1) w := by
                  show ST_286_65 p m0 _ m k w = _
                  unfold ST_286_65
                  rw [if_pos c1, if_pos c2, if_pos c3, if_neg c4]
                rw [e, e2]
                exact ih nr m (k + 1) d w (by omega) hg h (by omega) (by omega)
            · have e : lp_115_5 (s + 57) p m0 (nc + 1) m k d = lp_115_5 (s + 57) p m0 nc m (k + 1) d := by
                show st_115_5 (s + 57) p m0 _ m k d = _
                unfold st_115_5
                rw [if_pos (by omega), if_pos c2, if_pos (by rw [r1]; exact c5), show s + 57 + 1 = s + 58 by omega, if_neg (by rw [g.1]; exact c3)]
              have e2 : LP_286_65 p m0 (nr + 1) m k w = LP_286_65 p m0 nr m (k + 1) w := by
                show ST_286_65 p m0 _ m k w = _
                unfold ST_286_65
                rw [if_pos c1, if_pos c2, if_neg c3]
              rw [e, e2]
              exact ih nr m (k + 1) d w (by omega) hg h (by omega) (by omega)
          · have e : lp_115_5 (s + 57) p m0 (nc + 1) m k d = d := by
              show st_115_5 (s + 57) p m0 _ m k d = d
              unfold st_115_5
              rw [if_pos (by omega), if_pos c2, if_neg (by rw [r1]; exact c5)]
            refine ⟨w, offIdle (nr + 1) m k w (by omega) h0 (fun j a b z => ?_), hg, by rw [e]; exact h, XR.refl⟩
            exact absurd (offStep hg h ⟨a, b⟩ z).1 c5
        · have e : lp_115_5 (s + 57) p m0 (nc + 1) m k d = d := by
            show st_115_5 (s + 57) p m0 _ m k d = d
            unfold st_115_5
            rw [if_pos (by omega), if_neg c2]
          refine ⟨w, ?_, hg, by rw [e]; exact h, XR.refl⟩
          show ST_286_65 p m0 _ m k w = _
          unfold ST_286_65
          rw [if_pos c1, if_neg c2]
    · have e : lp_115_5 (s + 57) p m0 (nc + 1) m k d = d := by
        show st_115_5 (s + 57) p m0 _ m k d = d
        unfold st_115_5
        rw [if_neg (by omega)]
      refine ⟨w, ?_, hg, by rw [e]; exact h, XR.refl⟩
      cases nr with
      | zero =>
        show ST_286_65 p m0 _ m k w = _
        unfold ST_286_65
        rw [if_neg (by omega)]
      | succ nr =>
        show ST_286_65 p m0 _ m k w = _
        unfold ST_286_65
        rw [if_neg (by omega)]
/-! ===== small changes ===== -/
theorem GWt.of {w w' : Row} (h : GWt w) (h8 : w' 8 = w 8) (h9 : w' 9 = w 9) (e : ∀ t q, 0 ≤ t → t < w 9 → 0 ≤ q → q < 16 → w' (452 + 24 * t + 8 + q) = w (452 + 24 * t + 8 + q)) (p8 : 0 ≤ w 8) : GWt w' := by
  intro t x y q u v
  rw [h9] at y
  rw [h8] at u
  rw [e t q x y (by omega) v]
  exact h t x y q u v
-- one number ahead of the offices
theorem setHead {s j v : Int} {d d' : mD} {w : Row} (hg : GG w) (h : Rel s d w) (hj : 1 ≤ j ∧ j ≤ 6) (hN' : GN (ws w j v)) (hA : RelA s d' (ws w j v)) (hd : ∀ b, ¬ b = s → ¬ b = s + 1 → d' b = d b) : GG (ws w j v) ∧ Rel s d' (ws w j v) := by
  obtain ⟨hN, hO, hQ, hT, hC, hK, hR⟩ := id hg
  obtain ⟨n7, n8, n9, n10, n11, n0, n1, n2, n3, n4, n5, n6⟩ := id hN
  obtain ⟨rA, rO, rQ, rP, rT, rC, rK, rR, rB, rH⟩ := h
  have e : ∀ i, ¬ (1 ≤ i ∧ i ≤ 6) → ws w j v i = w i := fun i hi => wsn (by omega)
  generalize ws w j v = w' at *
  exact ⟨⟨hN', hO.k (fun i hi => e i (by omega)) hN, hQ.k (fun i hi => e i (by omega)) hN hO, hT.k (fun i hi => e i (by omega)) hN hO, hC.k (fun i hi => e i (by omega)) hN, hK.k (fun i hi => e i (by omega)) hN, hR.k (fun i hi => e i (by omega)) hN⟩, hA, rO.k (fun b x y => hd b (by omega) (by omega)) (fun i hi => e i (by omega)) n7, rQ.k (hd _ (by omega) (by omega)) (fun i hi => e i (by omega)) n7 hO, rP.k (fun b x y => hd b (by omega) (by omega)) (fun i hi => e i (by omega)) n8, rT.k (fun b x y => hd b (by omega) (by omega)) (fun i hi => e i (by omega)) n9, rC.k (fun b x => hd b (by omega) (by omega)) (fun i hi => e i (by omega)) n9, rK.k (by rw [hd _ (by omega) (by omega)]) (fun b x y => hd b (by omega) (by omega)) (fun i hi => e i (by omega)) n10, rR.k (by rw [hd _ (by omega) (by omega)]) (hd _ (by omega) (by omega)) (fun i hi => e i (by omega)) n11, rB.k (fun b x y => hd b (by omega) (by omega)) (fun i hi => e i (by omega)) n8 n9 n10 hK.of, rH.k (fun b x y => hd b (by omega) (by omega)) (fun i hi => e i (by omega)) n8 n9 n10 hK.of⟩
theorem setFund {s v : Int} {d : mD} {w : Row} (hg : GG w) (h : Rel s d w) (hv : 0 ≤ v ∧ v ≤ 99999) : GG (ws w 1 v) ∧ Rel s (mset d s 1 v) (ws w 1 v) := by
  obtain ⟨n7, n8, n9, n10, n11, n0, n1, n2, n3, n4, n5, n6⟩ := id hg.1
  obtain ⟨a1, a2, a3⟩ := id h.1
  refine setHead hg h ⟨by decide, by decide⟩ ?_ ⟨?_, ?_, fun k x y => ?_⟩ (fun b x y => by funext j; exact ms_a x)
  · unfold GN
    simp (disch := omega) only [wse, wsn]
    omega
  · rw [wse rfl, ms_e rfl rfl]
  · rw [wsn (by omega), ms_i (by omega)]; exact a2
  · rw [wsn (by omega), ms_a (by omega)]; exact a3 k x y
theorem setSet {s k v : Int} {d : mD} {w : Row} (hg : GG w) (h : Rel s d w) (hk : 0 ≤ k ∧ k < 5) (hN' : GN (ws w (2 + k) v)) : GG (ws w (2 + k) v) ∧ Rel s (mset d (s + 1) k v) (ws w (2 + k) v) := by
  obtain ⟨a1, a2, a3⟩ := id h.1
  refine setHead hg h ⟨by omega, by omega⟩ hN' ⟨?_, ?_, fun j x y => ?_⟩ (fun b x y => by funext j; exact ms_a y)
  · rw [wsn (by omega), ms_a (by omega)]; exact a1
  · rw [wsn (by omega), ms_a (by omega)]; exact a2
  · by_cases c : j = k
    · rw [c, wse rfl, ms_e rfl rfl]
    · rw [wsn (by omega), ms_i c]; exact a3 j x y
theorem setOpen {s o : Int} {d : mD} {w : Row} (hg : GG w) (h : Rel s d w) (ho : 0 ≤ o ∧ o < w 7) : GG (ws w (12 + 68 * o + 4) 1) ∧ Rel s (mset d (s + 7) o 1) (ws w (12 + 68 * o + 4) 1) := by
  obtain ⟨hN, hO, hQ, hT, hC, hK, hR⟩ := id hg
  obtain ⟨n7, n8, n9, n10, n11, n0, n1, n2, n3, n4, n5, n6⟩ := id hN
  obtain ⟨rA, ⟨o1, o2⟩, rQ, rP, rT, rC, rK, rR, rB, rH⟩ := h
  have eo : ws w (12 + 68 * o + 4) 1 (12 + 68 * o + 4) = 1 := wse rfl
  have e : ∀ i, ¬ i = 12 + 68 * o + 4 → ws w (12 + 68 * o + 4) 1 i = w i := fun i hi => wsn hi
  generalize ws w (12 + 68 * o + 4) 1 = w' at *
  have fd : ∀ b, ¬ b = s + 7 → mset d (s + 7) o 1 b = d b := fun b x => by
    funext j
    exact ms_a x
  refine ⟨⟨hN.k (fun i hi => e i (by omega)), fun o' x y => ?_, hQ.k (fun i hi => e i (by omega)) hN hO, hT.k (fun i hi => e i (by omega)) hN hO, hC.k (fun i hi => e i (by omega)) hN, hK.k (fun i hi => e i (by omega)) hN, hR.k (fun i hi => e i (by omega)) hN⟩, rA.k (fun b x => fd b (by omega)) (fun i hi => e i (by omega)), ⟨?_, fun o' x y => ?_⟩, rQ.k (fd _ (by omega)) (fun i hi => e i (by omega)) n7 hO, rP.k (fun b x y => fd b (by omega)) (fun i hi => e i (by omega)) n8, rT.k (fun b x y => fd b (by omega)) (fun i hi => e i (by omega)) n9, rC.k (fun b x => fd b (by omega)) (fun i hi => e i (by omega)) n9, rK.k (by rw [fd _ (by omega)]) (fun b x y => fd b (by omega)) (fun i hi => e i (by omega)) n10, rR.k (by rw [fd _ (by omega)]) (fd _ (by omega)) (fun i hi => e i (by omega)) n11, rB.k (fun b x y => fd b (by omega)) (fun i hi => e i (by omega)) n8 n9 n10 hK.of, rH.k (fun b x y => fd b (by omega)) (fun i hi => e i (by omega)) n8 n9 n10 hK.of⟩
  · rw [e 7 (by omega)] at y
    have g := hO o' x y
    rw [e (12 + 68 * o' + 1) (by omega), e (12 + 68 * o' + 2) (by omega), e (12 + 68 * o' + 3) (by omega), e (12 + 68 * o' + 5) (by omega), e (12 + 68 * o' + 6) (by omega), e 9 (by omega), csum_congr (f := fun t => if w' (452 + 24 * t + 4) = 1 ∧ w' (452 + 24 * t + 1) = o' then 1 else 0) (g := fun t => if w (452 + 24 * t + 4) = 1 ∧ w (452 + 24 * t + 1) = o' then 1 else 0) (fun t a b => by
      show (if w' (452 + 24 * t + 4) = 1 ∧ w' (452 + 24 * t + 1) = o' then (1 : Int) else 0) = if w (452 + 24 * t + 4) = 1 ∧ w (452 + 24 * t + 1) = o' then 1 else 0
      rw [e (452 + 24 * t + 4) (by omega), e (452 + 24 * t + 1) (by omega)])]
    by_cases c : o' = o
    · rw [c, eo]
      rw [c] at g
      exact ⟨g.1, g.2.1, g.2.2.1, Or.inr rfl, g.2.2.2.2.1, fun z => absurd z (by decide), g.2.2.2.2.2.2⟩
    · rw [e (12 + 68 * o' + 4) (by omega)]
      exact g
  · rw [fd _ (by omega), e 7 (by omega)]; exact o1
  · rw [e 7 (by omega)] at y
    have g := o2 o' x y
    rw [fd (s + 3) (by omega), fd (s + 4) (by omega), fd (s + 5) (by omega), fd (s + 6) (by omega), fd (s + 8) (by omega), e (12 + 68 * o' + 0) (by omega), e (12 + 68 * o' + 1) (by omega), e (12 + 68 * o' + 2) (by omega), e (12 + 68 * o' + 3) (by omega), e (12 + 68 * o' + 5) (by omega)]
    refine ⟨g.1, g.2.1, g.2.2.1, g.2.2.2.1, ?_, g.2.2.2.2.2⟩
    by_cases c : o' = o
    · rw [c, eo, ms_e rfl rfl]
    · rw [e _ (by omega), ms_i c]; exact g.2.2.2.2.1
-- a new person
theorem addP {s c : Int} {d : mD} {w : Row} (hg : GG w) (hw : GWt w) (h : Rel s d w) (h8 : w 8 < 16) (hc : okN c) : GG (W_182 (nm c) w) ∧ GWt (W_182 (nm c) w) ∧ Rel s (g_47 (s + 10) c d) (W_182 (nm c) w) ∧ W_182 (nm c) w 8 = w 8 + 1 ∧ ∀ i, ¬ i = 8 → ¬ (420 ≤ i ∧ i < 452) → W_182 (nm c) w i = w i := by
  obtain ⟨hN, hO, hQ, hT, hC, hK, hR⟩ := id hg
  obtain ⟨n7, n8, n9, n10, n11, n0, n1, n2, n3, n4, n5, n6⟩ := id hN
  obtain ⟨rA, rO, rQ, ⟨p1, p2⟩, rT, rC, rK, rR, rB, rH⟩ := h
  generalize hw' : W_182 (nm c) w = w'
  have e8 : w' 8 = w 8 + 1 := by
    rw [← hw']
    unfold W_182
    simp (disch := omega) only [wse, wsn]
  have ep0 : w' (420 + 2 * w 8 + 0) = nm c := by
    rw [← hw']
    unfold W_182
    simp (disch := omega) only [wse, wsn]
  have ep1 : w' (420 + 2 * w 8 + 1) = 0 := by
    rw [← hw']
    unfold W_182
    simp (disch := omega) only [wse, wsn]
  have e : ∀ i, ¬ i = 8 → ¬ i = 420 + 2 * w 8 + 0 → ¬ i = 420 + 2 * w 8 + 1 → w' i = w i := fun i x y z => by
    rw [← hw']
    unfold W_182
    simp (disch := omega) only [wsn]
  have eh : g_8 (s + 10 + 6 + (1 + 2 * w 8)) = fun d => mfl d (s + 18 + 2 * w 8) 0 16 := by
    funext d
    unfold g_8 g_300
    rw [show s + 10 + 6 + (1 + 2 * w 8) + 1 = s + 18 + 2 * w 8 by omega]
  generalize hd : g_47 (s + 10) c d = d'
  have ed : d' = mset (mfl (mset (mset (mset (mset (mset d (s + 11) (w 8) c) (s + 12) (w 8) 0) (s + 13) (w 8) 0) (s + 14) (w 8) 0) (s + 15) (w 8) 0) (s + 18 + 2 * w 8) 0 16) (s + 10) 0 (w 8 + 1) := by
    rw [← hd]
    unfold g_47
    rw [p1, if_pos h8, eh]
    simp only [show s + 10 + 1 = s + 11 by omega, show s + 10 + 2 = s + 12 by omega, show s + 10 + 3 = s + 13 by omega, show s + 10 + 4 = s + 14 by omega, show s + 10 + 5 = s + 15 by omega]
  have fd : ∀ b, ¬ (s + 10 ≤ b ∧ b ≤ s + 15) → ¬ b = s + 18 + 2 * w 8 → d' b = d b := fun b x y => by
    rw [ed]
    funext j
    simp (disch := omega) only [ms_a, fl_n]
  have fe : ∀ b j, s + 11 ≤ b → b ≤ s + 15 → ¬ j = w 8 → d' b j = d b j := fun b j x y z => by
    rw [ed]
    simp (disch := omega) only [ms_a, ms_i, fl_n]
  have pO : ∀ k, perO w' k = perO w k ∨ ¬ (0 ≤ k ∧ k < w 10) := fun k => by
    by_cases q : 0 ≤ k ∧ k < w 10
    · have g := hK k q.1 q.2
      refine Or.inl ?_
      unfold perO
      rw [e (1916 + 5 * k + 1) (by omega) (by omega) (by omega), e _ (by omega) (by omega) (by omega)]
    · exact Or.inr q
  have pO' : ∀ k, 0 ≤ k → k < w 10 → perO w' k = perO w k ∧ perO w k < w 8 := fun k a b => by
    refine ⟨(pO k).elim id (fun z => absurd ⟨a, b⟩ z), ?_⟩
    have g := hK k a b
    exact (hT _ g.2.1.1 g.2.1.2).1.2
  refine ⟨⟨?_, hO.k (fun i hi => e i (by omega) (by omega) (by omega)) hN, hQ.k (fun i hi => e i (by omega) (by omega) (by omega)) hN hO, ?_, hC.k (fun i hi => e i (by omega) (by omega) (by omega)) hN, ?_, hR.k (fun i hi => e i (by omega) (by omega) (by omega)) hN⟩, ?_, ⟨rA.k (fun b x => fd b (by omega) (by omega)) (fun i hi => e i (by omega) (by omega) (by omega)), rO.k (fun b x y => fd b (by omega) (by omega)) (fun i hi => e i (by omega) (by omega) (by omega)) n7, rQ.k (fd _ (by omega) (by omega)) (fun i hi => e i (by omega) (by omega) (by omega)) n7 hO, ⟨?_, fun p x y => ?_⟩, rT.k (fun b x y => fd b (by omega) (by omega)) (fun i hi => e i (by omega) (by omega) (by omega)) n9, rC.k (fun b x => fd b (by omega) (by omega)) (fun i hi => e i (by omega) (by omega) (by omega)) n9, rK.k (by rw [fd _ (by omega) (by omega)]) (fun b x y => fd b (by omega) (by omega)) (fun i hi => e i (by omega) (by omega) (by omega)) n10, rR.k (by rw [fd _ (by omega) (by omega)]) (fd _ (by omega) (by omega)) (fun i hi => e i (by omega) (by omega) (by omega)) n11, ?_, ?_⟩, e8, fun i x y => e i x (by omega) (by omega)⟩
  · unfold GN
    rw [e8, e 0 (by omega) (by omega) (by omega), e 1 (by omega) (by omega) (by omega), e 2 (by omega) (by omega) (by omega), e 3 (by omega) (by omega) (by omega), e 4 (by omega) (by omega) (by omega), e 5 (by omega) (by omega) (by omega), e 6 (by omega) (by omega) (by omega), e 7 (by omega) (by omega) (by omega), e 9 (by omega) (by omega) (by omega), e 10 (by omega) (by omega) (by omega), e 11 (by omega) (by omega) (by omega)]
    omega
  · intro t x y
    rw [e 9 (by omega) (by omega) (by omega)] at y
    have g := hT t x y
    rw [e (452 + 24 * t + 0) (by omega) (by omega) (by omega), e (452 + 24 * t + 1) (by omega) (by omega) (by omega), e (452 + 24 * t + 2) (by omega) (by omega) (by omega), e (452 + 24 * t + 3) (by omega) (by omega) (by omega), e (452 + 24 * t + 4) (by omega) (by omega) (by omega), e 0 (by omega) (by omega) (by omega), e 7 (by omega) (by omega) (by omega), e8]
    refine ⟨by omega, g.2.1, g.2.2.1, g.2.2.2.1, fun z => ?_, g.2.2.2.2.2⟩
    obtain ⟨z1, k, z2, z3, z4⟩ := g.2.2.2.2.1 z
    have go := hO _ g.2.1.1 g.2.1.2
    exact ⟨z1, k, z2, by rw [e _ (by omega) (by omega) (by omega)]; exact z3, by rw [e _ (by omega) (by omega) (by omega)]; exact z4⟩
  · intro k x y
    rw [e 10 (by omega) (by omega) (by omega)] at y
    have g := hK k x y
    rw [e (1916 + 5 * k + 0) (by omega) (by omega) (by omega), e (1916 + 5 * k + 1) (by omega) (by omega) (by omega), e (1916 + 5 * k + 2) (by omega) (by omega) (by omega), e (1916 + 5 * k + 3) (by omega) (by omega) (by omega), e (1916 + 5 * k + 4) (by omega) (by omega) (by omega), e 0 (by omega) (by omega) (by omega), e8, e 9 (by omega) (by omega) (by omega), (pO' k x y).1]
    refine ⟨by omega, g.2.1, g.2.2.1, g.2.2.2.1, g.2.2.2.2.1, fun i a b => ?_⟩
    rw [e (1916 + 5 * i + 2) (by omega) (by omega) (by omega), (pO' i a (by omega)).1]
    exact g.2.2.2.2.2 i a b
  · intro t x y q u v
    rw [e 9 (by omega) (by omega) (by omega)] at y
    rw [e8] at u
    rw [e _ (by omega) (by omega) (by omega)]
    exact hw t x y q (by omega) v
  · rw [ed, e8, ms_e rfl rfl]
  · rw [e8] at y
    by_cases q : p = w 8
    · rw [q, ep0, ep1, ed]
      simp (disch := omega) only [ms_a, ms_e, fl_n]
      exact ⟨⟨hc, trivial⟩, trivial⟩
    · rw [e (420 + 2 * p + 0) (by omega) (by omega) (by omega), e (420 + 2 * p + 1) (by omega) (by omega) (by omega), fe (s + 11) p (by omega) (by omega) q, fe (s + 12) p (by omega) (by omega) q]
      exact p2 p x (by omega)
  · intro p x y
    rw [e8] at y
    have hm : madeR w' p = madeR w p := madeR_k' (e 10 (by omega) (by omega) (by omega)) (fun k a b => ⟨(pO' k a b).1, e _ (by omega) (by omega) (by omega), e 0 (by omega) (by omega) (by omega)⟩)
    have ha : attR w' p = attR w p := by
      unfold attR
      rw [e 9 (by omega) (by omega) (by omega), e 0 (by omega) (by omega) (by omega)]
      exact csum_congr (fun t a b => by rw [e (452 + 24 * t + 8 + p) (by omega) (by omega) (by omega)])
    have hb : ∀ r, (∃ t, 0 ≤ t ∧ t < w' 9 ∧ w' (452 + 24 * t + 0) = r ∧ attd w' t p) ↔ ∃ t, 0 ≤ t ∧ t < w 9 ∧ w (452 + 24 * t + 0) = r ∧ attd w t p := fun r => by
      rw [e 9 (by omega) (by omega) (by omega)]
      constructor
      · rintro ⟨t, a, b, c, dd⟩
        rw [e _ (by omega) (by omega) (by omega)] at c
        unfold attd at dd
        rw [e (452 + 24 * t + 8 + p) (by omega) (by omega) (by omega), e 0 (by omega) (by omega) (by omega)] at dd
        exact ⟨t, a, b, c, dd⟩
      · rintro ⟨t, a, b, c, dd⟩
        refine ⟨t, a, b, by rw [e _ (by omega) (by omega) (by omega)]; exact c, ?_⟩
        unfold attd
        rw [e (452 + 24 * t + 8 + p) (by omega) (by omega) (by omega), e 0 (by omega) (by omega) (by omega)]
        exact dd
    rw [hm, ha]
    by_cases q : p = w 8
    · have z1 : d' (s + 13) p = 0 := by
        rw [ed, q]
        simp (disch := omega) only [ms_a, ms_e, fl_n]
      have z2 : d' (s + 14) p = 0 := by
        rw [ed, q]
        simp (disch := omega) only [ms_a, ms_e, fl_n]
      have z3 : d' (s + 15) p = 0 := by
        rw [ed, q]
        simp (disch := omega) only [ms_a, ms_e, fl_n]
      rw [z1, z2, z3]
      refine ⟨?_, ?_, fun r a b => ?_⟩
      · unfold madeR
        refine (csum_zero (fun k a b => ?_)).symm
        have := (pO' k a (by omega)).2
        rw [if_neg (by omega)]
      · unfold attR
        refine (csum_zero (fun t a b => ?_)).symm
        rw [hw t a (by omega) p (by omega) (by omega), if_neg (by omega)]
      · rw [ib_zero, hb]
        constructor
        · intro z; cases z
        · rintro ⟨t, a, b, c, dd⟩
          unfold attd at dd
          rw [hw t a b p (by omega) (by omega)] at dd
          omega
    · obtain ⟨g1, g2, g3⟩ := rB p x (by omega)
      rw [fe (s + 13) p (by omega) (by omega) q, fe (s + 14) p (by omega) (by omega) q, fe (s + 15) p (by omega) (by omega) q]
      exact ⟨g1, g2, fun r a b => (g3 r a b).trans (hb r).symm⟩
  · intro p x y h0 u v
    rw [e8] at y
    have hb : (∃ k, 0 ≤ k ∧ k < w' 10 ∧ w' (1916 + 5 * k + 2) = h0 ∧ perO w' k = p) ↔ ∃ k, 0 ≤ k ∧ k < w 10 ∧ w (1916 + 5 * k + 2) = h0 ∧ perO w k = p := by
      rw [e 10 (by omega) (by omega) (by omega)]
      constructor
      · rintro ⟨k, a, b, c, dd⟩
        rw [e _ (by omega) (by omega) (by omega)] at c
        rw [(pO' k a b).1] at dd
        exact ⟨k, a, b, c, dd⟩
      · rintro ⟨k, a, b, c, dd⟩
        exact ⟨k, a, b, by rw [e _ (by omega) (by omega) (by omega)]; exact c, by rw [(pO' k a b).1]; exact dd⟩
    rw [hb]
    by_cases q : p = w 8
    · have z : d' (s + 18 + 2 * p) (h0 / 64) = 0 := by
        rw [ed, q]
        simp (disch := omega) only [ms_a]
        exact fl_e rfl (by omega) (by omega)
      rw [z, lb_zero]
      constructor
      · intro z; cases z
      · rintro ⟨k, a, b, c, dd⟩
        have := (pO' k a b).2
        omega
    · rw [fd _ (by omega) (by omega)]
      exact rH p x (by omega) h0 u v
/-! ===== names: looking them up, and a new office ===== -/
theorem find36 {s c m : Int} {d : mD} {w : Row} (h0 : d (s + 2) 0 = w 7) (h : ∀ o, 0 ≤ o → o < w 7 → (d (s + 3) o = c ↔ w (12 + 68 * o + 0) = m)) : ∀ (n : Nat) (x : Int), 0 ≤ x → lp_36_2 (s + 2) c n x d = LP_184_2 m n x w := by
  have st : ∀ (r : Int → mD → Int) (R : Int → Row → Int) (x : Int), 0 ≤ x → (x < w 7 → r (x + 1) d = R (x + 1) w) → st_36_2 (s + 2) c r x d = ST_184_2 m R x w := fun r R x a hr => by
    unfold st_36_2 ST_184_2
    rw [h0, show s + 2 + 1 = s + 3 by omega]
    by_cases q : x < w 7
    · rw [if_pos q, if_pos q]
      by_cases z : d (s + 3) x = c
      · rw [if_pos z, if_pos ((h x a q).1 z)]
      · rw [if_neg z, if_neg (fun y => z ((h x a q).2 y))]; exact hr q
    · rw [if_neg q, if_neg q]
  intro n
  induction n with
  | zero => intro x a; exact st _ _ x a (fun _ => rfl)
  | succ n ih => intro x a; exact st _ _ x a (fun _ => ih (x + 1) (by omega))
theorem find48 {s c m : Int} {d : mD} {w : Row} (h0 : d (s + 10) 0 = w 8) (h : ∀ p, 0 ≤ p → p < w 8 → (d (s + 11) p = c ↔ w (420 + 2 * p + 0) = m)) : ∀ (n : Nat) (x : Int), 0 ≤ x → lp_48_2 (s + 10) c n x d = LP_183_2 m n x w := by
  have st : ∀ (r : Int → mD → Int) (R : Int → Row → Int) (x : Int), 0 ≤ x → (x < w 8 → r (x + 1) d = R (x + 1) w) → st_48_2 (s + 10) c r x d = ST_183_2 m R x w := fun r R x a hr => by
    unfold st_48_2 ST_183_2
    rw [h0, show s + 10 + 1 = s + 11 by omega]
    by_cases q : x < w 8
    · rw [if_pos q, if_pos q]
      by_cases z : d (s + 11) x = c
      · rw [if_pos z, if_pos ((h x a q).1 z)]
      · rw [if_neg z, if_neg (fun y => z ((h x a q).2 y))]; exact hr q
    · rw [if_neg q, if_neg q]
  intro n
  induction n with
  | zero => intro x a; exact st _ _ x a (fun _ => rfl)
  | succ n ih => intro x a; exact st _ _ x a (fun _ => ih (x + 1) (by omega))
theorem findO {s c : Int} {d : mD} {w : Row} (h : RelO s d w) (hc : okN c) : v_36 (s + 2) c d = V_184 (nm c) w := by
  unfold v_36 V_184
  refine find36 h.1 (fun o x y => ?_) _ 0 (by omega)
  have g := (h.2 o x y).1
  exact ⟨fun z => by rw [← g.2, z], fun z => nm_inj g.1 hc (by rw [g.2, z])⟩
theorem findP {s c : Int} {d : mD} {w : Row} (h : RelP s d w) (hc : okN c) : v_48 (s + 10) c d = V_183 (nm c) w := by
  unfold v_48 V_183
  refine find48 h.1 (fun o x y => ?_) _ 0 (by omega)
  have g := (h.2 o x y).1
  exact ⟨fun z => by rw [← g.2, z], fun z => nm_inj g.1 hc (by rw [g.2, z])⟩
theorem noO {s c m : Int} {d : mD} {w : Row} (h : RelO s d w) (hc : c ≤ 0) (hm : m ≤ 0) : v_36 (s + 2) c d = V_184 m w := by
  unfold v_36 V_184
  refine find36 h.1 (fun o x y => ?_) _ 0 (by omega)
  have g := (h.2 o x y).1
  have g1 := nm_pos g.1
  have g2 := g.1.1
  exact ⟨fun z => by omega, fun z => by omega⟩
theorem noP {s c m : Int} {d : mD} {w : Row} (h : RelP s d w) (hc : c ≤ 0) (hm : m ≤ 0) : v_48 (s + 10) c d = V_183 m w := by
  unfold v_48 V_183
  refine find48 h.1 (fun o x y => ?_) _ 0 (by omega)
  have g := (h.2 o x y).1
  have g1 := nm_pos g.1
  have g2 := g.1.1
  exact ⟨fun z => by omega, fun z => by omega⟩
-- the answers' ranges
theorem V184_lo {m : Int} {w : Row} : ∀ (n : Nat) (x : Int), 0 ≤ x → w 7 ≤ x + n → -1 ≤ LP_184_2 m n x w ∧ LP_184_2 m n x w < w 7 ∨ w 7 ≤ x ∧ LP_184_2 m n x w = -1 := by
  intro n
  induction n with
  | zero =>
    intro x a b
    refine Or.inr ⟨by omega, ?_⟩
    show ST_184_2 m _ x w = -1
    unfold ST_184_2
    rw [if_neg (by omega)]
  | succ n ih =>
    intro x a b
    show (-1 ≤ ST_184_2 m (LP_184_2 m n) x w ∧ ST_184_2 m (LP_184_2 m n) x w < w 7) ∨ _ ∧ ST_184_2 m (LP_184_2 m n) x w = -1
    unfold ST_184_2
    by_cases q : x < w 7
    · rw [if_pos q]
      by_cases z : w (12 + 68 * x + 0) = m
      · rw [if_pos z]; exact Or.inl ⟨by omega, q⟩
      · rw [if_neg z]
        have := ih (x + 1) (by omega) (by omega)
        omega
    · rw [if_neg q]; exact Or.inr ⟨by omega, rfl⟩
theorem V183_lo {m : Int} {w : Row} : ∀ (n : Nat) (x : Int), 0 ≤ x → w 8 ≤ x + n → -1 ≤ LP_183_2 m n x w ∧ LP_183_2 m n x w < w 8 ∨ w 8 ≤ x ∧ LP_183_2 m n x w = -1 := by
  intro n
  induction n with
  | zero =>
    intro x a b
    refine Or.inr ⟨by omega, ?_⟩
    show ST_183_2 m _ x w = -1
    unfold ST_183_2
    rw [if_neg (by omega)]
  | succ n ih =>
    intro x a b
    show (-1 ≤ ST_183_2 m (LP_183_2 m n) x w ∧ ST_183_2 m (LP_183_2 m n) x w < w 8) ∨ _ ∧ ST_183_2 m (LP_183_2 m n) x w = -1
    unfold ST_183_2
    by_cases q : x < w 8
    · rw [if_pos q]
      by_cases z : w (420 + 2 * x + 0) = m
      · rw [if_pos z]; exact Or.inl ⟨by omega, q⟩
      · rw [if_neg z]
        have := ih (x + 1) (by omega) (by omega)
        omega
    · rw [if_neg q]; exact Or.inr ⟨by omega, rfl⟩
theorem V184_rng {m : Int} {w : Row} (h : 0 ≤ w 7 ∧ w 7 ≤ 6) : V_184 m w = -1 ∨ (0 ≤ V_184 m w ∧ V_184 m w < w 7) := by
  have := V184_lo (m := m) (w := w) (6 - 0 : Int).toNat 0 (by omega) (by omega)
  unfold V_184
  omega
theorem V183_rng {m : Int} {w : Row} (h : 0 ≤ w 8 ∧ w 8 ≤ 16) : V_183 m w = -1 ∨ (0 ≤ V_183 m w ∧ V_183 m w < w 8) := by
  have := V183_lo (m := m) (w := w) (16 - 0 : Int).toNat 0 (by omega) (by omega)
  unfold V_183
  omega
-- a new office, while nobody has a ticket
def GZ (w : Row) : Prop := ∀ o, w 7 ≤ o → o < 6 → w (12 + 68 * o + 5) = 0 ∧ w (12 + 68 * o + 6) = 0
theorem addO {s c a1 a2 a3 : Int} {d : mD} {w : Row} (hg : GG w) (hz : GZ w) (h : Rel s d w) (h7 : w 7 < 6) (h9 : w 9 = 0) (h10 : w 10 = 0) (hc : okN c) (b1 : 1 ≤ a1 ∧ a1 ≤ 4) (b2 : 1 ≤ a2 ∧ a2 ≤ 6) (b3 : 1 ≤ a3 ∧ a3 ≤ 20) : GG (W_181 (nm c) a1 a2 a3 w) ∧ GZ (W_181 (nm c) a1 a2 a3 w) ∧ Rel s (g_35 (s + 2) c a1 a2 a3 d) (W_181 (nm c) a1 a2 a3 w) ∧ W_181 (nm c) a1 a2 a3 w 7 = w 7 + 1 ∧ ∀ i, ¬ i = 7 → ¬ (12 ≤ i ∧ i < 420) → W_181 (nm c) a1 a2 a3 w i = w i := by
  obtain ⟨hN, hO, hQ, hT, hC, hK, hR⟩ := id hg
  obtain ⟨n7, n8, n9, n10, n11, n0, n1, n2, n3, n4, n5, n6⟩ := id hN
  obtain ⟨rA, ⟨o1, o2⟩, rQ, rP, rT, rC, rK, rR, rB, rH⟩ := h
  have h11 : w 11 = 0 := by
    have := hR.1
    rw [h10] at this
    exact this
  generalize hw' : W_181 (nm c) a1 a2 a3 w = w'
  have e7 : w' 7 = w 7 + 1 := by
    rw [← hw']
    unfold W_181
    simp (disch := omega) only [wse, wsn]
  have p0 : w' (12 + 68 * w 7 + 0) = nm c := by
    rw [← hw']
    unfold W_181
    simp (disch := omega) only [wse, wsn]
  have p1 : w' (12 + 68 * w 7 + 1) = a1 := by
    rw [← hw']
    unfold W_181
    simp (disch := omega) only [wse, wsn]
  have p2 : w' (12 + 68 * w 7 + 2) = a2 := by
    rw [← hw']
    unfold W_181
    simp (disch := omega) only [wse, wsn]
  have p3 : w' (12 + 68 * w 7 + 3) = a3 := by
    rw [← hw']
    unfold W_181
    simp (disch := omega) only [wse, wsn]
  have p4 : w' (12 + 68 * w 7 + 4) = 1 := by
    rw [← hw']
    unfold W_181
    simp (disch := omega) only [wse, wsn]
  have e : ∀ i, ¬ i = 7 → ¬ (12 + 68 * w 7 + 0 ≤ i ∧ i ≤ 12 + 68 * w 7 + 4) → w' i = w i := fun i x y => by
    rw [← hw']
    unfold W_181
    simp (disch := omega) only [wsn]
  have z5 : w' (12 + 68 * w 7 + 5) = 0 := by rw [e _ (by omega) (by omega)]; exact (hz (w 7) (by omega) h7).1
  have z6 : w' (12 + 68 * w 7 + 6) = 0 := by rw [e _ (by omega) (by omega)]; exact (hz (w 7) (by omega) h7).2
  generalize hd : g_35 (s + 2) c a1 a2 a3 d = d'
  have ed : d' = mset (mset (mset (mset (mset (mset (mset d (s + 3) (w 7) c) (s + 4) (w 7) a1) (s + 5) (w 7) a2) (s + 6) (w 7) a3) (s + 7) (w 7) 1) (s + 8) (w 7) 0) (s + 2) 0 (w 7 + 1) := by
    rw [← hd]
    unfold g_35
    rw [o1, if_pos h7]
    simp only [show s + 2 + 1 = s + 3 by omega, show s + 2 + 2 = s + 4 by omega, show s + 2 + 3 = s + 5 by omega, show s + 2 + 4 = s + 6 by omega, show s + 2 + 5 = s + 7 by omega, show s + 2 + 6 = s + 8 by omega]
  have fd : ∀ b, ¬ (s + 2 ≤ b ∧ b ≤ s + 8) → d' b = d b := fun b x => by
    rw [ed]
    funext j
    simp (disch := omega) only [ms_a]
  have fe : ∀ b j, s + 3 ≤ b → b ≤ s + 8 → ¬ j = w 7 → d' b j = d b j := fun b j x y z => by
    rw [ed]
    simp (disch := omega) only [ms_a, ms_i]
  have h9' : w' 9 = 0 := by rw [e 9 (by omega) (by omega)]; exact h9
  have h10' : w' 10 = 0 := by rw [e 10 (by omega) (by omega)]; exact h10
  have h11' : w' 11 = 0 := by rw [e 11 (by omega) (by omega)]; exact h11
  refine ⟨⟨?_, fun o x y => ?_, fun o x y k u v => ?_, fun t x y => absurd y (by omega), fun t x y => absurd y (by omega), fun k x y => absurd y (by omega), ?_, fun k x y => absurd y (by omega)⟩, fun o x y => ?_, ⟨rA.k (fun b x => fd b (by omega)) (fun i hi => e i (by omega) (by omega)), ⟨?_, fun o x y => ?_⟩, fun o x y k u v => ?_, rP.k (fun b x y => fd b (by omega)) (fun i hi => e i (by omega) (by omega)) n8, rT.k (fun b x y => fd b (by omega)) (fun i hi => e i (by omega) (by omega)) n9, rC.k (fun b x => fd b (by omega)) (fun i hi => e i (by omega) (by omega)) n9, rK.k (by rw [fd _ (by omega)]) (fun b x y => fd b (by omega)) (fun i hi => e i (by omega) (by omega)) n10, rR.k (by rw [fd _ (by omega)]) (fd _ (by omega)) (fun i hi => e i (by omega) (by omega)) n11, rB.k (fun b x y => fd b (by omega)) (fun i hi => e i (by omega) (by omega)) n8 n9 n10 hK.of, rH.k (fun b x y => fd b (by omega)) (fun i hi => e i (by omega) (by omega)) n8 n9 n10 hK.of⟩, e7, fun i x y => e i x (by omega)⟩
  · unfold GN
    rw [e7, e 0 (by omega) (by omega), e 1 (by omega) (by omega), e 2 (by omega) (by omega), e 3 (by omega) (by omega), e 4 (by omega) (by omega), e 5 (by omega) (by omega), e 6 (by omega) (by omega), e 8 (by omega) (by omega), h9', h10', h11']
    omega
  · rw [h9']
    rw [e7] at y
    by_cases q : o = w 7
    · rw [q, p1, p2, p3, p4, z5, z6]
      exact ⟨b1, b2, b3, Or.inr rfl, by omega, fun _ => rfl, rfl⟩
    · have g := hO o x (by omega)
      rw [h9] at g
      rw [e (12 + 68 * o + 1) (by omega) (by omega), e (12 + 68 * o + 2) (by omega) (by omega), e (12 + 68 * o + 3) (by omega) (by omega), e (12 + 68 * o + 4) (by omega) (by omega), e (12 + 68 * o + 5) (by omega) (by omega), e (12 + 68 * o + 6) (by omega) (by omega)]
      exact g
  · rw [e7] at y
    by_cases q : o = w 7
    · rw [q, z5] at v; omega
    · rw [e _ (by omega) (by omega)] at v
      have := (hQ o x (by omega) k u v).1
      omega
  · rw [h11', h10']; rfl
  · rw [e7] at x
    rw [e _ (by omega) (by omega), e _ (by omega) (by omega)]
    exact hz o (by omega) y
  · rw [ed, e7, ms_e rfl rfl]
  · rw [e7] at y
    by_cases q : o = w 7
    · rw [q, p0, p1, p2, p3, p4, z5, ed]
      simp (disch := omega) only [ms_a, ms_e]
      exact ⟨⟨hc, trivial⟩, trivial, trivial, trivial, trivial, trivial⟩
    · rw [e (12 + 68 * o + 0) (by omega) (by omega), e (12 + 68 * o + 1) (by omega) (by omega), e (12 + 68 * o + 2) (by omega) (by omega), e (12 + 68 * o + 3) (by omega) (by omega), e (12 + 68 * o + 4) (by omega) (by omega), e (12 + 68 * o + 5) (by omega) (by omega), fe (s + 3) o (by omega) (by omega) q, fe (s + 4) o (by omega) (by omega) q, fe (s + 5) o (by omega) (by omega) q, fe (s + 6) o (by omega) (by omega) q, fe (s + 7) o (by omega) (by omega) q, fe (s + 8) o (by omega) (by omega) q]
      exact o2 o x (by omega)
  · rw [e7] at y
    by_cases q : o = w 7
    · rw [q, z5] at v; omega
    · rw [e _ (by omega) (by omega)] at v
      have := (hQ o x (by omega) k u v).1
      omega
/-! ===== sorted queues: two enumerations of one set, the first of each person ===== -/
def incS (κ q : Int → Int) (m : Int) : Prop := ∀ i k, 0 ≤ i → i < k → k < m → κ (q i) < κ (q k)
def memS (q : Int → Int) (m t : Int) : Prop := ∃ k, 0 ≤ k ∧ k < m ∧ q k = t
theorem incS.pt {κ f g : Int → Int} {m n : Int} (hf : incS κ f m) (hg : incS κ g n) (h : ∀ t, memS f m t ↔ memS g n t) : ∀ (N : Nat) (k : Int), 0 ≤ k → k < N → k < m → k < n ∧ f k = g k := by
  intro N
  induction N with
  | zero => intro k a b; omega
  | succ N ih =>
    intro k a b c
    by_cases q : k < N
    · exact ih k a q c
    · obtain ⟨l, l0, l1, l2⟩ := (h (f k)).1 ⟨k, a, c, rfl⟩
      have hl : k ≤ l := by
        by_cases z : l < k
        · have e := (ih l l0 (by omega) (by omega)).2
          have y := hf l k l0 z c
          rw [e, l2] at y
          omega
        · omega
      have kn : k < n := by omega
      refine ⟨kn, ?_⟩
      by_cases z : l = k
      · rw [z] at l2
        exact l2.symm
      · exfalso
        obtain ⟨i, i0, i1, i2⟩ := (h (g k)).2 ⟨k, a, kn, rfl⟩
        have y1 := hg k l a (by omega) l1
        rw [l2, ← i2] at y1
        by_cases zz : i < k
        · have e := (ih i i0 (by omega) i1).2
          have y2 := hg i k i0 zz kn
          rw [← e, i2] at y2
          omega
        · by_cases z3 : i = k
          · rw [z3] at y1; omega
          · have y3 := hf k i a (by omega) i1
            omega
theorem incS.ext {κ f g : Int → Int} {m n : Int} (hf : incS κ f m) (hg : incS κ g n) (h : ∀ t, memS f m t ↔ memS g n t) (hm : 0 ≤ m) (hn : 0 ≤ n) : m = n ∧ ∀ k, 0 ≤ k → k < m → f k = g k := by
  have a : m ≤ n := by
    by_cases z : m = 0
    · omega
    · have := (hf.pt hg h m.toNat (m - 1) (by omega) (by omega) (by omega)).1
      omega
  have b : n ≤ m := by
    by_cases z : n = 0
    · omega
    · have := (hg.pt hf (fun t => (h t).symm) n.toNat (n - 1) (by omega) (by omega) (by omega)).1
      omega
  exact ⟨by omega, fun k x y => (hf.pt hg h m.toNat k x (by omega) y).2⟩
theorem incS.inj {κ q : Int → Int} {m i k : Int} (h : incS κ q m) (i0 : 0 ≤ i) (i1 : i < m) (k0 : 0 ≤ k) (k1 : k < m) (e : q i = q k) : i = k := by
  by_cases a : i < k
  · have := h i k i0 a k1
    rw [e] at this
    omega
  · by_cases b : k < i
    · have := h k i k0 b i1
      rw [e] at this
      omega
    · omega
theorem incS.ins {κ q q' : Int → Int} {m pos t : Int} (h : incS κ q m) (p : 0 ≤ pos ∧ pos ≤ m) (e1 : ∀ k, 0 ≤ k → k < pos → q' k = q k) (e2 : q' pos = t) (e3 : ∀ k, pos < k → k ≤ m → q' k = q (k - 1)) (lo : ∀ k, 0 ≤ k → k < pos → κ (q k) < κ t) (hi : ∀ k, pos ≤ k → k < m → κ t < κ (q k)) : incS κ q' (m + 1) ∧ ∀ x, memS q' (m + 1) x ↔ (x = t ∨ memS q m x) := by
  refine ⟨fun i k a b c => ?_, fun x => ⟨?_, ?_⟩⟩
  · by_cases z1 : k < pos
    · rw [e1 i a (by omega), e1 k (by omega) z1]
      exact h i k a b (by omega)
    · by_cases z2 : k = pos
      · rw [e1 i a (by omega), z2, e2]
        exact lo i a (by omega)
      · rw [e3 k (by omega) (by omega)]
        by_cases z3 : i < pos
        · rw [e1 i a z3]
          exact h i (k - 1) a (by omega) (by omega)
        · by_cases z4 : i = pos
          · rw [z4, e2]
            exact hi (k - 1) (by omega) (by omega)
          · rw [e3 i (by omega) (by omega)]
            exact h (i - 1) (k - 1) (by omega) (by omega) (by omega)
  · rintro ⟨k, a, b, c⟩
    by_cases z1 : k < pos
    · rw [e1 k a z1] at c
      exact Or.inr ⟨k, a, by omega, c⟩
    · by_cases z2 : k = pos
      · rw [z2, e2] at c
        exact Or.inl c.symm
      · rw [e3 k (by omega) (by omega)] at c
        exact Or.inr ⟨k - 1, by omega, by omega, c⟩
  · rintro (c | ⟨k, a, b, c⟩)
    · exact ⟨pos, p.1, by omega, by rw [e2, c]⟩
    · by_cases z1 : k < pos
      · exact ⟨k, a, by omega, by rw [e1 k a z1]; exact c⟩
      · exact ⟨k + 1, by omega, by omega, by rw [e3 (k + 1) (by omega) (by omega), show k + 1 - 1 = k by omega]; exact c⟩
theorem incS.rem {κ q q' : Int → Int} {m pos : Int} (h : incS κ q m) (p : 0 ≤ pos ∧ pos < m) (e1 : ∀ k, 0 ≤ k → k < pos → q' k = q k) (e2 : ∀ k, pos ≤ k → k < m - 1 → q' k = q (k + 1)) : incS κ q' (m - 1) ∧ ∀ x, memS q' (m - 1) x ↔ (memS q m x ∧ ¬ x = q pos) := by
  refine ⟨fun i k a b c => ?_, fun x => ⟨?_, ?_⟩⟩
  · by_cases z1 : k < pos
    · rw [e1 i a (by omega), e1 k (by omega) z1]
      exact h i k a b (by omega)
    · rw [e2 k (by omega) (by omega)]
      by_cases z3 : i < pos
      · rw [e1 i a z3]
        exact h i (k + 1) a (by omega) (by omega)
      · rw [e2 i (by omega) (by omega)]
        exact h (i + 1) (k + 1) (by omega) (by omega) (by omega)
  · rintro ⟨k, a, b, c⟩
    by_cases z1 : k < pos
    · rw [e1 k a z1] at c
      refine ⟨⟨k, a, by omega, c⟩, fun z => ?_⟩
      have := h.inj a (by omega) p.1 p.2 (c.trans z)
      omega
    · rw [e2 k (by omega) (by omega)] at c
      refine ⟨⟨k + 1, by omega, by omega, c⟩, fun z => ?_⟩
      have := h.inj (i := k + 1) (by omega) (by omega) p.1 p.2 (c.trans z)
      omega
  · rintro ⟨⟨k, a, b, c⟩, n⟩
    by_cases z1 : k < pos
    · exact ⟨k, a, by omega, by rw [e1 k a z1]; exact c⟩
    · by_cases z2 : k = pos
      · rw [z2] at c
        exact absurd c.symm n
      · exact ⟨k - 1, by omega, by omega, by rw [e2 (k - 1) (by omega) (by omega), show k - 1 + 1 = k by omega]; exact c⟩
-- the first of each person among the first n
def inU (U : Int → Int) (n t : Int) : Prop := ∃ i, 0 ≤ i ∧ i < n ∧ U i = t
def bestS (κ p U : Int → Int) (n t : Int) : Prop := inU U n t ∧ ∀ x, inU U n x → p x = p t → κ t ≤ κ x
theorem inU_succ {U : Int → Int} {n x : Int} (hn : 0 ≤ n) : inU U (n + 1) x ↔ (inU U n x ∨ x = U n) := by
  constructor
  · rintro ⟨i, a, b, c⟩
    by_cases z : i = n
    · rw [z] at c; exact Or.inr c.symm
    · exact Or.inl ⟨i, a, by omega, c⟩
  · rintro (⟨i, a, b, c⟩ | c)
    · exact ⟨i, a, by omega, c⟩
    · exact ⟨n, hn, by omega, c.symm⟩
theorem minU {κ p U : Int → Int} {c : Int} : ∀ (n : Nat), (∃ x, inU U n x ∧ p x = c) → ∃ y, inU U n y ∧ p y = c ∧ ∀ x, inU U n x → p x = c → κ y ≤ κ x := by
  intro n
  induction n with
  | zero => rintro ⟨x, ⟨i, a, b, -⟩, -⟩; omega
  | succ n ih =>
    intro h
    have e : ∀ x, inU U ((n + 1 : Nat) : Int) x ↔ (inU U n x ∨ x = U n) := fun x => by
      rw [show ((n + 1 : Nat) : Int) = (n : Int) + 1 by omega]
      exact inU_succ (by omega)
    by_cases q : ∃ x, inU U n x ∧ p x = c
    · obtain ⟨y, y1, y2, y3⟩ := ih q
      by_cases z : p (U n) = c ∧ κ (U n) < κ y
      · refine ⟨U n, (e _).2 (Or.inr rfl), z.1, fun x a b => ?_⟩
        rcases (e x).1 a with a | a
        · have := y3 x a b; omega
        · rw [a]; omega
      · refine ⟨y, (e _).2 (Or.inl y1), y2, fun x a b => ?_⟩
        rcases (e x).1 a with a | a
        · exact y3 x a b
        · rw [a] at b ⊢
          by_cases zz : κ (U n) < κ y
          · exact absurd ⟨b, zz⟩ z
          · omega
    · obtain ⟨x, x1, x2⟩ := h
      rcases (e x).1 x1 with a | a
      · exact absurd ⟨x, a, x2⟩ q
      · refine ⟨x, x1, x2, fun z z1 z2 => ?_⟩
        rcases (e z).1 z1 with b | b
        · exact absurd ⟨z, b, z2⟩ q
        · rw [a, b]; omega
theorem bestS.ex {κ p U : Int → Int} {n x : Int} (h : inU U n x) : ∃ y, bestS κ p U n y ∧ p y = p x ∧ κ y ≤ κ x := by
  have hn : ((n.toNat : Nat) : Int) = n := by
    obtain ⟨i, a, b, -⟩ := h
    omega
  have := minU (κ := κ) (p := p) (U := U) (c := p x) n.toNat
  rw [hn] at this
  obtain ⟨y, a, b, c⟩ := this ⟨x, h, rfl⟩
  exact ⟨y, ⟨a, fun z z1 z2 => c z z1 (z2.trans b)⟩, b, c x h rfl⟩
theorem bestStep {κ p U : Int → Int} {n : Int} (hn : 0 ≤ n) (hk : ∀ x, inU U n x → ¬ κ x = κ (U n)) (y : Int) : bestS κ p U (n + 1) y ↔ ((bestS κ p U n y ∧ (p y = p (U n) → κ y < κ (U n))) ∨ (y = U n ∧ ∀ x, bestS κ p U n x → p x = p (U n) → κ (U n) < κ x)) := by
  constructor
  · rintro ⟨a, b⟩
    rcases (inU_succ hn).1 a with a | a
    · refine Or.inl ⟨⟨a, fun x x1 x2 => b x ((inU_succ hn).2 (Or.inl x1)) x2⟩, fun z => ?_⟩
      have z1 := b (U n) ((inU_succ hn).2 (Or.inr rfl)) z.symm
      have z2 := hk y a
      omega
    · refine Or.inr ⟨a, fun x x1 x2 => ?_⟩
      have z1 := b x ((inU_succ hn).2 (Or.inl x1.1)) (by rw [a]; exact x2)
      have z2 := hk x x1.1
      rw [a] at z1
      omega
  · rintro (⟨⟨a, b⟩, c⟩ | ⟨a, b⟩)
    · refine ⟨(inU_succ hn).2 (Or.inl a), fun x x1 x2 => ?_⟩
      rcases (inU_succ hn).1 x1 with x1 | x1
      · exact b x x1 x2
      · rw [x1] at x2 ⊢
        have := c x2.symm
        omega
    · refine ⟨(inU_succ hn).2 (Or.inr a), fun x x1 x2 => ?_⟩
      rw [a] at x2 ⊢
      rcases (inU_succ hn).1 x1 with x1 | x1
      · obtain ⟨z, z1, z2, z3⟩ := bestS.ex (κ := κ) (p := p) x1
        have := b z z1 (z2.trans x2)
        omega
      · rw [x1]; omega
-- a step of the class: nobody of that person yet, or the one that stands ahead stays, or the one behind goes
theorem stNone {κ p U q q' : Int → Int} {n m : Int} (hn : 0 ≤ n) (hk : ∀ x, inU U n x → ¬ κ x = κ (U n)) (h : incS κ q m) (hb : ∀ x, memS q m x ↔ bestS κ p U n x) (hi : incS κ q' (m + 1) ∧ ∀ x, memS q' (m + 1) x ↔ (x = U n ∨ memS q m x)) (no : ∀ k, 0 ≤ k → k < m → ¬ p (q k) = p (U n)) : (∀ x, memS q' (m + 1) x ↔ bestS κ p U (n + 1) x) ∧ ∀ x, (inU U (n + 1) x ∧ ¬ bestS κ p U (n + 1) x) ↔ (inU U n x ∧ ¬ bestS κ p U n x) := by
  have nb : ∀ x, bestS κ p U n x → ¬ p x = p (U n) := fun x a b => by
    obtain ⟨k, k0, k1, k2⟩ := (hb x).2 a
    exact no k k0 k1 (by rw [k2]; exact b)
  have eb : ∀ x, bestS κ p U (n + 1) x ↔ (x = U n ∨ bestS κ p U n x) := fun x => by
    rw [bestStep hn hk]
    constructor
    · rintro (a | a)
      · exact Or.inr a.1
      · exact Or.inl a.1
    · rintro (a | a)
      · exact Or.inr ⟨a, fun z z1 z2 => absurd z2 (nb z z1)⟩
      · exact Or.inl ⟨a, fun z => absurd z (nb x a)⟩
  refine ⟨fun x => by rw [hi.2, hb, eb], fun x => ?_⟩
  rw [eb, inU_succ hn]
  constructor
  · rintro ⟨a | a, b⟩
    · exact ⟨a, fun z => b (Or.inr z)⟩
    · exact absurd (Or.inl a) b
  · rintro ⟨a, b⟩
    refine ⟨Or.inl a, ?_⟩
    rintro (z | z)
    · exact hk x a (by rw [z])
    · exact b z
theorem stKeep {κ p U q : Int → Int} {n m tw : Int} (hn : 0 ≤ n) (hk : ∀ x, inU U n x → ¬ κ x = κ (U n)) (h : incS κ q m) (hb : ∀ x, memS q m x ↔ bestS κ p U n x) (htw : 0 ≤ tw ∧ tw < m) (hp : p (q tw) = p (U n)) (hl : κ (q tw) < κ (U n)) : (∀ x, memS q m x ↔ bestS κ p U (n + 1) x) ∧ ∀ x, (inU U (n + 1) x ∧ ¬ bestS κ p U (n + 1) x) ↔ ((inU U n x ∧ ¬ bestS κ p U n x) ∨ x = U n) := by
  have bt : bestS κ p U n (q tw) := (hb _).1 ⟨tw, htw.1, htw.2, rfl⟩
  have eb : ∀ x, bestS κ p U (n + 1) x ↔ bestS κ p U n x := fun x => by
    rw [bestStep hn hk]
    constructor
    · rintro (a | a)
      · exact a.1
      · have := a.2 _ bt hp
        omega
    · intro a
      refine Or.inl ⟨a, fun z => ?_⟩
      have := a.2 _ bt.1 (by rw [hp, z])
      omega
  refine ⟨fun x => by rw [hb, eb], fun x => ?_⟩
  rw [eb, inU_succ hn]
  constructor
  · rintro ⟨a | a, b⟩
    · exact Or.inl ⟨a, b⟩
    · exact Or.inr a
  · rintro (⟨a, b⟩ | a)
    · exact ⟨Or.inl a, b⟩
    · exact ⟨Or.inr a, fun z => hk x z.1 (by rw [a])⟩
theorem stSwap {κ p U q q1 q' : Int → Int} {n m tw : Int} (hn : 0 ≤ n) (hk : ∀ x, inU U n x → ¬ κ x = κ (U n)) (h : incS κ q m) (hb : ∀ x, memS q m x ↔ bestS κ p U n x) (htw : 0 ≤ tw ∧ tw < m) (hp : p (q tw) = p (U n)) (hl : κ (U n) < κ (q tw)) (hr : ∀ x, memS q1 (m - 1) x ↔ (memS q m x ∧ ¬ x = q tw)) (hi : ∀ x, memS q' (m - 1 + 1) x ↔ (x = U n ∨ memS q1 (m - 1) x)) : (∀ x, memS q' m x ↔ bestS κ p U (n + 1) x) ∧ ∀ x, (inU U (n + 1) x ∧ ¬ bestS κ p U (n + 1) x) ↔ ((inU U n x ∧ ¬ bestS κ p U n x) ∨ x = q tw) := by
  have bt : bestS κ p U n (q tw) := (hb _).1 ⟨tw, htw.1, htw.2, rfl⟩
  have un : ∀ x, bestS κ p U n x → p x = p (U n) → x = q tw := fun x a b => by
    obtain ⟨k, k0, k1, k2⟩ := (hb x).2 a
    have e1 := a.2 _ bt.1 (by rw [hp, b])
    have e2 := bt.2 _ a.1 (by rw [hp, b])
    by_cases z : k = tw
    · rw [← k2, z]
    · exfalso
      by_cases zz : k < tw
      · have := h k tw k0 zz htw.2
        rw [k2] at this; omega
      · have := h tw k htw.1 (by omega) k1
        rw [k2] at this; omega
  have eb : ∀ x, bestS κ p U (n + 1) x ↔ (x = U n ∨ (bestS κ p U n x ∧ ¬ x = q tw)) := fun x => by
    rw [bestStep hn hk]
    constructor
    · rintro (a | a)
      · refine Or.inr ⟨a.1, fun z => ?_⟩
        have := a.2 (by rw [z]; exact hp)
        rw [z] at this
        omega
      · exact Or.inl a.1
    · rintro (a | a)
      · refine Or.inr ⟨a, fun z z1 z2 => ?_⟩
        rw [un z z1 z2]; exact hl
      · exact Or.inl ⟨a.1, fun z => absurd (un x a.1 z) a.2⟩
  refine ⟨fun x => ?_, fun x => ?_⟩
  · have := hi x
    rw [show m - 1 + 1 = m by omega] at this
    rw [this, hr, hb, eb]
  · rw [eb, inU_succ hn]
    constructor
    · rintro ⟨a | a, b⟩
      · by_cases z : x = q tw
        · exact Or.inr z
        · exact Or.inl ⟨a, fun y => b (Or.inr ⟨y, z⟩)⟩
      · exact absurd (Or.inl a) b
    · rintro (⟨a, b⟩ | a)
      · refine ⟨Or.inl a, ?_⟩
        rintro (z | z)
        · exact hk x a (by rw [z])
        · exact b z.1
      · refine ⟨Or.inl (by rw [a]; exact bt.1), ?_⟩
        rintro (z | z)
        · exact hk (q tw) bt.1 (by rw [← a, z])
        · exact z.2 a
/-! ===== merge, the class: ticket by ticket ===== -/
def PutD (s o p t : Int) (d d' : mD) : Prop := (∀ b, ¬ b = s + 8 → ¬ b = s + 9 → d' b = d b) ∧ (∀ j, ¬ j = o → d' (s + 8) j = d (s + 8) j) ∧ d' (s + 8) o = d (s + 8) o + 1 ∧ d' (s + 9) (o * 16 + p) = t ∧ (∀ k, p < k → k ≤ d (s + 8) o → d' (s + 9) (o * 16 + k) = d (s + 9) (o * 16 + k - 1)) ∧ ∀ j, ¬ (o * 16 + p ≤ j ∧ j ≤ o * 16 + d (s + 8) o) → d' (s + 9) j = d (s + 9) j
theorem lp40 {x0 o p t : Int} : ∀ (n : Nat) (x : Int) (d : mD), p ≤ x → x - p ≤ (n : Int) → (∀ b, ¬ b = x0 + 6 → ¬ b = x0 + 7 → lp_40_40 x0 o p t n (o * 16) x d b = d b) ∧ (∀ j, ¬ j = o → lp_40_40 x0 o p t n (o * 16) x d (x0 + 6) j = d (x0 + 6) j) ∧ lp_40_40 x0 o p t n (o * 16) x d (x0 + 6) o = d (x0 + 6) o + 1 ∧ lp_40_40 x0 o p t n (o * 16) x d (x0 + 7) (o * 16 + p) = t ∧ (∀ k, p < k → k ≤ x → lp_40_40 x0 o p t n (o * 16) x d (x0 + 7) (o * 16 + k) = d (x0 + 7) (o * 16 + k - 1)) ∧ ∀ j, ¬ (o * 16 + p ≤ j ∧ j ≤ o * 16 + x) → lp_40_40 x0 o p t n (o * 16) x d (x0 + 7) j = d (x0 + 7) j := by
  have base : ∀ (r : Int → Int → mD → mD) (x : Int) (d : mD), p ≤ x → ¬ p < x → st_40_40 x0 o p t r (o * 16) x d = mset (mset d (x0 + 7) (o * 16 + p) t) (x0 + 6) o (d (x0 + 6) o + 1) := fun r x d a b => by
    unfold st_40_40
    rw [if_neg b]
  have fin : ∀ (x : Int) (d d' : mD), p ≤ x → ¬ p < x → d' = mset (mset d (x0 + 7) (o * 16 + p) t) (x0 + 6) o (d (x0 + 6) o + 1) → (∀ b, ¬ b = x0 + 6 → ¬ b = x0 + 7 → d' b = d b) ∧ (∀ j, ¬ j = o → d' (x0 + 6) j = d (x0 + 6) j) ∧ d' (x0 + 6) o = d (x0 + 6) o + 1 ∧ d' (x0 + 7) (o * 16 + p) = t ∧ (∀ k, p < k → k ≤ x → d' (x0 + 7) (o * 16 + k) = d (x0 + 7) (o * 16 + k - 1)) ∧ ∀ j, ¬ (o * 16 + p ≤ j ∧ j ≤ o * 16 + x) → d' (x0 + 7) j = d (x0 + 7) j := fun x d d' a b e => by
    rw [e]
    refine ⟨fun c x y => by funext j; rw [ms_a x, ms_a y], fun j x => by rw [ms_i x, ms_a (by omega)], ms_e rfl rfl, by rw [ms_a (by omega), ms_e rfl rfl], fun k x y => by omega, fun j x => by rw [ms_a (by omega), ms_i (by omega)]⟩
  intro n
  induction n with
  | zero => intro x d a b; exact fin x d _ a (by omega) (base _ x d a (by omega))
  | succ n ih =>
    intro x d a b
    by_cases hc : p < x
    · have e : lp_40_40 x0 o p t (n + 1) (o * 16) x d = lp_40_40 x0 o p t n (o * 16) (x + -1) (mset d (x0 + 7) (o * 16 + x) (d (x0 + 7) (o * 16 + x - 1))) := by
        show st_40_40 x0 o p t _ (o * 16) x d = _
        unfold st_40_40
        rw [if_pos hc]
      rw [e]
      obtain ⟨i1, i2, i3, i4, i5, i6⟩ := ih (x + -1) (mset d (x0 + 7) (o * 16 + x) (d (x0 + 7) (o * 16 + x - 1))) (by omega) (by omega)
      have e6 : ∀ j, mset d (x0 + 7) (o * 16 + x) (d (x0 + 7) (o * 16 + x - 1)) (x0 + 6) j = d (x0 + 6) j := fun j => ms_a (by omega)
      refine ⟨fun c y z => by rw [i1 c y z]; funext j; exact ms_a z, fun j y => by rw [i2 j y, e6], by rw [i3, e6], i4, fun k y z => ?_, fun j y => by rw [i6 j (by omega), ms_i (by omega)]⟩
      by_cases q : k = x
      · rw [q, i6 _ (by omega), ms_e rfl rfl]
      · rw [i5 k y (by omega), ms_i (by omega)]
    · exact fin x d _ a hc (base _ x d a hc)
theorem put40 {s o p t : Int} {d : mD} (hp : 0 ≤ p ∧ p ≤ d (s + 8) o) (hl : d (s + 8) o < 16) : PutD s o p t d (g_40 (s + 2) o p t d) := by
  unfold g_40
  have e8 : s + 2 + 6 = s + 8 := by omega
  have e9 : s + 2 + 7 = s + 9 := by omega
  rw [if_neg (by omega), e8, if_neg (by omega), if_pos hl]
  obtain ⟨i1, i2, i3, i4, i5, i6⟩ := lp40 (x0 := s + 2) (o := o) (p := p) (t := t) (d (s + 8) o).toNat (d (s + 8) o) d hp.2 (by omega)
  rw [e8] at i1 i2 i3
  rw [e9] at i1 i4 i5 i6
  exact ⟨i1, i2, i3, i4, i5, i6⟩
theorem per62 {s o c m : Int} {d : mD} (hm : d (s + 8) o = m) : ∀ (n : Nat) (x : Int), 0 ≤ x → m ≤ x + n → (lp_62_2 s o c n x d = -1 ∧ ∀ k, x ≤ k → k < m → ¬ d (s + 50) (d (s + 9) (o * 16 + k)) = c) ∨ (x ≤ lp_62_2 s o c n x d ∧ lp_62_2 s o c n x d < m ∧ d (s + 50) (d (s + 9) (o * 16 + lp_62_2 s o c n x d)) = c) := by
  have st : ∀ (r : Int → mD → Int) (x : Int), st_62_2 s o c r x d = if x < m then (if d (s + 50) (d (s + 9) (o * 16 + x)) = c then x else r (x + 1) d) else -1 := fun r x => by
    unfold st_62_2 v_38
    rw [show s + 2 + 6 = s + 8 by omega, show s + 2 + 7 = s + 9 by omega, show s + 49 + 1 = s + 50 by omega, hm]
  intro n
  induction n with
  | zero =>
    intro x a b
    have e : lp_62_2 s o c 0 x d = -1 := by
      show st_62_2 s o c _ x d = _
      rw [st, if_neg (by omega)]
    exact Or.inl ⟨e, fun k x y => by omega⟩
  | succ n ih =>
    intro x a b
    have e : lp_62_2 s o c (n + 1) x d = if x < m then (if d (s + 50) (d (s + 9) (o * 16 + x)) = c then x else lp_62_2 s o c n (x + 1) d) else -1 := by
      show st_62_2 s o c _ x d = _
      rw [st]
    by_cases q : x < m
    · rw [if_pos q] at e
      by_cases z : d (s + 50) (d (s + 9) (o * 16 + x)) = c
      · rw [if_pos z] at e
        exact Or.inr ⟨by omega, by omega, by rw [e]; exact z⟩
      · rw [if_neg z] at e
        rw [e]
        rcases ih (x + 1) (by omega) (by omega) with ⟨i1, i2⟩ | ⟨i1, i2, i3⟩
        · refine Or.inl ⟨i1, fun k y1 y2 => ?_⟩
          by_cases y3 : k = x
          · rw [y3]; exact z
          · exact i2 k (by omega) y2
        · exact Or.inr ⟨by omega, i2, i3⟩
    · rw [if_neg q] at e
      exact Or.inl ⟨e, fun k x y => by omega⟩
theorem pl65 {s o c m : Int} {d : mD} (hm : d (s + 8) o = m) : ∀ (n : Nat) (x : Int), 0 ≤ x → x ≤ m → m ≤ x + n → x ≤ lp_65_2 s o c n x d ∧ lp_65_2 s o c n x d ≤ m ∧ (∀ k, x ≤ k → k < lp_65_2 s o c n x d → ¬ c < d (s + 52) (d (s + 9) (o * 16 + k))) ∧ (lp_65_2 s o c n x d < m → c < d (s + 52) (d (s + 9) (o * 16 + lp_65_2 s o c n x d))) := by
  have st : ∀ (r : Int → mD → Int) (x : Int), st_65_2 s o c r x d = if x < m then (if c < d (s + 52) (d (s + 9) (o * 16 + x)) then x else r (x + 1) d) else x := fun r x => by
    unfold st_65_2 v_38
    rw [show s + 2 + 6 = s + 8 by omega, show s + 2 + 7 = s + 9 by omega, show s + 49 + 3 = s + 52 by omega, hm]
  intro n
  induction n with
  | zero =>
    intro x a a2 b
    have e : lp_65_2 s o c 0 x d = x := by
      show st_65_2 s o c _ x d = _
      rw [st, if_neg (by omega)]
    rw [e]
    exact ⟨by omega, a2, fun k x y => by omega, fun z => by omega⟩
  | succ n ih =>
    intro x a a2 b
    have e : lp_65_2 s o c (n + 1) x d = if x < m then (if c < d (s + 52) (d (s + 9) (o * 16 + x)) then x else lp_65_2 s o c n (x + 1) d) else x := by
      show st_65_2 s o c _ x d = _
      rw [st]
    by_cases q : x < m
    · rw [if_pos q] at e
      by_cases z : c < d (s + 52) (d (s + 9) (o * 16 + x))
      · rw [if_pos z] at e
        rw [e]
        exact ⟨by omega, a2, fun k x y => by omega, fun _ => z⟩
      · rw [if_neg z] at e
        rw [e]
        obtain ⟨i1, i2, i3, i4⟩ := ih (x + 1) (by omega) (by omega) (by omega)
        refine ⟨by omega, i2, fun k y1 y2 => ?_, i4⟩
        by_cases y3 : k = x
        · rw [y3]; exact z
        · exact i3 k (by omega) y2
    · rw [if_neg q] at e
      rw [e]
      exact ⟨by omega, a2, fun k x y => by omega, fun z => by omega⟩
theorem pig16 {f : Int → Int} {m : Int} (hr : ∀ k, 0 ≤ k → k < m → 0 ≤ f k ∧ f k < 16) (hi : ∀ k i, 0 ≤ i → i < k → k < m → ¬ f i = f k) : m ≤ 16 := by
  by_cases z : m ≤ 0
  · omega
  · have e : (((m - 1).toNat : Nat) : Int) = m - 1 := by omega
    have := pigeon (f := f) (L := (m - 1).toNat) (N := 16) (fun k a b => hr k a (by omega)) (fun k i a b c => hi k i a b (by omega)) (p := f (m - 1)) (hr (m - 1) (by omega) (by omega)).1 (hr (m - 1) (by omega) (by omega)).2 (fun k a b => hi (m - 1) k a (by omega) (by omega))
    omega
def MC (κ U p : Int → Int) (s o2 T : Int) (d0 : mD) (n m : Int) (d : mD) : Prop :=
  (∀ b, ¬ b = s + 8 → ¬ b = s + 9 → ¬ b = s + 51 → ¬ b = s + 53 → ¬ b = s + 54 → d b = d0 b)
  ∧ (∀ o, ¬ o = o2 → d (s + 8) o = d0 (s + 8) o) ∧ d (s + 8) o2 = m
  ∧ (∀ i, ¬ (o2 * 16 ≤ i ∧ i < o2 * 16 + 16) → d (s + 9) i = d0 (s + 9) i)
  ∧ 0 ≤ m ∧ incS κ (fun k => d (s + 9) (o2 * 16 + k)) m ∧ (∀ t, memS (fun k => d (s + 9) (o2 * 16 + k)) m t ↔ bestS κ p U n t)
  ∧ (∀ t, (inU U n t → d (s + 51) t = o2) ∧ (¬ inU U n t → d (s + 51) t = d0 (s + 51) t))
  ∧ ∀ t, ((inU U n t ∧ ¬ bestS κ p U n t) → d (s + 53) t = T ∧ d (s + 54) t = 2) ∧ (¬ (inU U n t ∧ ¬ bestS κ p U n t) → d (s + 53) t = d0 (s + 53) t ∧ d (s + 54) t = d0 (s + 54) t)
theorem bestS.one {κ p U : Int → Int} {q : Int → Int} {n m i k : Int} (h : incS κ q m) (hb : ∀ x, memS q m x ↔ bestS κ p U n x) (a : 0 ≤ i) (b : i < k) (c : k < m) : ¬ p (q i) = p (q k) := fun z => by
  have bi := (hb (q i)).1 ⟨i, a, by omega, rfl⟩
  have bk := (hb (q k)).1 ⟨k, by omega, c, rfl⟩
  have := bk.2 _ bi.1 z
  have := h i k a b c
  omega
theorem stepM {κ U p j : Int → Int} {s o2 T n m : Int} {d0 d : mD} (hn : 0 ≤ n) (hk : ∀ x, inU U n x → ¬ κ x = κ (U n) ∧ (κ x < κ (U n) ↔ j x ≤ j (U n))) (hp : ∀ x, inU U (n + 1) x → d0 (s + 50) x = p x ∧ d0 (s + 52) x = j x ∧ 0 ≤ p x ∧ p x < 16) (hT : d0 s 2 = T) (h : MC κ U p s o2 T d0 n m d) : ∃ m', MC κ U p s o2 T d0 (n + 1) m' (g_64 s o2 (U n) d) := by
  obtain ⟨c1, c2, c3, c4, c5, c6, c7, c8, c9⟩ := h
  have hu : ∀ x, inU U n x → inU U (n + 1) x := fun x a => (inU_succ hn).2 (Or.inl a)
  have ht : inU U (n + 1) (U n) := (inU_succ hn).2 (Or.inr rfl)
  have hk1 : ∀ x, inU U n x → ¬ κ x = κ (U n) := fun x a => (hk x a).1
  have f50 : d (s + 50) = d0 (s + 50) := c1 _ (by omega) (by omega) (by omega) (by omega) (by omega)
  have f52 : d (s + 52) = d0 (s + 52) := c1 _ (by omega) (by omega) (by omega) (by omega) (by omega)
  have fs : d s 2 = T := by rw [c1 s (by omega) (by omega) (by omega) (by omega) (by omega)]; exact hT
  have mq : ∀ k, 0 ≤ k → k < m → inU U n (d (s + 9) (o2 * 16 + k)) := fun k a b => ((c7 _).1 ⟨k, a, b, rfl⟩).1
  have pr := hp (U n) ht
  have m16 : m ≤ 16 := pig16 (f := fun k => p (d (s + 9) (o2 * 16 + k))) (fun k a b => (hp _ (hu _ (mq k a b))).2.2) (fun k i a b c => bestS.one (q := fun k => d (s + 9) (o2 * 16 + k)) c6 c7 a b c)
  have eP : d (s + 49 + 1) (U n) = p (U n) := by rw [show s + 49 + 1 = s + 50 by omega, f50]; exact pr.1
  have eJ : d (s + 49 + 3) (U n) = j (U n) := by rw [show s + 49 + 3 = s + 52 by omega, f52]; exact pr.2.1
  have h62 := per62 (c := p (U n)) c3 (16 - 0 : Int).toNat 0 (by omega) (by omega)
  have h65 := pl65 (c := j (U n)) c3 (16 - 0 : Int).toNat 0 (by omega) (by omega) (by omega)
  have e62 : v_62 s o2 (p (U n)) d = lp_62_2 s o2 (p (U n)) (16 - 0 : Int).toNat 0 d := rfl
  have e65 : v_65 s o2 (j (U n)) d = lp_65_2 s o2 (j (U n)) (16 - 0 : Int).toNat 0 d := rfl
  rw [← e62] at h62
  rw [← e65] at h65
  have hg : g_64 s o2 (U n) d = if v_62 s o2 (p (U n)) d = (-1) then g_40 (s + 2) o2 (v_65 s o2 (j (U n)) d) (U n) (mset d (s + 51) (U n) o2) else if v_62 s o2 (p (U n)) d < v_65 s o2 (j (U n)) d then mset (mset (mset d (s + 51) (U n) o2) (s + 54) (U n) 2) (s + 53) (U n) T else g_40 (s + 2) o2 (v_65 s o2 (j (U n)) d) (U n) (g_41 (s + 2) o2 (v_62 s o2 (p (U n)) d) (mset (mset (mset d (s + 51) (U n) o2) (s + 54) (d (s + 9) (o2 * 16 + v_62 s o2 (p (U n)) d)) 2) (s + 53) (d (s + 9) (o2 * 16 + v_62 s o2 (p (U n)) d)) T)) := by
    unfold g_64 g_97
    rw [eP, eJ, fs, show s + 49 + 2 = s + 51 by omega, show s + 49 + 5 = s + 54 by omega, show s + 49 + 4 = s + 53 by omega]
    have e38 : v_38 (s + 2) o2 (v_62 s o2 (p (U n)) d) (mset d (s + 51) (U n) o2) = d (s + 9) (o2 * 16 + v_62 s o2 (p (U n)) d) := by
      unfold v_38
      rw [show s + 2 + 7 = s + 9 by omega, ms_a (by omega)]
    rw [e38]
  rw [hg]
  generalize v_62 s o2 (p (U n)) d = tw at *
  generalize v_65 s o2 (j (U n)) d = pos at *
  obtain ⟨p1, p2, p3, p4⟩ := h65
  have lo : ∀ k, 0 ≤ k → k < pos → κ (d (s + 9) (o2 * 16 + k)) < κ (U n) := fun k a b => by
    have y := p3 k a b
    have z := mq k a (by omega)
    rw [f52, (hp _ (hu _ z)).2.1] at y
    exact ((hk _ z).2).2 (by omega)
  have hi : ∀ k, pos ≤ k → k < m → κ (U n) < κ (d (s + 9) (o2 * 16 + k)) := fun k a b => by
    have y := p4 (by omega)
    have z := mq pos p1 (by omega)
    rw [f52, (hp _ (hu _ z)).2.1] at y
    have y1 := (hk _ z).1
    have y2 : ¬ κ (d (s + 9) (o2 * 16 + pos)) < κ (U n) := fun u => by
      have := ((hk _ z).2).1 u
      omega
    by_cases q : pos = k
    · rw [← q]; omega
    · have := c6 pos k p1 (by omega) b
      have this : κ (d (s + 9) (o2 * 16 + pos)) < κ (d (s + 9) (o2 * 16 + k)) := this
      omega
  have c8' : ∀ (d' : mD), (∀ x, d' (s + 51) x = mset d (s + 51) (U n) o2 (s + 51) x) → ∀ t, (inU U (n + 1) t → d' (s + 51) t = o2) ∧ (¬ inU U (n + 1) t → d' (s + 51) t = d0 (s + 51) t) := fun d' e t => by
    rw [e]
    by_cases z : t = U n
    · rw [z, ms_e rfl rfl]
      exact ⟨fun _ => rfl, fun y => absurd ht y⟩
    · rw [ms_i z, inU_succ hn]
      exact ⟨fun y => (c8 t).1 (y.elim id (fun u => absurd u z)), fun y => (c8 t).2 (fun u => y (Or.inl u))⟩
  by_cases z1 : tw = -1
  · rw [if_pos z1]
    have no : ∀ k, 0 ≤ k → k < m → ¬ p (d (s + 9) (o2 * 16 + k)) = p (U n) := fun k a b => by
      rcases h62 with ⟨-, y⟩ | ⟨y, -⟩
      · have := y k a b
        rw [f50, (hp _ (hu _ (mq k a b))).1] at this
        exact this
      · omega
    have m15 : m < 16 := by
      have e : ((m.toNat : Nat) : Int) = m := by omega
      have := pigeon (f := fun k => p (d (s + 9) (o2 * 16 + k))) (L := m.toNat) (N := 16) (fun k a b => (hp _ (hu _ (mq k a (by omega)))).2.2) (fun k i a b c => bestS.one (q := fun k => d (s + 9) (o2 * 16 + k)) c6 c7 a b (by omega)) (p := p (U n)) pr.2.2.1 pr.2.2.2 (fun k a b => no k a (by omega))
      omega
    have e8 : mset d (s + 51) (U n) o2 (s + 8) o2 = m := by rw [ms_a (by omega)]; exact c3
    obtain ⟨i1, i2, i3, i4, i5, i6⟩ := put40 (s := s) (o := o2) (p := pos) (t := U n) (d := mset d (s + 51) (U n) o2) (by rw [e8]; exact ⟨p1, p2⟩) (by rw [e8]; exact m15)
    generalize g_40 (s + 2) o2 pos (U n) (mset d (s + 51) (U n) o2) = d' at *
    rw [e8] at i3 i5 i6
    have hi' := c6.ins (q' := fun k => d' (s + 9) (o2 * 16 + k)) (t := U n) ⟨p1, p2⟩ (fun k a b => by show d' (s + 9) _ = _; rw [i6 _ (by omega), ms_a (by omega)]) i4 (fun k a b => by show d' (s + 9) _ = _; rw [i5 k a b, ms_a (by omega), show o2 * 16 + k - 1 = o2 * 16 + (k - 1) by omega]) lo hi
    obtain ⟨s1, s2⟩ := stNone hn hk1 c6 c7 hi' no
    refine ⟨m + 1, fun b x1 x2 x3 x4 x5 => ?_, fun o x => ?_, i3, fun i x => ?_, by omega, hi'.1, s1, c8' d' (fun x => by rw [i1 _ (by omega) (by omega)]), fun t => ?_⟩
    · rw [i1 b x1 x2, ← c1 b x1 x2 x3 x4 x5]
      funext k
      exact ms_a x3
    · rw [i2 o x, ms_a (by omega)]; exact c2 o x
    · rw [i6 i (by omega), ms_a (by omega)]; exact c4 i x
    · rw [s2 t, i1 _ (by omega) (by omega), i1 _ (by omega) (by omega), ms_a (by omega), ms_a (by omega)]
      exact c9 t
  · rw [if_neg z1]
    obtain ⟨t1, t2, t3⟩ : 0 ≤ tw ∧ tw < m ∧ d (s + 50) (d (s + 9) (o2 * 16 + tw)) = p (U n) := by
      rcases h62 with ⟨y, -⟩ | ⟨y1, y2, y3⟩
      · exact absurd y z1
      · exact ⟨y1, y2, y3⟩
    rw [f50, (hp _ (hu _ (mq tw t1 t2))).1] at t3
    by_cases z2 : tw < pos
    · rw [if_pos z2]
      obtain ⟨s1, s2⟩ := stKeep hn hk1 c6 c7 ⟨t1, t2⟩ t3 (lo tw t1 z2)
      have e9 : ∀ b, ¬ b = s + 51 → ¬ b = s + 53 → ¬ b = s + 54 → mset (mset (mset d (s + 51) (U n) o2) (s + 54) (U n) 2) (s + 53) (U n) T b = d b := fun b x y z => by
        funext k
        simp (disch := omega) only [ms_a]
      refine ⟨m, fun b x1 x2 x3 x4 x5 => ?_, fun o x => ?_, ?_, fun i x => ?_, c5, ?_, fun t => ?_, c8' _ (fun x => ?_), fun t => ?_⟩
      · rw [e9 b x3 x4 x5]; exact c1 b x1 x2 x3 x4 x5
      · rw [e9 _ (by omega) (by omega) (by omega)]; exact c2 o x
      · rw [e9 _ (by omega) (by omega) (by omega)]; exact c3
      · rw [e9 _ (by omega) (by omega) (by omega)]; exact c4 i x
      · rw [e9 _ (by omega) (by omega) (by omega)]; exact c6
      · rw [e9 _ (by omega) (by omega) (by omega)]; exact s1 t
      · rw [ms_a (by omega), ms_a (by omega)]
      · rw [s2 t]
        by_cases y : t = U n
        · rw [y, ms_e rfl rfl, ms_a (by omega), ms_e rfl rfl]
          exact ⟨fun _ => ⟨rfl, rfl⟩, fun u => absurd (Or.inr rfl) u⟩
        · rw [ms_i y, ms_a (by omega), ms_a (by omega), ms_a (by omega), ms_i y, ms_a (by omega)]
          exact ⟨fun u => (c9 t).1 (u.elim id (fun v => absurd v y)), fun u => (c9 t).2 (fun v => u (Or.inl v))⟩
    · rw [if_neg z2]
      generalize hX : d (s + 9) (o2 * 16 + tw) = X at *
      generalize hd1 : mset (mset (mset d (s + 51) (U n) o2) (s + 54) X 2) (s + 53) X T = d1
      have e9 : ∀ b, ¬ b = s + 51 → ¬ b = s + 53 → ¬ b = s + 54 → d1 b = d b := fun b x y z => by
        rw [← hd1]
        funext k
        simp (disch := omega) only [ms_a]
      have y8 : d1 (s + 8) o2 = m := by rw [e9 _ (by omega) (by omega) (by omega)]; exact c3
      obtain ⟨r1, r2, r3, r4, r5⟩ := take41 (s := s) (o := o2) (p := tw) (d := d1) t1 (by rw [y8]; exact t2) (by rw [y8]; exact m16)
      generalize g_41 (s + 2) o2 tw d1 = d2 at *
      rw [y8] at r3 r4 r5
      rw [e9 (s + 9) (by omega) (by omega) (by omega)] at r4 r5
      rw [e9 (s + 8) (by omega) (by omega) (by omega)] at r2
      obtain ⟨i1, i2, i3, i4, i5, i6⟩ := put40 (s := s) (o := o2) (p := pos) (t := U n) (d := d2) (by rw [r3]; omega) (by rw [r3]; omega)
      generalize g_40 (s + 2) o2 pos (U n) d2 = d' at *
      rw [r3] at i3 i5 i6
      have hr := c6.rem (q' := fun k => d2 (s + 9) (o2 * 16 + k)) ⟨t1, t2⟩ (fun k a b => r5 _ (by omega)) (fun k a b => by show d2 (s + 9) _ = _; rw [r4 k a b, show o2 * 16 + k + 1 = o2 * 16 + (k + 1) by omega])
      have hi' := hr.1.ins (q' := fun k => d' (s + 9) (o2 * 16 + k)) (t := U n) (pos := pos) ⟨p1, by omega⟩ (fun k a b => i6 _ (by omega)) i4 (fun k a b => by show d' (s + 9) _ = _; rw [i5 k a b, show o2 * 16 + k - 1 = o2 * 16 + (k - 1) by omega]) (fun k a b => by
        show κ (d2 (s + 9) (o2 * 16 + k)) < _
        rw [r5 _ (by omega)]
        exact lo k a b) (fun k a b => by
        show _ < κ (d2 (s + 9) (o2 * 16 + k))
        by_cases y : k < tw
        · rw [r5 _ (by omega)]
          exact hi k a (by omega)
        · rw [r4 k (by omega) (by omega), show o2 * 16 + k + 1 = o2 * 16 + (k + 1) by omega]
          exact hi (k + 1) (by omega) (by omega))
      have hl : κ (U n) < κ X := by
        rw [← hX]
        exact hi tw (by omega) t2
      have hr2 := hr.2
      obtain ⟨s1, s2⟩ := stSwap (q := fun k => d (s + 9) (o2 * 16 + k)) (tw := tw) (q1 := fun k => d2 (s + 9) (o2 * 16 + k)) (q' := fun k => d' (s + 9) (o2 * 16 + k)) hn hk1 c6 c7 ⟨t1, t2⟩ (by rw [hX]; exact t3) (by rw [hX]; exact hl) hr2 hi'.2
      rw [hX] at s2
      refine ⟨m, fun b x1 x2 x3 x4 x5 => ?_, fun o x => ?_, by rw [i3]; omega, fun i x => ?_, c5, ?_, s1, c8' d' (fun x => ?_), fun t => ?_⟩
      · rw [i1 b x1 x2, r1 b x1 x2, e9 b x3 x4 x5]; exact c1 b x1 x2 x3 x4 x5
      · rw [i2 o x, r2 o x]; exact c2 o x
      · rw [i6 i (by omega), r5 i (by omega)]; exact c4 i x
      · have := hi'.1
        rw [show m - 1 + 1 = m by omega] at this
        exact this
      · rw [i1 _ (by omega) (by omega), r1 _ (by omega) (by omega), ← hd1, ms_a (by omega), ms_a (by omega)]
      · rw [s2 t, i1 _ (by omega) (by omega), i1 _ (by omega) (by omega), r1 _ (by omega) (by omega), r1 _ (by omega) (by omega), ← hd1]
        by_cases y : t = X
        · rw [y, ms_e rfl rfl, ms_a (by omega), ms_e rfl rfl]
          exact ⟨fun _ => ⟨rfl, rfl⟩, fun u => absurd (Or.inr rfl) u⟩
        · rw [ms_i y, ms_a (by omega), ms_a (by omega), ms_a (by omega), ms_i y, ms_a (by omega)]
          exact ⟨fun u => (c9 t).1 (u.elim id (fun v => absurd v y)), fun u => (c9 t).2 (fun v => u (Or.inl v))⟩
/-! ===== merge: the class's loop, the reference's two loops ===== -/
theorem loopC {κ U p j : Int → Int} {s o1 o2 T a b : Int} {d0 : mD} (ha : 0 ≤ a) (hb : 0 ≤ b ∧ b ≤ 16) (hne : ¬ o1 = o2) (h8 : d0 (s + 8) o1 = b) (hU : ∀ x, 0 ≤ x → x < b → d0 (s + 9) (o1 * 16 + x) = U (a + x)) (hk : ∀ n, a ≤ n → n < a + b → ∀ x, inU U n x → ¬ κ x = κ (U n) ∧ (κ x < κ (U n) ↔ j x ≤ j (U n))) (hp : ∀ x, inU U (a + b) x → d0 (s + 50) x = p x ∧ d0 (s + 52) x = j x ∧ 0 ≤ p x ∧ p x < 16) (hT : d0 s 2 = T) : ∀ (N : Nat) (x m : Int) (d : mD), 0 ≤ x → x ≤ b → b ≤ x + N → MC κ U p s o2 T d0 (a + x) m d → ∃ m' d1, MC κ U p s o2 T d0 (a + b) m' d1 ∧ lp_63_2 s o1 o2 N x d = mset (mset d1 (s + 8) o1 0) (s + 7) o1 0 := by
  have e : ∀ (r : Int → mD → mD) (x m : Int) (d : mD), MC κ U p s o2 T d0 (a + x) m d → st_63_2 s o1 o2 r x d = if x < b then r (x + 1) (g_64 s o2 (d (s + 9) (o1 * 16 + x)) d) else mset (mset d (s + 8) o1 0) (s + 7) o1 0 := fun r x m d h => by
    unfold st_63_2 v_38
    rw [show s + 2 + 6 = s + 8 by omega, show s + 2 + 7 = s + 9 by omega, show s + 2 + 5 = s + 7 by omega, h.2.1 o1 hne, h8]
  intro N
  induction N with
  | zero =>
    intro x m d x0 x1 x2 h
    have q := e (fun _ d => d) x m d h
    rw [if_neg (by omega)] at q
    refine ⟨m, d, ?_, q⟩
    rw [show a + b = a + x by omega]
    exact h
  | succ N ih =>
    intro x m d x0 x1 x2 h
    have q := e (lp_63_2 s o1 o2 N) x m d h
    by_cases z : x < b
    · rw [if_pos z, h.2.2.2.1 _ (by omega), hU x x0 z] at q
      obtain ⟨m', h'⟩ := stepM (j := j) (by omega) (hk (a + x) (by omega) (by omega)) (fun y ⟨i, i0, i1, i2⟩ => hp y ⟨i, i0, by omega, i2⟩) hT h
      rw [show a + x + 1 = a + (x + 1) by omega] at h'
      obtain ⟨m2, d2, g1, g2⟩ := ih (x + 1) m' _ (by omega) (by omega) (by omega) h'
      exact ⟨m2, d2, g1, q.trans g2⟩
    · rw [if_neg z] at q
      refine ⟨m, d, ?_, q⟩
      rw [show a + b = a + x by omega]
      exact h
theorem ins229 {x1 o2 x3 x5 t : Int} {r : Int → Int → Int → Row → Row} (ho : 0 ≤ o2 ∧ o2 ≤ 5) (ht : 0 ≤ t ∧ t < 60) : ∀ (N : Nat) (x : Int) (w : Row), 0 ≤ x → x ≤ 60 → x ≤ N → (∀ k, 0 ≤ k → k < x → 0 ≤ w (12 + 68 * o2 + 7 + k)) → ∃ pos w', 0 ≤ pos ∧ pos ≤ x ∧ LP_229_61 x1 o2 r N x3 (12 + 68 * o2) x5 t x w = r x3 (12 + 68 * o2) (x5 + 1) w' ∧ (∀ k, pos ≤ k → k < x → w (452 + 24 * t + 2) < w (452 + 24 * w (12 + 68 * o2 + 7 + k) + 2)) ∧ (0 < pos → ¬ w (452 + 24 * t + 2) < w (452 + 24 * w (12 + 68 * o2 + 7 + (pos - 1)) + 2)) ∧ w' (12 + 68 * o2 + 7 + pos) = t ∧ (∀ k, pos < k → k ≤ x → w' (12 + 68 * o2 + 7 + k) = w (12 + 68 * o2 + 7 + (k - 1))) ∧ w' (12 + 68 * o2 + 5) = w (12 + 68 * o2 + 5) + 1 ∧ w' (452 + 24 * t + 1) = o2 ∧ ∀ i, ¬ i = 12 + 68 * o2 + 5 → ¬ i = 452 + 24 * t + 1 → ¬ (12 + 68 * o2 + 7 + pos ≤ i ∧ i ≤ 12 + 68 * o2 + 7 + x) → w' i = w i := by
  have stop : ∀ (x : Int) (w : Row) (L : Row), 0 ≤ x → x ≤ 60 → (0 < x → ¬ w (452 + 24 * t + 2) < w (452 + 24 * w (12 + 68 * o2 + 7 + (x - 1)) + 2)) → L = r x3 (12 + 68 * o2) (x5 + 1) (ws (ws (ws w (12 + 68 * o2 + 7 + x) t) (12 + 68 * o2 + 5) (w (12 + 68 * o2 + 5) + 1)) (452 + 24 * t + 1) o2) → ∃ pos w', 0 ≤ pos ∧ pos ≤ x ∧ L = r x3 (12 + 68 * o2) (x5 + 1) w' ∧ (∀ k, pos ≤ k → k < x → w (452 + 24 * t + 2) < w (452 + 24 * w (12 + 68 * o2 + 7 + k) + 2)) ∧ (0 < pos → ¬ w (452 + 24 * t + 2) < w (452 + 24 * w (12 + 68 * o2 + 7 + (pos - 1)) + 2)) ∧ w' (12 + 68 * o2 + 7 + pos) = t ∧ (∀ k, pos < k → k ≤ x → w' (12 + 68 * o2 + 7 + k) = w (12 + 68 * o2 + 7 + (k - 1))) ∧ w' (12 + 68 * o2 + 5) = w (12 + 68 * o2 + 5) + 1 ∧ w' (452 + 24 * t + 1) = o2 ∧ ∀ i, ¬ i = 12 + 68 * o2 + 5 → ¬ i = 452 + 24 * t + 1 → ¬ (12 + 68 * o2 + 7 + pos ≤ i ∧ i ≤ 12 + 68 * o2 + 7 + x) → w' i = w i := fun x w L a b c e => by
    refine ⟨x, _, a, by omega, e, fun k y z => by omega, c, ?_, fun k y z => by omega, ?_, wse rfl, fun i y z u => ?_⟩
    · rw [wsn (by omega), wsn (by omega), wse rfl]
    · rw [wsn (by omega), wse rfl]
    · rw [wsn z, wsn y, wsn (by omega)]
  intro N
  induction N with
  | zero =>
    intro x w a b c hq
    refine stop x w _ a b (fun z => by omega) ?_
    show ST_229_61 x1 o2 r _ x3 (12 + 68 * o2) x5 t x w = _
    unfold ST_229_61
    rw [if_neg (by omega)]
  | succ N ih =>
    intro x w a b c hq
    by_cases q : 0 < x
    · by_cases z : w (452 + 24 * t + 2) < w (452 + 24 * w (12 + 68 * o2 + 7 + (x - 1)) + 2)
      · have e : LP_229_61 x1 o2 r (N + 1) x3 (12 + 68 * o2) x5 t x w = LP_229_61 x1 o2 r N x3 (12 + 68 * o2) x5 t (x + -1) (ws w (12 + 68 * o2 + 7 + x) (w (12 + 68 * o2 + 7 + (x - 1)))) := by
          show ST_229_61 x1 o2 r _ x3 (12 + 68 * o2) x5 t x w = _
          unfold ST_229_61
          rw [if_pos q, show 12 + 68 * o2 + 7 + x - 1 = 12 + 68 * o2 + 7 + (x - 1) by omega, if_pos z]
        have y1 : ∀ i, ¬ i = 12 + 68 * o2 + 7 + x → ws w (12 + 68 * o2 + 7 + x) (w (12 + 68 * o2 + 7 + (x - 1))) i = w i := fun i y => wsn y
        have y2 : ws w (12 + 68 * o2 + 7 + x) (w (12 + 68 * o2 + 7 + (x - 1))) (12 + 68 * o2 + 7 + x) = w (12 + 68 * o2 + 7 + (x - 1)) := wse rfl
        rw [e]
        generalize ws w (12 + 68 * o2 + 7 + x) (w (12 + 68 * o2 + 7 + (x - 1))) = w1 at *
        obtain ⟨pos, w', i1, i2, i3, i4, i5, i6, i7, i8, i9, i10⟩ := ih (x + -1) w1 (by omega) (by omega) (by omega) (fun k u v => by rw [y1 _ (by omega)]; exact hq k u (by omega))
        refine ⟨pos, w', i1, by omega, i3, fun k u v => ?_, fun u => ?_, i6, fun k u v => ?_, by rw [i8, y1 _ (by omega)], i9, fun i u v y => by rw [i10 i u v (by omega), y1 i (by omega)]⟩
        · by_cases k1 : k = x - 1
          · rw [k1]; exact z
          · have k2 := i4 k u (by omega)
            have k3 := hq k (by omega) (by omega)
            rw [y1 (12 + 68 * o2 + 7 + k) (by omega), y1 _ (by omega), y1 _ (by omega)] at k2
            exact k2
        · have k2 := i5 u
          have k3 := hq (pos - 1) (by omega) (by omega)
          rw [y1 (12 + 68 * o2 + 7 + (pos - 1)) (by omega), y1 _ (by omega), y1 _ (by omega)] at k2
          exact k2
        · by_cases k1 : k = x
          · rw [k1, i10 _ (by omega) (by omega) (by omega), y2]
          · rw [i7 k u (by omega), y1 _ (by omega)]
      · refine stop x w _ a b (fun _ => z) ?_
        show ST_229_61 x1 o2 r _ x3 (12 + 68 * o2) x5 t x w = _
        unfold ST_229_61
        rw [if_pos q, show 12 + 68 * o2 + 7 + x - 1 = 12 + 68 * o2 + 7 + (x - 1) by omega, if_neg z]
    · refine stop x w _ a b (fun z => by omega) ?_
      show ST_229_61 x1 o2 r _ x3 (12 + 68 * o2) x5 t x w = _
      unfold ST_229_61
      rw [if_neg q]
def MR (κ U : Int → Int) (o2 : Int) (w0 : Row) (n : Int) (w : Row) : Prop :=
  w (12 + 68 * o2 + 5) = n ∧ incS κ (fun k => w (12 + 68 * o2 + 7 + k)) n ∧ (∀ t, memS (fun k => w (12 + 68 * o2 + 7 + k)) n t ↔ inU U n t)
  ∧ (∀ i, ¬ i = 12 + 68 * o2 + 5 → ¬ (12 + 68 * o2 + 7 ≤ i ∧ i < 12 + 68 * o2 + 68) → ¬ (452 ≤ i ∧ i < 1892 ∧ (i - 452) % 24 = 1) → w i = w0 i)
  ∧ ∀ t, 0 ≤ t → t < 60 → (inU U n t → w (452 + 24 * t + 1) = o2) ∧ (¬ inU U n t → w (452 + 24 * t + 1) = w0 (452 + 24 * t + 1))
theorem stepR {κ U : Int → Int} {o1 o2 x3 x5 n : Int} {w0 w : Row} {r : Int → Int → Int → Row → Row} (ho : 0 ≤ o2 ∧ o2 ≤ 5) (hn : 0 ≤ n ∧ n ≤ 40) (hk : ∀ x, inU U n x → ¬ κ x = κ (U n) ∧ (κ x < κ (U n) ↔ w0 (452 + 24 * x + 2) ≤ w0 (452 + 24 * U n + 2))) (hU : ∀ x, inU U (n + 1) x → 0 ≤ x ∧ x < 60) (h : MR κ U o2 w0 n w) : ∃ w', MR κ U o2 w0 (n + 1) w' ∧ LP_229_61 o1 o2 r (n : Int).toNat x3 (12 + 68 * o2) x5 (U n) n w = r x3 (12 + 68 * o2) (x5 + 1) w' := by
  obtain ⟨c1, c2, c3, c4, c5⟩ := h
  have ht : inU U (n + 1) (U n) := (inU_succ hn.1).2 (Or.inr rfl)
  have hu : ∀ x, inU U n x → inU U (n + 1) x := fun x a => (inU_succ hn.1).2 (Or.inl a)
  have mq : ∀ k, 0 ≤ k → k < n → inU U n (w (12 + 68 * o2 + 7 + k)) := fun k a b => (c3 _).1 ⟨k, a, b, rfl⟩
  have rt := hU _ ht
  obtain ⟨pos, w', i1, i2, i3, i4, i5, i6, i7, i8, i9, i10⟩ := ins229 (x1 := o1) (x3 := x3) (x5 := x5) (r := r) ho rt n.toNat n w hn.1 (by omega) (by omega) (fun k a b => (hU _ (hu _ (mq k a b))).1)
  have ej : ∀ X, 0 ≤ X ∧ X < 60 → w (452 + 24 * X + 2) = w0 (452 + 24 * X + 2) := fun X a => c4 _ (by omega) (by omega) (by omega)
  have hi : ∀ k, pos ≤ k → k < n → κ (U n) < κ (w (12 + 68 * o2 + 7 + k)) := fun k a b => by
    have y := i4 k a b
    have z := mq k (by omega) b
    rw [ej _ rt, ej _ (hU _ (hu _ z))] at y
    have u := hk _ z
    have v : ¬ κ (w (12 + 68 * o2 + 7 + k)) < κ (U n) := fun q => by
      have := u.2.1 q
      omega
    have := u.1
    omega
  have lo : ∀ k, 0 ≤ k → k < pos → κ (w (12 + 68 * o2 + 7 + k)) < κ (U n) := fun k a b => by
    have y := i5 (by omega)
    have z := mq (pos - 1) (by omega) (by omega)
    rw [ej _ rt, ej _ (hU _ (hu _ z))] at y
    have u := (hk _ z).2.2 (by omega)
    by_cases q : k = pos - 1
    · rw [q]; exact u
    · have := c2 k (pos - 1) a (by omega) (by omega)
      have this : κ (w (12 + 68 * o2 + 7 + k)) < κ (w (12 + 68 * o2 + 7 + (pos - 1))) := this
      omega
  have hi' := c2.ins (q' := fun k => w' (12 + 68 * o2 + 7 + k)) (t := U n) ⟨i1, i2⟩ (fun k a b => i10 _ (by omega) (by omega) (by omega)) i6 i7 lo hi
  refine ⟨w', ⟨by rw [i8, c1], hi'.1, fun t => ?_, fun i a b c => ?_, fun t a b => ?_⟩, i3⟩
  · rw [hi'.2, c3, inU_succ hn.1]
    exact ⟨fun z => z.elim Or.inr Or.inl, fun z => z.elim Or.inr Or.inl⟩
  · rw [i10 i a (by omega) (by omega)]
    exact c4 i a b c
  · by_cases z : t = U n
    · rw [z]
      exact ⟨fun _ => i9, fun y => absurd ht y⟩
    · rw [inU_succ hn.1, i10 _ (by omega) (by omega) (by omega)]
      exact ⟨fun y => (c5 t a b).1 (y.elim id (fun u => absurd u z)), fun y => (c5 t a b).2 (fun u => y (Or.inl u))⟩
theorem loopR {κ U : Int → Int} {o1 o2 a b : Int} {w0 : Row} (ho1 : 0 ≤ o1 ∧ o1 ≤ 5) (ho2 : 0 ≤ o2 ∧ o2 ≤ 5) (hne : ¬ o1 = o2) (ha : 0 ≤ a ∧ a ≤ 16) (hb : 0 ≤ b ∧ b ≤ 16) (h5 : w0 (12 + 68 * o1 + 5) = b) (hq : ∀ x, 0 ≤ x → x < b → w0 (12 + 68 * o1 + 7 + x) = U (a + x)) (hk : ∀ n, a ≤ n → n < a + b → ∀ x, inU U n x → ¬ κ x = κ (U n) ∧ (κ x < κ (U n) ↔ w0 (452 + 24 * x + 2) ≤ w0 (452 + 24 * U n + 2))) (hU : ∀ x, inU U (a + b) x → 0 ≤ x ∧ x < 60) : ∀ (N : Nat) (x : Int) (w : Row), 0 ≤ x → x ≤ b → b ≤ x + N → MR κ U o2 w0 (a + x) w → ∃ w1, MR κ U o2 w0 (a + b) w1 ∧ LP_229_23 o1 o2 N (12 + 68 * o1) (12 + 68 * o2) x w = LP_229_199 o1 o2 (a + b : Int).toNat (12 + 68 * o1) (12 + 68 * o2) 0 (ws w1 (12 + 68 * o1 + 5) 0) := by
  have fin : ∀ (r : Int → Int → Int → Row → Row) (x : Int) (w : Row), x = b → MR κ U o2 w0 (a + x) w → ST_229_23 o1 o2 r (12 + 68 * o1) (12 + 68 * o2) x w = LP_229_199 o1 o2 (a + b : Int).toNat (12 + 68 * o1) (12 + 68 * o2) 0 (ws w (12 + 68 * o1 + 5) 0) := fun r x w e h => by
    unfold ST_229_23
    rw [h.2.2.2.1 (12 + 68 * o1 + 5) (by omega) (by omega) (by omega), h5, if_neg (by omega), wsn (by omega), h.1, show a + x - 0 = a + b by omega]
  intro N
  induction N with
  | zero =>
    intro x w x0 x1 x2 h
    have e : x = b := by omega
    have y : LP_229_23 o1 o2 0 (12 + 68 * o1) (12 + 68 * o2) x w = _ := fin _ x w e h
    rw [e] at h
    exact ⟨w, h, y⟩
  | succ N ih =>
    intro x w x0 x1 x2 h
    by_cases z : x < b
    · have t : w (12 + 68 * o1 + 7 + x) = U (a + x) := by
        rw [h.2.2.2.1 (12 + 68 * o1 + 7 + x) (by omega) (by omega) (by omega)]
        exact hq x x0 z
      obtain ⟨w', g1, g2⟩ := stepR (o1 := o1) (x3 := 12 + 68 * o1) (x5 := x) (r := LP_229_23 o1 o2 N) ho2 (by omega) (hk (a + x) (by omega) (by omega)) (fun y ⟨i, i0, i1, i2⟩ => hU y ⟨i, i0, by omega, i2⟩) h
      have y : LP_229_23 o1 o2 (N + 1) (12 + 68 * o1) (12 + 68 * o2) x w = LP_229_23 o1 o2 N (12 + 68 * o1) (12 + 68 * o2) (x + 1) w' := by
        show ST_229_23 o1 o2 _ (12 + 68 * o1) (12 + 68 * o2) x w = _
        unfold ST_229_23
        rw [h.2.2.2.1 (12 + 68 * o1 + 5) (by omega) (by omega) (by omega), h5, if_pos z, t, h.1]
        exact g2
      rw [show a + x + 1 = a + (x + 1) by omega] at g1
      rw [y]
      exact ih (x + 1) w' (by omega) (by omega) (by omega) g1
    · have e : x = b := by omega
      have y : LP_229_23 o1 o2 (N + 1) (12 + 68 * o1) (12 + 68 * o2) x w = _ := fin _ x w e h
      rw [e] at h
      exact ⟨w, h, y⟩
-- the second loop: who stands behind a ticket of the same person goes
theorem lp237 {x1 x2 x3 x4 x5 x6 : Int} {r : Int → Int → Int → Row → Row} {w : Row} : ∀ (N : Nat) (x7 x8 : Int), (x7 = 0 ∨ x7 = 1) → x5 ≤ x8 + N → (LP_229_237 x1 x2 r N x3 x4 x5 x6 x7 x8 w = r x3 x4 (x5 + 1) w ∧ x7 = 0 ∧ ∀ k, x8 ≤ k → k < x5 → ¬ w (452 + 24 * w (x4 + 7 + k) + 0) = w (x6 + 0)) ∨ (LP_229_237 x1 x2 r N x3 x4 x5 x6 x7 x8 w = r x3 x4 x5 (W_220 x2 x5 (ws (ws w (x6 + 4) 2) (x6 + 3) (w 0))) ∧ (x7 = 1 ∨ ∃ k, x8 ≤ k ∧ k < x5 ∧ w (452 + 24 * w (x4 + 7 + k) + 0) = w (x6 + 0))) := by
  have fin : ∀ (r' : Int → Int → Int → Int → Int → Int → Row → Row) (x7 x8 : Int) (L : Row), (x7 = 0 ∨ x7 = 1) → ¬ x8 < x5 → L = ST_229_237 x1 x2 r r' x3 x4 x5 x6 x7 x8 w → (L = r x3 x4 (x5 + 1) w ∧ x7 = 0 ∧ ∀ k, x8 ≤ k → k < x5 → ¬ w (452 + 24 * w (x4 + 7 + k) + 0) = w (x6 + 0)) ∨ (L = r x3 x4 x5 (W_220 x2 x5 (ws (ws w (x6 + 4) 2) (x6 + 3) (w 0))) ∧ (x7 = 1 ∨ ∃ k, x8 ≤ k ∧ k < x5 ∧ w (452 + 24 * w (x4 + 7 + k) + 0) = w (x6 + 0))) := fun r' x7 x8 L h c e => by
    unfold ST_229_237 at e
    rw [if_neg c] at e
    rcases h with h | h
    · rw [if_pos h] at e
      exact Or.inl ⟨e, h, fun k a b => by omega⟩
    · rw [if_neg (by omega)] at e
      exact Or.inr ⟨e, Or.inl h⟩
  intro N
  induction N with
  | zero => intro x7 x8 h c; exact fin _ x7 x8 _ h (by omega) rfl
  | succ N ih =>
    intro x7 x8 h c
    by_cases z : x8 < x5
    · by_cases y : w (452 + 24 * w (x4 + 7 + x8) + 0) = w (x6 + 0)
      · have e : LP_229_237 x1 x2 r (N + 1) x3 x4 x5 x6 x7 x8 w = LP_229_237 x1 x2 r N x3 x4 x5 x6 1 (x8 + 1) w := by
          show ST_229_237 x1 x2 r _ x3 x4 x5 x6 x7 x8 w = _
          unfold ST_229_237
          rw [if_pos z, if_pos y]
          rcases h with h | h
          · rw [h, show mior 0 1 = 1 by decide]
          · rw [h, show mior 1 1 = 1 by decide]
        rw [e]
        rcases ih 1 (x8 + 1) (Or.inr rfl) (by omega) with ⟨-, i2, -⟩ | ⟨i1, -⟩
        · exact absurd i2 (by decide)
        · exact Or.inr ⟨i1, Or.inr ⟨x8, by omega, z, y⟩⟩
      · have e : LP_229_237 x1 x2 r (N + 1) x3 x4 x5 x6 x7 x8 w = LP_229_237 x1 x2 r N x3 x4 x5 x6 x7 (x8 + 1) w := by
          show ST_229_237 x1 x2 r _ x3 x4 x5 x6 x7 x8 w = _
          unfold ST_229_237
          rw [if_pos z, if_neg y]
          rcases h with h | h
          · rw [h, show mior 0 0 = 0 by decide]
          · rw [h, show mior 1 0 = 1 by decide]
        rw [e]
        rcases ih x7 (x8 + 1) h (by omega) with ⟨i1, i2, i3⟩ | ⟨i1, i2⟩
        · refine Or.inl ⟨i1, i2, fun k a b => ?_⟩
          by_cases q : k = x8
          · rw [q]; exact y
          · exact i3 k (by omega) b
        · refine Or.inr ⟨i1, i2.elim Or.inl (fun ⟨k, a, b, c⟩ => Or.inr ⟨k, by omega, b, c⟩)⟩
    · exact fin _ x7 x8 _ h z rfl
def MrgQ (κ U p : Int → Int) (o2 : Int) (w1 : Row) (n x m : Int) (w : Row) : Prop :=
  w (12 + 68 * o2 + 5) = m ∧ 0 ≤ x ∧ x ≤ m ∧ m ≤ 40 ∧ incS κ (fun k => w (12 + 68 * o2 + 7 + k)) m ∧ (∀ t, memS (fun k => w (12 + 68 * o2 + 7 + k)) m t → inU U n t) ∧ (∀ t, bestS κ p U n t → memS (fun k => w (12 + 68 * o2 + 7 + k)) m t) ∧ (∀ k, 0 ≤ k → k < x → bestS κ p U n (w (12 + 68 * o2 + 7 + k)))
  ∧ (∀ i, ¬ i = 12 + 68 * o2 + 5 → ¬ (12 + 68 * o2 + 7 ≤ i ∧ i < 12 + 68 * o2 + 68) → ¬ (452 ≤ i ∧ i < 1892 ∧ ((i - 452) % 24 = 3 ∨ (i - 452) % 24 = 4)) → w i = w1 i)
  ∧ ∀ t, 0 ≤ t → t < 60 → ((inU U n t ∧ ¬ memS (fun k => w (12 + 68 * o2 + 7 + k)) m t) → w (452 + 24 * t + 3) = w1 0 ∧ w (452 + 24 * t + 4) = 2) ∧ (¬ (inU U n t ∧ ¬ memS (fun k => w (12 + 68 * o2 + 7 + k)) m t) → w (452 + 24 * t + 3) = w1 (452 + 24 * t + 3) ∧ w (452 + 24 * t + 4) = w1 (452 + 24 * t + 4))
theorem stepQ {κ U p : Int → Int} {o1 o2 x3 n x m : Int} {w1 w : Row} {r : Int → Int → Int → Row → Row} (ho : 0 ≤ o2 ∧ o2 ≤ 5) (hU : ∀ t, inU U n t → (0 ≤ t ∧ t < 60) ∧ w1 (452 + 24 * t + 0) = p t) (h : MrgQ κ U p o2 w1 n x m w) (hx : x < m) : ∃ x' m' w', MrgQ κ U p o2 w1 n x' m' w' ∧ m' - x' = m - x - 1 ∧ LP_229_237 o1 o2 r (x - 0 : Int).toNat x3 (12 + 68 * o2) x (452 + 24 * w (12 + 68 * o2 + 7 + x)) 0 0 w = r x3 (12 + 68 * o2) x' w' := by
  obtain ⟨c1, c2, c3, c4, c5, c6, c7, c8, c9, c10⟩ := h
  have mq : ∀ k, 0 ≤ k → k < m → inU U n (w (12 + 68 * o2 + 7 + k)) := fun k a b => c6 _ ⟨k, a, b, rfl⟩
  have ep : ∀ t, inU U n t → w (452 + 24 * t + 0) = p t := fun t a => by
    have := (hU t a).1
    rw [c9 _ (by omega) (by omega) (by omega)]
    exact (hU t a).2
  rcases lp237 (x1 := o1) (x2 := o2) (x3 := x3) (x4 := 12 + 68 * o2) (x5 := x) (x6 := 452 + 24 * w (12 + 68 * o2 + 7 + x)) (r := r) (w := w) (x - 0 : Int).toNat 0 0 (Or.inl rfl) (by omega) with ⟨i1, -, i3⟩ | ⟨i1, i2⟩
  · refine ⟨x + 1, m, w, ⟨c1, by omega, by omega, c4, c5, c6, c7, fun k a b => ?_, c9, c10⟩, by omega, i1⟩
    by_cases q : k < x
    · exact c8 k a q
    · have e : k = x := by omega
      rw [e]
      refine ⟨mq x c2 hx, fun y y1 y2 => ?_⟩
      obtain ⟨z, z1, z2, z3⟩ := bestS.ex (κ := κ) (p := p) y1
      obtain ⟨l, l0, l1, l2⟩ := c7 z z1
      have l2 : w (12 + 68 * o2 + 7 + l) = z := l2
      by_cases ll : l < x
      · have := i3 l l0 ll
        rw [ep _ (mq l l0 l1), ep _ (mq x c2 hx), l2] at this
        exact absurd (z2.trans y2) this
      · by_cases lx : l = x
        · rw [lx] at l2
          rw [l2]; exact z3
        · have := c5 x l c2 (by omega) l1
          have this : κ (w (12 + 68 * o2 + 7 + x)) < κ (w (12 + 68 * o2 + 7 + l)) := this
          rw [l2] at this
          omega
  · obtain ⟨k0, k1, k2, k3⟩ : ∃ k, 0 ≤ k ∧ k < x ∧ w (452 + 24 * w (12 + 68 * o2 + 7 + k) + 0) = w (452 + 24 * w (12 + 68 * o2 + 7 + x) + 0) := i2.elim (fun z => absurd z (by decide)) id
    rw [ep _ (mq k0 k1 (by omega)), ep _ (mq x c2 hx)] at k3
    have rt := (hU _ (mq x c2 hx)).1
    have nb : ¬ bestS κ p U n (w (12 + 68 * o2 + 7 + x)) := fun z => by
      have y1 := z.2 _ (mq k0 k1 (by omega)) k3
      have y2 := c5 k0 x k1 k2 hx
      have y2 : κ (w (12 + 68 * o2 + 7 + k0)) < κ (w (12 + 68 * o2 + 7 + x)) := y2
      omega
    generalize hX : w (12 + 68 * o2 + 7 + x) = X at *
    generalize hu : ws (ws w (452 + 24 * X + 4) 2) (452 + 24 * X + 3) (w 0) = u at *
    have eu : ∀ i, ¬ i = 452 + 24 * X + 4 → ¬ i = 452 + 24 * X + 3 → u i = w i := fun i a b => by
      rw [← hu, wsn b, wsn a]
    have e5 : u (12 + 68 * o2 + 5) = m := by rw [eu _ (by omega) (by omega)]; exact c1
    obtain ⟨t1, t2, t3⟩ := take220 (o := o2) (p := x) (w := u) c2 (by rw [e5]; omega) (by omega)
    generalize W_220 o2 x u = w' at *
    rw [e5] at t1 t2 t3
    have hr := c5.rem (q' := fun k => w' (12 + 68 * o2 + 7 + k)) ⟨c2, hx⟩ (fun k a b => by show w' _ = _; rw [t3 _ (by omega) (by omega), eu _ (by omega) (by omega)]) (fun k a b => by show w' _ = _; rw [t2 k a b, eu _ (by omega) (by omega), show 12 + 68 * o2 + 7 + k + 1 = 12 + 68 * o2 + 7 + (k + 1) by omega])
    have hr2 : ∀ y, memS (fun k => w' (12 + 68 * o2 + 7 + k)) (m - 1) y ↔ memS (fun k => w (12 + 68 * o2 + 7 + k)) m y ∧ ¬ y = X := by
      intro y
      have := hr.2 y
      rw [this, ← hX]
    have w0 : w 0 = w1 0 := c9 0 (by omega) (by omega) (by omega)
    refine ⟨x, m - 1, w', ⟨t1, c2, by omega, by omega, hr.1, fun t a => c6 t ((hr2 t).1 a).1, fun t a => (hr2 t).2 ⟨c7 t a, fun z => nb (by rw [← z]; exact a)⟩, fun k a b => ?_, fun i a b c => ?_, fun t a b => ?_⟩, by omega, i1⟩
    · rw [t3 _ (by omega) (by omega), eu _ (by omega) (by omega)]
      exact c8 k a b
    · rw [t3 i a (by omega), eu i (by omega) (by omega)]
      exact c9 i a b c
    · rw [hr2, t3 _ (by omega) (by omega), t3 _ (by omega) (by omega)]
      by_cases z : t = X
      · rw [z, ← hu, wse rfl, wsn (by omega), wse rfl]
        refine ⟨fun _ => ⟨w0, rfl⟩, fun y => absurd ⟨?_, fun v => v.2 rfl⟩ y⟩
        have := mq x c2 hx
        rw [hX] at this
        exact this
      · rw [eu _ (by omega) (by omega), eu _ (by omega) (by omega)]
        exact ⟨fun y => (c10 t a b).1 ⟨y.1, fun v => y.2 ⟨v, z⟩⟩, fun y => (c10 t a b).2 (fun v => y ⟨v.1, fun u => v.2 u.1⟩)⟩
theorem loopQ {κ U p : Int → Int} {o1 o2 x3 n : Int} {w1 : Row} (ho : 0 ≤ o2 ∧ o2 ≤ 5) (hU : ∀ t, inU U n t → (0 ≤ t ∧ t < 60) ∧ w1 (452 + 24 * t + 0) = p t) : ∀ (N : Nat) (x m : Int) (w : Row), MrgQ κ U p o2 w1 n x m w → m ≤ x + N → ∃ m', MrgQ κ U p o2 w1 n m' m' (LP_229_199 o1 o2 N x3 (12 + 68 * o2) x w) := by
  have fin : ∀ (r : Int → Int → Int → Row → Row) (x m : Int) (w : Row), MrgQ κ U p o2 w1 n x m w → ¬ x < m → MrgQ κ U p o2 w1 n m m (ST_229_199 o1 o2 r x3 (12 + 68 * o2) x w) := fun r x m w h c => by
    unfold ST_229_199
    rw [h.1, if_neg c]
    have e : x = m := by
      have := h.2.2.1
      omega
    rw [e] at h
    exact h
  intro N
  induction N with
  | zero => intro x m w h c; exact ⟨m, fin _ x m w h (by omega)⟩
  | succ N ih =>
    intro x m w h c
    by_cases z : x < m
    · obtain ⟨x', m', w', g1, g2, g3⟩ := stepQ (o1 := o1) (x3 := x3) (r := LP_229_199 o1 o2 N) ho hU h z
      have e : LP_229_199 o1 o2 (N + 1) x3 (12 + 68 * o2) x w = LP_229_199 o1 o2 N x3 (12 + 68 * o2) x' w' := by
        show ST_229_199 o1 o2 _ x3 (12 + 68 * o2) x w = _
        unfold ST_229_199
        rw [h.1, if_pos z]
        exact g3
      rw [e]
      exact ih x' m' w' g1 (by omega)
    · exact ⟨m, fin _ x m w h z⟩
/-! ===== merge: class and reference agree ===== -/
theorem exRank {U : Int → Int} : ∀ (N : Nat), (∀ i k, 0 ≤ i → i < k → k < (N : Int) → ¬ U i = U k) → ∃ r : Int → Int, ∀ i, 0 ≤ i → i < (N : Int) → r (U i) = i := by
  intro N
  induction N with
  | zero => intro h; exact ⟨fun _ => 0, fun i a b => by omega⟩
  | succ N ih =>
    intro h
    obtain ⟨r, hr⟩ := ih (fun i k a b c => h i k a b (by omega))
    refine ⟨fun t => if t = U N then N else r t, fun i a b => ?_⟩
    show (if U i = U N then (N : Int) else r (U i)) = i
    by_cases q : i = N
    · rw [q, if_pos rfl]
    · rw [if_neg (h i N a (by omega) (by omega))]
      exact hr i a (by omega)
def mgU (o1 o2 : Int) (w : Row) (i : Int) : Int := if i < w (12 + 68 * o2 + 5) then w (12 + 68 * o2 + 7 + i) else w (12 + 68 * o1 + 7 + (i - w (12 + 68 * o2 + 5)))
theorem mgU_lo {o1 o2 i : Int} {w : Row} (h : i < w (12 + 68 * o2 + 5)) : mgU o1 o2 w i = w (12 + 68 * o2 + 7 + i) := by
  unfold mgU
  rw [if_pos h]
theorem mgU_hi {o1 o2 i : Int} {w : Row} (h : 0 ≤ i) : mgU o1 o2 w (w (12 + 68 * o2 + 5) + i) = w (12 + 68 * o1 + 7 + i) := by
  unfold mgU
  rw [if_neg (by omega), show w (12 + 68 * o2 + 5) + i - w (12 + 68 * o2 + 5) = i by omega]
theorem mgU_f {o1 o2 : Int} {w : Row} (hg : GG w) (h1 : 0 ≤ o1 ∧ o1 < w 7) (h2 : 0 ≤ o2 ∧ o2 < w 7) {i : Int} (a : 0 ≤ i) (b : i < w (12 + 68 * o2 + 5) + w (12 + 68 * o1 + 5)) : (0 ≤ mgU o1 o2 w i ∧ mgU o1 o2 w i < w 9) ∧ w (452 + 24 * mgU o1 o2 w i + 4) = 0 ∧ ((i < w (12 + 68 * o2 + 5) ∧ w (452 + 24 * mgU o1 o2 w i + 1) = o2) ∨ (¬ i < w (12 + 68 * o2 + 5) ∧ w (452 + 24 * mgU o1 o2 w i + 1) = o1)) := by
  by_cases q : i < w (12 + 68 * o2 + 5)
  · rw [mgU_lo q]
    have g := hg.2.2.1 o2 h2.1 h2.2 i a q
    exact ⟨g.1, g.2.2.1, Or.inl ⟨q, g.2.1⟩⟩
  · have e := mgU_hi (o1 := o1) (o2 := o2) (i := i - w (12 + 68 * o2 + 5)) (w := w) (by omega)
    rw [show w (12 + 68 * o2 + 5) + (i - w (12 + 68 * o2 + 5)) = i by omega] at e
    rw [e]
    have g := hg.2.2.1 o1 h1.1 h1.2 (i - w (12 + 68 * o2 + 5)) (by omega) (by omega)
    exact ⟨g.1, g.2.2.1, Or.inr ⟨q, g.2.1⟩⟩
theorem mgU_inj {o1 o2 : Int} {w : Row} (hg : GG w) (h1 : 0 ≤ o1 ∧ o1 < w 7) (h2 : 0 ≤ o2 ∧ o2 < w 7) (hne : ¬ o1 = o2) {i k : Int} (a : 0 ≤ i) (b : i < k) (c : k < w (12 + 68 * o2 + 5) + w (12 + 68 * o1 + 5)) : ¬ mgU o1 o2 w i = mgU o1 o2 w k := fun z => by
  obtain ⟨-, -, f1⟩ := mgU_f hg h1 h2 a (by omega : i < _)
  obtain ⟨-, -, f2⟩ := mgU_f hg h1 h2 (by omega : 0 ≤ k) c
  rw [← z] at f2
  by_cases q : k < w (12 + 68 * o2 + 5)
  · rw [mgU_lo q, mgU_lo (by omega)] at z
    have g := (hg.2.2.1 o2 h2.1 h2.2 k (by omega) q).2.2.2 i a b
    exact g.2 (by rw [z])
  · by_cases q2 : i < w (12 + 68 * o2 + 5)
    · omega
    · have e1 := mgU_hi (o1 := o1) (o2 := o2) (i := i - w (12 + 68 * o2 + 5)) (w := w) (by omega)
      have e2 := mgU_hi (o1 := o1) (o2 := o2) (i := k - w (12 + 68 * o2 + 5)) (w := w) (by omega)
      rw [show w (12 + 68 * o2 + 5) + (i - w (12 + 68 * o2 + 5)) = i by omega] at e1
      rw [show w (12 + 68 * o2 + 5) + (k - w (12 + 68 * o2 + 5)) = k by omega] at e2
      rw [e1, e2] at z
      have g := (hg.2.2.1 o1 h1.1 h1.2 (k - w (12 + 68 * o2 + 5)) (by omega) (by omega)).2.2.2 (i - w (12 + 68 * o2 + 5)) (by omega) (by omega)
      exact g.2 (by rw [z])
-- what comes out
def MrgW (κ : Int → Int) (o1 o2 m : Int) (w w' : Row) : Prop :=
  (∀ i, ¬ i = 12 + 68 * o1 + 4 → ¬ i = 12 + 68 * o1 + 5 → ¬ i = 12 + 68 * o2 + 5 → ¬ (12 + 68 * o2 + 7 ≤ i ∧ i < 12 + 68 * o2 + 68) → ¬ (452 ≤ i ∧ i < 1892 ∧ ((i - 452) % 24 = 1 ∨ (i - 452) % 24 = 3 ∨ (i - 452) % 24 = 4)) → w' i = w i)
  ∧ w' (12 + 68 * o1 + 4) = 0 ∧ w' (12 + 68 * o1 + 5) = 0 ∧ w' (12 + 68 * o2 + 5) = m ∧ 0 ≤ m
  ∧ incS κ (fun k => w' (12 + 68 * o2 + 7 + k)) m ∧ (∀ t, memS (fun k => w' (12 + 68 * o2 + 7 + k)) m t ↔ bestS κ (fun t => w (452 + 24 * t + 0)) (mgU o1 o2 w) (w (12 + 68 * o2 + 5) + w (12 + 68 * o1 + 5)) t)
  ∧ (∀ t, 0 ≤ t → t < 60 → (inU (mgU o1 o2 w) (w (12 + 68 * o2 + 5) + w (12 + 68 * o1 + 5)) t → w' (452 + 24 * t + 1) = o2) ∧ (¬ inU (mgU o1 o2 w) (w (12 + 68 * o2 + 5) + w (12 + 68 * o1 + 5)) t → w' (452 + 24 * t + 1) = w (452 + 24 * t + 1)))
  ∧ ∀ t, 0 ≤ t → t < 60 → ((inU (mgU o1 o2 w) (w (12 + 68 * o2 + 5) + w (12 + 68 * o1 + 5)) t ∧ ¬ bestS κ (fun t => w (452 + 24 * t + 0)) (mgU o1 o2 w) (w (12 + 68 * o2 + 5) + w (12 + 68 * o1 + 5)) t) → w' (452 + 24 * t + 3) = w 0 ∧ w' (452 + 24 * t + 4) = 2) ∧ (¬ (inU (mgU o1 o2 w) (w (12 + 68 * o2 + 5) + w (12 + 68 * o1 + 5)) t ∧ ¬ bestS κ (fun t => w (452 + 24 * t + 0)) (mgU o1 o2 w) (w (12 + 68 * o2 + 5) + w (12 + 68 * o1 + 5)) t) → w' (452 + 24 * t + 3) = w (452 + 24 * t + 3) ∧ w' (452 + 24 * t + 4) = w (452 + 24 * t + 4))
def KapM (κ : Int → Int) (o1 o2 : Int) (w : Row) : Prop := ∀ n i, 0 ≤ i → i < n → n < w (12 + 68 * o2 + 5) + w (12 + 68 * o1 + 5) → ¬ κ (mgU o1 o2 w i) = κ (mgU o1 o2 w n) ∧ (κ (mgU o1 o2 w i) < κ (mgU o1 o2 w n) ↔ w (452 + 24 * mgU o1 o2 w i + 2) ≤ w (452 + 24 * mgU o1 o2 w n + 2))
theorem exKap {o1 o2 : Int} {w : Row} (hg : GG w) (h1 : 0 ≤ o1 ∧ o1 < w 7) (h2 : 0 ≤ o2 ∧ o2 < w 7) (hne : ¬ o1 = o2) : ∃ κ, KapM κ o1 o2 w := by
  have n7 := hg.1.1
  have a1 := (hg.2.1 o1 h1.1 h1.2).2.2.2.2.1
  have a2 := (hg.2.1 o2 h2.1 h2.2).2.2.2.2.1
  obtain ⟨r, hr⟩ := exRank (U := mgU o1 o2 w) (w (12 + 68 * o2 + 5) + w (12 + 68 * o1 + 5)).toNat (fun i k a b c => mgU_inj hg h1 h2 hne a b (by omega))
  refine ⟨fun t => w (452 + 24 * t + 2) * 64 + r t, fun n i a b c => ?_⟩
  have e1 := hr i a (by omega)
  have e2 := hr n (by omega) (by omega)
  show ¬ w (452 + 24 * mgU o1 o2 w i + 2) * 64 + r (mgU o1 o2 w i) = w (452 + 24 * mgU o1 o2 w n + 2) * 64 + r (mgU o1 o2 w n) ∧ (w (452 + 24 * mgU o1 o2 w i + 2) * 64 + r (mgU o1 o2 w i) < w (452 + 24 * mgU o1 o2 w n + 2) * 64 + r (mgU o1 o2 w n) ↔ w (452 + 24 * mgU o1 o2 w i + 2) ≤ w (452 + 24 * mgU o1 o2 w n + 2))
  rw [e1, e2]
  omega
theorem startQ {κ : Int → Int} {o1 o2 : Int} {w : Row} (hg : GG w) (h1 : 0 ≤ o1 ∧ o1 < w 7) (h2 : 0 ≤ o2 ∧ o2 < w 7) (hκ : KapM κ o1 o2 w) : incS κ (fun k => w (12 + 68 * o2 + 7 + k)) (w (12 + 68 * o2 + 5)) ∧ (∀ t, memS (fun k => w (12 + 68 * o2 + 7 + k)) (w (12 + 68 * o2 + 5)) t ↔ inU (mgU o1 o2 w) (w (12 + 68 * o2 + 5)) t) ∧ ∀ t, inU (mgU o1 o2 w) (w (12 + 68 * o2 + 5)) t → bestS κ (fun t => w (452 + 24 * t + 0)) (mgU o1 o2 w) (w (12 + 68 * o2 + 5)) t := by
  have a1 := (hg.2.1 o1 h1.1 h1.2).2.2.2.2.1
  have gq := hg.2.2.1 o2 h2.1 h2.2
  refine ⟨fun i k a b c => ?_, fun t => ⟨?_, ?_⟩, ?_⟩
  · have y := (hκ k i a b (by omega)).2
    rw [mgU_lo c, mgU_lo (by omega)] at y
    exact y.2 ((gq k (by omega) c).2.2.2 i a b).1
  · rintro ⟨k, a, b, c⟩
    exact ⟨k, a, b, by rw [mgU_lo b]; exact c⟩
  · rintro ⟨k, a, b, c⟩
    rw [mgU_lo b] at c
    exact ⟨k, a, b, c⟩
  · rintro t ⟨k, a, b, c⟩
    refine ⟨⟨k, a, b, c⟩, ?_⟩
    rintro x ⟨i, i0, i1, i2⟩ e
    rw [mgU_lo b] at c
    rw [mgU_lo i1] at i2
    have e : w (452 + 24 * x + 0) = w (452 + 24 * t + 0) := e
    rw [← c, ← i2] at e
    by_cases q : i < k
    · exact absurd e ((gq k a b).2.2.2 i i0 q).2
    · by_cases q2 : k < i
      · exact absurd e.symm ((gq i i0 i1).2.2.2 k a q2).2
      · have z : i = k := by omega
        rw [← c, ← i2, z]
        omega
theorem mergeW {κ : Int → Int} {o1 o2 : Int} {w : Row} (hg : GG w) (h1 : 0 ≤ o1 ∧ o1 < w 7) (h2 : 0 ≤ o2 ∧ o2 < w 7) (hne : ¬ o1 = o2) (hκ : KapM κ o1 o2 w) : ∃ m, MrgW κ o1 o2 m w (W_229 o1 o2 w) := by
  have n7 := hg.1.1
  have n9 := hg.1.2.2.1
  have a1 := (hg.2.1 o1 h1.1 h1.2).2.2.2.2.1
  have a2 := (hg.2.1 o2 h2.1 h2.2).2.2.2.2.1
  obtain ⟨s1, s2, s3⟩ := startQ hg h1 h2 hκ
  have hf : ∀ t, inU (mgU o1 o2 w) (w (12 + 68 * o2 + 5) + w (12 + 68 * o1 + 5)) t → 0 ≤ t ∧ t < 60 := by
    rintro t ⟨i, i0, i1, i2⟩
    have := (mgU_f hg h1 h2 i0 i1).1
    rw [i2] at this
    omega
  have hoff : ∀ t, inU (mgU o1 o2 w) (w (12 + 68 * o2 + 5)) t → w (452 + 24 * t + 1) = o2 := by
    rintro t ⟨i, i0, i1, i2⟩
    have := (mgU_f hg h1 h2 i0 (by omega)).2.2
    rw [i2] at this
    omega
  generalize hz : ws w (12 + 68 * o1 + 4) 0 = wz
  have ez : ∀ i, ¬ i = 12 + 68 * o1 + 4 → wz i = w i := fun i a => by rw [← hz]; exact wsn a
  have ez4 : wz (12 + 68 * o1 + 4) = 0 := by rw [← hz]; exact wse rfl
  have st : MR κ (mgU o1 o2 w) o2 wz (w (12 + 68 * o2 + 5) + 0) wz := by
    rw [Int.add_zero]
    refine ⟨ez _ (by omega), fun i k a b c => ?_, fun t => ?_, fun i _ _ _ => rfl, fun t a b => ⟨fun u => ?_, fun _ => rfl⟩⟩
    · show κ (wz _) < κ (wz _)
      rw [ez _ (by omega), ez _ (by omega)]
      exact s1 i k a b c
    · rw [← s2]
      constructor
      · rintro ⟨k, a, b, c⟩
        have c : wz (12 + 68 * o2 + 7 + k) = t := c
        rw [ez _ (by omega)] at c
        exact ⟨k, a, b, c⟩
      · rintro ⟨k, a, b, c⟩
        refine ⟨k, a, b, ?_⟩
        show wz _ = _
        rw [ez _ (by omega)]
        exact c
    · rw [ez _ (by omega)]
      exact hoff t u
  obtain ⟨w1, r1, r2⟩ := loopR (a := w (12 + 68 * o2 + 5)) (b := w (12 + 68 * o1 + 5)) (w0 := wz) ⟨h1.1, by omega⟩ ⟨h2.1, by omega⟩ hne a2 a1 (ez _ (by omega)) (fun x x0 x1 => by rw [ez _ (by omega), mgU_hi x0]) (by
    rintro n nn n1 x ⟨i, i0, i1, i2⟩
    have y := hκ n i i0 i1 n1
    have f1 := (mgU_f hg h1 h2 i0 (by omega)).1
    have f2 := (mgU_f hg h1 h2 (by omega : 0 ≤ n) n1).1
    rw [i2] at y f1
    rw [ez _ (by omega), ez _ (by omega)]
    exact y) hf 61 0 wz (by omega) a1.1 (by omega) st
  obtain ⟨c1, c2, c3, c4, c5⟩ := id r1
  generalize hu : ws w1 (12 + 68 * o1 + 5) 0 = u at *
  have eu : ∀ i, ¬ i = 12 + 68 * o1 + 5 → u i = w1 i := fun i a => by rw [← hu]; exact wsn a
  have eu5 : u (12 + 68 * o1 + 5) = 0 := by rw [← hu]; exact wse rfl
  have eq : ∀ k, 0 ≤ k → k < w (12 + 68 * o2 + 5) + w (12 + 68 * o1 + 5) → u (12 + 68 * o2 + 7 + k) = w1 (12 + 68 * o2 + 7 + k) := fun k a b => eu _ (by omega)
  have stq : MrgQ κ (mgU o1 o2 w) (fun t => w (452 + 24 * t + 0)) o2 u (w (12 + 68 * o2 + 5) + w (12 + 68 * o1 + 5)) 0 (w (12 + 68 * o2 + 5) + w (12 + 68 * o1 + 5)) u := by
    have mm : ∀ t, memS (fun k => u (12 + 68 * o2 + 7 + k)) (w (12 + 68 * o2 + 5) + w (12 + 68 * o1 + 5)) t ↔ inU (mgU o1 o2 w) (w (12 + 68 * o2 + 5) + w (12 + 68 * o1 + 5)) t := fun t => by
      rw [← c3]
      constructor
      · rintro ⟨k, a, b, c⟩
        have c : u (12 + 68 * o2 + 7 + k) = t := c
        rw [eq k a b] at c
        exact ⟨k, a, b, c⟩
      · rintro ⟨k, a, b, c⟩
        refine ⟨k, a, b, ?_⟩
        show u _ = _
        rw [eq k a b]
        exact c
    refine ⟨by rw [eu _ (by omega)]; exact c1, by omega, by omega, by omega, fun i k a b c => ?_, fun t => (mm t).1, fun t a => (mm t).2 a.1, fun k a b => by omega, fun i _ _ _ => rfl, fun t a b => ⟨fun x => absurd ((mm t).2 x.1) x.2, fun _ => ⟨rfl, rfl⟩⟩⟩
    show κ (u _) < κ (u _)
    rw [eq i a (by omega), eq k (by omega) c]
    exact c2 i k a b c
  obtain ⟨m, q⟩ := loopQ (o1 := o1) (x3 := 12 + 68 * o1) ⟨h2.1, by omega⟩ (fun t a => by
    have y := hf t a
    refine ⟨y, ?_⟩
    rw [eu _ (by omega), c4 _ (by omega) (by omega) (by omega), ez _ (by omega)]) (w (12 + 68 * o2 + 5) + w (12 + 68 * o1 + 5)).toNat 0 (w (12 + 68 * o2 + 5) + w (12 + 68 * o1 + 5)) u stq (by omega)
  have eW : W_229 o1 o2 w = LP_229_199 o1 o2 (w (12 + 68 * o2 + 5) + w (12 + 68 * o1 + 5)).toNat (12 + 68 * o1) (12 + 68 * o2) 0 u := by
    unfold W_229
    rw [hz]
    exact r2
  rw [eW]
  generalize LP_229_199 o1 o2 (w (12 + 68 * o2 + 5) + w (12 + 68 * o1 + 5)).toNat (12 + 68 * o1) (12 + 68 * o2) 0 u = w' at *
  obtain ⟨q1, q2, q3, q4, q5, q6, q7, q8, q9, q10⟩ := q
  have mb : ∀ t, memS (fun k => w' (12 + 68 * o2 + 7 + k)) m t ↔ bestS κ (fun t => w (452 + 24 * t + 0)) (mgU o1 o2 w) (w (12 + 68 * o2 + 5) + w (12 + 68 * o1 + 5)) t := fun t => by
    refine ⟨?_, q7 t⟩
    rintro ⟨k, a, b, c⟩
    have := q8 k a b
    have c : w' (12 + 68 * o2 + 7 + k) = t := c
    rw [c] at this
    exact this
  refine ⟨m, fun i x1 x2 x3 x4 x5 => ?_, ?_, ?_, q1, q2, q5, mb, fun t a b => ?_, fun t a b => ?_⟩
  · rw [q9 i x3 x4 (by omega), eu i x2, c4 i x3 x4 (by omega), ez i x1]
  · rw [q9 _ (by omega) (by omega) (by omega), eu _ (by omega), c4 _ (by omega) (by omega) (by omega)]
    exact ez4
  · rw [q9 _ (by omega) (by omega) (by omega)]
    exact eu5
  · rw [q9 _ (by omega) (by omega) (by omega), eu _ (by omega)]
    have := c5 t a b
    rw [ez _ (by omega)] at this
    exact this
  · have := q10 t a b
    rw [mb, eu 0 (by omega), c4 0 (by omega) (by omega) (by omega), ez 0 (by omega), eu _ (by omega), eu _ (by omega), c4 _ (by omega) (by omega) (by omega), c4 _ (by omega) (by omega) (by omega), ez _ (by omega), ez _ (by omega)] at this
    exact this
theorem mergeD {κ : Int → Int} {s o1 o2 : Int} {d : mD} {w : Row} (hg : GG w) (h : Rel s d w) (h1 : 0 ≤ o1 ∧ o1 < w 7) (h2 : 0 ≤ o2 ∧ o2 < w 7) (hne : ¬ o1 = o2) (hκ : KapM κ o1 o2 w) : ∃ m d1, MC κ (mgU o1 o2 w) (fun t => w (452 + 24 * t + 0)) s o2 (w 0) d (w (12 + 68 * o2 + 5) + w (12 + 68 * o1 + 5)) m d1 ∧ g_63 s o1 o2 d = mset (mset d1 (s + 8) o1 0) (s + 7) o1 0 := by
  have n7 := hg.1.1
  have n8 := hg.1.2.1
  have n9 := hg.1.2.2.1
  have a1 := (hg.2.1 o1 h1.1 h1.2).2.2.2.2.1
  have a2 := (hg.2.1 o2 h2.1 h2.2).2.2.2.2.1
  obtain ⟨rA, rO, rQ, rP, rT, rC, rK, rR, rB, rH⟩ := id h
  obtain ⟨s1, s2, s3⟩ := startQ hg h1 h2 hκ
  have hf : ∀ t, inU (mgU o1 o2 w) (w (12 + 68 * o2 + 5) + w (12 + 68 * o1 + 5)) t → 0 ≤ t ∧ t < w 9 := by
    rintro t ⟨i, i0, i1, i2⟩
    have := (mgU_f hg h1 h2 i0 i1).1
    rw [i2] at this
    exact this
  have hoff : ∀ t, inU (mgU o1 o2 w) (w (12 + 68 * o2 + 5)) t → w (452 + 24 * t + 1) = o2 := by
    rintro t ⟨i, i0, i1, i2⟩
    have := (mgU_f hg h1 h2 i0 (by omega)).2.2
    rw [i2] at this
    omega
  have eq : ∀ k, 0 ≤ k → k < w (12 + 68 * o2 + 5) → d (s + 9) (o2 * 16 + k) = w (12 + 68 * o2 + 7 + k) := fun k a b => rQ o2 h2.1 h2.2 k a b
  have st : MC κ (mgU o1 o2 w) (fun t => w (452 + 24 * t + 0)) s o2 (w 0) d (w (12 + 68 * o2 + 5) + 0) (w (12 + 68 * o2 + 5)) d := by
    rw [Int.add_zero]
    refine ⟨fun b _ _ _ _ _ => rfl, fun o _ => rfl, (rO.2 o2 h2.1 h2.2).2.2.2.2.2, fun i _ => rfl, a2.1, fun i k a b c => ?_, fun t => ?_, fun t => ⟨fun u => ?_, fun _ => rfl⟩, fun t => ⟨fun u => absurd (s3 t u.1) u.2, fun _ => ⟨rfl, rfl⟩⟩⟩
    · show κ (d (s + 9) _) < κ (d (s + 9) _)
      rw [eq i a (by omega), eq k (by omega) c]
      exact s1 i k a b c
    · have e1 : memS (fun k => d (s + 9) (o2 * 16 + k)) (w (12 + 68 * o2 + 5)) t ↔ memS (fun k => w (12 + 68 * o2 + 7 + k)) (w (12 + 68 * o2 + 5)) t := by
        constructor
        · rintro ⟨k, a, b, c⟩
          have c : d (s + 9) (o2 * 16 + k) = t := c
          rw [eq k a b] at c
          exact ⟨k, a, b, c⟩
        · rintro ⟨k, a, b, c⟩
          refine ⟨k, a, b, ?_⟩
          show d (s + 9) _ = _
          rw [eq k a b]
          exact c
      rw [e1, s2]
      exact ⟨s3 t, fun y => y.1⟩
    · have y : 0 ≤ t ∧ t < w 9 := by
        obtain ⟨i, i0, i1, i2⟩ := u
        exact hf t ⟨i, i0, by omega, i2⟩
      rw [(rT.2 t y.1 y.2).2.1]
      exact hoff t u
  have hl := loopC (p := fun t => w (452 + 24 * t + 0)) (j := fun t => w (452 + 24 * t + 2)) (T := w 0) (o2 := o2) a2.1 a1 hne (rO.2 o1 h1.1 h1.2).2.2.2.2.2 (fun x x0 x1 => by rw [mgU_hi x0]; exact rQ o1 h1.1 h1.2 x x0 x1) (by
    rintro n nn n1 x ⟨i, i0, i1, i2⟩
    have y := hκ n i i0 i1 n1
    rw [i2] at y
    exact y) (fun x u => by
      have y := hf x u
      have g := (hg.2.2.2.1 x y.1 y.2).1
      have e := rT.2 x y.1 y.2
      exact ⟨e.1, e.2.2.1, g.1, by omega⟩) rA.2.1 16 0 (w (12 + 68 * o2 + 5)) d (by omega) a1.1 (by omega) st
  exact hl
/-! ===== merge: the relation behind it ===== -/
theorem merge {s o1 o2 : Int} {d : mD} {w : Row} (hg : GG w) (h : Rel s d w) (h1 : 0 ≤ o1 ∧ o1 < w 7) (h2 : 0 ≤ o2 ∧ o2 < w 7) (hne : ¬ o1 = o2) (hp2 : w (12 + 68 * o2 + 4) = 1) : GG (W_229 o1 o2 w) ∧ Rel s (g_63 s o1 o2 d) (W_229 o1 o2 w) ∧ ∀ i, ¬ (12 ≤ i ∧ i < 420) → ¬ (452 ≤ i ∧ i < 1892 ∧ ((i - 452) % 24 = 1 ∨ (i - 452) % 24 = 3 ∨ (i - 452) % 24 = 4)) → W_229 o1 o2 w i = w i := by
  obtain ⟨κ, hκ⟩ := exKap hg h1 h2 hne
  obtain ⟨m, w1, w2, w3, w4, w5, w6, w7, w8, w9⟩ := mergeW hg h1 h2 hne hκ
  obtain ⟨mc, d1, ⟨c1, c2, c3, c4, c5, c6, c7, c8, c9⟩, hd⟩ := mergeD hg h h1 h2 hne hκ
  rw [hd]
  have hu : ∀ i, 0 ≤ i → i < w (12 + 68 * o2 + 5) + w (12 + 68 * o1 + 5) → _ := fun i a b => mgU_f hg h1 h2 a b (i := i)
  have hlo : ∀ k, 0 ≤ k → k < w (12 + 68 * o2 + 5) → mgU o1 o2 w k = w (12 + 68 * o2 + 7 + k) := fun k a b => mgU_lo b
  have hhi : ∀ k, 0 ≤ k → k < w (12 + 68 * o1 + 5) → mgU o1 o2 w (w (12 + 68 * o2 + 5) + k) = w (12 + 68 * o1 + 7 + k) := fun k a b => mgU_hi a
  have hκj : ∀ i n, 0 ≤ i → i < w (12 + 68 * o2 + 5) + w (12 + 68 * o1 + 5) → 0 ≤ n → n < w (12 + 68 * o2 + 5) + w (12 + 68 * o1 + 5) → κ (mgU o1 o2 w i) < κ (mgU o1 o2 w n) → w (452 + 24 * mgU o1 o2 w i + 2) ≤ w (452 + 24 * mgU o1 o2 w n + 2) := fun i n i0 i1 n0 n1 z => by
    by_cases q : i < n
    · exact (hκ n i i0 q n1).2.1 z
    · by_cases q2 : n < i
      · have y := hκ i n n0 q2 i1
        by_cases q3 : w (452 + 24 * mgU o1 o2 w n + 2) ≤ w (452 + 24 * mgU o1 o2 w i + 2)
        · have := y.2.2 q3
          omega
        · omega
      · have e : i = n := by omega
        rw [e]
        omega
  generalize W_229 o1 o2 w = w' at *
  generalize hUU : mgU o1 o2 w = U at *
  generalize hN0 : w (12 + 68 * o2 + 5) + w (12 + 68 * o1 + 5) = N at *
  obtain ⟨hN, hO, hQ, hT, hC, hK, hR⟩ := id hg
  obtain ⟨n7, n8, n9, n10, n11, n0, n1, n2, n3, n4, n5, n6⟩ := id hN
  obtain ⟨rA, ⟨ro1, ro2⟩, rQ, rP, ⟨rt1, rt2⟩, rC, rK, rR, rB, rH⟩ := id h
  have a1 := (hO o1 h1.1 h1.2).2.2.2.2.1
  have a2 := (hO o2 h2.1 h2.2).2.2.2.2.1
  have uf : ∀ t, inU U N t → (0 ≤ t ∧ t < w 9) ∧ w (452 + 24 * t + 4) = 0 ∧ (w (452 + 24 * t + 1) = o1 ∨ w (452 + 24 * t + 1) = o2) := by
    rintro t ⟨i, i0, i1, i2⟩
    have y := hu i i0 i1
    rw [i2] at y
    exact ⟨y.1, y.2.1, y.2.2.elim (fun z => Or.inr z.2) (fun z => Or.inl z.2)⟩
  have uj : ∀ x y, inU U N x → inU U N y → κ x < κ y → w (452 + 24 * x + 2) ≤ w (452 + 24 * y + 2) := by
    rintro x y ⟨i, i0, i1, i2⟩ ⟨k, k0, k1, k2⟩ z
    rw [← i2, ← k2] at z ⊢
    exact hκj i k i0 i1 k0 k1 z
  have qb : ∀ k, 0 ≤ k → k < m → bestS κ (fun t => w (452 + 24 * t + 0)) U N (w' (12 + 68 * o2 + 7 + k)) := fun k a b => (w7 _).1 ⟨k, a, b, rfl⟩
  have qp : ∀ k i, 0 ≤ i → i < k → k < m → ¬ w (452 + 24 * w' (12 + 68 * o2 + 7 + i) + 0) = w (452 + 24 * w' (12 + 68 * o2 + 7 + k) + 0) := fun k i a b c => bestS.one (p := fun t => w (452 + 24 * t + 0)) (q := fun k => w' (12 + 68 * o2 + 7 + k)) w6 w7 a b c
  have m16 : m ≤ 16 := pig16 (f := fun k => w (452 + 24 * w' (12 + 68 * o2 + 7 + k) + 0)) (fun k a b => by
    have y := (uf _ (qb k a b).1).1
    have z := (hT _ y.1 y.2).1
    exact ⟨z.1, by omega⟩) qp
  have ext := incS.ext (f := fun k => d1 (s + 9) (o2 * 16 + k)) (g := fun k => w' (12 + 68 * o2 + 7 + k)) c6 w6 (fun t => (c7 t).trans (w7 t).symm) c5 w5
  have e : ∀ i, ¬ (12 ≤ i ∧ i < 420) → ¬ (452 ≤ i ∧ i < 1892 ∧ ((i - 452) % 24 = 1 ∨ (i - 452) % 24 = 3 ∨ (i - 452) % 24 = 4)) → w' i = w i := fun i x y => w1 i (by omega) (by omega) (by omega) (by omega) y
  have eo : ∀ o k, 0 ≤ o → o < w 7 → ¬ o = o1 → ¬ o = o2 → 0 ≤ k → k < 68 → w' (12 + 68 * o + k) = w (12 + 68 * o + k) := fun o k x y z u a b => w1 _ (by omega) (by omega) (by omega) (by omega) (by omega)
  have e7 : w' 7 = w 7 := e 7 (by omega) (by omega)
  have e9 : w' 9 = w 9 := e 9 (by omega) (by omega)
  have e0 : w' 0 = w 0 := e 0 (by omega) (by omega)
  have et : ∀ t k, 0 ≤ t → t < w 9 → (k = 0 ∨ k = 2 ∨ k = 5 ∨ k = 6 ∨ k = 7) → w' (452 + 24 * t + k) = w (452 + 24 * t + k) := fun t k a b c => e _ (by omega) (by omega)
  have no : ∀ t, 0 ≤ t → t < w 9 → ¬ inU U N t → w' (452 + 24 * t + 1) = w (452 + 24 * t + 1) ∧ w' (452 + 24 * t + 3) = w (452 + 24 * t + 3) ∧ w' (452 + 24 * t + 4) = w (452 + 24 * t + 4) := fun t a b c => by
    have y := (w9 t a (by omega)).2 (fun z => c z.1)
    exact ⟨(w8 t a (by omega)).2 c, y.1, y.2⟩
  have wait : ∀ t, 0 ≤ t → t < w 9 → w (452 + 24 * t + 4) = 0 → (w (452 + 24 * t + 1) = o1 ∨ w (452 + 24 * t + 1) = o2) → inU U N t := fun t a b c f => by
    obtain ⟨-, k, k0, k1, k2⟩ := (hT t a b).2.2.2.2.1 c
    rcases f with f | f
    · rw [f] at k1 k2
      exact ⟨w (12 + 68 * o2 + 5) + k, by omega, by omega, by rw [hhi k k0 k1]; exact k2⟩
    · rw [f] at k1 k2
      exact ⟨k, k0, by omega, by rw [hlo k k0 k1]; exact k2⟩
  have cl : ∀ o k, 0 ≤ o → o < w 7 → k = 0 ∨ k = 1 ∨ k = 2 ∨ k = 3 ∨ k = 6 → w' (12 + 68 * o + k) = w (12 + 68 * o + k) := fun o k a b c => w1 _ (by omega) (by omega) (by omega) (by omega) (by omega)
  have op : ∀ o, 0 ≤ o → o < w 7 → ¬ o = o1 → w' (12 + 68 * o + 4) = w (12 + 68 * o + 4) := fun o a b c => w1 _ (by omega) (by omega) (by omega) (by omega) (by omega)
  have fd : ∀ b, ¬ b = s + 7 → ¬ b = s + 8 → ¬ b = s + 9 → ¬ b = s + 51 → ¬ b = s + 53 → ¬ b = s + 54 → mset (mset d1 (s + 8) o1 0) (s + 7) o1 0 b = d b := fun b x1 x2 x3 x4 x5 x6 => by
    rw [← c1 b x2 x3 x4 x5 x6]
    funext k
    simp (disch := omega) only [ms_a]
  have fk : ∀ b, ¬ b = s + 7 → ¬ b = s + 8 → mset (mset d1 (s + 8) o1 0) (s + 7) o1 0 b = d1 b := fun b x1 x2 => by
    funext k
    simp (disch := omega) only [ms_a]
  have hN' : GN w' := hN.k (fun i hi => e i (by omega) (by omega))
  refine ⟨⟨hN', fun o x y => ?_, fun o x y k u v => ?_, fun t x y => ?_, fun t x y => ?_, hK.k (fun i hi => e i (by omega) (by omega)) hN, hR.k (fun i hi => e i (by omega) (by omega)) hN⟩, ⟨rA.k (fun b x => fd b (by omega) (by omega) (by omega) (by omega) (by omega) (by omega)) (fun i hi => e i (by omega) (by omega)), ⟨?_, fun o x y => ?_⟩, fun o x y k u v => ?_, rP.k (fun b x y => fd b (by omega) (by omega) (by omega) (by omega) (by omega) (by omega)) (fun i hi => e i (by omega) (by omega)) n8, ⟨?_, fun t x y => ?_⟩, rC.k (fun b x => fd b (by omega) (by omega) (by omega) (by omega) (by omega) (by omega)) (fun i hi => e i (by omega) (by omega)) n9, rK.k (by rw [fd _ (by omega) (by omega) (by omega) (by omega) (by omega) (by omega)]) (fun b x y => fd b (by omega) (by omega) (by omega) (by omega) (by omega) (by omega)) (fun i hi => e i (by omega) (by omega)) n10, rR.k (by rw [fd _ (by omega) (by omega) (by omega) (by omega) (by omega) (by omega)]) (fd _ (by omega) (by omega) (by omega) (by omega) (by omega) (by omega)) (fun i hi => e i (by omega) (by omega)) n11, rB.k (fun b x y => fd b (by omega) (by omega) (by omega) (by omega) (by omega) (by omega)) (fun i hi => e i (by omega) (by omega)) n8 n9 n10 hK.of, rH.k (fun b x y => fd b (by omega) (by omega) (by omega) (by omega) (by omega) (by omega)) (fun i hi => e i (by omega) (by omega)) n8 n9 n10 hK.of⟩, e⟩
  · rw [e7] at y
    have g := hO o x y
    have cs : csum (fun t => if w' (452 + 24 * t + 4) = 1 ∧ w' (452 + 24 * t + 1) = o then (1 : Int) else 0) (w' 9).toNat = csum (fun t => if w (452 + 24 * t + 4) = 1 ∧ w (452 + 24 * t + 1) = o then 1 else 0) (w 9).toNat := by
      rw [e9]
      refine csum_congr (fun t a b => ?_)
      have tb : t < w 9 := by omega
      by_cases q : inU U N t
      · have z := (uf t q).2.1
        have z4 : ¬ w' (452 + 24 * t + 4) = 1 := by
          by_cases q2 : bestS κ (fun t => w (452 + 24 * t + 0)) U N t
          · have := ((w9 t a (by omega)).2 (fun z => z.2 q2)).2
            omega
          · have := ((w9 t a (by omega)).1 ⟨q, q2⟩).2
            omega
        have z5 : ¬ (w' (452 + 24 * t + 4) = 1 ∧ w' (452 + 24 * t + 1) = o) := fun u => z4 u.1
        have z6 : ¬ (w (452 + 24 * t + 4) = 1 ∧ w (452 + 24 * t + 1) = o) := fun u => by omega
        simp only [if_neg z5, if_neg z6]
      · have z := no t a tb q
        rw [z.1, z.2.2]
    rw [cs, cl o 1 x y (by omega), cl o 2 x y (by omega), cl o 3 x y (by omega), cl o 6 x y (by omega)]
    by_cases q : o = o1
    · rw [q] at g ⊢
      rw [w2, w3]
      exact ⟨g.1, g.2.1, g.2.2.1, Or.inl rfl, by omega, fun _ => rfl, g.2.2.2.2.2.2⟩
    · rw [op o x y q]
      by_cases q2 : o = o2
      · rw [q2] at g ⊢
        rw [w4]
        exact ⟨g.1, g.2.1, g.2.2.1, g.2.2.2.1, by omega, fun z => by omega, g.2.2.2.2.2.2⟩
      · rw [eo o 5 x y q q2 (by omega) (by omega)]
        exact g
  · rw [e7] at y
    rw [e9]
    by_cases q : o = o1
    · rw [q, w3] at v
      omega
    · by_cases q2 : o = o2
      · rw [q2] at v ⊢
        rw [w4] at v
        have b := qb k u v
        have f := uf _ b.1
        refine ⟨f.1, (w8 _ f.1.1 (by omega)).1 b.1, ?_, fun i i0 i1 => ?_⟩
        · rw [((w9 _ f.1.1 (by omega)).2 (fun z => z.2 b)).2]
          exact f.2.1
        · have bi := qb i i0 (by omega)
          have fi := uf _ bi.1
          rw [et _ 2 fi.1.1 fi.1.2 (by omega), et _ 2 f.1.1 f.1.2 (by omega), et _ 0 fi.1.1 fi.1.2 (by omega), et _ 0 f.1.1 f.1.2 (by omega)]
          exact ⟨uj _ _ bi.1 b.1 (w6 i k i0 i1 v), qp k i i0 i1 v⟩
      · rw [eo o 5 x y q q2 (by omega) (by omega)] at v
        have lo := (hO o x y).2.2.2.2.1
        have g := hQ o x y k u v
        have eq : ∀ i, 0 ≤ i → i < w (12 + 68 * o + 5) → w' (12 + 68 * o + 7 + i) = w (12 + 68 * o + 7 + i) := fun i a b => by
          have := eo o (7 + i) x y q q2 (by omega) (by omega)
          rw [show 12 + 68 * o + 7 + i = 12 + 68 * o + (7 + i) by omega]
          exact this
        have nu : ∀ i, 0 ≤ i → i < w (12 + 68 * o + 5) → ¬ inU U N (w (12 + 68 * o + 7 + i)) := fun i a b z => by
          have f := (uf _ z).2.2
          have gi := (hQ o x y i a b).2.1
          omega
        have z := no _ g.1.1 g.1.2 (nu k u v)
        rw [eq k u v, z.1, z.2.2, et _ 2 g.1.1 g.1.2 (by omega), et _ 0 g.1.1 g.1.2 (by omega)]
        refine ⟨g.1, g.2.1, g.2.2.1, fun i i0 i1 => ?_⟩
        have gi := hQ o x y i i0 (by omega)
        rw [eq i i0 (by omega), et _ 2 gi.1.1 gi.1.2 (by omega), et _ 0 gi.1.1 gi.1.2 (by omega)]
        exact g.2.2.2 i i0 i1
  · rw [e9] at y
    have g := hT t x y
    rw [et t 0 x y (by omega), et t 2 x y (by omega), e0, e7, e 8 (by omega) (by omega)]
    by_cases q : inU U N t
    · have f := uf t q
      rw [(w8 t x (by omega)).1 q]
      by_cases q2 : bestS κ (fun t => w (452 + 24 * t + 0)) U N t
      · have z := (w9 t x (by omega)).2 (fun z => z.2 q2)
        rw [z.1, z.2]
        obtain ⟨k, k0, k1, k2⟩ := (w7 t).2 q2
        refine ⟨g.1, h2, g.2.2.1, g.2.2.2.1, fun u => ⟨(g.2.2.2.2.1 u).1, k, k0, by rw [w4]; exact k1, k2⟩, g.2.2.2.2.2⟩
      · have z := (w9 t x (by omega)).1 ⟨q, q2⟩
        rw [z.1, z.2]
        exact ⟨g.1, h2, g.2.2.1, by omega, fun u => by omega, fun _ => by omega⟩
    · have z := no t x y q
      rw [z.1, z.2.1, z.2.2]
      refine ⟨g.1, g.2.1, g.2.2.1, g.2.2.2.1, fun u => ?_, g.2.2.2.2.2⟩
      obtain ⟨g1, k, k0, k1, k2⟩ := g.2.2.2.2.1 u
      have ne1 : ¬ w (452 + 24 * t + 1) = o1 := fun z => q (wait t x y u (Or.inl z))
      have ne2 : ¬ w (452 + 24 * t + 1) = o2 := fun z => q (wait t x y u (Or.inr z))
      have lo := (hO _ g.2.1.1 g.2.1.2).2.2.2.2.1
      refine ⟨g1, k, k0, ?_, ?_⟩
      · rw [eo _ 5 g.2.1.1 g.2.1.2 ne1 ne2 (by omega) (by omega)]
        exact k1
      · rw [show 12 + 68 * w (452 + 24 * t + 1) + 7 + k = 12 + 68 * w (452 + 24 * t + 1) + (7 + k) by omega, eo _ (7 + k) g.2.1.1 g.2.1.2 ne1 ne2 (by omega) (by omega)]
        rw [show 12 + 68 * w (452 + 24 * t + 1) + 7 + k = 12 + 68 * w (452 + 24 * t + 1) + (7 + k) by omega] at k2
        exact k2
  · rw [e9] at y
    have g := hC t x y
    rw [et t 5 x y (by omega), et t 6 x y (by omega), e0]
    have wi : ∀ p, 0 ≤ p → p < 16 → 0 ≤ w' (452 + 24 * t + 8 + p) ∧ w' (452 + 24 * t + 8 + p) ≤ w 0 + 1 := fun p a b => by
      rw [e (452 + 24 * t + 8 + p) (by omega) (by omega)]
      exact g.2.2.2.2 p a b
    by_cases q : inU U N t
    · have f := (uf t q).2.1
      have g5 : ¬ w (452 + 24 * t + 5) = 1 := fun z => by
        have := g.2.2.2.1 z
        omega
      exact ⟨g.1, g.2.1, fun z => absurd (g.2.2.1 z).1 g5, fun z => absurd z g5, wi⟩
    · have z := no t x y q
      rw [z.2.1, z.2.2]
      exact ⟨g.1, g.2.1, g.2.2.1, g.2.2.2.1, wi⟩
  · rw [fd _ (by omega) (by omega) (by omega) (by omega) (by omega) (by omega), e7]
    exact ro1
  · rw [e7] at y
    have g := ro2 o x y
    rw [fd (s + 3) (by omega) (by omega) (by omega) (by omega) (by omega) (by omega), fd (s + 4) (by omega) (by omega) (by omega) (by omega) (by omega) (by omega), fd (s + 5) (by omega) (by omega) (by omega) (by omega) (by omega) (by omega), fd (s + 6) (by omega) (by omega) (by omega) (by omega) (by omega) (by omega), cl o 0 x y (by omega), cl o 1 x y (by omega), cl o 2 x y (by omega), cl o 3 x y (by omega)]
    refine ⟨g.1, g.2.1, g.2.2.1, g.2.2.2.1, ?_, ?_⟩
    · by_cases q : o = o1
      · rw [q, w2, ms_e rfl rfl]
      · rw [ms_i q, ms_a (by omega), op o x y q, c1 _ (by omega) (by omega) (by omega) (by omega) (by omega)]
        exact g.2.2.2.2.1
    · rw [ms_a (by omega)]
      by_cases q : o = o1
      · rw [q, w3, ms_e rfl rfl]
      · rw [ms_i q]
        by_cases q2 : o = o2
        · rw [q2, c3, w4]
          exact ext.1
        · rw [c2 o q2, eo o 5 x y q q2 (by omega) (by omega)]
          exact g.2.2.2.2.2
  · rw [e7] at y
    rw [fk _ (by omega) (by omega)]
    by_cases q : o = o1
    · rw [q, w3] at v
      omega
    · by_cases q2 : o = o2
      · rw [q2] at v ⊢
        rw [w4] at v
        exact ext.2 k u (by omega)
      · rw [eo o 5 x y q q2 (by omega) (by omega)] at v
        have lo := (hO o x y).2.2.2.2.1
        rw [c4 _ (by omega), show 12 + 68 * o + 7 + k = 12 + 68 * o + (7 + k) by omega, eo o (7 + k) x y q q2 (by omega) (by omega), rQ o x y k u v, show 12 + 68 * o + 7 + k = 12 + 68 * o + (7 + k) by omega]
  · rw [fd _ (by omega) (by omega) (by omega) (by omega) (by omega) (by omega), e9]
    exact rt1
  · rw [e9] at y
    have g := rt2 t x y
    rw [fd (s + 50) (by omega) (by omega) (by omega) (by omega) (by omega) (by omega), fd (s + 52) (by omega) (by omega) (by omega) (by omega) (by omega) (by omega), fk (s + 51) (by omega) (by omega), fk (s + 53) (by omega) (by omega), fk (s + 54) (by omega) (by omega), et t 0 x y (by omega), et t 2 x y (by omega)]
    refine ⟨g.1, ?_, g.2.2.1, ?_⟩
    · by_cases q : inU U N t
      · rw [(c8 t).1 q, (w8 t x (by omega)).1 q]
      · rw [(c8 t).2 q, (w8 t x (by omega)).2 q]
        exact g.2.1
    · by_cases q : inU U N t ∧ ¬ bestS κ (fun t => w (452 + 24 * t + 0)) U N t
      · have y1 := (c9 t).1 q
        have y2 := (w9 t x (by omega)).1 q
        rw [y1.1, y1.2, y2.1, y2.2]
        exact ⟨rfl, rfl⟩
      · have y1 := (c9 t).2 q
        have y2 := (w9 t x (by omega)).2 q
        rw [y1.1, y1.2, y2.1, y2.2]
        exact g.2.2.2
/-! ===== purses and witnesses through the other changes ===== -/
theorem XR.fr {w w' : Row} (h8 : 0 ≤ w 8 ∧ w 8 ≤ 16) (h10 : 0 ≤ w 10 ∧ w 10 ≤ 200) (e0 : w' 0 = w 0) (e8 : w' 8 = w 8) (e9 : w' 9 = w 9) (e10 : w' 10 = w 10) (ew : ∀ t q, 0 ≤ t → t < w 9 → w 8 ≤ q → q < 16 → w' (452 + 24 * t + 8 + q) = w (452 + 24 * t + 8 + q)) (ep : ∀ p, 0 ≤ p → p < 16 → w' (420 + 2 * p + 1) = w (420 + 2 * p + 1)) (ec : ∀ k, 0 ≤ k → k < 200 → w' (1916 + 5 * k + 3) = w (1916 + 5 * k + 3)) : XR w w' :=
  ⟨GXI.keep h8 e8 e9 ew ep (Int.le_of_eq (C2_of e10 (fun k a b => by rw [ec k a (by omega)])).symm), e0⟩
theorem wsX {w : Row} {i v : Int} (hg : GN w) (h : (1 ≤ i ∧ i ≤ 6) ∨ (12 ≤ i ∧ i < 420) ∨ (452 ≤ i ∧ i < 1892 ∧ (i - 452) % 24 < 8)) : XR w (ws w i v) := by
  obtain ⟨n7, n8, n9, n10, n11, -⟩ := hg
  exact XR.fr n8 n10 (wsn (by omega)) (wsn (by omega)) (wsn (by omega)) (wsn (by omega)) (fun t q a b c d => wsn (by omega)) (fun p a b => wsn (by omega)) (fun k a b => wsn (by omega))
theorem claimX {t : Int} {w : Row} (hg : GG w) (ht : 0 ≤ t ∧ t < w 9) : XR w (W_228 t w) := by
  have n9 := hg.1.2.2.1
  unfold W_228
  have x1 : ∀ v, XR w (ws w (452 + 24 * t + 5) v) := fun v => wsX hg.1 (by omega)
  by_cases c : 0 < w 3
  · rw [if_pos c]; exact x1 1
  · rw [if_neg c]
    have e : ∀ i, i ≤ 11 → ws (ws w (452 + 24 * t + 5) 1) (452 + 24 * t + 6) 1 i = w i := fun i a => by
      rw [wsn (by omega), wsn (by omega)]
    have x2 : XR w (ws (ws w (452 + 24 * t + 5) 1) (452 + 24 * t + 6) 1) := XR.fr hg.1.2.1 hg.1.2.2.2.1 (e 0 (by omega)) (e 8 (by omega)) (e 9 (by omega)) (e 10 (by omega)) (fun t q a b c d => by have := hg.1.2.1; rw [wsn (by omega), wsn (by omega)]) (fun p a b => by rw [wsn (by omega), wsn (by omega)]) (fun k a b => by rw [wsn (by omega), wsn (by omega)])
    exact x2.trans (makesX (by rw [e 8 (by omega)]; exact hg.1.2.1) (by rw [e 9 (by omega)]; exact n9) (by rw [e 10 (by omega)]; exact hg.1.2.2.2.1))
theorem attestX {t p : Int} {w : Row} (hg : GG w) (ht : 0 ≤ t ∧ t < w 9) (hp : 0 ≤ p ∧ p < w 8) : XR w (W_235 t p w) := by
  have n8 := hg.1.2.1
  have n9 := hg.1.2.2.1
  have n10 := hg.1.2.2.2.1
  unfold W_235
  have st : ∀ u : Row, (∀ i, ¬ i = 452 + 24 * t + 8 + p → ¬ i = 452 + 24 * t + 7 → ¬ i = 452 + 24 * t + 6 → u i = w i) → XR w u := fun u e => XR.fr n8 n10 (e 0 (by omega) (by omega) (by omega)) (e 8 (by omega) (by omega) (by omega)) (e 9 (by omega) (by omega) (by omega)) (e 10 (by omega) (by omega) (by omega)) (fun t q a b c d => e _ (by omega) (by omega) (by omega)) (fun p a b => e _ (by omega) (by omega) (by omega)) (fun k a b => e _ (by omega) (by omega) (by omega))
  by_cases c : w (452 + 24 * t + 7) + 1 < w 3
  · rw [if_pos c]
    exact st _ (fun i a b c => by rw [wsn b, wsn a])
  · rw [if_neg c]
    generalize hu : (ws (ws (ws w (((452 + (24 * t)) + 8) + p) ((w 0) + 1)) ((452 + (24 * t)) + 7) ((w ((452 + (24 * t)) + 7)) + 1)) ((452 + (24 * t)) + 6) 1) = u
    have e : ∀ i, ¬ i = 452 + 24 * t + 8 + p → ¬ i = 452 + 24 * t + 7 → ¬ i = 452 + 24 * t + 6 → u i = w i := fun i a b c => by
      rw [← hu, wsn c, wsn b, wsn a]
    exact (st u e).trans (makesX (by rw [e 8 (by omega) (by omega) (by omega)]; exact n8) (by rw [e 9 (by omega) (by omega) (by omega)]; exact n9) (by rw [e 10 (by omega) (by omega) (by omega)]; exact n10))
theorem joinX {p o : Int} {w : Row} (hg : GG w) (ho : 0 ≤ o ∧ o < w 7) (h9 : w 9 < 60) : XR w (W_226 p o w) := by
  have n7 := hg.1.1
  have n8 := hg.1.2.1
  have n9 := hg.1.2.2.1
  have n10 := hg.1.2.2.2.1
  have go := (hg.2.1 o ho.1 ho.2).2.2.2.2.1
  obtain ⟨-, ⟨⟨-, -, -, -, f4⟩, -, -, f9, fr⟩⟩ := newW (p := p) (o := o) (w := w) ⟨ho.1, by omega⟩ n9 (by omega)
  show XR w (W_224 p o w)
  generalize W_224 p o w = w' at *
  have e : ∀ i, ¬ i = 9 → ¬ (12 ≤ i ∧ i < 420) → ¬ (452 + 24 * w 9 ≤ i ∧ i < 452 + 24 * w 9 + 24) → w' i = w i := fun i a b c => fr i (by omega) (by omega) (by omega) (by omega)
  have e8 := e 8 (by omega) (by omega) (by omega)
  refine ⟨fun a b => ⟨fun t x y q u v => ?_, fun q x y => ?_⟩, e 0 (by omega) (by omega) (by omega)⟩
  · rw [f9] at y
    rw [e8] at u
    by_cases z : t = w 9
    · rw [z, show 452 + 24 * w 9 + 8 + q = 452 + 24 * w 9 + (8 + q) by omega]
      exact f4 (8 + q) (by omega) (by omega)
    · rw [e _ (by omega) (by omega) (by omega)]
      exact a t x (by omega) q u v
  · rw [e8] at y
    rw [e _ (by omega) (by omega) (by omega), C2_of (w := w) (w' := w') (e 10 (by omega) (by omega) (by omega)) (fun k a b => by rw [e _ (by omega) (by omega) (by omega)])]
    exact b q x y
theorem leaveX {t : Int} {w : Row} {p : Int} (hg : GG w) (ht : 0 ≤ t ∧ t < w 9) (hp : 0 ≤ p ∧ p ≤ 61) : XR w (ws (ws (W_220 (w (452 + 24 * t + 1)) p w) (452 + 24 * t + 4) 2) (452 + 24 * t + 3) (w 0)) := by
  have n7 := hg.1.1
  have n8 := hg.1.2.1
  have n9 := hg.1.2.2.1
  have n10 := hg.1.2.2.2.1
  have gt := (hg.2.2.2.1 t ht.1 ht.2).2.1
  have go := (hg.2.1 _ gt.1 gt.2).2.2.2.2.1
  generalize w (452 + 24 * t + 1) = o at *
  obtain ⟨-, -, fr⟩ := take220 (o := o) (p := p) (w := w) hp.1 (by omega) hp.2
  generalize W_220 o p w = u at *
  have e : ∀ i, ¬ (12 ≤ i ∧ i < 420) → ¬ i = 452 + 24 * t + 4 → ¬ i = 452 + 24 * t + 3 → ws (ws u (452 + 24 * t + 4) 2) (452 + 24 * t + 3) (w 0) i = w i := fun i a b c => by
    rw [wsn c, wsn b]
    exact fr i (by omega) (by omega)
  exact XR.fr n8 n10 (e 0 (by omega) (by omega) (by omega)) (e 8 (by omega) (by omega) (by omega)) (e 9 (by omega) (by omega) (by omega)) (e 10 (by omega) (by omega) (by omega)) (fun t q a b c d => e _ (by omega) (by omega) (by omega)) (fun p a b => e _ (by omega) (by omega) (by omega)) (fun k a b => e _ (by omega) (by omega) (by omega))
theorem mergeX {w w' : Row} (hg : GG w) (e : ∀ i, ¬ (12 ≤ i ∧ i < 420) → ¬ (452 ≤ i ∧ i < 1892 ∧ ((i - 452) % 24 = 1 ∨ (i - 452) % 24 = 3 ∨ (i - 452) % 24 = 4)) → w' i = w i) : XR w w' := by
  have n8 := hg.1.2.1
  have n9 := hg.1.2.2.1
  exact XR.fr n8 hg.1.2.2.2.1 (e 0 (by omega) (by omega)) (e 8 (by omega) (by omega)) (e 9 (by omega) (by omega)) (e 10 (by omega) (by omega)) (fun t q a b c d => e _ (by omega) (by omega)) (fun p a b => e _ (by omega) (by omega)) (fun k a b => e _ (by omega) (by omega))
theorem addPX {c : Int} {w : Row} (hg : GG w) (h8 : w 8 < 16) (hp : GP w) : GP (W_182 c w) := by
  have n8 := hg.1.2.1
  have n10 := hg.1.2.2.2.1
  have e : ∀ i, ¬ i = 8 → ¬ i = 420 + 2 * w 8 + 0 → ¬ i = 420 + 2 * w 8 + 1 → W_182 c w i = w i := fun i x y z => by
    unfold W_182
    simp (disch := omega) only [wsn]
  have e1 : W_182 c w (420 + 2 * w 8 + 1) = 0 := by
    unfold W_182
    simp (disch := omega) only [wsn, wse]
  have e8 : W_182 c w 8 = w 8 + 1 := by
    unfold W_182
    simp (disch := omega) only [wse, wsn]
  generalize W_182 c w = w' at *
  have ec : C2 w' = C2 w := C2_of (e 10 (by omega) (by omega) (by omega)) (fun k a b => by rw [e _ (by omega) (by omega) (by omega)])
  have c0 : 0 ≤ C2 w := (csum_rng (B := 1) (fun i a b => by
    show 0 ≤ (if w (1916 + 5 * i + 3) = 2 then (1 : Int) else 0) ∧ (if w (1916 + 5 * i + 3) = 2 then (1 : Int) else 0) ≤ 1
    split <;> omega)).1
  intro p x y
  rw [e8] at y
  rw [ec]
  by_cases z : p = w 8
  · rw [z, e1]
    omega
  · rw [e _ (by omega) (by omega) (by omega)]
    exact hp p x (by omega)
theorem addOX {w w' : Row} (hg : GG w) (e : ∀ i, ¬ i = 7 → ¬ (12 ≤ i ∧ i < 420) → w' i = w i) : XR w w' := by
  have n8 := hg.1.2.1
  have n9 := hg.1.2.2.1
  exact XR.fr n8 hg.1.2.2.2.1 (e 0 (by omega) (by omega)) (e 8 (by omega) (by omega)) (e 9 (by omega) (by omega)) (e 10 (by omega) (by omega)) (fun t q a b c d => e _ (by omega) (by omega)) (fun p a b => e _ (by omega) (by omega)) (fun k a b => e _ (by omega) (by omega))
-- the purse as the class shows it
theorem purse {s : Int} {d : mD} {w : Row} (hg : GG w) (hp : GP w) (h : Rel s d w) {p : Int} (p0 : 0 ≤ p) (p1 : p < w 8) : 0 ≤ d (s + 12) p ∧ d (s + 12) p ≤ 19800 := by
  have e := (h.2.2.2.1.2 p p0 p1).2
  have b := hp p p0 p1
  have n10 := hg.1.2.2.2.1
  have c := (csum_rng (f := fun k => if w (1916 + 5 * k + 3) = 2 then (1 : Int) else 0) (n := (w 10).toNat) (B := 1) (fun i a b => by
    show 0 ≤ (if w (1916 + 5 * i + 3) = 2 then (1 : Int) else 0) ∧ (if w (1916 + 5 * i + 3) = 2 then (1 : Int) else 0) ≤ 1
    split <;> omega)).2
  rw [e]
  have cc : C2 w ≤ 200 := by
    unfold C2
    omega
  omega
/-! ===== what is kept: undo's history and the saved states ===== -/
def OKR (s : Int) (d : mD) (w : Row) : Prop := GG w ∧ GWt w ∧ GP w ∧ w 0 ≤ 999 ∧ Rel s d w
theorem GWt.row {w w' : Row} (e : REq w w') (hn : GN w) (h : GWt w) : GWt w' := by
  obtain ⟨n7, n8, n9, n10, -⟩ := hn
  intro t x y q u v
  rw [e 9 (by omega) (by omega)] at y
  rw [e 8 (by omega) (by omega)] at u
  rw [e _ (by omega) (by omega)]
  exact h t x y q u v
theorem GP.row {w w' : Row} (e : REq w w') (hn : GN w) (h : GP w) : GP w' := by
  obtain ⟨n7, n8, n9, n10, -⟩ := hn
  intro p x y
  rw [e 8 (by omega) (by omega)] at y
  rw [e _ (by omega) (by omega), C2_of (e 10 (by omega) (by omega)) (fun k a b => by rw [e _ (by omega) (by omega)])]
  exact h p x y
theorem OKR.row {s : Int} {d : mD} {w w' : Row} (e : REq w w') (h : OKR s d w) : OKR s d w' := by
  obtain ⟨a, b, c, t, r⟩ := h
  exact ⟨a.row e, b.row e a.1, c.row e a.1, by rw [e 0 (by omega) (by omega)]; exact t, r.row e a⟩
theorem OKR.cls {s s' : Int} {d d' : mD} {w : Row} (hc : CEq s d s' d') (h : OKR s d w) : OKR s' d' w := by
  obtain ⟨a, b, c, t, r⟩ := h
  exact ⟨a, b, c, t, r.cls a.1 a.2.1 hc⟩
theorem OKR.fr {s : Int} {d d' : mD} {w : Row} (e : ∀ b, s ≤ b → b ≤ s + 62 → d' b = d b) (h : OKR s d w) : OKR s d' w := by
  obtain ⟨a, b, c, t, r⟩ := h
  have n8 := a.1.2.1
  have p8 := r.2.2.2.1.1
  refine ⟨a, b, c, t, r.cls a.1 a.2.1 ⟨⟨by rw [e s (by omega) (by omega)], by rw [e s (by omega) (by omega)], fun k _ _ => by rw [e _ (by omega) (by omega)]⟩, ⟨by rw [e _ (by omega) (by omega)], fun o _ _ => ?_⟩, fun i _ _ => by rw [e _ (by omega) (by omega)], ⟨by rw [e _ (by omega) (by omega)], fun p _ _ => ?_⟩, fun p _ _ i _ _ => by rw [e _ (by omega) (by omega)], ⟨by rw [e _ (by omega) (by omega)], fun t _ _ => ?_⟩, ⟨by rw [e _ (by omega) (by omega)], fun k _ _ => ?_⟩, by rw [e _ (by omega) (by omega)], fun k _ _ => by rw [e _ (by omega) (by omega)]⟩⟩
  · rw [e (s + 3) (by omega) (by omega), e (s + 4) (by omega) (by omega), e (s + 5) (by omega) (by omega), e (s + 6) (by omega) (by omega), e (s + 7) (by omega) (by omega), e (s + 8) (by omega) (by omega)]
    exact ⟨rfl, rfl, rfl, rfl, rfl, rfl⟩
  · rw [e (s + 11) (by omega) (by omega), e (s + 12) (by omega) (by omega), e (s + 13) (by omega) (by omega), e (s + 14) (by omega) (by omega), e (s + 15) (by omega) (by omega)]
    exact ⟨rfl, rfl, rfl, rfl, rfl⟩
  · rw [e (s + 50) (by omega) (by omega), e (s + 51) (by omega) (by omega), e (s + 52) (by omega) (by omega), e (s + 53) (by omega) (by omega), e (s + 54) (by omega) (by omega), e (s + 55) (by omega) (by omega), e (s + 56) (by omega) (by omega)]
    exact ⟨rfl, rfl, rfl, rfl, rfl, rfl, rfl⟩
  · rw [e (s + 58) (by omega) (by omega), e (s + 59) (by omega) (by omega), e (s + 60) (by omega) (by omega), e (s + 61) (by omega) (by omega)]
    exact ⟨rfl, rfl, rfl, rfl⟩
theorem cpyF {a s : Int} (hx : a + 63 ≤ s ∨ s + 63 ≤ a) (d : mD) (h16 : d (s + 10) 0 ≤ 16) : ∀ b, (b < a ∨ a + 62 < b) → g_59 a s d b = d b := by
  intro b hb
  unfold g_59
  generalize hd1 : (mset (mset (mcopy d (s + 1) 0 (a + 1) 0 5) a 1 (d s 1)) a 2 (d s 2)) = d1
  have f1 : ∀ b, (b < a ∨ a + 1 < b) → d1 b = d b := fun b hb => by
    rw [← hd1]
    funext j
    simp (disch := omega) only [mc_n, ms_a]
  obtain ⟨a1, -⟩ := c34 hx d1
  generalize g_34 (a + 2) (s + 2) d1 = d2 at *
  obtain ⟨b1, -⟩ := c46 hx d2 (by rw [a1 _ (by omega), f1 _ (by omega)]; exact h16)
  generalize g_46 (a + 10) (s + 10) d2 = d3 at *
  obtain ⟨c1, -⟩ := c95 hx d3
  generalize g_95 (a + 49) (s + 49) d3 = d4 at *
  obtain ⟨e1, -⟩ := c108 hx d4
  rw [e1 b (by omega), c1 b (by omega), b1 b (by omega), a1 b (by omega), f1 b (by omega)]
theorem OKR.copy {a s : Int} {d : mD} {w : Row} (hx : a + 63 ≤ s ∨ s + 63 ≤ a) (h : OKR s d w) : OKR a (g_59 a s d) w ∧ ∀ b, (b < a ∨ a + 62 < b) → g_59 a s d b = d b := by
  have n8 := h.1.1.2.1
  have p8 := h.2.2.2.2.2.2.2.1.1
  exact ⟨h.cls (cpy hx d (by omega)), cpyF hx d (by omega)⟩
-- loops that copy rows
theorem copyLoop {α : Type} {L : Nat → Int → mD → α} {F : mD → α} {I : mD → Prop} {A B C D N : Int} (hAC : ¬ A = C) (hI : ∀ d j v, I d → I (mset d A j v)) (hz : ∀ n x d, I d → N ≤ x → L n x d = F d) (hs : ∀ n x d, I d → x < N → L (n + 1) x d = L n (x + 1) (mset d A (B + x) (d C (D + x)))) : ∀ (n : Nat) (x : Int) (d : mD), I d → x ≤ N → N - x ≤ (n : Int) → ∃ d', L n x d = F d' ∧ (∀ b, ¬ b = A → d' b = d b) ∧ (∀ i, x ≤ i → i < N → d' A (B + i) = d C (D + i)) ∧ ∀ j, ¬ (B + x ≤ j ∧ j < B + N) → d' A j = d A j := by
  intro n
  induction n with
  | zero =>
    intro x d hi a b
    exact ⟨d, hz 0 x d hi (by omega), fun _ _ => rfl, fun i u v => by omega, fun _ _ => rfl⟩
  | succ n ih =>
    intro x d hi a b
    by_cases c : x < N
    · obtain ⟨d', q1, q2, q3, q4⟩ := ih (x + 1) (mset d A (B + x) (d C (D + x))) (hI _ _ _ hi) (by omega) (by omega)
      refine ⟨d', (hs n x d hi c).trans q1, fun b hb => ?_, fun i u v => ?_, fun j hj => ?_⟩
      · rw [q2 b hb]
        funext j
        exact ms_a hb
      · by_cases z : i = x
        · rw [z, q4 _ (by omega), ms_e rfl rfl]
        · rw [q3 i (by omega) v, ms_a (fun y => hAC y.symm)]
      · rw [q4 j (by omega), ms_i (by omega)]
    · exact ⟨d, hz (n + 1) x d hi (by omega), fun _ _ => rfl, fun i u v => by omega, fun _ _ => rfl⟩
theorem shiftLoop {α : Type} {L : Nat → Int → mD → α} {F : mD → α} {I : mD → Prop} {A S N : Int} (hS : 0 < S) (hI : ∀ d j v, I d → I (mset d A j v)) (hz : ∀ n x d, I d → N ≤ x → L n x d = F d) (hs : ∀ n x d, I d → x < N → L (n + 1) x d = L n (x + 1) (mset d A (x - S) (d A x))) : ∀ (n : Nat) (x : Int) (d : mD), I d → x ≤ N → N - x ≤ (n : Int) → ∃ d', L n x d = F d' ∧ (∀ b, ¬ b = A → d' b = d b) ∧ (∀ i, x ≤ i → i < N → d' A (i - S) = d A i) ∧ (∀ j, N - S ≤ j → d' A j = d A j) ∧ ∀ j, j < x - S → d' A j = d A j := by
  intro n
  induction n with
  | zero =>
    intro x d hi a b
    exact ⟨d, hz 0 x d hi (by omega), fun _ _ => rfl, fun i u v => by omega, fun _ _ => rfl, fun _ _ => rfl⟩
  | succ n ih =>
    intro x d hi a b
    by_cases c : x < N
    · obtain ⟨d', q1, q2, q3, q4, q5⟩ := ih (x + 1) (mset d A (x - S) (d A x)) (hI _ _ _ hi) (by omega) (by omega)
      refine ⟨d', (hs n x d hi c).trans q1, fun b hb => ?_, fun i u v => ?_, fun j hj => ?_, fun j hj => ?_⟩
      · rw [q2 b hb]
        funext j
        exact ms_a hb
      · by_cases z : i = x
        · rw [z, q5 _ (by omega), ms_e rfl rfl]
        · rw [q3 i (by omega) v, ms_i (by omega)]
      · rw [q4 j hj, ms_i (by omega)]
      · rw [q5 j (by omega), ms_i (by omega)]
    · exact ⟨d, hz (n + 1) x d hi (by omega), fun _ _ => rfl, fun i u v => by omega, fun _ _ => rfl, fun _ _ => rfl⟩
-- keeps: the row behind the others; of eight the oldest goes
def KeepW (d d' : mD) : Prop := (∀ b, ¬ b = 769 → ¬ b = 771 → d' b = d b) ∧ (∀ j, ¬ j = 7 → d' 769 j = d 769 j) ∧ ((¬ d 769 7 = 8 ∧ d' 769 7 = d 769 7 + 1 ∧ (∀ i, 0 ≤ i → i < 3116 → d' 771 (3116 * d 769 7 + i) = d 770 i) ∧ ∀ j, j < 3116 * d 769 7 → d' 771 j = d 771 j) ∨ (d 769 7 = 8 ∧ d' 769 7 = 8 ∧ (∀ i, 0 ≤ i → i < 3116 → d' 771 (3116 * 7 + i) = d 770 i) ∧ ∀ j, 0 ≤ j → j < 21812 → d' 771 j = d 771 (j + 3116)))
theorem lp278 {d : mD} {u : Int} (h : d 769 7 = u) : ∃ d', lp_278_54 769 (3116 - 0 : Int).toNat 0 d = mset d' 769 7 (u + 1) ∧ (∀ b, ¬ b = 771 → d' b = d b) ∧ (∀ i, 0 ≤ i → i < 3116 → d' 771 (3116 * u + i) = d 770 i) ∧ ∀ j, ¬ (3116 * u ≤ j ∧ j < 3116 * u + 3116) → d' 771 j = d 771 j := by
  obtain ⟨d', q1, q2, q3, q4⟩ := copyLoop (L := lp_278_54 769) (F := fun d => mset d 769 7 (u + 1)) (I := fun d => d 769 7 = u) (A := 771) (B := 3116 * u) (C := 770) (D := 0) (N := 3116) (by decide) (fun d j v hi => by show mset d 771 j v 769 7 = u; rw [ms_a (by decide)]; exact hi) (fun n x d hi hx => by
    have st : ∀ r, st_278_54 769 r x d = mset d 769 7 (u + 1) := fun r => by
      unfold st_278_54
      rw [if_neg (by omega), hi]
    cases n with
    | zero => exact st _
    | succ n => exact st _) (fun n x d hi hx => by
    show st_278_54 769 _ x d = _
    unfold st_278_54
    rw [if_pos hx, hi, Int.zero_add]
    rfl) (3116 - 0 : Int).toNat 0 d h (by decide) (by decide)
  refine ⟨d', q1, q2, fun i a b => ?_, fun j hj => q4 j (by omega)⟩
  have := q3 i a b
  rw [Int.zero_add] at this
  exact this
theorem keep278 {d : mD} : KeepW d (g_278 769 d) := by
  unfold g_278
  by_cases c : d 769 7 = 8
  · rw [if_pos c]
    obtain ⟨d1, q1, q2, q3, q4, q5⟩ := shiftLoop (L := lp_278_13 769) (F := fun d => lp_278_54 769 (3116 - 0 : Int).toNat 0 (mset d 769 7 (d 769 7 - 1))) (I := fun _ => True) (A := 771) (S := 3116) (N := 24928) (by decide) (fun _ _ _ _ => trivial) (fun n x d _ hx => by
      have st : ∀ r, st_278_13 769 r x d = lp_278_54 769 (3116 - 0 : Int).toNat 0 (mset d 769 7 (d 769 7 - 1)) := fun r => by
        unfold st_278_13
        rw [if_neg (by omega)]
      cases n with
      | zero => exact st _
      | succ n => exact st _) (fun n x d _ hx => by
      show st_278_13 769 _ x d = _
      unfold st_278_13
      rw [if_pos hx]
      rfl) (24928 - 3116 : Int).toNat 3116 d trivial (by decide) (by decide)
    have e7 : d1 769 7 = 8 := by rw [q2 769 (by decide)]; exact c
    obtain ⟨d2, p1, p2, p3, p4⟩ := lp278 (d := mset d1 769 7 (d1 769 7 - 1)) (u := 7) (by rw [ms_e rfl rfl, e7]; rfl)
    rw [q1]
    show KeepW d (lp_278_54 769 (3116 - 0 : Int).toNat 0 (mset d1 769 7 (d1 769 7 - 1)))
    rw [p1]
    refine ⟨fun b x y => ?_, fun j hj => ?_, Or.inr ⟨c, ms_e rfl rfl, fun i a b => ?_, fun j a b => ?_⟩⟩
    · have e1 : mset d2 769 7 (7 + 1) b = d2 b := by funext j; exact ms_a x
      have e2 : mset d1 769 7 (d1 769 7 - 1) b = d1 b := by funext j; exact ms_a x
      rw [e1, p2 b y, e2, q2 b y]
    · rw [ms_i hj, p2 769 (by decide), ms_i hj, q2 769 (by decide)]
    · rw [ms_a (by decide), p3 i a b, ms_a (by decide), q2 770 (by decide)]
    · rw [ms_a (by decide), p4 j (by omega), ms_a (by decide)]
      have := q3 (j + 3116) (by omega) (by omega)
      rw [show j + 3116 - 3116 = j by omega] at this
      exact this
  · rw [if_neg c]
    obtain ⟨d2, p1, p2, p3, p4⟩ := lp278 (d := d) (u := d 769 7) rfl
    rw [p1]
    refine ⟨fun b x y => ?_, fun j hj => ?_, Or.inl ⟨c, ms_e rfl rfl, fun i a b => ?_, fun j hj => ?_⟩⟩
    · have e1 : mset d2 769 7 (d 769 7 + 1) b = d2 b := by funext j; exact ms_a x
      rw [e1, p2 b y]
    · rw [ms_i hj, p2 769 (by decide)]
    · rw [ms_a (by decide), p3 i a b]
    · rw [ms_a (by decide), p4 j (by omega)]
-- the relation of the two histories
def ksl (n c k : Int) : Int := 66 + 63 * ((n + 8 - c + k) % 8)
def HistRel (d : mD) : Prop := (0 ≤ d 64 1 ∧ d 64 1 < 8) ∧ (0 ≤ d 64 2 ∧ d 64 2 ≤ 8) ∧ d 769 7 = d 64 2 ∧ ∀ k, 0 ≤ k → k < d 64 2 → OKR (ksl (d 64 1) (d 64 2) k) d (fun i => d 771 (3116 * k + i))
def SaveRel (d : mD) : Prop := ∀ j, (j = 0 ∨ j = 1) → d 571 j = d 775 j ∧ (¬ d 775 j = 0 → OKR (643 + 63 * j) d (fun i => d 772 (3116 * j + i)))
theorem HistRel.fr {d d' : mD} (h : HistRel d) (e : ∀ b, 64 ≤ b → b ≤ 569 → d' b = d b) (e7 : d' 769 7 = d 769 7) (e1 : ∀ j, 0 ≤ j → j < 3116 * d 769 7 → d' 771 j = d 771 j) : HistRel d' := by
  obtain ⟨a, b, c, f⟩ := h
  rw [HistRel, e 64 (by decide) (by decide), e7]
  refine ⟨a, b, c, fun k x y => ?_⟩
  have g := f k x y
  have r : 66 ≤ ksl (d 64 1) (d 64 2) k ∧ ksl (d 64 1) (d 64 2) k ≤ 507 := by
    unfold ksl
    omega
  refine OKR.row (w := fun i => d 771 (3116 * k + i)) (fun i i0 i1 => ?_) (g.fr (fun b x y => e b (by omega) (by omega)))
  show d' 771 (3116 * k + i) = d 771 (3116 * k + i)
  exact e1 _ (by omega) (by omega)
theorem SaveRel.fr {d d' : mD} (h : SaveRel d) (e : ∀ b, b = 571 ∨ (643 ≤ b ∧ b ≤ 768) ∨ b = 775 ∨ b = 772 → d' b = d b) : SaveRel d' := by
  intro j hj
  obtain ⟨a, b⟩ := h j hj
  rw [e 571 (by omega), e 775 (by omega), e 772 (by omega)]
  exact ⟨a, fun z => (b z).fr (fun b x y => e b (by omega))⟩
-- the class keeps
theorem keepC {d : mD} {w : Row} (hn : 0 ≤ d 64 1 ∧ d 64 1 < 8) (h : OKR 1 d w) : OKR (66 + 63 * d 64 1) (g_2 64 1 d) w ∧ (∀ b, ¬ b = 64 → ¬ (66 + 63 * d 64 1 ≤ b ∧ b ≤ 66 + 63 * d 64 1 + 62) → g_2 64 1 d b = d b) ∧ g_2 64 1 d 64 1 = (d 64 1 + 1) % 8 ∧ g_2 64 1 d 64 2 = mmin 8 (d 64 2 + 1) := by
  obtain ⟨c1, c2⟩ := h.copy (a := 66 + 63 * d 64 1) (by omega)
  unfold g_2
  rw [show (64 : Int) + 1 + (1 + 63 * d 64 1) = 66 + 63 * d 64 1 by omega]
  generalize g_59 (66 + 63 * d 64 1) 1 d = d1 at *
  have e : ∀ b, ¬ b = 64 → mset (mset d1 64 1 ((d 64 1 + 1) % 8)) 64 2 (mmin 8 (d 64 2 + 1)) b = d1 b := fun b x => by
    funext j
    rw [ms_a x, ms_a x]
  exact ⟨c1.fr (fun b x y => e b (by omega)), fun b x y => by rw [e b x, c2 b (by omega)], by rw [ms_i (by decide), ms_e rfl rfl], ms_e rfl rfl⟩
theorem keepH {d d' : mD} (hH : HistRel d) (h : OKR 1 d (d 770)) (hc : ∀ b, 64 ≤ b → b ≤ 569 → d' b = g_2 64 1 d b) {r r' : mD} (hr : KeepW r r') (r7 : r 769 7 = d 769 7) (r0 : r 770 = d 770) (r1 : r 771 = d 771) (e7 : d' 769 7 = r' 769 7) (e1 : d' 771 = r' 771) : HistRel d' := by
  obtain ⟨hn, hc2, hu, hk⟩ := hH
  obtain ⟨c1, c2, c3, c4⟩ := keepC hn h
  obtain ⟨-, -, kw⟩ := hr
  rw [r7, r0, r1, ← e7, ← e1] at kw
  have hm : mmin 8 (d 64 2 + 1) = if d 64 2 = 8 then 8 else d 64 2 + 1 := by
    have := mmin_r 8 (d 64 2 + 1)
    split <;> omega
  have f1 : d' 64 1 = (d 64 1 + 1) % 8 := by rw [hc 64 (by decide) (by decide)]; exact c3
  have f2 : d' 64 2 = if d 64 2 = 8 then 8 else d 64 2 + 1 := by rw [hc 64 (by decide) (by decide), c4, hm]
  have new : ∀ {w : Row}, REq (d 770) w → OKR (66 + 63 * d 64 1) d' w := fun e => (c1.fr (fun b x y => hc b (by omega) (by omega))).row e
  have old : ∀ {w : Row} {a : Int}, OKR (66 + 63 * a) d w → 0 ≤ a → a < 8 → ¬ a = d 64 1 → OKR (66 + 63 * a) d' w := fun o x y z => o.fr (fun b u v => by
    rw [hc b (by omega) (by omega)]
    exact c2 b (by omega) (by omega))
  rcases kw with ⟨k0, k1, k2, k3⟩ | ⟨k0, k1, k2, k3⟩
  · rw [hu] at k0 k1 k2 k3
    rw [if_neg k0] at f2
    refine ⟨by omega, by omega, by omega, fun k x y => ?_⟩
    rw [f1, f2]
    by_cases z : k = d 64 2
    · have e : ksl ((d 64 1 + 1) % 8) (d 64 2 + 1) k = 66 + 63 * d 64 1 := by
        unfold ksl
        omega
      rw [e]
      refine new (fun i i0 i1 => ?_)
      show d' 771 (3116 * k + i) = d 770 i
      rw [z]
      exact k2 i i0 i1
    · have e : ksl ((d 64 1 + 1) % 8) (d 64 2 + 1) k = 66 + 63 * ((d 64 1 + 8 - d 64 2 + k) % 8) := by
        unfold ksl
        omega
      rw [e]
      refine OKR.row (w := fun i => d 771 (3116 * k + i)) (fun i i0 i1 => ?_) (old (hk k x (by omega)) (by omega) (by omega) (by omega))
      show d' 771 (3116 * k + i) = d 771 (3116 * k + i)
      exact k3 _ (by omega)
  · rw [hu] at k0
    rw [if_pos k0] at f2
    refine ⟨by omega, by omega, by omega, fun k x y => ?_⟩
    rw [f1, f2]
    by_cases z : k = 7
    · have e : ksl ((d 64 1 + 1) % 8) 8 k = 66 + 63 * d 64 1 := by
        unfold ksl
        omega
      rw [e]
      refine new (fun i i0 i1 => ?_)
      show d' 771 (3116 * k + i) = d 770 i
      rw [z]
      exact k2 i i0 i1
    · have e : ksl ((d 64 1 + 1) % 8) 8 k = 66 + 63 * ((d 64 1 + 8 - d 64 2 + (k + 1)) % 8) := by
        unfold ksl
        omega
      rw [e]
      refine OKR.row (w := fun i => d 771 (3116 * (k + 1) + i)) (fun i i0 i1 => ?_) (old (hk (k + 1) (by omega) (by omega)) (by omega) (by omega) (by omega))
      show d' 771 (3116 * k + i) = d 771 (3116 * (k + 1) + i)
      rw [k3 _ (by omega) (by omega), show 3116 * k + i + 3116 = 3116 * (k + 1) + i by omega]
/-! ===== undo, save, restore ===== -/
def UndoW (d d' : mD) : Prop := (∀ b, ¬ b = 769 → ¬ b = 770 → d' b = d b) ∧ (∀ j, ¬ j = 7 → ¬ j = 0 → d' 769 j = d 769 j) ∧ d' 769 0 = 0 ∧ d' 769 7 = d 769 7 - 1 ∧ ∀ i, 0 ≤ i → i < 3116 → d' 770 i = d 771 (3116 * (d 769 7 - 1) + i)
theorem undo294 {d : mD} (h : 0 < d 769 7) : v_294 769 d = d 769 7 - 1 ∧ UndoW d (g_294 769 d) := by
  obtain ⟨d', q1, q2, q3, q4⟩ := copyLoop (L := lp_294_37 769) (F := fun e => (e 769 7, e)) (I := fun e => e 769 7 = d 769 7 - 1) (A := 770) (B := 0) (C := 771) (D := 3116 * (d 769 7 - 1)) (N := 3116) (by decide) (fun e j v hi => by show mset e 770 j v 769 7 = _; rw [ms_a (by decide)]; exact hi) (fun n x e hi hx => by
    have st : ∀ r, st_294_37 769 r x e = (e 769 7, e) := fun r => by
      unfold st_294_37
      rw [if_neg (by omega)]
    cases n with
    | zero => exact st _
    | succ n => exact st _) (fun n x e hi hx => by
    show st_294_37 769 _ x e = _
    unfold st_294_37
    rw [if_pos hx, hi, Int.zero_add]
    rfl) (3116 - 0 : Int).toNat 0 (mset (mset d 769 0 0) 769 7 (d 769 7 - 1)) (ms_e rfl rfl) (by decide) (by decide)
  have e : f_294 769 d = (d' 769 7, d') := by
    unfold f_294
    rw [if_pos h]
    exact q1
  unfold v_294 g_294
  rw [e]
  have d7 : d' 769 = (mset (mset d 769 0 0) 769 7 (d 769 7 - 1)) 769 := q2 769 (by decide)
  refine ⟨?_, fun b x y => ?_, fun j x y => ?_, ?_, ?_, fun i a b => ?_⟩
  · show d' 769 7 = _
    rw [d7, ms_e rfl rfl]
  · show d' b = d b
    rw [q2 b y]
    funext j
    rw [ms_a x, ms_a x]
  · show d' 769 j = _
    rw [d7, ms_i x, ms_i y]
  · show d' 769 0 = 0
    rw [d7, ms_i (by decide), ms_e rfl rfl]
  · show d' 769 7 = _
    rw [d7, ms_e rfl rfl]
  · show d' 770 i = _
    have := q3 i a b
    rw [Int.zero_add, ms_a (by decide), ms_a (by decide)] at this
    exact this
theorem undoC {d : mD} {w : Row} (hn : 0 ≤ d 64 1 ∧ d 64 1 < 8) (h : OKR (66 + 63 * ((d 64 1 + 8 - 1) % 8)) d w) : OKR 1 (g_3 64 1 d) w ∧ (∀ b, ¬ b = 64 → ¬ (1 ≤ b ∧ b ≤ 63) → g_3 64 1 d b = d b) ∧ g_3 64 1 d 64 1 = (d 64 1 + 8 - 1) % 8 ∧ g_3 64 1 d 64 2 = d 64 2 - 1 := by
  unfold g_3
  have e : ∀ b, ¬ b = 64 → mset (mset d 64 1 ((d 64 1 + 8 - 1) % 8)) 64 2 (d 64 2 - 1) b = d b := fun b x => by
    funext j
    rw [ms_a x, ms_a x]
  have e1 : mset (mset d 64 1 ((d 64 1 + 8 - 1) % 8)) 64 2 (d 64 2 - 1) 64 1 = (d 64 1 + 8 - 1) % 8 := by
    rw [ms_i (by decide), ms_e rfl rfl]
  have e2 : mset (mset d 64 1 ((d 64 1 + 8 - 1) % 8)) 64 2 (d 64 2 - 1) 64 2 = d 64 2 - 1 := ms_e rfl rfl
  rw [show (64 : Int) + 1 + (1 + 63 * ((d 64 1 + 8 - 1) % 8)) = 66 + 63 * ((d 64 1 + 8 - 1) % 8) by omega]
  generalize mset (mset d 64 1 ((d 64 1 + 8 - 1) % 8)) 64 2 (d 64 2 - 1) = d1 at *
  obtain ⟨c1, c2⟩ := (h.fr (d' := d1) (fun b x y => e b (by omega))).copy (a := 1) (by omega)
  refine ⟨c1, fun b x y => by rw [c2 b (by omega), e b x], ?_, ?_⟩
  · rw [c2 64 (by omega), e1]
  · rw [c2 64 (by omega), e2]
theorem undoH {d d' : mD} (hH : HistRel d) (hp : 0 < d 64 2) (hc : ∀ b, 1 ≤ b → b ≤ 569 → d' b = g_3 64 1 d b) {r r' : mD} (hr : UndoW r r') (r7 : r 769 7 = d 769 7) (r1 : r 771 = d 771) (e7 : d' 769 7 = r' 769 7) (e0 : d' 770 = r' 770) (e1 : d' 771 = r' 771) : HistRel d' ∧ OKR 1 d' (d' 770) := by
  obtain ⟨hn, hc2, hu, hk⟩ := hH
  have top := hk (d 64 2 - 1) (by omega) (by omega)
  have et : ksl (d 64 1) (d 64 2) (d 64 2 - 1) = 66 + 63 * ((d 64 1 + 8 - 1) % 8) := by
    unfold ksl
    omega
  rw [et] at top
  obtain ⟨c1, c2, c3, c4⟩ := undoC hn top
  obtain ⟨u1, -, -, u2, u3⟩ := hr
  rw [r7, ← e7, hu] at u2
  rw [r7, r1, ← e0, hu] at u3
  have f1 : d' 64 1 = (d 64 1 + 8 - 1) % 8 := by rw [hc 64 (by decide) (by decide)]; exact c3
  have f2 : d' 64 2 = d 64 2 - 1 := by rw [hc 64 (by decide) (by decide)]; exact c4
  have f3 : d' 771 = d 771 := by rw [e1, u1 771 (by decide) (by decide), r1]
  refine ⟨⟨by omega, by omega, by omega, fun k x y => ?_⟩, ?_⟩
  · rw [f1, f2, f3]
    rw [f2] at y
    have e : ksl ((d 64 1 + 8 - 1) % 8) (d 64 2 - 1) k = ksl (d 64 1) (d 64 2) k := by
      unfold ksl
      omega
    rw [e]
    have r : 66 ≤ ksl (d 64 1) (d 64 2) k ∧ ksl (d 64 1) (d 64 2) k ≤ 507 := by
      unfold ksl
      omega
    exact (hk k x (by omega)).fr (fun b x y => by rw [hc b (by omega) (by omega), c2 b (by omega) (by omega)])
  · refine OKR.row (w := fun i => d 771 (3116 * (d 64 2 - 1) + i)) (fun i a b => u3 i a b) (c1.fr (fun b x y => hc b (by omega) (by omega)))
-- nothing can be undone
theorem noneH {d' : mD} (h1 : 0 ≤ d' 64 1 ∧ d' 64 1 < 8) (h2 : d' 64 2 = 0) (h7 : d' 769 7 = 0) : HistRel d' := ⟨h1, by omega, by omega, fun k x y => by omega⟩
-- save
def SaveW (a : Int) (d d' : mD) : Prop := (∀ b, ¬ b = 772 → ¬ b = 775 → d' b = d b) ∧ d' 775 a = 1 ∧ (∀ j, ¬ j = a → d' 775 j = d 775 j) ∧ (∀ i, 0 ≤ i → i < 3116 → d' 772 (3116 * a + i) = d 770 i) ∧ ∀ j, ¬ (3116 * a ≤ j ∧ j < 3116 * a + 3116) → d' 772 j = d 772 j
theorem save295 {a : Int} {d : mD} : SaveW a d (lp_295_29 769 a (3116 - 0 : Int).toNat 0 d) := by
  obtain ⟨d', q1, q2, q3, q4⟩ := copyLoop (L := lp_295_29 769 a) (F := fun e => mset e 775 a 1) (I := fun _ => True) (A := 772) (B := 3116 * a) (C := 770) (D := 0) (N := 3116) (by decide) (fun _ _ _ _ => trivial) (fun n x e _ hx => by
    have st : ∀ r, st_295_29 769 a r x e = mset e 775 a 1 := fun r => by
      unfold st_295_29
      rw [if_neg (by omega)]
      rfl
    cases n with
    | zero => exact st _
    | succ n => exact st _) (fun n x e _ hx => by
    show st_295_29 769 a _ x e = _
    unfold st_295_29
    rw [if_pos hx, Int.zero_add]
    rfl) (3116 - 0 : Int).toNat 0 d trivial (by decide) (by decide)
  rw [q1]
  refine ⟨fun b x y => ?_, ms_e rfl rfl, fun j hj => ?_, fun i x y => ?_, fun j hj => ?_⟩
  · show mset d' 775 a 1 b = _
    rw [← q2 b x]
    funext j
    exact ms_a y
  · show mset d' 775 a 1 775 j = _
    rw [ms_i hj, q2 775 (by decide)]
  · show mset d' 775 a 1 772 _ = _
    rw [ms_a (by decide), q3 i x y, Int.zero_add]
  · show mset d' 775 a 1 772 _ = _
    rw [ms_a (by decide)]
    exact q4 j (by omega)
theorem saveH {a : Int} {d d' : mD} (ha : a = 0 ∨ a = 1) (hS : SaveRel d) (h : OKR 1 d (d 770)) (hc : ∀ b, 571 ≤ b → b ≤ 768 → d' b = mset (g_59 (643 + 63 * a) 1 d) 571 a 1 b) {r r' : mD} (hr : SaveW a r r') (r0 : r 770 = d 770) (r2 : r 772 = d 772) (r5 : r 775 = d 775) (e2 : d' 772 = r' 772) (e5 : d' 775 = r' 775) : SaveRel d' := by
  obtain ⟨c1, c2⟩ := h.copy (a := 643 + 63 * a) (by omega)
  obtain ⟨-, u1, u2, u3, u4⟩ := hr
  rw [← e5] at u1
  rw [← e5, r5] at u2
  rw [← e2, r0] at u3
  rw [← e2, r2] at u4
  have g571 : g_59 (643 + 63 * a) 1 d 571 = d 571 := c2 571 (by omega)
  intro j hj
  by_cases z : j = a
  · refine ⟨?_, fun _ => ?_⟩
    · rw [hc 571 (by decide) (by decide), z, ms_e rfl rfl, u1]
    · rw [z]
      refine OKR.row (w := d 770) (fun i x y => u3 i x y) (c1.fr (fun b x y => ?_))
      rw [hc b (by omega) (by omega)]
      funext k
      exact ms_a (by omega)
  · obtain ⟨s1, s2⟩ := hS j hj
    refine ⟨?_, fun y => ?_⟩
    · rw [hc 571 (by decide) (by decide), ms_i z, u2 j z, g571]
      exact s1
    · rw [u2 j z] at y
      refine OKR.row (w := fun i => d 772 (3116 * j + i)) (fun i x y => u4 _ (by omega)) ((s2 y).fr (fun b x y => ?_))
      rw [hc b (by omega) (by omega), ← c2 b (by omega)]
      funext k
      exact ms_a (by omega)
-- restore
def RestW (a : Int) (d d' : mD) : Prop := (∀ b, ¬ b = 769 → ¬ b = 770 → d' b = d b) ∧ d' 769 7 = 0 ∧ (∀ j, ¬ j = 7 → d' 769 j = d 769 j) ∧ ∀ i, 0 ≤ i → i < 3116 → d' 770 i = d 772 (3116 * a + i)
theorem rest296 {a : Int} {d : mD} : RestW a d (lp_296_42 769 a (3116 - 0 : Int).toNat 0 d) := by
  obtain ⟨d', q1, q2, q3, q4⟩ := copyLoop (L := lp_296_42 769 a) (F := fun e => mset e 769 7 0) (I := fun _ => True) (A := 770) (B := 0) (C := 772) (D := 3116 * a) (N := 3116) (by decide) (fun _ _ _ _ => trivial) (fun n x e _ hx => by
    have st : ∀ r, st_296_42 769 a r x e = mset e 769 7 0 := fun r => by
      unfold st_296_42
      rw [if_neg (by omega)]
    cases n with
    | zero => exact st _
    | succ n => exact st _) (fun n x e _ hx => by
    show st_296_42 769 a _ x e = _
    unfold st_296_42
    rw [if_pos hx, Int.zero_add]
    rfl) (3116 - 0 : Int).toNat 0 d trivial (by decide) (by decide)
  rw [q1]
  refine ⟨fun b x y => ?_, ms_e rfl rfl, fun j hj => ?_, fun i x y => ?_⟩
  · show mset d' 769 7 0 b = _
    rw [← q2 b y]
    funext j
    exact ms_a x
  · show mset d' 769 7 0 769 j = _
    rw [ms_i hj, q2 769 (by decide)]
  · show mset d' 769 7 0 770 _ = _
    have := q3 i x y
    rw [Int.zero_add] at this
    rw [ms_a (by decide), this]
theorem restH {a : Int} {d d' : mD} (ha : a = 0 ∨ a = 1) (hS : SaveRel d) (hv : ¬ d 775 a = 0) (hn : 0 ≤ d 64 1 ∧ d 64 1 < 8) (hc : ∀ b, 1 ≤ b → b ≤ 65 → d' b = g_4 64 (g_59 1 (643 + 63 * a) d) b) {r r' : mD} (hr : RestW a r r') (r2 : r 772 = d 772) (e7 : d' 769 7 = r' 769 7) (e0 : d' 770 = r' 770) : HistRel d' ∧ OKR 1 d' (d' 770) := by
  obtain ⟨-, u1, -, u2⟩ := hr
  rw [← e7] at u1
  rw [← e0, r2] at u2
  obtain ⟨c1, c2⟩ := ((hS a ha).2 hv).copy (a := 1) (by omega)
  have f64 : d' 64 = g_4 64 (g_59 1 (643 + 63 * a) d) 64 := hc 64 (by decide) (by decide)
  refine ⟨noneH ?_ ?_ u1, OKR.row (w := fun i => d 772 (3116 * a + i)) (fun i x y => u2 i x y) (c1.fr (fun b x y => ?_))⟩
  · rw [f64]
    unfold g_4
    rw [ms_i (by decide), c2 64 (by omega)]
    exact hn
  · rw [f64]
    unfold g_4
    exact ms_e rfl rfl
  · rw [hc b (by omega) (by omega)]
    unfold g_4
    funext k
    exact ms_a (by omega)
/-! ===== the text: bytes ===== -/
theorem bvByte (x : BitVec 8) (y : BitVec 32) (h : ∀ i, i < 32 → y.getLsbD i = (decide (i < 8) && x.getLsbD i)) : x.toInt % 256 = y.toInt := by
  have e : y = x.setWidth 32 := by
    apply BitVec.eq_of_getLsbD_eq
    intro i hi
    rw [h i hi, BitVec.getLsbD_setWidth]
    by_cases q : i < 8
    · simp [q, hi]
    · simp [q, BitVec.getLsbD_of_ge x i (by omega)]
  have hx := x.isLt
  have ey : y.toNat = x.toNat := by
    rw [e, BitVec.toNat_setWidth]
    exact Nat.mod_eq_of_lt (by omega)
  rw [BitVec.toInt_eq_toNat_cond, BitVec.toInt_eq_toNat_cond, ey]
  split <;> split <;> omega
theorem i2bB (X : Int) : mi2b X = (((Int32.ofInt X).toBitVec).setWidth 8).toInt := by
  unfold mi2b
  rw [Int8.toInt_toInt32]
  show (((Int32.ofInt X).toInt8).toBitVec).toInt = _
  rw [Int32.toBitVec_toInt8, BitVec.signExtend_eq_setWidth_of_le _ (by decide)]
theorem andB (W : Int) (k : Nat) (h : k < 31) (i : Nat) (hi : i < 32) : ((Int32.ofInt W >>> (Int32.ofInt (k : Int) &&& 31)) &&& Int32.ofInt 255).toBitVec.getLsbD i = (decide (i < 8) && ((Int32.ofInt W).toBitVec.sshiftRight k).getLsbD i) := by
  have e1 : (Int32.ofInt W >>> (Int32.ofInt (k : Int) &&& 31)).toBitVec = (Int32.ofInt W).toBitVec.sshiftRight k := by
    rw [Int32.toBitVec_shiftRight]
    have e3 : ((Int32.ofInt (k : Int) &&& 31).toBitVec.smod 32).toNat = k := by
      have : ∀ k : Fin 31, ((Int32.ofInt ((k.val : Nat) : Int) &&& 31).toBitVec.smod 32).toNat = k.val := by decide +kernel
      exact this ⟨k, h⟩
    show (Int32.ofInt W).toBitVec.sshiftRight (((Int32.ofInt (k : Int) &&& 31).toBitVec.smod 32).toNat) = _
    rw [e3]
  have e2 : ∀ i : Fin 32, (Int32.ofInt 255).toBitVec.getLsbD i.val = decide (i.val < 8) := by decide +kernel
  rw [Int32.toBitVec_and, BitVec.getLsbD_and, e1, e2 ⟨i, hi⟩, Bool.and_comm]
theorem byteEq (W : Int) (k : Nat) (h : k ≤ 24) : mi2b (miushr W (k : Int)) % 256 = miand (mishr W (k : Int)) 255 := by
  rw [i2bB]
  unfold miand mI mishr mI miushr mI
  rw [m_back, m_back]
  refine bvByte _ _ (fun i hi => ?_)
  rw [andB W k (by omega) i hi, BitVec.getLsbD_sshiftRight, BitVec.getLsbD_setWidth]
  by_cases q : i < 8
  · have e1 : ((Int32.ofInt W).toUInt32 >>> ((Int32.ofInt (k : Int)).toUInt32 &&& Int32.toUInt32 31)).toInt32.toBitVec = (Int32.ofInt W).toBitVec >>> k := by
      have e3 : ((Int32.ofInt (k : Int)).toUInt32 &&& Int32.toUInt32 31).toNat % 32 = k := by
        have : ∀ k : Fin 31, ((Int32.ofInt ((k.val : Nat) : Int)).toUInt32 &&& Int32.toUInt32 31).toNat % 32 = k.val := by decide +kernel
        exact this ⟨k, by omega⟩
      apply BitVec.eq_of_toNat_eq
      show ((Int32.ofInt W).toUInt32 >>> ((Int32.ofInt (k : Int)).toUInt32 &&& Int32.toUInt32 31)).toNat = _
      rw [UInt32.toNat_shiftRight, e3, BitVec.toNat_ushiftRight]
      rfl
    rw [e1, BitVec.getLsbD_ushiftRight]
    have c : k + i < 32 := by omega
    simp [q, c]
    omega
  · simp [q]
theorem byteEq0 (W : Int) : mi2b W % 256 = miand (mishr W 0) 255 := by
  rw [i2bB]
  unfold miand mI mishr mI
  rw [m_back]
  refine bvByte _ _ (fun i hi => ?_)
  have h := andB W 0 (by omega) i hi
  rw [BitVec.getLsbD_sshiftRight] at h
  have h2 : ((Int32.ofInt W >>> (Int32.ofInt 0 &&& 31)) &&& Int32.ofInt 255).toBitVec.getLsbD i = _ := h
  rw [h2, BitVec.getLsbD_setWidth]
  by_cases q : i < 8
  · have c : 0 + i < 32 := by omega
    rw [Nat.zero_add] at c
    rw [Nat.zero_add]
    have c2 : ¬ 32 ≤ i := by omega
    simp only [q, c, c2, decide_true, decide_false, Bool.true_and, Bool.not_false, Bool.true_and, if_true, if_pos]
  · simp [q]
/-! ===== the text of both sides ===== -/
def TextR (d e : mD) : Prop := (0 ≤ d 578 1 ∧ d 578 1 ≤ 1000) ∧ e 769 9 = d 578 1 ∧ ∀ i, 0 ≤ i → i < d 578 1 → d 579 i % 256 = e 776 i ∧ -128 ≤ d 579 i ∧ d 579 i ≤ 127
theorem i2b_rng (X : Int) : -128 ≤ mi2b X ∧ mi2b X ≤ 127 := by
  rw [i2bB]
  have h := ((Int32.ofInt X).toBitVec.setWidth 8).isLt
  rw [BitVec.toInt_eq_toNat_cond]
  split <;> omega
theorem TextR.fr {d d' e e' : mD} (h : TextR d e) (h1 : d' 578 1 = d 578 1) (h2 : d' 579 = d 579) (h3 : e' 769 9 = e 769 9) (h4 : e' 776 = e 776) : TextR d' e' := by
  unfold TextR
  rw [h1, h2, h3, h4]
  exact h
theorem TextR.put {d e : mD} {v u : Int} (h : TextR d e) (hl : d 578 1 < 1000) (hu : mi2b v % 256 = u) : TextR (g_86 578 v d) (mset (mset e 776 (e 769 9) u) 769 9 (e 769 9 + 1)) ∧ g_86 578 v d 578 1 = d 578 1 + 1 ∧ ∀ b, ¬ b = 578 → ¬ b = 579 → g_86 578 v d b = d b := by
  obtain ⟨h1, h2, h3⟩ := h
  have hr := i2b_rng v
  have e1 : g_86 578 v d = mset (mset d 579 (d 578 1) (mi2b v)) 578 1 (d 578 1 + 1) := by
    unfold g_86
    rw [if_pos hl]
    rfl
  rw [e1, h2]
  refine ⟨⟨?_, ?_, fun i a b => ?_⟩, ms_e rfl rfl, fun b x y => ?_⟩
  · rw [ms_e rfl rfl]; omega
  · rw [ms_e rfl rfl, ms_e rfl rfl]
  · rw [ms_e rfl rfl] at b
    have q1 : ∀ j, mset (mset d 579 (d 578 1) (mi2b v)) 578 1 (d 578 1 + 1) 579 j = mset d 579 (d 578 1) (mi2b v) 579 j := fun j => ms_a (by decide)
    have q2 : ∀ j, mset (mset e 776 (d 578 1) u) 769 9 (d 578 1 + 1) 776 j = mset e 776 (d 578 1) u 776 j := fun j => ms_a (by decide)
    rw [q1, q2]
    by_cases z : i = d 578 1
    · rw [z, ms_e rfl rfl, ms_e rfl rfl]
      exact ⟨hu, hr⟩
    · rw [ms_i z, ms_i z]
      exact h3 i a (by omega)
  · funext j
    rw [ms_a x, ms_a y]
def putR (x k : Int) (e : mD) : mD := mset (mset e 776 (e 769 9) (miand (mishr x k) 255)) 769 9 (e 769 9 + 1)
theorem st185 {x : Int} {e : mD} : g_185 769 x e = putR x 0 (putR x 8 (putR x 16 (putR x 24 e))) := by
  have s : ∀ (n : Nat) (k : Int) (e : mD), 0 ≤ k → lp_185_3 769 x (n + 1) k e = lp_185_3 769 x n (k + -8) (putR x k e) := fun n k e hk => by
    show st_185_3 769 x _ k e = _
    unfold st_185_3
    rw [if_neg (by omega)]
    rfl
  have z : ∀ (n : Nat) (k : Int) (e : mD), k < 0 → lp_185_3 769 x n k e = e := fun n k e hk => by
    have st : ∀ r, st_185_3 769 x r k e = e := fun r => by
      unfold st_185_3
      rw [if_pos hk]
    cases n with
    | zero => exact st _
    | succ n => exact st _
  unfold g_185
  rw [show (24 + 8 : Int).toNat = 28 + 1 + 1 + 1 + 1 by decide, s _ 24 e (by decide), s _ (24 + -8) _ (by decide), s _ (24 + -8 + -8) _ (by decide), s _ (24 + -8 + -8 + -8) _ (by decide), z _ _ _ (by decide)]
  rfl
theorem TextR.int {d e : mD} {x : Int} (h : TextR d e) (hl : d 578 1 + 4 ≤ 1000) : TextR (g_87 578 x d) (g_185 769 x e) ∧ g_87 578 x d 578 1 = d 578 1 + 4 ∧ ∀ b, ¬ b = 578 → ¬ b = 579 → g_87 578 x d b = d b := by
  rw [st185]
  unfold g_87
  obtain ⟨a1, a2, a3⟩ := h.put (v := miushr x 24) (u := miand (mishr x 24) 255) (by omega) (byteEq x 24 (by decide))
  obtain ⟨b1, b2, b3⟩ := a1.put (v := miushr x 16) (u := miand (mishr x 16) 255) (by omega) (byteEq x 16 (by decide))
  obtain ⟨c1, c2, c3⟩ := b1.put (v := miushr x 8) (u := miand (mishr x 8) 255) (by omega) (byteEq x 8 (by decide))
  obtain ⟨f1, f2, f3⟩ := c1.put (v := x) (u := miand (mishr x 0) 255) (by omega) (byteEq0 x)
  exact ⟨f1, by omega, fun b x y => by rw [f3 b x y, c3 b x y, b3 b x y, a3 b x y]⟩
theorem putR_f {x k : Int} {e : mD} : (∀ b, ¬ b = 769 → ¬ b = 776 → putR x k e b = e b) ∧ ∀ j, ¬ j = 9 → putR x k e 769 j = e 769 j := by
  unfold putR
  exact ⟨fun b h1 h2 => by funext j; rw [ms_a h1, ms_a h2], fun j hj => by rw [ms_i hj, ms_a (by decide)]⟩
theorem f185 {x : Int} {e : mD} : (∀ b, ¬ b = 769 → ¬ b = 776 → g_185 769 x e b = e b) ∧ ∀ j, ¬ j = 9 → g_185 769 x e 769 j = e 769 j := by
  rw [st185]
  exact ⟨fun b h1 h2 => by rw [putR_f.1 b h1 h2, putR_f.1 b h1 h2, putR_f.1 b h1 h2, putR_f.1 b h1 h2], fun j hj => by rw [putR_f.2 j hj, putR_f.2 j hj, putR_f.2 j hj, putR_f.2 j hj]⟩
theorem TextR.app {d e : mD} {a b c x y : Int} (h : TextR d e) (hl : d 578 1 + 20 ≤ 1000) : TextR (g_87 578 y (g_87 578 x (g_87 578 c (g_87 578 b (g_87 578 a d))))) (g_185 769 y (g_185 769 x (g_185 769 c (g_185 769 b (g_185 769 a e))))) ∧ g_87 578 y (g_87 578 x (g_87 578 c (g_87 578 b (g_87 578 a d)))) 578 1 = d 578 1 + 20 ∧ ∀ k, ¬ k = 578 → ¬ k = 579 → g_87 578 y (g_87 578 x (g_87 578 c (g_87 578 b (g_87 578 a d)))) k = d k := by
  obtain ⟨a1, a2, a3⟩ := h.int (x := a) (by omega)
  obtain ⟨b1, b2, b3⟩ := a1.int (x := b) (by omega)
  obtain ⟨c1, c2, c3⟩ := b1.int (x := c) (by omega)
  obtain ⟨f1, f2, f3⟩ := c1.int (x := x) (by omega)
  obtain ⟨g1, g2, g3⟩ := f1.int (x := y) (by omega)
  exact ⟨g1, by omega, fun k u v => by rw [g3 k u v, f3 k u v, c3 k u v, b3 k u v, a3 k u v]⟩
-- letters, digits, blanks
theorem v176 {x a b : Int} {d : mD} : v_176 x a b d = if a ≤ x ∧ x ≤ b then 1 else 0 := by
  unfold v_176
  have h1 : mcmp x a < 0 ↔ x < a := by
    unfold mcmp
    split
    · omega
    · split <;> omega
  have h2 : 0 < mcmp x b ↔ b < x := by
    unfold mcmp
    split
    · omega
    · split <;> omega
  by_cases c1 : x < a
  · rw [if_pos (h1.2 c1), if_neg (by omega)]
  · rw [if_neg (fun z => c1 (h1.1 z))]
    by_cases c2 : b < x
    · rw [if_pos (h2.2 c2), if_neg (by omega)]
    · rw [if_neg (fun z => c2 (h2.1 z)), if_pos (by omega)]
theorem TextR.letter {d e : mD} {i : Int} (h : TextR d e) (h0 : 0 ≤ i) (h1 : i < d 578 1) : (v_91 578 i d = 0 ∨ v_91 578 i d = 1) ∧ v_190 769 i e = v_91 578 i d ∧ (v_91 578 i d = 1 → e 776 i = d 579 i ∧ 97 ≤ d 579 i ∧ d 579 i ≤ 122) := by
  obtain ⟨a, b, c⟩ := h
  have g := c i h0 h1
  unfold v_190 v_91
  rw [v176, show (769 : Int) + 7 = 776 by decide, show (578 : Int) + 1 = 579 by decide, b, if_pos h1]
  by_cases c1 : d 579 i < 97
  · have zz : ¬ (97 ≤ e 776 i ∧ e 776 i ≤ 122) := by omega
    rw [if_pos c1, if_neg zz, if_pos rfl]
    exact ⟨Or.inl rfl, rfl, fun z => absurd z (by decide)⟩
  · rw [if_neg c1]
    by_cases c2 : 122 < d 579 i
    · have zz : ¬ (97 ≤ e 776 i ∧ e 776 i ≤ 122) := by omega
      rw [if_pos c2, if_neg zz, if_pos rfl]
      exact ⟨Or.inl rfl, rfl, fun z => absurd z (by decide)⟩
    · have zz : 97 ≤ e 776 i ∧ e 776 i ≤ 122 := by omega
      rw [if_neg c2, if_pos zz, if_neg (by decide)]
      exact ⟨Or.inr rfl, rfl, fun _ => by omega⟩
-- the whole text as a name
theorem okStep {c l i : Int} (h : (c = 0 ∧ i = 0) ∨ (okN c ∧ 1 ≤ i)) (hb : (i = 0 ∧ c < 1) ∨ (i = 1 ∧ c < 32) ∨ (i = 2 ∧ c < 1024) ∨ (i = 3 ∧ c < 32768) ∨ (i = 4 ∧ c < 1048576) ∨ (i = 5 ∧ c < 33554432)) (hl : 1 ≤ l ∧ l ≤ 26) : okN (32 * c + l) ∧ nm (32 * c + l) = l + 27 * nm c ∧ ((i = 0 ∧ 32 * c + l < 32) ∨ (i = 1 ∧ 32 * c + l < 1024) ∨ (i = 2 ∧ 32 * c + l < 32768) ∨ (i = 3 ∧ 32 * c + l < 1048576) ∨ (i = 4 ∧ 32 * c + l < 33554432) ∨ (i = 5 ∧ 32 * c + l < 1073741824)) := by
  have c0 : 0 ≤ c := by
    rcases h with h | h
    · omega
    · have := h.1.1
      omega
  have e0 : (32 * c + l) % 32 = l := by clear h hb; omega
  have e1 : (32 * c + l) / 32 % 32 = c % 32 := by clear h hb; omega
  have e2 : (32 * c + l) / 1024 % 32 = c / 32 % 32 := by clear h hb; omega
  have e3 : (32 * c + l) / 32768 % 32 = c / 1024 % 32 := by clear h hb; omega
  have e4 : (32 * c + l) / 1048576 % 32 = c / 32768 % 32 := by clear h hb; omega
  have e5 : (32 * c + l) / 33554432 % 32 = c / 1048576 % 32 := by clear h hb; omega
  have hc5 : c < 33554432 := by
    clear h
    rcases hb with z | z | z | z | z | z <;> omega
  have e6 : c / 33554432 % 32 = 0 := by clear h hb; omega
  refine ⟨?_, ?_, by clear e0 e1 e2 e3 e4 e5 e6 h; rcases hb with z | z | z | z | z | z <;> omega⟩
  · unfold okN
    rw [e0, e1, e2, e3, e4, e5]
    rcases h with h | h
    · rw [h.1]
      exact ⟨by omega, by omega, hl, by decide, by decide, by decide, by decide, by decide, fun _ => by decide, fun _ => by decide, fun _ => by decide, fun _ => by decide⟩
    · obtain ⟨o1, o2, o3, o4, o5, o6, o7, o8, o9, o10, o11, o12⟩ := h.1
      exact ⟨by omega, by omega, hl, o3.2, o4, o5, o6, o7, fun z => by omega, o9, o10, o11⟩
  · unfold nm
    rw [e0, e1, e2, e3, e4, e5, e6]
    omega
/-! ===== the content of the text as a name ===== -/
theorem neg210 {e : mD} : ∀ (n : Nat) (x1 x2 : Int), x1 < 0 → e 769 9 - x2 ≤ (n : Int) → lp_210_4 769 n x1 x2 e = (0, mset e 769 9 0) := by
  have fin : ∀ r x1 x2, x1 < 0 → ¬ x2 < e 769 9 → st_210_4 769 r x1 x2 e = (0, mset e 769 9 0) := fun r x1 x2 a b => by
    unfold st_210_4
    rw [if_neg b, if_pos a]
  intro n
  induction n with
  | zero => intro x1 x2 a b; exact fin _ x1 x2 a (by omega)
  | succ n ih =>
    intro x1 x2 a b
    by_cases c : x2 < e 769 9
    · show st_210_4 769 _ x1 x2 e = _
      unfold st_210_4
      rw [if_pos c]
      split
      · exact ih (-1) (x2 + 1) (by decide) (by omega)
      · split
        · exact ih (-1) (x2 + 1) (by decide) (by omega)
        · exact ih (-1) (x2 + 1) (by decide) (by omega)
    · exact fin _ x1 x2 a c
theorem long210 {e : mD} (hl : 6 < e 769 9) : ∀ (n : Nat) (x1 x2 : Int), x2 ≤ 6 → e 769 9 - x2 ≤ (n : Int) → lp_210_4 769 n x1 x2 e = (0, mset e 769 9 0) := by
  intro n
  induction n with
  | zero => intro x1 x2 a b; omega
  | succ n ih =>
    intro x1 x2 a b
    show st_210_4 769 _ x1 x2 e = _
    unfold st_210_4
    rw [if_pos (by omega)]
    split
    · exact neg210 n (-1) (x2 + 1) (by decide) (by omega)
    · by_cases c : x2 < 6
      · rw [if_pos c]
        split
        · exact neg210 n (-1) (x2 + 1) (by decide) (by omega)
        · exact ih _ (x2 + 1) (by omega) (by omega)
      · rw [if_neg c]
        exact neg210 n (-1) (x2 + 1) (by decide) (by omega)
def nmB (i c : Int) : Prop := (i = 0 ∧ c < 1) ∨ (i = 1 ∧ c < 32) ∨ (i = 2 ∧ c < 1024) ∨ (i = 3 ∧ c < 32768) ∨ (i = 4 ∧ c < 1048576) ∨ (i = 5 ∧ c < 33554432) ∨ (i = 6 ∧ c < 1073741824)
theorem nmB.lt {i c : Int} (h : nmB i c) (hi : i < 6) : (i = 0 ∧ c < 1) ∨ (i = 1 ∧ c < 32) ∨ (i = 2 ∧ c < 1024) ∨ (i = 3 ∧ c < 32768) ∨ (i = 4 ∧ c < 1048576) ∨ (i = 5 ∧ c < 33554432) := by
  unfold nmB at h
  rcases h with h | h | h | h | h | h | h <;> omega
theorem nmB.b5 {i c : Int} (h : (i = 0 ∧ c < 1) ∨ (i = 1 ∧ c < 32) ∨ (i = 2 ∧ c < 1024) ∨ (i = 3 ∧ c < 32768) ∨ (i = 4 ∧ c < 1048576) ∨ (i = 5 ∧ c < 33554432)) : c < 33554432 := by
  rcases h with h | h | h | h | h | h <;> omega
theorem nmB.up {i x : Int} (h : (i = 0 ∧ x < 32) ∨ (i = 1 ∧ x < 1024) ∨ (i = 2 ∧ x < 32768) ∨ (i = 3 ∧ x < 1048576) ∨ (i = 4 ∧ x < 33554432) ∨ (i = 5 ∧ x < 1073741824)) : nmB (i + 1) x := by
  unfold nmB
  rcases h with h | h | h | h | h | h <;> omega
theorem mior5 {c l : Int} (h0 : 0 ≤ c) (h1 : c < 33554432) (l1 : 1 ≤ l) (l2 : l ≤ 31) : mior (mishl c 5) l = 32 * c + l := by
  rcases mname_or c l with y | y | y | y | y
  · exact y.2.2.2.2
  all_goals omega
theorem nm_zero : nm 0 = 0 := by decide
theorem loop210 {d e : mD} (h : TextR d e) (h1 : 1 ≤ d 578 1 ∧ d 578 1 ≤ 6) : ∀ (n nr : Nat) (c i : Int), ((c = 0 ∧ i = 0) ∨ (okN c ∧ 1 ≤ i)) → nmB i c → i ≤ d 578 1 → d 578 1 - i ≤ (n : Int) → d 578 1 - i ≤ (nr : Int) → (lp_93_20 578 0 (d 578 1) n c i d = -1 ∧ lp_210_4 769 nr (nm c) i e = (0, mset e 769 9 0)) ∨ (okN (lp_93_20 578 0 (d 578 1) n c i d) ∧ lp_210_4 769 nr (nm c) i e = (nm (lp_93_20 578 0 (d 578 1) n c i d), mset e 769 9 0)) := by
  have e9 : e 769 9 = d 578 1 := h.2.1
  have fin : ∀ (r : Int → Int → mD → Int) (r' : Int → Int → mD → Int × mD) (c i : Int), ((c = 0 ∧ i = 0) ∨ (okN c ∧ 1 ≤ i)) → ¬ i < d 578 1 → i ≤ d 578 1 → (st_93_20 578 0 (d 578 1) r c i d = -1 ∧ st_210_4 769 r' (nm c) i e = (0, mset e 769 9 0)) ∨ (okN (st_93_20 578 0 (d 578 1) r c i d) ∧ st_210_4 769 r' (nm c) i e = (nm (st_93_20 578 0 (d 578 1) r c i d), mset e 769 9 0)) := fun r r' c i hc a b => by
    have ho : okN c := by
      rcases hc with hc | hc
      · omega
      · exact hc.1
    have hp := nm_pos ho
    unfold st_93_20 st_210_4
    rw [if_neg a, e9, if_neg a, if_neg (by omega)]
    exact Or.inr ⟨ho, rfl⟩
  intro n
  induction n with
  | zero =>
    intro nr c i hc hb a b b'
    cases nr with
    | zero => exact fin _ _ c i hc (by omega) a
    | succ nr => exact fin _ _ c i hc (by omega) a
  | succ n ih =>
    intro nr c i hc hb a b b'
    by_cases q : i < d 578 1
    · cases nr with
      | zero => omega
      | succ nr =>
        have i0 : 0 ≤ i := by
          rcases hc with hc | hc <;> omega
        obtain ⟨l1, l2, l3⟩ := h.letter i0 q
        by_cases z : v_91 578 i d = 0
        · have e1 : lp_93_20 578 0 (d 578 1) (n + 1) c i d = -1 := by
            show st_93_20 578 0 (d 578 1) _ c i d = _
            unfold st_93_20
            rw [if_pos q, if_pos z]
          have e2 : lp_210_4 769 (nr + 1) (nm c) i e = lp_210_4 769 nr (-1) (i + 1) e := by
            show st_210_4 769 _ (nm c) i e = _
            unfold st_210_4
            rw [e9, if_pos q, l2, if_pos z]
          exact Or.inl ⟨e1, by rw [e2]; exact neg210 nr (-1) (i + 1) (by decide) (by omega)⟩
        · have z1 : v_91 578 i d = 1 := by omega
          obtain ⟨b1, b2, b3⟩ := l3 z1
          have hb' : (i = 0 ∧ c < 1) ∨ (i = 1 ∧ c < 32) ∨ (i = 2 ∧ c < 1024) ∨ (i = 3 ∧ c < 32768) ∨ (i = 4 ∧ c < 1048576) ∨ (i = 5 ∧ c < 33554432) := by
            exact hb.lt (by omega)
          have hc5 := nmB.b5 hb'
          obtain ⟨o1, o2, o3⟩ := okStep (l := d 579 i - 96) hc hb' (by clear hb hb'; omega)
          clear hb hb'
          have hc0 : 0 ≤ c := by
            rcases hc with hc | hc
            · omega
            · have := hc.1.1
              omega
          have hm : mior (mishl c 5) (d 579 i - 96) = 32 * c + (d 579 i - 96) := by
            exact mior5 hc0 hc5 (by clear o3; omega) (by clear o3; omega)
          have hn : ¬ nm c < 0 := by
            rcases hc with hc | hc
            · rw [hc.1, nm_zero]; decide
            · have := nm_pos hc.1
              omega
          have e1 : lp_93_20 578 0 (d 578 1) (n + 1) c i d = lp_93_20 578 0 (d 578 1) n (32 * c + (d 579 i - 96)) (i + 1) d := by
            show st_93_20 578 0 (d 578 1) _ c i d = _
            unfold st_93_20
            rw [if_pos q, if_neg z, show (578 : Int) + 1 = 579 by decide, hm]
          have e2 : lp_210_4 769 (nr + 1) (nm c) i e = lp_210_4 769 nr (nm (32 * c + (d 579 i - 96))) (i + 1) e := by
            show st_210_4 769 _ (nm c) i e = _
            unfold st_210_4
            rw [e9, if_pos q, l2, if_neg z, if_pos (by omega), if_neg hn, show (769 : Int) + 7 = 776 by decide, b1, o2, show 27 * nm c + d 579 i - 97 + 1 = d 579 i - 96 + 27 * nm c by omega]
          rw [e1, e2]
          exact ih nr _ (i + 1) (Or.inr ⟨o1, by clear o3; omega⟩) (nmB.up o3) (by clear o3; omega) (by clear o3; omega) (by clear o3; omega)
    · cases nr with
      | zero => exact fin _ _ c i hc q a
      | succ nr => exact fin _ _ c i hc q a
theorem content {d e : mD} (h : TextR d e) : ((v_93 578 0 (d 578 1) d = -1 ∧ v_210 769 e = 0) ∨ (okN (v_93 578 0 (d 578 1) d) ∧ v_210 769 e = nm (v_93 578 0 (d 578 1) d))) ∧ g_210 769 e = mset e 769 9 0 := by
  have e9 : e 769 9 = d 578 1 := h.2.1
  have hr := h.1
  have fuel : (((1000 - 0 : Int).toNat : Nat) : Int) = 1000 := by decide
  unfold v_93 v_210 g_210 f_210
  by_cases c : 0 < d 578 1
  · rw [if_pos c]
    by_cases c6 : 6 < d 578 1
    · rw [if_pos (by omega), long210 (by omega) (1000 - 0 : Int).toNat 0 0 (by decide) (by omega)]
      exact ⟨Or.inl ⟨rfl, rfl⟩, rfl⟩
    · rw [if_neg (by omega)]
      have := loop210 h (by omega) (d 578 1 - 0 : Int).toNat (1000 - 0 : Int).toNat 0 0 (Or.inl ⟨rfl, rfl⟩) (Or.inl ⟨rfl, by decide⟩) (by omega) (by omega) (by omega)
      rw [nm_zero] at this
      rcases this with ⟨a, b⟩ | ⟨a, b⟩
      · rw [a, b]
        exact ⟨Or.inl ⟨rfl, rfl⟩, rfl⟩
      · rw [b]
        exact ⟨Or.inr ⟨a, rfl⟩, rfl⟩
  · rw [if_neg c]
    have st : lp_210_4 769 (1000 - 0 : Int).toNat 0 0 e = (0, mset e 769 9 0) := by
      have s : ∀ r, st_210_4 769 r 0 0 e = (0, mset e 769 9 0) := fun r => by
        unfold st_210_4
        rw [if_neg (by omega), if_neg (by decide)]
      exact s _
    rw [st]
    exact ⟨Or.inl ⟨rfl, rfl⟩, rfl⟩
/-! ===== tokens of the text: what the class's reader finds ===== -/
def isBl (x : Int) : Prop := x = 32 ∨ x = 10
def isLe (x : Int) : Prop := 97 ≤ x ∧ x ≤ 122
def isDi (x : Int) : Prop := 48 ≤ x ∧ x ≤ 57
def BL (b : Int → Int) (L i a : Int) : Prop := i ≤ a ∧ a ≤ L ∧ (∀ j, i ≤ j → j < a → isBl (b j)) ∧ (a < L → ¬ isBl (b a))
def RU (P : Int → Prop) (b : Int → Int) (L a z : Int) : Prop := a ≤ z ∧ z ≤ L ∧ (∀ j, a ≤ j → j < z → P (b j)) ∧ (z < L → ¬ P (b z))
def dv (b : Int → Int) (a : Int) : Nat → Int
  | 0 => 0
  | n + 1 => dv b a n * 10 + b (a + n) - 48
def TokAt (b : Int → Int) (L a k z m : Int) : Prop := (a = L ∧ k = 3 ∧ z = a) ∨ (a < L ∧ isLe (b a) ∧ k = 0 ∧ RU isLe b L a z) ∨ (a < L ∧ isDi (b a) ∧ RU isDi b L a z ∧ ((z - a ≤ 5 ∧ k = 1 ∧ m = dv b a (z - a).toNat) ∨ (5 < z - a ∧ k = 4))) ∨ (a < L ∧ b a = 59 ∧ k = 2 ∧ z = a + 1) ∨ (a < L ∧ ¬ isLe (b a) ∧ ¬ isDi (b a) ∧ ¬ b a = 59 ∧ k = 4 ∧ z = a + 1)
theorem BL.uni {b : Int → Int} {L i a a' : Int} (h : BL b L i a) (h' : BL b L i a') : a = a' := by
  obtain ⟨p1, p2, p3, p4⟩ := h
  obtain ⟨q1, q2, q3, q4⟩ := h'
  by_cases x : a < a'
  · exact absurd (q3 a p1 x) (p4 (by omega))
  · by_cases y : a' < a
    · exact absurd (p3 a' q1 y) (q4 (by omega))
    · omega
theorem RU.uni {P : Int → Prop} {b : Int → Int} {L i a a' : Int} (h : RU P b L i a) (h' : RU P b L i a') : a = a' := by
  obtain ⟨p1, p2, p3, p4⟩ := h
  obtain ⟨q1, q2, q3, q4⟩ := h'
  by_cases x : a < a'
  · exact absurd (q3 a p1 x) (p4 (by omega))
  · by_cases y : a' < a
    · exact absurd (p3 a' q1 y) (q4 (by omega))
    · omega
theorem v90_i {i : Int} {d : mD} : (v_90 578 i d = 0 ∧ ¬ isBl (d 579 i)) ∨ (v_90 578 i d = 1 ∧ isBl (d 579 i)) := by
  unfold v_90 isBl
  rw [show (578 : Int) + 1 = 579 by decide]
  split
  · exact Or.inr ⟨rfl, Or.inl (by assumption)⟩
  · split
    · exact Or.inr ⟨rfl, Or.inr (by assumption)⟩
    · exact Or.inl ⟨rfl, by omega⟩
theorem v91_i {i : Int} {d : mD} : (v_91 578 i d = 0 ∧ ¬ isLe (d 579 i)) ∨ (v_91 578 i d = 1 ∧ isLe (d 579 i)) := by
  unfold v_91 isLe
  rw [show (578 : Int) + 1 = 579 by decide]
  split
  · exact Or.inl ⟨rfl, by omega⟩
  · split
    · exact Or.inl ⟨rfl, by omega⟩
    · exact Or.inr ⟨rfl, by omega⟩
theorem v92_i {i : Int} {d : mD} : (v_92 578 i d = 0 ∧ ¬ isDi (d 579 i)) ∨ (v_92 578 i d = 1 ∧ isDi (d 579 i)) := by
  unfold v_92 isDi
  rw [show (578 : Int) + 1 = 579 by decide]
  split
  · exact Or.inl ⟨rfl, by omega⟩
  · split
    · exact Or.inl ⟨rfl, by omega⟩
    · exact Or.inr ⟨rfl, by omega⟩
theorem l53 {L : Int} : ∀ (n : Nat) (d : mD), d 578 1 = L → d 577 3 ≤ L → L - d 577 3 ≤ (n : Int) → ∃ z d', lp_53_0 577 n d = d' ∧ RU isLe (d 579) L (d 577 3) z ∧ (∀ b, ¬ b = 577 → d' b = d b) ∧ (∀ j, ¬ j = 1 → ¬ j = 3 → d' 577 j = d 577 j) ∧ d' 577 3 = z ∧ d' 577 1 = 0 := by
  have stop : ∀ (d : mD), d 577 3 ≤ L → (d 577 3 < L → ¬ isLe (d 579 (d 577 3))) → ∃ z d', mset d 577 1 0 = d' ∧ RU isLe (d 579) L (d 577 3) z ∧ (∀ b, ¬ b = 577 → d' b = d b) ∧ (∀ j, ¬ j = 1 → ¬ j = 3 → d' 577 j = d 577 j) ∧ d' 577 3 = z ∧ d' 577 1 = 0 := fun d hb hc =>
    ⟨d 577 3, _, rfl, ⟨by omega, hb, fun j x y => by omega, hc⟩, fun b hb => by funext j; exact ms_a hb, fun j x _ => ms_i x, ms_i (by decide), ms_e rfl rfl⟩
  intro n
  induction n with
  | zero =>
    intro d hL ha hn
    have e : lp_53_0 577 0 d = mset d 577 1 0 := by
      show st_53_0 577 _ d = _
      unfold st_53_0
      rw [show (577 : Int) + 1 = 578 by decide, hL, if_neg (by omega)]
    rw [e]
    exact stop d ha (fun z => by omega)
  | succ n ih =>
    intro d hL ha hn
    have st : lp_53_0 577 (n + 1) d = if d 577 3 < L then (if v_91 578 (d 577 3) d = 0 then mset d 577 1 0 else lp_53_0 577 n (mset d 577 3 (d 577 3 + 1))) else mset d 577 1 0 := by
      show st_53_0 577 _ d = _
      unfold st_53_0
      rw [show (577 : Int) + 1 = 578 by decide, hL]
    by_cases c : d 577 3 < L
    · rw [if_pos c] at st
      rcases v91_i (i := d 577 3) (d := d) with ⟨v, g⟩ | ⟨v, g⟩
      · rw [if_pos v] at st
        rw [st]
        exact stop d ha (fun _ => g)
      · rw [if_neg (by omega)] at st
        rw [st]
        have e3 : mset d 577 3 (d 577 3 + 1) 577 3 = d 577 3 + 1 := ms_e rfl rfl
        have e9 : mset d 577 3 (d 577 3 + 1) 579 = d 579 := by funext j; exact ms_a (by decide)
        obtain ⟨z, d', q1, q2, q3, q4, q5, q6⟩ := ih (mset d 577 3 (d 577 3 + 1)) (by rw [ms_a (by decide)]; exact hL) (by rw [e3]; omega) (by rw [e3]; omega)
        rw [e3, e9] at q2
        refine ⟨z, d', q1, ⟨by have := q2.1; omega, q2.2.1, fun j x y => ?_, q2.2.2.2⟩, fun b hb => ?_, fun j x y => ?_, q5, q6⟩
        · by_cases y2 : j = d 577 3
          · rw [y2]; exact g
          · exact q2.2.2.1 j (by omega) y
        · rw [q3 b hb]
          funext j
          exact ms_a hb
        · rw [q4 j x y, ms_i y]
    · rw [if_neg c] at st
      rw [st]
      exact stop d ha (fun z => absurd z c)
theorem l54 {L a : Int} : ∀ (n : Nat) (d : mD), d 578 1 = L → d 577 2 = a → a ≤ d 577 3 → d 577 3 ≤ L → L - d 577 3 ≤ (n : Int) → (d 577 3 - a ≤ 5 → d 577 4 = dv (d 579) a (d 577 3 - a).toNat) → ∃ z d', lp_54_5 577 n d = d' ∧ RU isDi (d 579) L (d 577 3) z ∧ (∀ b, ¬ b = 577 → d' b = d b) ∧ d' 577 2 = a ∧ d' 577 3 = z ∧ ((z - a ≤ 5 ∧ d' 577 1 = 1 ∧ d' 577 4 = dv (d 579) a (z - a).toNat) ∨ (5 < z - a ∧ d' 577 1 = 4)) := by
  have stop : ∀ (d : mD), d 577 2 = a → d 577 3 ≤ L → (d 577 3 - a ≤ 5 → d 577 4 = dv (d 579) a (d 577 3 - a).toNat) → (d 577 3 < L → ¬ isDi (d 579 (d 577 3))) → ∃ z d', (if (5 : Int) < d 577 3 - d 577 2 then mset d 577 1 4 else mset d 577 1 1) = d' ∧ RU isDi (d 579) L (d 577 3) z ∧ (∀ b, ¬ b = 577 → d' b = d b) ∧ d' 577 2 = a ∧ d' 577 3 = z ∧ ((z - a ≤ 5 ∧ d' 577 1 = 1 ∧ d' 577 4 = dv (d 579) a (z - a).toNat) ∨ (5 < z - a ∧ d' 577 1 = 4)) := fun d h2 hb hv hc => by
    rw [h2]
    by_cases c5 : 5 < d 577 3 - a
    · rw [if_pos c5]
      exact ⟨d 577 3, _, rfl, ⟨by omega, hb, fun j x y => by omega, hc⟩, fun b hb => by funext j; exact ms_a hb, by rw [ms_i (by decide)]; exact h2, ms_i (by decide), Or.inr ⟨c5, ms_e rfl rfl⟩⟩
    · rw [if_neg c5]
      exact ⟨d 577 3, _, rfl, ⟨by omega, hb, fun j x y => by omega, hc⟩, fun b hb => by funext j; exact ms_a hb, by rw [ms_i (by decide)]; exact h2, ms_i (by decide), Or.inl ⟨by omega, ms_e rfl rfl, by rw [ms_i (by decide)]; exact hv (by omega)⟩⟩
  intro n
  induction n with
  | zero =>
    intro d hL h2 ha hb hn hv
    have e : lp_54_5 577 0 d = if (5 : Int) < d 577 3 - d 577 2 then mset d 577 1 4 else mset d 577 1 1 := by
      show st_54_5 577 _ d = _
      unfold st_54_5
      rw [show (577 : Int) + 1 = 578 by decide, hL, if_neg (by omega)]
    rw [e]
    exact stop d h2 hb hv (fun z => by omega)
  | succ n ih =>
    intro d hL h2 ha hb hn hv
    have st : lp_54_5 577 (n + 1) d = if d 577 3 < L then (if v_92 578 (d 577 3) d = 0 then (if (5 : Int) < d 577 3 - d 577 2 then mset d 577 1 4 else mset d 577 1 1) else if d 577 3 - d 577 2 < 5 then lp_54_5 577 n (mset (mset d 577 4 (d 577 4 * 10 + d 579 (d 577 3) - 48)) 577 3 (d 577 3 + 1)) else lp_54_5 577 n (mset d 577 3 (d 577 3 + 1))) else if (5 : Int) < d 577 3 - d 577 2 then mset d 577 1 4 else mset d 577 1 1 := by
      show st_54_5 577 _ d = _
      unfold st_54_5
      rw [show (577 : Int) + 1 = 578 by decide, hL, show (578 : Int) + 1 = 579 by decide]
    by_cases c : d 577 3 < L
    · rw [if_pos c] at st
      rcases v92_i (i := d 577 3) (d := d) with ⟨v, g⟩ | ⟨v, g⟩
      · rw [if_pos v] at st
        rw [st]
        exact stop d h2 hb hv (fun _ => g)
      · rw [if_neg (by omega)] at st
        have go : ∀ (u : mD), (∀ b, ¬ b = 577 → u b = d b) → u 577 2 = a → u 577 3 = d 577 3 + 1 → (u 577 3 - a ≤ 5 → u 577 4 = dv (d 579) a (u 577 3 - a).toNat) → ∃ z d', lp_54_5 577 n u = d' ∧ RU isDi (d 579) L (d 577 3) z ∧ (∀ b, ¬ b = 577 → d' b = d b) ∧ d' 577 2 = a ∧ d' 577 3 = z ∧ ((z - a ≤ 5 ∧ d' 577 1 = 1 ∧ d' 577 4 = dv (d 579) a (z - a).toNat) ∨ (5 < z - a ∧ d' 577 1 = 4)) := fun u w1 w2 w3 w4 => by
          have u9 : u 579 = d 579 := w1 579 (by decide)
          obtain ⟨z, d', q1, q2, q3, q4, q5, q6⟩ := ih u (by rw [w1 578 (by decide)]; exact hL) w2 (by omega) (by omega) (by omega) (by rw [u9]; exact w4)
          rw [u9, w3] at q2
          rw [u9] at q6
          refine ⟨z, d', q1, ⟨by have := q2.1; omega, q2.2.1, fun j x y => ?_, q2.2.2.2⟩, fun b hb => by rw [q3 b hb, w1 b hb], q4, q5, q6⟩
          by_cases y2 : j = d 577 3
          · rw [y2]; exact g
          · exact q2.2.2.1 j (by omega) y
        by_cases c5 : d 577 3 - d 577 2 < 5
        · rw [if_pos c5] at st
          rw [st]
          refine go _ (fun b hb => by funext j; rw [ms_a hb, ms_a hb]) (by rw [ms_i (by decide), ms_i (by decide)]; exact h2) (ms_e rfl rfl) (fun _ => ?_)
          rw [ms_e rfl rfl, ms_i (by decide), ms_e rfl rfl, hv (by omega), show (d 577 3 + 1 - a).toNat = (d 577 3 - a).toNat + 1 by omega]
          show _ = dv (d 579) a (d 577 3 - a).toNat * 10 + d 579 (a + ((d 577 3 - a).toNat : Nat)) - 48
          rw [show a + ((d 577 3 - a).toNat : Int) = d 577 3 by omega]
        · rw [if_neg c5] at st
          rw [st]
          exact go _ (fun b hb => by funext j; rw [ms_a hb]) (by rw [ms_i (by decide)]; exact h2) (ms_e rfl rfl) (fun z => by rw [ms_e rfl rfl] at z; omega)
    · rw [if_neg c] at st
      rw [st]
      exact stop d h2 hb hv (fun z => absurd z c)
/-! ===== the class's reader goes on ===== -/
theorem l52 {L : Int} (hL2 : L ≤ 1000) : ∀ (n : Nat) (d : mD), d 578 1 = L → 0 ≤ d 577 2 → d 577 2 ≤ L → L - d 577 2 ≤ (n : Int) → ∃ d', lp_52_8 577 n d = d' ∧ (∀ b, ¬ b = 577 → d' b = d b) ∧ BL (d 579) L (d 577 2) (d' 577 2) ∧ TokAt (d 579) L (d' 577 2) (d' 577 1) (d' 577 3) (d' 577 4) := by
  have stop : ∀ (d : mD), d 577 2 = L → ∃ d', mset (mset d 577 3 (d 577 2)) 577 1 3 = d' ∧ (∀ b, ¬ b = 577 → d' b = d b) ∧ BL (d 579) L (d 577 2) (d' 577 2) ∧ TokAt (d 579) L (d' 577 2) (d' 577 1) (d' 577 3) (d' 577 4) := fun d h => by
    have e2 : mset (mset d 577 3 (d 577 2)) 577 1 3 577 2 = d 577 2 := by rw [ms_i (by decide), ms_i (by decide)]
    refine ⟨_, rfl, fun b hb => by funext j; rw [ms_a hb, ms_a hb], ?_, ?_⟩
    · rw [e2]
      exact ⟨by omega, by omega, fun j x y => by omega, fun z => by omega⟩
    · rw [e2]
      exact Or.inl ⟨h, ms_e rfl rfl, by rw [ms_i (by decide), ms_e rfl rfl]⟩
  intro n
  induction n with
  | zero =>
    intro d hL h0 ha hn
    have e : lp_52_8 577 0 d = mset (mset d 577 3 (d 577 2)) 577 1 3 := by
      show st_52_8 577 _ d = _
      unfold st_52_8
      rw [show (577 : Int) + 1 = 578 by decide, hL, if_neg (by omega)]
    rw [e]
    exact stop d (by omega)
  | succ n ih =>
    intro d hL h0 ha hn
    by_cases c : d 577 2 < L
    · rcases v90_i (i := d 577 2) (d := d) with ⟨v, g⟩ | ⟨v, g⟩
      · have bl : BL (d 579) L (d 577 2) (d 577 2) := ⟨by omega, by omega, fun j x y => by omega, fun _ => g⟩
        have hE : ∃ E, mset d 577 3 (d 577 2) = E ∧ (∀ b, ¬ b = 577 → E b = d b) ∧ (∀ j, ¬ j = 3 → E 577 j = d 577 j) ∧ E 577 3 = d 577 2 := ⟨_, rfl, fun b hb => by funext j; exact ms_a hb, fun j hj => ms_i hj, ms_e rfl rfl⟩
        obtain ⟨E, hE, E1, E2, E3⟩ := hE
        have E9 : E 579 = d 579 := E1 579 (by decide)
        have E8 : E 578 = d 578 := E1 578 (by decide)
        have st : lp_52_8 577 (n + 1) d = if v_91 578 (d 577 2) E = 0 then (if v_92 578 (d 577 2) E = 0 then (if d 579 (d 577 2) = 59 then mset (mset E 577 1 2) 577 3 (d 577 2 + 1) else mset (mset E 577 1 4) 577 3 (d 577 2 + 1)) else g_54 577 E) else g_53 577 E := by
          show st_52_8 577 _ d = _
          unfold st_52_8
          rw [show (577 : Int) + 1 = 578 by decide, hL, if_pos c, if_pos v, hE, show (578 : Int) + 1 = 579 by decide]
        rcases v91_i (i := d 577 2) (d := E) with ⟨v1, g1⟩ | ⟨v1, g1⟩
        · rw [if_pos v1] at st
          rw [E9] at g1
          rcases v92_i (i := d 577 2) (d := E) with ⟨v2, g2⟩ | ⟨v2, g2⟩
          · rw [if_pos v2] at st
            rw [E9] at g2
            have fin : ∀ k, ∃ d', mset (mset E 577 1 k) 577 3 (d 577 2 + 1) = d' ∧ (∀ b, ¬ b = 577 → d' b = d b) ∧ d' 577 2 = d 577 2 ∧ d' 577 1 = k ∧ d' 577 3 = d 577 2 + 1 := fun k => ⟨_, rfl, fun b hb => by rw [← E1 b hb]; funext j; rw [ms_a hb, ms_a hb], by rw [ms_i (by decide), ms_i (by decide)]; exact E2 2 (by decide), by rw [ms_i (by decide), ms_e rfl rfl], ms_e rfl rfl⟩
            by_cases q : d 579 (d 577 2) = 59
            · rw [if_pos q] at st
              obtain ⟨d', f1, f2, f3, f4, f5⟩ := fin 2
              rw [st]
              refine ⟨d', f1, f2, by rw [f3]; exact bl, ?_⟩
              rw [f3, f4, f5]
              exact Or.inr (Or.inr (Or.inr (Or.inl ⟨c, q, rfl, rfl⟩)))
            · rw [if_neg q] at st
              obtain ⟨d', f1, f2, f3, f4, f5⟩ := fin 4
              rw [st]
              refine ⟨d', f1, f2, by rw [f3]; exact bl, ?_⟩
              rw [f3, f4, f5]
              exact Or.inr (Or.inr (Or.inr (Or.inr ⟨c, g1, g2, q, rfl, rfl⟩)))
          · rw [if_neg (by omega)] at st
            rw [E9] at g2
            have e3 : mset E 577 4 0 577 3 = d 577 2 := by rw [ms_i (by decide)]; exact E3
            have e9 : mset E 577 4 0 579 = d 579 := by rw [← E9]; funext j; exact ms_a (by decide)
            obtain ⟨z, d', q1, q2, q3, q4, q5, q6⟩ := l54 (L := L) (a := d 577 2) (1000 - (mset E 577 4 0) 577 3 : Int).toNat (mset E 577 4 0) (by rw [ms_a (by decide), E8]; exact hL) (by rw [ms_i (by decide)]; exact E2 2 (by decide)) (by omega) (by omega) (by omega) (fun _ => by
              rw [ms_e rfl rfl, e3, show (d 577 2 - d 577 2).toNat = 0 by omega]
              rfl)
            rw [e3, e9] at q2
            rw [e9] at q6
            have e : g_54 577 E = d' := q1
            rw [st, e]
            refine ⟨d', rfl, fun b hb => ?_, by rw [q4]; exact bl, ?_⟩
            · rw [q3 b hb, ← E1 b hb]
              funext j
              exact ms_a hb
            · rw [q4, q5]
              refine Or.inr (Or.inr (Or.inl ⟨c, g2, q2, ?_⟩))
              exact q6
        · rw [if_neg (by omega)] at st
          rw [E9] at g1
          obtain ⟨z, d', q1, q2, q3, q4, q5, q6⟩ := l53 (L := L) (1000 - E 577 3 : Int).toNat E (by rw [E8]; exact hL) (by omega) (by omega)
          rw [E3, E9] at q2
          have e : g_53 577 E = d' := q1
          have f2 : d' 577 2 = d 577 2 := by rw [q4 2 (by decide) (by decide)]; exact E2 2 (by decide)
          rw [st, e]
          refine ⟨d', rfl, fun b hb => by rw [q3 b hb, E1 b hb], by rw [f2]; exact bl, ?_⟩
          rw [f2, q5, q6]
          exact Or.inr (Or.inl ⟨c, g1, rfl, q2⟩)
      · have st : lp_52_8 577 (n + 1) d = lp_52_8 577 n (mset d 577 2 (d 577 2 + 1)) := by
          show st_52_8 577 _ d = _
          unfold st_52_8
          rw [show (577 : Int) + 1 = 578 by decide, hL, if_pos c, if_neg (by omega)]
        have e2 : mset d 577 2 (d 577 2 + 1) 577 2 = d 577 2 + 1 := ms_e rfl rfl
        have e9 : mset d 577 2 (d 577 2 + 1) 579 = d 579 := by funext j; exact ms_a (by decide)
        obtain ⟨d', q1, q2, q3, q4⟩ := ih (mset d 577 2 (d 577 2 + 1)) (by rw [ms_a (by decide)]; exact hL) (by omega) (by omega) (by omega)
        rw [e2, e9] at q3
        rw [e9] at q4
        rw [st]
        refine ⟨d', q1, fun b hb => ?_, ⟨by have := q3.1; omega, q3.2.1, fun j x y => ?_, q3.2.2.2⟩, q4⟩
        · rw [q2 b hb]
          funext j
          exact ms_a hb
        · by_cases y2 : j = d 577 2
          · rw [y2]; exact g
          · exact q3.2.2.1 j (by omega) y
    · have e : lp_52_8 577 (n + 1) d = mset (mset d 577 3 (d 577 2)) 577 1 3 := by
        show st_52_8 577 _ d = _
        unfold st_52_8
        rw [show (577 : Int) + 1 = 578 by decide, hL, if_neg c]
      rw [e]
      exact stop d (by omega)
theorem adv {L : Int} {d : mD} (hL : d 578 1 = L) (hL2 : L ≤ 1000) (h0 : 0 ≤ d 577 3) (h1 : d 577 3 ≤ L) : (∀ b, ¬ b = 577 → g_52 577 d b = d b) ∧ BL (d 579) L (d 577 3) (g_52 577 d 577 2) ∧ TokAt (d 579) L (g_52 577 d 577 2) (g_52 577 d 577 1) (g_52 577 d 577 3) (g_52 577 d 577 4) := by
  have e2 : mset d 577 2 (d 577 3) 577 2 = d 577 3 := ms_e rfl rfl
  have e9 : mset d 577 2 (d 577 3) 579 = d 579 := by funext j; exact ms_a (by decide)
  obtain ⟨d', q1, q2, q3, q4⟩ := l52 hL2 (1000 - (mset d 577 2 (d 577 3)) 577 2 : Int).toNat (mset d 577 2 (d 577 3)) (by rw [ms_a (by decide)]; exact hL) (by omega) (by omega) (by omega)
  have e : g_52 577 d = d' := q1
  rw [e2, e9] at q3
  rw [e9] at q4
  rw [e]
  refine ⟨fun b hb => ?_, q3, q4⟩
  rw [q2 b hb]
  funext j
  exact ms_a hb
/-! ===== what the reference's reader finds ===== -/
def TX (b : Int → Int) (L : Int) (e : mD) : Prop := (0 ≤ L ∧ L ≤ 1000) ∧ e 769 9 = L ∧ ∀ i, 0 ≤ i → i < L → b i % 256 = e 776 i ∧ -128 ≤ b i ∧ b i ≤ 127
theorem TX.fr {b : Int → Int} {L : Int} {e e' : mD} (h : TX b L e) (h1 : e' 769 9 = e 769 9) (h2 : e' 776 = e 776) : TX b L e' := by
  unfold TX
  rw [h1, h2]
  exact h
theorem TX.le {b : Int → Int} {L i : Int} {e : mD} (h : TX b L e) (h0 : 0 ≤ i) : (v_190 769 i e = 0 ∧ (i < L → ¬ isLe (b i))) ∨ (v_190 769 i e = 1 ∧ i < L ∧ isLe (b i) ∧ e 776 i = b i) := by
  obtain ⟨h1, h2, h3⟩ := h
  unfold v_190
  rw [v176, show (769 : Int) + 7 = 776 by decide, h2]
  by_cases c : i < L
  · have g := h3 i h0 c
    rw [if_pos c]
    by_cases z : 97 ≤ e 776 i ∧ e 776 i ≤ 122
    · rw [if_pos z, if_neg (by decide)]
      exact Or.inr ⟨rfl, c, by unfold isLe; omega, by omega⟩
    · rw [if_neg z, if_pos rfl]
      exact Or.inl ⟨rfl, fun _ y => by unfold isLe at y; omega⟩
  · rw [if_neg c]
    exact Or.inl ⟨rfl, fun z => absurd z c⟩
theorem TX.di {b : Int → Int} {L i : Int} {e : mD} (h : TX b L e) (h0 : 0 ≤ i) : (v_191 769 i e = 0 ∧ (i < L → ¬ isDi (b i))) ∨ (v_191 769 i e = 1 ∧ i < L ∧ isDi (b i) ∧ e 776 i = b i) := by
  obtain ⟨h1, h2, h3⟩ := h
  unfold v_191
  rw [v176, show (769 : Int) + 7 = 776 by decide, h2]
  by_cases c : i < L
  · have g := h3 i h0 c
    rw [if_pos c]
    by_cases z : 48 ≤ e 776 i ∧ e 776 i ≤ 57
    · rw [if_pos z, if_neg (by decide)]
      exact Or.inr ⟨rfl, c, by unfold isDi; omega, by omega⟩
    · rw [if_neg z, if_pos rfl]
      exact Or.inl ⟨rfl, fun _ y => by unfold isDi at y; omega⟩
  · rw [if_neg c]
    exact Or.inl ⟨rfl, fun z => absurd z c⟩
theorem l189 {b : Int → Int} {L : Int} : ∀ (n : Nat) (e : mD), TX b L e → 0 ≤ e 769 10 → e 769 10 ≤ L → L - e 769 10 ≤ (n : Int) → ∃ a e', lp_189_0 769 n e = e' ∧ BL b L (e 769 10) a ∧ (∀ k, ¬ k = 769 → e' k = e k) ∧ (∀ j, ¬ j = 10 → e' 769 j = e 769 j) ∧ e' 769 10 = a := by
  intro n
  induction n with
  | zero =>
    intro e h h0 h1 hn
    have st : lp_189_0 769 0 e = e := by
      show st_189_0 769 _ e = _
      unfold st_189_0
      rw [h.2.1, if_neg (by omega)]
    exact ⟨e 769 10, e, st, ⟨by omega, h1, fun j x y => by omega, fun z => by omega⟩, fun _ _ => rfl, fun _ _ => rfl, rfl⟩
  | succ n ih =>
    intro e h h0 h1 hn
    have st : lp_189_0 769 (n + 1) e = if e 769 10 < L then (if e 776 (e 769 10) = 10 then lp_189_0 769 n (mset e 769 10 (e 769 10 + 1)) else if e 776 (e 769 10) = 32 then lp_189_0 769 n (mset e 769 10 (e 769 10 + 1)) else e) else e := by
      show st_189_0 769 _ e = _
      unfold st_189_0
      rw [h.2.1, show (769 : Int) + 7 = 776 by decide]
    by_cases c : e 769 10 < L
    · have g := h.2.2 _ h0 c
      rw [if_pos c] at st
      by_cases z : isBl (b (e 769 10))
      · have st2 : lp_189_0 769 (n + 1) e = lp_189_0 769 n (mset e 769 10 (e 769 10 + 1)) := by
          rw [st]
          unfold isBl at z
          by_cases y : e 776 (e 769 10) = 10
          · rw [if_pos y]
          · rw [if_neg y, if_pos (by omega)]
        have e10 : mset e 769 10 (e 769 10 + 1) 769 10 = e 769 10 + 1 := ms_e rfl rfl
        obtain ⟨a, e', q1, q2, q3, q4, q5⟩ := ih (mset e 769 10 (e 769 10 + 1)) (h.fr (ms_i (by decide)) (by funext j; exact ms_a (by decide))) (by omega) (by omega) (by omega)
        rw [e10] at q2
        refine ⟨a, e', st2.trans q1, ⟨by have := q2.1; omega, q2.2.1, fun j x y => ?_, q2.2.2.2⟩, fun k hk => ?_, fun j hj => ?_, q5⟩
        · by_cases y2 : j = e 769 10
          · rw [y2]; exact z
          · exact q2.2.2.1 j (by omega) y
        · rw [q3 k hk]
          funext j
          exact ms_a hk
        · rw [q4 j hj, ms_i hj]
      · have st2 : lp_189_0 769 (n + 1) e = e := by
          rw [st]
          unfold isBl at z
          rw [if_neg (by omega), if_neg (by omega)]
        exact ⟨e 769 10, e, st2, ⟨by omega, h1, fun j x y => by omega, fun _ => z⟩, fun _ _ => rfl, fun _ _ => rfl, rfl⟩
    · rw [if_neg c] at st
      exact ⟨e 769 10, e, st, ⟨by omega, h1, fun j x y => by omega, fun z => absurd z c⟩, fun _ _ => rfl, fun _ _ => rfl, rfl⟩
theorem bl189 {b : Int → Int} {L : Int} {e : mD} (h : TX b L e) (h0 : 0 ≤ e 769 10) (h1 : e 769 10 ≤ L) : ∃ a e', g_189 769 e = e' ∧ BL b L (e 769 10) a ∧ (∀ k, ¬ k = 769 → e' k = e k) ∧ (∀ j, ¬ j = 10 → e' 769 j = e 769 j) ∧ e' 769 10 = a := by
  have := h.1
  exact l189 (1000 - e 769 10 : Int).toNat e h h0 h1 (by omega)
def wc (b : Int → Int) (a : Int) : Nat → Int
  | 0 => 0
  | n + 1 => 27 * wc b a n + b (a + n) - 96
theorem l193 {b : Int → Int} {L a lim : Int} (hl : 0 ≤ lim) : ∀ (n : Nat) (x4 x2 : Int) (e : mD), TX b L e → 0 ≤ x4 → 0 ≤ a → e 769 10 = a + x4 → e 769 10 ≤ L → L - e 769 10 ≤ (n : Int) → (x4 ≤ lim → x2 = wc b a x4.toNat) → (lim < x4 → x2 = -1) → ∃ z e', lp_193_17 769 lim n x2 x4 e = (if z - a ≤ lim then wc b a (z - a).toNat else -1, e') ∧ RU isLe b L (a + x4) z ∧ (∀ k, ¬ k = 769 → e' k = e k) ∧ (∀ j, ¬ j = 10 → e' 769 j = e 769 j) ∧ e' 769 10 = z := by
  have stop : ∀ (x4 x2 : Int) (e : mD), 0 ≤ x4 → e 769 10 = a + x4 → e 769 10 ≤ L → (x4 ≤ lim → x2 = wc b a x4.toNat) → (lim < x4 → x2 = -1) → (a + x4 < L → ¬ isLe (b (a + x4))) → ∃ z e', (x2, e) = (if z - a ≤ lim then wc b a (z - a).toNat else -1, e') ∧ RU isLe b L (a + x4) z ∧ (∀ k, ¬ k = 769 → e' k = e k) ∧ (∀ j, ¬ j = 10 → e' 769 j = e 769 j) ∧ e' 769 10 = z := fun x4 x2 e h0 ha h1 hv hw hs => by
    refine ⟨a + x4, e, ?_, ⟨by omega, by omega, fun j x y => by omega, hs⟩, fun _ _ => rfl, fun _ _ => rfl, ha⟩
    rw [show a + x4 - a = x4 by omega]
    by_cases c : x4 ≤ lim
    · rw [if_pos c, hv c]
    · rw [if_neg c, hw (by omega)]
  intro n
  induction n with
  | zero =>
    intro x4 x2 e h h0 a0 ha h1 hn hv hw
    rcases h.le (i := e 769 10) (by omega) with ⟨v, g⟩ | ⟨v, g, -⟩
    · have st : lp_193_17 769 lim 0 x2 x4 e = (x2, e) := by
        show st_193_17 769 lim _ x2 x4 e = _
        unfold st_193_17
        rw [if_pos v]
      rw [st]
      exact stop x4 x2 e h0 ha h1 hv hw (by rw [← ha]; exact g)
    · omega
  | succ n ih =>
    intro x4 x2 e h h0 a0 ha h1 hn hv hw
    rcases h.le (i := e 769 10) (by omega) with ⟨v, g⟩ | ⟨v, g1, g2, g3⟩
    · have st : lp_193_17 769 lim (n + 1) x2 x4 e = (x2, e) := by
        show st_193_17 769 lim _ x2 x4 e = _
        unfold st_193_17
        rw [if_pos v]
      rw [st]
      exact stop x4 x2 e h0 ha h1 hv hw (by rw [← ha]; exact g)
    · have st : lp_193_17 769 lim (n + 1) x2 x4 e = if x4 < lim then lp_193_17 769 lim n (27 * x2 + e 776 (e 769 10) - 97 + 1) (x4 + 1) (mset e 769 10 (e 769 10 + 1)) else lp_193_17 769 lim n (-1) (x4 + 1) (mset e 769 10 (e 769 10 + 1)) := by
        show st_193_17 769 lim _ x2 x4 e = _
        unfold st_193_17
        rw [if_neg (by omega), show (769 : Int) + 7 = 776 by decide]
      have e10 : mset e 769 10 (e 769 10 + 1) 769 10 = e 769 10 + 1 := ms_e rfl rfl
      have go : ∀ x, (x4 + 1 ≤ lim → x = wc b a (x4 + 1).toNat) → (lim < x4 + 1 → x = -1) → ∃ z e', lp_193_17 769 lim n x (x4 + 1) (mset e 769 10 (e 769 10 + 1)) = (if z - a ≤ lim then wc b a (z - a).toNat else -1, e') ∧ RU isLe b L (a + x4) z ∧ (∀ k, ¬ k = 769 → e' k = e k) ∧ (∀ j, ¬ j = 10 → e' 769 j = e 769 j) ∧ e' 769 10 = z := fun x hx1 hx2 => by
        obtain ⟨z, e', q1, q2, q3, q4, q5⟩ := ih (x4 + 1) x (mset e 769 10 (e 769 10 + 1)) (h.fr (ms_i (by decide)) (by funext j; exact ms_a (by decide))) (by omega) a0 (by omega) (by omega) (by omega) hx1 hx2
        refine ⟨z, e', q1, ⟨by have := q2.1; omega, q2.2.1, fun j u v => ?_, q2.2.2.2⟩, fun k hk => ?_, fun j hj => ?_, q5⟩
        · by_cases y2 : j = a + x4
          · rw [y2, ← ha]; exact g2
          · exact q2.2.2.1 j (by omega) v
        · rw [q3 k hk]
          funext j
          exact ms_a hk
        · rw [q4 j hj, ms_i hj]
      by_cases c : x4 < lim
      · rw [if_pos c] at st
        rw [st]
        refine go _ (fun _ => ?_) (fun z => by omega)
        rw [show (x4 + 1).toNat = x4.toNat + 1 by omega, hv (by omega), g3]
        show _ = 27 * wc b a x4.toNat + b (a + (x4.toNat : Int)) - 96
        rw [show a + (x4.toNat : Int) = e 769 10 by omega]
        omega
      · rw [if_neg c] at st
        rw [st]
        exact go _ (fun z => by omega) (fun _ => rfl)
theorem w193 {b : Int → Int} {L lim : Int} {e : mD} (hl : 0 ≤ lim) (h : TX b L e) (h0 : 0 ≤ e 769 10) (h1 : e 769 10 ≤ L) : ∃ a z e', BL b L (e 769 10) a ∧ RU isLe b L a z ∧ f_193 769 lim e = (if z - a ≤ lim then wc b a (z - a).toNat else -1, e') ∧ (∀ k, ¬ k = 769 → e' k = e k) ∧ (∀ j, ¬ j = 10 → ¬ j = 16 → e' 769 j = e 769 j) ∧ e' 769 10 = z ∧ e' 769 16 = a := by
  obtain ⟨a, e1, p1, p2, p3, p4, p5⟩ := bl189 h h0 h1
  have h1' : TX b L (mset e1 769 16 a) := h.fr (by rw [ms_i (by decide)]; exact p4 9 (by decide)) (by rw [← p3 776 (by decide)]; funext j; exact ms_a (by decide))
  have e10 : mset e1 769 16 a 769 10 = a := by rw [ms_i (by decide)]; exact p5
  have hr := h.1
  have ha := p2.1
  have hb := p2.2.1
  obtain ⟨z, e', q1, q2, q3, q4, q5⟩ := l193 (a := a) hl (1000 - mset e1 769 16 a 769 10 : Int).toNat 0 0 (mset e1 769 16 a) h1' (by omega) (by omega) (by omega) (by omega) (by omega) (fun _ => rfl) (fun z => by omega)
  rw [show a + 0 = a by omega] at q2
  refine ⟨a, z, e', p2, q2, ?_, fun k hk => ?_, fun j x y => ?_, q5, ?_⟩
  · unfold f_193
    rw [p1, p5]
    exact q1
  · rw [q3 k hk, ← p3 k hk]
    funext j
    exact ms_a hk
  · rw [q4 j x, ms_i y, p4 j x]
  · rw [q4 16 (by decide), ms_e rfl rfl]
/-! ===== the reference's numbers ===== -/
def FrR (e e' : mD) : Prop := (∀ k, ¬ k = 769 → e' k = e k) ∧ ∀ j, j < 10 ∨ 16 < j → e' 769 j = e 769 j
theorem FrR.refl {e : mD} : FrR e e := ⟨fun _ _ => rfl, fun _ _ => rfl⟩
theorem FrR.trans {a b c : mD} (h : FrR a b) (g : FrR b c) : FrR a c := ⟨fun k hk => (g.1 k hk).trans (h.1 k hk), fun j hj => (g.2 j hj).trans (h.2 j hj)⟩
theorem FrR.set {e : mD} {j v : Int} (hj : 10 ≤ j ∧ j ≤ 16) : FrR e (mset e 769 j v) := ⟨fun k hk => by funext i; exact ms_a hk, fun i hi => ms_i (by omega)⟩
-- it is bad: with this code at this place
def BadR (c p : Int) (e : mD) : Prop := e 769 13 = 1 ∧ e 769 11 = c ∧ e 769 12 = p
theorem flt188 {c p : Int} {e : mD} (h : e 769 13 = 0) : BadR c p (g_188 769 c p e) ∧ FrR e (g_188 769 c p e) := by
  unfold g_188
  rw [if_pos h]
  refine ⟨⟨?_, ?_, ?_⟩, ((FrR.set (by decide)).trans (FrR.set (by decide))).trans (FrR.set (by decide))⟩
  · rw [ms_i (by decide), ms_i (by decide), ms_e rfl rfl]
  · rw [ms_i (by decide), ms_e rfl rfl]
  · exact ms_e rfl rfl
def NumR (b : Int → Int) (L lo hi a z : Int) (e : mD) (r : Int × mD) : Prop := FrR e r.2 ∧ ((z = a ∧ r.1 = 0 ∧ BadR 1 a r.2) ∨ (5 < z - a ∧ r.1 = 0 ∧ BadR 1 a r.2) ∨ (a < z ∧ z - a ≤ 5 ∧ ¬ (lo ≤ dv b a (z - a).toNat ∧ dv b a (z - a).toNat ≤ hi) ∧ r.1 = 0 ∧ BadR 2 a r.2) ∨ (a < z ∧ z - a ≤ 5 ∧ (lo ≤ dv b a (z - a).toNat ∧ dv b a (z - a).toNat ≤ hi) ∧ r.1 = dv b a (z - a).toNat ∧ r.2 769 13 = 0 ∧ r.2 769 10 = z))
theorem l197 {b : Int → Int} {L a lo hi : Int} : ∀ (n : Nat) (x : Int) (e : mD), TX b L e → 0 ≤ x → 0 ≤ a → e 769 10 = a + x → e 769 10 ≤ L → L - e 769 10 ≤ (n : Int) → e 769 13 = 0 → e 769 15 = a → (x ≤ 5 → e 769 14 = dv b a x.toNat) → ∃ z, RU isDi b L (a + x) z ∧ NumR b L lo hi a z e (lp_197_28 769 lo hi n x e) := by
  have stop : ∀ (x : Int) (e : mD) (r : Int → mD → Int × mD), 0 ≤ x → e 769 10 = a + x → e 769 10 ≤ L → e 769 13 = 0 → e 769 15 = a → (x ≤ 5 → e 769 14 = dv b a x.toNat) → v_191 769 (e 769 10) e = 0 → (a + x < L → ¬ isDi (b (a + x))) → ∃ z, RU isDi b L (a + x) z ∧ NumR b L lo hi a z e (st_197_28 769 lo hi r x e) := fun x e r h0 ha h1 h13 h15 hv v hs => by
    refine ⟨a + x, ⟨by omega, by omega, fun j x y => by omega, hs⟩, ?_⟩
    obtain ⟨f1, f2⟩ := flt188 (c := 1) (p := a) h13
    obtain ⟨f3, f4⟩ := flt188 (c := 2) (p := a) h13
    unfold st_197_28
    rw [if_pos v, h15]
    have n1 : ¬ g_188 769 1 a e 769 13 = 0 := by rw [f1.1]; decide
    have n2 : ¬ g_188 769 2 a e 769 13 = 0 := by rw [f3.1]; decide
    by_cases c0 : x = 0
    · rw [if_pos c0, if_neg n1]
      exact ⟨f2, Or.inl ⟨by omega, rfl, f1⟩⟩
    · rw [if_neg c0]
      by_cases c5 : 5 < x
      · rw [if_pos c5, if_neg n1]
        exact ⟨f2, Or.inr (Or.inl ⟨by omega, rfl, f1⟩)⟩
      · rw [if_neg c5, v176, hv (by omega)]
        have ex : (a + x - a).toNat = x.toNat := by rw [show a + x - a = x by omega]
        by_cases q : lo ≤ dv b a x.toNat ∧ dv b a x.toNat ≤ hi
        · rw [if_pos q, if_neg (by decide), if_pos h13]
          exact ⟨FrR.refl, Or.inr (Or.inr (Or.inr ⟨by omega, by omega, by rw [ex]; exact q, by rw [ex], h13, ha⟩))⟩
        · rw [if_neg q, if_pos rfl, if_neg n2]
          exact ⟨f4, Or.inr (Or.inr (Or.inl ⟨by omega, by omega, by rw [ex]; exact q, rfl, f3⟩))⟩
  intro n
  induction n with
  | zero =>
    intro x e h h0 a0 ha h1 hn h13 h15 hv
    rcases h.di (i := e 769 10) (by omega) with ⟨v, g⟩ | ⟨v, g, -⟩
    · exact stop x e _ h0 ha h1 h13 h15 hv v (by rw [← ha]; exact g)
    · omega
  | succ n ih =>
    intro x e h h0 a0 ha h1 hn h13 h15 hv
    rcases h.di (i := e 769 10) (by omega) with ⟨v, g⟩ | ⟨v, g1, g2, g3⟩
    · exact stop x e _ h0 ha h1 h13 h15 hv v (by rw [← ha]; exact g)
    · have st : lp_197_28 769 lo hi (n + 1) x e = if x < 5 then lp_197_28 769 lo hi n (x + 1) (mset (mset e 769 14 (10 * e 769 14 + e 776 (e 769 10) - 48)) 769 10 (e 769 10 + 1)) else lp_197_28 769 lo hi n (x + 1) (mset (mset e 769 14 (e 769 14)) 769 10 (e 769 10 + 1)) := by
        show st_197_28 769 lo hi _ x e = _
        unfold st_197_28
        rw [if_neg (by omega), show (769 : Int) + 7 = 776 by decide]
      have go : ∀ v, (x + 1 ≤ 5 → v = dv b a (x + 1).toNat) → ∃ z, RU isDi b L (a + x) z ∧ NumR b L lo hi a z e (lp_197_28 769 lo hi n (x + 1) (mset (mset e 769 14 v) 769 10 (e 769 10 + 1))) := fun v hv' => by
        have e10 : mset (mset e 769 14 v) 769 10 (e 769 10 + 1) 769 10 = e 769 10 + 1 := ms_e rfl rfl
        obtain ⟨z, q1, q2, q3⟩ := ih (x + 1) (mset (mset e 769 14 v) 769 10 (e 769 10 + 1)) (h.fr (by rw [ms_i (by decide), ms_i (by decide)]) (by funext j; rw [ms_a (by decide), ms_a (by decide)])) (by omega) a0 (by omega) (by omega) (by omega) (by rw [ms_i (by decide), ms_i (by decide)]; exact h13) (by rw [ms_i (by decide), ms_i (by decide)]; exact h15) (fun y => by rw [ms_i (by decide), ms_e rfl rfl]; exact hv' y)
        refine ⟨z, ⟨by have := q1.1; omega, q1.2.1, fun j u y => ?_, q1.2.2.2⟩, ((FrR.set (by decide)).trans (FrR.set (by decide))).trans q2, q3⟩
        by_cases y2 : j = a + x
        · rw [y2, ← ha]; exact g2
        · exact q1.2.2.1 j (by omega) y
      by_cases c : x < 5
      · rw [if_pos c] at st
        rw [st]
        refine go _ (fun _ => ?_)
        rw [show (x + 1).toNat = x.toNat + 1 by omega, hv (by omega), g3]
        show _ = dv b a x.toNat * 10 + b (a + (x.toNat : Int)) - 48
        rw [show a + (x.toNat : Int) = e 769 10 by omega]
        omega
      · rw [if_neg c] at st
        rw [st]
        exact go _ (fun z => by omega)
theorem n197 {b : Int → Int} {L lo hi : Int} {e : mD} (h : TX b L e) (h0 : 0 ≤ e 769 10) (h1 : e 769 10 ≤ L) (h13 : e 769 13 = 0) : ∃ a z, BL b L (e 769 10) a ∧ RU isDi b L a z ∧ NumR b L lo hi a z e (v_197 769 lo hi e, g_197 769 lo hi e) := by
  obtain ⟨a, e1, p1, p2, p3, p4, p5⟩ := bl189 h h0 h1
  have hr := h.1
  have ha := p2.1
  have hb := p2.2.1
  have ef : f_197 769 lo hi e = lp_197_28 769 lo hi (1000 - mset (mset e1 769 15 a) 769 14 0 769 10 : Int).toNat 0 (mset (mset e1 769 15 a) 769 14 0) := by
    unfold f_197
    rw [if_pos h13, p1, p5]
  have e10 : mset (mset e1 769 15 a) 769 14 0 769 10 = a := by rw [ms_i (by decide), ms_i (by decide)]; exact p5
  obtain ⟨z, q1, q2, q3⟩ := l197 (lo := lo) (hi := hi) (a := a) (1000 - mset (mset e1 769 15 a) 769 14 0 769 10 : Int).toNat 0 (mset (mset e1 769 15 a) 769 14 0) (h.fr (by rw [ms_i (by decide), ms_i (by decide)]; exact p4 9 (by decide)) (by rw [← p3 776 (by decide)]; funext j; rw [ms_a (by decide), ms_a (by decide)])) (by omega) (by omega) (by omega) (by omega) (by omega) (by rw [ms_i (by decide), ms_i (by decide), p4 13 (by decide)]; exact h13) (by rw [ms_i (by decide), ms_e rfl rfl]) (fun _ => by rw [ms_e rfl rfl]; rfl)
  rw [show a + 0 = a by omega] at q1
  have f1 : FrR e e1 := ⟨p3, fun j hj => p4 j (by omega)⟩
  refine ⟨a, z, p2, q1, ?_⟩
  unfold v_197 g_197
  rw [ef]
  exact ⟨(f1.trans ((FrR.set (by decide)).trans (FrR.set (by decide)))).trans q2, q3⟩
/-! ===== both readers side by side: numbers and semicolons ===== -/
def Syn (d e : mD) : Prop := TX (d 579) (d 578 1) e ∧ e 769 13 = 0 ∧ (0 ≤ e 769 10 ∧ e 769 10 ≤ d 578 1) ∧ BL (d 579) (d 578 1) (e 769 10) (d 577 2) ∧ TokAt (d 579) (d 578 1) (d 577 2) (d 577 1) (d 577 3) (d 577 4)
def FrC (d d' : mD) : Prop := ∀ b, ¬ b = 576 → ¬ b = 577 → d' b = d b
def Fail (d' e' : mD) : Prop := ∃ c p, d' 576 2 = c ∧ d' 576 3 = p ∧ BadR c p e'
theorem TokAt.z {b : Int → Int} {L a k z m : Int} (h : TokAt b L a k z m) (h1 : a ≤ L) : a ≤ z ∧ z ≤ L := by
  rcases h with ⟨a1, a2, a3⟩ | ⟨a1, a2, a3, a4⟩ | ⟨a1, a2, a3, a4⟩ | ⟨a1, a2, a3, a4⟩ | ⟨a1, a2, a3, a4, a5, a6⟩
  · omega
  · exact ⟨a4.1, a4.2.1⟩
  · exact ⟨a3.1, a3.2.1⟩
  · omega
  · omega
theorem Syn.next {d d0 e e' : mD} (h : Syn d e) (h0 : FrC d d0) (h3 : d0 577 3 = d 577 3) (hf : FrR e e') (h13 : e' 769 13 = 0) (h10 : e' 769 10 = d 577 3) : Syn (g_52 577 d0) e' ∧ FrC d (g_52 577 d0) := by
  obtain ⟨tx, b13, bt, bl, tk⟩ := h
  have hz := tk.z bl.2.1
  have q1 : d0 579 = d 579 := h0 579 (by decide) (by decide)
  have q2 : d0 578 = d 578 := h0 578 (by decide) (by decide)
  have := bl.1
  obtain ⟨a1, a2, a3⟩ := adv (L := d 578 1) (d := d0) (by rw [q2]) tx.1.2 (by omega) (by omega)
  rw [q1, h3] at a2
  rw [q1] at a3
  have e9 : g_52 577 d0 579 = d 579 := by rw [a1 579 (by decide), q1]
  have e8 : g_52 577 d0 578 = d 578 := by rw [a1 578 (by decide), q2]
  refine ⟨⟨?_, h13, ?_, ?_, ?_⟩, fun b x y => by rw [a1 b y, h0 b x y]⟩
  · rw [e9, e8]
    exact tx.fr (hf.2 9 (by decide)) (hf.1 776 (by decide))
  · rw [e8, h10]
    omega
  · rw [e9, e8, h10]
    exact a2
  · rw [e9, e8]
    exact a3
theorem fail32 {c : Int} {d : mD} : g_32 576 c d 576 2 = c ∧ g_32 576 c d 576 3 = d 577 2 ∧ FrC d (g_32 576 c d) := by
  unfold g_32
  exact ⟨by rw [ms_i (by decide), ms_e rfl rfl], by rw [ms_e rfl rfl]; rfl, fun b x y => by funext j; rw [ms_a x, ms_a x]⟩
theorem RU.nil {P : Int → Prop} {b : Int → Int} {L a z : Int} (h : RU P b L a z) (hn : a < L → ¬ P (b a)) : z = a := by
  obtain ⟨p1, p2, p3, p4⟩ := h
  by_cases c : a < z
  · exact absurd (p3 a (by omega) c) (hn (by omega))
  · omega
theorem takeNum {d e : mD} {lo hi : Int} (h : Syn d e) : FrC d (g_25 576 lo hi d) ∧ FrR e (g_197 769 lo hi e) ∧ ((v_25 576 lo hi d = 1 ∧ Syn (g_25 576 lo hi d) (g_197 769 lo hi e) ∧ g_25 576 lo hi d 576 4 = v_197 769 lo hi e ∧ lo ≤ v_197 769 lo hi e ∧ v_197 769 lo hi e ≤ hi) ∨ (v_25 576 lo hi d = 0 ∧ Fail (g_25 576 lo hi d) (g_197 769 lo hi e) ∧ v_197 769 lo hi e = 0)) := by
  obtain ⟨tx, b13, bt, bl, tk⟩ := id h
  obtain ⟨a, z, n1, n2, nf, nr⟩ := n197 (lo := lo) (hi := hi) tx bt.1 bt.2 b13
  have ea : a = d 577 2 := n1.uni bl
  rw [ea] at n2 nr
  generalize hv : v_197 769 lo hi e = v at *
  generalize hw : g_197 769 lo hi e = e' at *
  have nf : FrR e e' := nf
  have bad : ∀ c, BadR c (d 577 2) e' → v = 0 → v_25 576 lo hi d = 0 → g_25 576 lo hi d = g_32 576 c d → FrC d (g_25 576 lo hi d) ∧ FrR e e' ∧ ((v_25 576 lo hi d = 1 ∧ Syn (g_25 576 lo hi d) e' ∧ g_25 576 lo hi d 576 4 = v ∧ lo ≤ v ∧ v ≤ hi) ∨ (v_25 576 lo hi d = 0 ∧ Fail (g_25 576 lo hi d) e' ∧ v = 0)) := fun c hb hv0 hvc hgc => by
    rw [hgc]
    obtain ⟨f1, f2, f3⟩ := fail32 (c := c) (d := d)
    exact ⟨f3, nf, Or.inr ⟨hvc, ⟨c, d 577 2, f1, f2, hb⟩, hv0⟩⟩
  by_cases k1 : d 577 1 = 1
  · have tk3 : d 577 2 < d 578 1 ∧ isDi (d 579 (d 577 2)) ∧ RU isDi (d 579) (d 578 1) (d 577 2) (d 577 3) ∧ d 577 3 - d 577 2 ≤ 5 ∧ d 577 4 = dv (d 579) (d 577 2) (d 577 3 - d 577 2).toNat := by
      rcases tk with ⟨a1, a2, a3⟩ | ⟨a1, a2, a3, a4⟩ | ⟨a1, a2, a3, a4⟩ | ⟨a1, a2, a3, a4⟩ | ⟨a1, a2, a3, a4, a5, a6⟩
      · omega
      · omega
      · rcases a4 with a4 | a4
        · exact ⟨a1, a2, a3, a4.1, a4.2.2⟩
        · omega
      · omega
      · omega
    obtain ⟨t1, t2, t3, t4, t5⟩ := tk3
    have ez : z = d 577 3 := n2.uni t3
    rw [ez] at nr
    rw [← t5] at nr
    have hz : d 577 2 < d 577 3 := by
      by_cases c : d 577 2 < d 577 3
      · exact c
      · have e3 : d 577 3 = d 577 2 := by have := t3.1; omega
        have := t3.2.2.2
        rw [e3] at this
        exact absurd t2 (this t1)
    have ev : v_25 576 lo hi d = if d 577 4 < lo then 0 else if hi < d 577 4 then 0 else 1 := by
      unfold v_25
      rw [show (576 : Int) + 1 = 577 by decide, if_pos k1]
      rfl
    have eg : g_25 576 lo hi d = if d 577 4 < lo then g_32 576 2 d else if hi < d 577 4 then g_32 576 2 d else g_52 577 (mset d 576 4 (d 577 4)) := by
      unfold g_25
      rw [show (576 : Int) + 1 = 577 by decide, if_pos k1]
    rcases nr with nr | nr | nr | nr
    · omega
    · omega
    · obtain ⟨r1, r2, r3, r4, r5⟩ := nr
      have r4 : v = 0 := r4
      by_cases c1 : d 577 4 < lo
      · rw [if_pos c1] at ev eg
        exact bad 2 r5 r4 ev eg
      · have c2 : hi < d 577 4 := by omega
        rw [if_neg c1, if_pos c2] at ev eg
        exact bad 2 r5 r4 ev eg
    · obtain ⟨r1, r2, r3, r4, r5, r6⟩ := nr
      have r4 : v = d 577 4 := r4
      rw [if_neg (by omega), if_neg (by omega)] at ev eg
      obtain ⟨s1, s2⟩ := h.next (d0 := mset d 576 4 (d 577 4)) (fun b x y => by funext j; exact ms_a x) (ms_a (by decide)) nf r5 r6
      rw [eg, ev]
      refine ⟨s2, nf, Or.inl ⟨rfl, s1, ?_, by omega, by omega⟩⟩
      have := (adv (L := d 578 1) (d := mset d 576 4 (d 577 4)) (by rw [ms_a (by decide)]) tx.1.2 (by rw [ms_a (by decide)]; have := bl.1; omega) (by rw [ms_a (by decide)]; exact t3.2.1)).1 576 (by decide)
      rw [this, ms_e rfl rfl, r4]
  · have ev : v_25 576 lo hi d = 0 := by
      unfold v_25
      rw [show (576 : Int) + 1 = 577 by decide, if_neg k1]
      rfl
    have eg : g_25 576 lo hi d = g_32 576 1 d := by
      unfold g_25
      rw [show (576 : Int) + 1 = 577 by decide, if_neg k1]
    have hz : z = d 577 2 ∨ 5 < z - d 577 2 := by
      rcases tk with ⟨a1, a2, a3⟩ | ⟨a1, a2, a3, a4⟩ | ⟨a1, a2, a3, a4⟩ | ⟨a1, a2, a3, a4⟩ | ⟨a1, a2, a3, a4, a5, a6⟩
      · exact Or.inl (n2.nil (fun y => by omega))
      · exact Or.inl (n2.nil (fun _ y => by unfold isLe at a2; unfold isDi at y; omega))
      · rcases a4 with a4 | a4
        · exact absurd a4.2.1 k1
        · have ez : z = d 577 3 := n2.uni a3
          right
          omega
      · exact Or.inl (n2.nil (fun _ y => by unfold isDi at y; omega))
      · exact Or.inl (n2.nil (fun _ y => a3 y))
    rcases nr with nr | nr | nr | nr
    · exact bad 1 nr.2.2 nr.2.1 ev eg
    · exact bad 1 nr.2.2 nr.2.1 ev eg
    · omega
    · omega
-- a semicolon
theorem takeSemi {d e : mD} (h : Syn d e) : (v_30 576 d = 0 ∨ v_30 576 d = 1) ∧ (v_31 576 d = 0 ∨ v_31 576 d = 1) ∧ FrC d (g_31 576 d) ∧ FrR e (g_195 769 e) ∧ ((v_31 576 d = 1 ∧ Syn (g_31 576 d) (g_195 769 e)) ∨ (v_31 576 d = 0 ∧ Fail (g_31 576 d) (g_195 769 e))) ∧ v_31 576 d = v_30 576 d ∧ (v_30 576 d = 1 → g_30 576 d = d) ∧ (v_30 576 d = 0 → g_31 576 d = g_30 576 d) := by
  obtain ⟨tx, b13, bt, bl, tk⟩ := id h
  obtain ⟨a, e1, p1, p2, p3, p4, p5⟩ := bl189 tx bt.1 bt.2
  have ea : a = d 577 2 := p2.uni bl
  rw [ea] at p5
  have f1 : FrR e e1 := ⟨p3, fun j hj => p4 j (by omega)⟩
  have e13 : e1 769 13 = 0 := by rw [p4 13 (by decide)]; exact b13
  have vr : v_192 769 59 e = if d 577 2 < d 578 1 then (if e 776 (d 577 2) = 59 then 1 else 0) else 0 := by
    unfold v_192
    rw [p1, p5, tx.2.1, show (769 : Int) + 7 = 776 by decide]
  have gr : g_192 769 59 e = e1 := p1
  have er : g_195 769 e = if v_192 769 59 e = 0 then g_188 769 1 (d 577 2) e1 else mset e1 769 10 (d 577 2 + 1) := by
    unfold g_195
    rw [if_pos b13, gr, p5]
  have hb0 := bl.1
  by_cases k2 : d 577 1 = 2
  · have t : d 577 2 < d 578 1 ∧ d 579 (d 577 2) = 59 ∧ d 577 3 = d 577 2 + 1 := by
      rcases tk with ⟨a1, a2, a3⟩ | ⟨a1, a2, a3, a4⟩ | ⟨a1, a2, a3, a4⟩ | ⟨a1, a2, a3, a4⟩ | ⟨a1, a2, a3, a4, a5, a6⟩
      · omega
      · omega
      · omega
      · exact ⟨a1, a2, a4⟩
      · omega
    obtain ⟨t1, t2, t3⟩ := t
    have g := tx.2.2 (d 577 2) (by omega) t1
    rw [if_pos t1, if_pos (by omega)] at vr
    rw [vr, if_neg (by decide)] at er
    have ev : v_30 576 d = 1 := by
      unfold v_30
      rw [show (576 : Int) + 1 = 577 by decide, if_pos k2]
    have eg : g_30 576 d = d := by
      unfold g_30
      rw [show (576 : Int) + 1 = 577 by decide, if_pos k2]
    have ev1 : v_31 576 d = 1 := by
      unfold v_31
      rw [ev, if_neg (by decide)]
    have eg1 : g_31 576 d = g_52 577 d := by
      unfold g_31
      rw [ev, if_neg (by decide), eg]
      rfl
    have fr := f1.trans (FrR.set (e := e1) (j := 10) (v := d 577 2 + 1) (by decide))
    obtain ⟨s1, s2⟩ := h.next (d0 := d) (fun _ _ _ => rfl) rfl fr (by rw [ms_i (by decide)]; exact e13) (by rw [ms_e rfl rfl, t3])
    rw [er, ev, ev1, eg, eg1]
    exact ⟨Or.inr rfl, Or.inr rfl, s2, fr, Or.inl ⟨rfl, s1⟩, rfl, fun _ => rfl, fun z => absurd z (by decide)⟩
  · have t : d 577 2 < d 578 1 → ¬ d 579 (d 577 2) = 59 := by
      rcases tk with ⟨a1, a2, a3⟩ | ⟨a1, a2, a3, a4⟩ | ⟨a1, a2, a3, a4⟩ | ⟨a1, a2, a3, a4⟩ | ⟨a1, a2, a3, a4, a5, a6⟩
      · intro z; omega
      · intro _ z; unfold isLe at a2; omega
      · intro _ z; unfold isDi at a2; omega
      · exact absurd a3 k2
      · intro _; exact a4
    have vr0 : v_192 769 59 e = 0 := by
      rw [vr]
      by_cases c : d 577 2 < d 578 1
      · have g := tx.2.2 (d 577 2) (by omega) c
        have := t c
        rw [if_pos c, if_neg (by omega)]
      · rw [if_neg c]
    rw [if_pos vr0] at er
    have ev : v_30 576 d = 0 := by
      unfold v_30
      rw [show (576 : Int) + 1 = 577 by decide, if_neg k2]
      rfl
    have eg : g_30 576 d = g_32 576 1 d := by
      unfold g_30
      rw [show (576 : Int) + 1 = 577 by decide, if_neg k2]
    have ev1 : v_31 576 d = 0 := by
      unfold v_31
      rw [ev, if_pos rfl]
    have eg1 : g_31 576 d = g_32 576 1 d := by
      unfold g_31
      rw [ev, if_pos rfl, eg]
    obtain ⟨b1, b2⟩ := flt188 (c := 1) (p := d 577 2) e13
    obtain ⟨c1, c2, c3⟩ := fail32 (c := 1) (d := d)
    rw [er, ev, ev1, eg, eg1]
    exact ⟨Or.inl rfl, Or.inl rfl, c3, f1.trans b2, Or.inr ⟨rfl, 1, d 577 2, c1, c2, b1⟩, rfl, fun z => absurd z (by decide), fun _ => rfl⟩
/-! ===== both readers side by side: names ===== -/
theorem nameC {d : mD} {a z : Int} (hz : z - a ≤ 6) (hl : ∀ j, a ≤ j → j < z → isLe (d 579 j)) : ∀ (n : Nat) (c i : Int), ((c = 0 ∧ i = 0) ∨ (okN c ∧ 1 ≤ i)) → nmB i c → nm c = wc (d 579) a i.toNat → a + i ≤ z → a < z → z - (a + i) ≤ (n : Int) → okN (lp_93_20 578 a z n c (a + i) d) ∧ nm (lp_93_20 578 a z n c (a + i) d) = wc (d 579) a (z - a).toNat := by
  have fin : ∀ (r : Int → Int → mD → Int) (c i : Int), ((c = 0 ∧ i = 0) ∨ (okN c ∧ 1 ≤ i)) → nm c = wc (d 579) a i.toNat → a < z → a + i = z → okN (st_93_20 578 a z r c (a + i) d) ∧ nm (st_93_20 578 a z r c (a + i) d) = wc (d 579) a (z - a).toNat := fun r c i hc hw h0 h1 => by
    unfold st_93_20
    rw [if_neg (by omega), show (z - a).toNat = i.toNat by omega]
    refine ⟨?_, hw⟩
    rcases hc with hc | hc
    · omega
    · exact hc.1
  intro n
  induction n with
  | zero =>
    intro c i hc hb hw h1 h0 hn
    exact fin _ c i hc hw h0 (by omega)
  | succ n ih =>
    intro c i hc hb hw h1 h0 hn
    by_cases q : a + i < z
    · have i0 : 0 ≤ i := by
        rcases hc with hc | hc <;> omega
      have le := hl (a + i) (by omega) q
      have hv : ¬ v_91 578 (a + i) d = 0 := by
        rcases v91_i (i := a + i) (d := d) with ⟨v, g⟩ | ⟨v, g⟩
        · exact absurd le g
        · omega
      have hb' : (i = 0 ∧ c < 1) ∨ (i = 1 ∧ c < 32) ∨ (i = 2 ∧ c < 1024) ∨ (i = 3 ∧ c < 32768) ∨ (i = 4 ∧ c < 1048576) ∨ (i = 5 ∧ c < 33554432) := by
        exact hb.lt (by omega)
      unfold isLe at le
      have hc5 := nmB.b5 hb'
      obtain ⟨o1, o2, o3⟩ := okStep (l := d 579 (a + i) - 96) hc hb' (by clear hb hb'; omega)
      clear hb hb'
      have hc0 : 0 ≤ c := by
        rcases hc with hc | hc
        · omega
        · have := hc.1.1
          omega
      have hm : mior (mishl c 5) (d 579 (a + i) - 96) = 32 * c + (d 579 (a + i) - 96) := by
        exact mior5 hc0 hc5 (by clear o3; omega) (by clear o3; omega)
      have e1 : lp_93_20 578 a z (n + 1) c (a + i) d = lp_93_20 578 a z n (32 * c + (d 579 (a + i) - 96)) (a + (i + 1)) d := by
        show st_93_20 578 a z _ c (a + i) d = _
        unfold st_93_20
        rw [if_pos q, if_neg hv, show (578 : Int) + 1 = 579 by decide, hm, show a + i + 1 = a + (i + 1) by omega]
      rw [e1]
      refine ih _ (i + 1) (Or.inr ⟨o1, by clear o3; omega⟩) (nmB.up o3) ?_ (by clear o3; omega) h0 (by clear o3; omega)
      rw [o2, hw, show (i + 1).toNat = i.toNat + 1 by omega]
      show _ = 27 * wc (d 579) a i.toNat + d 579 (a + (i.toNat : Int)) - 96
      rw [show a + (i.toNat : Int) = a + i by omega]
      omega
    · exact fin _ c i hc hw h0 (by omega)
theorem mc0 {x : Int} : 0 < mcmp x 0 ↔ 0 < x := by
  unfold mcmp
  split
  · omega
  · split <;> omega
theorem takeName {d e : mD} (h : Syn d e) : FrC d (g_26 576 d) ∧ FrR e (g_198 769 e) ∧ g_198 769 e 769 16 = d 577 2 ∧ ((okN (v_56 577 d) ∧ v_26 576 d = 1 ∧ Syn (g_26 576 d) (g_198 769 e) ∧ g_26 576 d 576 5 = v_56 577 d ∧ v_198 769 e = nm (v_56 577 d)) ∨ (v_56 577 d = -1 ∧ v_26 576 d = 0 ∧ Fail (g_26 576 d) (g_198 769 e) ∧ v_198 769 e = 0)) := by
  obtain ⟨tx, b13, bt, bl, tk⟩ := id h
  obtain ⟨a, z, e1, p1, p2, p3, p4, p5, p6, p7⟩ := w193 (lim := 6) (by decide) tx bt.1 bt.2
  have ea : a = d 577 2 := p1.uni bl
  rw [ea] at p2 p3 p7
  have f1 : FrR e e1 := ⟨p4, fun j hj => p5 j (by omega) (by omega)⟩
  have e13 : e1 769 13 = 0 := by rw [p5 13 (by decide) (by decide)]; exact b13
  have v3 : v_193 769 6 e = if z - d 577 2 ≤ 6 then wc (d 579) (d 577 2) (z - d 577 2).toNat else -1 := by
    unfold v_193
    rw [p3]
  have g3 : g_193 769 6 e = e1 := by
    unfold g_193
    rw [p3]
  have vr : v_198 769 e = if 0 < v_193 769 6 e then v_193 769 6 e else 0 := by
    unfold v_198
    rw [if_pos b13, g3, p7]
    obtain ⟨b1, -⟩ := flt188 (c := 1) (p := d 577 2) e13
    by_cases c : 0 < v_193 769 6 e
    · rw [if_pos (mc0.2 c), if_pos c, if_pos e13]
    · rw [if_neg (fun y => c (mc0.1 y)), if_neg c, if_neg (by rw [b1.1]; decide)]
  have gr : g_198 769 e = if 0 < v_193 769 6 e then e1 else g_188 769 1 (d 577 2) e1 := by
    unfold g_198
    rw [if_pos b13, g3, p7]
    by_cases c : 0 < v_193 769 6 e
    · rw [if_pos (mc0.2 c), if_pos c]
    · rw [if_neg (fun y => c (mc0.1 y)), if_neg c]
  have b16 : g_188 769 1 (d 577 2) e1 769 16 = d 577 2 := by
    unfold g_188
    rw [if_pos e13, ms_i (by decide), ms_i (by decide), ms_i (by decide), p7]
  have bad : v_56 577 d = -1 → ¬ 0 < v_193 769 6 e → FrC d (g_26 576 d) ∧ FrR e (g_198 769 e) ∧ g_198 769 e 769 16 = d 577 2 ∧ ((okN (v_56 577 d) ∧ v_26 576 d = 1 ∧ Syn (g_26 576 d) (g_198 769 e) ∧ g_26 576 d 576 5 = v_56 577 d ∧ v_198 769 e = nm (v_56 577 d)) ∨ (v_56 577 d = -1 ∧ v_26 576 d = 0 ∧ Fail (g_26 576 d) (g_198 769 e) ∧ v_198 769 e = 0)) := fun hv hn => by
    rw [if_neg hn] at vr gr
    have eg : g_26 576 d = g_32 576 1 (mset d 576 5 (-1)) := by
      unfold g_26
      rw [show (576 : Int) + 1 = 577 by decide, hv, if_pos rfl]
    have ev : v_26 576 d = 0 := by
      unfold v_26
      rw [show (576 : Int) + 1 = 577 by decide, hv, if_pos rfl]
      rfl
    obtain ⟨c1, c2, c3⟩ := fail32 (c := 1) (d := mset d 576 5 (-1))
    rw [ms_a (by decide)] at c2
    obtain ⟨b1, b2⟩ := flt188 (c := 1) (p := d 577 2) e13
    rw [eg, gr]
    exact ⟨fun b x y => by rw [c3 b x y]; funext j; exact ms_a x, f1.trans b2, b16, Or.inr ⟨hv, ev, ⟨1, d 577 2, c1, c2, b1⟩, vr⟩⟩
  by_cases k0 : d 577 1 = 0
  · have t : d 577 2 < d 578 1 ∧ isLe (d 579 (d 577 2)) ∧ RU isLe (d 579) (d 578 1) (d 577 2) (d 577 3) := by
      rcases tk with ⟨a1, a2, a3⟩ | ⟨a1, a2, a3, a4⟩ | ⟨a1, a2, a3, a4⟩ | ⟨a1, a2, a3, a4⟩ | ⟨a1, a2, a3, a4, a5, a6⟩
      · omega
      · exact ⟨a1, a2, a4⟩
      · omega
      · omega
      · omega
    obtain ⟨t1, t2, t3⟩ := t
    have ez : z = d 577 3 := p2.uni t3
    rw [ez] at v3 p6
    have hz : d 577 2 < d 577 3 := by
      by_cases c : d 577 2 < d 577 3
      · exact c
      · have e3 : d 577 3 = d 577 2 := by have := t3.1; omega
        have := t3.2.2.2
        rw [e3] at this
        exact absurd t2 (this t1)
    have v56 : v_56 577 d = if 6 < d 577 3 - d 577 2 then -1 else lp_93_20 578 (d 577 2) (d 577 3) (d 577 3 - d 577 2 : Int).toNat 0 (d 577 2) d := by
      unfold v_56 v_93
      rw [if_pos k0, if_pos hz]
      rfl
    by_cases c6 : 6 < d 577 3 - d 577 2
    · rw [if_pos c6] at v56
      exact bad v56 (by rw [v3, if_neg (by omega)]; decide)
    · rw [if_neg c6] at v56
      rw [if_pos (by omega)] at v3
      obtain ⟨n1, n2⟩ := nameC (d := d) (a := d 577 2) (z := d 577 3) (by omega) t3.2.2.1 (d 577 3 - d 577 2 : Int).toNat 0 0 (Or.inl ⟨rfl, rfl⟩) (Or.inl ⟨rfl, by decide⟩) (by rw [nm_zero]; rfl) (by omega) hz (by omega)
      rw [show d 577 2 + 0 = d 577 2 by omega, ← v56] at n1 n2
      have np := nm_pos n1
      rw [← n2] at v3
      rw [v3, if_pos np] at vr gr
      have c0 := n1.1
      have hne : ¬ v_56 577 d = -1 := by omega
      have eg : g_26 576 d = g_52 577 (mset d 576 5 (v_56 577 d)) := by
        unfold g_26
        rw [show (576 : Int) + 1 = 577 by decide, if_neg hne]
      have ev : v_26 576 d = 1 := by
        unfold v_26
        rw [show (576 : Int) + 1 = 577 by decide, if_neg hne]
      obtain ⟨s1, s2⟩ := h.next (d0 := mset d 576 5 (v_56 577 d)) (fun b x y => by funext j; exact ms_a x) (ms_a (by decide)) f1 e13 p6
      have e5 := (adv (L := d 578 1) (d := mset d 576 5 (v_56 577 d)) (by rw [ms_a (by decide)]) tx.1.2 (by rw [ms_a (by decide)]; have := bl.1; omega) (by rw [ms_a (by decide)]; exact t3.2.1)).1 576 (by decide)
      rw [eg, gr]
      exact ⟨s2, f1, p7, Or.inl ⟨n1, ev, s1, by rw [e5, ms_e rfl rfl], vr⟩⟩
  · have v56 : v_56 577 d = -1 := by
      unfold v_56
      rw [if_neg k0]
    have ez : z = d 577 2 := by
      rcases tk with ⟨a1, a2, a3⟩ | ⟨a1, a2, a3, a4⟩ | ⟨a1, a2, a3, a4⟩ | ⟨a1, a2, a3, a4⟩ | ⟨a1, a2, a3, a4, a5, a6⟩
      · exact p2.nil (fun y => by omega)
      · exact absurd a3 k0
      · exact p2.nil (fun _ y => by unfold isLe at y; unfold isDi at a2; omega)
      · exact p2.nil (fun _ y => by unfold isLe at y; omega)
      · exact p2.nil (fun _ y => a2 y)
    refine bad v56 ?_
    rw [v3, ez, if_pos (by omega), show (d 577 2 - d 577 2).toNat = 0 by omega]
    show ¬ (0 : Int) < 0
    decide
/-! ===== both readers side by side: words ===== -/
theorem wc_nn {b : Int → Int} {a : Int} : ∀ n : Nat, (∀ i : Int, 0 ≤ i → i < (n : Int) → isLe (b (a + i))) → 0 ≤ wc b a n ∧ (0 < n → 0 < wc b a n) := by
  intro n
  induction n with
  | zero => intro _; exact ⟨by show (0 : Int) ≤ 0; decide, fun z => absurd z (by omega)⟩
  | succ n ih =>
    intro h
    have h1 := (ih (fun i x y => h i x (by omega))).1
    have h2 := h n (by omega) (by omega)
    unfold isLe at h2
    have e : wc b a (n + 1) = 27 * wc b a n + b (a + n) - 96 := rfl
    rw [e]
    exact ⟨by omega, fun _ => by omega⟩
theorem wc_inj {f g : Int → Int} {a c : Int} : ∀ n m : Nat, (∀ i : Int, 0 ≤ i → i < (n : Int) → isLe (f (a + i))) → (∀ i : Int, 0 ≤ i → i < (m : Int) → isLe (g (c + i))) → wc f a n = wc g c m → n = m ∧ ∀ i : Int, 0 ≤ i → i < (n : Int) → f (a + i) = g (c + i) := by
  intro n
  induction n with
  | zero =>
    intro m hf hg h
    have h : 0 = wc g c m := h
    have := (wc_nn m hg).2
    exact ⟨by omega, fun i x y => by omega⟩
  | succ n ih =>
    intro m hf hg h
    cases m with
    | zero =>
      have := (wc_nn (n + 1) hf).2 (by omega)
      have h : wc f a (n + 1) = 0 := h
      omega
    | succ m =>
      have h1 := hf n (by omega) (by omega)
      have h2 := hg m (by omega) (by omega)
      unfold isLe at h1 h2
      have h : 27 * wc f a n + f (a + n) - 96 = 27 * wc g c m + g (c + m) - 96 := h
      obtain ⟨q1, q2⟩ := ih m (fun i x y => hf i x (by omega)) (fun i x y => hg i x (by omega)) (by omega)
      refine ⟨by omega, fun i x y => ?_⟩
      by_cases z : i = n
      · rw [z]
        subst q1
        omega
      · exact q2 i x (by omega)
def wordOK (w code : Int) : Prop := wc (fun i => tsc w i) 0 (tsl w).toNat = code ∧ (1 ≤ tsl w ∧ tsl w ≤ 8) ∧ ∀ i : Int, 0 ≤ i → i < tsl w → isLe (tsc w i)
theorem mcz {x y : Int} : mcmp x y = 0 ↔ x = y := by
  unfold mcmp
  split
  · omega
  · split <;> omega
theorem BL.self {b : Int → Int} {L i a : Int} (h : BL b L i a) : BL b L a a := ⟨by omega, h.2.1, fun j x y => by omega, h.2.2.2⟩
theorem isWord {d e : mD} {w code : Int} (h : Syn d e) (hw : wordOK w code) : FrR e (g_194 769 code e) ∧ ((v_55 577 w d = 1 ∧ v_194 769 code e = 1 ∧ Syn (g_52 577 d) (g_194 769 code e) ∧ FrC d (g_52 577 d)) ∨ (v_55 577 w d = 0 ∧ v_194 769 code e = 0 ∧ Syn d (g_194 769 code e))) := by
  obtain ⟨tx, b13, bt, bl, tk⟩ := id h
  obtain ⟨hw1, hw2, hw3⟩ := hw
  obtain ⟨a0, e0, o1, o2, o3, o4, o5⟩ := bl189 tx bt.1 bt.2
  have ea0 : a0 = d 577 2 := o2.uni bl
  rw [ea0] at o5
  have f0 : FrR e e0 := ⟨o3, fun j hj => o4 j (by omega)⟩
  have e013 : e0 769 13 = 0 := by rw [o4 13 (by decide)]; exact b13
  have tx0 : TX (d 579) (d 578 1) e0 := tx.fr (o4 9 (by decide)) (o3 776 (by decide))
  have b0 := bl.1
  obtain ⟨a, z, e1, p1, p2, p3, p4, p5, p6, p7⟩ := w193 (lim := 8) (by decide) tx0 (by omega) (by have := bl.2.1; omega)
  rw [o5] at p1
  have ea : a = d 577 2 := p1.uni bl.self
  rw [ea] at p2 p3
  have f1 : FrR e0 e1 := ⟨p4, fun j hj => p5 j (by omega) (by omega)⟩
  have e13 : e1 769 13 = 0 := by rw [p5 13 (by decide) (by decide)]; exact e013
  have v3 : v_193 769 8 e0 = if z - d 577 2 ≤ 8 then wc (d 579) (d 577 2) (z - d 577 2).toNat else -1 := by
    unfold v_193
    rw [p3]
  have g3 : g_193 769 8 e0 = e1 := by
    unfold g_193
    rw [p3]
  have vr : v_194 769 code e = if v_193 769 8 e0 = code then 1 else 0 := by
    unfold v_194
    rw [o1, if_pos e013]
    by_cases c : v_193 769 8 e0 = code
    · rw [if_pos (mcz.2 c), if_pos c]
    · rw [if_neg (fun y => c (mcz.1 y)), if_neg c]
  have gr : g_194 769 code e = if v_193 769 8 e0 = code then e1 else mset e1 769 10 (d 577 2) := by
    unfold g_194
    rw [o1, if_pos e013, g3, o5]
    by_cases c : v_193 769 8 e0 = code
    · rw [if_pos (mcz.2 c), if_pos c]
    · rw [if_neg (fun y => c (mcz.1 y)), if_neg c]
  have lw : ∀ i : Int, 0 ≤ i → i < ((tsl w).toNat : Int) → isLe ((fun i => tsc w i) (0 + i)) := fun i x y => by
    show isLe (tsc w (0 + i))
    rw [Int.zero_add]
    exact hw3 i x (by omega)
  have cpos : 0 < code := by
    rw [← hw1]
    exact (wc_nn _ lw).2 (by omega)
  have ls : ∀ i : Int, 0 ≤ i → i < ((z - d 577 2).toNat : Int) → isLe (d 579 (d 577 2 + i)) := fun i x y => p2.2.2.1 _ (by omega) (by omega)
  have hm : v_193 769 8 e0 = code ↔ (z - d 577 2 = tsl w ∧ ∀ i, 0 ≤ i → i < tsl w → d 579 (d 577 2 + i) = tsc w i) := by
    rw [v3]
    constructor
    · intro y
      by_cases c : z - d 577 2 ≤ 8
      · rw [if_pos c, ← hw1] at y
        obtain ⟨q1, q2⟩ := wc_inj (z - d 577 2).toNat (tsl w).toNat ls lw y
        have := p2.1
        refine ⟨by omega, fun i x u => ?_⟩
        have := q2 i x (by omega)
        rw [Int.zero_add] at this
        exact this
      · rw [if_neg c] at y
        omega
    · rintro ⟨y1, y2⟩
      rw [if_pos (by omega), ← hw1, y1]
      have ext : ∀ n : Nat, (n : Int) ≤ tsl w → wc (d 579) (d 577 2) n = wc (fun i => tsc w i) 0 n := by
        intro n
        induction n with
        | zero => intro _; rfl
        | succ n ih =>
          intro hn
          show 27 * wc (d 579) (d 577 2) n + d 579 (d 577 2 + n) - 96 = 27 * wc (fun i => tsc w i) 0 n + tsc w (0 + n) - 96
          rw [ih (by omega), y2 n (by omega) (by omega), Int.zero_add]
      exact ext _ (by omega)
  by_cases c : v_193 769 8 e0 = code
  · obtain ⟨m1, m2⟩ := hm.1 c
    rw [if_pos c] at vr gr
    have k : d 577 1 = 0 ∧ RU isLe (d 579) (d 578 1) (d 577 2) (d 577 3) := by
      have l0 := m2 0 (by decide) (by omega)
      have ll := p2.2.2.1 (d 577 2) (by omega) (by omega)
      have zz := p2.2.1
      rcases tk with ⟨a1, a2, a3⟩ | ⟨a1, a2, a3, a4⟩ | ⟨a1, a2, a3, a4⟩ | ⟨a1, a2, a3, a4⟩ | ⟨a1, a2, a3, a4, a5, a6⟩
      · omega
      · exact ⟨a3, a4⟩
      · unfold isLe at ll
        unfold isDi at a2
        omega
      · unfold isLe at ll
        omega
      · exact absurd ll a2
    have ez : z = d 577 3 := p2.uni k.2
    have v5 : v_55 577 w d = 1 := by
      unfold v_55
      rw [if_pos k.1, if_pos (by omega), if_pos]
      rw [List.all_eq_true]
      intro i hi
      rw [List.mem_range] at hi
      exact decide_eq_true (m2 i (by omega) (by omega))
    obtain ⟨s1, s2⟩ := h.next (d0 := d) (fun _ _ _ => rfl) rfl (f0.trans f1) e13 (by rw [p6, ez])
    rw [gr]
    exact ⟨f0.trans f1, Or.inl ⟨v5, vr, s1, s2⟩⟩
  · rw [if_neg c] at vr gr
    have v5 : v_55 577 w d = 0 := by
      unfold v_55
      by_cases k : d 577 1 = 0
      · rw [if_pos k]
        by_cases k3 : d 577 3 - d 577 2 = tsl w
        · rw [if_pos k3, if_neg]
          intro y
          rw [List.all_eq_true] at y
          refine c (hm.2 ?_)
          have ru : RU isLe (d 579) (d 578 1) (d 577 2) (d 577 3) := by
            rcases tk with ⟨a1, a2, a3⟩ | ⟨a1, a2, a3, a4⟩ | ⟨a1, a2, a3, a4⟩ | ⟨a1, a2, a3, a4⟩ | ⟨a1, a2, a3, a4, a5, a6⟩
            · omega
            · exact a4
            · omega
            · omega
            · omega
          have ez : z = d 577 3 := p2.uni ru
          refine ⟨by omega, fun i x u => ?_⟩
          have := of_decide_eq_true (y i.toNat (List.mem_range.2 (by omega)))
          rw [show ((i.toNat : Nat) : Int) = i by omega] at this
          exact this
        · rw [if_neg k3]
      · rw [if_neg k]
    have fr := (f0.trans f1).trans (FrR.set (e := e1) (j := 10) (v := d 577 2) (by decide))
    rw [gr]
    refine ⟨fr, Or.inr ⟨v5, vr, tx.fr (fr.2 9 (by decide)) (fr.1 776 (by decide)), by rw [ms_i (by decide)]; exact e13, ?_, ?_, tk⟩⟩
    · rw [ms_e rfl rfl]
      exact ⟨by omega, bl.2.1⟩
    · rw [ms_e rfl rfl]
      exact bl.self
/-! ===== both readers side by side: who is meant ===== -/
theorem wordK {w code k : Int} (hk : tsl w = k) (hk2 : 4 ≤ k ∧ k ≤ 7) (hc : wc (fun i => tsc w i) 0 (tsl w).toNat = code) (h0 : 97 ≤ tsc w 0 ∧ tsc w 0 ≤ 122) (h1 : 97 ≤ tsc w 1 ∧ tsc w 1 ≤ 122) (h2 : 97 ≤ tsc w 2 ∧ tsc w 2 ≤ 122) (h3 : 97 ≤ tsc w 3 ∧ tsc w 3 ≤ 122) (h4 : 4 < k → 97 ≤ tsc w 4 ∧ tsc w 4 ≤ 122) (h5 : 5 < k → 97 ≤ tsc w 5 ∧ tsc w 5 ≤ 122) (h6 : 6 < k → 97 ≤ tsc w 6 ∧ tsc w 6 ≤ 122) : wordOK w code := by
  refine ⟨hc, by omega, fun i x y => ?_⟩
  rw [hk] at y
  have : i = 0 ∨ i = 1 ∨ i = 2 ∨ i = 3 ∨ i = 4 ∨ i = 5 ∨ i = 6 := by omega
  rcases this with z | z | z | z | z | z | z
  · rw [z]; exact h0
  · rw [z]; exact h1
  · rw [z]; exact h2
  · rw [z]; exact h3
  · rw [z]; exact h4 (by omega)
  · rw [z]; exact h5 (by omega)
  · rw [z]; exact h6 (by omega)
theorem word0 : wordOK 0 40216062 := wordK (k := 6) (by decide) (by decide) (by decide) (by decide) (by decide) (by decide) (by decide) (fun _ => by decide) (fun _ => by decide) (fun z => absurd z (by decide))
theorem word1 : wordOK 1 218546996 := wordK (k := 6) (by decide) (by decide) (by decide) (by decide) (by decide) (by decide) (by decide) (fun _ => by decide) (fun _ => by decide) (fun z => absurd z (by decide))
theorem word2 : wordOK 2 232608281 := wordK (k := 6) (by decide) (by decide) (by decide) (by decide) (by decide) (by decide) (by decide) (fun _ => by decide) (fun _ => by decide) (fun z => absurd z (by decide))
theorem word3 : wordOK 3 208022 := wordK (k := 4) (by decide) (by decide) (by decide) (by decide) (by decide) (by decide) (by decide) (fun z => absurd z (by decide)) (fun z => absurd z (by decide)) (fun z => absurd z (by decide))
theorem word4 : wordOK 4 316189 := wordK (k := 4) (by decide) (by decide) (by decide) (by decide) (by decide) (by decide) (by decide) (fun z => absurd z (by decide)) (fun z => absurd z (by decide)) (fun z => absurd z (by decide))
theorem word5 : wordOK 5 1831504 := wordK (k := 5) (by decide) (by decide) (by decide) (by decide) (by decide) (by decide) (by decide) (fun _ => by decide) (fun z => absurd z (by decide)) (fun z => absurd z (by decide))
theorem word6 : wordOK 6 9050719969 := wordK (k := 7) (by decide) (by decide) (by decide) (by decide) (by decide) (by decide) (by decide) (fun _ => by decide) (fun _ => by decide) (fun _ => by decide)
theorem Syn.c {d d' e : mD} (h : Syn d e) (e7 : d' 577 = d 577) (e8 : d' 578 = d 578) (e9 : d' 579 = d 579) : Syn d' e := by
  unfold Syn
  rw [e7, e8, e9]
  exact h
theorem g26_6 {d e : mD} (h : Syn d e) (hv : ¬ v_56 577 d = -1) : g_26 576 d 576 6 = d 576 6 := by
  obtain ⟨tx, b13, bt, bl, tk⟩ := h
  have hz := tk.z bl.2.1
  have := bl.1
  unfold g_26
  rw [show (576 : Int) + 1 = 577 by decide, if_neg hv, (adv (L := d 578 1) (d := mset d 576 5 (v_56 577 d)) (by rw [ms_a (by decide)]) tx.1.2 (by rw [ms_a (by decide)]; omega) (by rw [ms_a (by decide)]; exact hz.2)).1 576 (by decide), ms_i (by decide)]
theorem v56_c {d : mD} {v : Int} : v_56 577 (mset d 576 6 v) = v_56 577 d := by
  have st : ∀ (r r' : Int → Int → mD → Int) (a b x y : Int), (∀ x y, r x y (mset d 576 6 v) = r' x y d) → st_93_20 578 a b r x y (mset d 576 6 v) = st_93_20 578 a b r' x y d := fun r r' a b x y hr => by
    unfold st_93_20 v_91
    rw [ms_a (by decide : ¬ (578 : Int) + 1 = 576), hr]
  have lp : ∀ (a b : Int) (n : Nat) (x y : Int), lp_93_20 578 a b n x y (mset d 576 6 v) = lp_93_20 578 a b n x y d := by
    intro a b n
    induction n with
    | zero => intro x y; exact st _ _ a b x y (fun _ _ => rfl)
    | succ n ih => intro x y; exact st _ _ a b x y ih
  unfold v_56 v_93
  rw [ms_a (by decide : ¬ (577 : Int) = 576), ms_a (by decide : ¬ (577 : Int) = 576), ms_a (by decide : ¬ (577 : Int) = 576), show (577 : Int) + 1 = 578 by decide, lp]
-- a person by his name
theorem takePer {d e : mD} {w : Row} (h : Syn d e) (hr : RelP 580 d w) (hw : e 770 = w) (h8 : 0 ≤ w 8 ∧ w 8 ≤ 16) : FrC d (g_27 576 d) ∧ FrR e (g_199 769 0 e) ∧ ((v_27 576 d = 1 ∧ Syn (g_27 576 d) (g_199 769 0 e) ∧ g_27 576 d 576 6 = v_199 769 0 e ∧ 0 ≤ v_199 769 0 e ∧ v_199 769 0 e < w 8) ∨ (v_27 576 d = 0 ∧ Fail (g_27 576 d) (g_199 769 0 e))) := by
  generalize hf : v_48 590 (v_56 577 d) d = f
  have ev : v_27 576 d = if v_56 577 d = -1 then v_26 576 (mset d 576 6 f) else if f = -1 then 0 else v_26 576 (mset d 576 6 f) := by
    unfold v_27
    rw [show (576 : Int) + 1 = 577 by decide, show (576 : Int) + 4 + 10 = 590 by decide, hf, v56_c]
    rfl
  have eg : g_27 576 d = if v_56 577 d = -1 then g_26 576 (mset d 576 6 f) else if f = -1 then g_32 576 4 (mset d 576 6 f) else g_26 576 (mset d 576 6 f) := by
    unfold g_27
    rw [show (576 : Int) + 1 = 577 by decide, show (576 : Int) + 4 + 10 = 590 by decide, hf, v56_c]
  have h6 : Syn (mset d 576 6 f) e := h.c (by funext j; exact ms_a (by decide)) (by funext j; exact ms_a (by decide)) (by funext j; exact ms_a (by decide))
  have c6 : FrC d (mset d 576 6 f) := fun b x y => by funext j; exact ms_a x
  obtain ⟨n1, n2, n3, n4⟩ := takeName h6
  rw [v56_c] at n4
  have s2 : mset d 576 6 f 577 2 = d 577 2 := ms_a (by decide)
  rw [s2] at n3
  have w1 : g_198 769 e 770 = w := by rw [n2.1 770 (by decide)]; exact hw
  have er : v_183 769 (v_198 769 e) (g_198 769 e) = V_183 (v_198 769 e) w := by rw [m_v_183, w1]
  have gr : g_199 769 0 e = if V_183 (v_198 769 e) w = -1 then g_188 769 4 (d 577 2) (g_198 769 e) else g_198 769 e := by
    unfold g_199
    rw [er, n3, if_pos rfl]
  rcases n4 with ⟨o1, o2, o3, o4, o5⟩ | ⟨o1, o2, o3, o4⟩
  · have hne : ¬ v_56 577 d = -1 := by
      have := o1.1
      omega
    have ff : f = V_183 (v_198 769 e) w := by
      rw [← hf, o5]
      exact findP (s := 580) hr o1
    rw [if_neg hne] at ev eg
    by_cases c : f = -1
    · rw [if_pos c] at ev eg
      rw [if_pos (by rw [← ff]; exact c)] at gr
      obtain ⟨b1, b2⟩ := flt188 (c := 4) (p := d 577 2) o3.2.1
      obtain ⟨c1, c2, c3⟩ := fail32 (c := 4) (d := mset d 576 6 f)
      rw [s2] at c2
      rw [eg, gr]
      exact ⟨fun b x y => by rw [c3 b x y, c6 b x y], n2.trans b2, Or.inr ⟨ev, 4, d 577 2, c1, c2, b1⟩⟩
    · rw [if_neg c] at ev eg
      rw [if_neg (by rw [← ff]; exact c)] at gr
      have vr : v_199 769 0 e = f := by
        unfold v_199
        rw [er, ← ff, if_neg c, if_pos rfl, if_pos o3.2.1]
      have rg := V183_rng (m := v_198 769 e) (w := w) h8
      rw [← ff] at rg
      rw [eg, gr, vr]
      exact ⟨fun b x y => by rw [n1 b x y, c6 b x y], n2, Or.inl ⟨by rw [ev]; exact o2, o3, by rw [g26_6 h6 (by rw [v56_c]; exact hne), ms_e rfl rfl], by omega, by omega⟩⟩
  · rw [if_pos o1] at ev eg
    obtain ⟨c, p, q1, q2, q3⟩ := o3
    have stay : ∀ x, g_188 769 4 x (g_198 769 e) = g_198 769 e := fun x => by
      unfold g_188
      rw [if_neg (by rw [q3.1]; decide)]
    have gr2 : g_199 769 0 e = g_198 769 e := by
      rw [gr, stay]
      split <;> rfl
    rw [eg, gr2]
    exact ⟨fun b x y => by rw [n1 b x y, c6 b x y], n2, Or.inr ⟨by rw [ev]; exact o2, c, p, q1, q2, q3⟩⟩
