/-! ===== tokens are made: the class's makeTokens and the reference's makes ===== -/
theorem lp216 {p h : Int} : ∀ (n : Nat) (k : Int) (w : Row), 0 ≤ k → w 10 - k ≤ (n : Int) → (LP_216_2 p h n k w = 0 ∨ LP_216_2 p h n k w = 1) ∧ (LP_216_2 p h n k w = 0 ↔ ¬ ∃ j, k ≤ j ∧ j < w 10 ∧ w (1916 + 5 * j + 2) = h ∧ perO w j = p) := by
  intro n
  induction n with
  | zero =>
    intro k w h0 hn
    have e : LP_216_2 p h 0 k w = 0 := by
      show ST_216_2 p h _ k w = 0
      unfold ST_216_2
      rw [if_neg (by omega)]
    rw [e]
    exact ⟨Or.inl rfl, ⟨fun _ ⟨j, a, b, _⟩ => by omega, fun _ => rfl⟩⟩
  | succ n ih =>
    intro k w h0 hn
    have i := ih (k + 1) w (by omega) (by omega)
    by_cases c1 : k < w 10
    · by_cases c2 : w (1916 + 5 * k + 2) = h
      · by_cases c3 : perO w k = p
        · have e : LP_216_2 p h (n + 1) k w = 1 := by
            show ST_216_2 p h _ k w = 1
            unfold ST_216_2
            rw [if_pos c1, if_pos c2, if_pos (show V_215 k w = p from c3)]
          rw [e]
          exact ⟨Or.inr rfl, ⟨fun z => by omega, fun z => absurd ⟨k, by omega, c1, c2, c3⟩ z⟩⟩
        · have e : LP_216_2 p h (n + 1) k w = LP_216_2 p h n (k + 1) w := by
            show ST_216_2 p h _ k w = _
            unfold ST_216_2
            rw [if_pos c1, if_pos c2, if_neg (show ¬ V_215 k w = p from c3)]
          rw [e]
          refine ⟨i.1, i.2.trans ⟨fun z ⟨j, a, b, c, dd⟩ => z ⟨j, ?_, b, c, dd⟩, fun z ⟨j, a, b, c, dd⟩ => z ⟨j, by omega, b, c, dd⟩⟩⟩
          by_cases hj : j = k
          · rw [hj] at dd; exact absurd dd c3
          · omega
      · have e : LP_216_2 p h (n + 1) k w = LP_216_2 p h n (k + 1) w := by
          show ST_216_2 p h _ k w = _
          unfold ST_216_2
          rw [if_pos c1, if_neg c2]
        rw [e]
        refine ⟨i.1, i.2.trans ⟨fun z ⟨j, a, b, c, dd⟩ => z ⟨j, ?_, b, c, dd⟩, fun z ⟨j, a, b, c, dd⟩ => z ⟨j, by omega, b, c, dd⟩⟩⟩
        by_cases hj : j = k
        · rw [hj] at c; exact absurd c c2
        · omega
    · have e : LP_216_2 p h (n + 1) k w = 0 := by
        show ST_216_2 p h _ k w = 0
        unfold ST_216_2
        rw [if_neg c1]
      rw [e]
      exact ⟨Or.inl rfl, ⟨fun _ ⟨j, a, b, _⟩ => by omega, fun _ => rfl⟩⟩
theorem v216 {p h : Int} {w : Row} (h10 : 0 ≤ w 10 ∧ w 10 ≤ 200) : (V_216 p h w = 0 ∨ V_216 p h w = 1) ∧ (V_216 p h w = 0 ↔ ¬ ∃ j, 0 ≤ j ∧ j < w 10 ∧ w (1916 + 5 * j + 2) = h ∧ perO w j = p) := lp216 (200 - 0 : Int).toNat 0 w (by decide) (by rw [show (((200 - 0 : Int).toNat : Nat) : Int) = 200 by decide]; omega)
theorem lp217 {p : Int} : ∀ (n : Nat) (a k : Int) (w : Row), 0 ≤ k → k ≤ w 10 → w 10 - k ≤ (n : Int) → LP_217_4 p n a k w = a + (csum (fun k => if perO w k = p ∧ w (1916 + 5 * k + 4) / 20 = w 0 / 20 then 1 else 0) (w 10).toNat - csum (fun k => if perO w k = p ∧ w (1916 + 5 * k + 4) / 20 = w 0 / 20 then 1 else 0) k.toNat) := by
  intro n
  induction n with
  | zero =>
    intro a k w h0 hk hn
    have : k = w 10 := by omega
    rw [this]
    show ST_217_4 p _ a (w 10) w = _
    unfold ST_217_4
    rw [if_neg (by omega)]
    omega
  | succ n ih =>
    intro a k w h0 hk hn
    by_cases c1 : k < w 10
    · have i := fun a => ih a (k + 1) w (by omega) (by omega) (by omega)
      rw [csum_s _ h0] at i
      show ST_217_4 p _ a k w = _
      unfold ST_217_4
      rw [if_pos c1]
      by_cases c2 : perO w k = p
      · rw [if_pos (show V_215 k w = p from c2)]
        by_cases c3 : w (1916 + 5 * k + 4) / 20 = w 0 / 20
        · rw [if_pos c3, i, if_pos ⟨c2, c3⟩]
          omega
        · rw [if_neg c3, i, if_neg (fun z => c3 z.2)]
          omega
      · rw [if_neg (show ¬ V_215 k w = p from c2), i, if_neg (fun z => c2 z.1)]
        omega
    · have : k = w 10 := by omega
      rw [this]
      show ST_217_4 p _ a (w 10) w = _
      unfold ST_217_4
      rw [if_neg (by omega)]
      omega
theorem v217 {p : Int} {w : Row} (h10 : 0 ≤ w 10 ∧ w 10 ≤ 200) : V_217 p w = madeR w p := by
  have h := lp217 (p := p) (200 - 0 : Int).toNat 0 0 w (by decide) h10.1 (by rw [show (((200 - 0 : Int).toNat : Nat) : Int) = 200 by decide]; omega)
  unfold V_217 madeR
  rw [h]
  show 0 + (_ - csum _ 0) = _
  simp only [csum]
  omega
theorem g7_ne {x h : Int} {d : mD} {b : Int} (hb : ¬ b = x + 1) : g_7 x h d b = d b := by
  unfold g_7
  split
  · rfl
  · split
    · rfl
    · funext j
      exact ms_a hb
theorem RelH.has {s : Int} {d : mD} {w : Row} (hH : RelH s d w) (h10 : 0 ≤ w 10 ∧ w 10 ≤ 200) {p h : Int} (p0 : 0 ≤ p) (p1 : p < w 8) (h0 : 0 ≤ h) (h1 : h ≤ 999) : v_6 (s + 10 + 6 + (1 + 2 * p)) h d = V_216 p h w := by
  have a := hH p p0 p1 h h0 h1
  obtain ⟨b, c⟩ := v216 (p := p) (h := h) h10
  rw [has_iff h0 h1, show s + 10 + 6 + (1 + 2 * p) + 1 = s + 18 + 2 * p by omega]
  by_cases z : lb (d (s + 18 + 2 * p) (h / 64)) (h % 64).toNat = true
  · rw [if_pos z]
    rcases b with b | b
    · exact absurd (a.mp z) (c.mp b)
    · exact b.symm
  · rw [if_neg z]
    have := c.mpr (fun q => z (a.mpr q))
    exact this.symm
def RelB' (p m s : Int) (d : mD) (w : Row) : Prop := ∀ q, 0 ≤ q → q < w 8 → d (s + 13) q + (if q = p then m else 0) = madeR w q ∧ d (s + 14) q = attR w q ∧ ∀ r, 0 ≤ r → r < 16 → (ib (d (s + 15) q) r.toNat = true ↔ ∃ t, 0 ≤ t ∧ t < w 9 ∧ w (452 + 24 * t + 0) = r ∧ attd w t q)
def TokW (p t h : Int) (w w' : Row) : Prop := w' 10 = w 10 + 1 ∧ w' (1916 + 5 * w 10 + 0) = p ∧ w' (1916 + 5 * w 10 + 1) = t ∧ w' (1916 + 5 * w 10 + 2) = h ∧ w' (1916 + 5 * w 10 + 3) = 0 ∧ w' (1916 + 5 * w 10 + 4) = w 0 ∧ ∀ i, ¬ i = 10 → ¬ (1916 + 5 * w 10 ≤ i ∧ i < 1916 + 5 * w 10 + 5) → w' i = w i
theorem tokW {p t h : Int} {w : Row} (h10 : 0 ≤ w 10 ∧ w 10 ≤ 200) : TokW p t h w (ws (ws (ws (ws (ws (ws w ((1916 + (5 * (w 10))) + 0) p) ((1916 + (5 * (w 10))) + 1) t) ((1916 + (5 * (w 10))) + 2) h) ((1916 + (5 * (w 10))) + 3) 0) ((1916 + (5 * (w 10))) + 4) (w 0)) 10 ((w 10) + 1)) := by
  refine ⟨?_, ?_, ?_, ?_, ?_, ?_, fun i h1 h2 => ?_⟩ <;> simp (disch := omega) only [wse, wsn]
theorem mk1 {s p t h m : Int} {d : mD} {w w' : Row} (hg : GG w) (hr : RelN s d w) (hB : RelB' p m s d w) (ht : 0 ≤ t ∧ t < w 9) (hp : w (452 + 24 * t + 0) = p) (hh : 0 ≤ h ∧ h ≤ 999) (h10 : w 10 < 200) (hv : V_216 p h w = 0) (hS : TokW p t h w w') :
    GG w' ∧ RelN s (g_109 (s + 57) p t h (g_7 (s + 10 + 6 + (1 + 2 * p)) h d)) w' ∧ RelB' p (m + 1) s (g_109 (s + 57) p t h (g_7 (s + 10 + 6 + (1 + 2 * p)) h d)) w' ∧ madeR w' p = madeR w p + 1 := by
  obtain ⟨hN, hO, hQ, hT, hC, hK, hR⟩ := hg
  obtain ⟨n7, n8, n9, n10, n11, n0, n1, n2, n3, n4, n5, n6⟩ := id hN
  obtain ⟨rA, rO, rQ, rP, rT, rC, ⟨k1, k2⟩, rR, rH⟩ := hr
  obtain ⟨s1, s2, s3, s4, s5, s7, s6⟩ := hS
  have gt := hT t ht.1 ht.2
  rw [hp] at gt
  have hno := (v216 (p := p) (h := h) n10).2.mp hv
  have e10 : g_7 (s + 10 + 6 + (1 + 2 * p)) h d (s + 57) 0 = w 10 := by rw [g7_ne (by omega)]; exact k1
  have eg : g_109 (s + 57) p t h (g_7 (s + 10 + 6 + (1 + 2 * p)) h d) = mset (mset (mset (mset (mset (g_7 (s + 10 + 6 + (1 + 2 * p)) h d) (s + 58) (w 10) p) (s + 59) (w 10) t) (s + 60) (w 10) h) (s + 61) (w 10) 0) (s + 57) 0 (w 10 + 1) := by
    unfold g_109
    rw [e10, if_pos (by omega)]
    simp only [Int.add_assoc, Int.reduceAdd]
  generalize hd : g_109 (s + 57) p t h (g_7 (s + 10 + 6 + (1 + 2 * p)) h d) = d' at *
  have fd : ∀ b, ¬ (s + 57 ≤ b ∧ b ≤ s + 61) → ¬ b = s + 18 + 2 * p → d' b = d b := fun b x y => by
    rw [eg]
    funext j
    simp (disch := omega) only [ms_a]
    rw [g7_ne (by omega)]
  have fh : ∀ q h', d' (s + 18 + 2 * q) h' = g_7 (s + 10 + 6 + (1 + 2 * p)) h d (s + 18 + 2 * q) h' ∨ ¬ (0 ≤ q ∧ q < 16) := fun q h' => by
    by_cases c : 0 ≤ q ∧ q < 16
    · refine Or.inl ?_
      rw [eg]
      simp (disch := omega) only [ms_a]
    · exact Or.inr c
  have pO : ∀ k, 0 ≤ k → k < w 10 → perO w' k = perO w k := fun k a b => by
    have g := hK k a b
    unfold perO
    rw [s6 (1916 + 5 * k + 1) (by omega) (by omega), s6 (452 + 24 * w (1916 + 5 * k + 1) + 0) (by omega) (by omega)]
  have pN : perO w' (w 10) = p := by
    unfold perO
    rw [s3, s6 _ (by omega) (by omega), hp]
  have mR : ∀ q, madeR w' q = madeR w q + (if p = q then 1 else 0) := fun q => by
    unfold madeR
    rw [s1, csum_s _ n10.1, pN, s7, s6 0 (by omega) (by omega)]
    rw [csum_congr (f := fun k => if perO w' k = q ∧ w' (1916 + 5 * k + 4) / 20 = w 0 / 20 then 1 else 0) (g := fun k => if perO w k = q ∧ w (1916 + 5 * k + 4) / 20 = w 0 / 20 then 1 else 0) (fun k a b => by
      show (if perO w' k = q ∧ w' (1916 + 5 * k + 4) / 20 = w 0 / 20 then (1 : Int) else 0) = if perO w k = q ∧ w (1916 + 5 * k + 4) / 20 = w 0 / 20 then 1 else 0
      rw [pO k a (by omega), s6 (1916 + 5 * k + 4) (by omega) (by omega)])]
    simp
  refine ⟨⟨?_, hO.k (fun i hi => s6 i (by omega) (by omega)) hN, hQ.k (fun i hi => s6 i (by omega) (by omega)) hN hO, hT.k (fun i hi => s6 i (by omega) (by omega)) hN hO, hC.k (fun i hi => s6 i (by omega) (by omega)) hN, ?_, ?_⟩, ⟨?_, ?_, ?_, ?_, ?_, ?_, ?_, ?_, ?_⟩, ?_, by rw [mR, if_pos rfl]⟩
  · unfold GN
    rw [s1, s6 0 (by omega) (by omega), s6 1 (by omega) (by omega), s6 2 (by omega) (by omega), s6 3 (by omega) (by omega), s6 4 (by omega) (by omega), s6 5 (by omega) (by omega), s6 6 (by omega) (by omega), s6 7 (by omega) (by omega), s6 8 (by omega) (by omega), s6 9 (by omega) (by omega), s6 11 (by omega) (by omega)]
    omega
  · -- tokens
    intro k x y
    rw [s1] at y
    rw [s6 0 (by omega) (by omega), s6 8 (by omega) (by omega), s6 9 (by omega) (by omega)]
    by_cases hk : k = w 10
    · rw [hk, s2, s3, s4, s5, s7, pN]
      refine ⟨by omega, ht, hh, by omega, by omega, fun i a b => ?_⟩
      rw [s6 (1916 + 5 * i + 2) (by omega) (by omega), pO i a b]
      exact fun z => hno ⟨i, a, b, z.1, z.2⟩
    · have g := hK k x (by omega)
      rw [s6 (1916 + 5 * k + 0) (by omega) (by omega), s6 (1916 + 5 * k + 1) (by omega) (by omega), s6 (1916 + 5 * k + 2) (by omega) (by omega), s6 (1916 + 5 * k + 3) (by omega) (by omega), s6 (1916 + 5 * k + 4) (by omega) (by omega), pO k x (by omega)]
      refine ⟨g.1, g.2.1, g.2.2.1, g.2.2.2.1, g.2.2.2.2.1, fun i a b => ?_⟩
      rw [s6 (1916 + 5 * i + 2) (by omega) (by omega), pO i a (by omega)]
      exact g.2.2.2.2.2 i a b
  · refine ⟨?_, fun k x y => ?_⟩
    · rw [s1, csum_s _ n10.1, s5, s6 11 (by omega) (by omega), hR.1]
      rw [csum_congr (f := fun k => if w' (1916 + 5 * k + 3) = 1 then 1 else 0) (g := fun k => if w (1916 + 5 * k + 3) = 1 then 1 else 0) (fun k a b => by
        show (if w' (1916 + 5 * k + 3) = 1 then (1 : Int) else 0) = if w (1916 + 5 * k + 3) = 1 then 1 else 0
        rw [s6 (1916 + 5 * k + 3) (by omega) (by omega)])]
      simp
    · rw [s6 11 (by omega) (by omega)] at y
      have g := hR.2 k x y
      rw [s6 (2916 + k) (by omega) (by omega), s1, s6 (1916 + 5 * w (2916 + k) + 3) (by omega) (by omega)]
      refine ⟨by omega, g.2.1, fun i a b => ?_⟩
      rw [s6 (2916 + i) (by omega) (by omega)]
      exact g.2.2 i a b
  · exact rA.k (fun b x => fd b (by omega) (by omega)) (fun i hi => s6 i (by omega) (by omega))
  · exact rO.k (fun b x y => fd b (by omega) (by omega)) (fun i hi => s6 i (by omega) (by omega)) n7
  · exact rQ.k (fd _ (by omega) (by omega)) (fun i hi => s6 i (by omega) (by omega)) n7 hO
  · exact rP.k (fun b x y => fd b (by omega) (by omega)) (fun i hi => s6 i (by omega) (by omega)) n8
  · exact rT.k (fun b x y => fd b (by omega) (by omega)) (fun i hi => s6 i (by omega) (by omega)) n9
  · exact rC.k (fun b x => fd b (by omega) (by omega)) (fun i hi => s6 i (by omega) (by omega)) n9
  · refine ⟨by rw [eg, s1]; exact ms_e rfl rfl, fun k x y => ?_⟩
    rw [s1] at y
    rw [eg]
    by_cases hk : k = w 10
    · rw [hk, s2, s3, s4, s5]
      simp (disch := omega) only [ms_a, ms_e]
      exact ⟨trivial, trivial, trivial, trivial⟩
    · have g := k2 k x (by omega)
      rw [s6 (1916 + 5 * k + 0) (by omega) (by omega), s6 (1916 + 5 * k + 1) (by omega) (by omega), s6 (1916 + 5 * k + 2) (by omega) (by omega), s6 (1916 + 5 * k + 3) (by omega) (by omega)]
      simp (disch := omega) only [ms_a, ms_i]
      rw [g7_ne (by omega), g7_ne (by omega), g7_ne (by omega), g7_ne (by omega)]
      exact g
  · refine rR.k ?_ (fd _ (by omega) (by omega)) (fun i hi => s6 i (by omega) (by omega)) n11
    rw [eg]
    simp (disch := omega) only [ms_a, ms_i]
    rw [g7_ne (by omega)]
  · intro q x y h' u v
    rw [s6 8 (by omega) (by omega)] at y
    have ga := rH q x y h' u v
    have gw : lb (d' (s + 18 + 2 * q) (h' / 64)) (h' % 64).toNat = true ↔ (q = p ∧ h' = h) ∨ lb (d (s + 18 + 2 * q) (h' / 64)) (h' % 64).toNat = true := by
      rcases fh q (h' / 64) with e | e
      · rw [e]
        by_cases hqp : q = p
        · subst hqp
          have a1 := add_has (d := d) (x := s + 10 + 6 + (1 + 2 * q)) hh.1 hh.2 u v
          rw [has_iff u v, has_iff u v, show s + 10 + 6 + (1 + 2 * q) + 1 = s + 18 + 2 * q by omega] at a1
          by_cases hhh : h' = h
          · rw [if_pos hhh] at a1
            constructor
            · intro _; exact Or.inl ⟨rfl, hhh⟩
            · intro _
              by_cases z : lb (g_7 (s + 10 + 6 + (1 + 2 * q)) h d (s + 18 + 2 * q) (h' / 64)) (h' % 64).toNat = true
              · exact z
              · rw [if_neg z] at a1; omega
          · rw [if_neg hhh] at a1
            constructor
            · intro z
              rw [if_pos z] at a1
              refine Or.inr ?_
              by_cases z2 : lb (d (s + 18 + 2 * q) (h' / 64)) (h' % 64).toNat = true
              · exact z2
              · rw [if_neg z2] at a1; omega
            · rintro (z | z)
              · exact absurd z.2 hhh
              · rw [if_pos z] at a1
                by_cases z2 : lb (g_7 (s + 10 + 6 + (1 + 2 * q)) h d (s + 18 + 2 * q) (h' / 64)) (h' % 64).toNat = true
                · exact z2
                · rw [if_neg z2] at a1; omega
        · rw [g7_ne (by omega)]
          exact ⟨fun z => Or.inr z, fun z => z.elim (fun z => absurd z.1 hqp) id⟩
      · omega
    rw [gw, ga]
    constructor
    · rintro (⟨z1, z2⟩ | ⟨k, z1, z2, z3, z4⟩)
      · exact ⟨w 10, by omega, by omega, by rw [s4, z2], by rw [pN, z1]⟩
      · exact ⟨k, z1, by omega, by rw [s6 _ (by omega) (by omega)]; exact z3, by rw [pO k z1 z2]; exact z4⟩
    · rintro ⟨k, z1, z2, z3, z4⟩
      by_cases hk : k = w 10
      · rw [hk, s4] at z3
        rw [hk, pN] at z4
        exact Or.inl ⟨z4.symm, z3.symm⟩
      · rw [s6 _ (by omega) (by omega)] at z3
        rw [pO k z1 (by omega)] at z4
        exact Or.inr ⟨k, z1, by omega, z3, z4⟩
  · intro q x y
    rw [s6 8 (by omega) (by omega)] at y
    obtain ⟨g1, g2, g3⟩ := hB q x y
    rw [fd (s + 13) (by omega) (by omega), fd (s + 14) (by omega) (by omega), fd (s + 15) (by omega) (by omega), mR]
    refine ⟨?_, ?_, fun r a b => ?_⟩
    · rw [← g1]
      by_cases hq : q = p
      · subst hq
        simp only [if_true]
        omega
      · rw [if_neg hq, if_neg hq, if_neg (fun z => hq z.symm)]
        omega
    · rw [g2]
      unfold attR
      rw [s6 9 (by omega) (by omega)]
      exact csum_congr (fun t a b => by rw [s6 (452 + 24 * t + 8 + q) (by omega) (by omega), s6 0 (by omega) (by omega)])
    · rw [g3 r a b]
      constructor
      · rintro ⟨t, z1, z2, z3, z4⟩
        refine ⟨t, z1, by rw [s6 9 (by omega) (by omega)]; exact z2, by rw [s6 _ (by omega) (by omega)]; exact z3, ?_⟩
        unfold attd at *
        rw [s6 (452 + 24 * t + 8 + q) (by omega) (by omega), s6 0 (by omega) (by omega)]
        exact z4
      · rintro ⟨t, z1, z2, z3, z4⟩
        rw [s6 9 (by omega) (by omega)] at z2
        rw [s6 _ (by omega) (by omega)] at z3
        refine ⟨t, z1, z2, z3, ?_⟩
        unfold attd at *
        rw [s6 (452 + 24 * t + 8 + q) (by omega) (by omega), s6 0 (by omega) (by omega)] at z4
        exact z4
theorem mkIdle {t p y z : Int} : ∀ (n : Nat) (h : Int) (w : Row), w (452 + 24 * t + 3) - h ≤ (n : Int) → ¬ (z < w 5 ∧ w 10 < 200) → LP_218_41 t n p z y h w = (y, w) := by
  intro n
  induction n with
  | zero =>
    intro h w hn hc
    show ST_218_41 t _ p z y h w = _
    unfold ST_218_41
    rw [if_neg (by omega)]
  | succ n ih =>
    intro h w hn hc
    show ST_218_41 t _ p z y h w = _
    unfold ST_218_41
    by_cases c1 : h < w (452 + 24 * t + 3)
    · rw [if_pos c1]
      by_cases c2 : z < w 5
      · rw [if_pos c2, if_neg (fun z2 => hc ⟨c2, z2⟩)]
        exact ih (h + 1) w (by omega) hc
      · rw [if_neg c2]
        exact ih (h + 1) w (by omega) hc
    · rw [if_neg c1]
theorem RelB'.fin {p m s : Int} {d : mD} {w : Row} (h : RelB' p m s d w) : RelB s (mset d (s + 10 + 3) p (d (s + 10 + 3) p + m)) w := by
  intro q x y
  obtain ⟨g1, g2, g3⟩ := h q x y
  rw [show s + 10 + 3 = s + 13 by omega]
  by_cases hq : q = p
  · subst hq
    rw [if_pos rfl] at g1
    simp (disch := omega) only [ms_a, ms_e]
    exact ⟨g1, g2, g3⟩
  · rw [if_neg hq, Int.add_zero] at g1
    simp (disch := omega) only [ms_a, ms_i]
    exact ⟨g1, g2, g3⟩
theorem RelN.made {p v s : Int} {d : mD} {w : Row} (hg : GG w) (h : RelN s d w) : RelN s (mset d (s + 10 + 3) p v) w := by
  obtain ⟨hN, hO, hQ, hT, hC, hK, hR⟩ := hg
  obtain ⟨n7, n8, n9, n10, n11, n0, n1, n2, n3, n4, n5, n6⟩ := id hN
  obtain ⟨rA, rO, rQ, rP, rT, rC, rK, rR, rH⟩ := h
  have fd : ∀ b, ¬ b = s + 13 → mset d (s + 10 + 3) p v b = d b := fun b x => by
    funext j
    exact ms_a (by omega)
  exact ⟨rA.k (fun b x => fd b (by omega)) (fun _ _ => rfl), rO.k (fun b x y => fd b (by omega)) (fun _ _ => rfl) n7, rQ.k (fd _ (by omega)) (fun _ _ => rfl) n7 hO, rP.k (fun b x y => fd b (by omega)) (fun _ _ => rfl) n8, rT.k (fun b x y => fd b (by omega)) (fun _ _ => rfl) n9, rC.k (fun b x => fd b (by omega)) (fun _ _ => rfl) n9, rK.k (by rw [fd _ (by omega)]) (fun b x y => fd b (by omega)) (fun _ _ => rfl) n10, rR.k (by rw [fd _ (by omega)]) (fd _ (by omega)) (fun _ _ => rfl) n11, rH.k (fun b x y => fd b (by omega)) (fun _ _ => rfl) n8 n9 n10 hK.of⟩
theorem mkLoop {s t p en room : Int} : ∀ (nc nr : Nat) (m y h : Int) (d : mD) (w : Row), GG w → RelN s d w → RelB' p m s d w → 0 ≤ t ∧ t < w 9 → w (452 + 24 * t + 0) = p → w (452 + 24 * t + 3) = en → en ≤ 999 → 0 ≤ h → room = mmin (w 5 - (madeR w p - m)) (200 - (w 10 - m)) → en - h ≤ (nc : Int) → en - h ≤ (nr : Int) →
    (lp_81_48 s t nc p en room m h d).1 - m = (LP_218_41 t nr p (madeR w p) y h w).1 - y ∧ GG (LP_218_41 t nr p (madeR w p) y h w).2 ∧ RelN s (lp_81_48 s t nc p en room m h d).2 (LP_218_41 t nr p (madeR w p) y h w).2 ∧ RelB s (lp_81_48 s t nc p en room m h d).2 (LP_218_41 t nr p (madeR w p) y h w).2 ∧ ∀ i, ¬ i = 10 → ¬ (1916 ≤ i ∧ i < 2916) → (LP_218_41 t nr p (madeR w p) y h w).2 i = w i := by
  intro nc
  induction nc with
  | zero =>
    intro nr m y h d w hg hr hB ht hp he h9 h0 hm h1 h2
    have e : lp_81_48 s t 0 p en room m h d = (m, mset d (s + 10 + 3) p (d (s + 10 + 3) p + m)) := by
      show st_81_48 s t _ p en room m h d = _
      unfold st_81_48
      rw [if_neg (by omega)]
    have e2 : LP_218_41 t nr p (madeR w p) y h w = (y, w) := by
      cases nr with
      | zero =>
        show ST_218_41 t _ p (madeR w p) y h w = _
        unfold ST_218_41
        rw [if_neg (by omega)]
      | succ nr =>
        show ST_218_41 t _ p (madeR w p) y h w = _
        unfold ST_218_41
        rw [if_neg (by omega)]
    rw [e, e2]
    exact ⟨by omega, hg, hr.made hg, hB.fin, fun _ _ _ => rfl⟩
  | succ nc ih =>
    intro nr m y h d w hg hr hB ht hp he h9 h0 hm h1 h2
    have n10 := hg.1.2.2.2.1
    have n9 := hg.1.2.2.1
    have n8 := hg.1.2.1
    have gt := hg.2.2.2.1 t ht.1 ht.2
    rw [hp] at gt
    have hmn := mmin_r (w 5 - (madeR w p - m)) (200 - (w 10 - m))
    by_cases c1 : h < en
    · cases nr with
      | zero => omega
      | succ nr =>
        by_cases c2 : m < room
        · have hv := hr.2.2.2.2.2.2.2.2.has n10 gt.1.1 gt.1.2 h0 (by omega : h ≤ 999)
          by_cases c3 : V_216 p h w = 0
          · have hS := tokW (p := p) (t := t) (h := h) n10
            have e2 : LP_218_41 t (nr + 1) p (madeR w p) y h w = LP_218_41 t nr p (madeR w p + 1) (y + 1) (h + 1) (ws (ws (ws (ws (ws (ws w ((1916 + (5 * (w 10))) + 0) p) ((1916 + (5 * (w 10))) + 1) t) ((1916 + (5 * (w 10))) + 2) h) ((1916 + (5 * (w 10))) + 3) 0) ((1916 + (5 * (w 10))) + 4) (w 0)) 10 ((w 10) + 1)) := by
              show ST_218_41 t _ p (madeR w p) y h w = _
              unfold ST_218_41
              rw [if_pos (by omega), if_pos (by omega), if_pos (by omega), if_pos c3]
            have e : lp_81_48 s t (nc + 1) p en room m h d = lp_81_48 s t nc p en room (m + 1) (h + 1) (g_109 (s + 57) p t h (g_7 (s + 10 + 6 + (1 + 2 * p)) h d)) := by
              show st_81_48 s t _ p en room m h d = _
              unfold st_81_48
              rw [if_pos c1, if_pos c2, if_pos (by rw [hv]; exact c3)]
            rw [e, e2]
            generalize (ws (ws (ws (ws (ws (ws w ((1916 + (5 * (w 10))) + 0) p) ((1916 + (5 * (w 10))) + 1) t) ((1916 + (5 * (w 10))) + 2) h) ((1916 + (5 * (w 10))) + 3) 0) ((1916 + (5 * (w 10))) + 4) (w 0)) 10 ((w 10) + 1)) = w' at *
            obtain ⟨g', r', b', mm⟩ := mk1 hg hr hB ht hp ⟨h0, by omega⟩ (by omega) c3 hS
            obtain ⟨s1, s2, s3, s4, s5, s7, s6⟩ := hS
            obtain ⟨j1, j2, j3, j4, j5⟩ := ih nr (m + 1) (y + 1) (h + 1) _ w' g' r' b' (by rw [s6 9 (by omega) (by omega)]; exact ht) (by rw [s6 _ (by omega) (by omega)]; exact hp) (by rw [s6 _ (by omega) (by omega)]; exact he) h9 (by omega) (by rw [s6 5 (by omega) (by omega), mm, s1, hm]; congr 1 <;> omega) (by omega) (by omega)
            rw [mm] at j1 j2 j3 j4 j5
            exact ⟨by omega, j2, j3, j4, fun i a b => by rw [j5 i a b, s6 i a (by omega)]⟩
          · have e2 : LP_218_41 t (nr + 1) p (madeR w p) y h w = LP_218_41 t nr p (madeR w p) y (h + 1) w := by
              show ST_218_41 t _ p (madeR w p) y h w = _
              unfold ST_218_41
              rw [if_pos (by omega), if_pos (by omega), if_pos (by omega), if_neg c3]
            have e : lp_81_48 s t (nc + 1) p en room m h d = lp_81_48 s t nc p en room m (h + 1) d := by
              show st_81_48 s t _ p en room m h d = _
              unfold st_81_48
              rw [if_pos c1, if_pos c2, if_neg (by rw [hv]; exact c3)]
            rw [e, e2]
            exact ih nr m y (h + 1) d w hg hr hB ht hp he h9 (by omega) hm (by omega) (by omega)
        · have e : lp_81_48 s t (nc + 1) p en room m h d = (m, mset d (s + 10 + 3) p (d (s + 10 + 3) p + m)) := by
            show st_81_48 s t _ p en room m h d = _
            unfold st_81_48
            rw [if_pos c1, if_neg c2]
          rw [e, mkIdle (nr + 1) h w (by omega) (by omega)]
          exact ⟨by omega, hg, hr.made hg, hB.fin, fun _ _ _ => rfl⟩
    · have e : lp_81_48 s t (nc + 1) p en room m h d = (m, mset d (s + 10 + 3) p (d (s + 10 + 3) p + m)) := by
        show st_81_48 s t _ p en room m h d = _
        unfold st_81_48
        rw [if_neg c1]
      have e2 : LP_218_41 t nr p (madeR w p) y h w = (y, w) := by
        cases nr with
        | zero =>
          show ST_218_41 t _ p (madeR w p) y h w = _
          unfold ST_218_41
          rw [if_neg (by omega)]
        | succ nr =>
          show ST_218_41 t _ p (madeR w p) y h w = _
          unfold ST_218_41
          rw [if_neg (by omega)]
      rw [e, e2]
      exact ⟨by omega, hg, hr.made hg, hB.fin, fun _ _ _ => rfl⟩
theorem makes {s t : Int} {d : mD} {w : Row} (hg : GG w) (h : Rel s d w) (ht : 0 ≤ t ∧ t < w 9) (hs : w (452 + 24 * t + 4) = 1) (h9 : w (452 + 24 * t + 3) ≤ 999) :
    v_81 s t d = V_218 t w ∧ GG (W_218 t w) ∧ Rel s (g_81 s t d) (W_218 t w) ∧ ∀ i, ¬ i = 10 → ¬ (1916 ≤ i ∧ i < 2916) → W_218 t w i = w i := by
  obtain ⟨n7, n8, n9, n10, n11, n0, n1, n2, n3, n4, n5, n6⟩ := id hg.1
  obtain ⟨hn, hB⟩ := h.n
  obtain ⟨⟨a1, a2, a3⟩, -, -, -, ⟨t1, t2⟩, -, ⟨k1, -⟩, -, -⟩ := id hn
  have gt := hg.2.2.2.1 t ht.1 ht.2
  have gt2 := t2 t ht.1 ht.2
  have gB := hB _ gt.1.1 gt.1.2
  have hB' : RelB' (w (452 + 24 * t + 0)) 0 s d w := fun q x y => by
    obtain ⟨g1, g2, g3⟩ := hB q x y
    refine ⟨?_, g2, g3⟩
    split <;> omega
  have e3 : d (s + 1) 3 = w 5 := a3 3 (by omega) (by omega)
  have e0 : d (s + 1) 0 = w 2 := a3 0 (by omega) (by omega)
  have e : f_81 s t d = lp_81_48 s t (1300 - (w (452 + 24 * t + 2) + w 2) : Int).toNat (w (452 + 24 * t + 0)) (w (452 + 24 * t + 3)) (mmin (w 5 - (madeR w (w (452 + 24 * t + 0)) - 0)) (200 - (w 10 - 0))) 0 (w (452 + 24 * t + 2) + w 2) d := by
    unfold f_81 v_79
    rw [show s + 49 + 3 = s + 52 by omega, show s + 49 + 1 = s + 50 by omega, show s + 49 + 4 = s + 53 by omega, show s + 10 + 3 = s + 13 by omega, gt2.1, gt2.2.2.1, gt2.2.2.2.1, e0, e3, k1, gB.1]
    rw [Int.sub_zero, Int.sub_zero]
  have e2 : F_218 t w = LP_218_41 t (1301 - (w (452 + 24 * t + 2) + w 2) : Int).toNat (w (452 + 24 * t + 0)) (madeR w (w (452 + 24 * t + 0))) 0 (w (452 + 24 * t + 2) + w 2) w := by
    unfold F_218
    rw [v217 n10]
  obtain ⟨j1, j2, j3, j4, j5⟩ := mkLoop (s := s) (t := t) (p := w (452 + 24 * t + 0)) (en := w (452 + 24 * t + 3)) (room := mmin (w 5 - (madeR w (w (452 + 24 * t + 0)) - 0)) (200 - (w 10 - 0))) (1300 - (w (452 + 24 * t + 2) + w 2) : Int).toNat (1301 - (w (452 + 24 * t + 2) + w 2) : Int).toNat 0 0 (w (452 + 24 * t + 2) + w 2) d w hg hn hB' ht rfl rfl h9 (by omega) rfl (by omega) (by omega)
  unfold v_81 g_81 V_218 W_218
  rw [e, e2]
  exact ⟨by omega, j2, j3.r j4, j5⟩
