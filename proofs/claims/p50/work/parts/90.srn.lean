/-! ===== an office serves ===== -/
theorem serveLoop {s o many : Int} {X : Prop} : ∀ (nc nr : Nat) (i : Int) (d : mD) (w : Row), 0 ≤ i → i ≤ many → GG w → RelN s d w → (X → RelB s d w) → 0 ≤ o ∧ o < w 7 → many = mmin (w (12 + 68 * o + 1)) (i + w (12 + 68 * o + 5)) → many - i ≤ (nc : Int) → 4 - i ≤ (nr : Int) →
    GG (LP_222_7 o nr (12 + 68 * o) i w) ∧ RelN s (lp_69_15 s o nc many i d).2 (LP_222_7 o nr (12 + 68 * o) i w) ∧ (X → RelB s (lp_69_15 s o nc many i d).2 (LP_222_7 o nr (12 + 68 * o) i w)) ∧ (lp_69_15 s o nc many i d).1 = many ∧ (∀ j, j ≤ 11 ∨ (452 ≤ j ∧ j < 1916 ∧ (5 ≤ (j - 452) % 24 ∨ (j - 452) % 24 ≤ 2)) ∨ (420 ≤ j ∧ j < 452) ∨ 1916 ≤ j → LP_222_7 o nr (12 + 68 * o) i w j = w j) ∧ srvN (LP_222_7 o nr (12 + 68 * o) i w) = srvN w + (many - i) := by
  intro nc
  induction nc with
  | zero =>
    intro nr i d w hi him hg h hX ho hm h1 h2
    have go := hg.2.1 o ho.1 ho.2
    have hmn := mmin_r (w (12 + 68 * o + 1)) (i + w (12 + 68 * o + 5))
    have e : lp_69_15 s o 0 many i d = (many, d) := by
      show st_69_15 s o _ many i d = _
      unfold st_69_15
      rw [if_neg (by omega)]
    have e2 : LP_222_7 o nr (12 + 68 * o) i w = w := by
      cases nr with
      | zero =>
        show ST_222_7 o _ (12 + 68 * o) i w = w
        unfold ST_222_7
        split
        · rw [if_neg (by omega)]
        · rfl
      | succ nr =>
        show ST_222_7 o _ (12 + 68 * o) i w = w
        unfold ST_222_7
        split
        · rw [if_neg (by omega)]
        · rfl
    rw [e, e2]
    exact ⟨hg, h, hX, rfl, fun _ _ => rfl, by omega⟩
  | succ nc ih =>
    intro nr i d w hi him hg h hX ho hm h1 h2
    have go := hg.2.1 o ho.1 ho.2
    have n7 := hg.1.1
    have n9 := hg.1.2.2.1
    have hmn := mmin_r (w (12 + 68 * o + 1)) (i + w (12 + 68 * o + 5))
    by_cases hc : i < many
    · cases nr with
      | zero => omega
      | succ nr =>
        have gq := hg.2.2.1 o ho.1 ho.2 0 (by omega) (by omega)
        simp only [Int.add_zero] at gq
        have hS := stepV (o := o) (w := w) (by omega) (by omega) (by omega)
        have e2 : LP_222_7 o (nr + 1) (12 + 68 * o) i w = LP_222_7 o nr (12 + 68 * o) (i + 1) (W_220 o 0 (ws (ws (ws w ((452 + (24 * (w ((12 + (68 * o)) + 7)))) + 4) 1) ((452 + (24 * (w ((12 + (68 * o)) + 7)))) + 3) (w 0)) ((12 + (68 * o)) + 6) ((w ((12 + (68 * o)) + 6)) + 1))) := by
          show ST_222_7 o _ (12 + 68 * o) i w = _
          unfold ST_222_7
          rw [if_pos (by omega), if_pos (by omega)]
        have e : lp_69_15 s o (nc + 1) many i d = lp_69_15 s o nc many (i + 1) (g_41 (s + 2) o 0 (g_97 (s + 49) (v_38 (s + 2) o 0 d) 1 (d s 2) d)) := by
          show st_69_15 s o _ many i d = _
          unfold st_69_15
          rw [if_pos hc]
        rw [e, e2]
        generalize W_220 o 0 (ws (ws (ws w ((452 + (24 * (w ((12 + (68 * o)) + 7)))) + 4) 1) ((452 + (24 * (w ((12 + (68 * o)) + 7)))) + 3) (w 0)) ((12 + (68 * o)) + 6) ((w ((12 + (68 * o)) + 6)) + 1)) = w' at *
        obtain ⟨g', r', x'⟩ := serve1 hg h hX ho (by omega) hS
        have hsn := serve1n hg ho (by omega) hS
        obtain ⟨s1, s2, s3, s4, s5, s6⟩ := hS
        have e7 : w' 7 = w 7 := s6 7 (by omega) (by omega) (by omega) (by omega) (by omega)
        obtain ⟨j1, j2, j3, j4, j5, j6⟩ := ih nr (i + 1) _ w' (by omega) (by omega) g' r' x' (by rw [e7]; exact ho) (by rw [s1, s6 (12 + 68 * o + 1) (by omega) (by omega) (by omega) (by omega) (by omega), hm]; congr 1; omega) (by omega) (by omega)
        exact ⟨j1, j2, j3, j4, fun j hj => by rw [j5 j hj, s6 j (by omega) (by omega) (by omega) (by omega) (by omega)], by rw [j6, hsn]; omega⟩
    · have e : lp_69_15 s o (nc + 1) many i d = (many, d) := by
        show st_69_15 s o _ many i d = _
        unfold st_69_15
        rw [if_neg hc]
      have e2 : LP_222_7 o nr (12 + 68 * o) i w = w := by
        cases nr with
        | zero =>
          show ST_222_7 o _ (12 + 68 * o) i w = w
          unfold ST_222_7
          split
          · rw [if_neg (by omega)]
          · rfl
        | succ nr =>
          show ST_222_7 o _ (12 + 68 * o) i w = w
          unfold ST_222_7
          split
          · rw [if_neg (by omega)]
          · rfl
      rw [e, e2]
      exact ⟨hg, h, hX, rfl, fun _ _ => rfl, by omega⟩
-- what an office does in an hour, in the reference
def hourO (o : Int) (w : Row) : Row := if w (12 + 68 * o + 4) = 0 then w else if w 0 % w (12 + 68 * o + 2) = 0 then W_222 o w else w
theorem serve {s o : Int} {d : mD} {w : Row} {X : Prop} (hg : GG w) (h : RelN s d w) (hX : X → RelB s d w) (ho : 0 ≤ o ∧ o < w 7) :
    GG (hourO o w) ∧ RelN s (g_69 s o d) (hourO o w) ∧ (X → RelB s (g_69 s o d) (hourO o w)) ∧ (∀ j, j ≤ 11 ∨ (452 ≤ j ∧ j < 1916 ∧ (5 ≤ (j - 452) % 24 ∨ (j - 452) % 24 ≤ 2)) ∨ (420 ≤ j ∧ j < 452) ∨ 1916 ≤ j → hourO o w j = w j) ∧ srvN (hourO o w) = srvN w + v_69 s o d := by
  have go := hg.2.1 o ho.1 ho.2
  have n7 := hg.1.1
  have n0 := hg.1.2.2.2.2.2.1
  obtain ⟨⟨a1, a2, a3⟩, ⟨o1, o2⟩, -⟩ := id h
  have g := o2 o ho.1 ho.2
  have e42 : v_42 (s + 2) o (d s 2) d = if w (12 + 68 * o + 4) = 0 then 0 else if w 0 % w (12 + 68 * o + 2) = 0 then mmin (w (12 + 68 * o + 1)) (w (12 + 68 * o + 5)) else 0 := by
    unfold v_42
    rw [show s + 2 + 5 = s + 7 by omega, show s + 2 + 3 = s + 5 by omega, show s + 2 + 2 = s + 4 by omega, show s + 2 + 6 = s + 8 by omega, g.2.1, g.2.2.1, g.2.2.2.2.1, g.2.2.2.2.2, a2]
    have hmx : mmax 1 (w (12 + 68 * o + 2)) = w (12 + 68 * o + 2) := by
      have := mmax_r 1 (w (12 + 68 * o + 2))
      omega
    rw [hmx]
  unfold v_69 g_69 f_69
  rw [e42]
  unfold hourO
  by_cases c1 : w (12 + 68 * o + 4) = 0
  · rw [if_pos c1, if_pos c1]
    have e : lp_69_15 s o ((0 : Int) - 0).toNat 0 0 d = (0, d) := by
      show st_69_15 s o _ 0 0 d = _
      unfold st_69_15
      rw [if_neg (by omega)]
    rw [e]
    exact ⟨hg, h, hX, fun _ _ => rfl, by simp⟩
  · rw [if_neg c1, if_neg c1]
    by_cases c2 : w 0 % w (12 + 68 * o + 2) = 0
    · rw [if_pos c2, if_pos c2]
      have hmn := mmin_r (w (12 + 68 * o + 1)) (w (12 + 68 * o + 5))
      unfold W_222
      obtain ⟨j1, j2, j3, j4, j5, j6⟩ := serveLoop (s := s) (o := o) (many := mmin (w (12 + 68 * o + 1)) (w (12 + 68 * o + 5))) (X := X) (mmin (w (12 + 68 * o + 1)) (w (12 + 68 * o + 5)) - 0 : Int).toNat (4 - 0 : Int).toNat 0 d w (by omega) (by omega) hg h hX ho (by rw [Int.zero_add]) (by omega) (by decide)
      exact ⟨j1, j2, j3, j5, by rw [j6, j4, Int.sub_zero]⟩
    · rw [if_neg c2, if_neg c2]
      have e : lp_69_15 s o ((0 : Int) - 0).toNat 0 0 d = (0, d) := by
        show st_69_15 s o _ 0 0 d = _
        unfold st_69_15
        rw [if_neg (by omega)]
      rw [e]
      exact ⟨hg, h, hX, fun _ _ => rfl, by simp⟩
/-! ===== tokens are made: the class's makeTokens and the reference's makes ===== -/
theorem lp216 {p h : Int} : ∀ (n : Nat) (k : Int) (w : Row), 0 ≤ k → w 10 - k ≤ (n : Int) → (LP_216_2 p h n k w = 0 ∨ LP_216_2 p h n k w = 1) ∧ (LP_216_2 p h n k w = 0 ↔ ¬ ∃ j, k ≤ j ∧ j < w 10 ∧ w (1916 + 5 * j + 2) = h ∧ perO w j = p) := by
  intro n
  induction n with
  | zero =>
    intro k w h0 hn
    have e : LP_216_2 p h 0 k w = 0 := by
      show ST_216_2 p h _ k w = 0
      unfold ST_216_2
      rw [if_neg (by omega)]
    rw [e]
    exact ⟨Or.inl rfl, ⟨fun _ ⟨j, a, b, _⟩ => by omega, fun _ => rfl⟩⟩
  | succ n ih =>
    intro k w h0 hn
    have i := ih (k + 1) w (by omega) (by omega)
    by_cases c1 : k < w 10
    · by_cases c2 : w (1916 + 5 * k + 2) = h
      · by_cases c3 : perO w k = p
        · have e : LP_216_2 p h (n + 1) k w = 1 := by
            show ST_216_2 p h _ k w = 1
            unfold ST_216_2
            rw [if_pos c1, if_pos c2, if_pos (show V_215 k w = p from c3)]
          rw [e]
          exact ⟨Or.inr rfl, ⟨fun z => by omega, fun z => absurd ⟨k, by omega, c1, c2, c3⟩ z⟩⟩
        · have e : LP_216_2 p h (n + 1) k w = LP_216_2 p h n (k + 1) w := by
            show ST_216_2 p h _ k w = _
            unfold ST_216_2
            rw [if_pos c1, if_pos c2, if_neg (show ¬ V_215 k w = p from c3)]
          rw [e]
          refine ⟨i.1, i.2.trans ⟨fun z ⟨j, a, b, c, dd⟩ => z ⟨j, ?_, b, c, dd⟩, fun z ⟨j, a, b, c, dd⟩ => z ⟨j, by omega, b, c, dd⟩⟩⟩
          by_cases hj : j = k
          · rw [hj] at dd; exact absurd dd c3
          · omega
      · have e : LP_216_2 p h (n + 1) k w = LP_216_2 p h n (k + 1) w := by
          show ST_216_2 p h _ k w = _
          unfold ST_216_2
          rw [if_pos c1, if_neg c2]
        rw [e]
        refine ⟨i.1, i.2.trans ⟨fun z ⟨j, a, b, c, dd⟩ => z ⟨j, ?_, b, c, dd⟩, fun z ⟨j, a, b, c, dd⟩ => z ⟨j, by omega, b, c, dd⟩⟩⟩
        by_cases hj : j = k
        · rw [hj] at c; exact absurd c c2
        · omega
    · have e : LP_216_2 p h (n + 1) k w = 0 := by
        show ST_216_2 p h _ k w = 0
        unfold ST_216_2
        rw [if_neg c1]
      rw [e]
      exact ⟨Or.inl rfl, ⟨fun _ ⟨j, a, b, _⟩ => by omega, fun _ => rfl⟩⟩
theorem v216 {p h : Int} {w : Row} (h10 : 0 ≤ w 10 ∧ w 10 ≤ 200) : (V_216 p h w = 0 ∨ V_216 p h w = 1) ∧ (V_216 p h w = 0 ↔ ¬ ∃ j, 0 ≤ j ∧ j < w 10 ∧ w (1916 + 5 * j + 2) = h ∧ perO w j = p) := lp216 (200 - 0 : Int).toNat 0 w (by decide) (by rw [show (((200 - 0 : Int).toNat : Nat) : Int) = 200 by decide]; omega)
theorem lp217 {p : Int} : ∀ (n : Nat) (a k : Int) (w : Row), 0 ≤ k → k ≤ w 10 → w 10 - k ≤ (n : Int) → LP_217_4 p n a k w = a + (csum (fun k => if perO w k = p ∧ w (1916 + 5 * k + 4) / 20 = w 0 / 20 then 1 else 0) (w 10).toNat - csum (fun k => if perO w k = p ∧ w (1916 + 5 * k + 4) / 20 = w 0 / 20 then 1 else 0) k.toNat) := by
  intro n
  induction n with
  | zero =>
    intro a k w h0 hk hn
    have : k = w 10 := by omega
    rw [this]
    show ST_217_4 p _ a (w 10) w = _
    unfold ST_217_4
    rw [if_neg (by omega)]
    omega
  | succ n ih =>
    intro a k w h0 hk hn
    by_cases c1 : k < w 10
    · have i := fun a => ih a (k + 1) w (by omega) (by omega) (by omega)
      rw [csum_s _ h0] at i
      show ST_217_4 p _ a k w = _
      unfold ST_217_4
      rw [if_pos c1]
      by_cases c2 : perO w k = p
      · rw [if_pos (show V_215 k w = p from c2)]
        by_cases c3 : w (1916 + 5 * k + 4) / 20 = w 0 / 20
        · rw [if_pos c3, i, if_pos ⟨c2, c3⟩]
          omega
        · rw [if_neg c3, i, if_neg (fun z => c3 z.2)]
          omega
      · rw [if_neg (show ¬ V_215 k w = p from c2), i, if_neg (fun z => c2 z.1)]
        omega
    · have : k = w 10 := by omega
      rw [this]
      show ST_217_4 p _ a (w 10) w = _
      unfold ST_217_4
      rw [if_neg (by omega)]
      omega
theorem v217 {p : Int} {w : Row} (h10 : 0 ≤ w 10 ∧ w 10 ≤ 200) : V_217 p w = madeR w p := by
  have h := lp217 (p := p) (200 - 0 : Int).toNat 0 0 w (by decide) h10.1 (by rw [show (((200 - 0 : Int).toNat : Nat) : Int) = 200 by decide]; omega)
  unfold V_217 madeR
  rw [h]
  show 0 + (_ - csum _ 0) = _
  simp only [csum]
  omega
theorem g7_ne {x h : Int} {d : mD} {b : Int} (hb : ¬ b = x + 1) : g_7 x h d b = d b := by
  unfold g_7
  split
  · rfl
  · split
    · rfl
    · funext j
      exact ms_a hb
theorem RelH.has {s : Int} {d : mD} {w : Row} (hH : RelH s d w) (h10 : 0 ≤ w 10 ∧ w 10 ≤ 200) {p h : Int} (p0 : 0 ≤ p) (p1 : p < w 8) (h0 : 0 ≤ h) (h1 : h ≤ 999) : v_6 (s + 10 + 6 + (1 + 2 * p)) h d = V_216 p h w := by
  have a := hH p p0 p1 h h0 h1
  obtain ⟨b, c⟩ := v216 (p := p) (h := h) h10
  rw [has_iff h0 h1, show s + 10 + 6 + (1 + 2 * p) + 1 = s + 18 + 2 * p by omega]
  by_cases z : lb (d (s + 18 + 2 * p) (h / 64)) (h % 64).toNat = true
  · rw [if_pos z]
    rcases b with b | b
    · exact absurd (a.mp z) (c.mp b)
    · exact b.symm
  · rw [if_neg z]
    have := c.mpr (fun q => z (a.mpr q))
    exact this.symm
def RelB' (p m s : Int) (d : mD) (w : Row) : Prop := ∀ q, 0 ≤ q → q < w 8 → d (s + 13) q + (if q = p then m else 0) = madeR w q ∧ d (s + 14) q = attR w q ∧ ∀ r, 0 ≤ r → r < 16 → (ib (d (s + 15) q) r.toNat = true ↔ ∃ t, 0 ≤ t ∧ t < w 9 ∧ w (452 + 24 * t + 0) = r ∧ attd w t q)
def TokW (p t h : Int) (w w' : Row) : Prop := w' 10 = w 10 + 1 ∧ w' (1916 + 5 * w 10 + 0) = p ∧ w' (1916 + 5 * w 10 + 1) = t ∧ w' (1916 + 5 * w 10 + 2) = h ∧ w' (1916 + 5 * w 10 + 3) = 0 ∧ w' (1916 + 5 * w 10 + 4) = w 0 ∧ ∀ i, ¬ i = 10 → ¬ (1916 + 5 * w 10 ≤ i ∧ i < 1916 + 5 * w 10 + 5) → w' i = w i
theorem tokW {p t h : Int} {w : Row} (h10 : 0 ≤ w 10 ∧ w 10 ≤ 200) : TokW p t h w (ws (ws (ws (ws (ws (ws w ((1916 + (5 * (w 10))) + 0) p) ((1916 + (5 * (w 10))) + 1) t) ((1916 + (5 * (w 10))) + 2) h) ((1916 + (5 * (w 10))) + 3) 0) ((1916 + (5 * (w 10))) + 4) (w 0)) 10 ((w 10) + 1)) := by
  refine ⟨?_, ?_, ?_, ?_, ?_, ?_, fun i h1 h2 => ?_⟩ <;> simp (disch := omega) only [wse, wsn]
theorem mk1 {s p t h m : Int} {d : mD} {w w' : Row} (hg : GG w) (hr : RelN s d w) (hB : RelB' p m s d w) (ht : 0 ≤ t ∧ t < w 9) (hp : w (452 + 24 * t + 0) = p) (hh : 0 ≤ h ∧ h ≤ 999) (h10 : w 10 < 200) (hv : V_216 p h w = 0) (hS : TokW p t h w w') :
    GG w' ∧ RelN s (g_109 (s + 57) p t h (g_7 (s + 10 + 6 + (1 + 2 * p)) h d)) w' ∧ RelB' p (m + 1) s (g_109 (s + 57) p t h (g_7 (s + 10 + 6 + (1 + 2 * p)) h d)) w' ∧ madeR w' p = madeR w p + 1 := by
  obtain ⟨hN, hO, hQ, hT, hC, hK, hR⟩ := hg
  obtain ⟨n7, n8, n9, n10, n11, n0, n1, n2, n3, n4, n5, n6⟩ := id hN
  obtain ⟨rA, rO, rQ, rP, rT, rC, ⟨k1, k2⟩, rR, rH⟩ := hr
  obtain ⟨s1, s2, s3, s4, s5, s7, s6⟩ := hS
  have gt := hT t ht.1 ht.2
  rw [hp] at gt
  have hno := (v216 (p := p) (h := h) n10).2.mp hv
  have e10 : g_7 (s + 10 + 6 + (1 + 2 * p)) h d (s + 57) 0 = w 10 := by rw [g7_ne (by omega)]; exact k1
  have eg : g_109 (s + 57) p t h (g_7 (s + 10 + 6 + (1 + 2 * p)) h d) = mset (mset (mset (mset (mset (g_7 (s + 10 + 6 + (1 + 2 * p)) h d) (s + 58) (w 10) p) (s + 59) (w 10) t) (s + 60) (w 10) h) (s + 61) (w 10) 0) (s + 57) 0 (w 10 + 1) := by
    unfold g_109
    rw [e10, if_pos (by omega)]
    simp only [Int.add_assoc, Int.reduceAdd]
  generalize hd : g_109 (s + 57) p t h (g_7 (s + 10 + 6 + (1 + 2 * p)) h d) = d' at *
  have fd : ∀ b, ¬ (s + 57 ≤ b ∧ b ≤ s + 61) → ¬ b = s + 18 + 2 * p → d' b = d b := fun b x y => by
    rw [eg]
    funext j
    simp (disch := omega) only [ms_a]
    rw [g7_ne (by omega)]
  have fh : ∀ q h', d' (s + 18 + 2 * q) h' = g_7 (s + 10 + 6 + (1 + 2 * p)) h d (s + 18 + 2 * q) h' ∨ ¬ (0 ≤ q ∧ q < 16) := fun q h' => by
    by_cases c : 0 ≤ q ∧ q < 16
    · refine Or.inl ?_
      rw [eg]
      simp (disch := omega) only [ms_a]
    · exact Or.inr c
  have pO : ∀ k, 0 ≤ k → k < w 10 → perO w' k = perO w k := fun k a b => by
    have g := hK k a b
    unfold perO
    rw [s6 (1916 + 5 * k + 1) (by omega) (by omega), s6 (452 + 24 * w (1916 + 5 * k + 1) + 0) (by omega) (by omega)]
  have pN : perO w' (w 10) = p := by
    unfold perO
    rw [s3, s6 _ (by omega) (by omega), hp]
  have mR : ∀ q, madeR w' q = madeR w q + (if p = q then 1 else 0) := fun q => by
    unfold madeR
    rw [s1, csum_s _ n10.1, pN, s7, s6 0 (by omega) (by omega)]
    rw [csum_congr (f := fun k => if perO w' k = q ∧ w' (1916 + 5 * k + 4) / 20 = w 0 / 20 then 1 else 0) (g := fun k => if perO w k = q ∧ w (1916 + 5 * k + 4) / 20 = w 0 / 20 then 1 else 0) (fun k a b => by
      show (if perO w' k = q ∧ w' (1916 + 5 * k + 4) / 20 = w 0 / 20 then (1 : Int) else 0) = if perO w k = q ∧ w (1916 + 5 * k + 4) / 20 = w 0 / 20 then 1 else 0
      rw [pO k a (by omega), s6 (1916 + 5 * k + 4) (by omega) (by omega)])]
    simp
  refine ⟨⟨?_, hO.k (fun i hi => s6 i (by omega) (by omega)) hN, hQ.k (fun i hi => s6 i (by omega) (by omega)) hN hO, hT.k (fun i hi => s6 i (by omega) (by omega)) hN hO, hC.k (fun i hi => s6 i (by omega) (by omega)) hN, ?_, ?_⟩, ⟨?_, ?_, ?_, ?_, ?_, ?_, ?_, ?_, ?_⟩, ?_, by rw [mR, if_pos rfl]⟩
  · unfold GN
    rw [s1, s6 0 (by omega) (by omega), s6 1 (by omega) (by omega), s6 2 (by omega) (by omega), s6 3 (by omega) (by omega), s6 4 (by omega) (by omega), s6 5 (by omega) (by omega), s6 6 (by omega) (by omega), s6 7 (by omega) (by omega), s6 8 (by omega) (by omega), s6 9 (by omega) (by omega), s6 11 (by omega) (by omega)]
    omega
  · -- tokens
    intro k x y
    rw [s1] at y
    rw [s6 0 (by omega) (by omega), s6 8 (by omega) (by omega), s6 9 (by omega) (by omega)]
    by_cases hk : k = w 10
    · rw [hk, s2, s3, s4, s5, s7, pN]
      refine ⟨by omega, ht, hh, by omega, by omega, fun i a b => ?_⟩
      rw [s6 (1916 + 5 * i + 2) (by omega) (by omega), pO i a b]
      exact fun z => hno ⟨i, a, b, z.1, z.2⟩
    · have g := hK k x (by omega)
      rw [s6 (1916 + 5 * k + 0) (by omega) (by omega), s6 (1916 + 5 * k + 1) (by omega) (by omega), s6 (1916 + 5 * k + 2) (by omega) (by omega), s6 (1916 + 5 * k + 3) (by omega) (by omega), s6 (1916 + 5 * k + 4) (by omega) (by omega), pO k x (by omega)]
      refine ⟨g.1, g.2.1, g.2.2.1, g.2.2.2.1, g.2.2.2.2.1, fun i a b => ?_⟩
      rw [s6 (1916 + 5 * i + 2) (by omega) (by omega), pO i a (by omega)]
      exact g.2.2.2.2.2 i a b
  · refine ⟨?_, fun k x y => ?_⟩
    · rw [s1, csum_s _ n10.1, s5, s6 11 (by omega) (by omega), hR.1]
      rw [csum_congr (f := fun k => if w' (1916 + 5 * k + 3) = 1 then 1 else 0) (g := fun k => if w (1916 + 5 * k + 3) = 1 then 1 else 0) (fun k a b => by
        show (if w' (1916 + 5 * k + 3) = 1 then (1 : Int) else 0) = if w (1916 + 5 * k + 3) = 1 then 1 else 0
        rw [s6 (1916 + 5 * k + 3) (by omega) (by omega)])]
      simp
    · rw [s6 11 (by omega) (by omega)] at y
      have g := hR.2 k x y
      rw [s6 (2916 + k) (by omega) (by omega), s1, s6 (1916 + 5 * w (2916 + k) + 3) (by omega) (by omega)]
      refine ⟨by omega, g.2.1, fun i a b => ?_⟩
      rw [s6 (2916 + i) (by omega) (by omega)]
      exact g.2.2 i a b
  · exact rA.k (fun b x => fd b (by omega) (by omega)) (fun i hi => s6 i (by omega) (by omega))
  · exact rO.k (fun b x y => fd b (by omega) (by omega)) (fun i hi => s6 i (by omega) (by omega)) n7
  · exact rQ.k (fd _ (by omega) (by omega)) (fun i hi => s6 i (by omega) (by omega)) n7 hO
  · exact rP.k (fun b x y => fd b (by omega) (by omega)) (fun i hi => s6 i (by omega) (by omega)) n8
  · exact rT.k (fun b x y => fd b (by omega) (by omega)) (fun i hi => s6 i (by omega) (by omega)) n9
  · exact rC.k (fun b x => fd b (by omega) (by omega)) (fun i hi => s6 i (by omega) (by omega)) n9
  · refine ⟨by rw [eg, s1]; exact ms_e rfl rfl, fun k x y => ?_⟩
    rw [s1] at y
    rw [eg]
    by_cases hk : k = w 10
    · rw [hk, s2, s3, s4, s5]
      simp (disch := omega) only [ms_a, ms_e]
      exact ⟨trivial, trivial, trivial, trivial⟩
    · have g := k2 k x (by omega)
      rw [s6 (1916 + 5 * k + 0) (by omega) (by omega), s6 (1916 + 5 * k + 1) (by omega) (by omega), s6 (1916 + 5 * k + 2) (by omega) (by omega), s6 (1916 + 5 * k + 3) (by omega) (by omega)]
      simp (disch := omega) only [ms_a, ms_i]
      rw [g7_ne (by omega), g7_ne (by omega), g7_ne (by omega), g7_ne (by omega)]
      exact g
  · refine rR.k ?_ (fd _ (by omega) (by omega)) (fun i hi => s6 i (by omega) (by omega)) n11
    rw [eg]
    simp (disch := omega) only [ms_a, ms_i]
    rw [g7_ne (by omega)]
  · intro q x y h' u v
    rw [s6 8 (by omega) (by omega)] at y
    have ga := rH q x y h' u v
    have gw : lb (d' (s + 18 + 2 * q) (h' / 64)) (h' % 64).toNat = true ↔ (q = p ∧ h' = h) ∨ lb (d (s + 18 + 2 * q) (h' / 64)) (h' % 64).toNat = true := by
      rcases fh q (h' / 64) with e | e
      · rw [e]
        by_cases hqp : q = p
        · subst hqp
          have a1 := add_has (d := d) (x := s + 10 + 6 + (1 + 2 * q)) hh.1 hh.2 u v
          rw [has_iff u v, has_iff u v, show s + 10 + 6 + (1 + 2 * q) + 1 = s + 18 + 2 * q by omega] at a1
          by_cases hhh : h' = h
          · rw [if_pos hhh] at a1
            constructor
            · intro _; exact Or.inl ⟨rfl, hhh⟩
            · intro _
              by_cases z : lb (g_7 (s + 10 + 6 + (1 + 2 * q)) h d (s + 18 + 2 * q) (h' / 64)) (h' % 64).toNat = true
              · exact z
              · rw [if_neg z] at a1; omega
          · rw [if_neg hhh] at a1
            constructor
            · intro z
              rw [if_pos z] at a1
              refine Or.inr ?_
              by_cases z2 : lb (d (s + 18 + 2 * q) (h' / 64)) (h' % 64).toNat = true
              · exact z2
              · rw [if_neg z2] at a1; omega
            · rintro (z | z)
              · exact absurd z.2 hhh
              · rw [if_pos z] at a1
                by_cases z2 : lb (g_7 (s + 10 + 6 + (1 + 2 * q)) h d (s + 18 + 2 * q) (h' / 64)) (h' % 64).toNat = true
                · exact z2
                · rw [if_neg z2] at a1; omega
        · rw [g7_ne (by omega)]
          exact ⟨fun z => Or.inr z, fun z => z.elim (fun z => absurd z.1 hqp) id⟩
      · omega
    rw [gw, ga]
    constructor
    · rintro (⟨z1, z2⟩ | ⟨k, z1, z2, z3, z4⟩)
      · exact ⟨w 10, by omega, by omega, by rw [s4, z2], by rw [pN, z1]⟩
      · exact ⟨k, z1, by omega, by rw [s6 _ (by omega) (by omega)]; exact z3, by rw [pO k z1 z2]; exact z4⟩
    · rintro ⟨k, z1, z2, z3, z4⟩
      by_cases hk : k = w 10
      · rw [hk, s4] at z3
        rw [hk, pN] at z4
        exact Or.inl ⟨z4.symm, z3.symm⟩
      · rw [s6 _ (by omega) (by omega)] at z3
        rw [pO k z1 (by omega)] at z4
        exact Or.inr ⟨k, z1, by omega, z3, z4⟩
  · intro q x y
    rw [s6 8 (by omega) (by omega)] at y
    obtain ⟨g1, g2, g3⟩ := hB q x y
    rw [fd (s + 13) (by omega) (by omega), fd (s + 14) (by omega) (by omega), fd (s + 15) (by omega) (by omega), mR]
    refine ⟨?_, ?_, fun r a b => ?_⟩
    · rw [← g1]
      by_cases hq : q = p
      · subst hq
        simp only [if_true]
        omega
      · rw [if_neg hq, if_neg hq, if_neg (fun z => hq z.symm)]
        omega
    · rw [g2]
      unfold attR
      rw [s6 9 (by omega) (by omega)]
      exact csum_congr (fun t a b => by rw [s6 (452 + 24 * t + 8 + q) (by omega) (by omega), s6 0 (by omega) (by omega)])
    · rw [g3 r a b]
      constructor
      · rintro ⟨t, z1, z2, z3, z4⟩
        refine ⟨t, z1, by rw [s6 9 (by omega) (by omega)]; exact z2, by rw [s6 _ (by omega) (by omega)]; exact z3, ?_⟩
        unfold attd at *
        rw [s6 (452 + 24 * t + 8 + q) (by omega) (by omega), s6 0 (by omega) (by omega)]
        exact z4
      · rintro ⟨t, z1, z2, z3, z4⟩
        rw [s6 9 (by omega) (by omega)] at z2
        rw [s6 _ (by omega) (by omega)] at z3
        refine ⟨t, z1, z2, z3, ?_⟩
        unfold attd at *
        rw [s6 (452 + 24 * t + 8 + q) (by omega) (by omega), s6 0 (by omega) (by omega)] at z4
        exact z4
theorem mkIdle {t p y z : Int} : ∀ (n : Nat) (h : Int) (w : Row), w (452 + 24 * t + 3) - h ≤ (n : Int) → ¬ (z < w 5 ∧ w 10 < 200) → LP_218_41 t n p z y h w = (y, w) := by
  intro n
  induction n with
  | zero =>
    intro h w hn hc
    show ST_218_41 t _ p z y h w = _
    unfold ST_218_41
    rw [if_neg (by omega)]
  | succ n ih =>
    intro h w hn hc
    show ST_218_41 t _ p z y h w = _
    unfold ST_218_41
    by_cases c1 : h < w (452 + 24 * t + 3)
    · rw [if_pos c1]
      by_cases c2 : z < w 5
      · rw [if_pos c2, if_neg (fun z2 => hc ⟨c2, z2⟩)]
        exact ih (h + 1) w (by omega) hc
      · rw [if_neg c2]
        exact ih (h + 1) w (by omega) hc
    · rw [if_neg c1]
theorem RelB'.fin {p m s : Int} {d : mD} {w : Row} (h : RelB' p m s d w) : RelB s (mset d (s + 10 + 3) p (d (s + 10 + 3) p + m)) w := by
  intro q x y
  obtain ⟨g1, g2, g3⟩ := h q x y
  rw [show s + 10 + 3 = s + 13 by omega]
  by_cases hq : q = p
  · subst hq
    rw [if_pos rfl] at g1
    simp (disch := omega) only [ms_a, ms_e]
    exact ⟨g1, g2, g3⟩
  · rw [if_neg hq, Int.add_zero] at g1
    simp (disch := omega) only [ms_a, ms_i]
    exact ⟨g1, g2, g3⟩
theorem RelN.made {p v s : Int} {d : mD} {w : Row} (hg : GG w) (h : RelN s d w) : RelN s (mset d (s + 10 + 3) p v) w := by
  obtain ⟨hN, hO, hQ, hT, hC, hK, hR⟩ := hg
  obtain ⟨n7, n8, n9, n10, n11, n0, n1, n2, n3, n4, n5, n6⟩ := id hN
  obtain ⟨rA, rO, rQ, rP, rT, rC, rK, rR, rH⟩ := h
  have fd : ∀ b, ¬ b = s + 13 → mset d (s + 10 + 3) p v b = d b := fun b x => by
    funext j
    exact ms_a (by omega)
  exact ⟨rA.k (fun b x => fd b (by omega)) (fun _ _ => rfl), rO.k (fun b x y => fd b (by omega)) (fun _ _ => rfl) n7, rQ.k (fd _ (by omega)) (fun _ _ => rfl) n7 hO, rP.k (fun b x y => fd b (by omega)) (fun _ _ => rfl) n8, rT.k (fun b x y => fd b (by omega)) (fun _ _ => rfl) n9, rC.k (fun b x => fd b (by omega)) (fun _ _ => rfl) n9, rK.k (by rw [fd _ (by omega)]) (fun b x y => fd b (by omega)) (fun _ _ => rfl) n10, rR.k (by rw [fd _ (by omega)]) (fd _ (by omega)) (fun _ _ => rfl) n11, rH.k (fun b x y => fd b (by omega)) (fun _ _ => rfl) n8 n9 n10 hK.of⟩
theorem mkLoop {s t p en room : Int} : ∀ (nc nr : Nat) (m y h : Int) (d : mD) (w : Row), GG w → RelN s d w → RelB' p m s d w → 0 ≤ t ∧ t < w 9 → w (452 + 24 * t + 0) = p → w (452 + 24 * t + 3) = en → en ≤ 999 → 0 ≤ h → room = mmin (w 5 - (madeR w p - m)) (200 - (w 10 - m)) → en - h ≤ (nc : Int) → en - h ≤ (nr : Int) →
    (lp_81_48 s t nc p en room m h d).1 - m = (LP_218_41 t nr p (madeR w p) y h w).1 - y ∧ GG (LP_218_41 t nr p (madeR w p) y h w).2 ∧ RelN s (lp_81_48 s t nc p en room m h d).2 (LP_218_41 t nr p (madeR w p) y h w).2 ∧ RelB s (lp_81_48 s t nc p en room m h d).2 (LP_218_41 t nr p (madeR w p) y h w).2 ∧ ∀ i, ¬ i = 10 → ¬ (1916 ≤ i ∧ i < 2916) → (LP_218_41 t nr p (madeR w p) y h w).2 i = w i := by
  intro nc
  induction nc with
  | zero =>
    intro nr m y h d w hg hr hB ht hp he h9 h0 hm h1 h2
    have e : lp_81_48 s t 0 p en room m h d = (m, mset d (s + 10 + 3) p (d (s + 10 + 3) p + m)) := by
      show st_81_48 s t _ p en room m h d = _
      unfold st_81_48
      rw [if_neg (by omega)]
    have e2 : LP_218_41 t nr p (madeR w p) y h w = (y, w) := by
      cases nr with
      | zero =>
        show ST_218_41 t _ p (madeR w p) y h w = _
        unfold ST_218_41
        rw [if_neg (by omega)]
      | succ nr =>
        show ST_218_41 t _ p (madeR w p) y h w = _
        unfold ST_218_41
        rw [if_neg (by omega)]
    rw [e, e2]
    exact ⟨by omega, hg, hr.made hg, hB.fin, fun _ _ _ => rfl⟩
  | succ nc ih =>
    intro nr m y h d w hg hr hB ht hp he h9 h0 hm h1 h2
    have n10 := hg.1.2.2.2.1
    have n9 := hg.1.2.2.1
    have n8 := hg.1.2.1
    have gt := hg.2.2.2.1 t ht.1 ht.2
    rw [hp] at gt
    have hmn := mmin_r (w 5 - (madeR w p - m)) (200 - (w 10 - m))
    by_cases c1 : h < en
    · cases nr with
      | zero => omega
      | succ nr =>
        by_cases c2 : m < room
        · have hv := hr.2.2.2.2.2.2.2.2.has n10 gt.1.1 gt.1.2 h0 (by omega : h ≤ 999)
          by_cases c3 : V_216 p h w = 0
          · have hS := tokW (p := p) (t := t) (h := h) n10
            have e2 : LP_218_41 t (nr + 1) p (madeR w p) y h w = LP_218_41 t nr p (madeR w p + 1) (y + 1) (h + 1) (ws (ws (ws (ws (ws (ws w ((1916 + (5 * (w 10))) + 0) p) ((1916 + (5 * (w 10))) + 1) t) ((1916 + (5 * (w 10))) + 2) h) ((1916 + (5 * (w 10))) + 3) 0) ((1916 + (5 * (w 10))) + 4) (w 0)) 10 ((w 10) + 1)) := by
              show ST_218_41 t _ p (madeR w p) y h w = _
              unfold ST_218_41
              rw [if_pos (by omega), if_pos (by omega), if_pos (by omega), if_pos c3]
            have e : lp_81_48 s t (nc + 1) p en room m h d = lp_81_48 s t nc p en room (m + 1) (h + 1) (g_109 (s + 57) p t h (g_7 (s + 10 + 6 + (1 + 2 * p)) h d)) := by
              show st_81_48 s t _ p en room m h d = _
              unfold st_81_48
              rw [if_pos c1, if_pos c2, if_pos (by rw [hv]; exact c3)]
            rw [e, e2]
            generalize (ws (ws (ws (ws (ws (ws w ((1916 + (5 * (w 10))) + 0) p) ((1916 + (5 * (w 10))) + 1) t) ((1916 + (5 * (w 10))) + 2) h) ((1916 + (5 * (w 10))) + 3) 0) ((1916 + (5 * (w 10))) + 4) (w 0)) 10 ((w 10) + 1)) = w' at *
            obtain ⟨g', r', b', mm⟩ := mk1 hg hr hB ht hp ⟨h0, by omega⟩ (by omega) c3 hS
            obtain ⟨s1, s2, s3, s4, s5, s7, s6⟩ := hS
            obtain ⟨j1, j2, j3, j4, j5⟩ := ih nr (m + 1) (y + 1) (h + 1) _ w' g' r' b' (by rw [s6 9 (by omega) (by omega)]; exact ht) (by rw [s6 _ (by omega) (by omega)]; exact hp) (by rw [s6 _ (by omega) (by omega)]; exact he) h9 (by omega) (by rw [s6 5 (by omega) (by omega), mm, s1, hm]; congr 1 <;> omega) (by omega) (by omega)
            rw [mm] at j1 j2 j3 j4 j5
            exact ⟨by omega, j2, j3, j4, fun i a b => by rw [j5 i a b, s6 i a (by omega)]⟩
          · have e2 : LP_218_41 t (nr + 1) p (madeR w p) y h w = LP_218_41 t nr p (madeR w p) y (h + 1) w := by
              show ST_218_41 t _ p (madeR w p) y h w = _
              unfold ST_218_41
              rw [if_pos (by omega), if_pos (by omega), if_pos (by omega), if_neg c3]
            have e : lp_81_48 s t (nc + 1) p en room m h d = lp_81_48 s t nc p en room m (h + 1) d := by
              show st_81_48 s t _ p en room m h d = _
              unfold st_81_48
              rw [if_pos c1, if_pos c2, if_neg (by rw [hv]; exact c3)]
            rw [e, e2]
            exact ih nr m y (h + 1) d w hg hr hB ht hp he h9 (by omega) hm (by omega) (by omega)
        · have e : lp_81_48 s t (nc + 1) p en room m h d = (m, mset d (s + 10 + 3) p (d (s + 10 + 3) p + m)) := by
            show st_81_48 s t _ p en room m h d = _
            unfold st_81_48
            rw [if_pos c1, if_neg c2]
          rw [e, mkIdle (nr + 1) h w (by omega) (by omega)]
          exact ⟨by omega, hg, hr.made hg, hB.fin, fun _ _ _ => rfl⟩
    · have e : lp_81_48 s t (nc + 1) p en room m h d = (m, mset d (s + 10 + 3) p (d (s + 10 + 3) p + m)) := by
        show st_81_48 s t _ p en room m h d = _
        unfold st_81_48
        rw [if_neg c1]
      have e2 : LP_218_41 t nr p (madeR w p) y h w = (y, w) := by
        cases nr with
        | zero =>
          show ST_218_41 t _ p (madeR w p) y h w = _
          unfold ST_218_41
          rw [if_neg (by omega)]
        | succ nr =>
          show ST_218_41 t _ p (madeR w p) y h w = _
          unfold ST_218_41
          rw [if_neg (by omega)]
      rw [e, e2]
      exact ⟨by omega, hg, hr.made hg, hB.fin, fun _ _ _ => rfl⟩
theorem makes {s t : Int} {d : mD} {w : Row} (hg : GG w) (h : Rel s d w) (ht : 0 ≤ t ∧ t < w 9) (hs : w (452 + 24 * t + 4) = 1) (h9 : w (452 + 24 * t + 3) ≤ 999) :
    v_81 s t d = V_218 t w ∧ GG (W_218 t w) ∧ Rel s (g_81 s t d) (W_218 t w) ∧ ∀ i, ¬ i = 10 → ¬ (1916 ≤ i ∧ i < 2916) → W_218 t w i = w i := by
  obtain ⟨n7, n8, n9, n10, n11, n0, n1, n2, n3, n4, n5, n6⟩ := id hg.1
  obtain ⟨hn, hB⟩ := h.n
  obtain ⟨⟨a1, a2, a3⟩, -, -, -, ⟨t1, t2⟩, -, ⟨k1, -⟩, -, -⟩ := id hn
  have gt := hg.2.2.2.1 t ht.1 ht.2
  have gt2 := t2 t ht.1 ht.2
  have gB := hB _ gt.1.1 gt.1.2
  have hB' : RelB' (w (452 + 24 * t + 0)) 0 s d w := fun q x y => by
    obtain ⟨g1, g2, g3⟩ := hB q x y
    refine ⟨?_, g2, g3⟩
    split <;> omega
  have e3 : d (s + 1) 3 = w 5 := a3 3 (by omega) (by omega)
  have e0 : d (s + 1) 0 = w 2 := a3 0 (by omega) (by omega)
  have e : f_81 s t d = lp_81_48 s t (1300 - (w (452 + 24 * t + 2) + w 2) : Int).toNat (w (452 + 24 * t + 0)) (w (452 + 24 * t + 3)) (mmin (w 5 - (madeR w (w (452 + 24 * t + 0)) - 0)) (200 - (w 10 - 0))) 0 (w (452 + 24 * t + 2) + w 2) d := by
    unfold f_81 v_79
    rw [show s + 49 + 3 = s + 52 by omega, show s + 49 + 1 = s + 50 by omega, show s + 49 + 4 = s + 53 by omega, show s + 10 + 3 = s + 13 by omega, gt2.1, gt2.2.2.1, gt2.2.2.2.1, e0, e3, k1, gB.1]
    rw [Int.sub_zero, Int.sub_zero]
  have e2 : F_218 t w = LP_218_41 t (1301 - (w (452 + 24 * t + 2) + w 2) : Int).toNat (w (452 + 24 * t + 0)) (madeR w (w (452 + 24 * t + 0))) 0 (w (452 + 24 * t + 2) + w 2) w := by
    unfold F_218
    rw [v217 n10]
  obtain ⟨j1, j2, j3, j4, j5⟩ := mkLoop (s := s) (t := t) (p := w (452 + 24 * t + 0)) (en := w (452 + 24 * t + 3)) (room := mmin (w 5 - (madeR w (w (452 + 24 * t + 0)) - 0)) (200 - (w 10 - 0))) (1300 - (w (452 + 24 * t + 2) + w 2) : Int).toNat (1301 - (w (452 + 24 * t + 2) + w 2) : Int).toNat 0 0 (w (452 + 24 * t + 2) + w 2) d w hg hn hB' ht rfl rfl h9 (by omega) rfl (by omega) (by omega)
  unfold v_81 g_81 V_218 W_218
  rw [e, e2]
  exact ⟨by omega, j2, j3.r j4, j5⟩
theorem makesX0 {t p : Int} : ∀ (n : Nat) (m y h : Int) (w : Row), (0 ≤ w 8 ∧ w 8 ≤ 16) → (0 ≤ w 9 ∧ w 9 ≤ 60) → (0 ≤ w 10 ∧ w 10 ≤ 200) → XR w (LP_218_41 t n p m y h w).2 := by
  intro n
  have st : ∀ (r : Int → Int → Int → Int → Row → Int × Row) (m y h : Int) (w : Row), (0 ≤ w 8 ∧ w 8 ≤ 16) → (0 ≤ w 9 ∧ w 9 ≤ 60) → (0 ≤ w 10 ∧ w 10 ≤ 200) → (∀ m y h w, (0 ≤ w 8 ∧ w 8 ≤ 16) → (0 ≤ w 9 ∧ w 9 ≤ 60) → (0 ≤ w 10 ∧ w 10 ≤ 200) → XR w (r p m y h w).2) → XR w (ST_218_41 t r p m y h w).2 := fun r m y h w h8 h9 h10 hr => by
    unfold ST_218_41
    by_cases c1 : h < w (452 + 24 * t + 3)
    · rw [if_pos c1]
      by_cases c2 : m < w 5
      · rw [if_pos c2]
        by_cases c3 : w 10 < 200
        · rw [if_pos c3]
          by_cases c4 : V_216 p h w = 0
          · rw [if_pos c4]
            have hk := tokW (p := p) (t := t) (h := h) h10
            generalize (ws (ws (ws (ws (ws (ws w ((1916 + (5 * (w 10))) + 0) p) ((1916 + (5 * (w 10))) + 1) t) ((1916 + (5 * (w 10))) + 2) h) ((1916 + (5 * (w 10))) + 3) 0) ((1916 + (5 * (w 10))) + 4) (w 0)) 10 ((w 10) + 1)) = u at *
            obtain ⟨k1, k2, k3, k4, k5, k6, k7⟩ := hk
            have e8 : u 8 = w 8 := k7 8 (by omega) (by omega)
            have e9 : u 9 = w 9 := k7 9 (by omega) (by omega)
            refine XR.trans ⟨GXI.keep h8 e8 e9 (fun t q a b c d => k7 _ (by omega) (by omega)) (fun p a b => k7 _ (by omega) (by omega)) ?_, k7 0 (by omega) (by omega)⟩ (hr _ _ _ u (by omega) (by omega) (by omega))
            unfold C2
            rw [k1, csum_s _ h10.1, k5, if_neg (by decide), Int.add_zero]
            have e : csum (fun k => if u (1916 + 5 * k + 3) = 2 then (1 : Int) else 0) (w 10).toNat = csum (fun k => if w (1916 + 5 * k + 3) = 2 then 1 else 0) (w 10).toNat := csum_congr (fun k a b => by
              show (if u (1916 + 5 * k + 3) = 2 then (1 : Int) else 0) = if w (1916 + 5 * k + 3) = 2 then 1 else 0
              rw [k7 _ (by omega) (by omega)])
            rw [e]
            omega
          · rw [if_neg c4]; exact hr _ _ _ w h8 h9 h10
        · rw [if_neg c3]; exact hr _ _ _ w h8 h9 h10
      · rw [if_neg c2]; exact hr _ _ _ w h8 h9 h10
    · rw [if_neg c1]; exact XR.refl
  induction n with
  | zero => intro m y h w h8 h9 h10; exact st _ m y h w h8 h9 h10 (fun _ _ _ _ _ _ _ => XR.refl)
  | succ n ih => intro m y h w h8 h9 h10; exact st _ m y h w h8 h9 h10 ih
theorem makesX {t : Int} {w : Row} (h8 : 0 ≤ w 8 ∧ w 8 ≤ 16) (h9 : 0 ≤ w 9 ∧ w 9 ≤ 60) (h10 : 0 ≤ w 10 ∧ w 10 ≤ 200) : XR w (W_218 t w) := by
  unfold W_218 F_218
  exact makesX0 _ _ _ _ w h8 h9 h10
/-! ===== an hour ===== -/
theorem fl_e {d : mD} {x v n b j : Int} (h : b = x) (h0 : 0 ≤ j) (h1 : j < n) : mfl d x v n b j = v := by
  unfold mfl
  rw [if_pos ⟨h, h0, h1⟩]
theorem fl_n {d : mD} {x v n b j : Int} (h : ¬ b = x) : mfl d x v n b j = d b j := by
  unfold mfl
  rw [if_neg (fun z => h z.1)]
theorem csum_zero {f : Int → Int} {n : Nat} (h : ∀ i : Int, 0 ≤ i → i < (n : Int) → f i = 0) : csum f n = 0 := by
  rw [csum_congr (g := fun _ => 0) h]
  induction n with
  | zero => rfl
  | succ n ih =>
    show csum (fun _ => 0) n + 0 = 0
    rw [ih (fun i a b => h i a (by omega))]
    rfl
theorem srvN_of {w w' : Row} (h9 : 0 ≤ w 9 ∧ w 9 ≤ 60) (e : ∀ i, i = 9 ∨ (452 ≤ i ∧ i < 1916 ∧ (i - 452) % 24 = 4) → w' i = w i) : srvN w' = srvN w := by
  unfold srvN
  rw [e 9 (by omega)]
  exact csum_congr (fun t a b => by rw [e (452 + 24 * t + 4) (by omega)])
theorem weekLoop {s : Int} : ∀ (nc nr : Nat) (t : Int) (d : mD) (w : Row), 0 ≤ t → GG w → Rel s d w → w 0 % 20 = 0 → w 9 - t ≤ (nc : Int) → w 9 - t ≤ (nr : Int) →
    ∃ w', LP_223_71 nr t w = W_219 w' ∧ GG w' ∧ Rel s (lp_70_9 s nc t d) w' ∧ (∀ i, ¬ i = 10 → ¬ (1916 ≤ i ∧ i < 2916) → w' i = w i) ∧ XR w w' := by
  intro nc
  induction nc with
  | zero =>
    intro nr t d w h0 hg h hw h1 h2
    obtain ⟨-, -, -, -, ⟨t1, t2⟩, -⟩ := id h
    have e : lp_70_9 s 0 t d = d := by
      show st_70_9 s _ t d = d
      unfold st_70_9
      rw [if_neg (by rw [t1]; omega)]
    refine ⟨w, ?_, hg, by rw [e]; exact h, fun _ _ _ => rfl, XR.refl⟩
    cases nr with
    | zero =>
      show ST_223_71 _ t w = _
      unfold ST_223_71
      rw [if_neg (by omega)]
    | succ nr =>
      show ST_223_71 _ t w = _
      unfold ST_223_71
      rw [if_neg (by omega)]
  | succ nc ih =>
    intro nr t d w h0 hg h hw h1 h2
    obtain ⟨-, -, -, -, ⟨t1, t2⟩, rC, -⟩ := id h
    by_cases c1 : t < w 9
    · cases nr with
      | zero => omega
      | succ nr =>
        have gC := hg.2.2.2.2.1 t h0 c1
        have gc := (rC t h0 c1).1
        by_cases c2 : w (452 + 24 * t + 6) = 0
        · have e : lp_70_9 s (nc + 1) t d = lp_70_9 s nc (t + 1) d := by
            show st_70_9 s _ t d = _
            unfold st_70_9
            rw [if_pos (by rw [t1]; omega), if_neg (by rw [show s + 49 + 6 = s + 55 by omega]; omega)]
          have e2 : LP_223_71 (nr + 1) t w = LP_223_71 nr (t + 1) w := by
            show ST_223_71 _ t w = _
            unfold ST_223_71
            rw [if_pos c1, if_pos hw, if_pos c2]
          rw [e, e2]
          exact ih nr (t + 1) d w (by omega) hg h hw (by omega) (by omega)
        · have hp : w (452 + 24 * t + 6) = 1 := by omega
          have e : lp_70_9 s (nc + 1) t d = lp_70_9 s nc (t + 1) (g_81 s t d) := by
            show st_70_9 s _ t d = _
            unfold st_70_9
            rw [if_pos (by rw [t1]; omega), if_pos (by rw [show s + 49 + 6 = s + 55 by omega]; omega)]
          have e2 : LP_223_71 (nr + 1) t w = LP_223_71 nr (t + 1) (W_218 t w) := by
            show ST_223_71 _ t w = _
            unfold ST_223_71
            rw [if_pos c1, if_pos hw, if_neg c2]
          rw [e, e2]
          have hcl := gC.2.2.1 hp
          obtain ⟨-, g', r', f'⟩ := makes hg h ⟨h0, c1⟩ (gC.2.2.2.1 hcl.1) hcl.2
          obtain ⟨w', j1, j2, j3, j4, j5⟩ := ih nr (t + 1) (g_81 s t d) (W_218 t w) (by omega) g' r' (by rw [f' 0 (by omega) (by omega)]; exact hw) (by rw [f' 9 (by omega) (by omega)]; omega) (by rw [f' 9 (by omega) (by omega)]; omega)
          exact ⟨w', j1, j2, j3, fun i a b => by rw [j4 i a b, f' i a b], (makesX hg.1.2.1 hg.1.2.2.1 hg.1.2.2.2.1).trans j5⟩
    · have e : lp_70_9 s (nc + 1) t d = d := by
        show st_70_9 s _ t d = d
        unfold st_70_9
        rw [if_neg (by rw [t1]; omega)]
      refine ⟨w, ?_, hg, by rw [e]; exact h, fun _ _ _ => rfl, XR.refl⟩
      cases nr with
      | zero =>
        show ST_223_71 _ t w = _
        unfold ST_223_71
        rw [if_neg (by omega)]
      | succ nr =>
        show ST_223_71 _ t w = _
        unfold ST_223_71
        rw [if_neg (by omega)]
-- a new week: nothing was made or witnessed in it
theorem newWeek {s : Int} {d : mD} {w : Row} (hg : GG w) (h : RelN s d w) (hm : ∀ k, 0 ≤ k → k < w 10 → w (1916 + 5 * k + 4) < w 0) (hwt : ∀ t p, 0 ≤ t → t < w 9 → 0 ≤ p → p < 16 → w (452 + 24 * t + 8 + p) ≤ w 0) (hw : w 0 % 20 = 0) : Rel s (g_49 (s + 10) d) w := by
  obtain ⟨hN, hO, hQ, hT, hC, hK, hR⟩ := id hg
  obtain ⟨n7, n8, n9, n10, n11, n0, n1, n2, n3, n4, n5, n6⟩ := id hN
  obtain ⟨rA, rO, rQ, rP, rT, rC, rK, rR, rH⟩ := h
  generalize hd : g_49 (s + 10) d = d'
  have e : d' = mfl (mfl (mfl d (s + 13) 0 16) (s + 14) 0 16) (s + 15) 0 16 := by
    rw [← hd]
    unfold g_49 g_299
    simp only [Int.add_assoc, Int.reduceAdd]
  have fd : ∀ b, ¬ (s + 13 ≤ b ∧ b ≤ s + 15) → d' b = d b := fun b x => by
    rw [e]
    funext j
    rw [fl_n (by omega), fl_n (by omega), fl_n (by omega)]
  refine ⟨rA.k (fun b x => fd b (by omega)) (fun _ _ => rfl), rO.k (fun b x y => fd b (by omega)) (fun _ _ => rfl) n7, rQ.k (fd _ (by omega)) (fun _ _ => rfl) n7 hO, rP.k (fun b x y => fd b (by omega)) (fun _ _ => rfl) n8, rT.k (fun b x y => fd b (by omega)) (fun _ _ => rfl) n9, rC.k (fun b x => fd b (by omega)) (fun _ _ => rfl) n9, rK.k (by rw [fd _ (by omega)]) (fun b x y => fd b (by omega)) (fun _ _ => rfl) n10, rR.k (by rw [fd _ (by omega)]) (fd _ (by omega)) (fun _ _ => rfl) n11, ?_, rH.k (fun b x y => fd b (by omega)) (fun _ _ => rfl) n8 n9 n10 hK.of⟩
  intro p x y
  have z1 : d' (s + 13) p = 0 := by rw [e, fl_n (by omega), fl_n (by omega), fl_e rfl x (by omega)]
  have z2 : d' (s + 14) p = 0 := by rw [e, fl_n (by omega), fl_e rfl x (by omega)]
  have z3 : d' (s + 15) p = 0 := by rw [e, fl_e rfl x (by omega)]
  have na : ∀ t q, 0 ≤ t → t < w 9 → 0 ≤ q → q < 16 → ¬ (0 < w (452 + 24 * t + 8 + q) ∧ (w (452 + 24 * t + 8 + q) - 1) / 20 = w 0 / 20) := fun t q a b c e => by
    have := hwt t q a b c e
    omega
  refine ⟨?_, ?_, fun q u v => ?_⟩
  · rw [z1]
    unfold madeR
    refine (csum_zero (fun k a b => ?_)).symm
    have := hm k a (by omega)
    have g := hK k a (by omega)
    rw [if_neg (by omega)]
  · rw [z2]
    unfold attR
    refine (csum_zero (fun t a b => ?_)).symm
    rw [if_neg (na t p a (by omega) x (by omega))]
  · rw [z3, ib_zero]
    constructor
    · intro z; cases z
    · rintro ⟨t, a, b, c, e⟩
      exact absurd e (na t p a b x (by omega))
-- the time goes on
theorem tick {s : Int} {d : mD} {w : Row} (hg : GG w) (h : Rel s d w) (h0 : w 0 ≤ 1198) :
    GG (ws w 0 (w 0 + 1)) ∧ RelN s (mset d s 2 (d s 2 + 1)) (ws w 0 (w 0 + 1)) ∧ (¬ (w 0 + 1) % 20 = 0 → RelB s (mset d s 2 (d s 2 + 1)) (ws w 0 (w 0 + 1))) := by
  obtain ⟨hN, hO, hQ, hT, hC, hK, hR⟩ := id hg
  obtain ⟨n7, n8, n9, n10, n11, n0, n1, n2, n3, n4, n5, n6⟩ := id hN
  obtain ⟨⟨a1, a2, a3⟩, rO, rQ, rP, rT, rC, rK, rR, rB, rH⟩ := h
  generalize hw : ws w 0 (w 0 + 1) = w'
  have e0 : w' 0 = w 0 + 1 := by rw [← hw]; exact wse rfl
  have ew : ∀ i, ¬ i = 0 → w' i = w i := fun i hi => by rw [← hw]; exact wsn hi
  generalize hd : mset d s 2 (d s 2 + 1) = d'
  have fd : ∀ b, ¬ b = s → d' b = d b := fun b x => by
    rw [← hd]
    funext j
    exact ms_a x
  have pO : ∀ k, 0 ≤ k → k < w 10 → perO w' k = perO w k := fun k a b => by
    have g := hK k a b
    unfold perO
    rw [ew (1916 + 5 * k + 1) (by omega), ew _ (by omega)]
  refine ⟨⟨?_, hO.k (fun i hi => ew i (by omega)) hN, hQ.k (fun i hi => ew i (by omega)) hN hO, ?_, ?_, ?_, hR.k (fun i hi => ew i (by omega)) hN⟩, ⟨?_, rO.k (fun b x y => fd b (by omega)) (fun i hi => ew i (by omega)) n7, rQ.k (fd _ (by omega)) (fun i hi => ew i (by omega)) n7 hO, rP.k (fun b x y => fd b (by omega)) (fun i hi => ew i (by omega)) n8, rT.k (fun b x y => fd b (by omega)) (fun i hi => ew i (by omega)) n9, rC.k (fun b x => fd b (by omega)) (fun i hi => ew i (by omega)) n9, rK.k (by rw [fd _ (by omega)]) (fun b x y => fd b (by omega)) (fun i hi => ew i (by omega)) n10, rR.k (by rw [fd _ (by omega)]) (fd _ (by omega)) (fun i hi => ew i (by omega)) n11, rH.k (fun b x y => fd b (by omega)) (fun i hi => ew i (by omega)) n8 n9 n10 hK.of⟩, ?_⟩
  · unfold GN
    rw [e0, ew 1 (by omega), ew 2 (by omega), ew 3 (by omega), ew 4 (by omega), ew 5 (by omega), ew 6 (by omega), ew 7 (by omega), ew 8 (by omega), ew 9 (by omega), ew 10 (by omega), ew 11 (by omega)]
    omega
  · intro t x y
    rw [ew 9 (by omega)] at y
    have g := hT t x y
    rw [ew (452 + 24 * t + 0) (by omega), ew (452 + 24 * t + 1) (by omega), ew (452 + 24 * t + 2) (by omega), ew (452 + 24 * t + 3) (by omega), ew (452 + 24 * t + 4) (by omega), e0, ew 7 (by omega), ew 8 (by omega)]
    refine ⟨g.1, g.2.1, by omega, g.2.2.2.1, fun z => ?_, fun z => by have := g.2.2.2.2.2 z; omega⟩
    obtain ⟨z1, k, z2, z3, z4⟩ := g.2.2.2.2.1 z
    exact ⟨z1, k, z2, by rw [ew _ (by omega)]; exact z3, by rw [ew _ (by omega)]; exact z4⟩
  · intro t x y
    rw [ew 9 (by omega)] at y
    have g := hC t x y
    rw [ew (452 + 24 * t + 5) (by omega), ew (452 + 24 * t + 6) (by omega), ew (452 + 24 * t + 3) (by omega), ew (452 + 24 * t + 4) (by omega), e0]
    refine ⟨g.1, g.2.1, g.2.2.1, g.2.2.2.1, fun p a b => ?_⟩
    rw [ew (452 + 24 * t + 8 + p) (by omega)]
    have := g.2.2.2.2 p a b
    omega
  · intro k x y
    rw [ew 10 (by omega)] at y
    have g := hK k x y
    rw [ew (1916 + 5 * k + 0) (by omega), ew (1916 + 5 * k + 1) (by omega), ew (1916 + 5 * k + 2) (by omega), ew (1916 + 5 * k + 3) (by omega), ew (1916 + 5 * k + 4) (by omega), e0, ew 8 (by omega), ew 9 (by omega), pO k x y]
    refine ⟨g.1, g.2.1, g.2.2.1, g.2.2.2.1, by omega, fun i a b => ?_⟩
    rw [ew (1916 + 5 * i + 2) (by omega), pO i a (by omega)]
    exact g.2.2.2.2.2 i a b
  · refine ⟨?_, ?_, fun k x y => ?_⟩
    · rw [ew 1 (by omega), ← hd, ms_i (by omega)]; exact a1
    · rw [e0, ← hd, ms_e rfl rfl, a2]
    · rw [ew (2 + k) (by omega), fd _ (by omega)]; exact a3 k x y
  · intro hz p x y
    rw [ew 8 (by omega)] at y
    obtain ⟨g1, g2, g3⟩ := rB p x y
    have e20 : (w 0 + 1) / 20 = w 0 / 20 := by omega
    rw [fd _ (by omega), fd _ (by omega), fd _ (by omega)]
    refine ⟨?_, ?_, fun q u v => ?_⟩
    · rw [g1]
      unfold madeR
      rw [ew 10 (by omega), e0, e20]
      exact csum_congr (fun k a b => by rw [pO k a (by omega), ew (1916 + 5 * k + 4) (by omega)])
    · rw [g2]
      unfold attR
      rw [ew 9 (by omega), e0, e20]
      exact csum_congr (fun t a b => by rw [ew (452 + 24 * t + 8 + p) (by omega)])
    · rw [g3 q u v]
      unfold attd
      rw [ew 9 (by omega), e0, e20]
      constructor
      · rintro ⟨t, a, b, c, e⟩
        exact ⟨t, a, b, by rw [ew _ (by omega)]; exact c, by rw [ew (452 + 24 * t + 8 + p) (by omega)]; exact e⟩
      · rintro ⟨t, a, b, c, e⟩
        rw [ew _ (by omega)] at c
        rw [ew (452 + 24 * t + 8 + p) (by omega)] at e
        exact ⟨t, a, b, c, e⟩
-- the offices of an hour
theorem officeLoop {s N i : Int} {r4 : Int → Int → mD → Int × mD} {X : Prop} : ∀ (nc nr : Nat) (o acc : Int) (d : mD) (w : Row), 0 ≤ o → GG w → RelN s d w → (X → RelB s d w) → w 7 - o ≤ (nc : Int) → w 7 - o ≤ (nr : Int) →
    ∃ (d' : mD) (w' : Row), lp_68_22 s N r4 nc acc i o d = (if w 0 % 20 = 0 then r4 (acc + (srvN w' - srvN w)) (i + 1) (g_82 s (g_70 s d')) else r4 (acc + (srvN w' - srvN w)) (i + 1) (g_82 s d')) ∧ LP_223_12 nr o w = LP_223_71 (61 - 0 : Int).toNat 0 w' ∧ GG w' ∧ RelN s d' w' ∧ (X → RelB s d' w') ∧ ∀ j, j ≤ 11 ∨ (452 ≤ j ∧ j < 1916 ∧ (5 ≤ (j - 452) % 24 ∨ (j - 452) % 24 ≤ 2)) ∨ (420 ≤ j ∧ j < 452) ∨ 1916 ≤ j → w' j = w j := by
  intro nc
  induction nc with
  | zero =>
    intro nr o acc d w h0 hg h hX h1 h2
    obtain ⟨⟨a1, a2, a3⟩, ⟨o1, o2⟩, -⟩ := id h
    refine ⟨d, w, ?_, ?_, hg, h, hX, fun _ _ => rfl⟩
    · show st_68_22 s N r4 _ acc i o d = _
      unfold st_68_22
      rw [if_neg (by rw [o1]; omega), a2, Int.sub_self, Int.add_zero]
    · cases nr with
      | zero =>
        show ST_223_12 _ o w = _
        unfold ST_223_12
        rw [if_neg (by omega)]
      | succ nr =>
        show ST_223_12 _ o w = _
        unfold ST_223_12
        rw [if_neg (by omega)]
  | succ nc ih =>
    intro nr o acc d w h0 hg h hX h1 h2
    obtain ⟨⟨a1, a2, a3⟩, ⟨o1, o2⟩, -⟩ := id h
    by_cases c1 : o < w 7
    · cases nr with
      | zero => omega
      | succ nr =>
        obtain ⟨j1, j2, j3, j4, j5⟩ := serve hg h hX ⟨h0, c1⟩
        have e : lp_68_22 s N r4 (nc + 1) acc i o d = lp_68_22 s N r4 nc (acc + v_69 s o d) i (o + 1) (g_69 s o d) := by
          show st_68_22 s N r4 _ acc i o d = _
          unfold st_68_22
          rw [if_pos (by rw [o1]; exact c1)]
        have e2 : LP_223_12 (nr + 1) o w = LP_223_12 nr (o + 1) (hourO o w) := by
          show ST_223_12 _ o w = _
          unfold ST_223_12 hourO
          rw [if_pos c1]
          split
          · rfl
          · split <;> rfl
        rw [e, e2]
        have e7 := j4 7 (by omega)
        have e0 := j4 0 (by omega)
        obtain ⟨d', w', k1, k2, k3, k4, k5, k6⟩ := ih nr (o + 1) (acc + v_69 s o d) (g_69 s o d) (hourO o w) (by omega) j1 j2 j3 (by omega) (by omega)
        refine ⟨d', w', ?_, k2, k3, k4, k5, fun j hj => by rw [k6 j hj, j4 j hj]⟩
        rw [k1, e0, j5, show acc + v_69 s o d + (srvN w' - (srvN w + v_69 s o d)) = acc + (srvN w' - srvN w) by omega]
    · refine ⟨d, w, ?_, ?_, hg, h, hX, fun _ _ => rfl⟩
      · show st_68_22 s N r4 _ acc i o d = _
        unfold st_68_22
        rw [if_neg (by rw [o1]; omega), a2, Int.sub_self, Int.add_zero]
      · cases nr with
        | zero =>
          show ST_223_12 _ o w = _
          unfold ST_223_12
          rw [if_neg (by omega)]
        | succ nr =>
          show ST_223_12 _ o w = _
          unfold ST_223_12
          rw [if_neg (by omega)]
theorem hour1 {s N i acc : Int} {r4 : Int → Int → mD → Int × mD} {d : mD} {w : Row} (hg : GG w) (h : Rel s d w) (h0 : w 0 ≤ 1198) :
    ∃ d' : mD, lp_68_22 s N r4 (6 - 0 : Int).toNat acc i 0 (mset d s 2 (d s 2 + 1)) = r4 (acc + (srvN (W_223 w) - srvN w)) (i + 1) d' ∧ GG (W_223 w) ∧ Rel s d' (W_223 w) ∧ (∀ j, j = 0 → W_223 w j = w 0 + 1) ∧ (∀ j, (2 ≤ j ∧ j ≤ 9) ∨ (452 ≤ j ∧ j < 1916 ∧ (5 ≤ (j - 452) % 24 ∨ (j - 452) % 24 ≤ 2)) → W_223 w j = w j) ∧ GXI w (W_223 w) := by
  obtain ⟨n7, n8, n9, n10, n11, n0, n1, n2, n3, n4, n5, n6⟩ := id hg.1
  obtain ⟨g1, r1, b1⟩ := tick hg h h0
  have e0 : ws w 0 (w 0 + 1) 0 = w 0 + 1 := wse rfl
  have ew : ∀ i, ¬ i = 0 → ws w 0 (w 0 + 1) i = w i := fun i hi => wsn hi
  obtain ⟨d1, w1, k1, k2, k3, k4, k5, k6⟩ := officeLoop (s := s) (N := N) (i := i) (r4 := r4) (X := ¬ (w 0 + 1) % 20 = 0) (6 - 0 : Int).toNat (6 - 0 : Int).toNat 0 acc (mset d s 2 (d s 2 + 1)) (ws w 0 (w 0 + 1)) (by omega) g1 r1 b1 (by rw [ew 7 (by omega), show (((6 - 0 : Int).toNat : Nat) : Int) = 6 by decide]; omega) (by rw [ew 7 (by omega), show (((6 - 0 : Int).toNat : Nat) : Int) = 6 by decide]; omega)
  rw [e0] at k1
  have f0 : w1 0 = w 0 + 1 := by rw [k6 0 (by omega), e0]
  have fw : ∀ j, ¬ j = 0 → j ≤ 11 ∨ (452 ≤ j ∧ j < 1916 ∧ (5 ≤ (j - 452) % 24 ∨ (j - 452) % 24 ≤ 2)) ∨ (420 ≤ j ∧ j < 452) ∨ 1916 ≤ j → w1 j = w j := fun j a b => by rw [k6 j b, ew j a]
  have sN : srvN (ws w 0 (w 0 + 1)) = srvN w := srvN_of n9 (fun i hi => ew i (by omega))
  rw [sN] at k1
  have eW : W_223 w = LP_223_71 (61 - 0 : Int).toNat 0 w1 := k2
  have key : ∀ (d2 : mD) (w2 : Row), LP_223_71 (61 - 0 : Int).toNat 0 w1 = W_219 w2 → GG w2 → Rel s d2 w2 → (∀ i, ¬ i = 10 → ¬ (1916 ≤ i ∧ i < 2916) → w2 i = w1 i) ∧ XR w1 w2 → ((acc + (srvN w1 - srvN w)) = acc + (srvN (W_223 w) - srvN w)) ∧ GG (W_223 w) ∧ Rel s (g_82 s d2) (W_223 w) ∧ (∀ j, j = 0 → W_223 w j = w 0 + 1) ∧ (∀ j, (2 ≤ j ∧ j ≤ 9) ∨ (452 ≤ j ∧ j < 1916 ∧ (5 ≤ (j - 452) % 24 ∨ (j - 452) % 24 ≤ 2)) → W_223 w j = w j) ∧ GXI w (W_223 w) := by
    intro d2 w2 q1 q2 q3 ⟨q4, q5⟩
    have q6 := settleX q2 q3
    obtain ⟨-, p2, p3, p4⟩ := settle q2 q3
    rw [eW, q1]
    have hs : srvN (W_219 w2) = srvN w1 := by
      rw [srvN_of (w := w2) (w' := W_219 w2) q2.1.2.2.1 (fun i hi => p4 i (by omega) (by omega) (by omega) (by omega))]
      exact srvN_of k3.1.2.2.1 (fun i hi => q4 i (by omega) (by omega))
    refine ⟨by rw [hs], p2, p3, fun j hj => ?_, fun j hj => ?_, GXI.trans (GXI.keep n8 (fw 8 (by omega) (by omega)) (fw 9 (by omega) (by omega)) (fun t q a b u v => fw _ (by omega) (Or.inr (Or.inl ⟨by omega, by omega, Or.inl (by omega)⟩))) (fun p a b => fw _ (by omega) (by omega)) (Int.le_of_eq (C2_of (fw 10 (by omega) (by omega)) (fun k a b => by rw [fw (1916 + 5 * k + 3) (by omega) (by omega)])).symm)) (q5.trans q6).1⟩
    · rw [hj, p4 0 (by omega) (by omega) (by omega) (by omega), q4 0 (by omega) (by omega), f0]
    · rw [p4 j (by omega) (by omega) (by omega) (by omega), q4 j (by omega) (by omega), fw j (by omega) (by omega)]
  by_cases c : (w 0 + 1) % 20 = 0
  · rw [if_pos c] at k1
    have nw := newWeek k3 k4 (fun k a b => by
      rw [fw 10 (by omega) (by omega)] at b
      have := hg.2.2.2.2.2.1 k a b
      rw [fw _ (by omega) (by omega), f0]
      omega) (fun t p a b x y => by
      rw [fw 9 (by omega) (by omega)] at b
      have := (hg.2.2.2.2.1 t a b).2.2.2.2 p x y
      rw [fw (452 + 24 * t + 8 + p) (by omega) (Or.inr (Or.inl ⟨by omega, by omega, Or.inl (by omega)⟩)), f0]
      omega) (by rw [f0]; exact c)
    obtain ⟨w2, q1, q2, q3, q4⟩ := weekLoop (s := s) (60 - 0 : Int).toNat (61 - 0 : Int).toNat 0 (g_49 (s + 10) d1) w1 (by omega) k3 nw (by rw [f0]; exact c) (by rw [fw 9 (by omega) (by omega), show (((60 - 0 : Int).toNat : Nat) : Int) = 60 by decide]; omega) (by rw [fw 9 (by omega) (by omega), show (((61 - 0 : Int).toNat : Nat) : Int) = 61 by decide]; omega)
    obtain ⟨z1, z2⟩ := key (g_70 s d1) w2 q1 q2 q3 q4
    rw [z1] at k1
    exact ⟨_, k1, z2⟩
  · rw [if_neg c] at k1
    have hr := k4.r (k5 c)
    obtain ⟨z1, z2⟩ := key d1 w1 (by
      have : ∀ n : Nat, 0 < n → LP_223_71 n 0 w1 = W_219 w1 := fun n hn => by
        cases n with
        | zero => omega
        | succ n =>
          show ST_223_71 _ 0 w1 = _
          unfold ST_223_71
          split
          · rw [if_neg (by rw [f0]; exact c)]
          · rfl
      exact this _ (by decide)) k3 hr ⟨fun _ _ _ => rfl, XR.refl⟩
    rw [z1] at k1
    exact ⟨_, k1, z2⟩
def hoursW : Nat → Row → Row
  | 0, w => w
  | n + 1, w => hoursW n (W_223 w)
theorem passLoop {s N : Int} : ∀ (n : Nat) (i acc : Int) (d : mD) (w : Row), GG w → Rel s d w → N - i = (n : Int) → w 0 + (n : Int) ≤ 1199 → (lp_68_4 s N n acc i d).1 = acc + (srvN (hoursW n w) - srvN w) ∧ GG (hoursW n w) ∧ Rel s (lp_68_4 s N n acc i d).2 (hoursW n w) ∧ hoursW n w 0 = w 0 + (n : Int) ∧ (∀ j, (2 ≤ j ∧ j ≤ 9) ∨ (452 ≤ j ∧ j < 1916 ∧ (5 ≤ (j - 452) % 24 ∨ (j - 452) % 24 ≤ 2)) → hoursW n w j = w j) ∧ GXI w (hoursW n w) := by
  intro n
  induction n with
  | zero =>
    intro i acc d w hg h hn h9
    have e : lp_68_4 s N 0 acc i d = (acc, d) := by
      show st_68_4 s N _ acc i d = _
      unfold st_68_4
      rw [if_neg (by omega)]
    rw [e]
    exact ⟨by show acc = acc + (srvN w - srvN w); omega, hg, h, by show w 0 = w 0 + ((0 : Nat) : Int); omega, fun _ _ => rfl, fun a b => ⟨a, b⟩⟩
  | succ n ih =>
    intro i acc d w hg h hn h9
    obtain ⟨d', k1, k2, k3, k4, k5, k6⟩ := hour1 (N := N) (i := i) (acc := acc) (r4 := lp_68_4 s N n) hg h (by omega)
    have e : lp_68_4 s N (n + 1) acc i d = lp_68_4 s N n (acc + (srvN (W_223 w) - srvN w)) (i + 1) d' := by
      rw [← k1]
      show st_68_4 s N _ acc i d = _
      unfold st_68_4
      rw [if_pos (by omega)]
    have f0 := k4 0 rfl
    obtain ⟨j1, j2, j3, j4, j5, j6⟩ := ih (i + 1) (acc + (srvN (W_223 w) - srvN w)) d' (W_223 w) k2 k3 (by omega) (by omega)
    rw [e]
    refine ⟨?_, j2, j3, ?_, fun j hj => ?_, k6.trans j6⟩
    · rw [j1]
      show _ = acc + (srvN (hoursW n (W_223 w)) - srvN w)
      omega
    · show hoursW n (W_223 w) 0 = _
      rw [j4, f0]
      omega
    · show hoursW n (W_223 w) j = _
      rw [j5 j hj, k5 j hj]
theorem passHours {s N : Int} {d : mD} {w : Row} (hN : 0 ≤ N) (hg : GG w) (h : Rel s d w) (h9 : w 0 + N ≤ 1199) : v_68 s N d = srvN (hoursW N.toNat w) - srvN w ∧ GG (hoursW N.toNat w) ∧ Rel s (g_68 s N d) (hoursW N.toNat w) ∧ hoursW N.toNat w 0 = w 0 + N ∧ (∀ j, (2 ≤ j ∧ j ≤ 9) ∨ (452 ≤ j ∧ j < 1916 ∧ (5 ≤ (j - 452) % 24 ∨ (j - 452) % 24 ≤ 2)) → hoursW N.toNat w j = w j) ∧ GXI w (hoursW N.toNat w) := by
  have e : (N - 0).toNat = N.toNat := by rw [Int.sub_zero]
  obtain ⟨j1, j2, j3, j4, j5, j6⟩ := passLoop (s := s) (N := N) N.toNat 0 0 d w hg h (by omega) (by omega)
  unfold v_68 g_68 f_68
  rw [e]
  exact ⟨by rw [j1]; omega, j2, j3, by rw [j4]; omega, j5, j6⟩
/-! ===== joining a queue ===== -/
theorem csum_add {f g : Int → Int} : ∀ n : Nat, csum (fun i => f i + g i) n = csum f n + csum g n
  | 0 => rfl
  | n + 1 => by
    show csum (fun i => f i + g i) n + (f (n : Int) + g (n : Int)) = csum f n + f (n : Int) + (csum g n + g (n : Int))
    rw [csum_add n]
    omega
theorem csum_swap {h : Int → Int → Int} (N : Nat) : ∀ L : Nat, csum (fun k => csum (fun q => h k q) N) L = csum (fun q => csum (fun k => h k q) L) N
  | 0 => by
    show 0 = csum (fun q => 0) N
    exact (csum_zero (fun _ _ _ => rfl)).symm
  | L + 1 => by
    show csum (fun k => csum (fun q => h k q) N) L + csum (fun q => h (L : Int) q) N = csum (fun q => csum (fun k => h k q) L + h (L : Int) q) N
    rw [csum_swap N L, csum_add]
theorem csum_pt {N : Nat} {x : Int} (h0 : 0 ≤ x) (h1 : x < (N : Int)) : csum (fun q => if x = q then 1 else 0) N = 1 := by
  have h := csum_upd (f := fun q => if x = q then 1 else 0) (g := fun _ => 0) (n := N) (k := x) h0 h1 (fun i a b c => by
    show (if x = i then (1 : Int) else 0) = 0
    rw [if_neg (fun z => c z.symm)])
  rw [h, csum_zero (fun _ _ _ => rfl)]
  simp
theorem csum_const {N : Nat} {c : Int} : csum (fun _ => c) N = (N : Int) * c := by
  induction N with
  | zero => simp [csum]
  | succ n ih =>
    show csum (fun _ => c) n + c = _
    rw [ih, Int.natCast_add, Int.add_mul]
    simp
theorem pigeon {f : Int → Int} {L N : Nat} (hr : ∀ k : Int, 0 ≤ k → k < (L : Int) → 0 ≤ f k ∧ f k < (N : Int)) (hi : ∀ k i : Int, 0 ≤ i → i < k → k < (L : Int) → ¬ f i = f k) {p : Int} (p0 : 0 ≤ p) (p1 : p < (N : Int)) (hp : ∀ k : Int, 0 ≤ k → k < (L : Int) → ¬ f k = p) : (L : Int) + 1 ≤ (N : Int) := by
  have one : ∀ q : Int, ∀ M : Nat, (M : Int) ≤ (L : Int) → 0 ≤ csum (fun k => if f k = q then 1 else 0) M ∧ csum (fun k => if f k = q then 1 else 0) M ≤ 1 := by
    intro q M
    induction M with
    | zero => intro _; exact ⟨by simp [csum], by simp [csum]⟩
    | succ M ih =>
      intro hM
      have i := ih (by omega)
      show 0 ≤ csum (fun k => if f k = q then 1 else 0) M + (if f (M : Int) = q then 1 else 0) ∧ csum (fun k => if f k = q then 1 else 0) M + (if f (M : Int) = q then 1 else 0) ≤ 1
      by_cases c : f (M : Int) = q
      · rw [if_pos c, csum_zero (fun k a b => by
          rw [if_neg (fun z => hi (M : Int) k a b (by omega) (z.trans c.symm))])]
        omega
      · rw [if_neg c]
        omega
  have s1 : csum (fun k => csum (fun q => if f k = q then 1 else 0) N) L = (L : Int) := by
    rw [csum_congr (g := fun _ => 1) (fun k a b => csum_pt (hr k a b).1 (hr k a b).2), csum_const, Int.mul_one]
  rw [csum_swap] at s1
  have s2 := csum_upd (f := fun q => csum (fun k => if f k = q then 1 else 0) L) (g := fun q => if q = p then 1 else csum (fun k => if f k = q then 1 else 0) L) (n := N) (k := p) p0 p1 (fun i a b c => by
    show csum (fun k => if f k = i then (1 : Int) else 0) L = if i = p then 1 else csum (fun k => if f k = i then (1 : Int) else 0) L
    rw [if_neg c])
  have z : csum (fun k => if f k = p then (1 : Int) else 0) L = 0 := csum_zero (fun k a b => by rw [if_neg (hp k a b)])
  have s3 := (csum_rng (f := fun q => if q = p then 1 else csum (fun k => if f k = q then 1 else 0) L) (n := N) (B := 1) (fun i a b => by
    show 0 ≤ (if i = p then (1 : Int) else csum (fun k => if f k = i then 1 else 0) L) ∧ (if i = p then (1 : Int) else csum (fun k => if f k = i then 1 else 0) L) ≤ 1
    split
    · omega
    · exact one i L (by omega))).2
  rw [s2] at s1
  simp only [z, if_true] at s1
  omega
def NewW (p o : Int) (w w' : Row) : Prop := (w' (452 + 24 * w 9 + 0) = p ∧ w' (452 + 24 * w 9 + 1) = o ∧ w' (452 + 24 * w 9 + 2) = w 0 ∧ w' (452 + 24 * w 9 + 3) = -1 ∧ ∀ f, 4 ≤ f → f < 24 → w' (452 + 24 * w 9 + f) = 0) ∧ w' (12 + 68 * o + 7 + w (12 + 68 * o + 5)) = w 9 ∧ w' (12 + 68 * o + 5) = w (12 + 68 * o + 5) + 1 ∧ w' 9 = w 9 + 1
  ∧ ∀ i, ¬ (452 + 24 * w 9 ≤ i ∧ i < 452 + 24 * w 9 + 24) → ¬ i = 12 + 68 * o + 7 + w (12 + 68 * o + 5) → ¬ i = 12 + 68 * o + 5 → ¬ i = 9 → w' i = w i
theorem lp224 {p o T b : Int} : ∀ (n : Nat) (x : Int) (w : Row), 0 ≤ x → 24 - x ≤ (n : Int) → 9 < b → ∃ u : Row, LP_224_17 p o n T b x w = (T, ws (ws (ws (ws (ws (ws (ws u (b + 0) p) (b + 1) o) (b + 2) (u 0)) (b + 3) ((-1))) (((12 + (68 * o)) + 7) + (u ((12 + (68 * o)) + 5))) T) ((12 + (68 * o)) + 5) ((u ((12 + (68 * o)) + 5)) + 1)) 9 ((u 9) + 1)) ∧ (∀ f, x ≤ f → f < 24 → u (b + f) = 0) ∧ ∀ i, ¬ (b + x ≤ i ∧ i < b + 24) → u i = w i := by
  intro n
  induction n with
  | zero =>
    intro x w h0 hn hb
    refine ⟨w, ?_, fun f a c => by omega, fun _ _ => rfl⟩
    show ST_224_17 p o _ T b x w = _
    unfold ST_224_17
    rw [if_neg (by omega)]
  | succ n ih =>
    intro x w h0 hn hb
    by_cases c : x < 24
    · obtain ⟨u, i1, i2, i3⟩ := ih (x + 1) (ws w (b + x) 0) (by omega) (by omega) hb
      refine ⟨u, ?_, fun f a e => ?_, fun i hi => by rw [i3 i (by omega), wsn (by omega)]⟩
      · rw [← i1]
        show ST_224_17 p o _ T b x w = _
        unfold ST_224_17
        rw [if_pos c]
      · by_cases hf : f = x
        · rw [i3 _ (by omega), wse (by omega)]
        · exact i2 f (by omega) e
    · refine ⟨w, ?_, fun f a c => by omega, fun _ _ => rfl⟩
      show ST_224_17 p o _ T b x w = _
      unfold ST_224_17
      rw [if_neg c]
theorem newW {p o : Int} {w : Row} (ho : 0 ≤ o ∧ o ≤ 5) (h9 : 0 ≤ w 9 ∧ w 9 ≤ 60) (hl : 0 ≤ w (12 + 68 * o + 5) ∧ w (12 + 68 * o + 5) ≤ 60) : V_224 p o w = w 9 ∧ NewW p o w (W_224 p o w) := by
  obtain ⟨u, i1, i2, i3⟩ := lp224 (p := p) (o := o) (T := w 9) (b := 452 + 24 * w 9) (24 - 0 : Int).toNat 0 w (by omega) (by decide) (by omega)
  have e : F_224 p o w = _ := i1
  unfold V_224 W_224
  rw [e]
  have u0 : u 0 = w 0 := i3 0 (by omega)
  have u9 : u 9 = w 9 := i3 9 (by omega)
  have uq : u (12 + 68 * o + 5) = w (12 + 68 * o + 5) := i3 _ (by omega)
  refine ⟨rfl, ⟨?_, ?_, ?_, ?_, fun f a b => ?_⟩, ?_, ?_, ?_, fun i h1 h2 h3 h4 => ?_⟩
  · show ws _ _ _ _ = _
    rw [uq, u9, u0]
    simp (disch := omega) only [wse, wsn]
  · show ws _ _ _ _ = _
    rw [uq, u9, u0]
    simp (disch := omega) only [wse, wsn]
  · show ws _ _ _ _ = _
    rw [uq, u9, u0]
    simp (disch := omega) only [wse, wsn]
  · show ws _ _ _ _ = _
    rw [uq, u9, u0]
    simp (disch := omega) only [wse, wsn]
  · show ws _ _ _ _ = _
    rw [uq, u9, u0]
    simp (disch := omega) only [wsn]
    exact i2 f (by omega) b
  · show ws _ _ _ _ = _
    rw [uq, u9, u0]
    simp (disch := omega) only [wse, wsn]
  · show ws _ _ _ _ = _
    rw [uq, u9, u0]
    simp (disch := omega) only [wse, wsn]
  · simp (disch := omega) only [wse, wsn, u9]
  · show ws _ _ _ _ = _
    rw [uq, u9, u0]
    simp (disch := omega) only [wse, wsn]
    exact i3 i (by omega)
-- whether a person can join
theorem lp225 {p o : Int} : ∀ (n : Nat) (a x : Int) (w : Row), 0 ≤ x → w (12 + 68 * o + 5) - x ≤ (n : Int) → (a = 0 ∨ a = 1) → (LP_225_57 p o n (12 + 68 * o) a x w = 0 ∨ LP_225_57 p o n (12 + 68 * o) a x w = 1) ∧ (LP_225_57 p o n (12 + 68 * o) a x w = 1 ↔ a = 1 ∧ ∀ k, x ≤ k → k < w (12 + 68 * o + 5) → ¬ w (452 + 24 * w (12 + 68 * o + 7 + k) + 0) = p) := by
  have m00 : miand 0 0 = 0 := by decide
  have m10 : miand 1 0 = 0 := by decide
  have m01 : miand 0 1 = 0 := by decide
  have m11 : miand 1 1 = 1 := by decide
  intro n
  induction n with
  | zero =>
    intro a x w h0 hn ha
    have e : LP_225_57 p o 0 (12 + 68 * o) a x w = a := by
      show ST_225_57 p o _ (12 + 68 * o) a x w = a
      unfold ST_225_57
      rw [if_neg (by omega)]
    rw [e]
    exact ⟨ha, ⟨fun z => ⟨z, fun k b c => by omega⟩, fun z => z.1⟩⟩
  | succ n ih =>
    intro a x w h0 hn ha
    by_cases c : x < w (12 + 68 * o + 5)
    · by_cases c2 : w (452 + 24 * w (12 + 68 * o + 7 + x) + 0) = p
      · have e : LP_225_57 p o (n + 1) (12 + 68 * o) a x w = LP_225_57 p o n (12 + 68 * o) 0 (x + 1) w := by
          show ST_225_57 p o _ (12 + 68 * o) a x w = _
          unfold ST_225_57
          rw [if_pos c, if_pos c2]
          rcases ha with rfl | rfl
          · rw [m00]
          · rw [m10]
        rw [e]
        obtain ⟨i1, i2⟩ := ih 0 (x + 1) w (by omega) (by omega) (Or.inl rfl)
        refine ⟨i1, i2.trans ⟨fun z => absurd z.1 (by decide), fun z => absurd c2 (z.2 x (by omega) c)⟩⟩
      · have e : LP_225_57 p o (n + 1) (12 + 68 * o) a x w = LP_225_57 p o n (12 + 68 * o) a (x + 1) w := by
          show ST_225_57 p o _ (12 + 68 * o) a x w = _
          unfold ST_225_57
          rw [if_pos c, if_neg c2]
          rcases ha with rfl | rfl
          · rw [m01]
          · rw [m11]
        rw [e]
        obtain ⟨i1, i2⟩ := ih a (x + 1) w (by omega) (by omega) ha
        refine ⟨i1, i2.trans ⟨fun z => ⟨z.1, fun k b c => ?_⟩, fun z => ⟨z.1, fun k b c => z.2 k (by omega) c⟩⟩⟩
        by_cases hk : k = x
        · rw [hk]; exact c2
        · exact z.2 k (by omega) c
    · have e : LP_225_57 p o (n + 1) (12 + 68 * o) a x w = a := by
        show ST_225_57 p o _ (12 + 68 * o) a x w = a
        unfold ST_225_57
        rw [if_neg c]
      rw [e]
      exact ⟨ha, ⟨fun z => ⟨z, fun k b c => by omega⟩, fun z => z.1⟩⟩
def CanJ (p o : Int) (w : Row) : Prop := w 9 < 60 ∧ ¬ w (12 + 68 * o + 4) = 0 ∧ w (12 + 68 * o + 5) < w (12 + 68 * o + 3) ∧ ∀ k, 0 ≤ k → k < w (12 + 68 * o + 5) → ¬ w (452 + 24 * w (12 + 68 * o + 7 + k) + 0) = p
theorem v225 {p o : Int} {w : Row} (hl : w (12 + 68 * o + 5) ≤ 61) : (V_225 p o w = 0 ∨ V_225 p o w = 1) ∧ (V_225 p o w = 1 ↔ CanJ p o w) := by
  have hf : (((61 - 0 : Int).toNat : Nat) : Int) = 61 := by decide
  obtain ⟨a1, a2⟩ := lp225 (p := p) (o := o) (61 - 0 : Int).toNat 0 0 w (by omega) (by rw [hf]; omega) (Or.inl rfl)
  obtain ⟨b1, b2⟩ := lp225 (p := p) (o := o) (61 - 0 : Int).toNat 1 0 w (by omega) (by rw [hf]; omega) (Or.inr rfl)
  unfold V_225 CanJ
  by_cases c1 : w 9 < 60
  · rw [if_pos c1]
    by_cases c2 : w (12 + 68 * o + 4) = 0
    · rw [if_pos c2]
      exact ⟨a1, a2.trans ⟨fun z => absurd z.1 (by decide), fun z => absurd c2 z.2.1⟩⟩
    · rw [if_neg c2]
      by_cases c3 : w (12 + 68 * o + 5) < w (12 + 68 * o + 3)
      · rw [if_pos c3]
        exact ⟨b1, b2.trans ⟨fun z => ⟨c1, c2, c3, z.2⟩, fun z => ⟨rfl, z.2.2.2⟩⟩⟩
      · rw [if_neg c3]
        exact ⟨a1, a2.trans ⟨fun z => absurd z.1 (by decide), fun z => absurd z.2.2.1 c3⟩⟩
  · rw [if_neg c1]
    exact ⟨a1, a2.trans ⟨fun z => absurd z.1 (by decide), fun z => absurd z.1 c1⟩⟩
theorem lp62 {s o p : Int} : ∀ (n : Nat) (x : Int) (d : mD), 0 ≤ x → d (s + 8) o - x ≤ (n : Int) → (lp_62_2 s o p n x d = -1 ∧ (∀ k, x ≤ k → k < d (s + 8) o → ¬ d (s + 50) (d (s + 9) (o * 16 + k)) = p)) ∨ (x ≤ lp_62_2 s o p n x d ∧ lp_62_2 s o p n x d < d (s + 8) o ∧ d (s + 50) (d (s + 9) (o * 16 + lp_62_2 s o p n x d)) = p ∧ ∀ k, x ≤ k → k < lp_62_2 s o p n x d → ¬ d (s + 50) (d (s + 9) (o * 16 + k)) = p) := by
  intro n
  induction n with
  | zero =>
    intro x d h0 hn
    have e : lp_62_2 s o p 0 x d = -1 := by
      show st_62_2 s o p _ x d = -1
      unfold st_62_2
      rw [if_neg (by rw [show s + 2 + 6 = s + 8 by omega]; omega)]
    rw [e]
    exact Or.inl ⟨rfl, fun k a b => by omega⟩
  | succ n ih =>
    intro x d h0 hn
    by_cases c : x < d (s + 8) o
    · by_cases c2 : d (s + 50) (d (s + 9) (o * 16 + x)) = p
      · have e : lp_62_2 s o p (n + 1) x d = x := by
          show st_62_2 s o p _ x d = x
          unfold st_62_2 v_38
          rw [show s + 2 + 6 = s + 8 by omega, show s + 49 + 1 = s + 50 by omega, show s + 2 + 7 = s + 9 by omega, if_pos c, if_pos c2]
        rw [e]
        exact Or.inr ⟨by omega, c, c2, fun k a b => by omega⟩
      · have e : lp_62_2 s o p (n + 1) x d = lp_62_2 s o p n (x + 1) d := by
          show st_62_2 s o p _ x d = _
          unfold st_62_2 v_38
          rw [show s + 2 + 6 = s + 8 by omega, show s + 49 + 1 = s + 50 by omega, show s + 2 + 7 = s + 9 by omega, if_pos c, if_neg c2]
        rw [e]
        rcases ih (x + 1) d (by omega) (by omega) with ⟨i1, i2⟩ | ⟨i1, i2, i3, i4⟩
        · refine Or.inl ⟨i1, fun k a b => ?_⟩
          by_cases hk : k = x
          · rw [hk]; exact c2
          · exact i2 k (by omega) b
        · refine Or.inr ⟨by omega, i2, i3, fun k a b => ?_⟩
          by_cases hk : k = x
          · rw [hk]; exact c2
          · exact i4 k (by omega) b
    · have e : lp_62_2 s o p (n + 1) x d = -1 := by
        show st_62_2 s o p _ x d = -1
        unfold st_62_2
        rw [if_neg (by rw [show s + 2 + 6 = s + 8 by omega]; omega)]
      rw [e]
      exact Or.inl ⟨rfl, fun k a b => by omega⟩
-- a queue's tickets and their persons, on both sides
theorem Rel.qp {s : Int} {d : mD} {w : Row} (hg : GG w) (hQ : RelQ s d w) (hT : RelT s d w) {o k : Int} (ho : 0 ≤ o ∧ o < w 7) (h0 : 0 ≤ k) (h1 : k < w (12 + 68 * o + 5)) : d (s + 9) (o * 16 + k) = w (12 + 68 * o + 7 + k) ∧ d (s + 50) (d (s + 9) (o * 16 + k)) = w (452 + 24 * w (12 + 68 * o + 7 + k) + 0) := by
  have e := hQ o ho.1 ho.2 k h0 h1
  have g := hg.2.2.1 o ho.1 ho.2 k h0 h1
  exact ⟨e, by rw [e]; exact (hT.2 _ g.1.1 g.1.2).1⟩
theorem canQ {s p o : Int} {d : mD} {w : Row} (hg : GG w) (h : Rel s d w) (ho : 0 ≤ o ∧ o < w 7) : v_60 s p o d = V_225 p o w ∧ (V_225 p o w = 0 ∨ V_225 p o w = 1) ∧ (V_225 p o w = 1 ↔ CanJ p o w) := by
  have go := hg.2.1 o ho.1 ho.2
  obtain ⟨b1, b2⟩ := v225 (p := p) (o := o) (w := w) (by omega)
  refine ⟨?_, b1, b2⟩
  obtain ⟨-, ⟨o1, o2⟩, rQ, -, rT, -⟩ := h
  have g := o2 o ho.1 ho.2
  have l := lp62 (s := s) (o := o) (p := p) (16 - 0 : Int).toNat 0 d (by omega) (by rw [show (((16 - 0 : Int).toNat : Nat) : Int) = 16 by decide, g.2.2.2.2.2]; omega)
  have e62 : v_62 s o p d = -1 ↔ ∀ k, 0 ≤ k → k < w (12 + 68 * o + 5) → ¬ w (452 + 24 * w (12 + 68 * o + 7 + k) + 0) = p := by
    unfold v_62
    rw [g.2.2.2.2.2] at l
    constructor
    · intro z k a b
      rcases l with ⟨-, l⟩ | ⟨l1, -⟩
      · have := l k a b
        rw [(Rel.qp hg rQ rT ho a b).2] at this
        exact this
      · omega
    · intro z
      rcases l with ⟨l, -⟩ | ⟨l1, l2, l3, -⟩
      · exact l
      · rw [(Rel.qp hg rQ rT ho l1 l2).2] at l3
        exact absurd l3 (z _ l1 l2)
  unfold v_60
  rw [show s + 2 + 5 = s + 7 by omega, show s + 2 + 6 = s + 8 by omega, show s + 2 + 4 = s + 6 by omega, rT.1, g.2.2.2.2.1, g.2.2.2.2.2, g.2.2.2.1]
  unfold CanJ at b2
  by_cases c1 : w 9 < 60
  · rw [if_pos c1]
    by_cases c2 : w (12 + 68 * o + 4) = 0
    · rw [if_pos c2]
      rcases b1 with z | z
      · exact z.symm
      · exact absurd c2 (b2.mp z).2.1
    · rw [if_neg c2]
      by_cases c3 : w (12 + 68 * o + 5) < w (12 + 68 * o + 3)
      · rw [if_pos c3]
        by_cases c4 : v_62 s o p d = -1
        · rw [if_pos c4]
          exact (b2.mpr ⟨c1, c2, c3, e62.mp c4⟩).symm
        · rw [if_neg c4]
          rcases b1 with z | z
          · exact z.symm
          · exact absurd (e62.mpr (b2.mp z).2.2.2) c4
      · rw [if_neg c3]
        rcases b1 with z | z
        · exact z.symm
        · exact absurd (b2.mp z).2.2.1 c3
  · rw [if_neg c1]
    rcases b1 with z | z
    · exact z.symm
    · exact absurd (b2.mp z).1 c1
theorem joinLen {p o : Int} {w : Row} (hg : GG w) (ho : 0 ≤ o ∧ o < w 7) (hp : 0 ≤ p ∧ p < w 8) (hc : CanJ p o w) : w (12 + 68 * o + 5) + 1 ≤ w 8 := by
  have go := hg.2.1 o ho.1 ho.2
  have n8 := hg.1.2.1
  have h := pigeon (f := fun k => w (452 + 24 * w (12 + 68 * o + 7 + k) + 0)) (L := (w (12 + 68 * o + 5)).toNat) (N := (w 8).toNat) (fun k a b => by
    have g := hg.2.2.1 o ho.1 ho.2 k a (by omega)
    have gt := hg.2.2.2.1 _ g.1.1 g.1.2
    show 0 ≤ w (452 + 24 * w (12 + 68 * o + 7 + k) + 0) ∧ w (452 + 24 * w (12 + 68 * o + 7 + k) + 0) < (((w 8).toNat : Nat) : Int)
    omega) (fun k i a b c => (hg.2.2.1 o ho.1 ho.2 k (by omega) (by omega)).2.2.2 i a b |>.2) hp.1 (by omega) (fun k a b => hc.2.2.2 k a (by omega))
  omega
theorem join1 {s p o : Int} {d : mD} {w w' : Row} (hg : GG w) (h : Rel s d w) (ho : 0 ≤ o ∧ o < w 7) (hp : 0 ≤ p ∧ p < w 8) (hc : CanJ p o w) (hS : NewW p o w w') : GG w' ∧ Rel s (g_61 s p o d) w' ∧ v_61 s p o d = w 9 := by
  have jl := joinLen hg ho hp hc
  obtain ⟨hN, hO, hQ, hT, hC, hK, hR⟩ := id hg
  obtain ⟨n7, n8, n9, n10, n11, n0, n1, n2, n3, n4, n5, n6⟩ := id hN
  obtain ⟨⟨a1, a2, a3⟩, ⟨o1, o2⟩, rQ, rP, ⟨t1, t2⟩, rC, rK, rR, rB, rH⟩ := h
  obtain ⟨c1, c2, c3, c4⟩ := hc
  obtain ⟨⟨s1, s2, s3, s4, s5⟩, s7, s8, s9, s6⟩ := hS
  have S6 : ∀ i, (¬ (452 + 24 * w 9 ≤ i ∧ i < 452 + 24 * w 9 + 24) ∧ ¬ i = 12 + 68 * o + 7 + w (12 + 68 * o + 5) ∧ ¬ i = 12 + 68 * o + 5 ∧ ¬ i = 9) → w' i = w i := fun i h => s6 i h.1 h.2.1 h.2.2.1 h.2.2.2
  have go := hO o ho.1 ho.2
  have gc := o2 o ho.1 ho.2
  have e : g_61 s p o d = mset (mset (mset (mset (mset (mset (mset (mset (mset (mset d (s + 50) (w 9) p) (s + 51) (w 9) o) (s + 52) (w 9) (w 0)) (s + 53) (w 9) (-1)) (s + 54) (w 9) 0) (s + 55) (w 9) 0) (s + 56) (w 9) 0) (s + 49) 0 (w 9 + 1)) (s + 9) (o * 16 + w (12 + 68 * o + 5)) (w 9)) (s + 8) o (w (12 + 68 * o + 5) + 1) := by
    unfold g_61
    have e96 : g_96 (s + 49) p o (d s 2) d = mset (mset (mset (mset (mset (mset (mset (mset d (s + 50) (w 9) p) (s + 51) (w 9) o) (s + 52) (w 9) (w 0)) (s + 53) (w 9) (-1)) (s + 54) (w 9) 0) (s + 55) (w 9) 0) (s + 56) (w 9) 0) (s + 49) 0 (w 9 + 1) := by
      unfold g_96
      rw [t1, a2, if_pos c1]
      simp only [Int.add_assoc, Int.reduceAdd]
    rw [e96, t1, show s + 2 + 6 = s + 8 by omega, gc.2.2.2.2.2]
    generalize hd1 : mset (mset (mset (mset (mset (mset (mset (mset d (s + 50) (w 9) p) (s + 51) (w 9) o) (s + 52) (w 9) (w 0)) (s + 53) (w 9) (-1)) (s + 54) (w 9) 0) (s + 55) (w 9) 0) (s + 56) (w 9) 0) (s + 49) 0 (w 9 + 1) = d1
    have e8 : d1 (s + 8) o = w (12 + 68 * o + 5) := by
      rw [← hd1]
      simp (disch := omega) only [ms_a]
      exact gc.2.2.2.2.2
    unfold g_40
    rw [show s + 2 + 6 = s + 8 by omega, e8, if_neg (by omega), if_neg (by omega), if_pos (by omega)]
    have st : ∀ (n : Nat), lp_40_40 (s + 2) o (w (12 + 68 * o + 5)) (w 9) n (o * 16) (w (12 + 68 * o + 5)) d1 = mset (mset d1 (s + 9) (o * 16 + w (12 + 68 * o + 5)) (w 9)) (s + 8) o (w (12 + 68 * o + 5) + 1) := fun n => by
      cases n with
      | zero =>
        show st_40_40 (s + 2) o _ _ _ (o * 16) _ d1 = _
        unfold st_40_40
        rw [if_neg (by omega), show s + 2 + 6 = s + 8 by omega, e8, show s + 2 + 7 = s + 9 by omega]
      | succ n =>
        show st_40_40 (s + 2) o _ _ _ (o * 16) _ d1 = _
        unfold st_40_40
        rw [if_neg (by omega), show s + 2 + 6 = s + 8 by omega, e8, show s + 2 + 7 = s + 9 by omega]
    exact st _
  generalize hd : g_61 s p o d = d' at *
  have fd : ∀ b, ¬ (s + 49 ≤ b ∧ b ≤ s + 56) → ¬ b = s + 9 → ¬ b = s + 8 → d' b = d b := fun b x y z => by
    rw [e]
    funext j
    simp (disch := omega) only [ms_a]
  have ew : ∀ i, (i ≤ 11 ∧ ¬ i = 9) ∨ 1916 ≤ i ∨ (420 ≤ i ∧ i < 452) → w' i = w i := fun i hi => S6 i (by omega)
  have et : ∀ t f, 0 ≤ t → t < w 9 → 0 ≤ f → f < 24 → w' (452 + 24 * t + f) = w (452 + 24 * t + f) := fun t f a b x y => S6 _ (by omega)
  have eo : ∀ o' f, 0 ≤ o' → o' < w 7 → 0 ≤ f → f ≤ 6 → ¬ f = 5 → w' (12 + 68 * o' + f) = w (12 + 68 * o' + f) := fun o' f a b x y z => S6 _ (by omega)
  have pO : ∀ k, 0 ≤ k → k < w 10 → perO w' k = perO w k := fun k a b => by
    have g := hK k a b
    unfold perO
    rw [ew (1916 + 5 * k + 1) (by omega), et _ 0 (by omega) (by omega) (by decide) (by decide)]
  have z8 : ∀ q, 0 ≤ q → q < 16 → w' (452 + 24 * w 9 + 8 + q) = 0 := fun q a b => by
    have := s5 (8 + q) (by omega) (by omega)
    rw [show 452 + 24 * w 9 + (8 + q) = 452 + 24 * w 9 + 8 + q by omega] at this
    exact this
  have e8 : ∀ t q, 0 ≤ t → t < w 9 → 0 ≤ q → q < 16 → w' (452 + 24 * t + 8 + q) = w (452 + 24 * t + 8 + q) := fun t q a b x y => by
    have := et t (8 + q) a b (by omega) (by omega)
    rw [show 452 + 24 * t + (8 + q) = 452 + 24 * t + 8 + q by omega] at this
    exact this
  refine ⟨⟨?_, ?_, ?_, ?_, ?_, ?_, hR.k (fun i hi => ew i (by omega)) hN⟩, ⟨?_, ?_, ?_, rP.k (fun b x y => fd b (by omega) (by omega) (by omega)) (fun i hi => ew i (by omega)) n8, ?_, ?_, rK.k (by rw [fd _ (by omega) (by omega) (by omega)]) (fun b x y => fd b (by omega) (by omega) (by omega)) (fun i hi => ew i (by omega)) n10, rR.k (by rw [fd _ (by omega) (by omega) (by omega)]) (fd _ (by omega) (by omega) (by omega)) (fun i hi => ew i (by omega)) n11, ?_, ?_⟩, ?_⟩
  · unfold GN
    rw [s9, ew 0 (by omega), ew 1 (by omega), ew 2 (by omega), ew 3 (by omega), ew 4 (by omega), ew 5 (by omega), ew 6 (by omega), ew 7 (by omega), ew 8 (by omega), ew 10 (by omega), ew 11 (by omega)]
    omega
  · -- offices
    intro o' x y
    rw [ew 7 (by omega)] at y
    have g := hO o' x y
    rw [eo o' 1 x y (by omega) (by omega) (by omega), eo o' 2 x y (by omega) (by omega) (by omega), eo o' 3 x y (by omega) (by omega) (by omega), eo o' 4 x y (by omega) (by omega) (by omega), eo o' 6 x y (by omega) (by omega) (by omega), s9, csum_s _ n9.1]
    have hs : csum (fun t => if w' (452 + 24 * t + 4) = 1 ∧ w' (452 + 24 * t + 1) = o' then 1 else 0) (w 9).toNat = csum (fun t => if w (452 + 24 * t + 4) = 1 ∧ w (452 + 24 * t + 1) = o' then 1 else 0) (w 9).toNat := csum_congr (fun t a b => by rw [et t 4 a (by omega) (by decide) (by decide), et t 1 a (by omega) (by decide) (by decide)])
    have hz : (if w' (452 + 24 * w 9 + 4) = 1 ∧ w' (452 + 24 * w 9 + 1) = o' then (1 : Int) else 0) = 0 := by
      rw [s5 4 (by omega) (by omega), if_neg (fun z => absurd z.1 (by decide))]
    rw [hs, hz]
    by_cases hoo : o' = o
    · subst hoo
      rw [s8]
      refine ⟨g.1, g.2.1, g.2.2.1, g.2.2.2.1, by omega, fun z => absurd z c2, by omega⟩
    · rw [S6 (12 + 68 * o' + 5) (by omega)]
      exact ⟨g.1, g.2.1, g.2.2.1, g.2.2.2.1, g.2.2.2.2.1, g.2.2.2.2.2.1, by omega⟩
  · -- queues
    intro o' x y k u v
    rw [ew 7 (by omega)] at y
    have go' := hO o' x y
    have old : k < w (12 + 68 * o' + 5) → w' (12 + 68 * o' + 7 + k) = w (12 + 68 * o' + 7 + k) ∧ ((0 ≤ w' (12 + 68 * o' + 7 + k) ∧ w' (12 + 68 * o' + 7 + k) < w' 9) ∧ w' (452 + 24 * w' (12 + 68 * o' + 7 + k) + 1) = o' ∧ w' (452 + 24 * w' (12 + 68 * o' + 7 + k) + 4) = 0
        ∧ ∀ i, 0 ≤ i → i < k → w' (452 + 24 * w' (12 + 68 * o' + 7 + i) + 2) ≤ w' (452 + 24 * w' (12 + 68 * o' + 7 + k) + 2) ∧ ¬ w' (452 + 24 * w' (12 + 68 * o' + 7 + i) + 0) = w' (452 + 24 * w' (12 + 68 * o' + 7 + k) + 0)) := fun hk => by
      have g := hQ o' x y k u hk
      have ek : ∀ i, 0 ≤ i → i < w (12 + 68 * o' + 5) → w' (12 + 68 * o' + 7 + i) = w (12 + 68 * o' + 7 + i) := fun i a b => by
        have hne : ¬ 12 + 68 * o' + 7 + i = 12 + 68 * o + 7 + w (12 + 68 * o + 5) := fun q => by
          by_cases hoo : o' = o
          · rw [hoo] at b q
            omega
          · omega
        exact s6 _ (by omega) hne (by omega) (by omega)
      rw [ek k u hk, s9, et _ 1 g.1.1 g.1.2 (by decide) (by decide), et _ 4 g.1.1 g.1.2 (by decide) (by decide), et _ 2 g.1.1 g.1.2 (by decide) (by decide), et _ 0 g.1.1 g.1.2 (by decide) (by decide)]
      refine ⟨rfl, by omega, g.2.1, g.2.2.1, fun i a b => ?_⟩
      have gi := hQ o' x y i a (by omega)
      rw [ek i a (by omega), et _ 2 gi.1.1 gi.1.2 (by decide) (by decide), et _ 0 gi.1.1 gi.1.2 (by decide) (by decide)]
      exact g.2.2.2 i a b
    by_cases hoo : o' = o
    · subst hoo
      rw [s8] at v
      by_cases hk : k = w (12 + 68 * o' + 5)
      · rw [hk, s7, s9, s2, s5 4 (by omega) (by omega), s3, s1]
        refine ⟨by omega, rfl, rfl, fun i a b => ?_⟩
        have gi := hQ o' x y i a b
        have gt := hT _ gi.1.1 gi.1.2
        rw [S6 (12 + 68 * o' + 7 + i) (by omega), et _ 2 gi.1.1 gi.1.2 (by decide) (by decide), et _ 0 gi.1.1 gi.1.2 (by decide) (by decide)]
        exact ⟨gt.2.2.1.2, c4 i a b⟩
      · exact (old (by omega)).2
    · rw [S6 (12 + 68 * o' + 5) (by omega)] at v
      exact (old v).2
  · -- tickets
    intro t x y
    rw [s9] at y
    rw [ew 0 (by omega), ew 7 (by omega), ew 8 (by omega)]
    by_cases ht : t = w 9
    · rw [ht, s1, s2, s3, s4, s5 4 (by omega) (by omega)]
      refine ⟨hp, ho, by omega, by omega, fun _ => ⟨rfl, w (12 + 68 * o + 5), by omega, by rw [s8]; omega, s7⟩, fun z => absurd rfl z⟩
    · have lt : t < w 9 := by omega
      have g := hT t x lt
      rw [et t 0 x lt (by decide) (by decide), et t 1 x lt (by decide) (by decide), et t 2 x lt (by decide) (by decide), et t 3 x lt (by decide) (by decide), et t 4 x lt (by decide) (by decide)]
      refine ⟨g.1, g.2.1, g.2.2.1, g.2.2.2.1, fun z => ?_, g.2.2.2.2.2⟩
      obtain ⟨z1, k, z2, z3, z4⟩ := g.2.2.2.2.1 z
      have go' := hO _ g.2.1.1 g.2.1.2
      refine ⟨z1, k, z2, ?_, ?_⟩
      · by_cases hoo : w (452 + 24 * t + 1) = o
        · rw [hoo] at z3 ⊢
          rw [s8]
          omega
        · rw [S6 _ (by omega)]
          exact z3
      · have hne : ¬ 12 + 68 * w (452 + 24 * t + 1) + 7 + k = 12 + 68 * o + 7 + w (12 + 68 * o + 5) := fun q => by
          by_cases hoo : w (452 + 24 * t + 1) = o
          · rw [hoo] at z3 q
            omega
          · omega
        rw [s6 _ (by omega) hne (by omega) (by omega)]
        exact z4
  · -- claims
    intro t x y
    rw [s9] at y
    rw [ew 0 (by omega)]
    by_cases ht : t = w 9
    · rw [ht, s5 4 (by omega) (by omega), s5 5 (by omega) (by omega), s5 6 (by omega) (by omega)]
      refine ⟨Or.inl rfl, Or.inl rfl, fun z => absurd z (by decide), fun z => absurd z (by decide), fun q a b => ?_⟩
      rw [z8 q a b]
      omega
    · have lt : t < w 9 := by omega
      have g := hC t x lt
      rw [et t 3 x lt (by decide) (by decide), et t 4 x lt (by decide) (by decide), et t 5 x lt (by decide) (by decide), et t 6 x lt (by decide) (by decide)]
      exact ⟨g.1, g.2.1, g.2.2.1, g.2.2.2.1, fun q a b => by rw [e8 t q x (by omega) a b]; exact g.2.2.2.2 q a b⟩
  · -- tokens
    intro k x y
    rw [ew 10 (by omega)] at y
    have g := hK k x y
    rw [ew (1916 + 5 * k + 0) (by omega), ew (1916 + 5 * k + 1) (by omega), ew (1916 + 5 * k + 2) (by omega), ew (1916 + 5 * k + 3) (by omega), ew (1916 + 5 * k + 4) (by omega), ew 0 (by omega), ew 8 (by omega), s9, pO k x y]
    refine ⟨g.1, by omega, g.2.2.1, g.2.2.2.1, g.2.2.2.2.1, fun i a b => ?_⟩
    rw [ew (1916 + 5 * i + 2) (by omega), pO i a (by omega)]
    exact g.2.2.2.2.2 i a b
  · exact ⟨by rw [fd _ (by omega) (by omega) (by omega), ew 1 (by omega)]; exact a1, by rw [fd _ (by omega) (by omega) (by omega), ew 0 (by omega)]; exact a2, fun k x y => by rw [fd _ (by omega) (by omega) (by omega), ew _ (by omega)]; exact a3 k x y⟩
  · refine ⟨by rw [fd _ (by omega) (by omega) (by omega), ew 7 (by omega)]; exact o1, fun o' x y => ?_⟩
    rw [ew 7 (by omega)] at y
    have g := o2 o' x y
    rw [fd (s + 3) (by omega) (by omega) (by omega), fd (s + 4) (by omega) (by omega) (by omega), fd (s + 5) (by omega) (by omega) (by omega), fd (s + 6) (by omega) (by omega) (by omega), fd (s + 7) (by omega) (by omega) (by omega), eo o' 0 x y (by omega) (by omega) (by omega), eo o' 1 x y (by omega) (by omega) (by omega), eo o' 2 x y (by omega) (by omega) (by omega), eo o' 3 x y (by omega) (by omega) (by omega), eo o' 4 x y (by omega) (by omega) (by omega)]
    refine ⟨g.1, g.2.1, g.2.2.1, g.2.2.2.1, g.2.2.2.2.1, ?_⟩
    rw [e]
    by_cases hoo : o' = o
    · rw [hoo, s8]
      simp (disch := omega) only [ms_e]
    · rw [S6 (12 + 68 * o' + 5) (by omega)]
      simp (disch := omega) only [ms_a, ms_i]
      exact g.2.2.2.2.2
  · intro o' x y k u v
    rw [ew 7 (by omega)] at y
    have go' := hO o' x y
    rw [e]
    by_cases hoo : o' = o
    · subst hoo
      rw [s8] at v
      by_cases hk : k = w (12 + 68 * o' + 5)
      · rw [hk, s7]
        simp (disch := omega) only [ms_a, ms_e]
      · rw [S6 _ (by omega)]
        simp (disch := omega) only [ms_a, ms_i]
        exact rQ o' x y k u (by omega)
    · rw [S6 (12 + 68 * o' + 5) (by omega)] at v
      rw [S6 _ (by omega)]
      simp (disch := omega) only [ms_a, ms_i]
      exact rQ o' x y k u v
  · refine ⟨?_, fun t x y => ?_⟩
    · rw [e, s9]
      simp (disch := omega) only [ms_a, ms_e]
    · rw [s9] at y
      rw [e]
      by_cases ht : t = w 9
      · rw [ht, s1, s2, s3, s4, s5 4 (by omega) (by omega)]
        simp (disch := omega) only [ms_a, ms_e]
        exact ⟨trivial, trivial, trivial, trivial, trivial⟩
      · rw [et t 0 x (by omega) (by decide) (by decide), et t 1 x (by omega) (by decide) (by decide), et t 2 x (by omega) (by decide) (by decide), et t 3 x (by omega) (by decide) (by decide), et t 4 x (by omega) (by decide) (by decide)]
        simp (disch := omega) only [ms_a, ms_i]
        exact t2 t x (by omega)
  · intro t x y
    rw [s9] at y
    rw [e]
    by_cases ht : t = w 9
    · rw [ht, s5 5 (by omega) (by omega), s5 6 (by omega) (by omega), s5 7 (by omega) (by omega)]
      simp (disch := omega) only [ms_a, ms_e]
      refine ⟨by decide, (csum_zero (fun q a b => by rw [if_pos (z8 q a (by omega))])).symm, fun q a b => ?_, by decide⟩
      rw [ib_zero, z8 q a b]
      simp
    · rw [et t 5 x (by omega) (by decide) (by decide), et t 6 x (by omega) (by decide) (by decide), et t 7 x (by omega) (by decide) (by decide)]
      simp (disch := omega) only [ms_a, ms_i]
      obtain ⟨g1, g2, g3, g4⟩ := rC t x (by omega)
      refine ⟨g1, ?_, fun q a b => by rw [e8 t q x (by omega) a b]; exact g3 q a b, g4⟩
      rw [g2]
      exact csum_congr (fun q a b => by rw [e8 t q x (by omega) a (by omega)])
  · intro q x y
    rw [ew 8 (by omega)] at y
    obtain ⟨g1, g2, g3⟩ := rB q x y
    rw [fd (s + 13) (by omega) (by omega) (by omega), fd (s + 14) (by omega) (by omega) (by omega), fd (s + 15) (by omega) (by omega) (by omega)]
    refine ⟨?_, ?_, fun r a b => ?_⟩
    · rw [g1]
      unfold madeR
      rw [ew 10 (by omega), ew 0 (by omega)]
      exact csum_congr (fun k a b => by rw [pO k a (by omega), ew (1916 + 5 * k + 4) (by omega)])
    · rw [g2]
      unfold attR
      rw [s9, csum_s _ n9.1, z8 q x (by omega), ew 0 (by omega), if_neg (fun z => absurd z.1 (by decide)), Int.add_zero]
      exact csum_congr (fun t a b => by rw [e8 t q a (by omega) x (by omega)])
    · rw [g3 r a b]
      unfold attd
      rw [s9, ew 0 (by omega)]
      constructor
      · rintro ⟨t, z1, z2, z3, z4⟩
        exact ⟨t, z1, by omega, by rw [et t 0 z1 z2 (by omega) (by omega)]; exact z3, by rw [e8 t q z1 z2 x (by omega)]; exact z4⟩
      · rintro ⟨t, z1, z2, z3, z4⟩
        by_cases ht : t = w 9
        · rw [ht, z8 q x (by omega)] at z4
          omega
        · rw [et t 0 z1 (by omega) (by decide) (by decide)] at z3
          rw [e8 t q z1 (by omega) x (by omega)] at z4
          exact ⟨t, z1, by omega, z3, z4⟩
  · intro q x y h' u v
    rw [ew 8 (by omega)] at y
    rw [fd _ (by omega) (by omega) (by omega), ew 10 (by omega)]
    refine (rH q x y h' u v).trans ⟨?_, ?_⟩
    · rintro ⟨k, z1, z2, z3, z4⟩
      exact ⟨k, z1, z2, by rw [ew _ (by omega)]; exact z3, by rw [pO k z1 z2]; exact z4⟩
    · rintro ⟨k, z1, z2, z3, z4⟩
      rw [ew _ (by omega)] at z3
      rw [pO k z1 z2] at z4
      exact ⟨k, z1, z2, z3, z4⟩
  · exact t1
theorem join {s p o : Int} {d : mD} {w : Row} (hg : GG w) (h : Rel s d w) (ho : 0 ≤ o ∧ o < w 7) (hp : 0 ≤ p ∧ p < w 8) (hc : CanJ p o w) : v_61 s p o d = V_226 p o w ∧ GG (W_226 p o w) ∧ Rel s (g_61 s p o d) (W_226 p o w) := by
  have n7 := hg.1.1
  have n9 := hg.1.2.2.1
  have go := hg.2.1 o ho.1 ho.2
  obtain ⟨v, hS⟩ := newW (p := p) (o := o) (w := w) (by omega) n9 (by omega)
  obtain ⟨x, y, z⟩ := join1 hg h ho hp hc hS
  unfold V_226 W_226
  exact ⟨by rw [z, v], x, y⟩
/-! ===== a ticket leaves its queue ===== -/
def sg (p k : Int) : Int := if k < p then k else k + 1
theorem sg_r (p k : Int) : (sg p k = k ∧ k < p) ∨ (sg p k = k + 1 ∧ p ≤ k) := by
  unfold sg
  split <;> omega
def StepL (o p t : Int) (w w' : Row) : Prop := w' (12 + 68 * o + 5) = w (12 + 68 * o + 5) - 1 ∧ w' (452 + 24 * t + 4) = 2 ∧ w' (452 + 24 * t + 3) = w 0 ∧ (∀ k, 0 ≤ k → k < w (12 + 68 * o + 5) - 1 → w' (12 + 68 * o + 7 + k) = w (12 + 68 * o + 7 + sg p k))
  ∧ ∀ i, ¬ i = 12 + 68 * o + 5 → ¬ i = 452 + 24 * t + 4 → ¬ i = 452 + 24 * t + 3 → ¬ (12 + 68 * o + 7 ≤ i ∧ i < 12 + 68 * o + 7 + (w (12 + 68 * o + 5) - 1)) → w' i = w i
theorem leave1 {s o p t : Int} {d d1 d' : mD} {w w' : Row} (hg : GG w) (h : Rel s d w) (ho : 0 ≤ o ∧ o < w 7) (hp : 0 ≤ p ∧ p < w (12 + 68 * o + 5)) (et : w (12 + 68 * o + 7 + p) = t) (hS : StepL o p t w w') (hd1 : TakeD s o p d d1) (hd : d' = mset (mset d1 (s + 54) t 2) (s + 53) t (w 0)) : GG w' ∧ Rel s d' w' := by
  obtain ⟨hN, hO, hQ, hT, hC, hK, hR⟩ := hg
  obtain ⟨n7, n8, n9, n10, n11, n0, n1, n2, n3, n4, n5, n6⟩ := id hN
  obtain ⟨⟨a1, a2, a3⟩, ⟨o1, o2⟩, rQ, rP, ⟨t1, t2⟩, rC, rK, rR, rB, rH⟩ := h
  obtain ⟨s1, s3, s4, s5, s6⟩ := hS
  have S6 : ∀ i, (¬ i = 12 + 68 * o + 5 ∧ ¬ i = 452 + 24 * t + 4 ∧ ¬ i = 452 + 24 * t + 3 ∧ ¬ (12 + 68 * o + 7 ≤ i ∧ i < 12 + 68 * o + 7 + (w (12 + 68 * o + 5) - 1))) → w' i = w i := fun i h => s6 i h.1 h.2.1 h.2.2.1 h.2.2.2
  obtain ⟨q1, q2, q3, q4, q5⟩ := hd1
  have go := hO o ho.1 ho.2
  have gq := hQ o ho.1 ho.2 p hp.1 hp.2
  rw [et] at gq
  have e8 : d (s + 8) o = w (12 + 68 * o + 5) := (o2 o ho.1 ho.2).2.2.2.2.2
  rw [e8] at q3 q4 q5
  have fd : ∀ b, ¬ b = s + 54 → ¬ b = s + 53 → ¬ b = s + 8 → ¬ b = s + 9 → d' b = d b := fun b x y z u => by
    rw [hd, ← q1 b z u]
    funext j
    simp (disch := omega) only [ms_a]
  have f1 : ∀ b, ¬ b = s + 54 → ¬ b = s + 53 → d' b = d1 b := fun b x y => by
    rw [hd]
    funext j
    simp (disch := omega) only [ms_a]
  -- the ticket is in no other place
  have other : ∀ o', 0 ≤ o' → o' < w 7 → ∀ k, 0 ≤ k → k < w (12 + 68 * o' + 5) → ¬ (o' = o ∧ k = p) → ¬ w (12 + 68 * o' + 7 + k) = t := by
    intro o' x y k u v hn e
    have g := hQ o' x y k u v
    rw [e] at g
    by_cases hoo : o' = o
    · subst hoo
      rcases Int.lt_trichotomy k p with hk | hk | hk
      · have g2 := (hQ o' x y p hp.1 hp.2).2.2.2 k u hk
        rw [e, et] at g2
        exact g2.2 rfl
      · exact hn ⟨rfl, hk⟩
      · have g2 := g.2.2.2 p hp.1 hk
        rw [et] at g2
        exact g2.2 rfl
    · omega
  have cl := hC _ gq.1.1 gq.1.2
  refine ⟨⟨hN.k (fun i hi => S6 i (by omega)), ?_, ?_, ?_, ?_, hK.k (fun i hi => S6 i (by omega)) hN, hR.k (fun i hi => S6 i (by omega)) hN⟩, ⟨?_, ?_, ?_, rP.k (fun b x y => fd b (by omega) (by omega) (by omega) (by omega)) (fun i hi => S6 i (by omega)) n8, ?_, rC.k (fun b x => fd b (by omega) (by omega) (by omega) (by omega)) (fun i hi => S6 i (by omega)) n9, rK.k (by rw [fd _ (by omega) (by omega) (by omega) (by omega)]) (fun b x y => fd b (by omega) (by omega) (by omega) (by omega)) (fun i hi => S6 i (by omega)) n10, rR.k (by rw [fd _ (by omega) (by omega) (by omega) (by omega)]) (fd _ (by omega) (by omega) (by omega) (by omega)) (fun i hi => S6 i (by omega)) n11, rB.k (fun b x y => fd b (by omega) (by omega) (by omega) (by omega)) (fun i hi => S6 i (by omega)) n8 n9 n10 hK.of, rH.k (fun b x y => fd b (by omega) (by omega) (by omega) (by omega)) (fun i hi => S6 i (by omega)) n8 n9 n10 hK.of⟩⟩
  · -- offices
    intro o' x y
    rw [S6 7 (by omega)] at y
    have g := hO o' x y
    rw [S6 (12 + 68 * o' + 1) (by omega), S6 (12 + 68 * o' + 2) (by omega), S6 (12 + 68 * o' + 3) (by omega), S6 (12 + 68 * o' + 4) (by omega), S6 (12 + 68 * o' + 6) (by omega), S6 9 (by omega)]
    have hs := csum_upd (f := fun t => if w' (452 + 24 * t + 4) = 1 ∧ w' (452 + 24 * t + 1) = o' then 1 else 0) (g := fun t => if w (452 + 24 * t + 4) = 1 ∧ w (452 + 24 * t + 1) = o' then 1 else 0) (n := (w 9).toNat) (k := t) gq.1.1 (by omega) (fun i a b c => by
      show (if w' (452 + 24 * i + 4) = 1 ∧ w' (452 + 24 * i + 1) = o' then (1 : Int) else 0) = if w (452 + 24 * i + 4) = 1 ∧ w (452 + 24 * i + 1) = o' then 1 else 0
      rw [S6 (452 + 24 * i + 4) (by omega), S6 (452 + 24 * i + 1) (by omega)])
    rw [s3, gq.2.2.1, if_neg (fun z => absurd z.1 (by decide)), if_neg (fun z => absurd z.1 (by decide))] at hs
    rw [hs]
    by_cases hoo : o' = o
    · subst hoo
      rw [s1]
      refine ⟨g.1, g.2.1, g.2.2.1, g.2.2.2.1, by omega, fun z => by have := g.2.2.2.2.2.1 z; omega, by rw [g.2.2.2.2.2.2]; omega⟩
    · rw [S6 (12 + 68 * o' + 5) (by omega)]
      refine ⟨g.1, g.2.1, g.2.2.1, g.2.2.2.1, g.2.2.2.2.1, g.2.2.2.2.2.1, by rw [g.2.2.2.2.2.2]; omega⟩
  · -- queues
    intro o' x y k u v
    rw [S6 7 (by omega)] at y
    by_cases hoo : o' = o
    · subst hoo
      rw [s1] at v
      have hk := sg_r p k
      have g := hQ o' x y (sg p k) (by omega) (by omega)
      have ne := other o' x y (sg p k) (by omega) (by omega) (by omega)
      rw [s5 k u v, S6 9 (by omega), S6 (452 + 24 * w (12 + 68 * o' + 7 + sg p k) + 1) (by omega), S6 (452 + 24 * w (12 + 68 * o' + 7 + sg p k) + 4) (by omega)]
      refine ⟨g.1, g.2.1, g.2.2.1, fun i a b => ?_⟩
      have hi := sg_r p i
      have g2 := g.2.2.2 (sg p i) (by omega) (by omega)
      have gi := hQ o' x y (sg p i) (by omega) (by omega)
      rw [s5 i a (by omega), S6 (452 + 24 * w (12 + 68 * o' + 7 + sg p k) + 2) (by omega), S6 (452 + 24 * w (12 + 68 * o' + 7 + sg p k) + 0) (by omega), S6 (452 + 24 * w (12 + 68 * o' + 7 + sg p i) + 2) (by omega), S6 (452 + 24 * w (12 + 68 * o' + 7 + sg p i) + 0) (by omega)]
      exact g2
    · have go' := hO o' x y
      rw [S6 (12 + 68 * o' + 5) (by omega)] at v
      have g := hQ o' x y k u v
      have ne := other o' x y k u v (by omega)
      rw [S6 (12 + 68 * o' + 7 + k) (by omega), S6 9 (by omega), S6 (452 + 24 * w (12 + 68 * o' + 7 + k) + 1) (by omega), S6 (452 + 24 * w (12 + 68 * o' + 7 + k) + 4) (by omega)]
      refine ⟨g.1, g.2.1, g.2.2.1, fun i a b => ?_⟩
      have gi := hQ o' x y i a (by omega)
      rw [S6 (12 + 68 * o' + 7 + i) (by omega), S6 (452 + 24 * w (12 + 68 * o' + 7 + k) + 2) (by omega), S6 (452 + 24 * w (12 + 68 * o' + 7 + k) + 0) (by omega), S6 (452 + 24 * w (12 + 68 * o' + 7 + i) + 2) (by omega), S6 (452 + 24 * w (12 + 68 * o' + 7 + i) + 0) (by omega)]
      exact g.2.2.2 i a b
  · -- tickets
    intro t' x y
    rw [S6 9 (by omega)] at y
    have g := hT t' x y
    rw [S6 (452 + 24 * t' + 0) (by omega), S6 (452 + 24 * t' + 1) (by omega), S6 (452 + 24 * t' + 2) (by omega), S6 0 (by omega), S6 7 (by omega), S6 8 (by omega)]
    by_cases ht : t' = t
    · rw [ht, s3, s4]
      rw [ht] at g
      exact ⟨g.1, g.2.1, g.2.2.1, by omega, fun z => by omega, fun _ => by omega⟩
    · rw [S6 (452 + 24 * t' + 3) (by omega), S6 (452 + 24 * t' + 4) (by omega)]
      refine ⟨g.1, g.2.1, g.2.2.1, g.2.2.2.1, fun z => ?_, g.2.2.2.2.2⟩
      obtain ⟨z1, k, z2, z3, z4⟩ := g.2.2.2.2.1 z
      refine ⟨z1, ?_⟩
      have go' := hO _ g.2.1.1 g.2.1.2
      by_cases hoo : w (452 + 24 * t' + 1) = o
      · rw [hoo] at z3 z4 ⊢
        have hk : ¬ k = p := by
          intro hk
          rw [hk, et] at z4
          exact ht z4.symm
        by_cases hk2 : k < p
        · refine ⟨k, z2, by rw [s1]; omega, ?_⟩
          rw [s5 k z2 (by omega), show sg p k = k by have := sg_r p k; omega]
          exact z4
        · refine ⟨k - 1, by omega, by rw [s1]; omega, ?_⟩
          rw [s5 (k - 1) (by omega) (by omega), show sg p (k - 1) = k by have := sg_r p (k - 1); omega]
          exact z4
      · exact ⟨k, z2, by rw [S6 _ (by omega)]; exact z3, by rw [S6 _ (by omega)]; exact z4⟩
  · -- claims
    intro t' x y
    rw [S6 9 (by omega)] at y
    have g := hC t' x y
    rw [S6 (452 + 24 * t' + 5) (by omega), S6 (452 + 24 * t' + 6) (by omega), S6 0 (by omega)]
    have gp : ∀ p, 0 ≤ p → p < 16 → 0 ≤ w' (452 + 24 * t' + 8 + p) ∧ w' (452 + 24 * t' + 8 + p) ≤ w 0 + 1 := fun p a b => by
      rw [S6 _ (by omega)]
      exact g.2.2.2.2 p a b
    by_cases ht : t' = t
    · rw [ht] at g gp ⊢
      rw [s3, s4]
      have h5 : ¬ w (452 + 24 * t + 5) = 1 := fun z => by
        have := g.2.2.2.1 z
        omega
      exact ⟨g.1, g.2.1, fun z => absurd (g.2.2.1 z).1 h5, fun z => absurd z h5, gp⟩
    · rw [S6 (452 + 24 * t' + 3) (by omega), S6 (452 + 24 * t' + 4) (by omega)]
      exact ⟨g.1, g.2.1, g.2.2.1, g.2.2.2.1, gp⟩
  · refine ⟨?_, ?_, fun k x y => ?_⟩
    · rw [fd _ (by omega) (by omega) (by omega) (by omega), S6 1 (by omega)]; exact a1
    · rw [fd _ (by omega) (by omega) (by omega) (by omega), S6 0 (by omega)]; exact a2
    · rw [fd _ (by omega) (by omega) (by omega) (by omega), S6 _ (by omega)]; exact a3 k x y
  · refine ⟨?_, fun o' x y => ?_⟩
    · rw [fd _ (by omega) (by omega) (by omega) (by omega), S6 7 (by omega)]; exact o1
    · rw [S6 7 (by omega)] at y
      have g := o2 o' x y
      rw [fd (s + 3) (by omega) (by omega) (by omega) (by omega), fd (s + 4) (by omega) (by omega) (by omega) (by omega), fd (s + 5) (by omega) (by omega) (by omega) (by omega), fd (s + 6) (by omega) (by omega) (by omega) (by omega), fd (s + 7) (by omega) (by omega) (by omega) (by omega), S6 (12 + 68 * o' + 0) (by omega), S6 (12 + 68 * o' + 1) (by omega), S6 (12 + 68 * o' + 2) (by omega), S6 (12 + 68 * o' + 3) (by omega), S6 (12 + 68 * o' + 4) (by omega), f1 (s + 8) (by omega) (by omega)]
      refine ⟨g.1, g.2.1, g.2.2.1, g.2.2.2.1, g.2.2.2.2.1, ?_⟩
      by_cases hoo : o' = o
      · rw [hoo, q3, s1]
      · rw [q2 o' hoo, S6 (12 + 68 * o' + 5) (by omega)]
        exact g.2.2.2.2.2
  · intro o' x y k u v
    rw [S6 7 (by omega)] at y
    have go' := hO o' x y
    rw [f1 (s + 9) (by omega) (by omega)]
    by_cases hoo : o' = o
    · subst hoo
      rw [s1] at v
      rw [s5 k u v]
      rcases sg_r p k with hk | hk
      · rw [hk.1, q5 _ (by omega)]
        exact rQ o' x y k u (by omega)
      · rw [hk.1, q4 k hk.2 v]
        have := rQ o' x y (k + 1) (by omega) (by omega)
        rw [show o' * 16 + (k + 1) = o' * 16 + k + 1 by omega] at this
        exact this
    · rw [S6 (12 + 68 * o' + 5) (by omega)] at v
      rw [q5 _ (by omega), S6 _ (by omega)]
      exact rQ o' x y k u v
  · refine ⟨?_, fun t' x y => ?_⟩
    · rw [fd _ (by omega) (by omega) (by omega) (by omega), S6 9 (by omega)]; exact t1
    · rw [S6 9 (by omega)] at y
      have g := t2 t' x y
      rw [fd (s + 50) (by omega) (by omega) (by omega) (by omega), fd (s + 51) (by omega) (by omega) (by omega) (by omega), fd (s + 52) (by omega) (by omega) (by omega) (by omega), S6 (452 + 24 * t' + 0) (by omega), S6 (452 + 24 * t' + 1) (by omega), S6 (452 + 24 * t' + 2) (by omega), hd]
      by_cases ht : t' = t
      · rw [ht] at g ⊢
        rw [s3, s4]
        simp (disch := omega) only [ms_a, ms_e]
        exact ⟨g.1, g.2.1, g.2.2.1, trivial, trivial⟩
      · rw [S6 (452 + 24 * t' + 3) (by omega), S6 (452 + 24 * t' + 4) (by omega)]
        simp (disch := omega) only [ms_a, ms_i]
        rw [q1 (s + 53) (by omega) (by omega), q1 (s + 54) (by omega) (by omega)]
        exact g
-- where a ticket stands
theorem lp221 {t b : Int} : ∀ (n : Nat) (x : Int) (w : Row), 0 ≤ x → w (b + 5) - x ≤ (n : Int) → (LP_221_17 t n b x w = -1 ∧ ∀ k, x ≤ k → k < w (b + 5) → ¬ w (b + 7 + k) = t) ∨ (x ≤ LP_221_17 t n b x w ∧ LP_221_17 t n b x w < w (b + 5) ∧ w (b + 7 + LP_221_17 t n b x w) = t ∧ ∀ k, x ≤ k → k < LP_221_17 t n b x w → ¬ w (b + 7 + k) = t) := by
  intro n
  induction n with
  | zero =>
    intro x w h0 hn
    have e : LP_221_17 t 0 b x w = -1 := by
      show ST_221_17 t _ b x w = -1
      unfold ST_221_17
      rw [if_neg (by omega)]
    rw [e]
    exact Or.inl ⟨rfl, fun k a c => by omega⟩
  | succ n ih =>
    intro x w h0 hn
    by_cases c : x < w (b + 5)
    · by_cases c2 : w (b + 7 + x) = t
      · have e : LP_221_17 t (n + 1) b x w = x := by
          show ST_221_17 t _ b x w = x
          unfold ST_221_17
          rw [if_pos c, if_pos c2]
        rw [e]
        exact Or.inr ⟨by omega, c, c2, fun k a b => by omega⟩
      · have e : LP_221_17 t (n + 1) b x w = LP_221_17 t n b (x + 1) w := by
          show ST_221_17 t _ b x w = _
          unfold ST_221_17
          rw [if_pos c, if_neg c2]
        rw [e]
        rcases ih (x + 1) w (by omega) (by omega) with ⟨i1, i2⟩ | ⟨i1, i2, i3, i4⟩
        · refine Or.inl ⟨i1, fun k a b => ?_⟩
          by_cases hk : k = x
          · rw [hk]; exact c2
          · exact i2 k (by omega) b
        · refine Or.inr ⟨by omega, i2, i3, fun k a b => ?_⟩
          by_cases hk : k = x
          · rw [hk]; exact c2
          · exact i4 k (by omega) b
    · have e : LP_221_17 t (n + 1) b x w = -1 := by
        show ST_221_17 t _ b x w = -1
        unfold ST_221_17
        rw [if_neg c]
      rw [e]
      exact Or.inl ⟨rfl, fun k a c => by omega⟩
theorem lp39 {s o t : Int} : ∀ (n : Nat) (x : Int) (d : mD), 0 ≤ x → d (s + 8) o - x ≤ (n : Int) → (lp_39_2 (s + 2) o t n x d = -1 ∧ ∀ k, x ≤ k → k < d (s + 8) o → ¬ d (s + 9) (o * 16 + k) = t) ∨ (x ≤ lp_39_2 (s + 2) o t n x d ∧ lp_39_2 (s + 2) o t n x d < d (s + 8) o ∧ d (s + 9) (o * 16 + lp_39_2 (s + 2) o t n x d) = t ∧ ∀ k, x ≤ k → k < lp_39_2 (s + 2) o t n x d → ¬ d (s + 9) (o * 16 + k) = t) := by
  intro n
  induction n with
  | zero =>
    intro x d h0 hn
    have e : lp_39_2 (s + 2) o t 0 x d = -1 := by
      show st_39_2 (s + 2) o t _ x d = -1
      unfold st_39_2
      rw [if_neg (by rw [show s + 2 + 6 = s + 8 by omega]; omega)]
    rw [e]
    exact Or.inl ⟨rfl, fun k a c => by omega⟩
  | succ n ih =>
    intro x d h0 hn
    by_cases c : x < d (s + 8) o
    · by_cases c2 : d (s + 9) (o * 16 + x) = t
      · have e : lp_39_2 (s + 2) o t (n + 1) x d = x := by
          show st_39_2 (s + 2) o t _ x d = x
          unfold st_39_2 v_38
          rw [show s + 2 + 6 = s + 8 by omega, show s + 2 + 7 = s + 9 by omega, if_pos c, if_pos c2]
        rw [e]
        exact Or.inr ⟨by omega, c, c2, fun k a b => by omega⟩
      · have e : lp_39_2 (s + 2) o t (n + 1) x d = lp_39_2 (s + 2) o t n (x + 1) d := by
          show st_39_2 (s + 2) o t _ x d = _
          unfold st_39_2 v_38
          rw [show s + 2 + 6 = s + 8 by omega, show s + 2 + 7 = s + 9 by omega, if_pos c, if_neg c2]
        rw [e]
        rcases ih (x + 1) d (by omega) (by omega) with ⟨i1, i2⟩ | ⟨i1, i2, i3, i4⟩
        · refine Or.inl ⟨i1, fun k a b => ?_⟩
          by_cases hk : k = x
          · rw [hk]; exact c2
          · exact i2 k (by omega) b
        · refine Or.inr ⟨by omega, i2, i3, fun k a b => ?_⟩
          by_cases hk : k = x
          · rw [hk]; exact c2
          · exact i4 k (by omega) b
    · have e : lp_39_2 (s + 2) o t (n + 1) x d = -1 := by
        show st_39_2 (s + 2) o t _ x d = -1
        unfold st_39_2
        rw [if_neg (by rw [show s + 2 + 6 = s + 8 by omega]; omega)]
      rw [e]
      exact Or.inl ⟨rfl, fun k a c => by omega⟩
theorem placeEq {s t : Int} {d : mD} {w : Row} (hg : GG w) (h : Rel s d w) (ht : 0 ≤ t ∧ t < w 9) : v_39 (s + 2) (w (452 + 24 * t + 1)) t d = V_221 t w ∧ ((V_221 t w = -1 ∧ ∀ k, 0 ≤ k → k < w (12 + 68 * w (452 + 24 * t + 1) + 5) → ¬ w (12 + 68 * w (452 + 24 * t + 1) + 7 + k) = t) ∨ (0 ≤ V_221 t w ∧ V_221 t w < w (12 + 68 * w (452 + 24 * t + 1) + 5) ∧ w (12 + 68 * w (452 + 24 * t + 1) + 7 + V_221 t w) = t)) := by
  have gt := hg.2.2.2.1 t ht.1 ht.2
  unfold V_221 v_39
  generalize w (452 + 24 * t + 1) = o at *
  have go := hg.2.1 o gt.2.1.1 gt.2.1.2
  obtain ⟨-, ⟨o1, o2⟩, rQ, -, rT, -⟩ := h
  have gc := o2 o gt.2.1.1 gt.2.1.2
  have a := lp221 (t := t) (b := 12 + 68 * o) (61 - 0 : Int).toNat 0 w (by omega) (by rw [show (((61 - 0 : Int).toNat : Nat) : Int) = 61 by decide]; omega)
  have b := lp39 (s := s) (o := o) (t := t) (16 - 0 : Int).toNat 0 d (by omega) (by rw [show (((16 - 0 : Int).toNat : Nat) : Int) = 16 by decide]; omega)
  rw [gc.2.2.2.2.2] at b
  have eq := rQ o gt.2.1.1 gt.2.1.2
  rcases a with ⟨a1, a2⟩ | ⟨a1, a2, a3, a4⟩
  · refine ⟨?_, Or.inl ⟨a1, a2⟩⟩
    rcases b with ⟨b1, b2⟩ | ⟨b1, b2, b3, b4⟩
    · rw [a1, b1]
    · rw [eq _ b1 b2] at b3
      exact absurd b3 (a2 _ b1 b2)
  · refine ⟨?_, Or.inr ⟨a1, a2, a3⟩⟩
    rcases b with ⟨b1, b2⟩ | ⟨b1, b2, b3, b4⟩
    · exact absurd (by rw [eq _ a1 a2]; exact a3) (b2 _ a1 a2)
    · rcases Int.lt_trichotomy (lp_39_2 (s + 2) o t (16 - 0 : Int).toNat 0 d) (LP_221_17 t (61 - 0 : Int).toNat (12 + 68 * o) 0 w) with z | z | z
      · rw [eq _ b1 b2] at b3
        exact absurd b3 (a4 _ b1 z)
      · exact z
      · exact absurd (by rw [eq _ a1 a2]; exact a3) (b4 _ a1 z)
-- a waiting ticket stands in its office's queue
theorem placeIn {s t : Int} {d : mD} {w : Row} (hg : GG w) (h : Rel s d w) (ht : 0 ≤ t ∧ t < w 9) (hw : w (452 + 24 * t + 4) = 0) : v_39 (s + 2) (w (452 + 24 * t + 1)) t d = V_221 t w ∧ 0 ≤ V_221 t w ∧ V_221 t w < w (12 + 68 * w (452 + 24 * t + 1) + 5) ∧ w (12 + 68 * w (452 + 24 * t + 1) + 7 + V_221 t w) = t := by
  obtain ⟨e, a⟩ := placeEq hg h ht
  refine ⟨e, ?_⟩
  rcases a with ⟨a1, a2⟩ | a
  · obtain ⟨-, k, k1, k2, k3⟩ := (hg.2.2.2.1 t ht.1 ht.2).2.2.2.2.1 hw
    exact absurd k3 (a2 k k1 k2)
  · exact a
theorem leave {s t : Int} {d : mD} {w : Row} (hg : GG w) (h : Rel s d w) (ht : 0 ≤ t ∧ t < w 9) (hw : w (452 + 24 * t + 4) = 0) :
    GG (ws (ws (W_220 (w (452 + 24 * t + 1)) (V_221 t w) w) (452 + 24 * t + 4) 2) (452 + 24 * t + 3) (w 0)) ∧ Rel s (mset (mset (g_41 (s + 2) (w (452 + 24 * t + 1)) (V_221 t w) d) (s + 54) t 2) (s + 53) t (w 0)) (ws (ws (W_220 (w (452 + 24 * t + 1)) (V_221 t w) w) (452 + 24 * t + 4) 2) (452 + 24 * t + 3) (w 0)) := by
  obtain ⟨-, p1, p2, p3⟩ := placeIn hg h ht hw
  have gt := hg.2.2.2.1 t ht.1 ht.2
  have n7 := hg.1.1
  have n9 := hg.1.2.2.1
  generalize w (452 + 24 * t + 1) = o at *
  have go := hg.2.1 o gt.2.1.1 gt.2.1.2
  have gc := h.2.1.2 o gt.2.1.1 gt.2.1.2
  have hT := take41 (s := s) (o := o) (p := V_221 t w) (d := d) p1 (by rw [gc.2.2.2.2.2]; exact p2) (by rw [gc.2.2.2.2.2]; omega)
  obtain ⟨u1, u2, u3⟩ := take220 (o := o) (p := V_221 t w) (w := w) p1 (by omega) (by omega)
  refine leave1 hg h gt.2.1 ⟨p1, p2⟩ p3 ⟨?_, ?_, ?_, fun k a b => ?_, fun i e1 e2 e3 e4 => ?_⟩ hT rfl
  · rw [wsn (by omega), wsn (by omega)]; exact u1
  · rw [wsn (by omega), wse rfl]
  · rw [wse rfl]
  · rw [wsn (by omega), wsn (by omega)]
    rcases sg_r (V_221 t w) k with q | q
    · rw [q.1, u3 _ (by omega) (by omega)]
    · rw [q.1, u2 k q.2 b, show 12 + 68 * o + 7 + (k + 1) = 12 + 68 * o + 7 + k + 1 by omega]
  · rw [wsn e3, wsn e2, u3 i e1 (by omega)]
/-! ===== how many bits of sixteen are set ===== -/
def mk8 (c : Nat) : Nat → Nat
  | 0 => 0
  | k + 1 => 256 * mk8 c k + c
theorem land8 (a b : Nat) {s m : Nat} (hs : s < 256) (hm : m < 256) : (256 * a + s) &&& (256 * b + m) = 256 * (a &&& b) + (s &&& m) := by
  have h1 : ((256 * a + s) &&& (256 * b + m)) / 2 ^ 8 = a &&& b := by
    rw [Nat.and_div_two_pow]
    congr 1 <;> omega
  have h2 : ((256 * a + s) &&& (256 * b + m)) % 2 ^ 8 = s &&& m := by
    rw [Nat.and_mod_two_pow]
    congr 1 <;> omega
  omega
def pA (k n : Nat) : Nat := n - (n / 2 &&& mk8 85 k)
def pB (k n : Nat) : Nat := (n &&& mk8 51 k) + (n / 4 &&& mk8 51 k)
def pC (k n : Nat) : Nat := n + n / 16 &&& mk8 15 k
def sA (r : Nat) : Nat := r - (r / 2 &&& 85)
def sB (r : Nat) : Nat := (r &&& 51) + (r / 4 &&& 51)
def bc8 (r : Nat) : Nat := r % 2 + r / 2 % 2 + r / 4 % 2 + r / 8 % 2 + r / 16 % 2 + r / 32 % 2 + r / 64 % 2 + r / 128 % 2
theorem pkA : ∀ q : Fin 2, ∀ r : Fin 256, 128 * q.val + r.val / 2 &&& 85 = r.val / 2 &&& 85 := by decide +kernel
theorem pkB : ∀ q : Fin 4, ∀ r : Fin 256, 64 * q.val + r.val / 4 &&& 51 = r.val / 4 &&& 51 := by decide +kernel
theorem pkC : ∀ q : Fin 5, ∀ r : Fin 73, 16 * q.val + (r.val + r.val / 16) &&& 15 = r.val + r.val / 16 &&& 15 := by decide +kernel
theorem pkD : ∀ r : Fin 256, sB (sA r.val) ≤ 68 ∧ sB (sA r.val) % 16 ≤ 4 ∧ (sB (sA r.val) + sB (sA r.val) / 16 &&& 15) = bc8 r.val := by decide +kernel
theorem pA_s (k q : Nat) {r : Nat} (hr : r < 256) : pA (k + 1) (256 * q + r) = 256 * pA k q + sA r := by
  have e : (256 * q + r) / 2 = 256 * (q / 2) + (128 * (q % 2) + r / 2) := by omega
  have l1 : q / 2 &&& mk8 85 k ≤ q / 2 := Nat.and_le_left
  have l2 : r / 2 &&& 85 ≤ r / 2 := Nat.and_le_left
  have c := pkA ⟨q % 2, by omega⟩ ⟨r, hr⟩
  simp only at c
  unfold pA sA
  show 256 * q + r - ((256 * q + r) / 2 &&& 256 * mk8 85 k + 85) = _
  rw [e, land8 _ _ (by omega) (by decide), c]
  omega
theorem pB_s (k q : Nat) {r : Nat} (hr : r < 256) : pB (k + 1) (256 * q + r) = 256 * pB k q + sB r := by
  have e : (256 * q + r) / 4 = 256 * (q / 4) + (64 * (q % 4) + r / 4) := by omega
  have c := pkB ⟨q % 4, by omega⟩ ⟨r, hr⟩
  simp only at c
  unfold pB sB
  show (256 * q + r &&& 256 * mk8 51 k + 51) + ((256 * q + r) / 4 &&& 256 * mk8 51 k + 51) = _
  rw [e, land8 _ _ hr (by decide), land8 _ _ (by omega) (by decide), c]
  omega
theorem pC_s (k q : Nat) {r : Nat} (hr : r ≤ 68) (hq : q % 16 ≤ 4) : pC (k + 1) (256 * q + r) = 256 * pC k q + (r + r / 16 &&& 15) := by
  have e : 256 * q + r + (256 * q + r) / 16 = 256 * (q + q / 16) + (16 * (q % 16) + (r + r / 16)) := by omega
  have c := pkC ⟨q % 16, by omega⟩ ⟨r, by omega⟩
  simp only at c
  unfold pC
  show 256 * q + r + (256 * q + r) / 16 &&& 256 * mk8 15 k + 15 = _
  rw [e, land8 _ _ (by omega) (by decide), c]
def dig : Nat → Nat → Nat
  | 0, _ => 0
  | k + 1, n => 256 * dig k (n / 256) + bc8 (n % 256)
theorem pcDig : ∀ (k n : Nat), pB k (pA k n) % 16 ≤ 4 ∧ pC k (pB k (pA k n)) = dig k n
  | 0, n => by
    have e : ∀ x : Nat, x &&& mk8 51 0 = 0 := fun x => Nat.and_zero x
    have f : ∀ x : Nat, x &&& mk8 15 0 = 0 := fun x => Nat.and_zero x
    unfold pB pC
    rw [e, e, f]
    exact ⟨by decide, rfl⟩
  | k + 1, n => by
    have hr : n % 256 < 256 := Nat.mod_lt _ (by decide)
    have en : n = 256 * (n / 256) + n % 256 := by omega
    obtain ⟨i1, i2⟩ := pcDig k (n / 256)
    obtain ⟨d1, d2, d3⟩ := pkD ⟨n % 256, hr⟩
    simp only at d1 d2 d3
    have l : sA (n % 256) < 256 := by
      unfold sA
      omega
    have eA : pA (k + 1) n = 256 * pA k (n / 256) + sA (n % 256) := by
      have := pA_s k (n / 256) hr
      rwa [← en] at this
    rw [eA, pB_s _ _ l]
    refine ⟨by omega, ?_⟩
    rw [pC_s _ _ d1 i1, i2, d3]
    rfl
theorem bc8_le (r : Nat) : bc8 r ≤ 8 := by
  unfold bc8
  omega
theorem ndl (m : Nat) (a : Nat) (ha : a < 2147483648) (hm : m < 2147483648) : miand (a : Int) (m : Int) = ((a &&& m : Nat) : Int) := by
  unfold miand mI
  have e : (Int32.ofInt (a : Int) &&& Int32.ofInt (m : Int)).toBitVec.toNat = a &&& m := by
    rw [Int32.toBitVec_and, BitVec.toNat_and, n32 ha, n32 hm]
  rw [i32n (by rw [e]; exact Nat.lt_of_le_of_lt Nat.and_le_left ha), e]
theorem nsr (k : Nat) (hk : k < 32) (a : Nat) (ha : a < 2147483648) : miushr (a : Int) (k : Int) = ((a >>> k : Nat) : Int) := by
  unfold miushr mI
  have e : ((Int32.ofInt (a : Int)).toUInt32 >>> ((Int32.ofInt (k : Int)).toUInt32 &&& Int32.toUInt32 31)).toInt32.toBitVec.toNat = a >>> k := by
    show ((Int32.ofInt (a : Int)).toUInt32 >>> ((Int32.ofInt (k : Int)).toUInt32 &&& Int32.toUInt32 31)).toBitVec.toNat = a >>> k
    rw [UInt32.toBitVec_shiftRight]
    have e3 : (((Int32.ofInt (k : Int)).toUInt32 &&& Int32.toUInt32 31).toBitVec % 32).toNat = k := by
      have : ∀ k : Fin 32, (((Int32.ofInt ((k.val : Nat) : Int)).toUInt32 &&& Int32.toUInt32 31).toBitVec % 32).toNat = k.val := by decide +kernel
      exact this ⟨k, hk⟩
    show ((Int32.ofInt (a : Int)).toBitVec >>> ((((Int32.ofInt (k : Int)).toUInt32 &&& Int32.toUInt32 31).toBitVec % 32).toNat)).toNat = _
    rw [e3, BitVec.toNat_ushiftRight, n32 ha]
  rw [i32n (by rw [e]; exact Nat.lt_of_le_of_lt (Nat.shiftRight_le a k) ha), e]
def pcA (n : Nat) : Nat := n - ((n >>> 1) &&& 1431655765)
def pcB (n : Nat) : Nat := (pcA n &&& 858993459) + ((pcA n >>> 2) &&& 858993459)
def pcC (n : Nat) : Nat := (pcB n + (pcB n >>> 4)) &&& 252645135
def pcD (n : Nat) : Nat := pcC n + (pcC n >>> 8)
def pcN (n : Nat) : Nat := (pcD n + (pcD n >>> 16)) &&& 63
def bcN (n : Nat) : Nat := n % 2 + n / 2 % 2 + n / 4 % 2 + n / 8 % 2 + n / 16 % 2 + n / 32 % 2 + n / 64 % 2 + n / 128 % 2 + n / 256 % 2 + n / 512 % 2 + n / 1024 % 2 + n / 2048 % 2 + n / 4096 % 2 + n / 8192 % 2 + n / 16384 % 2 + n / 32768 % 2
theorem bc16 {n : Nat} (h : n < 65536) : bcN n = bc8 (n % 256) + bc8 (n / 256 % 256) := by
  have e : n / 256 % 256 = n / 256 := Nat.mod_eq_of_lt (by omega)
  have d : ∀ k, n / 256 / k = n / (256 * k) := fun k => Nat.div_div_eq_div_mul n 256 k
  have l : ∀ k m : Nat, k * m = 128 → n % 256 / k % 2 = n / k % 2 := fun k m hk => by
    have : 256 = k * (m * 2) := by rw [← Nat.mul_assoc, hk]
    rw [this, Nat.mod_mul_right_div_self, Nat.mod_mul_left_mod]
  have a : bc8 (n % 256) = n % 2 + n / 2 % 2 + n / 4 % 2 + n / 8 % 2 + n / 16 % 2 + n / 32 % 2 + n / 64 % 2 + n / 128 % 2 := by
    unfold bc8
    rw [l 2 64 rfl, l 4 32 rfl, l 8 16 rfl, l 16 8 rfl, l 32 4 rfl, l 64 2 rfl, l 128 1 rfl, show n % 256 % 2 = n % 2 by omega]
  have b : bc8 (n / 256) = n / 256 % 2 + n / 512 % 2 + n / 1024 % 2 + n / 2048 % 2 + n / 4096 % 2 + n / 8192 % 2 + n / 16384 % 2 + n / 32768 % 2 := by
    unfold bc8
    rw [d 2, d 4, d 8, d 16, d 32, d 64, d 128]
  rw [e, a, b]
  unfold bcN
  simp only [Nat.add_assoc]
theorem pc_all {n : Nat} (h : n < 65536) : pcN n = bcN n := by
  have e1 : pcA n = pA 4 n := by
    unfold pcA pA
    rw [Nat.shiftRight_eq_div_pow]
    rfl
  have e2 : pcB n = pB 4 (pA 4 n) := by
    unfold pcB pB
    rw [e1, Nat.shiftRight_eq_div_pow]
    rfl
  have e3 : pcC n = dig 4 n := by
    unfold pcC
    rw [e2, Nat.shiftRight_eq_div_pow, ← (pcDig 4 n).2]
    rfl
  have e4 : dig 4 n = bc8 (n % 256) + 256 * bc8 (n / 256 % 256) := by
    show 256 * (256 * (256 * (256 * 0 + bc8 (n / 256 / 256 / 256 % 256)) + bc8 (n / 256 / 256 % 256)) + bc8 (n / 256 % 256)) + bc8 (n % 256) = _
    rw [show n / 256 / 256 = 0 by omega]
    show 256 * (256 * (256 * (256 * 0 + 0) + 0) + bc8 (n / 256 % 256)) + bc8 (n % 256) = _
    omega
  have b0 := bc8_le (n % 256)
  have b1 := bc8_le (n / 256 % 256)
  rw [bc16 h]
  unfold pcN pcD
  rw [e3, e4, Nat.shiftRight_eq_div_pow, Nat.shiftRight_eq_div_pow, show (63 : Nat) = 2 ^ 6 - 1 by decide, Nat.and_two_pow_sub_one_eq_mod]
  generalize bc8 (n % 256) = x0 at *
  generalize bc8 (n / 256 % 256) = x1 at *
  rw [show x0 + 256 * x1 + (x0 + 256 * x1) / 2 ^ 8 = (x0 + x1) + 256 * x1 by omega, show (x0 + x1 + 256 * x1) / 2 ^ 16 = 0 by omega]
  omega
theorem v298_n {n : Nat} (h : n < 65536) (d : mD) : v_298 (n : Int) d = (pcN n : Int) := by
  have hl : (n >>> 1) &&& 1431655765 ≤ n := Nat.le_trans Nat.and_le_left (Nat.shiftRight_le n 1)
  have eA : (n : Int) - miand (miushr (n : Int) 1) 1431655765 = (pcA n : Int) := by
    have e1 := nsr 1 (by decide) n (by omega)
    have e2 := ndl 1431655765 (n >>> 1) (Nat.lt_of_le_of_lt (Nat.shiftRight_le n 1) (by omega)) (by decide)
    rw [show ((1 : Nat) : Int) = 1 from rfl] at e1
    rw [show ((1431655765 : Nat) : Int) = 1431655765 from rfl] at e2
    rw [e1, e2]
    unfold pcA
    omega
  have hA : pcA n < 65536 := by unfold pcA; omega
  have eB : miand (pcA n : Int) 858993459 + miand (miushr (pcA n : Int) 2) 858993459 = (pcB n : Int) := by
    have e1 := nsr 2 (by decide) (pcA n) (by omega)
    have e2 := ndl 858993459 (pcA n >>> 2) (Nat.lt_of_le_of_lt (Nat.shiftRight_le _ 2) (by omega)) (by decide)
    have e3 := ndl 858993459 (pcA n) (by omega) (by decide)
    rw [show ((2 : Nat) : Int) = 2 from rfl] at e1
    rw [show ((858993459 : Nat) : Int) = 858993459 from rfl] at e2 e3
    rw [e1, e2, e3]
    unfold pcB
    omega
  have hB : pcB n < 131072 := by
    have a := @Nat.and_le_left (pcA n) 858993459
    have b := Nat.le_trans (@Nat.and_le_left (pcA n >>> 2) 858993459) (Nat.shiftRight_le (pcA n) 2)
    unfold pcB
    omega
  have hs : pcB n >>> 4 ≤ pcB n := Nat.shiftRight_le _ _
  have eC : miand ((pcB n : Int) + miushr (pcB n : Int) 4) 252645135 = (pcC n : Int) := by
    have e1 := nsr 4 (by decide) (pcB n) (by omega)
    have e2 := ndl 252645135 (pcB n + pcB n >>> 4) (by omega) (by decide)
    rw [show ((4 : Nat) : Int) = 4 from rfl] at e1
    rw [show ((252645135 : Nat) : Int) = 252645135 from rfl, Int.natCast_add] at e2
    rw [e1, e2]
    rfl
  have hC : pcC n < 262144 := by
    have a := @Nat.and_le_left (pcB n + pcB n >>> 4) 252645135
    unfold pcC
    omega
  have hs8 : pcC n >>> 8 ≤ pcC n := Nat.shiftRight_le _ _
  have eD : (pcC n : Int) + miushr (pcC n : Int) 8 = (pcD n : Int) := by
    have e1 := nsr 8 (by decide) (pcC n) (by omega)
    rw [show ((8 : Nat) : Int) = 8 from rfl] at e1
    rw [e1]
    unfold pcD
    omega
  have hD : pcD n < 524288 := by unfold pcD; omega
  have hs16 : pcD n >>> 16 ≤ pcD n := Nat.shiftRight_le _ _
  unfold v_298
  rw [eA, eB, eC, eD]
  have e1 := nsr 16 (by decide) (pcD n) (by omega)
  have e2 := ndl 63 (pcD n + pcD n >>> 16) (by omega) (by decide)
  rw [show ((16 : Nat) : Int) = 16 from rfl] at e1
  rw [show ((63 : Nat) : Int) = 63 from rfl, Int.natCast_add] at e2
  rw [e1, e2]
  rfl
theorem ib_n {n : Nat} (h : n < 65536) (p : Nat) : ib (n : Int) p = decide (n / 2 ^ p % 2 = 1) := by
  unfold ib
  show (Int32.ofInt (n : Int)).toBitVec.toNat.testBit p = _
  rw [n32 (by omega), Nat.testBit_eq_decide_div_mod_eq]
theorem ibv {n : Nat} (h : n < 65536) (p : Nat) : (if ib (n : Int) p = true then (1 : Int) else 0) = ((n / 2 ^ p % 2 : Nat) : Int) := by
  rw [ib_n h]
  by_cases c : n / 2 ^ p % 2 = 1
  · rw [if_pos (by simp [c]), c]
    rfl
  · rw [if_neg (by simp [c])]
    have := Nat.mod_lt (n / 2 ^ p) (show 0 < 2 by decide)
    have : n / 2 ^ p % 2 = 0 := by omega
    rw [this]
    rfl
theorem v298_bits {W : Int} (h0 : 0 ≤ W) (h1 : W < 65536) (d : mD) : v_298 W d = csum (fun p => if ib W p.toNat = true then 1 else 0) 16 := by
  obtain ⟨n, rfl⟩ := Int.eq_ofNat_of_zero_le h0
  have h : n < 65536 := by omega
  rw [v298_n h, pc_all h]
  have e : csum (fun p => if ib (n : Int) p.toNat = true then 1 else 0) 16 = csum (fun p => ((n / 2 ^ p.toNat % 2 : Nat) : Int)) 16 := csum_congr (fun p a b => ibv h p.toNat)
  rw [e]
  simp only [csum]
  unfold bcN
  simp
theorem mior_rng {W p : Int} (h0 : 0 ≤ W) (h1 : W < 65536) (p0 : 0 ≤ p) (p1 : p < 16) : 0 ≤ mior W (mishl 1 p) ∧ mior W (mishl 1 p) < 65536 := by
  obtain ⟨n, rfl⟩ := Int.eq_ofNat_of_zero_le h0
  obtain ⟨k, rfl⟩ := Int.eq_ofNat_of_zero_le p0
  have e1 : mishl 1 (k : Int) = ((2 ^ k : Nat) : Int) := by
    have : ∀ k : Fin 16, mishl 1 ((k.val : Nat) : Int) = ((2 ^ k.val : Nat) : Int) := by decide +kernel
    exact this ⟨k, by omega⟩
  have hk : 2 ^ k < 65536 := by
    have : ∀ k : Fin 16, 2 ^ k.val < 65536 := by decide
    exact this ⟨k, by omega⟩
  rw [e1]
  unfold mior mI
  have e : (Int32.ofInt (n : Int) ||| Int32.ofInt ((2 ^ k : Nat) : Int)).toBitVec.toNat = n ||| 2 ^ k := by
    rw [Int32.toBitVec_or, BitVec.toNat_or, n32 (by omega), n32 (by omega)]
  have hb : n ||| 2 ^ k < 65536 := Nat.or_lt_two_pow (n := 16) (by omega) hk
  rw [i32n (by rw [e]; omega), e]
  omega
/-! ===== claims and witnesses ===== -/
-- a ticket's claim is written
theorem setC {s t c v : Int} {d : mD} {w w' : Row} (hg : GG w) (h : Rel s d w) (ht : 0 ≤ t ∧ t < w 9) (hc : c = 0 ∨ c = 1) (hv : v = 0 ∨ v = 1) (h1 : v = 1 → c = 1 ∧ w (452 + 24 * t + 3) ≤ 999) (h2 : c = 1 → w (452 + 24 * t + 4) = 1) (e5 : w' (452 + 24 * t + 5) = c) (e6 : w' (452 + 24 * t + 6) = v) (e : ∀ i, ¬ i = 452 + 24 * t + 5 → ¬ i = 452 + 24 * t + 6 → w' i = w i) : GG w' ∧ Rel s (mset d (s + 55) t (c + v)) w' := by
  obtain ⟨hN, hO, hQ, hT, hC, hK, hR⟩ := id hg
  obtain ⟨n7, n8, n9, n10, n11, n0, n1, n2, n3, n4, n5, n6⟩ := id hN
  obtain ⟨rA, rO, rQ, rP, rT, rC, rK, rR, rB, rH⟩ := h
  have fd : ∀ b, ¬ b = s + 55 → mset d (s + 55) t (c + v) b = d b := fun b x => by
    funext j
    exact ms_a x
  refine ⟨⟨hN.k (fun i hi => e i (by omega) (by omega)), hO.k (fun i hi => e i (by omega) (by omega)) hN, hQ.k (fun i hi => e i (by omega) (by omega)) hN hO, hT.k (fun i hi => e i (by omega) (by omega)) hN hO, ?_, hK.k (fun i hi => e i (by omega) (by omega)) hN, hR.k (fun i hi => e i (by omega) (by omega)) hN⟩, rA.k (fun b x => fd b (by omega)) (fun i hi => e i (by omega) (by omega)), rO.k (fun b x y => fd b (by omega)) (fun i hi => e i (by omega) (by omega)) n7, rQ.k (fd _ (by omega)) (fun i hi => e i (by omega) (by omega)) n7 hO, rP.k (fun b x y => fd b (by omega)) (fun i hi => e i (by omega) (by omega)) n8, rT.k (fun b x y => fd b (by omega)) (fun i hi => e i (by omega) (by omega)) n9, ?_, rK.k (by rw [fd _ (by omega)]) (fun b x y => fd b (by omega)) (fun i hi => e i (by omega) (by omega)) n10, rR.k (by rw [fd _ (by omega)]) (fd _ (by omega)) (fun i hi => e i (by omega) (by omega)) n11, rB.k (fun b x y => fd b (by omega)) (fun i hi => e i (by omega) (by omega)) n8 n9 n10 hK.of, rH.k (fun b x y => fd b (by omega)) (fun i hi => e i (by omega) (by omega)) n8 n9 n10 hK.of⟩
  · intro t' x y
    rw [e 9 (by omega) (by omega)] at y
    have g := hC t' x y
    rw [e (452 + 24 * t' + 3) (by omega) (by omega), e (452 + 24 * t' + 4) (by omega) (by omega), e 0 (by omega) (by omega)]
    have gp : ∀ p, 0 ≤ p → p < 16 → 0 ≤ w' (452 + 24 * t' + 8 + p) ∧ w' (452 + 24 * t' + 8 + p) ≤ w 0 + 1 := fun p a b => by
      rw [e _ (by omega) (by omega)]
      exact g.2.2.2.2 p a b
    by_cases q : t' = t
    · rw [q] at gp ⊢
      rw [e5, e6]
      exact ⟨hc, hv, h1, h2, gp⟩
    · rw [e (452 + 24 * t' + 5) (by omega) (by omega), e (452 + 24 * t' + 6) (by omega) (by omega)]
      exact ⟨g.1, g.2.1, g.2.2.1, g.2.2.2.1, gp⟩
  · intro t' x y
    rw [e 9 (by omega) (by omega)] at y
    obtain ⟨g1, g2, g3, g4⟩ := rC t' x y
    rw [fd (s + 56) (by omega), e (452 + 24 * t' + 7) (by omega) (by omega)]
    refine ⟨?_, by rw [g2]; exact csum_congr (fun p a b => by rw [e (452 + 24 * t' + 8 + p) (by omega) (by omega)]), fun p a b => by rw [e (452 + 24 * t' + 8 + p) (by omega) (by omega)]; exact g3 p a b, g4⟩
    by_cases q : t' = t
    · rw [q, e5, e6, ms_e rfl rfl]
    · rw [e (452 + 24 * t' + 5) (by omega) (by omega), e (452 + 24 * t' + 6) (by omega) (by omega), ms_i q]
      exact g1
theorem canClaim {s t : Int} {d : mD} {w : Row} (hg : GG w) (h : Rel s d w) (ht : 0 ≤ t ∧ t < w 9) : v_73 s t d = V_227 t w ∧ (V_227 t w = 0 ∨ V_227 t w = 1) ∧ (V_227 t w = 1 ↔ w (452 + 24 * t + 4) = 1 ∧ w (452 + 24 * t + 5) = 0) := by
  obtain ⟨-, -, -, -, rT, rC, -⟩ := h
  have gt := (rT.2 t ht.1 ht.2).2.2.2.2
  have gc := (rC t ht.1 ht.2).1
  have g := hg.2.2.2.2.1 t ht.1 ht.2
  unfold v_73 V_227
  rw [show s + 49 + 5 = s + 54 by omega, show s + 49 + 6 = s + 55 by omega, gt, gc]
  by_cases c1 : w (452 + 24 * t + 4) = 1
  · rw [if_pos c1, if_pos c1]
    by_cases c2 : w (452 + 24 * t + 5) = 0
    · have c3 : w (452 + 24 * t + 6) = 0 := by
        rcases g.2.1 with z | z
        · exact z
        · have := (g.2.2.1 z).1
          omega
      rw [if_pos (by omega), if_pos c2]
      exact ⟨rfl, Or.inr rfl, ⟨fun _ => ⟨c1, c2⟩, fun _ => rfl⟩⟩
    · rw [if_neg (by omega), if_neg c2]
      exact ⟨rfl, Or.inl rfl, ⟨fun z => absurd z (by decide), fun z => absurd z.2 c2⟩⟩
  · rw [if_neg c1, if_neg c1]
    exact ⟨rfl, Or.inl rfl, ⟨fun z => absurd z (by decide), fun z => absurd z.1 c1⟩⟩
theorem claim {s t : Int} {d : mD} {w : Row} (hg : GG w) (h : Rel s d w) (ht : 0 ≤ t ∧ t < w 9) (hs : w (452 + 24 * t + 4) = 1) (hc : w (452 + 24 * t + 5) = 0) (h9 : w 0 ≤ 999) : v_74 s t d = V_228 t w ∧ GG (W_228 t w) ∧ Rel s (g_74 s t d) (W_228 t w) ∧ ∀ i, i ≤ 9 → W_228 t w i = w i := by
  have n9 := hg.1.2.2.1
  have n3 := hg.1.2.2.2.2.2.2.2.2.1
  have gt := hg.2.2.2.1 t ht.1 ht.2
  have g := hg.2.2.2.2.1 t ht.1 ht.2
  have h6 : w (452 + 24 * t + 6) = 0 := by
    rcases g.2.1 with z | z
    · exact z
    · have := (g.2.2.1 z).1
      omega
  have e3 : d (s + 1) 1 = w 3 := h.1.2.2 1 (by omega) (by omega)
  have hen : w (452 + 24 * t + 3) ≤ 999 := by
    have := gt.2.2.2.2.2 (by omega)
    omega
  obtain ⟨g1, r1⟩ := setC (c := 1) (v := 0) (w' := ws w (452 + 24 * t + 5) 1) hg h ht (Or.inr rfl) (Or.inl rfl) (fun z => absurd z (by decide)) (fun _ => hs) (wse rfl) (by rw [wsn (by omega)]; exact h6) (fun i a b => wsn a)
  rw [show (1 : Int) + 0 = 1 by decide] at r1
  unfold v_74 g_74 V_228 W_228
  rw [e3, show s + 49 + 6 = s + 55 by omega]
  by_cases c : 0 < w 3
  · have hz : ¬ w 3 = 0 := by omega
    simp only [if_neg hz, if_pos c]
    exact ⟨trivial, g1, r1, fun i hi => wsn (by omega)⟩
  · have hz : w 3 = 0 := by omega
    simp only [if_pos hz, if_neg c]
    obtain ⟨g2, r2⟩ := setC (s := s) (t := t) (c := 1) (v := 1) (w' := ws (ws w (452 + 24 * t + 5) 1) (452 + 24 * t + 6) 1) g1 r1 (by rw [wsn (by omega)]; exact ht) (Or.inr rfl) (Or.inr rfl) (fun _ => ⟨rfl, by rw [wsn (by omega)]; exact hen⟩) (fun _ => by rw [wsn (by omega)]; exact hs) (by rw [wsn (by omega), wse rfl]) (wse rfl) (fun i a b => wsn b)
    rw [show (1 : Int) + 1 = 2 by decide] at r2
    obtain ⟨m1, m2, m3, m4⟩ := makes (t := t) g2 r2 (by rw [wsn (by omega), wsn (by omega)]; exact ht) (by rw [wsn (by omega), wsn (by omega)]; exact hs) (by rw [wsn (by omega), wsn (by omega)]; exact hen)
    unfold v_76 g_76
    rw [show s + 49 + 6 = s + 55 by omega]
    exact ⟨m1, m2, m3, fun i hi => by rw [m4 i (by omega) (by omega), wsn (by omega), wsn (by omega)]⟩
-- a witness
theorem lp233 {p : Int} : ∀ (n : Nat) (a k : Int) (w : Row), 0 ≤ k → k ≤ w 9 → w 9 - k ≤ (n : Int) → LP_233_4 p n a k w = a + (csum (fun t => if 0 < w (452 + 24 * t + 8 + p) ∧ (w (452 + 24 * t + 8 + p) - 1) / 20 = w 0 / 20 then 1 else 0) (w 9).toNat - csum (fun t => if 0 < w (452 + 24 * t + 8 + p) ∧ (w (452 + 24 * t + 8 + p) - 1) / 20 = w 0 / 20 then 1 else 0) k.toNat) := by
  intro n
  induction n with
  | zero =>
    intro a k w h0 hk hn
    have : k = w 9 := by omega
    rw [this]
    show ST_233_4 p _ a (w 9) w = _
    unfold ST_233_4
    rw [if_neg (by omega)]
    omega
  | succ n ih =>
    intro a k w h0 hk hn
    by_cases c1 : k < w 9
    · have i := fun a => ih a (k + 1) w (by omega) (by omega) (by omega)
      rw [csum_s _ h0] at i
      show ST_233_4 p _ a k w = _
      unfold ST_233_4
      rw [if_pos c1]
      unfold V_232
      by_cases c2 : 0 < w (452 + 24 * k + 8 + p)
      · rw [if_pos c2]
        by_cases c3 : (w (452 + 24 * k + 8 + p) - 1) / 20 = w 0 / 20
        · rw [if_pos c3, if_neg (by decide), i, if_pos ⟨c2, c3⟩]
          omega
        · rw [if_neg c3, if_pos rfl, i, if_neg (fun z => c3 z.2)]
          omega
      · rw [if_neg c2, if_pos rfl, i, if_neg (fun z => c2 z.1)]
        omega
    · have : k = w 9 := by omega
      rw [this]
      show ST_233_4 p _ a (w 9) w = _
      unfold ST_233_4
      rw [if_neg (by omega)]
      omega
theorem v233 {p : Int} {w : Row} (h9 : 0 ≤ w 9 ∧ w 9 ≤ 60) : V_233 p w = attR w p := by
  have h := lp233 (p := p) (61 - 0 : Int).toNat 0 0 w (by decide) h9.1 (by rw [show (((61 - 0 : Int).toNat : Nat) : Int) = 61 by decide]; omega)
  unfold V_233 attR
  rw [h]
  show 0 + (_ - csum _ 0) = _
  simp only [csum]
  omega
theorem v232 {t p : Int} {w : Row} : (V_232 t p w = 0 ∨ V_232 t p w = 1) ∧ (V_232 t p w = 0 ↔ ¬ attd w t p) := by
  unfold V_232 attd
  by_cases c2 : 0 < w (452 + 24 * t + 8 + p)
  · rw [if_pos c2]
    by_cases c3 : (w (452 + 24 * t + 8 + p) - 1) / 20 = w 0 / 20
    · rw [if_pos c3]
      exact ⟨Or.inr rfl, ⟨fun z => absurd z (by decide), fun z => absurd ⟨c2, c3⟩ z⟩⟩
    · rw [if_neg c3]
      exact ⟨Or.inl rfl, ⟨fun _ z => c3 z.2, fun _ => rfl⟩⟩
  · rw [if_neg c2]
    exact ⟨Or.inl rfl, ⟨fun _ z => c2 z.1, fun _ => rfl⟩⟩
theorem lp234 {t p : Int} : ∀ (n : Nat) (a k : Int) (w : Row), 0 ≤ k → w 9 - k ≤ (n : Int) → (a = 0 ∨ a = 1) → (LP_234_97 t p n (452 + 24 * t) a k w = 0 ∨ LP_234_97 t p n (452 + 24 * t) a k w = 7) ∧ (LP_234_97 t p n (452 + 24 * t) a k w = 0 ↔ a = 0 ∧ ¬ ∃ j, k ≤ j ∧ j < w 9 ∧ w (452 + 24 * j + 0) = p ∧ attd w j (w (452 + 24 * t + 0))) := by
  have m00 : mior 0 0 = 0 := by decide
  have m10 : mior 1 0 = 1 := by decide
  have m01 : mior 0 1 = 1 := by decide
  have m11 : mior 1 1 = 1 := by decide
  intro n
  induction n with
  | zero =>
    intro a k w h0 hn ha
    have e : LP_234_97 t p 0 (452 + 24 * t) a k w = if a = 0 then 0 else 7 := by
      show ST_234_97 t p _ (452 + 24 * t) a k w = _
      unfold ST_234_97
      rw [if_neg (by omega)]
    rw [e]
    rcases ha with rfl | rfl
    · rw [if_pos rfl]
      exact ⟨Or.inl rfl, ⟨fun _ => ⟨rfl, fun ⟨j, a, b, _⟩ => by omega⟩, fun _ => rfl⟩⟩
    · rw [if_neg (by decide)]
      exact ⟨Or.inr rfl, ⟨fun z => absurd z (by decide), fun z => absurd z.1 (by decide)⟩⟩
  | succ n ih =>
    intro a k w h0 hn ha
    by_cases c1 : k < w 9
    · have pass : (w (452 + 24 * k + 0) = p → ¬ attd w k (w (452 + 24 * t + 0))) → LP_234_97 t p (n + 1) (452 + 24 * t) a k w = LP_234_97 t p n (452 + 24 * t) a (k + 1) w → (LP_234_97 t p (n + 1) (452 + 24 * t) a k w = 0 ∨ LP_234_97 t p (n + 1) (452 + 24 * t) a k w = 7) ∧ (LP_234_97 t p (n + 1) (452 + 24 * t) a k w = 0 ↔ a = 0 ∧ ¬ ∃ j, k ≤ j ∧ j < w 9 ∧ w (452 + 24 * j + 0) = p ∧ attd w j (w (452 + 24 * t + 0))) := fun hn' e => by
        obtain ⟨i1, i2⟩ := ih a (k + 1) w (by omega) (by omega) ha
        rw [e]
        refine ⟨i1, i2.trans ⟨fun z => ⟨z.1, fun ⟨j, x, y, u, v⟩ => ?_⟩, fun z => ⟨z.1, fun ⟨j, x, y, u, v⟩ => z.2 ⟨j, by omega, y, u, v⟩⟩⟩⟩
        by_cases hj : j = k
        · rw [hj] at u v
          exact hn' u v
        · exact z.2 ⟨j, by omega, y, u, v⟩
      by_cases c2 : w (452 + 24 * k + 0) = p
      · by_cases c3 : V_232 k (w (452 + 24 * t + 0)) w = 0
        · refine pass (fun _ => v232.2.mp c3) ?_
          show ST_234_97 t p _ (452 + 24 * t) a k w = _
          unfold ST_234_97
          rw [if_pos c1, if_pos c2, if_pos c3]
          rcases ha with rfl | rfl
          · rw [m00]
          · rw [m10]
        · have e : LP_234_97 t p (n + 1) (452 + 24 * t) a k w = LP_234_97 t p n (452 + 24 * t) 1 (k + 1) w := by
            show ST_234_97 t p _ (452 + 24 * t) a k w = _
            unfold ST_234_97
            rw [if_pos c1, if_pos c2, if_neg c3]
            rcases ha with rfl | rfl
            · rw [m01]
            · rw [m11]
          obtain ⟨i1, i2⟩ := ih 1 (k + 1) w (by omega) (by omega) (Or.inr rfl)
          have hat : attd w k (w (452 + 24 * t + 0)) := by
            rcases Classical.em (attd w k (w (452 + 24 * t + 0))) with z | z
            · exact z
            · exact absurd (v232.2.mpr z) c3
          rw [e]
          exact ⟨i1, i2.trans ⟨fun z => absurd z.1 (by decide), fun z => absurd ⟨k, by omega, c1, c2, hat⟩ z.2⟩⟩
      · refine pass (fun z => absurd z c2) ?_
        show ST_234_97 t p _ (452 + 24 * t) a k w = _
        unfold ST_234_97
        rw [if_pos c1, if_neg c2]
        rcases ha with rfl | rfl
        · rw [m00]
        · rw [m10]
    · have e : LP_234_97 t p (n + 1) (452 + 24 * t) a k w = if a = 0 then 0 else 7 := by
        show ST_234_97 t p _ (452 + 24 * t) a k w = _
        unfold ST_234_97
        rw [if_neg c1]
      rw [e]
      rcases ha with rfl | rfl
      · rw [if_pos rfl]
        exact ⟨Or.inl rfl, ⟨fun _ => ⟨rfl, fun ⟨j, a, b, _⟩ => by omega⟩, fun _ => rfl⟩⟩
      · rw [if_neg (by decide)]
        exact ⟨Or.inr rfl, ⟨fun z => absurd z (by decide), fun z => absurd z.1 (by decide)⟩⟩
-- the hours that two tickets have in common
theorem untilEq {s t : Int} {d : mD} {w : Row} (h : Rel s d w) (ht : 0 ≤ t ∧ t < w 9) : v_98 (s + 49) t (d s 2) d = V_212 t w := by
  obtain ⟨⟨-, a2, -⟩, -, -, -, rT, -⟩ := h
  unfold v_98 V_212
  rw [show s + 49 + 4 = s + 53 by omega, (rT.2 t ht.1 ht.2).2.2.2.1, a2]
theorem comLoop {s t p : Int} {d : mD} {w : Row} (h : Rel s d w) (ht : 0 ≤ t ∧ t < w 9) : ∀ (nc nr : Nat) (m k : Int), 0 ≤ k → 0 ≤ m → w 9 - k ≤ (nc : Int) → w 9 - k ≤ (nr : Int) → lp_78_5 s t p nc m k d = LP_231_5 t p nr m k w := by
  obtain ⟨⟨-, a2, -⟩, -, -, -, ⟨t1, t2⟩, -⟩ := id h
  have gt := t2 t ht.1 ht.2
  intro nc
  induction nc with
  | zero =>
    intro nr m k h0 hm h1 h2
    have e : lp_78_5 s t p 0 m k d = m := by
      show st_78_5 s t p _ m k d = m
      unfold st_78_5
      rw [if_neg (by rw [t1]; omega)]
    rw [e]
    cases nr with
    | zero =>
      show m = ST_231_5 t p _ m k w
      unfold ST_231_5
      rw [if_neg (by omega)]
    | succ nr =>
      show m = ST_231_5 t p _ m k w
      unfold ST_231_5
      rw [if_neg (by omega)]
  | succ nc ih =>
    intro nr m k h0 hm h1 h2
    by_cases c1 : k < w 9
    · cases nr with
      | zero => omega
      | succ nr =>
        have gk := t2 k h0 c1
        show st_78_5 s t p _ m k d = ST_231_5 t p _ m k w
        unfold st_78_5 ST_231_5
        rw [if_pos (by rw [t1]; exact c1), if_pos c1]
        rw [show s + 49 + 1 = s + 50 by omega, show s + 49 + 2 = s + 51 by omega, show s + 49 + 3 = s + 52 by omega, gk.1, gk.2.1, gt.2.1, gt.2.2.1, gk.2.2.1]
        by_cases c2 : k = t
        · rw [if_pos c2, if_pos c2]
          exact ih nr m (k + 1) (by omega) hm (by omega) (by omega)
        · rw [if_neg c2, if_neg c2]
          by_cases c3 : w (452 + 24 * k + 0) = p
          · rw [if_pos c3, if_pos c3]
            by_cases c4 : w (452 + 24 * k + 1) = w (452 + 24 * t + 1)
            · rw [if_pos c4, if_pos c4, untilEq h ht, untilEq h ⟨h0, c1⟩]
              have e1 := mmin_r (V_212 t w) (V_212 k w)
              have e2 := mmax_r (w (452 + 24 * t + 2)) (w (452 + 24 * k + 2))
              have e3 := mmax_r m (mmin (V_212 t w) (V_212 k w) - mmax (w (452 + 24 * t + 2)) (w (452 + 24 * k + 2)))
              have e4 : V_230 t k w = if mmax (w (452 + 24 * t + 2)) (w (452 + 24 * k + 2)) < mmin (V_212 t w) (V_212 k w) then mmin (V_212 t w) (V_212 k w) - mmax (w (452 + 24 * t + 2)) (w (452 + 24 * k + 2)) else 0 := by
                unfold V_230 mmax mmin
                repeat' split
                all_goals omega
              have e5 : (if m < V_230 t k w then V_230 t k w else m) = mmax m (mmin (V_212 t w) (V_212 k w) - mmax (w (452 + 24 * t + 2)) (w (452 + 24 * k + 2))) := by
                rw [e4]
                split
                · split <;> omega
                · split <;> omega
              rw [← e5]
              by_cases c5 : m < V_230 t k w
              · rw [if_pos c5, if_pos c5]
                exact ih nr _ (k + 1) (by omega) (by omega) (by omega) (by omega)
              · rw [if_neg c5, if_neg c5]
                exact ih nr m (k + 1) (by omega) hm (by omega) (by omega)
            · rw [if_neg c4, if_neg c4]
              exact ih nr m (k + 1) (by omega) hm (by omega) (by omega)
          · rw [if_neg c3, if_neg c3]
            exact ih nr m (k + 1) (by omega) hm (by omega) (by omega)
    · have e : lp_78_5 s t p (nc + 1) m k d = m := by
        show st_78_5 s t p _ m k d = m
        unfold st_78_5
        rw [if_neg (by rw [t1]; omega)]
      rw [e]
      cases nr with
      | zero =>
        show m = ST_231_5 t p _ m k w
        unfold ST_231_5
        rw [if_neg (by omega)]
      | succ nr =>
        show m = ST_231_5 t p _ m k w
        unfold ST_231_5
        rw [if_neg (by omega)]
theorem common {s t p : Int} {d : mD} {w : Row} (hg : GG w) (h : Rel s d w) (ht : 0 ≤ t ∧ t < w 9) : v_78 s t p d = V_231 t p w := by
  have n9 := hg.1.2.2.1
  exact comLoop h ht (60 - 0 : Int).toNat (61 - 0 : Int).toNat 0 0 (by omega) (by omega) (by rw [show (((60 - 0 : Int).toNat : Nat) : Int) = 60 by decide]; omega) (by rw [show (((61 - 0 : Int).toNat : Nat) : Int) = 61 by decide]; omega)
theorem ibit {W p : Int} (p0 : 0 ≤ p) (p1 : p < 31) : miand (mishr W p) 1 = if ib W p.toNat = true then 1 else 0 := by
  have e := iget W p.toNat (by omega)
  rw [igetb W p.toNat (by omega), show ((p.toNat : Nat) : Int) = p by omega] at e
  exact e
theorem hinder {s t p : Int} {d : mD} {w : Row} (hg : GG w) (h : Rel s d w) (ht : 0 ≤ t ∧ t < w 9) (hp : 0 ≤ p ∧ p < w 8) : v_77 s t p d = V_234 t p w ∧ (V_234 t p w = 0 → w (452 + 24 * t + 5) = 1 ∧ w (452 + 24 * t + 6) = 0 ∧ ¬ w (452 + 24 * t + 0) = p ∧ w (452 + 24 * t + 8 + p) = 0) := by
  have n8 := hg.1.2.1
  have n9 := hg.1.2.2.1
  have gT := hg.2.2.2.1 t ht.1 ht.2
  have gC := hg.2.2.2.2.1 t ht.1 ht.2
  have z0 : w (452 + 24 * t + 5) = 0 → w (452 + 24 * t + 5) + w (452 + 24 * t + 6) = 0 := fun z => by
    rcases gC.2.1 with q | q
    · omega
    · have := (gC.2.2.1 q).1
      omega
  have z1 : ¬ w (452 + 24 * t + 5) = 0 → w (452 + 24 * t + 6) = 0 → w (452 + 24 * t + 5) = 1 ∧ ¬ w (452 + 24 * t + 5) + w (452 + 24 * t + 6) = 0 ∧ ¬ w (452 + 24 * t + 5) + w (452 + 24 * t + 6) = 2 := fun z z' => by
    rcases gC.1 with q | q <;> omega
  have z2 : ¬ w (452 + 24 * t + 6) = 0 → ¬ w (452 + 24 * t + 5) + w (452 + 24 * t + 6) = 0 ∧ w (452 + 24 * t + 5) + w (452 + 24 * t + 6) = 2 := fun z => by
    rcases gC.2.1 with q | q
    · omega
    · have := (gC.2.2.1 q).1
      omega
  have hcom := common (p := p) hg h ht
  obtain ⟨⟨a1, a2, a3⟩, -, -, -, ⟨t1, t2⟩, rC, -, -, rB, -⟩ := id h
  have gt := t2 t ht.1 ht.2
  have gc := rC t ht.1 ht.2
  have gb := rB p hp.1 hp.2
  have gb2 := rB _ gT.1.1 gT.1.2
  have bit := gc.2.2.1 p hp.1 (by omega)
  have l := (lp234 (t := t) (p := p) (61 - 0 : Int).toNat 0 0 w (by omega) (by rw [show (((61 - 0 : Int).toNat : Nat) : Int) = 61 by decide]; omega) (Or.inl rfl))
  have e2 : d (s + 1) 2 = w 4 := a3 2 (by omega) (by omega)
  have ev : v_99 (s + 49) t p d = if w (452 + 24 * t + 8 + p) = 0 then 0 else 1 := by
    unfold v_99
    rw [show s + 49 + 7 = s + 56 by omega, ibit hp.1 (by omega)]
    by_cases z : ib (d (s + 56) t) p.toNat = true
    · rw [if_pos z, if_neg (by decide), if_neg (bit.mp z)]
    · rw [if_neg z, if_pos rfl]
      by_cases z2 : w (452 + 24 * t + 8 + p) = 0
      · rw [if_pos z2]
      · exact absurd (bit.mpr z2) z
  unfold v_77 V_234
  rw [show s + 49 + 6 = s + 55 by omega, show s + 49 + 1 = s + 50 by omega, show s + 10 + 4 = s + 14 by omega, show s + 10 + 5 = s + 15 by omega, gc.1, gt.1, ev, hcom, e2, gb.2.1, v233 n9, ibit hp.1 (by omega)]
  by_cases c1 : w (452 + 24 * t + 5) = 0
  · rw [if_pos (z0 c1), if_pos c1]
    exact ⟨rfl, fun z => absurd z (by decide)⟩
  · rw [if_neg (show ¬ w (452 + 24 * t + 5) + w (452 + 24 * t + 6) = 0 from fun z => (by
      rcases Classical.em (w (452 + 24 * t + 6) = 0) with q | q
      · exact (z1 c1 q).2.1 z
      · exact (z2 q).1 z)), if_neg c1]
    by_cases c2 : w (452 + 24 * t + 6) = 0
    · rw [if_neg (z1 c1 c2).2.2, if_pos c2]
      by_cases c3 : w (452 + 24 * t + 0) = p
      · rw [if_pos c3, if_pos c3]
        exact ⟨rfl, fun z => absurd z (by decide)⟩
      · rw [if_neg c3, if_neg c3]
        by_cases c4 : w (452 + 24 * t + 8 + p) = 0
        · rw [if_pos c4, if_pos rfl, if_pos c4]
          refine ⟨?_, fun _ => ⟨(z1 c1 c2).1, c2, c3, c4⟩⟩
          split
          · rfl
          · split
            · obtain ⟨l1, l2⟩ := l
              have hb := gb2.2.2 p hp.1 (by omega)
              by_cases z : ib (d (s + 15) (w (452 + 24 * t + 0))) p.toNat = true
              · rw [if_pos z, if_neg (by decide)]
                obtain ⟨j, j1, j2, j3, j4⟩ := hb.mp z
                rcases l1 with q | q
                · exact absurd ⟨j, j1, j2, j3, j4⟩ (l2.mp q).2
                · exact q.symm
              · rw [if_neg z, if_pos rfl]
                exact (l2.mpr ⟨rfl, fun ⟨j, j1, j2, j3, j4⟩ => z (hb.mpr ⟨j, j1, j2, j3, j4⟩)⟩).symm
            · rfl
        · rw [if_neg c4, if_neg (by decide), if_neg c4]
          exact ⟨rfl, fun z => absurd z (by decide)⟩
    · rw [if_pos (z2 c2).2, if_neg c2]
      exact ⟨rfl, fun z => absurd z (by decide)⟩
/-! ===== a person is a witness ===== -/
theorem madeR_k' {w w' : Row} {p : Int} (h10 : w' 10 = w 10) (h : ∀ k, 0 ≤ k → k < w 10 → perO w' k = perO w k ∧ w' (1916 + 5 * k + 4) = w (1916 + 5 * k + 4) ∧ w' 0 = w 0) : madeR w' p = madeR w p := by
  unfold madeR
  rw [h10]
  refine csum_congr (fun k a b => ?_)
  obtain ⟨x, y, z⟩ := h k a (by omega)
  rw [x, y, z]
theorem witStep {s t p : Int} {d : mD} {w w' : Row} (hg : GG w) (h : Rel s d w) (ht : 0 ≤ t ∧ t < w 9) (hp : 0 ≤ p ∧ p < w 8) (hz : w (452 + 24 * t + 8 + p) = 0) (e8 : w' (452 + 24 * t + 8 + p) = w 0 + 1) (e7 : w' (452 + 24 * t + 7) = w (452 + 24 * t + 7) + 1) (e : ∀ i, ¬ i = 452 + 24 * t + 8 + p → ¬ i = 452 + 24 * t + 7 → w' i = w i) :
    GG w' ∧ Rel s (mset (mset (mset d (s + 56) t (mior (d (s + 56) t) (mishl 1 p))) (s + 14) p (d (s + 14) p + 1)) (s + 15) p (mior (d (s + 15) p) (mishl 1 (d (s + 50) t)))) w' := by
  obtain ⟨hN, hO, hQ, hT, hC, hK, hR⟩ := id hg
  obtain ⟨n7, n8, n9, n10, n11, n0, n1, n2, n3, n4, n5, n6⟩ := id hN
  obtain ⟨rA, rO, rQ, rP, ⟨t1, t2⟩, rC, rK, rR, rB, rH⟩ := h
  have gt := hT t ht.1 ht.2
  have ew := (t2 t ht.1 ht.2).1
  rw [ew]
  generalize hd : (mset (mset (mset d (s + 56) t (mior (d (s + 56) t) (mishl 1 p))) (s + 14) p (d (s + 14) p + 1)) (s + 15) p (mior (d (s + 15) p) (mishl 1 (w (452 + 24 * t + 0))))) = d'
  have fd : ∀ b, ¬ b = s + 56 → ¬ b = s + 14 → ¬ b = s + 15 → d' b = d b := fun b x y z => by
    rw [← hd]
    funext j
    simp (disch := omega) only [ms_a]
  have e0 : w' 0 = w 0 := e 0 (by omega) (by omega)
  have e9 : w' 9 = w 9 := e 9 (by omega) (by omega)
  have ei : ∀ i, i < 452 + 24 * t + 7 ∨ 452 + 24 * t + 24 ≤ i → w' i = w i := fun i hi => e i (by omega) (by omega)
  have ef : ∀ t' f, 0 ≤ f → f ≤ 6 → w' (452 + 24 * t' + f) = w (452 + 24 * t' + f) := fun t' f a b => e _ (by omega) (by omega)
  have eq8 : ∀ t' q, 0 ≤ q → q < 16 → ¬ (t' = t ∧ q = p) → w' (452 + 24 * t' + 8 + q) = w (452 + 24 * t' + 8 + q) := fun t' q a b c => by
    have h1 : ¬ 452 + 24 * t' + 8 + q = 452 + 24 * t + 8 + p := fun z => by
      have : t' = t := by omega
      subst this
      exact c ⟨rfl, by omega⟩
    exact e _ h1 (by omega)
  have at0 : ∀ t' q, 0 ≤ q → q < 16 → (attd w' t' q ↔ attd w t' q ∨ (t' = t ∧ q = p)) := fun t' q a b => by
    unfold attd
    rw [e0]
    by_cases c : t' = t ∧ q = p
    · obtain ⟨rfl, rfl⟩ := c
      rw [e8, hz]
      constructor
      · intro _; exact Or.inr ⟨rfl, rfl⟩
      · intro _
        refine ⟨by omega, by rw [show w 0 + 1 - 1 = w 0 by omega]⟩
    · rw [eq8 t' q a b c]
      exact ⟨fun z => Or.inl z, fun z => z.elim id (fun z => absurd z c)⟩
  have needC : ∀ i, (i = 0 ∨ i = 9 ∨ (452 ≤ i ∧ i < 1916 ∧ 3 ≤ (i - 452) % 24 ∧ (i - 452) % 24 ≤ 6)) → w' i = w i := fun i hi => e i (by omega) (by omega)
  refine ⟨⟨hN.k (fun i hi => e i (by omega) (by omega)), hO.k (fun i hi => e i (by omega) (by omega)) hN, hQ.k (fun i hi => e i (by omega) (by omega)) hN hO, hT.k (fun i hi => e i (by omega) (by omega)) hN hO, ?_, hK.k (fun i hi => e i (by omega) (by omega)) hN, hR.k (fun i hi => e i (by omega) (by omega)) hN⟩, rA.k (fun b x => fd b (by omega) (by omega) (by omega)) (fun i hi => e i (by omega) (by omega)), rO.k (fun b x y => fd b (by omega) (by omega) (by omega)) (fun i hi => e i (by omega) (by omega)) n7, rQ.k (fd _ (by omega) (by omega) (by omega)) (fun i hi => e i (by omega) (by omega)) n7 hO, rP.k (fun b x y => fd b (by omega) (by omega) (by omega)) (fun i hi => e i (by omega) (by omega)) n8, RelT.k (fun b x y => fd b (by omega) (by omega) (by omega)) (fun i hi => e i (by omega) (by omega)) n9 ⟨t1, t2⟩, ?_, rK.k (by rw [fd _ (by omega) (by omega) (by omega)]) (fun b x y => fd b (by omega) (by omega) (by omega)) (fun i hi => e i (by omega) (by omega)) n10, rR.k (by rw [fd _ (by omega) (by omega) (by omega)]) (fd _ (by omega) (by omega) (by omega)) (fun i hi => e i (by omega) (by omega)) n11, ?_, rH.k (fun b x y => fd b (by omega) (by omega) (by omega)) (fun i hi => e i (by omega) (by omega)) n8 n9 n10 hK.of⟩
  · intro t' x y
    rw [e9] at y
    have g := hC t' x y
    rw [ef t' 3 (by decide) (by decide), ef t' 4 (by decide) (by decide), ef t' 5 (by decide) (by decide), ef t' 6 (by decide) (by decide), e0]
    refine ⟨g.1, g.2.1, g.2.2.1, g.2.2.2.1, fun q a b => ?_⟩
    by_cases c : t' = t ∧ q = p
    · obtain ⟨rfl, rfl⟩ := c
      rw [e8]
      omega
    · rw [eq8 t' q a b c]
      exact g.2.2.2.2 q a b
  · intro t' x y
    rw [e9] at y
    obtain ⟨g1, g2, g3, g4, g5⟩ := rC t' x y
    rw [fd (s + 55) (by omega) (by omega) (by omega), ef t' 5 (by decide) (by decide), ef t' 6 (by decide) (by decide)]
    by_cases c : t' = t
    · subst c
      have hm : d' (s + 56) t' = mior (d (s + 56) t') (mishl 1 p) := by
        rw [← hd]
        simp (disch := omega) only [ms_a, ms_e]
      have hr := mior_rng g4 g5 hp.1 (by omega : p < 16)
      rw [hm, e7]
      refine ⟨g1, ?_, fun q a b => ?_, hr.1, hr.2⟩
      · have hs := csum_upd (f := fun q => if w' (452 + 24 * t' + 8 + q) = 0 then 0 else 1) (g := fun q => if w (452 + 24 * t' + 8 + q) = 0 then 0 else 1) (n := 16) (k := p) hp.1 (by omega) (fun i a b c => by
          show (if w' (452 + 24 * t' + 8 + i) = 0 then (0 : Int) else 1) = if w (452 + 24 * t' + 8 + i) = 0 then 0 else 1
          rw [eq8 t' i a (by omega) (fun z => c z.2)])
        rw [e8, hz, if_neg (by omega), if_pos rfl] at hs
        rw [hs, g2]
        omega
      · have hb := iset (d (s + 56) t') p.toNat q.toNat (by omega) (by omega)
        rw [show ((p.toNat : Nat) : Int) = p by omega] at hb
        rw [hb]
        by_cases c : q = p
        · subst c
          rw [if_pos rfl, e8]
          exact ⟨fun _ => by omega, fun _ => rfl⟩
        · rw [if_neg (by omega), eq8 t' q a b (fun z => c z.2)]
          exact g3 q a b
    · have hm : d' (s + 56) t' = d (s + 56) t' := by
        rw [← hd]
        simp (disch := omega) only [ms_a, ms_i]
      rw [hm, e (452 + 24 * t' + 7) (by omega) (by omega)]
      refine ⟨g1, ?_, fun q a b => ?_, g4, g5⟩
      · rw [g2]
        exact csum_congr (fun q a b => by rw [eq8 t' q a (by omega) (fun z => c z.1)])
      · rw [eq8 t' q a b (fun z => c z.1)]
        exact g3 q a b
  · intro q x y
    rw [e 8 (by omega) (by omega)] at y
    obtain ⟨g1, g2, g3⟩ := rB q x y
    rw [fd (s + 13) (by omega) (by omega) (by omega)]
    have hat : attR w' q = attR w q + (if q = p then 1 else 0) := by
      unfold attR
      rw [e9, e0]
      by_cases c : q = p
      · subst c
        have hs := csum_upd (f := fun t => if 0 < w' (452 + 24 * t + 8 + q) ∧ (w' (452 + 24 * t + 8 + q) - 1) / 20 = w 0 / 20 then 1 else 0) (g := fun t => if 0 < w (452 + 24 * t + 8 + q) ∧ (w (452 + 24 * t + 8 + q) - 1) / 20 = w 0 / 20 then 1 else 0) (n := (w 9).toNat) (k := t) ht.1 (by omega) (fun i a b c => by
          show (if 0 < w' (452 + 24 * i + 8 + q) ∧ (w' (452 + 24 * i + 8 + q) - 1) / 20 = w 0 / 20 then (1 : Int) else 0) = if 0 < w (452 + 24 * i + 8 + q) ∧ (w (452 + 24 * i + 8 + q) - 1) / 20 = w 0 / 20 then 1 else 0
          rw [eq8 i q x (by omega) (fun z => c z.1)])
        rw [e8, hz, if_pos ⟨by omega, by rw [show w 0 + 1 - 1 = w 0 by omega]⟩, if_neg (fun z => absurd z.1 (by decide))] at hs
        rw [hs, if_pos rfl]
        omega
      · rw [if_neg c, Int.add_zero]
        exact csum_congr (fun t' a b => by rw [eq8 t' q x (by omega) (fun z => c z.2)])
    refine ⟨?_, ?_, fun r a b => ?_⟩
    · rw [g1]
      refine (madeR_k' ?_ ?_).symm
      · exact e 10 (by omega) (by omega)
      · intro k a b
        have gk := hK k a b
        refine ⟨?_, e _ (by omega) (by omega), e0⟩
        unfold perO
        rw [e (1916 + 5 * k + 1) (by omega) (by omega), ef _ 0 (by decide) (by decide)]
    · rw [hat, ← g2, ← hd]
      by_cases c : q = p
      · rw [if_pos c, c]
        simp (disch := omega) only [ms_a, ms_e]
      · rw [if_neg c]
        simp (disch := omega) only [ms_a, ms_i]
        omega
    · have hx : ib (d' (s + 15) q) r.toNat = true ↔ ib (d (s + 15) q) r.toNat = true ∨ (q = p ∧ r = w (452 + 24 * t + 0)) := by
        by_cases c : q = p
        · subst c
          have hm : d' (s + 15) q = mior (d (s + 15) q) (mishl 1 (w (452 + 24 * t + 0))) := by
            rw [← hd]
            simp (disch := omega) only [ms_e]
          have hb := iset (d (s + 15) q) (w (452 + 24 * t + 0)).toNat r.toNat (by omega) (by omega)
          rw [show (((w (452 + 24 * t + 0)).toNat : Nat) : Int) = w (452 + 24 * t + 0) by omega] at hb
          rw [hm, hb]
          by_cases c2 : r = w (452 + 24 * t + 0)
          · rw [if_pos (by omega)]
            exact ⟨fun _ => Or.inr ⟨rfl, c2⟩, fun _ => rfl⟩
          · rw [if_neg (by omega)]
            exact ⟨fun z => Or.inl z, fun z => z.elim id (fun z => absurd z.2 c2)⟩
        · have hm : d' (s + 15) q = d (s + 15) q := by
            rw [← hd]
            simp (disch := omega) only [ms_a, ms_i]
          rw [hm]
          exact ⟨fun z => Or.inl z, fun z => z.elim id (fun z => absurd z.1 c)⟩
      rw [hx, g3 r a b, e9]
      constructor
      · rintro (⟨t', z1, z2, z3, z4⟩ | ⟨z1, z2⟩)
        · exact ⟨t', z1, z2, by rw [ef t' 0 (by decide) (by decide)]; exact z3, (at0 t' q x (by omega)).mpr (Or.inl z4)⟩
        · exact ⟨t, ht.1, ht.2, by rw [ef t 0 (by decide) (by decide), z2], (at0 t q x (by omega)).mpr (Or.inr ⟨rfl, z1⟩)⟩
      · rintro ⟨t', z1, z2, z3, z4⟩
        rw [ef t' 0 (by decide) (by decide)] at z3
        rcases (at0 t' q x (by omega)).mp z4 with z | ⟨z, z'⟩
        · exact Or.inl ⟨t', z1, z2, z3, z⟩
        · rw [z] at z3
          exact Or.inr ⟨z', z3.symm⟩
theorem witCount {s t : Int} {d d2 : mD} {w : Row} (h : Rel s d w) (ht : 0 ≤ t ∧ t < w 9) : v_298 (d (s + 56) t) d2 = w (452 + 24 * t + 7) := by
  obtain ⟨g1, g2, g3, g4, g5⟩ := h.2.2.2.2.2.1 t ht.1 ht.2
  rw [v298_bits g4 g5, g2]
  refine csum_congr (fun p a b => ?_)
  have k := g3 p a (by omega)
  by_cases z : ib (d (s + 56) t) p.toNat = true
  · rw [if_pos z, if_neg (k.mp z)]
  · rw [if_neg z]
    by_cases z2 : w (452 + 24 * t + 8 + p) = 0
    · rw [if_pos z2]
    · exact absurd (k.mpr z2) z
theorem attest {s t p : Int} {d : mD} {w : Row} (hg : GG w) (h : Rel s d w) (ht : 0 ≤ t ∧ t < w 9) (hp : 0 ≤ p ∧ p < w 8) (hv : V_234 t p w = 0) (h9 : w 0 ≤ 999) : v_75 s t p d = V_235 t p w ∧ GG (W_235 t p w) ∧ Rel s (g_75 s t p d) (W_235 t p w) ∧ ∀ i, i ≤ 9 → W_235 t p w i = w i := by
  have n9 := hg.1.2.2.1
  have n8 := hg.1.2.1
  obtain ⟨c5, c6, c0, c8⟩ := (hinder hg h ht hp).2 hv
  have gt := hg.2.2.2.1 t ht.1 ht.2
  have gC := hg.2.2.2.2.1 t ht.1 ht.2
  have c4 := gC.2.2.2.1 c5
  have hen : w (452 + 24 * t + 3) ≤ 999 := by
    have := gt.2.2.2.2.2 (by omega)
    omega
  have e3 : d (s + 1) 1 = w 3 := h.1.2.2 1 (by omega) (by omega)
  have h8 : ¬ 452 + 24 * t + 8 + p = 452 + 24 * t + 7 := by omega
  generalize hw1 : ws (ws w (((452 + (24 * t)) + 8) + p) ((w 0) + 1)) ((452 + (24 * t)) + 7) ((w ((452 + (24 * t)) + 7)) + 1) = w1
  have f8 : w1 (452 + 24 * t + 8 + p) = w 0 + 1 := by rw [← hw1, wsn h8, wse rfl]
  have f7 : w1 (452 + 24 * t + 7) = w (452 + 24 * t + 7) + 1 := by rw [← hw1, wse rfl]
  have fi : ∀ i, ¬ i = 452 + 24 * t + 8 + p → ¬ i = 452 + 24 * t + 7 → w1 i = w i := fun i a b => by rw [← hw1, wsn b, wsn a]
  obtain ⟨g1, r1⟩ := witStep hg h ht hp c8 f8 f7 fi
  have t9 : w1 9 = w 9 := fi 9 (by omega) (by omega)
  generalize hd1 : (mset (mset (mset d (s + 56) t (mior (d (s + 56) t) (mishl 1 p))) (s + 14) p (d (s + 14) p + 1)) (s + 15) p (mior (d (s + 15) p) (mishl 1 (d (s + 50) t)))) = d1 at r1
  have hcnt := witCount (d2 := d1) r1 (t := t) (by rw [t9]; exact ht)
  have hm : d1 (s + 56) t = mior (d (s + 56) t) (mishl 1 p) := by
    rw [← hd1]
    simp (disch := omega) only [ms_a, ms_e]
  rw [hm, f7] at hcnt
  unfold v_75 g_75 V_235 W_235
  rw [show s + 49 + 7 = s + 56 by omega, show s + 10 + 4 = s + 14 by omega, show s + 10 + 5 = s + 15 by omega, show s + 49 + 1 = s + 50 by omega, hd1, hcnt, e3, hw1]
  by_cases c : w (452 + 24 * t + 7) + 1 < w 3
  · simp only [if_pos c]
    exact ⟨trivial, g1, r1, fun i hi => fi i (by omega) (by omega)⟩
  · simp only [if_neg c]
    obtain ⟨g2, r2⟩ := setC (s := s) (t := t) (c := 1) (v := 1) (w' := ws w1 (452 + 24 * t + 6) 1) g1 r1 (by rw [t9]; exact ht) (Or.inr rfl) (Or.inr rfl) (fun _ => ⟨rfl, by rw [fi _ (by omega) (by omega)]; exact hen⟩) (fun _ => by rw [fi _ (by omega) (by omega)]; exact c4) (by rw [wsn (by omega), fi _ (by omega) (by omega)]; exact c5) (wse rfl) (fun i a b => wsn b)
    rw [show (1 : Int) + 1 = 2 by decide] at r2
    obtain ⟨m1, m2, m3, m4⟩ := makes (t := t) g2 r2 (by rw [wsn (by omega), t9]; exact ht) (by rw [wsn (by omega), fi _ (by omega) (by omega)]; exact c4) (by rw [wsn (by omega), fi _ (by omega) (by omega)]; exact hen)
    unfold v_76 g_76
    rw [show s + 49 + 6 = s + 55 by omega]
    exact ⟨m1, m2, m3, fun i hi => by rw [m4 i (by omega) (by omega), wsn (by omega), fi i (by omega) (by omega)]⟩
/-! ===== tokens change hands; tokens are offered ===== -/
theorem cntGen {L : Nat → Int → Int → Int} {f : Int → Int} {N : Int} (hz : ∀ (n : Nat) (a k : Int), N ≤ k → L n a k = a) (hs : ∀ (n : Nat) (a k : Int), 0 ≤ k → k < N → L (n + 1) a k = L n (a + f k) (k + 1)) : ∀ (n : Nat) (a k : Int), 0 ≤ k → k ≤ N → N - k ≤ (n : Int) → L n a k = a + (csum f N.toNat - csum f k.toNat) := by
  intro n
  induction n with
  | zero =>
    intro a k h0 hk hn
    have e : k = N := by omega
    rw [hz 0 a k (by omega), e]
    omega
  | succ n ih =>
    intro a k h0 hk hn
    by_cases c : k < N
    · have i := ih (a + f k) (k + 1) (by omega) (by omega) (by omega)
      rw [csum_s _ h0] at i
      rw [hs n a k h0 c, i]
      omega
    · have e : k = N := by omega
      rw [hz _ a k (by omega), e]
      omega
theorem cnt0 {L : Nat → Int → Int → Int} {f : Int → Int} {N : Int} {n : Nat} (hN : 0 ≤ N) (hn : N ≤ (n : Int)) (hz : ∀ (n : Nat) (a k : Int), N ≤ k → L n a k = a) (hs : ∀ (n : Nat) (a k : Int), 0 ≤ k → k < N → L (n + 1) a k = L n (a + f k) (k + 1)) : L n 0 0 = csum f N.toNat := by
  rw [cntGen hz hs n 0 0 (by omega) hN (by omega)]
  show 0 + (_ - csum _ 0) = _
  simp only [csum]
  omega
theorem v245 {p q : Int} {w : Row} (h10 : 0 ≤ w 10 ∧ w 10 ≤ 200) : V_245 p q w = csum (fun k => if w (1916 + 5 * k + 0) = p ∧ w (1916 + 5 * k + 3) = q then 1 else 0) (w 10).toNat := by
  unfold V_245
  refine cnt0 (L := fun n a k => LP_245_5 p q n a k w) h10.1 (by rw [show (((200 - 0 : Int).toNat : Nat) : Int) = 200 by decide]; omega) (fun n a k h => ?_) (fun n a k h0 h => ?_)
  · cases n with
    | zero =>
      show ST_245_5 p q _ a k w = a
      unfold ST_245_5
      rw [if_neg (by omega)]
    | succ n =>
      show ST_245_5 p q _ a k w = a
      unfold ST_245_5
      rw [if_neg (by omega)]
  · show ST_245_5 p q _ a k w = _
    unfold ST_245_5
    rw [if_pos h]
    by_cases c2 : w (1916 + 5 * k + 0) = p
    · by_cases c3 : w (1916 + 5 * k + 3) = q
      · rw [if_pos c2, if_pos c3, if_pos ⟨c2, c3⟩]
      · rw [if_pos c2, if_neg c3, if_neg (fun z => c3 z.2)]
    · rw [if_neg c2, if_neg (fun z => c2 z.1)]
theorem v111 {s p q : Int} {d : mD} (h10 : 0 ≤ d (s + 57) 0 ∧ d (s + 57) 0 ≤ 200) : v_111 (s + 57) p q d = csum (fun k => if d (s + 58) k = p ∧ d (s + 61) k = q then 1 else 0) (d (s + 57) 0).toNat := by
  unfold v_111
  refine cnt0 (L := fun n a k => lp_111_5 (s + 57) p q n a k d) h10.1 (by rw [show (((200 - 0 : Int).toNat : Nat) : Int) = 200 by decide]; omega) (fun n a k h => ?_) (fun n a k h0 h => ?_)
  · cases n with
    | zero =>
      show st_111_5 (s + 57) p q _ a k d = a
      unfold st_111_5
      rw [if_neg (by omega)]
    | succ n =>
      show st_111_5 (s + 57) p q _ a k d = a
      unfold st_111_5
      rw [if_neg (by omega)]
  · show st_111_5 (s + 57) p q _ a k d = _
    unfold st_111_5
    rw [if_pos h, show s + 57 + 1 = s + 58 by omega, show s + 57 + 4 = s + 61 by omega]
    by_cases c2 : d (s + 58) k = p
    · by_cases c3 : d (s + 61) k = q <;> simp [c2, c3]
    · simp [c2]
theorem owned {s p q : Int} {d : mD} {w : Row} (hg : GG w) (h : Rel s d w) : v_111 (s + 57) p q d = V_245 p q w := by
  have n10 := hg.1.2.2.2.1
  obtain ⟨-, -, -, -, -, -, ⟨k1, k2⟩, -⟩ := h
  rw [v111 (by rw [k1]; exact n10), v245 n10, k1]
  refine csum_congr (fun k a b => ?_)
  have g := k2 k a (by omega)
  rw [g.1, g.2.2.2]
-- one token goes to another person
theorem giveStep {s k o : Int} {d : mD} {w : Row} (hg : GG w) (h : Rel s d w) (hk : 0 ≤ k ∧ k < w 10) (ho : 0 ≤ o ∧ o < w 8) : GG (ws w (1916 + 5 * k + 0) o) ∧ Rel s (mset d (s + 58) k o) (ws w (1916 + 5 * k + 0) o) := by
  obtain ⟨hN, hO, hQ, hT, hC, hK, hR⟩ := id hg
  obtain ⟨n7, n8, n9, n10, n11, n0, n1, n2, n3, n4, n5, n6⟩ := id hN
  obtain ⟨rA, rO, rQ, rP, rT, rC, ⟨k1, k2⟩, rR, rB, rH⟩ := h
  generalize hw : ws w (1916 + 5 * k + 0) o = w'
  have eo : w' (1916 + 5 * k + 0) = o := by rw [← hw]; exact wse rfl
  have e : ∀ i, ¬ i = 1916 + 5 * k + 0 → w' i = w i := fun i hi => by rw [← hw]; exact wsn hi
  have fd : ∀ b, ¬ b = s + 58 → mset d (s + 58) k o b = d b := fun b x => by
    funext j
    exact ms_a x
  refine ⟨⟨hN.k (fun i hi => e i (by omega)), hO.k (fun i hi => e i (by omega)) hN, hQ.k (fun i hi => e i (by omega)) hN hO, hT.k (fun i hi => e i (by omega)) hN hO, hC.k (fun i hi => e i (by omega)) hN, hK.k2 (fun i hi => e i (by omega)) hN (fun j x y => ?_), hR.k (fun i hi => e i (by omega)) hN⟩, rA.k (fun b x => fd b (by omega)) (fun i hi => e i (by omega)), rO.k (fun b x y => fd b (by omega)) (fun i hi => e i (by omega)) n7, rQ.k (fd _ (by omega)) (fun i hi => e i (by omega)) n7 hO, rP.k (fun b x y => fd b (by omega)) (fun i hi => e i (by omega)) n8, rT.k (fun b x y => fd b (by omega)) (fun i hi => e i (by omega)) n9, rC.k (fun b x => fd b (by omega)) (fun i hi => e i (by omega)) n9, ⟨?_, fun j x y => ?_⟩, rR.k (by rw [fd _ (by omega)]) (fd _ (by omega)) (fun i hi => e i (by omega)) n11, rB.k (fun b x y => fd b (by omega)) (fun i hi => e i (by omega)) n8 n9 n10 hK.of, rH.k (fun b x y => fd b (by omega)) (fun i hi => e i (by omega)) n8 n9 n10 hK.of⟩
  · have g := hK j x y
    refine ⟨?_, by rw [e _ (by omega)]; exact g.2.2.2.1⟩
    by_cases c : j = k
    · rw [c, eo]; exact ho
    · rw [e _ (by omega)]; exact g.1
  · rw [fd _ (by omega), e 10 (by omega)]; exact k1
  · rw [e 10 (by omega)] at y
    have g := k2 j x y
    rw [fd (s + 59) (by omega), fd (s + 60) (by omega), fd (s + 61) (by omega), e (1916 + 5 * j + 1) (by omega), e (1916 + 5 * j + 2) (by omega), e (1916 + 5 * j + 3) (by omega)]
    refine ⟨?_, g.2⟩
    by_cases c : j = k
    · rw [c, eo, ms_e rfl rfl]
    · rw [e _ (by omega), ms_i c]; exact g.1
theorem giveLoop {s p o m0 : Int} : ∀ (nc nr : Nat) (m k : Int) (d : mD) (w : Row), 0 ≤ k → GG w → Rel s d w → 0 ≤ o ∧ o < w 8 → w 10 - k ≤ (nc : Int) → w 10 - k ≤ (nr : Int) →
    ∃ w', LP_285_79 p o m0 nr m k w = (V_245 o 0 w', w') ∧ GG w' ∧ Rel s (lp_114_6 (s + 57) p o m0 nc m k d) w' ∧ XR w w' := by
  intro nc
  induction nc with
  | zero =>
    intro nr m k d w h0 hg h ho h1 h2
    have k1 := h.2.2.2.2.2.2.1.1
    have e : lp_114_6 (s + 57) p o m0 0 m k d = d := by
      show st_114_6 (s + 57) p o m0 _ m k d = d
      unfold st_114_6
      rw [if_neg (by omega)]
    refine ⟨w, ?_, hg, by rw [e]; exact h, XR.refl⟩
    cases nr with
    | zero =>
      show ST_285_79 p o m0 _ m k w = _
      unfold ST_285_79
      rw [if_neg (by omega)]
    | succ nr =>
      show ST_285_79 p o m0 _ m k w = _
      unfold ST_285_79
      rw [if_neg (by omega)]
  | succ nc ih =>
    intro nr m k d w h0 hg h ho h1 h2
    obtain ⟨k1, k2⟩ := h.2.2.2.2.2.2.1
    by_cases c1 : k < w 10
    · cases nr with
      | zero => omega
      | succ nr =>
        have g := k2 k h0 c1
        by_cases c2 : 0 < m
        · by_cases c3 : w (1916 + 5 * k + 0) = p
          · by_cases c4 : w (1916 + 5 * k + 3) = 0
            · obtain ⟨g', r'⟩ := giveStep (o := o) hg h ⟨h0, c1⟩ ho
              have e : lp_114_6 (s + 57) p o m0 (nc + 1) m k d = lp_114_6 (s + 57) p o m0 nc (m + -1) (k + 1) (mset d (s + 58) k o) := by
                show st_114_6 (s + 57) p o m0 _ m k d = _
                unfold st_114_6
                rw [if_pos (by omega), if_pos c2, show s + 57 + 1 = s + 58 by omega, show s + 57 + 4 = s + 61 by omega, if_pos (by rw [g.1]; exact c3), if_pos (by rw [g.2.2.2]; exact c4)]
              have e2 : LP_285_79 p o m0 (nr + 1) m k w = LP_285_79 p o m0 nr (m + -1) (k + 1) (ws w (1916 + 5 * k + 0) o) := by
                show ST_285_79 p o m0 _ m k w = _
                unfold ST_285_79
                rw [if_pos c1, if_pos c2, if_pos c3, if_pos c4]
              rw [e, e2]
              have e10 : ws w (1916 + 5 * k + 0) o 10 = w 10 := wsn (by omega)
              have e8 : ws w (1916 + 5 * k + 0) o 8 = w 8 := wsn (by omega)
              obtain ⟨w', q1, q2, q3, q4⟩ := ih nr (m + -1) (k + 1) _ _ (by omega) g' r' (by rw [e8]; exact ho) (by rw [e10]; omega) (by rw [e10]; omega)
              exact ⟨w', q1, q2, q3, XR.trans ⟨GXI.keep hg.1.2.1 e8 (wsn (by omega)) (fun t q a b u v => wsn (by have := hg.1.2.2.1; omega)) (fun p a b => wsn (by omega)) (Int.le_of_eq (C2_of e10 (fun j a b => by rw [wsn (by omega)])).symm), wsn (by omega)⟩ q4⟩
            · have e : lp_114_6 (s + 57) p o m0 (nc + 1) m k d = lp_114_6 (s + 57) p o m0 nc m (k + 1) d := by
                show st_114_6 (s + 57) p o m0 _ m k d = _
                unfold st_114_6
                rw [if_pos (by omega), if_pos c2, show s + 57 + 1 = s + 58 by omega, show s + 57 + 4 = s + 61 by omega, if_pos (by rw [g.1]; exact c3), if_neg (by rw [g.2.2.2]; exact c4)]
              have e2 : LP_285_79 p o m0 (nr + 1) m k w = LP_285_79 p o m0 nr m (k + 1) w := by
                show ST_285_79 p o m0 _ m k w = _
                unfold ST_285_79
                rw [if_pos c1, if_pos c2, if_pos c3, if_neg c4]
              rw [e, e2]
              exact ih nr m (k + 1) d w (by omega) hg h ho (by omega) (by omega)
          · have e : lp_114_6 (s + 57) p o m0 (nc + 1) m k d = lp_114_6 (s + 57) p o m0 nc m (k + 1) d := by
              show st_114_6 (s + 57) p o m0 _ m k d = _
              unfold st_114_6
              rw [if_pos (by omega), if_pos c2, show s + 57 + 1 = s + 58 by omega, if_neg (by rw [g.1]; exact c3)]
            have e2 : LP_285_79 p o m0 (nr + 1) m k w = LP_285_79 p o m0 nr m (k + 1) w := by
              show ST_285_79 p o m0 _ m k w = _
              unfold ST_285_79
              rw [if_pos c1, if_pos c2, if_neg c3]
            rw [e, e2]
            exact ih nr m (k + 1) d w (by omega) hg h ho (by omega) (by omega)
        · have e : lp_114_6 (s + 57) p o m0 (nc + 1) m k d = d := by
            show st_114_6 (s + 57) p o m0 _ m k d = d
            unfold st_114_6
            rw [if_pos (by omega), if_neg c2]
          refine ⟨w, ?_, hg, by rw [e]; exact h, XR.refl⟩
          show ST_285_79 p o m0 _ m k w = _
          unfold ST_285_79
          rw [if_pos c1, if_neg c2]
    · have e : lp_114_6 (s + 57) p o m0 (nc + 1) m k d = d := by
        show st_114_6 (s + 57) p o m0 _ m k d = d
        unfold st_114_6
        rw [if_neg (by omega)]
      refine ⟨w, ?_, hg, by rw [e]; exact h, XR.refl⟩
      cases nr with
      | zero =>
        show ST_285_79 p o m0 _ m k w = _
        unfold ST_285_79
        rw [if_neg (by omega)]
      | succ nr =>
        show ST_285_79 p o m0 _ m k w = _
        unfold ST_285_79
        rw [if_neg (by omega)]
-- one token is offered
theorem csum_full {f : Int → Int} {n : Nat} (h : ∀ i : Int, 0 ≤ i → i < (n : Int) → f i ≤ 1) {k : Int} (k0 : 0 ≤ k) (k1 : k < (n : Int)) (hk : f k ≤ 0) : csum f n + 1 ≤ (n : Int) := by
  induction n with
  | zero => omega
  | succ n ih =>
    have hn := h (n : Int) (by omega) (by omega)
    show csum f n + f (n : Int) + 1 ≤ _
    by_cases c : k = (n : Int)
    · rw [c] at hk
      have : ∀ m : Nat, (m : Int) ≤ (n : Int) → csum f m ≤ (m : Int) := fun m => by
        induction m with
        | zero => intro _; simp [csum]
        | succ m ihm =>
          intro hm
          have a := ihm (by omega)
          have b := h (m : Int) (by omega) (by omega)
          show csum f m + f (m : Int) ≤ _
          omega
      have := this n (by omega)
      omega
    · have := ih (fun i a b => h i a (by omega)) (by omega)
      omega
theorem offStep {s k : Int} {d : mD} {w : Row} (hg : GG w) (h : Rel s d w) (hk : 0 ≤ k ∧ k < w 10) (h3 : w (1916 + 5 * k + 3) = 0) : w 11 < 200 ∧ GG (ws (ws (ws w ((1916 + (5 * k)) + 3) 1) (2916 + (w 11)) k) 11 ((w 11) + 1)) ∧ Rel s (mset (mset (mset d (s + 61) k 1) (s + 62) (w 11) k) (s + 57) 5 (w 11 + 1)) (ws (ws (ws w ((1916 + (5 * k)) + 3) 1) (2916 + (w 11)) k) 11 ((w 11) + 1)) := by
  obtain ⟨hN, hO, hQ, hT, hC, hK, hR⟩ := id hg
  obtain ⟨n7, n8, n9, n10, n11, n0, n1, n2, n3, n4, n5, n6⟩ := id hN
  obtain ⟨rA, rO, rQ, rP, rT, rC, ⟨k1, k2⟩, ⟨r1, r2⟩, rB, rH⟩ := h
  have hlt : w 11 < 200 := by
    have := csum_full (f := fun k => if w (1916 + 5 * k + 3) = 1 then 1 else 0) (n := (w 10).toNat) (fun i a b => by
      show (if w (1916 + 5 * i + 3) = 1 then (1 : Int) else 0) ≤ 1
      split <;> omega) (k := k) hk.1 (by omega) (by
      show (if w (1916 + 5 * k + 3) = 1 then (1 : Int) else 0) ≤ 0
      rw [if_neg (by omega)]
      omega)
    have r := hR.1
    omega
  refine ⟨hlt, ?_⟩
  generalize hw : (ws (ws (ws w ((1916 + (5 * k)) + 3) 1) (2916 + (w 11)) k) 11 ((w 11) + 1)) = w'
  have e11 : w' 11 = w 11 + 1 := by rw [← hw]; exact wse rfl
  have e3 : w' (1916 + 5 * k + 3) = 1 := by
    rw [← hw]
    simp (disch := omega) only [wse, wsn]
  have er : w' (2916 + w 11) = k := by
    rw [← hw]
    simp (disch := omega) only [wse, wsn]
  have e : ∀ i, ¬ i = 1916 + 5 * k + 3 → ¬ i = 2916 + w 11 → ¬ i = 11 → w' i = w i := fun i a b c => by
    rw [← hw, wsn c, wsn b, wsn a]
  generalize hd : mset (mset (mset d (s + 61) k 1) (s + 62) (w 11) k) (s + 57) 5 (w 11 + 1) = d'
  have fd : ∀ b, ¬ b = s + 61 → ¬ b = s + 62 → ¬ b = s + 57 → d' b = d b := fun b x y z => by
    rw [← hd]
    funext j
    simp (disch := omega) only [ms_a]
  have nk : ∀ i, 0 ≤ i → i < w 11 → ¬ w (2916 + i) = k := fun i a b z => by
    have := (hR.2 i a b).2.1
    rw [z] at this
    omega
  refine ⟨⟨?_, hO.k (fun i hi => e i (by omega) (by omega) (by omega)) hN, hQ.k (fun i hi => e i (by omega) (by omega) (by omega)) hN hO, hT.k (fun i hi => e i (by omega) (by omega) (by omega)) hN hO, hC.k (fun i hi => e i (by omega) (by omega) (by omega)) hN, hK.k2 (fun i hi => e i (by omega) (by omega) (by omega)) hN (fun j x y => ?_), ⟨?_, fun j x y => ?_⟩⟩, rA.k (fun b x => fd b (by omega) (by omega) (by omega)) (fun i hi => e i (by omega) (by omega) (by omega)), rO.k (fun b x y => fd b (by omega) (by omega) (by omega)) (fun i hi => e i (by omega) (by omega) (by omega)) n7, rQ.k (fd _ (by omega) (by omega) (by omega)) (fun i hi => e i (by omega) (by omega) (by omega)) n7 hO, rP.k (fun b x y => fd b (by omega) (by omega) (by omega)) (fun i hi => e i (by omega) (by omega) (by omega)) n8, rT.k (fun b x y => fd b (by omega) (by omega) (by omega)) (fun i hi => e i (by omega) (by omega) (by omega)) n9, rC.k (fun b x => fd b (by omega) (by omega) (by omega)) (fun i hi => e i (by omega) (by omega) (by omega)) n9, ⟨?_, fun j x y => ?_⟩, ⟨?_, fun j x y => ?_⟩, rB.k (fun b x y => fd b (by omega) (by omega) (by omega)) (fun i hi => e i (by omega) (by omega) (by omega)) n8 n9 n10 hK.of, rH.k (fun b x y => fd b (by omega) (by omega) (by omega)) (fun i hi => e i (by omega) (by omega) (by omega)) n8 n9 n10 hK.of⟩
  · unfold GN
    rw [e11, e 0 (by omega) (by omega) (by omega), e 1 (by omega) (by omega) (by omega), e 2 (by omega) (by omega) (by omega), e 3 (by omega) (by omega) (by omega), e 4 (by omega) (by omega) (by omega), e 5 (by omega) (by omega) (by omega), e 6 (by omega) (by omega) (by omega), e 7 (by omega) (by omega) (by omega), e 8 (by omega) (by omega) (by omega), e 9 (by omega) (by omega) (by omega), e 10 (by omega) (by omega) (by omega)]
    omega
  · have g := hK j x y
    refine ⟨by rw [e _ (by omega) (by omega) (by omega)]; exact g.1, ?_⟩
    by_cases c : j = k
    · rw [c, e3]; omega
    · rw [e _ (by omega) (by omega) (by omega)]; exact g.2.2.2.1
  · have hs := csum_upd (f := fun k => if w' (1916 + 5 * k + 3) = 1 then 1 else 0) (g := fun k => if w (1916 + 5 * k + 3) = 1 then 1 else 0) (n := (w 10).toNat) (k := k) hk.1 (by omega) (fun i a b c => by
      show (if w' (1916 + 5 * i + 3) = 1 then (1 : Int) else 0) = if w (1916 + 5 * i + 3) = 1 then 1 else 0
      rw [e _ (by omega) (by omega) (by omega)])
    rw [e3, h3, if_pos rfl, if_neg (by decide)] at hs
    rw [e11, e 10 (by omega) (by omega) (by omega), hs, ← hR.1]
    omega
  · rw [e11] at y
    rw [e 10 (by omega) (by omega) (by omega)]
    by_cases c : j = w 11
    · rw [c, er, e3]
      refine ⟨hk, rfl, fun i a b => ?_⟩
      rw [e _ (by omega) (by omega) (by omega)]
      exact nk i a b
    · have g := hR.2 j x (by omega)
      have := nk j x (by omega)
      rw [e (2916 + j) (by omega) (by omega) (by omega), e (1916 + 5 * w (2916 + j) + 3) (by omega) (by omega) (by omega)]
      refine ⟨g.1, g.2.1, fun i a b => ?_⟩
      rw [e (2916 + i) (by omega) (by omega) (by omega)]
      exact g.2.2 i a b
  · rw [e 10 (by omega) (by omega) (by omega), ← hd, ms_i (by omega)]
    simp (disch := omega) only [ms_a]
    exact k1
  · rw [e 10 (by omega) (by omega) (by omega)] at y
    have g := k2 j x y
    rw [fd (s + 58) (by omega) (by omega) (by omega), fd (s + 59) (by omega) (by omega) (by omega), fd (s + 60) (by omega) (by omega) (by omega), e (1916 + 5 * j + 0) (by omega) (by omega) (by omega), e (1916 + 5 * j + 1) (by omega) (by omega) (by omega), e (1916 + 5 * j + 2) (by omega) (by omega) (by omega)]
    refine ⟨g.1, g.2.1, g.2.2.1, ?_⟩
    rw [← hd]
    by_cases c : j = k
    · rw [c, e3]
      simp (disch := omega) only [ms_a, ms_e]
    · rw [e _ (by omega) (by omega) (by omega)]
      simp (disch := omega) only [ms_a, ms_i]
      exact g.2.2.2
  · rw [e11, ← hd, ms_e rfl rfl]
  · rw [e11] at y
    rw [← hd]
    by_cases c : j = w 11
    · rw [c, er]
      simp (disch := omega) only [ms_a, ms_e]
    · rw [e _ (by omega) (by omega) (by omega)]
      simp (disch := omega) only [ms_a, ms_i]
      exact r2 j x (by omega)
theorem offIdle {p m0 : Int} : ∀ (n : Nat) (m k : Int) (w : Row), w 10 - k ≤ (n : Int) → 0 ≤ k → (∀ j, 0 ≤ j → j < w 10 → ¬ w (1916 + 5 * j + 3) = 0) → LP_286_65 p m0 n m k w = (V_219 w, W_219 w) := by
  intro n
  induction n with
  | zero =>
    intro m k w hn h0 hz
    show ST_286_65 p m0 _ m k w = _
    unfold ST_286_65
    rw [if_neg (by omega)]
  | succ n ih =>
    intro m k w hn h0 hz
    show ST_286_65 p m0 _ m k w = _
    unfold ST_286_65
    by_cases c1 : k < w 10
    · rw [if_pos c1]
      by_cases c2 : 0 < m
      · rw [if_pos c2, if_neg (hz k h0 c1)]
        split
        · exact ih m (k + 1) w (by omega) (by omega) hz
        · exact ih m (k + 1) w (by omega) (by omega) hz
      · rw [if_neg c2]
    · rw [if_neg c1]
theorem offLoop {s p m0 : Int} : ∀ (nc nr : Nat) (m k : Int) (d : mD) (w : Row), 0 ≤ k → GG w → Rel s d w → w 10 - k ≤ (nc : Int) → w 10 - k ≤ (nr : Int) →
    ∃ w', LP_286_65 p m0 nr m k w = (V_219 w', W_219 w') ∧ GG w' ∧ Rel s (lp_115_5 (s + 57) p m0 nc m k d) w' ∧ XR w w' := by
  intro nc
  induction nc with
  | zero =>
    intro nr m k d w h0 hg h h1 h2
    have k1 := h.2.2.2.2.2.2.1.1
    have e : lp_115_5 (s + 57) p m0 0 m k d = d := by
      show st_115_5 (s + 57) p m0 _ m k d = d
      unfold st_115_5
      rw [if_neg (by omega)]
    refine ⟨w, ?_, hg, by rw [e]; exact h, XR.refl⟩
    cases nr with
    | zero =>
      show ST_286_65 p m0 _ m k w = _
      unfold ST_286_65
      rw [if_neg (by omega)]
    | succ nr =>
      show ST_286_65 p m0 _ m k w = _
      unfold ST_286_65
      rw [if_neg (by omega)]
  | succ nc ih =>
    intro nr m k d w h0 hg h h1 h2
    obtain ⟨k1, k2⟩ := h.2.2.2.2.2.2.1
    have r1 := h.2.2.2.2.2.2.2.1.1
    by_cases c1 : k < w 10
    · cases nr with
      | zero => omega
      | succ nr =>
        have g := k2 k h0 c1
        by_cases c2 : 0 < m
        · by_cases c5 : w 11 < 200
          · by_cases c3 : w (1916 + 5 * k + 0) = p
            · by_cases c4 : w (1916 + 5 * k + 3) = 0
              · obtain ⟨-, g', r'⟩ := offStep hg h ⟨h0, c1⟩ c4
                have e : lp_115_5 (s + 57) p m0 (nc + 1) m k d = lp_115_5 (s + 57) p m0 nc (m + -1) (k + 1) (mset (mset (mset d (s + 61) k 1) (s + 62) (w 11) k) (s + 57) 5 (w 11 + 1)) := by
                  show st_115_5 (s + 57) p m0 _ m k d = _
                  unfold st_115_5
                  rw [if_pos (by omega), if_pos c2, if_pos (by rw [r1]; exact c5), show s + 57 + 1 = s + 58 by omega, show s + 57 + 4 = s + 61 by omega, show s + 57 + 5 = s + 62 by omega, if_pos (by rw [g.1]; exact c3), if_pos (by rw [g.2.2.2]; exact c4), r1]
                have e2 : LP_286_65 p m0 (nr + 1) m k w = LP_286_65 p m0 nr (m + -1) (k + 1) (ws (ws (ws w ((1916 + (5 * k)) + 3) 1) (2916 + (w 11)) k) 11 ((w 11) + 1)) := by
                  show ST_286_65 p m0 _ m k w = _
                  unfold ST_286_65
                  rw [if_pos c1, if_pos c2, if_pos c3, if_pos c4]
                rw [e, e2]
                have n11 := hg.1.2.2.2.2.1
                have e10 : (ws (ws (ws w ((1916 + (5 * k)) + 3) 1) (2916 + (w 11)) k) 11 ((w 11) + 1)) 10 = w 10 := by
                  simp (disch := omega) only [wsn]
                obtain ⟨w', q1, q2, q3, q4⟩ := ih nr (m + -1) (k + 1) _ _ (by omega) g' r' (by rw [e10]; omega) (by rw [e10]; omega)
                refine ⟨w', q1, q2, q3, XR.trans ?_ q4⟩
                have n8 := hg.1.2.1
                have n9 := hg.1.2.2.1
                have n10 := hg.1.2.2.2.1
                generalize hu : (ws (ws (ws w ((1916 + (5 * k)) + 3) 1) (2916 + (w 11)) k) 11 ((w 11) + 1)) = u at *
                have ue : ∀ i, ¬ i = 11 → ¬ i = 1916 + 5 * k + 3 → ¬ i = 2916 + w 11 → u i = w i := fun i a b c => by
                  rw [← hu]
                  simp (disch := omega) only [wsn]
                have u3 : u (1916 + 5 * k + 3) = 1 := by
                  rw [← hu]
                  simp (disch := omega) only [wsn, wse]
                refine ⟨GXI.keep hg.1.2.1 (ue 8 (by omega) (by omega) (by omega)) (ue 9 (by omega) (by omega) (by omega)) (fun t q a b x y => ue _ (by omega) (by omega) (by omega)) (fun p a b => ue _ (by omega) (by omega) (by omega)) (Int.le_of_eq (C2_of e10 (fun j a b => ?_)).symm), ue 0 (by omega) (by omega) (by omega)⟩
                by_cases z : j = k
                · rw [z, u3, c4]
                  exact ⟨fun y => absurd y (by decide), fun y => absurd y (by decide)⟩
                · rw [ue _ (by omega) (by omega) (by omega)]
              · have e : lp_115_5 (s + 57) p m0 (nc + 1) m k d = lp_115_5 (s + 57) p m0 nc m (k + 1) d := by
                  show st_115_5 (s + 57) p m0 _ m k d = _
                  unfold st_115_5
                  rw [if_pos (by omega), if_pos c2, if_pos (by rw [r1]; exact c5), show s + 57 + 1 = s + 58 by omega, show s + 57 + 4 = s + 61 by omega, if_pos (by rw [g.1]; exact c3), if_neg (by rw [g.2.2.2]; exact c4)]
                have e2 : LP_286_65 p m0 (nr + 1) m k w = LP_286_65 p m0 nr m (k + 1) w := by
                  show ST_286_65 p m0 _ m k w = _
                  unfold ST_286_65
                  rw [if_pos c1, if_pos c2, if_pos c3, if_neg c4]
                rw [e, e2]
                exact ih nr m (k + 1) d w (by omega) hg h (by omega) (by omega)
            · have e : lp_115_5 (s + 57) p m0 (nc + 1) m k d = lp_115_5 (s + 57) p m0 nc m (k + 1) d := by
                show st_115_5 (s + 57) p m0 _ m k d = _
                unfold st_115_5
                rw [if_pos (by omega), if_pos c2, if_pos (by rw [r1]; exact c5), show s + 57 + 1 = s + 58 by omega, if_neg (by rw [g.1]; exact c3)]
              have e2 : LP_286_65 p m0 (nr + 1) m k w = LP_286_65 p m0 nr m (k + 1) w := by
                show ST_286_65 p m0 _ m k w = _
                unfold ST_286_65
                rw [if_pos c1, if_pos c2, if_neg c3]
              rw [e, e2]
              exact ih nr m (k + 1) d w (by omega) hg h (by omega) (by omega)
          · have e : lp_115_5 (s + 57) p m0 (nc + 1) m k d = d := by
              show st_115_5 (s + 57) p m0 _ m k d = d
              unfold st_115_5
              rw [if_pos (by omega), if_pos c2, if_neg (by rw [r1]; exact c5)]
            refine ⟨w, offIdle (nr + 1) m k w (by omega) h0 (fun j a b z => ?_), hg, by rw [e]; exact h, XR.refl⟩
            exact absurd (offStep hg h ⟨a, b⟩ z).1 c5
        · have e : lp_115_5 (s + 57) p m0 (nc + 1) m k d = d := by
            show st_115_5 (s + 57) p m0 _ m k d = d
            unfold st_115_5
            rw [if_pos (by omega), if_neg c2]
          refine ⟨w, ?_, hg, by rw [e]; exact h, XR.refl⟩
          show ST_286_65 p m0 _ m k w = _
          unfold ST_286_65
          rw [if_pos c1, if_neg c2]
    · have e : lp_115_5 (s + 57) p m0 (nc + 1) m k d = d := by
        show st_115_5 (s + 57) p m0 _ m k d = d
        unfold st_115_5
        rw [if_neg (by omega)]
      refine ⟨w, ?_, hg, by rw [e]; exact h, XR.refl⟩
      cases nr with
      | zero =>
        show ST_286_65 p m0 _ m k w = _
        unfold ST_286_65
        rw [if_neg (by omega)]
      | succ nr =>
        show ST_286_65 p m0 _ m k w = _
        unfold ST_286_65
        rw [if_neg (by omega)]
/-! ===== small changes ===== -/
theorem GWt.of {w w' : Row} (h : GWt w) (h8 : w' 8 = w 8) (h9 : w' 9 = w 9) (e : ∀ t q, 0 ≤ t → t < w 9 → 0 ≤ q → q < 16 → w' (452 + 24 * t + 8 + q) = w (452 + 24 * t + 8 + q)) (p8 : 0 ≤ w 8) : GWt w' := by
  intro t x y q u v
  rw [h9] at y
  rw [h8] at u
  rw [e t q x y (by omega) v]
  exact h t x y q u v
-- one number ahead of the offices
theorem setHead {s j v : Int} {d d' : mD} {w : Row} (hg : GG w) (h : Rel s d w) (hj : 1 ≤ j ∧ j ≤ 6) (hN' : GN (ws w j v)) (hA : RelA s d' (ws w j v)) (hd : ∀ b, ¬ b = s → ¬ b = s + 1 → d' b = d b) : GG (ws w j v) ∧ Rel s d' (ws w j v) := by
  obtain ⟨hN, hO, hQ, hT, hC, hK, hR⟩ := id hg
  obtain ⟨n7, n8, n9, n10, n11, n0, n1, n2, n3, n4, n5, n6⟩ := id hN
  obtain ⟨rA, rO, rQ, rP, rT, rC, rK, rR, rB, rH⟩ := h
  have e : ∀ i, ¬ (1 ≤ i ∧ i ≤ 6) → ws w j v i = w i := fun i hi => wsn (by omega)
  generalize ws w j v = w' at *
  exact ⟨⟨hN', hO.k (fun i hi => e i (by omega)) hN, hQ.k (fun i hi => e i (by omega)) hN hO, hT.k (fun i hi => e i (by omega)) hN hO, hC.k (fun i hi => e i (by omega)) hN, hK.k (fun i hi => e i (by omega)) hN, hR.k (fun i hi => e i (by omega)) hN⟩, hA, rO.k (fun b x y => hd b (by omega) (by omega)) (fun i hi => e i (by omega)) n7, rQ.k (hd _ (by omega) (by omega)) (fun i hi => e i (by omega)) n7 hO, rP.k (fun b x y => hd b (by omega) (by omega)) (fun i hi => e i (by omega)) n8, rT.k (fun b x y => hd b (by omega) (by omega)) (fun i hi => e i (by omega)) n9, rC.k (fun b x => hd b (by omega) (by omega)) (fun i hi => e i (by omega)) n9, rK.k (by rw [hd _ (by omega) (by omega)]) (fun b x y => hd b (by omega) (by omega)) (fun i hi => e i (by omega)) n10, rR.k (by rw [hd _ (by omega) (by omega)]) (hd _ (by omega) (by omega)) (fun i hi => e i (by omega)) n11, rB.k (fun b x y => hd b (by omega) (by omega)) (fun i hi => e i (by omega)) n8 n9 n10 hK.of, rH.k (fun b x y => hd b (by omega) (by omega)) (fun i hi => e i (by omega)) n8 n9 n10 hK.of⟩
theorem setFund {s v : Int} {d : mD} {w : Row} (hg : GG w) (h : Rel s d w) (hv : 0 ≤ v ∧ v ≤ 99999) : GG (ws w 1 v) ∧ Rel s (mset d s 1 v) (ws w 1 v) := by
  obtain ⟨n7, n8, n9, n10, n11, n0, n1, n2, n3, n4, n5, n6⟩ := id hg.1
  obtain ⟨a1, a2, a3⟩ := id h.1
  refine setHead hg h ⟨by decide, by decide⟩ ?_ ⟨?_, ?_, fun k x y => ?_⟩ (fun b x y => by funext j; exact ms_a x)
  · unfold GN
    simp (disch := omega) only [wse, wsn]
    omega
  · rw [wse rfl, ms_e rfl rfl]
  · rw [wsn (by omega), ms_i (by omega)]; exact a2
  · rw [wsn (by omega), ms_a (by omega)]; exact a3 k x y
theorem setSet {s k v : Int} {d : mD} {w : Row} (hg : GG w) (h : Rel s d w) (hk : 0 ≤ k ∧ k < 5) (hN' : GN (ws w (2 + k) v)) : GG (ws w (2 + k) v) ∧ Rel s (mset d (s + 1) k v) (ws w (2 + k) v) := by
  obtain ⟨a1, a2, a3⟩ := id h.1
  refine setHead hg h ⟨by omega, by omega⟩ hN' ⟨?_, ?_, fun j x y => ?_⟩ (fun b x y => by funext j; exact ms_a y)
  · rw [wsn (by omega), ms_a (by omega)]; exact a1
  · rw [wsn (by omega), ms_a (by omega)]; exact a2
  · by_cases c : j = k
    · rw [c, wse rfl, ms_e rfl rfl]
    · rw [wsn (by omega), ms_i c]; exact a3 j x y
theorem setOpen {s o : Int} {d : mD} {w : Row} (hg : GG w) (h : Rel s d w) (ho : 0 ≤ o ∧ o < w 7) : GG (ws w (12 + 68 * o + 4) 1) ∧ Rel s (mset d (s + 7) o 1) (ws w (12 + 68 * o + 4) 1) := by
  obtain ⟨hN, hO, hQ, hT, hC, hK, hR⟩ := id hg
  obtain ⟨n7, n8, n9, n10, n11, n0, n1, n2, n3, n4, n5, n6⟩ := id hN
  obtain ⟨rA, ⟨o1, o2⟩, rQ, rP, rT, rC, rK, rR, rB, rH⟩ := h
  have eo : ws w (12 + 68 * o + 4) 1 (12 + 68 * o + 4) = 1 := wse rfl
  have e : ∀ i, ¬ i = 12 + 68 * o + 4 → ws w (12 + 68 * o + 4) 1 i = w i := fun i hi => wsn hi
  generalize ws w (12 + 68 * o + 4) 1 = w' at *
  have fd : ∀ b, ¬ b = s + 7 → mset d (s + 7) o 1 b = d b := fun b x => by
    funext j
    exact ms_a x
  refine ⟨⟨hN.k (fun i hi => e i (by omega)), fun o' x y => ?_, hQ.k (fun i hi => e i (by omega)) hN hO, hT.k (fun i hi => e i (by omega)) hN hO, hC.k (fun i hi => e i (by omega)) hN, hK.k (fun i hi => e i (by omega)) hN, hR.k (fun i hi => e i (by omega)) hN⟩, rA.k (fun b x => fd b (by omega)) (fun i hi => e i (by omega)), ⟨?_, fun o' x y => ?_⟩, rQ.k (fd _ (by omega)) (fun i hi => e i (by omega)) n7 hO, rP.k (fun b x y => fd b (by omega)) (fun i hi => e i (by omega)) n8, rT.k (fun b x y => fd b (by omega)) (fun i hi => e i (by omega)) n9, rC.k (fun b x => fd b (by omega)) (fun i hi => e i (by omega)) n9, rK.k (by rw [fd _ (by omega)]) (fun b x y => fd b (by omega)) (fun i hi => e i (by omega)) n10, rR.k (by rw [fd _ (by omega)]) (fd _ (by omega)) (fun i hi => e i (by omega)) n11, rB.k (fun b x y => fd b (by omega)) (fun i hi => e i (by omega)) n8 n9 n10 hK.of, rH.k (fun b x y => fd b (by omega)) (fun i hi => e i (by omega)) n8 n9 n10 hK.of⟩
  · rw [e 7 (by omega)] at y
    have g := hO o' x y
    rw [e (12 + 68 * o' + 1) (by omega), e (12 + 68 * o' + 2) (by omega), e (12 + 68 * o' + 3) (by omega), e (12 + 68 * o' + 5) (by omega), e (12 + 68 * o' + 6) (by omega), e 9 (by omega), csum_congr (f := fun t => if w' (452 + 24 * t + 4) = 1 ∧ w' (452 + 24 * t + 1) = o' then 1 else 0) (g := fun t => if w (452 + 24 * t + 4) = 1 ∧ w (452 + 24 * t + 1) = o' then 1 else 0) (fun t a b => by
      show (if w' (452 + 24 * t + 4) = 1 ∧ w' (452 + 24 * t + 1) = o' then (1 : Int) else 0) = if w (452 + 24 * t + 4) = 1 ∧ w (452 + 24 * t + 1) = o' then 1 else 0
      rw [e (452 + 24 * t + 4) (by omega), e (452 + 24 * t + 1) (by omega)])]
    by_cases c : o' = o
    · rw [c, eo]
      rw [c] at g
      exact ⟨g.1, g.2.1, g.2.2.1, Or.inr rfl, g.2.2.2.2.1, fun z => absurd z (by decide), g.2.2.2.2.2.2⟩
    · rw [e (12 + 68 * o' + 4) (by omega)]
      exact g
  · rw [fd _ (by omega), e 7 (by omega)]; exact o1
  · rw [e 7 (by omega)] at y
    have g := o2 o' x y
    rw [fd (s + 3) (by omega), fd (s + 4) (by omega), fd (s + 5) (by omega), fd (s + 6) (by omega), fd (s + 8) (by omega), e (12 + 68 * o' + 0) (by omega), e (12 + 68 * o' + 1) (by omega), e (12 + 68 * o' + 2) (by omega), e (12 + 68 * o' + 3) (by omega), e (12 + 68 * o' + 5) (by omega)]
    refine ⟨g.1, g.2.1, g.2.2.1, g.2.2.2.1, ?_, g.2.2.2.2.2⟩
    by_cases c : o' = o
    · rw [c, eo, ms_e rfl rfl]
    · rw [e _ (by omega), ms_i c]; exact g.2.2.2.2.1
-- a new person
theorem addP {s c : Int} {d : mD} {w : Row} (hg : GG w) (hw : GWt w) (h : Rel s d w) (h8 : w 8 < 16) (hc : okN c) : GG (W_182 (nm c) w) ∧ GWt (W_182 (nm c) w) ∧ Rel s (g_47 (s + 10) c d) (W_182 (nm c) w) ∧ W_182 (nm c) w 8 = w 8 + 1 ∧ ∀ i, ¬ i = 8 → ¬ (420 ≤ i ∧ i < 452) → W_182 (nm c) w i = w i := by
  obtain ⟨hN, hO, hQ, hT, hC, hK, hR⟩ := id hg
  obtain ⟨n7, n8, n9, n10, n11, n0, n1, n2, n3, n4, n5, n6⟩ := id hN
  obtain ⟨rA, rO, rQ, ⟨p1, p2⟩, rT, rC, rK, rR, rB, rH⟩ := h
  generalize hw' : W_182 (nm c) w = w'
  have e8 : w' 8 = w 8 + 1 := by
    rw [← hw']
    unfold W_182
    simp (disch := omega) only [wse, wsn]
  have ep0 : w' (420 + 2 * w 8 + 0) = nm c := by
    rw [← hw']
    unfold W_182
    simp (disch := omega) only [wse, wsn]
  have ep1 : w' (420 + 2 * w 8 + 1) = 0 := by
    rw [← hw']
    unfold W_182
    simp (disch := omega) only [wse, wsn]
  have e : ∀ i, ¬ i = 8 → ¬ i = 420 + 2 * w 8 + 0 → ¬ i = 420 + 2 * w 8 + 1 → w' i = w i := fun i x y z => by
    rw [← hw']
    unfold W_182
    simp (disch := omega) only [wsn]
  have eh : g_8 (s + 10 + 6 + (1 + 2 * w 8)) = fun d => mfl d (s + 18 + 2 * w 8) 0 16 := by
    funext d
    unfold g_8 g_300
    rw [show s + 10 + 6 + (1 + 2 * w 8) + 1 = s + 18 + 2 * w 8 by omega]
  generalize hd : g_47 (s + 10) c d = d'
  have ed : d' = mset (mfl (mset (mset (mset (mset (mset d (s + 11) (w 8) c) (s + 12) (w 8) 0) (s + 13) (w 8) 0) (s + 14) (w 8) 0) (s + 15) (w 8) 0) (s + 18 + 2 * w 8) 0 16) (s + 10) 0 (w 8 + 1) := by
    rw [← hd]
    unfold g_47
    rw [p1, if_pos h8, eh]
    simp only [show s + 10 + 1 = s + 11 by omega, show s + 10 + 2 = s + 12 by omega, show s + 10 + 3 = s + 13 by omega, show s + 10 + 4 = s + 14 by omega, show s + 10 + 5 = s + 15 by omega]
  have fd : ∀ b, ¬ (s + 10 ≤ b ∧ b ≤ s + 15) → ¬ b = s + 18 + 2 * w 8 → d' b = d b := fun b x y => by
    rw [ed]
    funext j
    simp (disch := omega) only [ms_a, fl_n]
  have fe : ∀ b j, s + 11 ≤ b → b ≤ s + 15 → ¬ j = w 8 → d' b j = d b j := fun b j x y z => by
    rw [ed]
    simp (disch := omega) only [ms_a, ms_i, fl_n]
  have pO : ∀ k, perO w' k = perO w k ∨ ¬ (0 ≤ k ∧ k < w 10) := fun k => by
    by_cases q : 0 ≤ k ∧ k < w 10
    · have g := hK k q.1 q.2
      refine Or.inl ?_
      unfold perO
      rw [e (1916 + 5 * k + 1) (by omega) (by omega) (by omega), e _ (by omega) (by omega) (by omega)]
    · exact Or.inr q
  have pO' : ∀ k, 0 ≤ k → k < w 10 → perO w' k = perO w k ∧ perO w k < w 8 := fun k a b => by
    refine ⟨(pO k).elim id (fun z => absurd ⟨a, b⟩ z), ?_⟩
    have g := hK k a b
    exact (hT _ g.2.1.1 g.2.1.2).1.2
  refine ⟨⟨?_, hO.k (fun i hi => e i (by omega) (by omega) (by omega)) hN, hQ.k (fun i hi => e i (by omega) (by omega) (by omega)) hN hO, ?_, hC.k (fun i hi => e i (by omega) (by omega) (by omega)) hN, ?_, hR.k (fun i hi => e i (by omega) (by omega) (by omega)) hN⟩, ?_, ⟨rA.k (fun b x => fd b (by omega) (by omega)) (fun i hi => e i (by omega) (by omega) (by omega)), rO.k (fun b x y => fd b (by omega) (by omega)) (fun i hi => e i (by omega) (by omega) (by omega)) n7, rQ.k (fd _ (by omega) (by omega)) (fun i hi => e i (by omega) (by omega) (by omega)) n7 hO, ⟨?_, fun p x y => ?_⟩, rT.k (fun b x y => fd b (by omega) (by omega)) (fun i hi => e i (by omega) (by omega) (by omega)) n9, rC.k (fun b x => fd b (by omega) (by omega)) (fun i hi => e i (by omega) (by omega) (by omega)) n9, rK.k (by rw [fd _ (by omega) (by omega)]) (fun b x y => fd b (by omega) (by omega)) (fun i hi => e i (by omega) (by omega) (by omega)) n10, rR.k (by rw [fd _ (by omega) (by omega)]) (fd _ (by omega) (by omega)) (fun i hi => e i (by omega) (by omega) (by omega)) n11, ?_, ?_⟩, e8, fun i x y => e i x (by omega) (by omega)⟩
  · unfold GN
    rw [e8, e 0 (by omega) (by omega) (by omega), e 1 (by omega) (by omega) (by omega), e 2 (by omega) (by omega) (by omega), e 3 (by omega) (by omega) (by omega), e 4 (by omega) (by omega) (by omega), e 5 (by omega) (by omega) (by omega), e 6 (by omega) (by omega) (by omega), e 7 (by omega) (by omega) (by omega), e 9 (by omega) (by omega) (by omega), e 10 (by omega) (by omega) (by omega), e 11 (by omega) (by omega) (by omega)]
    omega
  · intro t x y
    rw [e 9 (by omega) (by omega) (by omega)] at y
    have g := hT t x y
    rw [e (452 + 24 * t + 0) (by omega) (by omega) (by omega), e (452 + 24 * t + 1) (by omega) (by omega) (by omega), e (452 + 24 * t + 2) (by omega) (by omega) (by omega), e (452 + 24 * t + 3) (by omega) (by omega) (by omega), e (452 + 24 * t + 4) (by omega) (by omega) (by omega), e 0 (by omega) (by omega) (by omega), e 7 (by omega) (by omega) (by omega), e8]
    refine ⟨by omega, g.2.1, g.2.2.1, g.2.2.2.1, fun z => ?_, g.2.2.2.2.2⟩
    obtain ⟨z1, k, z2, z3, z4⟩ := g.2.2.2.2.1 z
    have go := hO _ g.2.1.1 g.2.1.2
    exact ⟨z1, k, z2, by rw [e _ (by omega) (by omega) (by omega)]; exact z3, by rw [e _ (by omega) (by omega) (by omega)]; exact z4⟩
  · intro k x y
    rw [e 10 (by omega) (by omega) (by omega)] at y
    have g := hK k x y
    rw [e (1916 + 5 * k + 0) (by omega) (by omega) (by omega), e (1916 + 5 * k + 1) (by omega) (by omega) (by omega), e (1916 + 5 * k + 2) (by omega) (by omega) (by omega), e (1916 + 5 * k + 3) (by omega) (by omega) (by omega), e (1916 + 5 * k + 4) (by omega) (by omega) (by omega), e 0 (by omega) (by omega) (by omega), e8, e 9 (by omega) (by omega) (by omega), (pO' k x y).1]
    refine ⟨by omega, g.2.1, g.2.2.1, g.2.2.2.1, g.2.2.2.2.1, fun i a b => ?_⟩
    rw [e (1916 + 5 * i + 2) (by omega) (by omega) (by omega), (pO' i a (by omega)).1]
    exact g.2.2.2.2.2 i a b
  · intro t x y q u v
    rw [e 9 (by omega) (by omega) (by omega)] at y
    rw [e8] at u
    rw [e _ (by omega) (by omega) (by omega)]
    exact hw t x y q (by omega) v
  · rw [ed, e8, ms_e rfl rfl]
  · rw [e8] at y
    by_cases q : p = w 8
    · rw [q, ep0, ep1, ed]
      simp (disch := omega) only [ms_a, ms_e, fl_n]
      exact ⟨⟨hc, trivial⟩, trivial⟩
    · rw [e (420 + 2 * p + 0) (by omega) (by omega) (by omega), e (420 + 2 * p + 1) (by omega) (by omega) (by omega), fe (s + 11) p (by omega) (by omega) q, fe (s + 12) p (by omega) (by omega) q]
      exact p2 p x (by omega)
  · intro p x y
    rw [e8] at y
    have hm : madeR w' p = madeR w p := madeR_k' (e 10 (by omega) (by omega) (by omega)) (fun k a b => ⟨(pO' k a b).1, e _ (by omega) (by omega) (by omega), e 0 (by omega) (by omega) (by omega)⟩)
    have ha : attR w' p = attR w p := by
      unfold attR
      rw [e 9 (by omega) (by omega) (by omega), e 0 (by omega) (by omega) (by omega)]
      exact csum_congr (fun t a b => by rw [e (452 + 24 * t + 8 + p) (by omega) (by omega) (by omega)])
    have hb : ∀ r, (∃ t, 0 ≤ t ∧ t < w' 9 ∧ w' (452 + 24 * t + 0) = r ∧ attd w' t p) ↔ ∃ t, 0 ≤ t ∧ t < w 9 ∧ w (452 + 24 * t + 0) = r ∧ attd w t p := fun r => by
      rw [e 9 (by omega) (by omega) (by omega)]
      constructor
      · rintro ⟨t, a, b, c, dd⟩
        rw [e _ (by omega) (by omega) (by omega)] at c
        unfold attd at dd
        rw [e (452 + 24 * t + 8 + p) (by omega) (by omega) (by omega), e 0 (by omega) (by omega) (by omega)] at dd
        exact ⟨t, a, b, c, dd⟩
      · rintro ⟨t, a, b, c, dd⟩
        refine ⟨t, a, b, by rw [e _ (by omega) (by omega) (by omega)]; exact c, ?_⟩
        unfold attd
        rw [e (452 + 24 * t + 8 + p) (by omega) (by omega) (by omega), e 0 (by omega) (by omega) (by omega)]
        exact dd
    rw [hm, ha]
    by_cases q : p = w 8
    · have z1 : d' (s + 13) p = 0 := by
        rw [ed, q]
        simp (disch := omega) only [ms_a, ms_e, fl_n]
      have z2 : d' (s + 14) p = 0 := by
        rw [ed, q]
        simp (disch := omega) only [ms_a, ms_e, fl_n]
      have z3 : d' (s + 15) p = 0 := by
        rw [ed, q]
        simp (disch := omega) only [ms_a, ms_e, fl_n]
      rw [z1, z2, z3]
      refine ⟨?_, ?_, fun r a b => ?_⟩
      · unfold madeR
        refine (csum_zero (fun k a b => ?_)).symm
        have := (pO' k a (by omega)).2
        rw [if_neg (by omega)]
      · unfold attR
        refine (csum_zero (fun t a b => ?_)).symm
        rw [hw t a (by omega) p (by omega) (by omega), if_neg (by omega)]
      · rw [ib_zero, hb]
        constructor
        · intro z; cases z
        · rintro ⟨t, a, b, c, dd⟩
          unfold attd at dd
          rw [hw t a b p (by omega) (by omega)] at dd
          omega
    · obtain ⟨g1, g2, g3⟩ := rB p x (by omega)
      rw [fe (s + 13) p (by omega) (by omega) q, fe (s + 14) p (by omega) (by omega) q, fe (s + 15) p (by omega) (by omega) q]
      exact ⟨g1, g2, fun r a b => (g3 r a b).trans (hb r).symm⟩
  · intro p x y h0 u v
    rw [e8] at y
    have hb : (∃ k, 0 ≤ k ∧ k < w' 10 ∧ w' (1916 + 5 * k + 2) = h0 ∧ perO w' k = p) ↔ ∃ k, 0 ≤ k ∧ k < w 10 ∧ w (1916 + 5 * k + 2) = h0 ∧ perO w k = p := by
      rw [e 10 (by omega) (by omega) (by omega)]
      constructor
      · rintro ⟨k, a, b, c, dd⟩
        rw [e _ (by omega) (by omega) (by omega)] at c
        rw [(pO' k a b).1] at dd
        exact ⟨k, a, b, c, dd⟩
      · rintro ⟨k, a, b, c, dd⟩
        exact ⟨k, a, b, by rw [e _ (by omega) (by omega) (by omega)]; exact c, by rw [(pO' k a b).1]; exact dd⟩
    rw [hb]
    by_cases q : p = w 8
    · have z : d' (s + 18 + 2 * p) (h0 / 64) = 0 := by
        rw [ed, q]
        simp (disch := omega) only [ms_a]
        exact fl_e rfl (by omega) (by omega)
      rw [z, lb_zero]
      constructor
      · intro z; cases z
      · rintro ⟨k, a, b, c, dd⟩
        have := (pO' k a b).2
        omega
    · rw [fd _ (by omega) (by omega)]
      exact rH p x (by omega) h0 u v
/-! ===== names: looking them up, and a new office ===== -/
theorem find36 {s c m : Int} {d : mD} {w : Row} (h0 : d (s + 2) 0 = w 7) (h : ∀ o, 0 ≤ o → o < w 7 → (d (s + 3) o = c ↔ w (12 + 68 * o + 0) = m)) : ∀ (n : Nat) (x : Int), 0 ≤ x → lp_36_2 (s + 2) c n x d = LP_184_2 m n x w := by
  have st : ∀ (r : Int → mD → Int) (R : Int → Row → Int) (x : Int), 0 ≤ x → (x < w 7 → r (x + 1) d = R (x + 1) w) → st_36_2 (s + 2) c r x d = ST_184_2 m R x w := fun r R x a hr => by
    unfold st_36_2 ST_184_2
    rw [h0, show s + 2 + 1 = s + 3 by omega]
    by_cases q : x < w 7
    · rw [if_pos q, if_pos q]
      by_cases z : d (s + 3) x = c
      · rw [if_pos z, if_pos ((h x a q).1 z)]
      · rw [if_neg z, if_neg (fun y => z ((h x a q).2 y))]; exact hr q
    · rw [if_neg q, if_neg q]
  intro n
  induction n with
  | zero => intro x a; exact st _ _ x a (fun _ => rfl)
  | succ n ih => intro x a; exact st _ _ x a (fun _ => ih (x + 1) (by omega))
theorem find48 {s c m : Int} {d : mD} {w : Row} (h0 : d (s + 10) 0 = w 8) (h : ∀ p, 0 ≤ p → p < w 8 → (d (s + 11) p = c ↔ w (420 + 2 * p + 0) = m)) : ∀ (n : Nat) (x : Int), 0 ≤ x → lp_48_2 (s + 10) c n x d = LP_183_2 m n x w := by
  have st : ∀ (r : Int → mD → Int) (R : Int → Row → Int) (x : Int), 0 ≤ x → (x < w 8 → r (x + 1) d = R (x + 1) w) → st_48_2 (s + 10) c r x d = ST_183_2 m R x w := fun r R x a hr => by
    unfold st_48_2 ST_183_2
    rw [h0, show s + 10 + 1 = s + 11 by omega]
    by_cases q : x < w 8
    · rw [if_pos q, if_pos q]
      by_cases z : d (s + 11) x = c
      · rw [if_pos z, if_pos ((h x a q).1 z)]
      · rw [if_neg z, if_neg (fun y => z ((h x a q).2 y))]; exact hr q
    · rw [if_neg q, if_neg q]
  intro n
  induction n with
  | zero => intro x a; exact st _ _ x a (fun _ => rfl)
  | succ n ih => intro x a; exact st _ _ x a (fun _ => ih (x + 1) (by omega))
theorem findO {s c : Int} {d : mD} {w : Row} (h : RelO s d w) (hc : okN c) : v_36 (s + 2) c d = V_184 (nm c) w := by
  unfold v_36 V_184
  refine find36 h.1 (fun o x y => ?_) _ 0 (by omega)
  have g := (h.2 o x y).1
  exact ⟨fun z => by rw [← g.2, z], fun z => nm_inj g.1 hc (by rw [g.2, z])⟩
theorem findP {s c : Int} {d : mD} {w : Row} (h : RelP s d w) (hc : okN c) : v_48 (s + 10) c d = V_183 (nm c) w := by
  unfold v_48 V_183
  refine find48 h.1 (fun o x y => ?_) _ 0 (by omega)
  have g := (h.2 o x y).1
  exact ⟨fun z => by rw [← g.2, z], fun z => nm_inj g.1 hc (by rw [g.2, z])⟩
theorem noO {s c m : Int} {d : mD} {w : Row} (h : RelO s d w) (hc : c ≤ 0) (hm : m ≤ 0) : v_36 (s + 2) c d = V_184 m w := by
  unfold v_36 V_184
  refine find36 h.1 (fun o x y => ?_) _ 0 (by omega)
  have g := (h.2 o x y).1
  have g1 := nm_pos g.1
  have g2 := g.1.1
  exact ⟨fun z => by omega, fun z => by omega⟩
theorem noP {s c m : Int} {d : mD} {w : Row} (h : RelP s d w) (hc : c ≤ 0) (hm : m ≤ 0) : v_48 (s + 10) c d = V_183 m w := by
  unfold v_48 V_183
  refine find48 h.1 (fun o x y => ?_) _ 0 (by omega)
  have g := (h.2 o x y).1
  have g1 := nm_pos g.1
  have g2 := g.1.1
  exact ⟨fun z => by omega, fun z => by omega⟩
-- the answers' ranges
theorem V184_lo {m : Int} {w : Row} : ∀ (n : Nat) (x : Int), 0 ≤ x → w 7 ≤ x + n → -1 ≤ LP_184_2 m n x w ∧ LP_184_2 m n x w < w 7 ∨ w 7 ≤ x ∧ LP_184_2 m n x w = -1 := by
  intro n
  induction n with
  | zero =>
    intro x a b
    refine Or.inr ⟨by omega, ?_⟩
    show ST_184_2 m _ x w = -1
    unfold ST_184_2
    rw [if_neg (by omega)]
  | succ n ih =>
    intro x a b
    show (-1 ≤ ST_184_2 m (LP_184_2 m n) x w ∧ ST_184_2 m (LP_184_2 m n) x w < w 7) ∨ _ ∧ ST_184_2 m (LP_184_2 m n) x w = -1
    unfold ST_184_2
    by_cases q : x < w 7
    · rw [if_pos q]
      by_cases z : w (12 + 68 * x + 0) = m
      · rw [if_pos z]; exact Or.inl ⟨by omega, q⟩
      · rw [if_neg z]
        have := ih (x + 1) (by omega) (by omega)
        omega
    · rw [if_neg q]; exact Or.inr ⟨by omega, rfl⟩
theorem V183_lo {m : Int} {w : Row} : ∀ (n : Nat) (x : Int), 0 ≤ x → w 8 ≤ x + n → -1 ≤ LP_183_2 m n x w ∧ LP_183_2 m n x w < w 8 ∨ w 8 ≤ x ∧ LP_183_2 m n x w = -1 := by
  intro n
  induction n with
  | zero =>
    intro x a b
    refine Or.inr ⟨by omega, ?_⟩
    show ST_183_2 m _ x w = -1
    unfold ST_183_2
    rw [if_neg (by omega)]
  | succ n ih =>
    intro x a b
    show (-1 ≤ ST_183_2 m (LP_183_2 m n) x w ∧ ST_183_2 m (LP_183_2 m n) x w < w 8) ∨ _ ∧ ST_183_2 m (LP_183_2 m n) x w = -1
    unfold ST_183_2
    by_cases q : x < w 8
    · rw [if_pos q]
      by_cases z : w (420 + 2 * x + 0) = m
      · rw [if_pos z]; exact Or.inl ⟨by omega, q⟩
      · rw [if_neg z]
        have := ih (x + 1) (by omega) (by omega)
        omega
    · rw [if_neg q]; exact Or.inr ⟨by omega, rfl⟩
theorem V184_rng {m : Int} {w : Row} (h : 0 ≤ w 7 ∧ w 7 ≤ 6) : V_184 m w = -1 ∨ (0 ≤ V_184 m w ∧ V_184 m w < w 7) := by
  have := V184_lo (m := m) (w := w) (6 - 0 : Int).toNat 0 (by omega) (by omega)
  unfold V_184
  omega
theorem V183_rng {m : Int} {w : Row} (h : 0 ≤ w 8 ∧ w 8 ≤ 16) : V_183 m w = -1 ∨ (0 ≤ V_183 m w ∧ V_183 m w < w 8) := by
  have := V183_lo (m := m) (w := w) (16 - 0 : Int).toNat 0 (by omega) (by omega)
  unfold V_183
  omega
-- a new office, while nobody has a ticket
def GZ (w : Row) : Prop := ∀ o, w 7 ≤ o → o < 6 → w (12 + 68 * o + 5) = 0 ∧ w (12 + 68 * o + 6) = 0
theorem addO {s c a1 a2 a3 : Int} {d : mD} {w : Row} (hg : GG w) (hz : GZ w) (h : Rel s d w) (h7 : w 7 < 6) (h9 : w 9 = 0) (h10 : w 10 = 0) (hc : okN c) (b1 : 1 ≤ a1 ∧ a1 ≤ 4) (b2 : 1 ≤ a2 ∧ a2 ≤ 6) (b3 : 1 ≤ a3 ∧ a3 ≤ 20) : GG (W_181 (nm c) a1 a2 a3 w) ∧ GZ (W_181 (nm c) a1 a2 a3 w) ∧ Rel s (g_35 (s + 2) c a1 a2 a3 d) (W_181 (nm c) a1 a2 a3 w) ∧ W_181 (nm c) a1 a2 a3 w 7 = w 7 + 1 ∧ ∀ i, ¬ i = 7 → ¬ (12 ≤ i ∧ i < 420) → W_181 (nm c) a1 a2 a3 w i = w i := by
  obtain ⟨hN, hO, hQ, hT, hC, hK, hR⟩ := id hg
  obtain ⟨n7, n8, n9, n10, n11, n0, n1, n2, n3, n4, n5, n6⟩ := id hN
  obtain ⟨rA, ⟨o1, o2⟩, rQ, rP, rT, rC, rK, rR, rB, rH⟩ := h
  have h11 : w 11 = 0 := by
    have := hR.1
    rw [h10] at this
    exact this
  generalize hw' : W_181 (nm c) a1 a2 a3 w = w'
  have e7 : w' 7 = w 7 + 1 := by
    rw [← hw']
    unfold W_181
    simp (disch := omega) only [wse, wsn]
  have p0 : w' (12 + 68 * w 7 + 0) = nm c := by
    rw [← hw']
    unfold W_181
    simp (disch := omega) only [wse, wsn]
  have p1 : w' (12 + 68 * w 7 + 1) = a1 := by
    rw [← hw']
    unfold W_181
    simp (disch := omega) only [wse, wsn]
  have p2 : w' (12 + 68 * w 7 + 2) = a2 := by
    rw [← hw']
    unfold W_181
    simp (disch := omega) only [wse, wsn]
  have p3 : w' (12 + 68 * w 7 + 3) = a3 := by
    rw [← hw']
    unfold W_181
    simp (disch := omega) only [wse, wsn]
  have p4 : w' (12 + 68 * w 7 + 4) = 1 := by
    rw [← hw']
    unfold W_181
    simp (disch := omega) only [wse, wsn]
  have e : ∀ i, ¬ i = 7 → ¬ (12 + 68 * w 7 + 0 ≤ i ∧ i ≤ 12 + 68 * w 7 + 4) → w' i = w i := fun i x y => by
    rw [← hw']
    unfold W_181
    simp (disch := omega) only [wsn]
  have z5 : w' (12 + 68 * w 7 + 5) = 0 := by rw [e _ (by omega) (by omega)]; exact (hz (w 7) (by omega) h7).1
  have z6 : w' (12 + 68 * w 7 + 6) = 0 := by rw [e _ (by omega) (by omega)]; exact (hz (w 7) (by omega) h7).2
  generalize hd : g_35 (s + 2) c a1 a2 a3 d = d'
  have ed : d' = mset (mset (mset (mset (mset (mset (mset d (s + 3) (w 7) c) (s + 4) (w 7) a1) (s + 5) (w 7) a2) (s + 6) (w 7) a3) (s + 7) (w 7) 1) (s + 8) (w 7) 0) (s + 2) 0 (w 7 + 1) := by
    rw [← hd]
    unfold g_35
    rw [o1, if_pos h7]
    simp only [show s + 2 + 1 = s + 3 by omega, show s + 2 + 2 = s + 4 by omega, show s + 2 + 3 = s + 5 by omega, show s + 2 + 4 = s + 6 by omega, show s + 2 + 5 = s + 7 by omega, show s + 2 + 6 = s + 8 by omega]
  have fd : ∀ b, ¬ (s + 2 ≤ b ∧ b ≤ s + 8) → d' b = d b := fun b x => by
    rw [ed]
    funext j
    simp (disch := omega) only [ms_a]
  have fe : ∀ b j, s + 3 ≤ b → b ≤ s + 8 → ¬ j = w 7 → d' b j = d b j := fun b j x y z => by
    rw [ed]
    simp (disch := omega) only [ms_a, ms_i]
  have h9' : w' 9 = 0 := by rw [e 9 (by omega) (by omega)]; exact h9
  have h10' : w' 10 = 0 := by rw [e 10 (by omega) (by omega)]; exact h10
  have h11' : w' 11 = 0 := by rw [e 11 (by omega) (by omega)]; exact h11
  refine ⟨⟨?_, fun o x y => ?_, fun o x y k u v => ?_, fun t x y => absurd y (by omega), fun t x y => absurd y (by omega), fun k x y => absurd y (by omega), ?_, fun k x y => absurd y (by omega)⟩, fun o x y => ?_, ⟨rA.k (fun b x => fd b (by omega)) (fun i hi => e i (by omega) (by omega)), ⟨?_, fun o x y => ?_⟩, fun o x y k u v => ?_, rP.k (fun b x y => fd b (by omega)) (fun i hi => e i (by omega) (by omega)) n8, rT.k (fun b x y => fd b (by omega)) (fun i hi => e i (by omega) (by omega)) n9, rC.k (fun b x => fd b (by omega)) (fun i hi => e i (by omega) (by omega)) n9, rK.k (by rw [fd _ (by omega)]) (fun b x y => fd b (by omega)) (fun i hi => e i (by omega) (by omega)) n10, rR.k (by rw [fd _ (by omega)]) (fd _ (by omega)) (fun i hi => e i (by omega) (by omega)) n11, rB.k (fun b x y => fd b (by omega)) (fun i hi => e i (by omega) (by omega)) n8 n9 n10 hK.of, rH.k (fun b x y => fd b (by omega)) (fun i hi => e i (by omega) (by omega)) n8 n9 n10 hK.of⟩, e7, fun i x y => e i x (by omega)⟩
  · unfold GN
    rw [e7, e 0 (by omega) (by omega), e 1 (by omega) (by omega), e 2 (by omega) (by omega), e 3 (by omega) (by omega), e 4 (by omega) (by omega), e 5 (by omega) (by omega), e 6 (by omega) (by omega), e 8 (by omega) (by omega), h9', h10', h11']
    omega
  · rw [h9']
    rw [e7] at y
    by_cases q : o = w 7
    · rw [q, p1, p2, p3, p4, z5, z6]
      exact ⟨b1, b2, b3, Or.inr rfl, by omega, fun _ => rfl, rfl⟩
    · have g := hO o x (by omega)
      rw [h9] at g
      rw [e (12 + 68 * o + 1) (by omega) (by omega), e (12 + 68 * o + 2) (by omega) (by omega), e (12 + 68 * o + 3) (by omega) (by omega), e (12 + 68 * o + 4) (by omega) (by omega), e (12 + 68 * o + 5) (by omega) (by omega), e (12 + 68 * o + 6) (by omega) (by omega)]
      exact g
  · rw [e7] at y
    by_cases q : o = w 7
    · rw [q, z5] at v; omega
    · rw [e _ (by omega) (by omega)] at v
      have := (hQ o x (by omega) k u v).1
      omega
  · rw [h11', h10']; rfl
  · rw [e7] at x
    rw [e _ (by omega) (by omega), e _ (by omega) (by omega)]
    exact hz o (by omega) y
  · rw [ed, e7, ms_e rfl rfl]
  · rw [e7] at y
    by_cases q : o = w 7
    · rw [q, p0, p1, p2, p3, p4, z5, ed]
      simp (disch := omega) only [ms_a, ms_e]
      exact ⟨⟨hc, trivial⟩, trivial, trivial, trivial, trivial, trivial⟩
    · rw [e (12 + 68 * o + 0) (by omega) (by omega), e (12 + 68 * o + 1) (by omega) (by omega), e (12 + 68 * o + 2) (by omega) (by omega), e (12 + 68 * o + 3) (by omega) (by omega), e (12 + 68 * o + 4) (by omega) (by omega), e (12 + 68 * o + 5) (by omega) (by omega), fe (s + 3) o (by omega) (by omega) q, fe (s + 4) o (by omega) (by omega) q, fe (s + 5) o (by omega) (by omega) q, fe (s + 6) o (by omega) (by omega) q, fe (s + 7) o (by omega) (by omega) q, fe (s + 8) o (by omega) (by omega) q]
      exact o2 o x (by omega)
  · rw [e7] at y
    by_cases q : o = w 7
    · rw [q, z5] at v; omega
    · rw [e _ (by omega) (by omega)] at v
      have := (hQ o x (by omega) k u v).1
      omega
/-! ===== sorted queues: two enumerations of one set, the first of each person ===== -/
def incS (κ q : Int → Int) (m : Int) : Prop := ∀ i k, 0 ≤ i → i < k → k < m → κ (q i) < κ (q k)
def memS (q : Int → Int) (m t : Int) : Prop := ∃ k, 0 ≤ k ∧ k < m ∧ q k = t
theorem incS.pt {κ f g : Int → Int} {m n : Int} (hf : incS κ f m) (hg : incS κ g n) (h : ∀ t, memS f m t ↔ memS g n t) : ∀ (N : Nat) (k : Int), 0 ≤ k → k < N → k < m → k < n ∧ f k = g k := by
  intro N
  induction N with
  | zero => intro k a b; omega
  | succ N ih =>
    intro k a b c
    by_cases q : k < N
    · exact ih k a q c
    · obtain ⟨l, l0, l1, l2⟩ := (h (f k)).1 ⟨k, a, c, rfl⟩
      have hl : k ≤ l := by
        by_cases z : l < k
        · have e := (ih l l0 (by omega) (by omega)).2
          have y := hf l k l0 z c
          rw [e, l2] at y
          omega
        · omega
      have kn : k < n := by omega
      refine ⟨kn, ?_⟩
      by_cases z : l = k
      · rw [z] at l2
        exact l2.symm
      · exfalso
        obtain ⟨i, i0, i1, i2⟩ := (h (g k)).2 ⟨k, a, kn, rfl⟩
        have y1 := hg k l a (by omega) l1
        rw [l2, ← i2] at y1
        by_cases zz : i < k
        · have e := (ih i i0 (by omega) i1).2
          have y2 := hg i k i0 zz kn
          rw [← e, i2] at y2
          omega
        · by_cases z3 : i = k
          · rw [z3] at y1; omega
          · have y3 := hf k i a (by omega) i1
            omega
theorem incS.ext {κ f g : Int → Int} {m n : Int} (hf : incS κ f m) (hg : incS κ g n) (h : ∀ t, memS f m t ↔ memS g n t) (hm : 0 ≤ m) (hn : 0 ≤ n) : m = n ∧ ∀ k, 0 ≤ k → k < m → f k = g k := by
  have a : m ≤ n := by
    by_cases z : m = 0
    · omega
    · have := (hf.pt hg h m.toNat (m - 1) (by omega) (by omega) (by omega)).1
      omega
  have b : n ≤ m := by
    by_cases z : n = 0
    · omega
    · have := (hg.pt hf (fun t => (h t).symm) n.toNat (n - 1) (by omega) (by omega) (by omega)).1
      omega
  exact ⟨by omega, fun k x y => (hf.pt hg h m.toNat k x (by omega) y).2⟩
theorem incS.inj {κ q : Int → Int} {m i k : Int} (h : incS κ q m) (i0 : 0 ≤ i) (i1 : i < m) (k0 : 0 ≤ k) (k1 : k < m) (e : q i = q k) : i = k := by
  by_cases a : i < k
  · have := h i k i0 a k1
    rw [e] at this
    omega
  · by_cases b : k < i
    · have := h k i k0 b i1
      rw [e] at this
      omega
    · omega
theorem incS.ins {κ q q' : Int → Int} {m pos t : Int} (h : incS κ q m) (p : 0 ≤ pos ∧ pos ≤ m) (e1 : ∀ k, 0 ≤ k → k < pos → q' k = q k) (e2 : q' pos = t) (e3 : ∀ k, pos < k → k ≤ m → q' k = q (k - 1)) (lo : ∀ k, 0 ≤ k → k < pos → κ (q k) < κ t) (hi : ∀ k, pos ≤ k → k < m → κ t < κ (q k)) : incS κ q' (m + 1) ∧ ∀ x, memS q' (m + 1) x ↔ (x = t ∨ memS q m x) := by
  refine ⟨fun i k a b c => ?_, fun x => ⟨?_, ?_⟩⟩
  · by_cases z1 : k < pos
    · rw [e1 i a (by omega), e1 k (by omega) z1]
      exact h i k a b (by omega)
    · by_cases z2 : k = pos
      · rw [e1 i a (by omega), z2, e2]
        exact lo i a (by omega)
      · rw [e3 k (by omega) (by omega)]
        by_cases z3 : i < pos
        · rw [e1 i a z3]
          exact h i (k - 1) a (by omega) (by omega)
        · by_cases z4 : i = pos
          · rw [z4, e2]
            exact hi (k - 1) (by omega) (by omega)
          · rw [e3 i (by omega) (by omega)]
            exact h (i - 1) (k - 1) (by omega) (by omega) (by omega)
  · rintro ⟨k, a, b, c⟩
    by_cases z1 : k < pos
    · rw [e1 k a z1] at c
      exact Or.inr ⟨k, a, by omega, c⟩
    · by_cases z2 : k = pos
      · rw [z2, e2] at c
        exact Or.inl c.symm
      · rw [e3 k (by omega) (by omega)] at c
        exact Or.inr ⟨k - 1, by omega, by omega, c⟩
  · rintro (c | ⟨k, a, b, c⟩)
    · exact ⟨pos, p.1, by omega, by rw [e2, c]⟩
    · by_cases z1 : k < pos
      · exact ⟨k, a, by omega, by rw [e1 k a z1]; exact c⟩
      · exact ⟨k + 1, by omega, by omega, by rw [e3 (k + 1) (by omega) (by omega), show k + 1 - 1 = k by omega]; exact c⟩
theorem incS.rem {κ q q' : Int → Int} {m pos : Int} (h : incS κ q m) (p : 0 ≤ pos ∧ pos < m) (e1 : ∀ k, 0 ≤ k → k < pos → q' k = q k) (e2 : ∀ k, pos ≤ k → k < m - 1 → q' k = q (k + 1)) : incS κ q' (m - 1) ∧ ∀ x, memS q' (m - 1) x ↔ (memS q m x ∧ ¬ x = q pos) := by
  refine ⟨fun i k a b c => ?_, fun x => ⟨?_, ?_⟩⟩
  · by_cases z1 : k < pos
    · rw [e1 i a (by omega), e1 k (by omega) z1]
      exact h i k a b (by omega)
    · rw [e2 k (by omega) (by omega)]
      by_cases z3 : i < pos
      · rw [e1 i a z3]
        exact h i (k + 1) a (by omega) (by omega)
      · rw [e2 i (by omega) (by omega)]
        exact h (i + 1) (k + 1) (by omega) (by omega) (by omega)
  · rintro ⟨k, a, b, c⟩
    by_cases z1 : k < pos
    · rw [e1 k a z1] at c
      refine ⟨⟨k, a, by omega, c⟩, fun z => ?_⟩
      have := h.inj a (by omega) p.1 p.2 (c.trans z)
      omega
    · rw [e2 k (by omega) (by omega)] at c
      refine ⟨⟨k + 1, by omega, by omega, c⟩, fun z => ?_⟩
      have := h.inj (i := k + 1) (by omega) (by omega) p.1 p.2 (c.trans z)
      omega
  · rintro ⟨⟨k, a, b, c⟩, n⟩
    by_cases z1 : k < pos
    · exact ⟨k, a, by omega, by rw [e1 k a z1]; exact c⟩
    · by_cases z2 : k = pos
      · rw [z2] at c
        exact absurd c.symm n
      · exact ⟨k - 1, by omega, by omega, by rw [e2 (k - 1) (by omega) (by omega), show k - 1 + 1 = k by omega]; exact c⟩
-- the first of each person among the first n
def inU (U : Int → Int) (n t : Int) : Prop := ∃ i, 0 ≤ i ∧ i < n ∧ U i = t
def bestS (κ p U : Int → Int) (n t : Int) : Prop := inU U n t ∧ ∀ x, inU U n x → p x = p t → κ t ≤ κ x
theorem inU_succ {U : Int → Int} {n x : Int} (hn : 0 ≤ n) : inU U (n + 1) x ↔ (inU U n x ∨ x = U n) := by
  constructor
  · rintro ⟨i, a, b, c⟩
    by_cases z : i = n
    · rw [z] at c; exact Or.inr c.symm
    · exact Or.inl ⟨i, a, by omega, c⟩
  · rintro (⟨i, a, b, c⟩ | c)
    · exact ⟨i, a, by omega, c⟩
    · exact ⟨n, hn, by omega, c.symm⟩
theorem minU {κ p U : Int → Int} {c : Int} : ∀ (n : Nat), (∃ x, inU U n x ∧ p x = c) → ∃ y, inU U n y ∧ p y = c ∧ ∀ x, inU U n x → p x = c → κ y ≤ κ x := by
  intro n
  induction n with
  | zero => rintro ⟨x, ⟨i, a, b, -⟩, -⟩; omega
  | succ n ih =>
    intro h
    have e : ∀ x, inU U ((n + 1 : Nat) : Int) x ↔ (inU U n x ∨ x = U n) := fun x => by
      rw [show ((n + 1 : Nat) : Int) = (n : Int) + 1 by omega]
      exact inU_succ (by omega)
    by_cases q : ∃ x, inU U n x ∧ p x = c
    · obtain ⟨y, y1, y2, y3⟩ := ih q
      by_cases z : p (U n) = c ∧ κ (U n) < κ y
      · refine ⟨U n, (e _).2 (Or.inr rfl), z.1, fun x a b => ?_⟩
        rcases (e x).1 a with a | a
        · have := y3 x a b; omega
        · rw [a]; omega
      · refine ⟨y, (e _).2 (Or.inl y1), y2, fun x a b => ?_⟩
        rcases (e x).1 a with a | a
        · exact y3 x a b
        · rw [a] at b ⊢
          by_cases zz : κ (U n) < κ y
          · exact absurd ⟨b, zz⟩ z
          · omega
    · obtain ⟨x, x1, x2⟩ := h
      rcases (e x).1 x1 with a | a
      · exact absurd ⟨x, a, x2⟩ q
      · refine ⟨x, x1, x2, fun z z1 z2 => ?_⟩
        rcases (e z).1 z1 with b | b
        · exact absurd ⟨z, b, z2⟩ q
        · rw [a, b]; omega
theorem bestS.ex {κ p U : Int → Int} {n x : Int} (h : inU U n x) : ∃ y, bestS κ p U n y ∧ p y = p x ∧ κ y ≤ κ x := by
  have hn : ((n.toNat : Nat) : Int) = n := by
    obtain ⟨i, a, b, -⟩ := h
    omega
  have := minU (κ := κ) (p := p) (U := U) (c := p x) n.toNat
  rw [hn] at this
  obtain ⟨y, a, b, c⟩ := this ⟨x, h, rfl⟩
  exact ⟨y, ⟨a, fun z z1 z2 => c z z1 (z2.trans b)⟩, b, c x h rfl⟩
theorem bestStep {κ p U : Int → Int} {n : Int} (hn : 0 ≤ n) (hk : ∀ x, inU U n x → ¬ κ x = κ (U n)) (y : Int) : bestS κ p U (n + 1) y ↔ ((bestS κ p U n y ∧ (p y = p (U n) → κ y < κ (U n))) ∨ (y = U n ∧ ∀ x, bestS κ p U n x → p x = p (U n) → κ (U n) < κ x)) := by
  constructor
  · rintro ⟨a, b⟩
    rcases (inU_succ hn).1 a with a | a
    · refine Or.inl ⟨⟨a, fun x x1 x2 => b x ((inU_succ hn).2 (Or.inl x1)) x2⟩, fun z => ?_⟩
      have z1 := b (U n) ((inU_succ hn).2 (Or.inr rfl)) z.symm
      have z2 := hk y a
      omega
    · refine Or.inr ⟨a, fun x x1 x2 => ?_⟩
      have z1 := b x ((inU_succ hn).2 (Or.inl x1.1)) (by rw [a]; exact x2)
      have z2 := hk x x1.1
      rw [a] at z1
      omega
  · rintro (⟨⟨a, b⟩, c⟩ | ⟨a, b⟩)
    · refine ⟨(inU_succ hn).2 (Or.inl a), fun x x1 x2 => ?_⟩
      rcases (inU_succ hn).1 x1 with x1 | x1
      · exact b x x1 x2
      · rw [x1] at x2 ⊢
        have := c x2.symm
        omega
    · refine ⟨(inU_succ hn).2 (Or.inr a), fun x x1 x2 => ?_⟩
      rw [a] at x2 ⊢
      rcases (inU_succ hn).1 x1 with x1 | x1
      · obtain ⟨z, z1, z2, z3⟩ := bestS.ex (κ := κ) (p := p) x1
        have := b z z1 (z2.trans x2)
        omega
      · rw [x1]; omega
-- a step of the class: nobody of that person yet, or the one that stands ahead stays, or the one behind goes
theorem stNone {κ p U q q' : Int → Int} {n m : Int} (hn : 0 ≤ n) (hk : ∀ x, inU U n x → ¬ κ x = κ (U n)) (h : incS κ q m) (hb : ∀ x, memS q m x ↔ bestS κ p U n x) (hi : incS κ q' (m + 1) ∧ ∀ x, memS q' (m + 1) x ↔ (x = U n ∨ memS q m x)) (no : ∀ k, 0 ≤ k → k < m → ¬ p (q k) = p (U n)) : (∀ x, memS q' (m + 1) x ↔ bestS κ p U (n + 1) x) ∧ ∀ x, (inU U (n + 1) x ∧ ¬ bestS κ p U (n + 1) x) ↔ (inU U n x ∧ ¬ bestS κ p U n x) := by
  have nb : ∀ x, bestS κ p U n x → ¬ p x = p (U n) := fun x a b => by
    obtain ⟨k, k0, k1, k2⟩ := (hb x).2 a
    exact no k k0 k1 (by rw [k2]; exact b)
  have eb : ∀ x, bestS κ p U (n + 1) x ↔ (x = U n ∨ bestS κ p U n x) := fun x => by
    rw [bestStep hn hk]
    constructor
    · rintro (a | a)
      · exact Or.inr a.1
      · exact Or.inl a.1
    · rintro (a | a)
      · exact Or.inr ⟨a, fun z z1 z2 => absurd z2 (nb z z1)⟩
      · exact Or.inl ⟨a, fun z => absurd z (nb x a)⟩
  refine ⟨fun x => by rw [hi.2, hb, eb], fun x => ?_⟩
  rw [eb, inU_succ hn]
  constructor
  · rintro ⟨a | a, b⟩
    · exact ⟨a, fun z => b (Or.inr z)⟩
    · exact absurd (Or.inl a) b
  · rintro ⟨a, b⟩
    refine ⟨Or.inl a, ?_⟩
    rintro (z | z)
    · exact hk x a (by rw [z])
    · exact b z
theorem stKeep {κ p U q : Int → Int} {n m tw : Int} (hn : 0 ≤ n) (hk : ∀ x, inU U n x → ¬ κ x = κ (U n)) (h : incS κ q m) (hb : ∀ x, memS q m x ↔ bestS κ p U n x) (htw : 0 ≤ tw ∧ tw < m) (hp : p (q tw) = p (U n)) (hl : κ (q tw) < κ (U n)) : (∀ x, memS q m x ↔ bestS κ p U (n + 1) x) ∧ ∀ x, (inU U (n + 1) x ∧ ¬ bestS κ p U (n + 1) x) ↔ ((inU U n x ∧ ¬ bestS κ p U n x) ∨ x = U n) := by
  have bt : bestS κ p U n (q tw) := (hb _).1 ⟨tw, htw.1, htw.2, rfl⟩
  have eb : ∀ x, bestS κ p U (n + 1) x ↔ bestS κ p U n x := fun x => by
    rw [bestStep hn hk]
    constructor
    · rintro (a | a)
      · exact a.1
      · have := a.2 _ bt hp
        omega
    · intro a
      refine Or.inl ⟨a, fun z => ?_⟩
      have := a.2 _ bt.1 (by rw [hp, z])
      omega
  refine ⟨fun x => by rw [hb, eb], fun x => ?_⟩
  rw [eb, inU_succ hn]
  constructor
  · rintro ⟨a | a, b⟩
    · exact Or.inl ⟨a, b⟩
    · exact Or.inr a
  · rintro (⟨a, b⟩ | a)
    · exact ⟨Or.inl a, b⟩
    · exact ⟨Or.inr a, fun z => hk x z.1 (by rw [a])⟩
theorem stSwap {κ p U q q1 q' : Int → Int} {n m tw : Int} (hn : 0 ≤ n) (hk : ∀ x, inU U n x → ¬ κ x = κ (U n)) (h : incS κ q m) (hb : ∀ x, memS q m x ↔ bestS κ p U n x) (htw : 0 ≤ tw ∧ tw < m) (hp : p (q tw) = p (U n)) (hl : κ (U n) < κ (q tw)) (hr : ∀ x, memS q1 (m - 1) x ↔ (memS q m x ∧ ¬ x = q tw)) (hi : ∀ x, memS q' (m - 1 + 1) x ↔ (x = U n ∨ memS q1 (m - 1) x)) : (∀ x, memS q' m x ↔ bestS κ p U (n + 1) x) ∧ ∀ x, (inU U (n + 1) x ∧ ¬ bestS κ p U (n + 1) x) ↔ ((inU U n x ∧ ¬ bestS κ p U n x) ∨ x = q tw) := by
  have bt : bestS κ p U n (q tw) := (hb _).1 ⟨tw, htw.1, htw.2, rfl⟩
  have un : ∀ x, bestS κ p U n x → p x = p (U n) → x = q tw := fun x a b => by
    obtain ⟨k, k0, k1, k2⟩ := (hb x).2 a
    have e1 := a.2 _ bt.1 (by rw [hp, b])
    have e2 := bt.2 _ a.1 (by rw [hp, b])
    by_cases z : k = tw
    · rw [← k2, z]
    · exfalso
      by_cases zz : k < tw
      · have := h k tw k0 zz htw.2
        rw [k2] at this; omega
      · have := h tw k htw.1 (by omega) k1
        rw [k2] at this; omega
  have eb : ∀ x, bestS κ p U (n + 1) x ↔ (x = U n ∨ (bestS κ p U n x ∧ ¬ x = q tw)) := fun x => by
    rw [bestStep hn hk]
    constructor
    · rintro (a | a)
      · refine Or.inr ⟨a.1, fun z => ?_⟩
        have := a.2 (by rw [z]; exact hp)
        rw [z] at this
        omega
      · exact Or.inl a.1
    · rintro (a | a)
      · refine Or.inr ⟨a, fun z z1 z2 => ?_⟩
        rw [un z z1 z2]; exact hl
      · exact Or.inl ⟨a.1, fun z => absurd (un x a.1 z) a.2⟩
  refine ⟨fun x => ?_, fun x => ?_⟩
  · have := hi x
    rw [show m - 1 + 1 = m by omega] at this
    rw [this, hr, hb, eb]
  · rw [eb, inU_succ hn]
    constructor
    · rintro ⟨a | a, b⟩
      · by_cases z : x = q tw
        · exact Or.inr z
        · exact Or.inl ⟨a, fun y => b (Or.inr ⟨y, z⟩)⟩
      · exact absurd (Or.inl a) b
    · rintro (⟨a, b⟩ | a)
      · refine ⟨Or.inl a, ?_⟩
        rintro (z | z)
        · exact hk x a (by rw [z])
        · exact b z.1
      · refine ⟨Or.inl (by rw [a]; exact bt.1), ?_⟩
        rintro (z | z)
        · exact hk (q tw) bt.1 (by rw [← a, z])
        · exact z.2 a
/-! ===== merge, the class: ticket by ticket ===== -/
def PutD (s o p t : Int) (d d' : mD) : Prop := (∀ b, ¬ b = s + 8 → ¬ b = s + 9 → d' b = d b) ∧ (∀ j, ¬ j = o → d' (s + 8) j = d (s + 8) j) ∧ d' (s + 8) o = d (s + 8) o + 1 ∧ d' (s + 9) (o * 16 + p) = t ∧ (∀ k, p < k → k ≤ d (s + 8) o → d' (s + 9) (o * 16 + k) = d (s + 9) (o * 16 + k - 1)) ∧ ∀ j, ¬ (o * 16 + p ≤ j ∧ j ≤ o * 16 + d (s + 8) o) → d' (s + 9) j = d (s + 9) j
theorem lp40 {x0 o p t : Int} : ∀ (n : Nat) (x : Int) (d : mD), p ≤ x → x - p ≤ (n : Int) → (∀ b, ¬ b = x0 + 6 → ¬ b = x0 + 7 → lp_40_40 x0 o p t n (o * 16) x d b = d b) ∧ (∀ j, ¬ j = o → lp_40_40 x0 o p t n (o * 16) x d (x0 + 6) j = d (x0 + 6) j) ∧ lp_40_40 x0 o p t n (o * 16) x d (x0 + 6) o = d (x0 + 6) o + 1 ∧ lp_40_40 x0 o p t n (o * 16) x d (x0 + 7) (o * 16 + p) = t ∧ (∀ k, p < k → k ≤ x → lp_40_40 x0 o p t n (o * 16) x d (x0 + 7) (o * 16 + k) = d (x0 + 7) (o * 16 + k - 1)) ∧ ∀ j, ¬ (o * 16 + p ≤ j ∧ j ≤ o * 16 + x) → lp_40_40 x0 o p t n (o * 16) x d (x0 + 7) j = d (x0 + 7) j := by
  have base : ∀ (r : Int → Int → mD → mD) (x : Int) (d : mD), p ≤ x → ¬ p < x → st_40_40 x0 o p t r (o * 16) x d = mset (mset d (x0 + 7) (o * 16 + p) t) (x0 + 6) o (d (x0 + 6) o + 1) := fun r x d a b => by
    unfold st_40_40
    rw [if_neg b]
  have fin : ∀ (x : Int) (d d' : mD), p ≤ x → ¬ p < x → d' = mset (mset d (x0 + 7) (o * 16 + p) t) (x0 + 6) o (d (x0 + 6) o + 1) → (∀ b, ¬ b = x0 + 6 → ¬ b = x0 + 7 → d' b = d b) ∧ (∀ j, ¬ j = o → d' (x0 + 6) j = d (x0 + 6) j) ∧ d' (x0 + 6) o = d (x0 + 6) o + 1 ∧ d' (x0 + 7) (o * 16 + p) = t ∧ (∀ k, p < k → k ≤ x → d' (x0 + 7) (o * 16 + k) = d (x0 + 7) (o * 16 + k - 1)) ∧ ∀ j, ¬ (o * 16 + p ≤ j ∧ j ≤ o * 16 + x) → d' (x0 + 7) j = d (x0 + 7) j := fun x d d' a b e => by
    rw [e]
    refine ⟨fun c x y => by funext j; rw [ms_a x, ms_a y], fun j x => by rw [ms_i x, ms_a (by omega)], ms_e rfl rfl, by rw [ms_a (by omega), ms_e rfl rfl], fun k x y => by omega, fun j x => by rw [ms_a (by omega), ms_i (by omega)]⟩
  intro n
  induction n with
  | zero => intro x d a b; exact fin x d _ a (by omega) (base _ x d a (by omega))
  | succ n ih =>
    intro x d a b
    by_cases hc : p < x
    · have e : lp_40_40 x0 o p t (n + 1) (o * 16) x d = lp_40_40 x0 o p t n (o * 16) (x + -1) (mset d (x0 + 7) (o * 16 + x) (d (x0 + 7) (o * 16 + x - 1))) := by
        show st_40_40 x0 o p t _ (o * 16) x d = _
        unfold st_40_40
        rw [if_pos hc]
      rw [e]
      obtain ⟨i1, i2, i3, i4, i5, i6⟩ := ih (x + -1) (mset d (x0 + 7) (o * 16 + x) (d (x0 + 7) (o * 16 + x - 1))) (by omega) (by omega)
      have e6 : ∀ j, mset d (x0 + 7) (o * 16 + x) (d (x0 + 7) (o * 16 + x - 1)) (x0 + 6) j = d (x0 + 6) j := fun j => ms_a (by omega)
      refine ⟨fun c y z => by rw [i1 c y z]; funext j; exact ms_a z, fun j y => by rw [i2 j y, e6], by rw [i3, e6], i4, fun k y z => ?_, fun j y => by rw [i6 j (by omega), ms_i (by omega)]⟩
      by_cases q : k = x
      · rw [q, i6 _ (by omega), ms_e rfl rfl]
      · rw [i5 k y (by omega), ms_i (by omega)]
    · exact fin x d _ a hc (base _ x d a hc)
theorem put40 {s o p t : Int} {d : mD} (hp : 0 ≤ p ∧ p ≤ d (s + 8) o) (hl : d (s + 8) o < 16) : PutD s o p t d (g_40 (s + 2) o p t d) := by
  unfold g_40
  have e8 : s + 2 + 6 = s + 8 := by omega
  have e9 : s + 2 + 7 = s + 9 := by omega
  rw [if_neg (by omega), e8, if_neg (by omega), if_pos hl]
  obtain ⟨i1, i2, i3, i4, i5, i6⟩ := lp40 (x0 := s + 2) (o := o) (p := p) (t := t) (d (s + 8) o).toNat (d (s + 8) o) d hp.2 (by omega)
  rw [e8] at i1 i2 i3
  rw [e9] at i1 i4 i5 i6
  exact ⟨i1, i2, i3, i4, i5, i6⟩
theorem per62 {s o c m : Int} {d : mD} (hm : d (s + 8) o = m) : ∀ (n : Nat) (x : Int), 0 ≤ x → m ≤ x + n → (lp_62_2 s o c n x d = -1 ∧ ∀ k, x ≤ k → k < m → ¬ d (s + 50) (d (s + 9) (o * 16 + k)) = c) ∨ (x ≤ lp_62_2 s o c n x d ∧ lp_62_2 s o c n x d < m ∧ d (s + 50) (d (s + 9) (o * 16 + lp_62_2 s o c n x d)) = c) := by
  have st : ∀ (r : Int → mD → Int) (x : Int), st_62_2 s o c r x d = if x < m then (if d (s + 50) (d (s + 9) (o * 16 + x)) = c then x else r (x + 1) d) else -1 := fun r x => by
    unfold st_62_2 v_38
    rw [show s + 2 + 6 = s + 8 by omega, show s + 2 + 7 = s + 9 by omega, show s + 49 + 1 = s + 50 by omega, hm]
  intro n
  induction n with
  | zero =>
    intro x a b
    have e : lp_62_2 s o c 0 x d = -1 := by
      show st_62_2 s o c _ x d = _
      rw [st, if_neg (by omega)]
    exact Or.inl ⟨e, fun k x y => by omega⟩
  | succ n ih =>
    intro x a b
    have e : lp_62_2 s o c (n + 1) x d = if x < m then (if d (s + 50) (d (s + 9) (o * 16 + x)) = c then x else lp_62_2 s o c n (x + 1) d) else -1 := by
      show st_62_2 s o c _ x d = _
      rw [st]
    by_cases q : x < m
    · rw [if_pos q] at e
      by_cases z : d (s + 50) (d (s + 9) (o * 16 + x)) = c
      · rw [if_pos z] at e
        exact Or.inr ⟨by omega, by omega, by rw [e]; exact z⟩
      · rw [if_neg z] at e
        rw [e]
        rcases ih (x + 1) (by omega) (by omega) with ⟨i1, i2⟩ | ⟨i1, i2, i3⟩
        · refine Or.inl ⟨i1, fun k y1 y2 => ?_⟩
          by_cases y3 : k = x
          · rw [y3]; exact z
          · exact i2 k (by omega) y2
        · exact Or.inr ⟨by omega, i2, i3⟩
    · rw [if_neg q] at e
      exact Or.inl ⟨e, fun k x y => by omega⟩
theorem pl65 {s o c m : Int} {d : mD} (hm : d (s + 8) o = m) : ∀ (n : Nat) (x : Int), 0 ≤ x → x ≤ m → m ≤ x + n → x ≤ lp_65_2 s o c n x d ∧ lp_65_2 s o c n x d ≤ m ∧ (∀ k, x ≤ k → k < lp_65_2 s o c n x d → ¬ c < d (s + 52) (d (s + 9) (o * 16 + k))) ∧ (lp_65_2 s o c n x d < m → c < d (s + 52) (d (s + 9) (o * 16 + lp_65_2 s o c n x d))) := by
  have st : ∀ (r : Int → mD → Int) (x : Int), st_65_2 s o c r x d = if x < m then (if c < d (s + 52) (d (s + 9) (o * 16 + x)) then x else r (x + 1) d) else x := fun r x => by
    unfold st_65_2 v_38
    rw [show s + 2 + 6 = s + 8 by omega, show s + 2 + 7 = s + 9 by omega, show s + 49 + 3 = s + 52 by omega, hm]
  intro n
  induction n with
  | zero =>
    intro x a a2 b
    have e : lp_65_2 s o c 0 x d = x := by
      show st_65_2 s o c _ x d = _
      rw [st, if_neg (by omega)]
    rw [e]
    exact ⟨by omega, a2, fun k x y => by omega, fun z => by omega⟩
  | succ n ih =>
    intro x a a2 b
    have e : lp_65_2 s o c (n + 1) x d = if x < m then (if c < d (s + 52) (d (s + 9) (o * 16 + x)) then x else lp_65_2 s o c n (x + 1) d) else x := by
      show st_65_2 s o c _ x d = _
      rw [st]
    by_cases q : x < m
    · rw [if_pos q] at e
      by_cases z : c < d (s + 52) (d (s + 9) (o * 16 + x))
      · rw [if_pos z] at e
        rw [e]
        exact ⟨by omega, a2, fun k x y => by omega, fun _ => z⟩
      · rw [if_neg z] at e
        rw [e]
        obtain ⟨i1, i2, i3, i4⟩ := ih (x + 1) (by omega) (by omega) (by omega)
        refine ⟨by omega, i2, fun k y1 y2 => ?_, i4⟩
        by_cases y3 : k = x
        · rw [y3]; exact z
        · exact i3 k (by omega) y2
    · rw [if_neg q] at e
      rw [e]
      exact ⟨by omega, a2, fun k x y => by omega, fun z => by omega⟩
theorem pig16 {f : Int → Int} {m : Int} (hr : ∀ k, 0 ≤ k → k < m → 0 ≤ f k ∧ f k < 16) (hi : ∀ k i, 0 ≤ i → i < k → k < m → ¬ f i = f k) : m ≤ 16 := by
  by_cases z : m ≤ 0
  · omega
  · have e : (((m - 1).toNat : Nat) : Int) = m - 1 := by omega
    have := pigeon (f := f) (L := (m - 1).toNat) (N := 16) (fun k a b => hr k a (by omega)) (fun k i a b c => hi k i a b (by omega)) (p := f (m - 1)) (hr (m - 1) (by omega) (by omega)).1 (hr (m - 1) (by omega) (by omega)).2 (fun k a b => hi (m - 1) k a (by omega) (by omega))
    omega
def MC (κ U p : Int → Int) (s o2 T : Int) (d0 : mD) (n m : Int) (d : mD) : Prop :=
  (∀ b, ¬ b = s + 8 → ¬ b = s + 9 → ¬ b = s + 51 → ¬ b = s + 53 → ¬ b = s + 54 → d b = d0 b)
  ∧ (∀ o, ¬ o = o2 → d (s + 8) o = d0 (s + 8) o) ∧ d (s + 8) o2 = m
  ∧ (∀ i, ¬ (o2 * 16 ≤ i ∧ i < o2 * 16 + 16) → d (s + 9) i = d0 (s + 9) i)
  ∧ 0 ≤ m ∧ incS κ (fun k => d (s + 9) (o2 * 16 + k)) m ∧ (∀ t, memS (fun k => d (s + 9) (o2 * 16 + k)) m t ↔ bestS κ p U n t)
  ∧ (∀ t, (inU U n t → d (s + 51) t = o2) ∧ (¬ inU U n t → d (s + 51) t = d0 (s + 51) t))
  ∧ ∀ t, ((inU U n t ∧ ¬ bestS κ p U n t) → d (s + 53) t = T ∧ d (s + 54) t = 2) ∧ (¬ (inU U n t ∧ ¬ bestS κ p U n t) → d (s + 53) t = d0 (s + 53) t ∧ d (s + 54) t = d0 (s + 54) t)
theorem bestS.one {κ p U : Int → Int} {q : Int → Int} {n m i k : Int} (h : incS κ q m) (hb : ∀ x, memS q m x ↔ bestS κ p U n x) (a : 0 ≤ i) (b : i < k) (c : k < m) : ¬ p (q i) = p (q k) := fun z => by
  have bi := (hb (q i)).1 ⟨i, a, by omega, rfl⟩
  have bk := (hb (q k)).1 ⟨k, by omega, c, rfl⟩
  have := bk.2 _ bi.1 z
  have := h i k a b c
  omega
theorem stepM {κ U p j : Int → Int} {s o2 T n m : Int} {d0 d : mD} (hn : 0 ≤ n) (hk : ∀ x, inU U n x → ¬ κ x = κ (U n) ∧ (κ x < κ (U n) ↔ j x ≤ j (U n))) (hp : ∀ x, inU U (n + 1) x → d0 (s + 50) x = p x ∧ d0 (s + 52) x = j x ∧ 0 ≤ p x ∧ p x < 16) (hT : d0 s 2 = T) (h : MC κ U p s o2 T d0 n m d) : ∃ m', MC κ U p s o2 T d0 (n + 1) m' (g_64 s o2 (U n) d) := by
  obtain ⟨c1, c2, c3, c4, c5, c6, c7, c8, c9⟩ := h
  have hu : ∀ x, inU U n x → inU U (n + 1) x := fun x a => (inU_succ hn).2 (Or.inl a)
  have ht : inU U (n + 1) (U n) := (inU_succ hn).2 (Or.inr rfl)
  have hk1 : ∀ x, inU U n x → ¬ κ x = κ (U n) := fun x a => (hk x a).1
  have f50 : d (s + 50) = d0 (s + 50) := c1 _ (by omega) (by omega) (by omega) (by omega) (by omega)
  have f52 : d (s + 52) = d0 (s + 52) := c1 _ (by omega) (by omega) (by omega) (by omega) (by omega)
  have fs : d s 2 = T := by rw [c1 s (by omega) (by omega) (by omega) (by omega) (by omega)]; exact hT
  have mq : ∀ k, 0 ≤ k → k < m → inU U n (d (s + 9) (o2 * 16 + k)) := fun k a b => ((c7 _).1 ⟨k, a, b, rfl⟩).1
  have pr := hp (U n) ht
  have m16 : m ≤ 16 := pig16 (f := fun k => p (d (s + 9) (o2 * 16 + k))) (fun k a b => (hp _ (hu _ (mq k a b))).2.2) (fun k i a b c => bestS.one (q := fun k => d (s + 9) (o2 * 16 + k)) c6 c7 a b c)
  have eP : d (s + 49 + 1) (U n) = p (U n) := by rw [show s + 49 + 1 = s + 50 by omega, f50]; exact pr.1
  have eJ : d (s + 49 + 3) (U n) = j (U n) := by rw [show s + 49 + 3 = s + 52 by omega, f52]; exact pr.2.1
  have h62 := per62 (c := p (U n)) c3 (16 - 0 : Int).toNat 0 (by omega) (by omega)
  have h65 := pl65 (c := j (U n)) c3 (16 - 0 : Int).toNat 0 (by omega) (by omega) (by omega)
  have e62 : v_62 s o2 (p (U n)) d = lp_62_2 s o2 (p (U n)) (16 - 0 : Int).toNat 0 d := rfl
  have e65 : v_65 s o2 (j (U n)) d = lp_65_2 s o2 (j (U n)) (16 - 0 : Int).toNat 0 d := rfl
  rw [← e62] at h62
  rw [← e65] at h65
  have hg : g_64 s o2 (U n) d = if v_62 s o2 (p (U n)) d = (-1) then g_40 (s + 2) o2 (v_65 s o2 (j (U n)) d) (U n) (mset d (s + 51) (U n) o2) else if v_62 s o2 (p (U n)) d < v_65 s o2 (j (U n)) d then mset (mset (mset d (s + 51) (U n) o2) (s + 54) (U n) 2) (s + 53) (U n) T else g_40 (s + 2) o2 (v_65 s o2 (j (U n)) d) (U n) (g_41 (s + 2) o2 (v_62 s o2 (p (U n)) d) (mset (mset (mset d (s + 51) (U n) o2) (s + 54) (d (s + 9) (o2 * 16 + v_62 s o2 (p (U n)) d)) 2) (s + 53) (d (s + 9) (o2 * 16 + v_62 s o2 (p (U n)) d)) T)) := by
    unfold g_64 g_97
    rw [eP, eJ, fs, show s + 49 + 2 = s + 51 by omega, show s + 49 + 5 = s + 54 by omega, show s + 49 + 4 = s + 53 by omega]
    have e38 : v_38 (s + 2) o2 (v_62 s o2 (p (U n)) d) (mset d (s + 51) (U n) o2) = d (s + 9) (o2 * 16 + v_62 s o2 (p (U n)) d) := by
      unfold v_38
      rw [show s + 2 + 7 = s + 9 by omega, ms_a (by omega)]
    rw [e38]
  rw [hg]
  generalize v_62 s o2 (p (U n)) d = tw at *
  generalize v_65 s o2 (j (U n)) d = pos at *
  obtain ⟨p1, p2, p3, p4⟩ := h65
  have lo : ∀ k, 0 ≤ k → k < pos → κ (d (s + 9) (o2 * 16 + k)) < κ (U n) := fun k a b => by
    have y := p3 k a b
    have z := mq k a (by omega)
    rw [f52, (hp _ (hu _ z)).2.1] at y
    exact ((hk _ z).2).2 (by omega)
  have hi : ∀ k, pos ≤ k → k < m → κ (U n) < κ (d (s + 9) (o2 * 16 + k)) := fun k a b => by
    have y := p4 (by omega)
    have z := mq pos p1 (by omega)
    rw [f52, (hp _ (hu _ z)).2.1] at y
    have y1 := (hk _ z).1
    have y2 : ¬ κ (d (s + 9) (o2 * 16 + pos)) < κ (U n) := fun u => by
      have := ((hk _ z).2).1 u
      omega
    by_cases q : pos = k
    · rw [← q]; omega
    · have := c6 pos k p1 (by omega) b
      have this : κ (d (s + 9) (o2 * 16 + pos)) < κ (d (s + 9) (o2 * 16 + k)) := this
      omega
  have c8' : ∀ (d' : mD), (∀ x, d' (s + 51) x = mset d (s + 51) (U n) o2 (s + 51) x) → ∀ t, (inU U (n + 1) t → d' (s + 51) t = o2) ∧ (¬ inU U (n + 1) t → d' (s + 51) t = d0 (s + 51) t) := fun d' e t => by
    rw [e]
    by_cases z : t = U n
    · rw [z, ms_e rfl rfl]
      exact ⟨fun _ => rfl, fun y => absurd ht y⟩
    · rw [ms_i z, inU_succ hn]
      exact ⟨fun y => (c8 t).1 (y.elim id (fun u => absurd u z)), fun y => (c8 t).2 (fun u => y (Or.inl u))⟩
  by_cases z1 : tw = -1
  · rw [if_pos z1]
    have no : ∀ k, 0 ≤ k → k < m → ¬ p (d (s + 9) (o2 * 16 + k)) = p (U n) := fun k a b => by
      rcases h62 with ⟨-, y⟩ | ⟨y, -⟩
      · have := y k a b
        rw [f50, (hp _ (hu _ (mq k a b))).1] at this
        exact this
      · omega
    have m15 : m < 16 := by
      have e : ((m.toNat : Nat) : Int) = m := by omega
      have := pigeon (f := fun k => p (d (s + 9) (o2 * 16 + k))) (L := m.toNat) (N := 16) (fun k a b => (hp _ (hu _ (mq k a (by omega)))).2.2) (fun k i a b c => bestS.one (q := fun k => d (s + 9) (o2 * 16 + k)) c6 c7 a b (by omega)) (p := p (U n)) pr.2.2.1 pr.2.2.2 (fun k a b => no k a (by omega))
      omega
    have e8 : mset d (s + 51) (U n) o2 (s + 8) o2 = m := by rw [ms_a (by omega)]; exact c3
    obtain ⟨i1, i2, i3, i4, i5, i6⟩ := put40 (s := s) (o := o2) (p := pos) (t := U n) (d := mset d (s + 51) (U n) o2) (by rw [e8]; exact ⟨p1, p2⟩) (by rw [e8]; exact m15)
    generalize g_40 (s + 2) o2 pos (U n) (mset d (s + 51) (U n) o2) = d' at *
    rw [e8] at i3 i5 i6
    have hi' := c6.ins (q' := fun k => d' (s + 9) (o2 * 16 + k)) (t := U n) ⟨p1, p2⟩ (fun k a b => by show d' (s + 9) _ = _; rw [i6 _ (by omega), ms_a (by omega)]) i4 (fun k a b => by show d' (s + 9) _ = _; rw [i5 k a b, ms_a (by omega), show o2 * 16 + k - 1 = o2 * 16 + (k - 1) by omega]) lo hi
    obtain ⟨s1, s2⟩ := stNone hn hk1 c6 c7 hi' no
    refine ⟨m + 1, fun b x1 x2 x3 x4 x5 => ?_, fun o x => ?_, i3, fun i x => ?_, by omega, hi'.1, s1, c8' d' (fun x => by rw [i1 _ (by omega) (by omega)]), fun t => ?_⟩
    · rw [i1 b x1 x2, ← c1 b x1 x2 x3 x4 x5]
      funext k
      exact ms_a x3
    · rw [i2 o x, ms_a (by omega)]; exact c2 o x
    · rw [i6 i (by omega), ms_a (by omega)]; exact c4 i x
    · rw [s2 t, i1 _ (by omega) (by omega), i1 _ (by omega) (by omega), ms_a (by omega), ms_a (by omega)]
      exact c9 t
  · rw [if_neg z1]
    obtain ⟨t1, t2, t3⟩ : 0 ≤ tw ∧ tw < m ∧ d (s + 50) (d (s + 9) (o2 * 16 + tw)) = p (U n) := by
      rcases h62 with ⟨y, -⟩ | ⟨y1, y2, y3⟩
      · exact absurd y z1
      · exact ⟨y1, y2, y3⟩
    rw [f50, (hp _ (hu _ (mq tw t1 t2))).1] at t3
    by_cases z2 : tw < pos
    · rw [if_pos z2]
      obtain ⟨s1, s2⟩ := stKeep hn hk1 c6 c7 ⟨t1, t2⟩ t3 (lo tw t1 z2)
      have e9 : ∀ b, ¬ b = s + 51 → ¬ b = s + 53 → ¬ b = s + 54 → mset (mset (mset d (s + 51) (U n) o2) (s + 54) (U n) 2) (s + 53) (U n) T b = d b := fun b x y z => by
        funext k
        simp (disch := omega) only [ms_a]
      refine ⟨m, fun b x1 x2 x3 x4 x5 => ?_, fun o x => ?_, ?_, fun i x => ?_, c5, ?_, fun t => ?_, c8' _ (fun x => ?_), fun t => ?_⟩
      · rw [e9 b x3 x4 x5]; exact c1 b x1 x2 x3 x4 x5
      · rw [e9 _ (by omega) (by omega) (by omega)]; exact c2 o x
      · rw [e9 _ (by omega) (by omega) (by omega)]; exact c3
      · rw [e9 _ (by omega) (by omega) (by omega)]; exact c4 i x
      · rw [e9 _ (by omega) (by omega) (by omega)]; exact c6
      · rw [e9 _ (by omega) (by omega) (by omega)]; exact s1 t
      · rw [ms_a (by omega), ms_a (by omega)]
      · rw [s2 t]
        by_cases y : t = U n
        · rw [y, ms_e rfl rfl, ms_a (by omega), ms_e rfl rfl]
          exact ⟨fun _ => ⟨rfl, rfl⟩, fun u => absurd (Or.inr rfl) u⟩
        · rw [ms_i y, ms_a (by omega), ms_a (by omega), ms_a (by omega), ms_i y, ms_a (by omega)]
          exact ⟨fun u => (c9 t).1 (u.elim id (fun v => absurd v y)), fun u => (c9 t).2 (fun v => u (Or.inl v))⟩
    · rw [if_neg z2]
      generalize hX : d (s + 9) (o2 * 16 + tw) = X at *
      generalize hd1 : mset (mset (mset d (s + 51) (U n) o2) (s + 54) X 2) (s + 53) X T = d1
      have e9 : ∀ b, ¬ b = s + 51 → ¬ b = s + 53 → ¬ b = s + 54 → d1 b = d b := fun b x y z => by
        rw [← hd1]
        funext k
        simp (disch := omega) only [ms_a]
      have y8 : d1 (s + 8) o2 = m := by rw [e9 _ (by omega) (by omega) (by omega)]; exact c3
      obtain ⟨r1, r2, r3, r4, r5⟩ := take41 (s := s) (o := o2) (p := tw) (d := d1) t1 (by rw [y8]; exact t2) (by rw [y8]; exact m16)
      generalize g_41 (s + 2) o2 tw d1 = d2 at *
      rw [y8] at r3 r4 r5
      rw [e9 (s + 9) (by omega) (by omega) (by omega)] at r4 r5
      rw [e9 (s + 8) (by omega) (by omega) (by omega)] at r2
      obtain ⟨i1, i2, i3, i4, i5, i6⟩ := put40 (s := s) (o := o2) (p := pos) (t := U n) (d := d2) (by rw [r3]; omega) (by rw [r3]; omega)
      generalize g_40 (s + 2) o2 pos (U n) d2 = d' at *
      rw [r3] at i3 i5 i6
      have hr := c6.rem (q' := fun k => d2 (s + 9) (o2 * 16 + k)) ⟨t1, t2⟩ (fun k a b => r5 _ (by omega)) (fun k a b => by show d2 (s + 9) _ = _; rw [r4 k a b, show o2 * 16 + k + 1 = o2 * 16 + (k + 1) by omega])
      have hi' := hr.1.ins (q' := fun k => d' (s + 9) (o2 * 16 + k)) (t := U n) (pos := pos) ⟨p1, by omega⟩ (fun k a b => i6 _ (by omega)) i4 (fun k a b => by show d' (s + 9) _ = _; rw [i5 k a b, show o2 * 16 + k - 1 = o2 * 16 + (k - 1) by omega]) (fun k a b => by
        show κ (d2 (s + 9) (o2 * 16 + k)) < _
        rw [r5 _ (by omega)]
        exact lo k a b) (fun k a b => by
        show _ < κ (d2 (s + 9) (o2 * 16 + k))
        by_cases y : k < tw
        · rw [r5 _ (by omega)]
          exact hi k a (by omega)
        · rw [r4 k (by omega) (by omega), show o2 * 16 + k + 1 = o2 * 16 + (k + 1) by omega]
          exact hi (k + 1) (by omega) (by omega))
      have hl : κ (U n) < κ X := by
        rw [← hX]
        exact hi tw (by omega) t2
      have hr2 := hr.2
      obtain ⟨s1, s2⟩ := stSwap (q := fun k => d (s + 9) (o2 * 16 + k)) (tw := tw) (q1 := fun k => d2 (s + 9) (o2 * 16 + k)) (q' := fun k => d' (s + 9) (o2 * 16 + k)) hn hk1 c6 c7 ⟨t1, t2⟩ (by rw [hX]; exact t3) (by rw [hX]; exact hl) hr2 hi'.2
      rw [hX] at s2
      refine ⟨m, fun b x1 x2 x3 x4 x5 => ?_, fun o x => ?_, by rw [i3]; omega, fun i x => ?_, c5, ?_, s1, c8' d' (fun x => ?_), fun t => ?_⟩
      · rw [i1 b x1 x2, r1 b x1 x2, e9 b x3 x4 x5]; exact c1 b x1 x2 x3 x4 x5
      · rw [i2 o x, r2 o x]; exact c2 o x
      · rw [i6 i (by omega), r5 i (by omega)]; exact c4 i x
      · have := hi'.1
        rw [show m - 1 + 1 = m by omega] at this
        exact this
      · rw [i1 _ (by omega) (by omega), r1 _ (by omega) (by omega), ← hd1, ms_a (by omega), ms_a (by omega)]
      · rw [s2 t, i1 _ (by omega) (by omega), i1 _ (by omega) (by omega), r1 _ (by omega) (by omega), r1 _ (by omega) (by omega), ← hd1]
        by_cases y : t = X
        · rw [y, ms_e rfl rfl, ms_a (by omega), ms_e rfl rfl]
          exact ⟨fun _ => ⟨rfl, rfl⟩, fun u => absurd (Or.inr rfl) u⟩
        · rw [ms_i y, ms_a (by omega), ms_a (by omega), ms_a (by omega), ms_i y, ms_a (by omega)]
          exact ⟨fun u => (c9 t).1 (u.elim id (fun v => absurd v y)), fun u => (c9 t).2 (fun v => u (Or.inl v))⟩
/-! ===== merge: the class's loop, the reference's two loops ===== -/
theorem loopC {κ U p j : Int → Int} {s o1 o2 T a b : Int} {d0 : mD} (ha : 0 ≤ a) (hb : 0 ≤ b ∧ b ≤ 16) (hne : ¬ o1 = o2) (h8 : d0 (s + 8) o1 = b) (hU : ∀ x, 0 ≤ x → x < b → d0 (s + 9) (o1 * 16 + x) = U (a + x)) (hk : ∀ n, a ≤ n → n < a + b → ∀ x, inU U n x → ¬ κ x = κ (U n) ∧ (κ x < κ (U n) ↔ j x ≤ j (U n))) (hp : ∀ x, inU U (a + b) x → d0 (s + 50) x = p x ∧ d0 (s + 52) x = j x ∧ 0 ≤ p x ∧ p x < 16) (hT : d0 s 2 = T) : ∀ (N : Nat) (x m : Int) (d : mD), 0 ≤ x → x ≤ b → b ≤ x + N → MC κ U p s o2 T d0 (a + x) m d → ∃ m' d1, MC κ U p s o2 T d0 (a + b) m' d1 ∧ lp_63_2 s o1 o2 N x d = mset (mset d1 (s + 8) o1 0) (s + 7) o1 0 := by
  have e : ∀ (r : Int → mD → mD) (x m : Int) (d : mD), MC κ U p s o2 T d0 (a + x) m d → st_63_2 s o1 o2 r x d = if x < b then r (x + 1) (g_64 s o2 (d (s + 9) (o1 * 16 + x)) d) else mset (mset d (s + 8) o1 0) (s + 7) o1 0 := fun r x m d h => by
    unfold st_63_2 v_38
    rw [show s + 2 + 6 = s + 8 by omega, show s + 2 + 7 = s + 9 by omega, show s + 2 + 5 = s + 7 by omega, h.2.1 o1 hne, h8]
  intro N
  induction N with
  | zero =>
    intro x m d x0 x1 x2 h
    have q := e (fun _ d => d) x m d h
    rw [if_neg (by omega)] at q
    refine ⟨m, d, ?_, q⟩
    rw [show a + b = a + x by omega]
    exact h
  | succ N ih =>
    intro x m d x0 x1 x2 h
    have q := e (lp_63_2 s o1 o2 N) x m d h
    by_cases z : x < b
    · rw [if_pos z, h.2.2.2.1 _ (by omega), hU x x0 z] at q
      obtain ⟨m', h'⟩ := stepM (j := j) (by omega) (hk (a + x) (by omega) (by omega)) (fun y ⟨i, i0, i1, i2⟩ => hp y ⟨i, i0, by omega, i2⟩) hT h
      rw [show a + x + 1 = a + (x + 1) by omega] at h'
      obtain ⟨m2, d2, g1, g2⟩ := ih (x + 1) m' _ (by omega) (by omega) (by omega) h'
      exact ⟨m2, d2, g1, q.trans g2⟩
    · rw [if_neg z] at q
      refine ⟨m, d, ?_, q⟩
      rw [show a + b = a + x by omega]
      exact h
theorem ins229 {x1 o2 x3 x5 t : Int} {r : Int → Int → Int → Row → Row} (ho : 0 ≤ o2 ∧ o2 ≤ 5) (ht : 0 ≤ t ∧ t < 60) : ∀ (N : Nat) (x : Int) (w : Row), 0 ≤ x → x ≤ 60 → x ≤ N → (∀ k, 0 ≤ k → k < x → 0 ≤ w (12 + 68 * o2 + 7 + k)) → ∃ pos w', 0 ≤ pos ∧ pos ≤ x ∧ LP_229_61 x1 o2 r N x3 (12 + 68 * o2) x5 t x w = r x3 (12 + 68 * o2) (x5 + 1) w' ∧ (∀ k, pos ≤ k → k < x → w (452 + 24 * t + 2) < w (452 + 24 * w (12 + 68 * o2 + 7 + k) + 2)) ∧ (0 < pos → ¬ w (452 + 24 * t + 2) < w (452 + 24 * w (12 + 68 * o2 + 7 + (pos - 1)) + 2)) ∧ w' (12 + 68 * o2 + 7 + pos) = t ∧ (∀ k, pos < k → k ≤ x → w' (12 + 68 * o2 + 7 + k) = w (12 + 68 * o2 + 7 + (k - 1))) ∧ w' (12 + 68 * o2 + 5) = w (12 + 68 * o2 + 5) + 1 ∧ w' (452 + 24 * t + 1) = o2 ∧ ∀ i, ¬ i = 12 + 68 * o2 + 5 → ¬ i = 452 + 24 * t + 1 → ¬ (12 + 68 * o2 + 7 + pos ≤ i ∧ i ≤ 12 + 68 * o2 + 7 + x) → w' i = w i := by
  have stop : ∀ (x : Int) (w : Row) (L : Row), 0 ≤ x → x ≤ 60 → (0 < x → ¬ w (452 + 24 * t + 2) < w (452 + 24 * w (12 + 68 * o2 + 7 + (x - 1)) + 2)) → L = r x3 (12 + 68 * o2) (x5 + 1) (ws (ws (ws w (12 + 68 * o2 + 7 + x) t) (12 + 68 * o2 + 5) (w (12 + 68 * o2 + 5) + 1)) (452 + 24 * t + 1) o2) → ∃ pos w', 0 ≤ pos ∧ pos ≤ x ∧ L = r x3 (12 + 68 * o2) (x5 + 1) w' ∧ (∀ k, pos ≤ k → k < x → w (452 + 24 * t + 2) < w (452 + 24 * w (12 + 68 * o2 + 7 + k) + 2)) ∧ (0 < pos → ¬ w (452 + 24 * t + 2) < w (452 + 24 * w (12 + 68 * o2 + 7 + (pos - 1)) + 2)) ∧ w' (12 + 68 * o2 + 7 + pos) = t ∧ (∀ k, pos < k → k ≤ x → w' (12 + 68 * o2 + 7 + k) = w (12 + 68 * o2 + 7 + (k - 1))) ∧ w' (12 + 68 * o2 + 5) = w (12 + 68 * o2 + 5) + 1 ∧ w' (452 + 24 * t + 1) = o2 ∧ ∀ i, ¬ i = 12 + 68 * o2 + 5 → ¬ i = 452 + 24 * t + 1 → ¬ (12 + 68 * o2 + 7 + pos ≤ i ∧ i ≤ 12 + 68 * o2 + 7 + x) → w' i = w i := fun x w L a b c e => by
    refine ⟨x, _, a, by omega, e, fun k y z => by omega, c, ?_, fun k y z => by omega, ?_, wse rfl, fun i y z u => ?_⟩
    · rw [wsn (by omega), wsn (by omega), wse rfl]
    · rw [wsn (by omega), wse rfl]
    · rw [wsn z, wsn y, wsn (by omega)]
  intro N
  induction N with
  | zero =>
    intro x w a b c hq
    refine stop x w _ a b (fun z => by omega) ?_
    show ST_229_61 x1 o2 r _ x3 (12 + 68 * o2) x5 t x w = _
    unfold ST_229_61
    rw [if_neg (by omega)]
  | succ N ih =>
    intro x w a b c hq
    by_cases q : 0 < x
    · by_cases z : w (452 + 24 * t + 2) < w (452 + 24 * w (12 + 68 * o2 + 7 + (x - 1)) + 2)
      · have e : LP_229_61 x1 o2 r (N + 1) x3 (12 + 68 * o2) x5 t x w = LP_229_61 x1 o2 r N x3 (12 + 68 * o2) x5 t (x + -1) (ws w (12 + 68 * o2 + 7 + x) (w (12 + 68 * o2 + 7 + (x - 1)))) := by
          show ST_229_61 x1 o2 r _ x3 (12 + 68 * o2) x5 t x w = _
          unfold ST_229_61
          rw [if_pos q, show 12 + 68 * o2 + 7 + x - 1 = 12 + 68 * o2 + 7 + (x - 1) by omega, if_pos z]
        have y1 : ∀ i, ¬ i = 12 + 68 * o2 + 7 + x → ws w (12 + 68 * o2 + 7 + x) (w (12 + 68 * o2 + 7 + (x - 1))) i = w i := fun i y => wsn y
        have y2 : ws w (12 + 68 * o2 + 7 + x) (w (12 + 68 * o2 + 7 + (x - 1))) (12 + 68 * o2 + 7 + x) = w (12 + 68 * o2 + 7 + (x - 1)) := wse rfl
        rw [e]
        generalize ws w (12 + 68 * o2 + 7 + x) (w (12 + 68 * o2 + 7 + (x - 1))) = w1 at *
        obtain ⟨pos, w', i1, i2, i3, i4, i5, i6, i7, i8, i9, i10⟩ := ih (x + -1) w1 (by omega) (by omega) (by omega) (fun k u v => by rw [y1 _ (by omega)]; exact hq k u (by omega))
        refine ⟨pos, w', i1, by omega, i3, fun k u v => ?_, fun u => ?_, i6, fun k u v => ?_, by rw [i8, y1 _ (by omega)], i9, fun i u v y => by rw [i10 i u v (by omega), y1 i (by omega)]⟩
        · by_cases k1 : k = x - 1
          · rw [k1]; exact z
          · have k2 := i4 k u (by omega)
            have k3 := hq k (by omega) (by omega)
            rw [y1 (12 + 68 * o2 + 7 + k) (by omega), y1 _ (by omega), y1 _ (by omega)] at k2
            exact k2
        · have k2 := i5 u
          have k3 := hq (pos - 1) (by omega) (by omega)
          rw [y1 (12 + 68 * o2 + 7 + (pos - 1)) (by omega), y1 _ (by omega), y1 _ (by omega)] at k2
          exact k2
        · by_cases k1 : k = x
          · rw [k1, i10 _ (by omega) (by omega) (by omega), y2]
          · rw [i7 k u (by omega), y1 _ (by omega)]
      · refine stop x w _ a b (fun _ => z) ?_
        show ST_229_61 x1 o2 r _ x3 (12 + 68 * o2) x5 t x w = _
        unfold ST_229_61
        rw [if_pos q, show 12 + 68 * o2 + 7 + x - 1 = 12 + 68 * o2 + 7 + (x - 1) by omega, if_neg z]
    · refine stop x w _ a b (fun z => by omega) ?_
      show ST_229_61 x1 o2 r _ x3 (12 + 68 * o2) x5 t x w = _
      unfold ST_229_61
      rw [if_neg q]
def MR (κ U : Int → Int) (o2 : Int) (w0 : Row) (n : Int) (w : Row) : Prop :=
  w (12 + 68 * o2 + 5) = n ∧ incS κ (fun k => w (12 + 68 * o2 + 7 + k)) n ∧ (∀ t, memS (fun k => w (12 + 68 * o2 + 7 + k)) n t ↔ inU U n t)
  ∧ (∀ i, ¬ i = 12 + 68 * o2 + 5 → ¬ (12 + 68 * o2 + 7 ≤ i ∧ i < 12 + 68 * o2 + 68) → ¬ (452 ≤ i ∧ i < 1892 ∧ (i - 452) % 24 = 1) → w i = w0 i)
  ∧ ∀ t, 0 ≤ t → t < 60 → (inU U n t → w (452 + 24 * t + 1) = o2) ∧ (¬ inU U n t → w (452 + 24 * t + 1) = w0 (452 + 24 * t + 1))
theorem stepR {κ U : Int → Int} {o1 o2 x3 x5 n : Int} {w0 w : Row} {r : Int → Int → Int → Row → Row} (ho : 0 ≤ o2 ∧ o2 ≤ 5) (hn : 0 ≤ n ∧ n ≤ 40) (hk : ∀ x, inU U n x → ¬ κ x = κ (U n) ∧ (κ x < κ (U n) ↔ w0 (452 + 24 * x + 2) ≤ w0 (452 + 24 * U n + 2))) (hU : ∀ x, inU U (n + 1) x → 0 ≤ x ∧ x < 60) (h : MR κ U o2 w0 n w) : ∃ w', MR κ U o2 w0 (n + 1) w' ∧ LP_229_61 o1 o2 r (n : Int).toNat x3 (12 + 68 * o2) x5 (U n) n w = r x3 (12 + 68 * o2) (x5 + 1) w' := by
  obtain ⟨c1, c2, c3, c4, c5⟩ := h
  have ht : inU U (n + 1) (U n) := (inU_succ hn.1).2 (Or.inr rfl)
  have hu : ∀ x, inU U n x → inU U (n + 1) x := fun x a => (inU_succ hn.1).2 (Or.inl a)
  have mq : ∀ k, 0 ≤ k → k < n → inU U n (w (12 + 68 * o2 + 7 + k)) := fun k a b => (c3 _).1 ⟨k, a, b, rfl⟩
  have rt := hU _ ht
  obtain ⟨pos, w', i1, i2, i3, i4, i5, i6, i7, i8, i9, i10⟩ := ins229 (x1 := o1) (x3 := x3) (x5 := x5) (r := r) ho rt n.toNat n w hn.1 (by omega) (by omega) (fun k a b => (hU _ (hu _ (mq k a b))).1)
  have ej : ∀ X, 0 ≤ X ∧ X < 60 → w (452 + 24 * X + 2) = w0 (452 + 24 * X + 2) := fun X a => c4 _ (by omega) (by omega) (by omega)
  have hi : ∀ k, pos ≤ k → k < n → κ (U n) < κ (w (12 + 68 * o2 + 7 + k)) := fun k a b => by
    have y := i4 k a b
    have z := mq k (by omega) b
    rw [ej _ rt, ej _ (hU _ (hu _ z))] at y
    have u := hk _ z
    have v : ¬ κ (w (12 + 68 * o2 + 7 + k)) < κ (U n) := fun q => by
      have := u.2.1 q
      omega
    have := u.1
    omega
  have lo : ∀ k, 0 ≤ k → k < pos → κ (w (12 + 68 * o2 + 7 + k)) < κ (U n) := fun k a b => by
    have y := i5 (by omega)
    have z := mq (pos - 1) (by omega) (by omega)
    rw [ej _ rt, ej _ (hU _ (hu _ z))] at y
    have u := (hk _ z).2.2 (by omega)
    by_cases q : k = pos - 1
    · rw [q]; exact u
    · have := c2 k (pos - 1) a (by omega) (by omega)
      have this : κ (w (12 + 68 * o2 + 7 + k)) < κ (w (12 + 68 * o2 + 7 + (pos - 1))) := this
      omega
  have hi' := c2.ins (q' := fun k => w' (12 + 68 * o2 + 7 + k)) (t := U n) ⟨i1, i2⟩ (fun k a b => i10 _ (by omega) (by omega) (by omega)) i6 i7 lo hi
  refine ⟨w', ⟨by rw [i8, c1], hi'.1, fun t => ?_, fun i a b c => ?_, fun t a b => ?_⟩, i3⟩
  · rw [hi'.2, c3, inU_succ hn.1]
    exact ⟨fun z => z.elim Or.inr Or.inl, fun z => z.elim Or.inr Or.inl⟩
  · rw [i10 i a (by omega) (by omega)]
    exact c4 i a b c
  · by_cases z : t = U n
    · rw [z]
      exact ⟨fun _ => i9, fun y => absurd ht y⟩
    · rw [inU_succ hn.1, i10 _ (by omega) (by omega) (by omega)]
      exact ⟨fun y => (c5 t a b).1 (y.elim id (fun u => absurd u z)), fun y => (c5 t a b).2 (fun u => y (Or.inl u))⟩
theorem loopR {κ U : Int → Int} {o1 o2 a b : Int} {w0 : Row} (ho1 : 0 ≤ o1 ∧ o1 ≤ 5) (ho2 : 0 ≤ o2 ∧ o2 ≤ 5) (hne : ¬ o1 = o2) (ha : 0 ≤ a ∧ a ≤ 16) (hb : 0 ≤ b ∧ b ≤ 16) (h5 : w0 (12 + 68 * o1 + 5) = b) (hq : ∀ x, 0 ≤ x → x < b → w0 (12 + 68 * o1 + 7 + x) = U (a + x)) (hk : ∀ n, a ≤ n → n < a + b → ∀ x, inU U n x → ¬ κ x = κ (U n) ∧ (κ x < κ (U n) ↔ w0 (452 + 24 * x + 2) ≤ w0 (452 + 24 * U n + 2))) (hU : ∀ x, inU U (a + b) x → 0 ≤ x ∧ x < 60) : ∀ (N : Nat) (x : Int) (w : Row), 0 ≤ x → x ≤ b → b ≤ x + N → MR κ U o2 w0 (a + x) w → ∃ w1, MR κ U o2 w0 (a + b) w1 ∧ LP_229_23 o1 o2 N (12 + 68 * o1) (12 + 68 * o2) x w = LP_229_199 o1 o2 (a + b : Int).toNat (12 + 68 * o1) (12 + 68 * o2) 0 (ws w1 (12 + 68 * o1 + 5) 0) := by
  have fin : ∀ (r : Int → Int → Int → Row → Row) (x : Int) (w : Row), x = b → MR κ U o2 w0 (a + x) w → ST_229_23 o1 o2 r (12 + 68 * o1) (12 + 68 * o2) x w = LP_229_199 o1 o2 (a + b : Int).toNat (12 + 68 * o1) (12 + 68 * o2) 0 (ws w (12 + 68 * o1 + 5) 0) := fun r x w e h => by
    unfold ST_229_23
    rw [h.2.2.2.1 (12 + 68 * o1 + 5) (by omega) (by omega) (by omega), h5, if_neg (by omega), wsn (by omega), h.1, show a + x - 0 = a + b by omega]
  intro N
  induction N with
  | zero =>
    intro x w x0 x1 x2 h
    have e : x = b := by omega
    have y : LP_229_23 o1 o2 0 (12 + 68 * o1) (12 + 68 * o2) x w = _ := fin _ x w e h
    rw [e] at h
    exact ⟨w, h, y⟩
  | succ N ih =>
    intro x w x0 x1 x2 h
    by_cases z : x < b
    · have t : w (12 + 68 * o1 + 7 + x) = U (a + x) := by
        rw [h.2.2.2.1 (12 + 68 * o1 + 7 + x) (by omega) (by omega) (by omega)]
        exact hq x x0 z
      obtain ⟨w', g1, g2⟩ := stepR (o1 := o1) (x3 := 12 + 68 * o1) (x5 := x) (r := LP_229_23 o1 o2 N) ho2 (by omega) (hk (a + x) (by omega) (by omega)) (fun y ⟨i, i0, i1, i2⟩ => hU y ⟨i, i0, by omega, i2⟩) h
      have y : LP_229_23 o1 o2 (N + 1) (12 + 68 * o1) (12 + 68 * o2) x w = LP_229_23 o1 o2 N (12 + 68 * o1) (12 + 68 * o2) (x + 1) w' := by
        show ST_229_23 o1 o2 _ (12 + 68 * o1) (12 + 68 * o2) x w = _
        unfold ST_229_23
        rw [h.2.2.2.1 (12 + 68 * o1 + 5) (by omega) (by omega) (by omega), h5, if_pos z, t, h.1]
        exact g2
      rw [show a + x + 1 = a + (x + 1) by omega] at g1
      rw [y]
      exact ih (x + 1) w' (by omega) (by omega) (by omega) g1
    · have e : x = b := by omega
      have y : LP_229_23 o1 o2 (N + 1) (12 + 68 * o1) (12 + 68 * o2) x w = _ := fin _ x w e h
      rw [e] at h
      exact ⟨w, h, y⟩
-- the second loop: who stands behind a ticket of the same person goes
theorem lp237 {x1 x2 x3 x4 x5 x6 : Int} {r : Int → Int → Int → Row → Row} {w : Row} : ∀ (N : Nat) (x7 x8 : Int), (x7 = 0 ∨ x7 = 1) → x5 ≤ x8 + N → (LP_229_237 x1 x2 r N x3 x4 x5 x6 x7 x8 w = r x3 x4 (x5 + 1) w ∧ x7 = 0 ∧ ∀ k, x8 ≤ k → k < x5 → ¬ w (452 + 24 * w (x4 + 7 + k) + 0) = w (x6 + 0)) ∨ (LP_229_237 x1 x2 r N x3 x4 x5 x6 x7 x8 w = r x3 x4 x5 (W_220 x2 x5 (ws (ws w (x6 + 4) 2) (x6 + 3) (w 0))) ∧ (x7 = 1 ∨ ∃ k, x8 ≤ k ∧ k < x5 ∧ w (452 + 24 * w (x4 + 7 + k) + 0) = w (x6 + 0))) := by
  have fin : ∀ (r' : Int → Int → Int → Int → Int → Int → Row → Row) (x7 x8 : Int) (L : Row), (x7 = 0 ∨ x7 = 1) → ¬ x8 < x5 → L = ST_229_237 x1 x2 r r' x3 x4 x5 x6 x7 x8 w → (L = r x3 x4 (x5 + 1) w ∧ x7 = 0 ∧ ∀ k, x8 ≤ k → k < x5 → ¬ w (452 + 24 * w (x4 + 7 + k) + 0) = w (x6 + 0)) ∨ (L = r x3 x4 x5 (W_220 x2 x5 (ws (ws w (x6 + 4) 2) (x6 + 3) (w 0))) ∧ (x7 = 1 ∨ ∃ k, x8 ≤ k ∧ k < x5 ∧ w (452 + 24 * w (x4 + 7 + k) + 0) = w (x6 + 0))) := fun r' x7 x8 L h c e => by
    unfold ST_229_237 at e
    rw [if_neg c] at e
    rcases h with h | h
    · rw [if_pos h] at e
      exact Or.inl ⟨e, h, fun k a b => by omega⟩
    · rw [if_neg (by omega)] at e
      exact Or.inr ⟨e, Or.inl h⟩
  intro N
  induction N with
  | zero => intro x7 x8 h c; exact fin _ x7 x8 _ h (by omega) rfl
  | succ N ih =>
    intro x7 x8 h c
    by_cases z : x8 < x5
    · by_cases y : w (452 + 24 * w (x4 + 7 + x8) + 0) = w (x6 + 0)
      · have e : LP_229_237 x1 x2 r (N + 1) x3 x4 x5 x6 x7 x8 w = LP_229_237 x1 x2 r N x3 x4 x5 x6 1 (x8 + 1) w := by
          show ST_229_237 x1 x2 r _ x3 x4 x5 x6 x7 x8 w = _
          unfold ST_229_237
          rw [if_pos z, if_pos y]
          rcases h with h | h
          · rw [h, show mior 0 1 = 1 by decide]
          · rw [h, show mior 1 1 = 1 by decide]
        rw [e]
        rcases ih 1 (x8 + 1) (Or.inr rfl) (by omega) with ⟨-, i2, -⟩ | ⟨i1, -⟩
        · exact absurd i2 (by decide)
        · exact Or.inr ⟨i1, Or.inr ⟨x8, by omega, z, y⟩⟩
      · have e : LP_229_237 x1 x2 r (N + 1) x3 x4 x5 x6 x7 x8 w = LP_229_237 x1 x2 r N x3 x4 x5 x6 x7 (x8 + 1) w := by
          show ST_229_237 x1 x2 r _ x3 x4 x5 x6 x7 x8 w = _
          unfold ST_229_237
          rw [if_pos z, if_neg y]
          rcases h with h | h
          · rw [h, show mior 0 0 = 0 by decide]
          · rw [h, show mior 1 0 = 1 by decide]
        rw [e]
        rcases ih x7 (x8 + 1) h (by omega) with ⟨i1, i2, i3⟩ | ⟨i1, i2⟩
        · refine Or.inl ⟨i1, i2, fun k a b => ?_⟩
          by_cases q : k = x8
          · rw [q]; exact y
          · exact i3 k (by omega) b
        · refine Or.inr ⟨i1, i2.elim Or.inl (fun ⟨k, a, b, c⟩ => Or.inr ⟨k, by omega, b, c⟩)⟩
    · exact fin _ x7 x8 _ h z rfl
def MrgQ (κ U p : Int → Int) (o2 : Int) (w1 : Row) (n x m : Int) (w : Row) : Prop :=
  w (12 + 68 * o2 + 5) = m ∧ 0 ≤ x ∧ x ≤ m ∧ m ≤ 40 ∧ incS κ (fun k => w (12 + 68 * o2 + 7 + k)) m ∧ (∀ t, memS (fun k => w (12 + 68 * o2 + 7 + k)) m t → inU U n t) ∧ (∀ t, bestS κ p U n t → memS (fun k => w (12 + 68 * o2 + 7 + k)) m t) ∧ (∀ k, 0 ≤ k → k < x → bestS κ p U n (w (12 + 68 * o2 + 7 + k)))
  ∧ (∀ i, ¬ i = 12 + 68 * o2 + 5 → ¬ (12 + 68 * o2 + 7 ≤ i ∧ i < 12 + 68 * o2 + 68) → ¬ (452 ≤ i ∧ i < 1892 ∧ ((i - 452) % 24 = 3 ∨ (i - 452) % 24 = 4)) → w i = w1 i)
  ∧ ∀ t, 0 ≤ t → t < 60 → ((inU U n t ∧ ¬ memS (fun k => w (12 + 68 * o2 + 7 + k)) m t) → w (452 + 24 * t + 3) = w1 0 ∧ w (452 + 24 * t + 4) = 2) ∧ (¬ (inU U n t ∧ ¬ memS (fun k => w (12 + 68 * o2 + 7 + k)) m t) → w (452 + 24 * t + 3) = w1 (452 + 24 * t + 3) ∧ w (452 + 24 * t + 4) = w1 (452 + 24 * t + 4))
theorem stepQ {κ U p : Int → Int} {o1 o2 x3 n x m : Int} {w1 w : Row} {r : Int → Int → Int → Row → Row} (ho : 0 ≤ o2 ∧ o2 ≤ 5) (hU : ∀ t, inU U n t → (0 ≤ t ∧ t < 60) ∧ w1 (452 + 24 * t + 0) = p t) (h : MrgQ κ U p o2 w1 n x m w) (hx : x < m) : ∃ x' m' w', MrgQ κ U p o2 w1 n x' m' w' ∧ m' - x' = m - x - 1 ∧ LP_229_237 o1 o2 r (x - 0 : Int).toNat x3 (12 + 68 * o2) x (452 + 24 * w (12 + 68 * o2 + 7 + x)) 0 0 w = r x3 (12 + 68 * o2) x' w' := by
  obtain ⟨c1, c2, c3, c4, c5, c6, c7, c8, c9, c10⟩ := h
  have mq : ∀ k, 0 ≤ k → k < m → inU U n (w (12 + 68 * o2 + 7 + k)) := fun k a b => c6 _ ⟨k, a, b, rfl⟩
  have ep : ∀ t, inU U n t → w (452 + 24 * t + 0) = p t := fun t a => by
    have := (hU t a).1
    rw [c9 _ (by omega) (by omega) (by omega)]
    exact (hU t a).2
  rcases lp237 (x1 := o1) (x2 := o2) (x3 := x3) (x4 := 12 + 68 * o2) (x5 := x) (x6 := 452 + 24 * w (12 + 68 * o2 + 7 + x)) (r := r) (w := w) (x - 0 : Int).toNat 0 0 (Or.inl rfl) (by omega) with ⟨i1, -, i3⟩ | ⟨i1, i2⟩
  · refine ⟨x + 1, m, w, ⟨c1, by omega, by omega, c4, c5, c6, c7, fun k a b => ?_, c9, c10⟩, by omega, i1⟩
    by_cases q : k < x
    · exact c8 k a q
    · have e : k = x := by omega
      rw [e]
      refine ⟨mq x c2 hx, fun y y1 y2 => ?_⟩
      obtain ⟨z, z1, z2, z3⟩ := bestS.ex (κ := κ) (p := p) y1
      obtain ⟨l, l0, l1, l2⟩ := c7 z z1
      have l2 : w (12 + 68 * o2 + 7 + l) = z := l2
      by_cases ll : l < x
      · have := i3 l l0 ll
        rw [ep _ (mq l l0 l1), ep _ (mq x c2 hx), l2] at this
        exact absurd (z2.trans y2) this
      · by_cases lx : l = x
        · rw [lx] at l2
          rw [l2]; exact z3
        · have := c5 x l c2 (by omega) l1
          have this : κ (w (12 + 68 * o2 + 7 + x)) < κ (w (12 + 68 * o2 + 7 + l)) := this
          rw [l2] at this
          omega
  · obtain ⟨k0, k1, k2, k3⟩ : ∃ k, 0 ≤ k ∧ k < x ∧ w (452 + 24 * w (12 + 68 * o2 + 7 + k) + 0) = w (452 + 24 * w (12 + 68 * o2 + 7 + x) + 0) := i2.elim (fun z => absurd z (by decide)) id
    rw [ep _ (mq k0 k1 (by omega)), ep _ (mq x c2 hx)] at k3
    have rt := (hU _ (mq x c2 hx)).1
    have nb : ¬ bestS κ p U n (w (12 + 68 * o2 + 7 + x)) := fun z => by
      have y1 := z.2 _ (mq k0 k1 (by omega)) k3
      have y2 := c5 k0 x k1 k2 hx
      have y2 : κ (w (12 + 68 * o2 + 7 + k0)) < κ (w (12 + 68 * o2 + 7 + x)) := y2
      omega
    generalize hX : w (12 + 68 * o2 + 7 + x) = X at *
    generalize hu : ws (ws w (452 + 24 * X + 4) 2) (452 + 24 * X + 3) (w 0) = u at *
    have eu : ∀ i, ¬ i = 452 + 24 * X + 4 → ¬ i = 452 + 24 * X + 3 → u i = w i := fun i a b => by
      rw [← hu, wsn b, wsn a]
    have e5 : u (12 + 68 * o2 + 5) = m := by rw [eu _ (by omega) (by omega)]; exact c1
    obtain ⟨t1, t2, t3⟩ := take220 (o := o2) (p := x) (w := u) c2 (by rw [e5]; omega) (by omega)
    generalize W_220 o2 x u = w' at *
    rw [e5] at t1 t2 t3
    have hr := c5.rem (q' := fun k => w' (12 + 68 * o2 + 7 + k)) ⟨c2, hx⟩ (fun k a b => by show w' _ = _; rw [t3 _ (by omega) (by omega), eu _ (by omega) (by omega)]) (fun k a b => by show w' _ = _; rw [t2 k a b, eu _ (by omega) (by omega), show 12 + 68 * o2 + 7 + k + 1 = 12 + 68 * o2 + 7 + (k + 1) by omega])
    have hr2 : ∀ y, memS (fun k => w' (12 + 68 * o2 + 7 + k)) (m - 1) y ↔ memS (fun k => w (12 + 68 * o2 + 7 + k)) m y ∧ ¬ y = X := by
      intro y
      have := hr.2 y
      rw [this, ← hX]
    have w0 : w 0 = w1 0 := c9 0 (by omega) (by omega) (by omega)
    refine ⟨x, m - 1, w', ⟨t1, c2, by omega, by omega, hr.1, fun t a => c6 t ((hr2 t).1 a).1, fun t a => (hr2 t).2 ⟨c7 t a, fun z => nb (by rw [← z]; exact a)⟩, fun k a b => ?_, fun i a b c => ?_, fun t a b => ?_⟩, by omega, i1⟩
    · rw [t3 _ (by omega) (by omega), eu _ (by omega) (by omega)]
      exact c8 k a b
    · rw [t3 i a (by omega), eu i (by omega) (by omega)]
      exact c9 i a b c
    · rw [hr2, t3 _ (by omega) (by omega), t3 _ (by omega) (by omega)]
      by_cases z : t = X
      · rw [z, ← hu, wse rfl, wsn (by omega), wse rfl]
        refine ⟨fun _ => ⟨w0, rfl⟩, fun y => absurd ⟨?_, fun v => v.2 rfl⟩ y⟩
        have := mq x c2 hx
        rw [hX] at this
        exact this
      · rw [eu _ (by omega) (by omega), eu _ (by omega) (by omega)]
        exact ⟨fun y => (c10 t a b).1 ⟨y.1, fun v => y.2 ⟨v, z⟩⟩, fun y => (c10 t a b).2 (fun v => y ⟨v.1, fun u => v.2 u.1⟩)⟩
theorem loopQ {κ U p : Int → Int} {o1 o2 x3 n : Int} {w1 : Row} (ho : 0 ≤ o2 ∧ o2 ≤ 5) (hU : ∀ t, inU U n t → (0 ≤ t ∧ t < 60) ∧ w1 (452 + 24 * t + 0) = p t) : ∀ (N : Nat) (x m : Int) (w : Row), MrgQ κ U p o2 w1 n x m w → m ≤ x + N → ∃ m', MrgQ κ U p o2 w1 n m' m' (LP_229_199 o1 o2 N x3 (12 + 68 * o2) x w) := by
  have fin : ∀ (r : Int → Int → Int → Row → Row) (x m : Int) (w : Row), MrgQ κ U p o2 w1 n x m w → ¬ x < m → MrgQ κ U p o2 w1 n m m (ST_229_199 o1 o2 r x3 (12 + 68 * o2) x w) := fun r x m w h c => by
    unfold ST_229_199
    rw [h.1, if_neg c]
    have e : x = m := by
      have := h.2.2.1
      omega
    rw [e] at h
    exact h
  intro N
  induction N with
  | zero => intro x m w h c; exact ⟨m, fin _ x m w h (by omega)⟩
  | succ N ih =>
    intro x m w h c
    by_cases z : x < m
    · obtain ⟨x', m', w', g1, g2, g3⟩ := stepQ (o1 := o1) (x3 := x3) (r := LP_229_199 o1 o2 N) ho hU h z
      have e : LP_229_199 o1 o2 (N + 1) x3 (12 + 68 * o2) x w = LP_229_199 o1 o2 N x3 (12 + 68 * o2) x' w' := by
        show ST_229_199 o1 o2 _ x3 (12 + 68 * o2) x w = _
        unfold ST_229_199
        rw [h.1, if_pos z]
        exact g3
      rw [e]
      exact ih x' m' w' g1 (by omega)
    · exact ⟨m, fin _ x m w h z⟩
/-! ===== merge: class and reference agree ===== -/
theorem exRank {U : Int → Int} : ∀ (N : Nat), (∀ i k, 0 ≤ i → i < k → k < (N : Int) → ¬ U i = U k) → ∃ r : Int → Int, ∀ i, 0 ≤ i → i < (N : Int) → r (U i) = i := by
  intro N
  induction N with
  | zero => intro h; exact ⟨fun _ => 0, fun i a b => by omega⟩
  | succ N ih =>
    intro h
    obtain ⟨r, hr⟩ := ih (fun i k a b c => h i k a b (by omega))
    refine ⟨fun t => if t = U N then N else r t, fun i a b => ?_⟩
    show (if U i = U N then (N : Int) else r (U i)) = i
    by_cases q : i = N
    · rw [q, if_pos rfl]
    · rw [if_neg (h i N a (by omega) (by omega))]
      exact hr i a (by omega)
def mgU (o1 o2 : Int) (w : Row) (i : Int) : Int := if i < w (12 + 68 * o2 + 5) then w (12 + 68 * o2 + 7 + i) else w (12 + 68 * o1 + 7 + (i - w (12 + 68 * o2 + 5)))
theorem mgU_lo {o1 o2 i : Int} {w : Row} (h : i < w (12 + 68 * o2 + 5)) : mgU o1 o2 w i = w (12 + 68 * o2 + 7 + i) := by
  unfold mgU
  rw [if_pos h]
theorem mgU_hi {o1 o2 i : Int} {w : Row} (h : 0 ≤ i) : mgU o1 o2 w (w (12 + 68 * o2 + 5) + i) = w (12 + 68 * o1 + 7 + i) := by
  unfold mgU
  rw [if_neg (by omega), show w (12 + 68 * o2 + 5) + i - w (12 + 68 * o2 + 5) = i by omega]
theorem mgU_f {o1 o2 : Int} {w : Row} (hg : GG w) (h1 : 0 ≤ o1 ∧ o1 < w 7) (h2 : 0 ≤ o2 ∧ o2 < w 7) {i : Int} (a : 0 ≤ i) (b : i < w (12 + 68 * o2 + 5) + w (12 + 68 * o1 + 5)) : (0 ≤ mgU o1 o2 w i ∧ mgU o1 o2 w i < w 9) ∧ w (452 + 24 * mgU o1 o2 w i + 4) = 0 ∧ ((i < w (12 + 68 * o2 + 5) ∧ w (452 + 24 * mgU o1 o2 w i + 1) = o2) ∨ (¬ i < w (12 + 68 * o2 + 5) ∧ w (452 + 24 * mgU o1 o2 w i + 1) = o1)) := by
  by_cases q : i < w (12 + 68 * o2 + 5)
  · rw [mgU_lo q]
    have g := hg.2.2.1 o2 h2.1 h2.2 i a q
    exact ⟨g.1, g.2.2.1, Or.inl ⟨q, g.2.1⟩⟩
  · have e := mgU_hi (o1 := o1) (o2 := o2) (i := i - w (12 + 68 * o2 + 5)) (w := w) (by omega)
    rw [show w (12 + 68 * o2 + 5) + (i - w (12 + 68 * o2 + 5)) = i by omega] at e
    rw [e]
    have g := hg.2.2.1 o1 h1.1 h1.2 (i - w (12 + 68 * o2 + 5)) (by omega) (by omega)
    exact ⟨g.1, g.2.2.1, Or.inr ⟨q, g.2.1⟩⟩
theorem mgU_inj {o1 o2 : Int} {w : Row} (hg : GG w) (h1 : 0 ≤ o1 ∧ o1 < w 7) (h2 : 0 ≤ o2 ∧ o2 < w 7) (hne : ¬ o1 = o2) {i k : Int} (a : 0 ≤ i) (b : i < k) (c : k < w (12 + 68 * o2 + 5) + w (12 + 68 * o1 + 5)) : ¬ mgU o1 o2 w i = mgU o1 o2 w k := fun z => by
  obtain ⟨-, -, f1⟩ := mgU_f hg h1 h2 a (by omega : i < _)
  obtain ⟨-, -, f2⟩ := mgU_f hg h1 h2 (by omega : 0 ≤ k) c
  rw [← z] at f2
  by_cases q : k < w (12 + 68 * o2 + 5)
  · rw [mgU_lo q, mgU_lo (by omega)] at z
    have g := (hg.2.2.1 o2 h2.1 h2.2 k (by omega) q).2.2.2 i a b
    exact g.2 (by rw [z])
  · by_cases q2 : i < w (12 + 68 * o2 + 5)
    · omega
    · have e1 := mgU_hi (o1 := o1) (o2 := o2) (i := i - w (12 + 68 * o2 + 5)) (w := w) (by omega)
      have e2 := mgU_hi (o1 := o1) (o2 := o2) (i := k - w (12 + 68 * o2 + 5)) (w := w) (by omega)
      rw [show w (12 + 68 * o2 + 5) + (i - w (12 + 68 * o2 + 5)) = i by omega] at e1
      rw [show w (12 + 68 * o2 + 5) + (k - w (12 + 68 * o2 + 5)) = k by omega] at e2
      rw [e1, e2] at z
      have g := (hg.2.2.1 o1 h1.1 h1.2 (k - w (12 + 68 * o2 + 5)) (by omega) (by omega)).2.2.2 (i - w (12 + 68 * o2 + 5)) (by omega) (by omega)
      exact g.2 (by rw [z])
-- what comes out
def MrgW (κ : Int → Int) (o1 o2 m : Int) (w w' : Row) : Prop :=
  (∀ i, ¬ i = 12 + 68 * o1 + 4 → ¬ i = 12 + 68 * o1 + 5 → ¬ i = 12 + 68 * o2 + 5 → ¬ (12 + 68 * o2 + 7 ≤ i ∧ i < 12 + 68 * o2 + 68) → ¬ (452 ≤ i ∧ i < 1892 ∧ ((i - 452) % 24 = 1 ∨ (i - 452) % 24 = 3 ∨ (i - 452) % 24 = 4)) → w' i = w i)
  ∧ w' (12 + 68 * o1 + 4) = 0 ∧ w' (12 + 68 * o1 + 5) = 0 ∧ w' (12 + 68 * o2 + 5) = m ∧ 0 ≤ m
  ∧ incS κ (fun k => w' (12 + 68 * o2 + 7 + k)) m ∧ (∀ t, memS (fun k => w' (12 + 68 * o2 + 7 + k)) m t ↔ bestS κ (fun t => w (452 + 24 * t + 0)) (mgU o1 o2 w) (w (12 + 68 * o2 + 5) + w (12 + 68 * o1 + 5)) t)
  ∧ (∀ t, 0 ≤ t → t < 60 → (inU (mgU o1 o2 w) (w (12 + 68 * o2 + 5) + w (12 + 68 * o1 + 5)) t → w' (452 + 24 * t + 1) = o2) ∧ (¬ inU (mgU o1 o2 w) (w (12 + 68 * o2 + 5) + w (12 + 68 * o1 + 5)) t → w' (452 + 24 * t + 1) = w (452 + 24 * t + 1)))
  ∧ ∀ t, 0 ≤ t → t < 60 → ((inU (mgU o1 o2 w) (w (12 + 68 * o2 + 5) + w (12 + 68 * o1 + 5)) t ∧ ¬ bestS κ (fun t => w (452 + 24 * t + 0)) (mgU o1 o2 w) (w (12 + 68 * o2 + 5) + w (12 + 68 * o1 + 5)) t) → w' (452 + 24 * t + 3) = w 0 ∧ w' (452 + 24 * t + 4) = 2) ∧ (¬ (inU (mgU o1 o2 w) (w (12 + 68 * o2 + 5) + w (12 + 68 * o1 + 5)) t ∧ ¬ bestS κ (fun t => w (452 + 24 * t + 0)) (mgU o1 o2 w) (w (12 + 68 * o2 + 5) + w (12 + 68 * o1 + 5)) t) → w' (452 + 24 * t + 3) = w (452 + 24 * t + 3) ∧ w' (452 + 24 * t + 4) = w (452 + 24 * t + 4))
def KapM (κ : Int → Int) (o1 o2 : Int) (w : Row) : Prop := ∀ n i, 0 ≤ i → i < n → n < w (12 + 68 * o2 + 5) + w (12 + 68 * o1 + 5) → ¬ κ (mgU o1 o2 w i) = κ (mgU o1 o2 w n) ∧ (κ (mgU o1 o2 w i) < κ (mgU o1 o2 w n) ↔ w (452 + 24 * mgU o1 o2 w i + 2) ≤ w (452 + 24 * mgU o1 o2 w n + 2))
theorem exKap {o1 o2 : Int} {w : Row} (hg : GG w) (h1 : 0 ≤ o1 ∧ o1 < w 7) (h2 : 0 ≤ o2 ∧ o2 < w 7) (hne : ¬ o1 = o2) : ∃ κ, KapM κ o1 o2 w := by
  have n7 := hg.1.1
  have a1 := (hg.2.1 o1 h1.1 h1.2).2.2.2.2.1
  have a2 := (hg.2.1 o2 h2.1 h2.2).2.2.2.2.1
  obtain ⟨r, hr⟩ := exRank (U := mgU o1 o2 w) (w (12 + 68 * o2 + 5) + w (12 + 68 * o1 + 5)).toNat (fun i k a b c => mgU_inj hg h1 h2 hne a b (by omega))
  refine ⟨fun t => w (452 + 24 * t + 2) * 64 + r t, fun n i a b c => ?_⟩
  have e1 := hr i a (by omega)
  have e2 := hr n (by omega) (by omega)
  show ¬ w (452 + 24 * mgU o1 o2 w i + 2) * 64 + r (mgU o1 o2 w i) = w (452 + 24 * mgU o1 o2 w n + 2) * 64 + r (mgU o1 o2 w n) ∧ (w (452 + 24 * mgU o1 o2 w i + 2) * 64 + r (mgU o1 o2 w i) < w (452 + 24 * mgU o1 o2 w n + 2) * 64 + r (mgU o1 o2 w n) ↔ w (452 + 24 * mgU o1 o2 w i + 2) ≤ w (452 + 24 * mgU o1 o2 w n + 2))
  rw [e1, e2]
  omega
theorem startQ {κ : Int → Int} {o1 o2 : Int} {w : Row} (hg : GG w) (h1 : 0 ≤ o1 ∧ o1 < w 7) (h2 : 0 ≤ o2 ∧ o2 < w 7) (hκ : KapM κ o1 o2 w) : incS κ (fun k => w (12 + 68 * o2 + 7 + k)) (w (12 + 68 * o2 + 5)) ∧ (∀ t, memS (fun k => w (12 + 68 * o2 + 7 + k)) (w (12 + 68 * o2 + 5)) t ↔ inU (mgU o1 o2 w) (w (12 + 68 * o2 + 5)) t) ∧ ∀ t, inU (mgU o1 o2 w) (w (12 + 68 * o2 + 5)) t → bestS κ (fun t => w (452 + 24 * t + 0)) (mgU o1 o2 w) (w (12 + 68 * o2 + 5)) t := by
  have a1 := (hg.2.1 o1 h1.1 h1.2).2.2.2.2.1
  have gq := hg.2.2.1 o2 h2.1 h2.2
  refine ⟨fun i k a b c => ?_, fun t => ⟨?_, ?_⟩, ?_⟩
  · have y := (hκ k i a b (by omega)).2
    rw [mgU_lo c, mgU_lo (by omega)] at y
    exact y.2 ((gq k (by omega) c).2.2.2 i a b).1
  · rintro ⟨k, a, b, c⟩
    exact ⟨k, a, b, by rw [mgU_lo b]; exact c⟩
  · rintro ⟨k, a, b, c⟩
    rw [mgU_lo b] at c
    exact ⟨k, a, b, c⟩
  · rintro t ⟨k, a, b, c⟩
    refine ⟨⟨k, a, b, c⟩, ?_⟩
    rintro x ⟨i, i0, i1, i2⟩ e
    rw [mgU_lo b] at c
    rw [mgU_lo i1] at i2
    have e : w (452 + 24 * x + 0) = w (452 + 24 * t + 0) := e
    rw [← c, ← i2] at e
    by_cases q : i < k
    · exact absurd e ((gq k a b).2.2.2 i i0 q).2
    · by_cases q2 : k < i
      · exact absurd e.symm ((gq i i0 i1).2.2.2 k a q2).2
      · have z : i = k := by omega
        rw [← c, ← i2, z]
        omega
theorem mergeW {κ : Int → Int} {o1 o2 : Int} {w : Row} (hg : GG w) (h1 : 0 ≤ o1 ∧ o1 < w 7) (h2 : 0 ≤ o2 ∧ o2 < w 7) (hne : ¬ o1 = o2) (hκ : KapM κ o1 o2 w) : ∃ m, MrgW κ o1 o2 m w (W_229 o1 o2 w) := by
  have n7 := hg.1.1
  have n9 := hg.1.2.2.1
  have a1 := (hg.2.1 o1 h1.1 h1.2).2.2.2.2.1
  have a2 := (hg.2.1 o2 h2.1 h2.2).2.2.2.2.1
  obtain ⟨s1, s2, s3⟩ := startQ hg h1 h2 hκ
  have hf : ∀ t, inU (mgU o1 o2 w) (w (12 + 68 * o2 + 5) + w (12 + 68 * o1 + 5)) t → 0 ≤ t ∧ t < 60 := by
    rintro t ⟨i, i0, i1, i2⟩
    have := (mgU_f hg h1 h2 i0 i1).1
    rw [i2] at this
    omega
  have hoff : ∀ t, inU (mgU o1 o2 w) (w (12 + 68 * o2 + 5)) t → w (452 + 24 * t + 1) = o2 := by
    rintro t ⟨i, i0, i1, i2⟩
    have := (mgU_f hg h1 h2 i0 (by omega)).2.2
    rw [i2] at this
    omega
  generalize hz : ws w (12 + 68 * o1 + 4) 0 = wz
  have ez : ∀ i, ¬ i = 12 + 68 * o1 + 4 → wz i = w i := fun i a => by rw [← hz]; exact wsn a
  have ez4 : wz (12 + 68 * o1 + 4) = 0 := by rw [← hz]; exact wse rfl
  have st : MR κ (mgU o1 o2 w) o2 wz (w (12 + 68 * o2 + 5) + 0) wz := by
    rw [Int.add_zero]
    refine ⟨ez _ (by omega), fun i k a b c => ?_, fun t => ?_, fun i _ _ _ => rfl, fun t a b => ⟨fun u => ?_, fun _ => rfl⟩⟩
    · show κ (wz _) < κ (wz _)
      rw [ez _ (by omega), ez _ (by omega)]
      exact s1 i k a b c
    · rw [← s2]
      constructor
      · rintro ⟨k, a, b, c⟩
        have c : wz (12 + 68 * o2 + 7 + k) = t := c
        rw [ez _ (by omega)] at c
        exact ⟨k, a, b, c⟩
      · rintro ⟨k, a, b, c⟩
        refine ⟨k, a, b, ?_⟩
        show wz _ = _
        rw [ez _ (by omega)]
        exact c
    · rw [ez _ (by omega)]
      exact hoff t u
  obtain ⟨w1, r1, r2⟩ := loopR (a := w (12 + 68 * o2 + 5)) (b := w (12 + 68 * o1 + 5)) (w0 := wz) ⟨h1.1, by omega⟩ ⟨h2.1, by omega⟩ hne a2 a1 (ez _ (by omega)) (fun x x0 x1 => by rw [ez _ (by omega), mgU_hi x0]) (by
    rintro n nn n1 x ⟨i, i0, i1, i2⟩
    have y := hκ n i i0 i1 n1
    have f1 := (mgU_f hg h1 h2 i0 (by omega)).1
    have f2 := (mgU_f hg h1 h2 (by omega : 0 ≤ n) n1).1
    rw [i2] at y f1
    rw [ez _ (by omega), ez _ (by omega)]
    exact y) hf 61 0 wz (by omega) a1.1 (by omega) st
  obtain ⟨c1, c2, c3, c4, c5⟩ := id r1
  generalize hu : ws w1 (12 + 68 * o1 + 5) 0 = u at *
  have eu : ∀ i, ¬ i = 12 + 68 * o1 + 5 → u i = w1 i := fun i a => by rw [← hu]; exact wsn a
  have eu5 : u (12 + 68 * o1 + 5) = 0 := by rw [← hu]; exact wse rfl
  have eq : ∀ k, 0 ≤ k → k < w (12 + 68 * o2 + 5) + w (12 + 68 * o1 + 5) → u (12 + 68 * o2 + 7 + k) = w1 (12 + 68 * o2 + 7 + k) := fun k a b => eu _ (by omega)
  have stq : MrgQ κ (mgU o1 o2 w) (fun t => w (452 + 24 * t + 0)) o2 u (w (12 + 68 * o2 + 5) + w (12 + 68 * o1 + 5)) 0 (w (12 + 68 * o2 + 5) + w (12 + 68 * o1 + 5)) u := by
    have mm : ∀ t, memS (fun k => u (12 + 68 * o2 + 7 + k)) (w (12 + 68 * o2 + 5) + w (12 + 68 * o1 + 5)) t ↔ inU (mgU o1 o2 w) (w (12 + 68 * o2 + 5) + w (12 + 68 * o1 + 5)) t := fun t => by
      rw [← c3]
      constructor
      · rintro ⟨k, a, b, c⟩
        have c : u (12 + 68 * o2 + 7 + k) = t := c
        rw [eq k a b] at c
        exact ⟨k, a, b, c⟩
      · rintro ⟨k, a, b, c⟩
        refine ⟨k, a, b, ?_⟩
        show u _ = _
        rw [eq k a b]
        exact c
    refine ⟨by rw [eu _ (by omega)]; exact c1, by omega, by omega, by omega, fun i k a b c => ?_, fun t => (mm t).1, fun t a => (mm t).2 a.1, fun k a b => by omega, fun i _ _ _ => rfl, fun t a b => ⟨fun x => absurd ((mm t).2 x.1) x.2, fun _ => ⟨rfl, rfl⟩⟩⟩
    show κ (u _) < κ (u _)
    rw [eq i a (by omega), eq k (by omega) c]
    exact c2 i k a b c
  obtain ⟨m, q⟩ := loopQ (o1 := o1) (x3 := 12 + 68 * o1) ⟨h2.1, by omega⟩ (fun t a => by
    have y := hf t a
    refine ⟨y, ?_⟩
    rw [eu _ (by omega), c4 _ (by omega) (by omega) (by omega), ez _ (by omega)]) (w (12 + 68 * o2 + 5) + w (12 + 68 * o1 + 5)).toNat 0 (w (12 + 68 * o2 + 5) + w (12 + 68 * o1 + 5)) u stq (by omega)
  have eW : W_229 o1 o2 w = LP_229_199 o1 o2 (w (12 + 68 * o2 + 5) + w (12 + 68 * o1 + 5)).toNat (12 + 68 * o1) (12 + 68 * o2) 0 u := by
    unfold W_229
    rw [hz]
    exact r2
  rw [eW]
  generalize LP_229_199 o1 o2 (w (12 + 68 * o2 + 5) + w (12 + 68 * o1 + 5)).toNat (12 + 68 * o1) (12 + 68 * o2) 0 u = w' at *
  obtain ⟨q1, q2, q3, q4, q5, q6, q7, q8, q9, q10⟩ := q
  have mb : ∀ t, memS (fun k => w' (12 + 68 * o2 + 7 + k)) m t ↔ bestS κ (fun t => w (452 + 24 * t + 0)) (mgU o1 o2 w) (w (12 + 68 * o2 + 5) + w (12 + 68 * o1 + 5)) t := fun t => by
    refine ⟨?_, q7 t⟩
    rintro ⟨k, a, b, c⟩
    have := q8 k a b
    have c : w' (12 + 68 * o2 + 7 + k) = t := c
    rw [c] at this
    exact this
  refine ⟨m, fun i x1 x2 x3 x4 x5 => ?_, ?_, ?_, q1, q2, q5, mb, fun t a b => ?_, fun t a b => ?_⟩
  · rw [q9 i x3 x4 (by omega), eu i x2, c4 i x3 x4 (by omega), ez i x1]
  · rw [q9 _ (by omega) (by omega) (by omega), eu _ (by omega), c4 _ (by omega) (by omega) (by omega)]
    exact ez4
  · rw [q9 _ (by omega) (by omega) (by omega)]
    exact eu5
  · rw [q9 _ (by omega) (by omega) (by omega), eu _ (by omega)]
    have := c5 t a b
    rw [ez _ (by omega)] at this
    exact this
  · have := q10 t a b
    rw [mb, eu 0 (by omega), c4 0 (by omega) (by omega) (by omega), ez 0 (by omega), eu _ (by omega), eu _ (by omega), c4 _ (by omega) (by omega) (by omega), c4 _ (by omega) (by omega) (by omega), ez _ (by omega), ez _ (by omega)] at this
    exact this
theorem mergeD {κ : Int → Int} {s o1 o2 : Int} {d : mD} {w : Row} (hg : GG w) (h : Rel s d w) (h1 : 0 ≤ o1 ∧ o1 < w 7) (h2 : 0 ≤ o2 ∧ o2 < w 7) (hne : ¬ o1 = o2) (hκ : KapM κ o1 o2 w) : ∃ m d1, MC κ (mgU o1 o2 w) (fun t => w (452 + 24 * t + 0)) s o2 (w 0) d (w (12 + 68 * o2 + 5) + w (12 + 68 * o1 + 5)) m d1 ∧ g_63 s o1 o2 d = mset (mset d1 (s + 8) o1 0) (s + 7) o1 0 := by
  have n7 := hg.1.1
  have n8 := hg.1.2.1
  have n9 := hg.1.2.2.1
  have a1 := (hg.2.1 o1 h1.1 h1.2).2.2.2.2.1
  have a2 := (hg.2.1 o2 h2.1 h2.2).2.2.2.2.1
  obtain ⟨rA, rO, rQ, rP, rT, rC, rK, rR, rB, rH⟩ := id h
  obtain ⟨s1, s2, s3⟩ := startQ hg h1 h2 hκ
  have hf : ∀ t, inU (mgU o1 o2 w) (w (12 + 68 * o2 + 5) + w (12 + 68 * o1 + 5)) t → 0 ≤ t ∧ t < w 9 := by
    rintro t ⟨i, i0, i1, i2⟩
    have := (mgU_f hg h1 h2 i0 i1).1
    rw [i2] at this
    exact this
  have hoff : ∀ t, inU (mgU o1 o2 w) (w (12 + 68 * o2 + 5)) t → w (452 + 24 * t + 1) = o2 := by
    rintro t ⟨i, i0, i1, i2⟩
    have := (mgU_f hg h1 h2 i0 (by omega)).2.2
    rw [i2] at this
    omega
  have eq : ∀ k, 0 ≤ k → k < w (12 + 68 * o2 + 5) → d (s + 9) (o2 * 16 + k) = w (12 + 68 * o2 + 7 + k) := fun k a b => rQ o2 h2.1 h2.2 k a b
  have st : MC κ (mgU o1 o2 w) (fun t => w (452 + 24 * t + 0)) s o2 (w 0) d (w (12 + 68 * o2 + 5) + 0) (w (12 + 68 * o2 + 5)) d := by
    rw [Int.add_zero]
    refine ⟨fun b _ _ _ _ _ => rfl, fun o _ => rfl, (rO.2 o2 h2.1 h2.2).2.2.2.2.2, fun i _ => rfl, a2.1, fun i k a b c => ?_, fun t => ?_, fun t => ⟨fun u => ?_, fun _ => rfl⟩, fun t => ⟨fun u => absurd (s3 t u.1) u.2, fun _ => ⟨rfl, rfl⟩⟩⟩
    · show κ (d (s + 9) _) < κ (d (s + 9) _)
      rw [eq i a (by omega), eq k (by omega) c]
      exact s1 i k a b c
    · have e1 : memS (fun k => d (s + 9) (o2 * 16 + k)) (w (12 + 68 * o2 + 5)) t ↔ memS (fun k => w (12 + 68 * o2 + 7 + k)) (w (12 + 68 * o2 + 5)) t := by
        constructor
        · rintro ⟨k, a, b, c⟩
          have c : d (s + 9) (o2 * 16 + k) = t := c
          rw [eq k a b] at c
          exact ⟨k, a, b, c⟩
        · rintro ⟨k, a, b, c⟩
          refine ⟨k, a, b, ?_⟩
          show d (s + 9) _ = _
          rw [eq k a b]
          exact c
      rw [e1, s2]
      exact ⟨s3 t, fun y => y.1⟩
    · have y : 0 ≤ t ∧ t < w 9 := by
        obtain ⟨i, i0, i1, i2⟩ := u
        exact hf t ⟨i, i0, by omega, i2⟩
      rw [(rT.2 t y.1 y.2).2.1]
      exact hoff t u
  have hl := loopC (p := fun t => w (452 + 24 * t + 0)) (j := fun t => w (452 + 24 * t + 2)) (T := w 0) (o2 := o2) a2.1 a1 hne (rO.2 o1 h1.1 h1.2).2.2.2.2.2 (fun x x0 x1 => by rw [mgU_hi x0]; exact rQ o1 h1.1 h1.2 x x0 x1) (by
    rintro n nn n1 x ⟨i, i0, i1, i2⟩
    have y := hκ n i i0 i1 n1
    rw [i2] at y
    exact y) (fun x u => by
      have y := hf x u
      have g := (hg.2.2.2.1 x y.1 y.2).1
      have e := rT.2 x y.1 y.2
      exact ⟨e.1, e.2.2.1, g.1, by omega⟩) rA.2.1 16 0 (w (12 + 68 * o2 + 5)) d (by omega) a1.1 (by omega) st
  exact hl
/-! ===== merge: the relation behind it ===== -/
theorem merge {s o1 o2 : Int} {d : mD} {w : Row} (hg : GG w) (h : Rel s d w) (h1 : 0 ≤ o1 ∧ o1 < w 7) (h2 : 0 ≤ o2 ∧ o2 < w 7) (hne : ¬ o1 = o2) (hp2 : w (12 + 68 * o2 + 4) = 1) : GG (W_229 o1 o2 w) ∧ Rel s (g_63 s o1 o2 d) (W_229 o1 o2 w) ∧ ∀ i, ¬ (12 ≤ i ∧ i < 420) → ¬ (452 ≤ i ∧ i < 1892 ∧ ((i - 452) % 24 = 1 ∨ (i - 452) % 24 = 3 ∨ (i - 452) % 24 = 4)) → W_229 o1 o2 w i = w i := by
  obtain ⟨κ, hκ⟩ := exKap hg h1 h2 hne
  obtain ⟨m, w1, w2, w3, w4, w5, w6, w7, w8, w9⟩ := mergeW hg h1 h2 hne hκ
  obtain ⟨mc, d1, ⟨c1, c2, c3, c4, c5, c6, c7, c8, c9⟩, hd⟩ := mergeD hg h h1 h2 hne hκ
  rw [hd]
  have hu : ∀ i, 0 ≤ i → i < w (12 + 68 * o2 + 5) + w (12 + 68 * o1 + 5) → _ := fun i a b => mgU_f hg h1 h2 a b (i := i)
  have hlo : ∀ k, 0 ≤ k → k < w (12 + 68 * o2 + 5) → mgU o1 o2 w k = w (12 + 68 * o2 + 7 + k) := fun k a b => mgU_lo b
  have hhi : ∀ k, 0 ≤ k → k < w (12 + 68 * o1 + 5) → mgU o1 o2 w (w (12 + 68 * o2 + 5) + k) = w (12 + 68 * o1 + 7 + k) := fun k a b => mgU_hi a
  have hκj : ∀ i n, 0 ≤ i → i < w (12 + 68 * o2 + 5) + w (12 + 68 * o1 + 5) → 0 ≤ n → n < w (12 + 68 * o2 + 5) + w (12 + 68 * o1 + 5) → κ (mgU o1 o2 w i) < κ (mgU o1 o2 w n) → w (452 + 24 * mgU o1 o2 w i + 2) ≤ w (452 + 24 * mgU o1 o2 w n + 2) := fun i n i0 i1 n0 n1 z => by
    by_cases q : i < n
    · exact (hκ n i i0 q n1).2.1 z
    · by_cases q2 : n < i
      · have y := hκ i n n0 q2 i1
        by_cases q3 : w (452 + 24 * mgU o1 o2 w n + 2) ≤ w (452 + 24 * mgU o1 o2 w i + 2)
        · have := y.2.2 q3
          omega
        · omega
      · have e : i = n := by omega
        rw [e]
        omega
  generalize W_229 o1 o2 w = w' at *
  generalize hUU : mgU o1 o2 w = U at *
  generalize hN0 : w (12 + 68 * o2 + 5) + w (12 + 68 * o1 + 5) = N at *
  obtain ⟨hN, hO, hQ, hT, hC, hK, hR⟩ := id hg
  obtain ⟨n7, n8, n9, n10, n11, n0, n1, n2, n3, n4, n5, n6⟩ := id hN
  obtain ⟨rA, ⟨ro1, ro2⟩, rQ, rP, ⟨rt1, rt2⟩, rC, rK, rR, rB, rH⟩ := id h
  have a1 := (hO o1 h1.1 h1.2).2.2.2.2.1
  have a2 := (hO o2 h2.1 h2.2).2.2.2.2.1
  have uf : ∀ t, inU U N t → (0 ≤ t ∧ t < w 9) ∧ w (452 + 24 * t + 4) = 0 ∧ (w (452 + 24 * t + 1) = o1 ∨ w (452 + 24 * t + 1) = o2) := by
    rintro t ⟨i, i0, i1, i2⟩
    have y := hu i i0 i1
    rw [i2] at y
    exact ⟨y.1, y.2.1, y.2.2.elim (fun z => Or.inr z.2) (fun z => Or.inl z.2)⟩
  have uj : ∀ x y, inU U N x → inU U N y → κ x < κ y → w (452 + 24 * x + 2) ≤ w (452 + 24 * y + 2) := by
    rintro x y ⟨i, i0, i1, i2⟩ ⟨k, k0, k1, k2⟩ z
    rw [← i2, ← k2] at z ⊢
    exact hκj i k i0 i1 k0 k1 z
  have qb : ∀ k, 0 ≤ k → k < m → bestS κ (fun t => w (452 + 24 * t + 0)) U N (w' (12 + 68 * o2 + 7 + k)) := fun k a b => (w7 _).1 ⟨k, a, b, rfl⟩
  have qp : ∀ k i, 0 ≤ i → i < k → k < m → ¬ w (452 + 24 * w' (12 + 68 * o2 + 7 + i) + 0) = w (452 + 24 * w' (12 + 68 * o2 + 7 + k) + 0) := fun k i a b c => bestS.one (p := fun t => w (452 + 24 * t + 0)) (q := fun k => w' (12 + 68 * o2 + 7 + k)) w6 w7 a b c
  have m16 : m ≤ 16 := pig16 (f := fun k => w (452 + 24 * w' (12 + 68 * o2 + 7 + k) + 0)) (fun k a b => by
    have y := (uf _ (qb k a b).1).1
    have z := (hT _ y.1 y.2).1
    exact ⟨z.1, by omega⟩) qp
  have ext := incS.ext (f := fun k => d1 (s + 9) (o2 * 16 + k)) (g := fun k => w' (12 + 68 * o2 + 7 + k)) c6 w6 (fun t => (c7 t).trans (w7 t).symm) c5 w5
  have e : ∀ i, ¬ (12 ≤ i ∧ i < 420) → ¬ (452 ≤ i ∧ i < 1892 ∧ ((i - 452) % 24 = 1 ∨ (i - 452) % 24 = 3 ∨ (i - 452) % 24 = 4)) → w' i = w i := fun i x y => w1 i (by omega) (by omega) (by omega) (by omega) y
  have eo : ∀ o k, 0 ≤ o → o < w 7 → ¬ o = o1 → ¬ o = o2 → 0 ≤ k → k < 68 → w' (12 + 68 * o + k) = w (12 + 68 * o + k) := fun o k x y z u a b => w1 _ (by omega) (by omega) (by omega) (by omega) (by omega)
  have e7 : w' 7 = w 7 := e 7 (by omega) (by omega)
  have e9 : w' 9 = w 9 := e 9 (by omega) (by omega)
  have e0 : w' 0 = w 0 := e 0 (by omega) (by omega)
  have et : ∀ t k, 0 ≤ t → t < w 9 → (k = 0 ∨ k = 2 ∨ k = 5 ∨ k = 6 ∨ k = 7) → w' (452 + 24 * t + k) = w (452 + 24 * t + k) := fun t k a b c => e _ (by omega) (by omega)
  have no : ∀ t, 0 ≤ t → t < w 9 → ¬ inU U N t → w' (452 + 24 * t + 1) = w (452 + 24 * t + 1) ∧ w' (452 + 24 * t + 3) = w (452 + 24 * t + 3) ∧ w' (452 + 24 * t + 4) = w (452 + 24 * t + 4) := fun t a b c => by
    have y := (w9 t a (by omega)).2 (fun z => c z.1)
    exact ⟨(w8 t a (by omega)).2 c, y.1, y.2⟩
  have wait : ∀ t, 0 ≤ t → t < w 9 → w (452 + 24 * t + 4) = 0 → (w (452 + 24 * t + 1) = o1 ∨ w (452 + 24 * t + 1) = o2) → inU U N t := fun t a b c f => by
    obtain ⟨-, k, k0, k1, k2⟩ := (hT t a b).2.2.2.2.1 c
    rcases f with f | f
    · rw [f] at k1 k2
      exact ⟨w (12 + 68 * o2 + 5) + k, by omega, by omega, by rw [hhi k k0 k1]; exact k2⟩
    · rw [f] at k1 k2
      exact ⟨k, k0, by omega, by rw [hlo k k0 k1]; exact k2⟩
  have cl : ∀ o k, 0 ≤ o → o < w 7 → k = 0 ∨ k = 1 ∨ k = 2 ∨ k = 3 ∨ k = 6 → w' (12 + 68 * o + k) = w (12 + 68 * o + k) := fun o k a b c => w1 _ (by omega) (by omega) (by omega) (by omega) (by omega)
  have op : ∀ o, 0 ≤ o → o < w 7 → ¬ o = o1 → w' (12 + 68 * o + 4) = w (12 + 68 * o + 4) := fun o a b c => w1 _ (by omega) (by omega) (by omega) (by omega) (by omega)
  have fd : ∀ b, ¬ b = s + 7 → ¬ b = s + 8 → ¬ b = s + 9 → ¬ b = s + 51 → ¬ b = s + 53 → ¬ b = s + 54 → mset (mset d1 (s + 8) o1 0) (s + 7) o1 0 b = d b := fun b x1 x2 x3 x4 x5 x6 => by
    rw [← c1 b x2 x3 x4 x5 x6]
    funext k
    simp (disch := omega) only [ms_a]
  have fk : ∀ b, ¬ b = s + 7 → ¬ b = s + 8 → mset (mset d1 (s + 8) o1 0) (s + 7) o1 0 b = d1 b := fun b x1 x2 => by
    funext k
    simp (disch := omega) only [ms_a]
  have hN' : GN w' := hN.k (fun i hi => e i (by omega) (by omega))
  refine ⟨⟨hN', fun o x y => ?_, fun o x y k u v => ?_, fun t x y => ?_, fun t x y => ?_, hK.k (fun i hi => e i (by omega) (by omega)) hN, hR.k (fun i hi => e i (by omega) (by omega)) hN⟩, ⟨rA.k (fun b x => fd b (by omega) (by omega) (by omega) (by omega) (by omega) (by omega)) (fun i hi => e i (by omega) (by omega)), ⟨?_, fun o x y => ?_⟩, fun o x y k u v => ?_, rP.k (fun b x y => fd b (by omega) (by omega) (by omega) (by omega) (by omega) (by omega)) (fun i hi => e i (by omega) (by omega)) n8, ⟨?_, fun t x y => ?_⟩, rC.k (fun b x => fd b (by omega) (by omega) (by omega) (by omega) (by omega) (by omega)) (fun i hi => e i (by omega) (by omega)) n9, rK.k (by rw [fd _ (by omega) (by omega) (by omega) (by omega) (by omega) (by omega)]) (fun b x y => fd b (by omega) (by omega) (by omega) (by omega) (by omega) (by omega)) (fun i hi => e i (by omega) (by omega)) n10, rR.k (by rw [fd _ (by omega) (by omega) (by omega) (by omega) (by omega) (by omega)]) (fd _ (by omega) (by omega) (by omega) (by omega) (by omega) (by omega)) (fun i hi => e i (by omega) (by omega)) n11, rB.k (fun b x y => fd b (by omega) (by omega) (by omega) (by omega) (by omega) (by omega)) (fun i hi => e i (by omega) (by omega)) n8 n9 n10 hK.of, rH.k (fun b x y => fd b (by omega) (by omega) (by omega) (by omega) (by omega) (by omega)) (fun i hi => e i (by omega) (by omega)) n8 n9 n10 hK.of⟩, e⟩
  · rw [e7] at y
    have g := hO o x y
    have cs : csum (fun t => if w' (452 + 24 * t + 4) = 1 ∧ w' (452 + 24 * t + 1) = o then (1 : Int) else 0) (w' 9).toNat = csum (fun t => if w (452 + 24 * t + 4) = 1 ∧ w (452 + 24 * t + 1) = o then 1 else 0) (w 9).toNat := by
      rw [e9]
      refine csum_congr (fun t a b => ?_)
      have tb : t < w 9 := by omega
      by_cases q : inU U N t
      · have z := (uf t q).2.1
        have z4 : ¬ w' (452 + 24 * t + 4) = 1 := by
          by_cases q2 : bestS κ (fun t => w (452 + 24 * t + 0)) U N t
          · have := ((w9 t a (by omega)).2 (fun z => z.2 q2)).2
            omega
          · have := ((w9 t a (by omega)).1 ⟨q, q2⟩).2
            omega
        have z5 : ¬ (w' (452 + 24 * t + 4) = 1 ∧ w' (452 + 24 * t + 1) = o) := fun u => z4 u.1
        have z6 : ¬ (w (452 + 24 * t + 4) = 1 ∧ w (452 + 24 * t + 1) = o) := fun u => by omega
        simp only [if_neg z5, if_neg z6]
      · have z := no t a tb q
        rw [z.1, z.2.2]
    rw [cs, cl o 1 x y (by omega), cl o 2 x y (by omega), cl o 3 x y (by omega), cl o 6 x y (by omega)]
    by_cases q : o = o1
    · rw [q] at g ⊢
      rw [w2, w3]
      exact ⟨g.1, g.2.1, g.2.2.1, Or.inl rfl, by omega, fun _ => rfl, g.2.2.2.2.2.2⟩
    · rw [op o x y q]
      by_cases q2 : o = o2
      · rw [q2] at g ⊢
        rw [w4]
        exact ⟨g.1, g.2.1, g.2.2.1, g.2.2.2.1, by omega, fun z => by omega, g.2.2.2.2.2.2⟩
      · rw [eo o 5 x y q q2 (by omega) (by omega)]
        exact g
  · rw [e7] at y
    rw [e9]
    by_cases q : o = o1
    · rw [q, w3] at v
      omega
    · by_cases q2 : o = o2
      · rw [q2] at v ⊢
        rw [w4] at v
        have b := qb k u v
        have f := uf _ b.1
        refine ⟨f.1, (w8 _ f.1.1 (by omega)).1 b.1, ?_, fun i i0 i1 => ?_⟩
        · rw [((w9 _ f.1.1 (by omega)).2 (fun z => z.2 b)).2]
          exact f.2.1
        · have bi := qb i i0 (by omega)
          have fi := uf _ bi.1
          rw [et _ 2 fi.1.1 fi.1.2 (by omega), et _ 2 f.1.1 f.1.2 (by omega), et _ 0 fi.1.1 fi.1.2 (by omega), et _ 0 f.1.1 f.1.2 (by omega)]
          exact ⟨uj _ _ bi.1 b.1 (w6 i k i0 i1 v), qp k i i0 i1 v⟩
      · rw [eo o 5 x y q q2 (by omega) (by omega)] at v
        have lo := (hO o x y).2.2.2.2.1
        have g := hQ o x y k u v
        have eq : ∀ i, 0 ≤ i → i < w (12 + 68 * o + 5) → w' (12 + 68 * o + 7 + i) = w (12 + 68 * o + 7 + i) := fun i a b => by
          have := eo o (7 + i) x y q q2 (by omega) (by omega)
          rw [show 12 + 68 * o + 7 + i = 12 + 68 * o + (7 + i) by omega]
          exact this
        have nu : ∀ i, 0 ≤ i → i < w (12 + 68 * o + 5) → ¬ inU U N (w (12 + 68 * o + 7 + i)) := fun i a b z => by
          have f := (uf _ z).2.2
          have gi := (hQ o x y i a b).2.1
          omega
        have z := no _ g.1.1 g.1.2 (nu k u v)
        rw [eq k u v, z.1, z.2.2, et _ 2 g.1.1 g.1.2 (by omega), et _ 0 g.1.1 g.1.2 (by omega)]
        refine ⟨g.1, g.2.1, g.2.2.1, fun i i0 i1 => ?_⟩
        have gi := hQ o x y i i0 (by omega)
        rw [eq i i0 (by omega), et _ 2 gi.1.1 gi.1.2 (by omega), et _ 0 gi.1.1 gi.1.2 (by omega)]
        exact g.2.2.2 i i0 i1
  · rw [e9] at y
    have g := hT t x y
    rw [et t 0 x y (by omega), et t 2 x y (by omega), e0, e7, e 8 (by omega) (by omega)]
    by_cases q : inU U N t
    · have f := uf t q
      rw [(w8 t x (by omega)).1 q]
      by_cases q2 : bestS κ (fun t => w (452 + 24 * t + 0)) U N t
      · have z := (w9 t x (by omega)).2 (fun z => z.2 q2)
        rw [z.1, z.2]
        obtain ⟨k, k0, k1, k2⟩ := (w7 t).2 q2
        refine ⟨g.1, h2, g.2.2.1, g.2.2.2.1, fun u => ⟨(g.2.2.2.2.1 u).1, k, k0, by rw [w4]; exact k1, k2⟩, g.2.2.2.2.2⟩
      · have z := (w9 t x (by omega)).1 ⟨q, q2⟩
        rw [z.1, z.2]
        exact ⟨g.1, h2, g.2.2.1, by omega, fun u => by omega, fun _ => by omega⟩
    · have z := no t x y q
      rw [z.1, z.2.1, z.2.2]
      refine ⟨g.1, g.2.1, g.2.2.1, g.2.2.2.1, fun u => ?_, g.2.2.2.2.2⟩
      obtain ⟨g1, k, k0, k1, k2⟩ := g.2.2.2.2.1 u
      have ne1 : ¬ w (452 + 24 * t + 1) = o1 := fun z => q (wait t x y u (Or.inl z))
      have ne2 : ¬ w (452 + 24 * t + 1) = o2 := fun z => q (wait t x y u (Or.inr z))
      have lo := (hO _ g.2.1.1 g.2.1.2).2.2.2.2.1
      refine ⟨g1, k, k0, ?_, ?_⟩
      · rw [eo _ 5 g.2.1.1 g.2.1.2 ne1 ne2 (by omega) (by omega)]
        exact k1
      · rw [show 12 + 68 * w (452 + 24 * t + 1) + 7 + k = 12 + 68 * w (452 + 24 * t + 1) + (7 + k) by omega, eo _ (7 + k) g.2.1.1 g.2.1.2 ne1 ne2 (by omega) (by omega)]
        rw [show 12 + 68 * w (452 + 24 * t + 1) + 7 + k = 12 + 68 * w (452 + 24 * t + 1) + (7 + k) by omega] at k2
        exact k2
  · rw [e9] at y
    have g := hC t x y
    rw [et t 5 x y (by omega), et t 6 x y (by omega), e0]
    have wi : ∀ p, 0 ≤ p → p < 16 → 0 ≤ w' (452 + 24 * t + 8 + p) ∧ w' (452 + 24 * t + 8 + p) ≤ w 0 + 1 := fun p a b => by
      rw [e (452 + 24 * t + 8 + p) (by omega) (by omega)]
      exact g.2.2.2.2 p a b
    by_cases q : inU U N t
    · have f := (uf t q).2.1
      have g5 : ¬ w (452 + 24 * t + 5) = 1 := fun z => by
        have := g.2.2.2.1 z
        omega
      exact ⟨g.1, g.2.1, fun z => absurd (g.2.2.1 z).1 g5, fun z => absurd z g5, wi⟩
    · have z := no t x y q
      rw [z.2.1, z.2.2]
      exact ⟨g.1, g.2.1, g.2.2.1, g.2.2.2.1, wi⟩
  · rw [fd _ (by omega) (by omega) (by omega) (by omega) (by omega) (by omega), e7]
    exact ro1
  · rw [e7] at y
    have g := ro2 o x y
    rw [fd (s + 3) (by omega) (by omega) (by omega) (by omega) (by omega) (by omega), fd (s + 4) (by omega) (by omega) (by omega) (by omega) (by omega) (by omega), fd (s + 5) (by omega) (by omega) (by omega) (by omega) (by omega) (by omega), fd (s + 6) (by omega) (by omega) (by omega) (by omega) (by omega) (by omega), cl o 0 x y (by omega), cl o 1 x y (by omega), cl o 2 x y (by omega), cl o 3 x y (by omega)]
    refine ⟨g.1, g.2.1, g.2.2.1, g.2.2.2.1, ?_, ?_⟩
    · by_cases q : o = o1
      · rw [q, w2, ms_e rfl rfl]
      · rw [ms_i q, ms_a (by omega), op o x y q, c1 _ (by omega) (by omega) (by omega) (by omega) (by omega)]
        exact g.2.2.2.2.1
    · rw [ms_a (by omega)]
      by_cases q : o = o1
      · rw [q, w3, ms_e rfl rfl]
      · rw [ms_i q]
        by_cases q2 : o = o2
        · rw [q2, c3, w4]
          exact ext.1
        · rw [c2 o q2, eo o 5 x y q q2 (by omega) (by omega)]
          exact g.2.2.2.2.2
  · rw [e7] at y
    rw [fk _ (by omega) (by omega)]
    by_cases q : o = o1
    · rw [q, w3] at v
      omega
    · by_cases q2 : o = o2
      · rw [q2] at v ⊢
        rw [w4] at v
        exact ext.2 k u (by omega)
      · rw [eo o 5 x y q q2 (by omega) (by omega)] at v
        have lo := (hO o x y).2.2.2.2.1
        rw [c4 _ (by omega), show 12 + 68 * o + 7 + k = 12 + 68 * o + (7 + k) by omega, eo o (7 + k) x y q q2 (by omega) (by omega), rQ o x y k u v, show 12 + 68 * o + 7 + k = 12 + 68 * o + (7 + k) by omega]
  · rw [fd _ (by omega) (by omega) (by omega) (by omega) (by omega) (by omega), e9]
    exact rt1
  · rw [e9] at y
    have g := rt2 t x y
    rw [fd (s + 50) (by omega) (by omega) (by omega) (by omega) (by omega) (by omega), fd (s + 52) (by omega) (by omega) (by omega) (by omega) (by omega) (by omega), fk (s + 51) (by omega) (by omega), fk (s + 53) (by omega) (by omega), fk (s + 54) (by omega) (by omega), et t 0 x y (by omega), et t 2 x y (by omega)]
    refine ⟨g.1, ?_, g.2.2.1, ?_⟩
    · by_cases q : inU U N t
      · rw [(c8 t).1 q, (w8 t x (by omega)).1 q]
      · rw [(c8 t).2 q, (w8 t x (by omega)).2 q]
        exact g.2.1
    · by_cases q : inU U N t ∧ ¬ bestS κ (fun t => w (452 + 24 * t + 0)) U N t
      · have y1 := (c9 t).1 q
        have y2 := (w9 t x (by omega)).1 q
        rw [y1.1, y1.2, y2.1, y2.2]
        exact ⟨rfl, rfl⟩
      · have y1 := (c9 t).2 q
        have y2 := (w9 t x (by omega)).2 q
        rw [y1.1, y1.2, y2.1, y2.2]
        exact g.2.2.2
