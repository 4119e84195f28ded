/-! ===== an office serves ===== -/
theorem serveLoop {s o many : Int} {X : Prop} : ∀ (nc nr : Nat) (i : Int) (d : mD) (w : Row), 0 ≤ i → i ≤ many → GG w → RelN s d w → (X → RelB s d w) → 0 ≤ o ∧ o < w 7 → many = mmin (w (12 + 68 * o + 1)) (i + w (12 + 68 * o + 5)) → many - i ≤ (nc : Int) → 4 - i ≤ (nr : Int) →
    GG (LP_222_7 o nr (12 + 68 * o) i w) ∧ RelN s (lp_69_15 s o nc many i d).2 (LP_222_7 o nr (12 + 68 * o) i w) ∧ (X → RelB s (lp_69_15 s o nc many i d).2 (LP_222_7 o nr (12 + 68 * o) i w)) ∧ (lp_69_15 s o nc many i d).1 = many ∧ (∀ j, j ≤ 11 ∨ (452 ≤ j ∧ j < 1916 ∧ (5 ≤ (j - 452) % 24 ∨ (j - 452) % 24 ≤ 2)) ∨ (420 ≤ j ∧ j < 452) ∨ 1916 ≤ j → LP_222_7 o nr (12 + 68 * o) i w j = w j) ∧ srvN (LP_222_7 o nr (12 + 68 * o) i w) = srvN w + (many - i) := by
  intro nc
  induction nc with
  | zero =>
    intro nr i d w hi him hg h hX ho hm h1 h2
    have go := hg.2.1 o ho.1 ho.2
    have hmn := mmin_r (w (12 + 68 * o + 1)) (i + w (12 + 68 * o + 5))
    have e : lp_69_15 s o 0 many i d = (many, d) := by
      show st_69_15 s o _ many i d = _
      unfold st_69_15
      rw [if_neg (by omega)]
    have e2 : LP_222_7 o nr (12 + 68 * o) i w = w := by
      cases nr with
      | zero =>
        show ST_222_7 o _ (12 + 68 * o) i w = w
        unfold ST_222_7
        split
        · rw [if_neg (by omega)]
        · rfl
      | succ nr =>
        show ST_222_7 o _ (12 + 68 * o) i w = w
        unfold ST_222_7
        split
        · rw [if_neg (by omega)]
        · rfl
    rw [e, e2]
    exact ⟨hg, h, hX, rfl, fun _ _ => rfl, by omega⟩
  | succ nc ih =>
    intro nr i d w hi him hg h hX ho hm h1 h2
    have go := hg.2.1 o ho.1 ho.2
    have n7 := hg.1.1
    have n9 := hg.1.2.2.1
    have hmn := mmin_r (w (12 + 68 * o + 1)) (i + w (12 + 68 * o + 5))
    by_cases hc : i < many
    · cases nr with
      | zero => omega
      | succ nr =>
        have gq := hg.2.2.1 o ho.1 ho.2 0 (by omega) (by omega)
        simp only [Int.add_zero] at gq
        have hS := stepV (o := o) (w := w) (by omega) (by omega) (by omega)
        have e2 : LP_222_7 o (nr + 1) (12 + 68 * o) i w = LP_222_7 o nr (12 + 68 * o) (i + 1) (W_220 o 0 (ws (ws (ws w ((452 + (24 * (w ((12 + (68 * o)) + 7)))) + 4) 1) ((452 + (24 * (w ((12 + (68 * o)) + 7)))) + 3) (w 0)) ((12 + (68 * o)) + 6) ((w ((12 + (68 * o)) + 6)) + 1))) := by
          show ST_222_7 o _ (12 + 68 * o) i w = _
          unfold ST_222_7
          rw [if_pos (by omega), if_pos (by omega)]
        have e : lp_69_15 s o (nc + 1) many i d = lp_69_15 s o nc many (i + 1) (g_41 (s + 2) o 0 (g_97 (s + 49) (v_38 (s + 2) o 0 d) 1 (d s 2) d)) := by
          show st_69_15 s o _ many i d = _
          unfold st_69_15
          rw [if_pos hc]
        rw [e, e2]
        generalize W_220 o 0 (ws (ws (ws w ((452 + (24 * (w ((12 + (68 * o)) + 7)))) + 4) 1) ((452 + (24 * (w ((12 + (68 * o)) + 7)))) + 3) (w 0)) ((12 + (68 * o)) + 6) ((w ((12 + (68 * o)) + 6)) + 1)) = w' at *
        obtain ⟨g', r', x'⟩ := serve1 hg h hX ho (by omega) hS
        have hsn := serve1n hg ho (by omega) hS
        obtain ⟨s1, s2, s3, s4, s5, s6⟩ := hS
        have e7 : w' 7 = w 7 := s6 7 (by omega) (by omega) (by omega) (by omega) (by omega)
        obtain ⟨j1, j2, j3, j4, j5, j6⟩ := ih nr (i + 1) _ w' (by omega) (by omega) g' r' x' (by rw [e7]; exact ho) (by rw [s1, s6 (12 + 68 * o + 1) (by omega) (by omega) (by omega) (by omega) (by omega), hm]; congr 1; omega) (by omega) (by omega)
        exact ⟨j1, j2, j3, j4, fun j hj => by rw [j5 j hj, s6 j (by omega) (by omega) (by omega) (by omega) (by omega)], by rw [j6, hsn]; omega⟩
    · have e : lp_69_15 s o (nc + 1) many i d = (many, d) := by
        show st_69_15 s o _ many i d = _
        unfold st_69_15
        rw [if_neg hc]
      have e2 : LP_222_7 o nr (12 + 68 * o) i w = w := by
        cases nr with
        | zero =>
          show ST_222_7 o _ (12 + 68 * o) i w = w
          unfold ST_222_7
          split
          · rw [if_neg (by omega)]
          · rfl
        | succ nr =>
          show ST_222_7 o _ (12 + 68 * o) i w = w
          unfold ST_222_7
          split
          · rw [if_neg (by omega)]
          · rfl
      rw [e, e2]
      exact ⟨hg, h, hX, rfl, fun _ _ => rfl, by omega⟩
-- what an office does in an hour, in the reference
def hourO (o : Int) (w : Row) : Row := if w (12 + 68 * o + 4) = 0 then w else if w 0 % w (12 + 68 * o + 2) = 0 then W_222 o w else w
theorem serve {s o : Int} {d : mD} {w : Row} {X : Prop} (hg : GG w) (h : RelN s d w) (hX : X → RelB s d w) (ho : 0 ≤ o ∧ o < w 7) :
    GG (hourO o w) ∧ RelN s (g_69 s o d) (hourO o w) ∧ (X → RelB s (g_69 s o d) (hourO o w)) ∧ (∀ j, j ≤ 11 ∨ (452 ≤ j ∧ j < 1916 ∧ (5 ≤ (j - 452) % 24 ∨ (j - 452) % 24 ≤ 2)) ∨ (420 ≤ j ∧ j < 452) ∨ 1916 ≤ j → hourO o w j = w j) ∧ srvN (hourO o w) = srvN w + v_69 s o d := by
  have go := hg.2.1 o ho.1 ho.2
  have n7 := hg.1.1
  have n0 := hg.1.2.2.2.2.2.1
  obtain ⟨⟨a1, a2, a3⟩, ⟨o1, o2⟩, -⟩ := id h
  have g := o2 o ho.1 ho.2
  have e42 : v_42 (s + 2) o (d s 2) d = if w (12 + 68 * o + 4) = 0 then 0 else if w 0 % w (12 + 68 * o + 2) = 0 then mmin (w (12 + 68 * o + 1)) (w (12 + 68 * o + 5)) else 0 := by
    unfold v_42
    rw [show s + 2 + 5 = s + 7 by omega, show s + 2 + 3 = s + 5 by omega, show s + 2 + 2 = s + 4 by omega, show s + 2 + 6 = s + 8 by omega, g.2.1, g.2.2.1, g.2.2.2.2.1, g.2.2.2.2.2, a2]
    have hmx : mmax 1 (w (12 + 68 * o + 2)) = w (12 + 68 * o + 2) := by
      have := mmax_r 1 (w (12 + 68 * o + 2))
      omega
    rw [hmx]
  unfold v_69 g_69 f_69
  rw [e42]
  unfold hourO
  by_cases c1 : w (12 + 68 * o + 4) = 0
  · rw [if_pos c1, if_pos c1]
    have e : lp_69_15 s o ((0 : Int) - 0).toNat 0 0 d = (0, d) := by
      show st_69_15 s o _ 0 0 d = _
      unfold st_69_15
      rw [if_neg (by omega)]
    rw [e]
    exact ⟨hg, h, hX, fun _ _ => rfl, by simp⟩
  · rw [if_neg c1, if_neg c1]
    by_cases c2 : w 0 % w (12 + 68 * o + 2) = 0
    · rw [if_pos c2, if_pos c2]
      have hmn := mmin_r (w (12 + 68 * o + 1)) (w (12 + 68 * o + 5))
      unfold W_222
      obtain ⟨j1, j2, j3, j4, j5, j6⟩ := serveLoop (s := s) (o := o) (many := mmin (w (12 + 68 * o + 1)) (w (12 + 68 * o + 5))) (X := X) (mmin (w (12 + 68 * o + 1)) (w (12 + 68 * o + 5)) - 0 : Int).toNat (4 - 0 : Int).toNat 0 d w (by omega) (by omega) hg h hX ho (by rw [Int.zero_add]) (by omega) (by decide)
      exact ⟨j1, j2, j3, j5, by rw [j6, j4, Int.sub_zero]⟩
    · rw [if_neg c2, if_neg c2]
      have e : lp_69_15 s o ((0 : Int) - 0).toNat 0 0 d = (0, d) := by
        show st_69_15 s o _ 0 0 d = _
        unfold st_69_15
        rw [if_neg (by omega)]
      rw [e]
      exact ⟨hg, h, hX, fun _ _ => rfl, by simp⟩
