/-! ===== paying the offered tokens: the class's settle and the reference's settles ===== -/
def StepS (w w' : Row) : Prop := w' 1 = w 1 - w 6 ∧ w' 11 = w 11 - 1 ∧ w' (420 + 2 * w (1916 + 5 * w 2916 + 0) + 1) = w (420 + 2 * w (1916 + 5 * w 2916 + 0) + 1) + w 6 ∧ w' (1916 + 5 * w 2916 + 3) = 2 ∧ (∀ k, 0 ≤ k → k < w 11 - 1 → w' (2916 + k) = w (2916 + k + 1))
  ∧ ∀ i, ¬ i = 1 → ¬ i = 11 → ¬ i = 420 + 2 * w (1916 + 5 * w 2916 + 0) + 1 → ¬ i = 1916 + 5 * w 2916 + 3 → ¬ (2916 ≤ i ∧ i < 2916 + w 11 - 1) → w' i = w i
theorem wse {w : Row} {i v j : Int} (h : j = i) : ws w i v j = v := by simp [ws, h]
theorem wsn {w : Row} {i v j : Int} (h : ¬ j = i) : ws w i v j = w j := by simp [ws, h]
theorem sh106 {R2 : Int → Row → Int × Row} : ∀ (n : Nat) (x1 b x : Int) (w : Row), 0 ≤ x → w 11 - x ≤ (n : Int) → ∃ w' : Row, LP_219_106 R2 n x1 b x w = R2 (x1 + 1) w' ∧ (∀ k, x ≤ k → k < w 11 → w' (2916 + k) = w (2916 + k + 1)) ∧ ∀ i, ¬ (2916 + x ≤ i ∧ i < 2916 + w 11) → w' i = w i := by
  intro n
  induction n with
  | zero =>
    intro x1 b x w h0 hn
    refine ⟨w, ?_, fun k a c => by omega, fun _ _ => rfl⟩
    show ST_219_106 R2 _ x1 b x w = _
    unfold ST_219_106
    rw [if_neg (by omega)]
  | succ n ih =>
    intro x1 b x w h0 hn
    by_cases hc : x < w 11
    · have e11 : ws w (2916 + x) (w (2916 + x + 1)) 11 = w 11 := wsn (by omega)
      obtain ⟨w', i1, i2, i3⟩ := ih x1 b (x + 1) (ws w (2916 + x) (w (2916 + x + 1))) (by omega) (by rw [e11]; omega)
      rw [e11] at i2 i3
      refine ⟨w', ?_, fun k a c => ?_, fun i hi => ?_⟩
      · rw [← i1]
        show ST_219_106 R2 _ x1 b x w = _
        unfold ST_219_106
        rw [if_pos hc]
      · by_cases hk : k = x
        · rw [i3 _ (by omega), wse (by omega), hk]
        · rw [i2 k (by omega) c, wsn (by omega)]
      · rw [i3 i (by omega), wsn (by omega)]
    · refine ⟨w, ?_, fun k a c => by omega, fun _ _ => rfl⟩
      show ST_219_106 R2 _ x1 b x w = _
      unfold ST_219_106
      rw [if_neg hc]
theorem st219 {n : Nat} {y : Int} {w : Row} (h11 : 0 < w 11) (hl : w 11 ≤ 200) (h6 : w 6 ≤ w 1) (hk : 0 ≤ w 2916 ∧ w 2916 ≤ 199) (ho : 0 ≤ w (1916 + 5 * w 2916 + 0) ∧ w (1916 + 5 * w 2916 + 0) ≤ 15) : ∃ w', LP_219_2 (n + 1) y w = LP_219_2 n (y + 1) w' ∧ StepS w w' := by
  generalize hu : (ws (ws (ws (ws w 1 ((w 1) - (w 6))) ((420 + (2 * (w ((1916 + (5 * (w 2916))) + 0)))) + 1) ((w ((420 + (2 * (w ((1916 + (5 * (w 2916))) + 0)))) + 1)) + (w 6))) ((1916 + (5 * (w 2916))) + 3) 2) 11 ((w 11) - 1)) = u
  have u11 : u 11 = w 11 - 1 := by rw [← hu]; exact wse rfl
  obtain ⟨w', i1, i2, i3⟩ := sh106 (R2 := LP_219_2 n) (200 - 0 : Int).toNat y (1916 + (5 * (w 2916))) 0 u (by decide) (by rw [u11, show (((200 - 0 : Int).toNat : Nat) : Int) = 200 by decide]; omega)
  rw [u11] at i2 i3
  refine ⟨w', ?_, ?_, ?_, ?_, ?_, fun k a b => ?_, fun i e1 e2 e3 e4 e5 => ?_⟩
  · rw [← i1]
    show ST_219_2 _ y w = _
    unfold ST_219_2
    rw [if_pos h11, if_neg (by omega), hu]
  · rw [i3 1 (by omega), ← hu]
    simp (disch := omega) only [wse, wsn]
  · rw [i3 11 (by omega), u11]
  · rw [i3 _ (by omega), ← hu]
    simp (disch := omega) only [wse, wsn]
  · rw [i3 _ (by omega), ← hu]
    simp (disch := omega) only [wse, wsn]
  · rw [i2 k a b, ← hu]
    simp (disch := omega) only [wse, wsn]
  · rw [i3 i (by omega), ← hu]
    simp (disch := omega) only [wse, wsn]
-- the state while the row of offered tokens is read from place m on
def RelR' (m s : Int) (d : mD) (w : Row) : Prop := d (s + 57) 5 = w 11 + m ∧ ∀ k, 0 ≤ k → k < w 11 → d (s + 62) (m + k) = w (2916 + k)
def RelS (m s : Int) (d : mD) (w : Row) : Prop := RelA s d w ∧ RelO s d w ∧ RelQ s d w ∧ RelP s d w ∧ RelT s d w ∧ RelC s d w ∧ RelK s d w ∧ RelR' m s d w ∧ RelB s d w ∧ RelH s d w
theorem stlStep {m s : Int} {d : mD} {w w' : Row} (hm : 0 ≤ m) (hg : GG w) (h : RelS m s d w) (h11 : 0 < w 11) (h6 : w 6 ≤ w 1) (hS : StepS w w') :
    GG w' ∧ RelS (m + 1) s (mset (mset (mset d s 1 (d s 1 - w 6)) (s + 10 + 2) (d (s + 57 + 1) (d (s + 57 + 5) m)) (d (s + 10 + 2) (d (s + 57 + 1) (d (s + 57 + 5) m)) + w 6)) (s + 57 + 4) (d (s + 57 + 5) m) 2) w' := by
  obtain ⟨hN, hO, hQ, hT, hC, hK, hR⟩ := hg
  obtain ⟨n7, n8, n9, n10, n11, n0, n1, n2, n3, n4, n5, n6⟩ := id hN
  obtain ⟨⟨a1, a2, a3⟩, rO, rQ, ⟨p1, p2⟩, rT, rC, ⟨k1, k2⟩, ⟨r1, r2⟩, rB, rH⟩ := h
  obtain ⟨s1, s2, s3, s4, s5, s6⟩ := hS
  simp only [Int.add_assoc, Int.reduceAdd]
  have etk : d (s + 62) m = w 2916 := by
    have := r2 0 (by omega) h11
    simpa using this
  have gtk := (hR.2 0 (by omega) h11).1
  simp only [Int.add_zero] at gtk
  have eow := (k2 (w 2916) gtk.1 gtk.2).1
  have gow := (hK (w 2916) gtk.1 gtk.2).1
  have gk3 := (hR.2 0 (by omega) h11).2.1
  simp only [Int.add_zero] at gk3
  rw [etk, eow]
  generalize hd : (mset (mset (mset d s 1 (d s 1 - w 6)) (s + 12) (w (1916 + 5 * w 2916 + 0)) (d (s + 12) (w (1916 + 5 * w 2916 + 0)) + w 6)) (s + 61) (w 2916) 2) = d'
  have fd : ∀ b, ¬ b = s → ¬ b = s + 12 → ¬ b = s + 61 → d' b = d b := fun b x y z => by
    rw [← hd]
    funext j
    simp (disch := omega) only [ms_a]
  have e7 : w' 7 = w 7 := s6 7 (by omega) (by omega) (by omega) (by omega) (by omega)
  have e10 : w' 10 = w 10 := s6 10 (by omega) (by omega) (by omega) (by omega) (by omega)
  refine ⟨⟨?_, hO.k (fun i hi => s6 i (by omega) (by omega) (by omega) (by omega) (by omega)) hN, hQ.k (fun i hi => s6 i (by omega) (by omega) (by omega) (by omega) (by omega)) hN hO, hT.k (fun i hi => s6 i (by omega) (by omega) (by omega) (by omega) (by omega)) hN hO, hC.k (fun i hi => s6 i (by omega) (by omega) (by omega) (by omega) (by omega)) hN, ?_, ?_⟩, ?_⟩
  · unfold GN
    rw [s1, s2, s6 0 (by omega) (by omega) (by omega) (by omega) (by omega), s6 2 (by omega) (by omega) (by omega) (by omega) (by omega), s6 3 (by omega) (by omega) (by omega) (by omega) (by omega), s6 4 (by omega) (by omega) (by omega) (by omega) (by omega), s6 5 (by omega) (by omega) (by omega) (by omega) (by omega), s6 6 (by omega) (by omega) (by omega) (by omega) (by omega), e7, s6 8 (by omega) (by omega) (by omega) (by omega) (by omega), s6 9 (by omega) (by omega) (by omega) (by omega) (by omega), e10]
    omega
  · refine hK.k2 (fun i hi => s6 i (by omega) (by omega) (by omega) (by omega) (by omega)) hN (fun k x y => ?_)
    have g := hK k x y
    refine ⟨by rw [s6 _ (by omega) (by omega) (by omega) (by omega) (by omega)]; exact g.1, ?_⟩
    by_cases hk : k = w 2916
    · rw [hk, s4]; omega
    · rw [s6 _ (by omega) (by omega) (by omega) (by omega) (by omega)]; exact g.2.2.2.1
  · refine ⟨?_, fun k x y => ?_⟩
    · rw [s2, e10, hR.1]
      rw [csum_upd (f := fun k => if w' (1916 + 5 * k + 3) = 1 then 1 else 0) (g := fun k => if w (1916 + 5 * k + 3) = 1 then 1 else 0) (k := w 2916) gtk.1 (by omega) (fun i a b c => by
        show (if w' (1916 + 5 * i + 3) = 1 then (1 : Int) else 0) = if w (1916 + 5 * i + 3) = 1 then 1 else 0
        rw [s6 _ (by omega) (by omega) (by omega) (by omega) (by omega)])]
      rw [s4, gk3]
      simp
      omega
    · rw [s2] at y
      have g := hR.2 (k + 1) (by omega) (by omega)
      rw [show (2916 : Int) + (k + 1) = 2916 + k + 1 by omega] at g
      have hne : ¬ w (2916 + k + 1) = w 2916 := fun q => g.2.2 0 (by omega) (by omega) (by simpa using q.symm)
      rw [s5 k x y, e10, s6 (1916 + 5 * w (2916 + k + 1) + 3) (by omega) (by omega) (by omega) (by omega) (by omega)]
      refine ⟨g.1, g.2.1, fun i a b => ?_⟩
      rw [s5 i a (by omega)]
      have := g.2.2 (i + 1) (by omega) (by omega)
      rwa [show (2916 : Int) + (i + 1) = 2916 + i + 1 by omega] at this
  · refine ⟨⟨?_, ?_, fun k x y => ?_⟩, rO.k (fun b x y => fd b (by omega) (by omega) (by omega)) (fun i hi => s6 i (by omega) (by omega) (by omega) (by omega) (by omega)) n7, rQ.k (fd _ (by omega) (by omega) (by omega)) (fun i hi => s6 i (by omega) (by omega) (by omega) (by omega) (by omega)) n7 hO, ⟨?_, fun p x y => ?_⟩, rT.k (fun b x y => fd b (by omega) (by omega) (by omega)) (fun i hi => s6 i (by omega) (by omega) (by omega) (by omega) (by omega)) n9, rC.k (fun b x => fd b (by omega) (by omega) (by omega)) (fun i hi => s6 i (by omega) (by omega) (by omega) (by omega) (by omega)) n9, ⟨?_, fun k x y => ?_⟩, ⟨?_, fun k x y => ?_⟩, rB.k (fun b x y => fd b (by omega) (by omega) (by omega)) (fun i hi => s6 i (by omega) (by omega) (by omega) (by omega) (by omega)) n8 n9 n10 hK.of, rH.k (fun b x y => fd b (by omega) (by omega) (by omega)) (fun i hi => s6 i (by omega) (by omega) (by omega) (by omega) (by omega)) n8 n9 n10 hK.of⟩
    · rw [s1, ← hd, ← a1]
      simp (disch := omega) only [ms_a, ms_e]
    · rw [s6 0 (by omega) (by omega) (by omega) (by omega) (by omega), ← hd, ← a2]
      simp (disch := omega) only [ms_a, ms_i]
    · rw [s6 _ (by omega) (by omega) (by omega) (by omega) (by omega), fd _ (by omega) (by omega) (by omega)]
      exact a3 k x y
    · rw [fd _ (by omega) (by omega) (by omega), s6 8 (by omega) (by omega) (by omega) (by omega) (by omega)]
      exact p1
    · rw [s6 8 (by omega) (by omega) (by omega) (by omega) (by omega)] at y
      have g := p2 p x y
      refine ⟨by rw [fd _ (by omega) (by omega) (by omega), s6 _ (by omega) (by omega) (by omega) (by omega) (by omega)]; exact g.1, ?_⟩
      rw [← hd]
      by_cases hp : p = w (1916 + 5 * w 2916 + 0)
      · rw [hp, s3]
        simp (disch := omega) only [ms_a, ms_e]
        rw [(p2 _ gow.1 gow.2).2]
      · rw [s6 _ (by omega) (by omega) (by omega) (by omega) (by omega)]
        simp (disch := omega) only [ms_a, ms_i]
        exact g.2
    · rw [fd _ (by omega) (by omega) (by omega), e10]
      exact k1
    · rw [e10] at y
      have g := k2 k x y
      rw [fd (s + 58) (by omega) (by omega) (by omega), fd (s + 59) (by omega) (by omega) (by omega), fd (s + 60) (by omega) (by omega) (by omega), s6 (1916 + 5 * k + 0) (by omega) (by omega) (by omega) (by omega) (by omega), s6 (1916 + 5 * k + 1) (by omega) (by omega) (by omega) (by omega) (by omega), s6 (1916 + 5 * k + 2) (by omega) (by omega) (by omega) (by omega) (by omega)]
      refine ⟨g.1, g.2.1, g.2.2.1, ?_⟩
      rw [← hd]
      by_cases hk : k = w 2916
      · rw [hk, s4]
        simp (disch := omega) only [ms_e]
      · rw [s6 _ (by omega) (by omega) (by omega) (by omega) (by omega)]
        simp (disch := omega) only [ms_a, ms_i]
        exact g.2.2.2
    · rw [fd _ (by omega) (by omega) (by omega), s2, r1]
      omega
    · rw [s2] at y
      rw [fd _ (by omega) (by omega) (by omega), s5 k x y, show m + 1 + k = m + (k + 1) by omega, r2 (k + 1) (by omega) (by omega), show (2916 : Int) + (k + 1) = 2916 + k + 1 by omega]
theorem stlLoop {s : Int} : ∀ (nc nr : Nat) (m y : Int) (d : mD) (w : Row), 0 ≤ m → GG w → RelS m s d w → w 11 ≤ (nc : Int) → w 11 ≤ (nr : Int) → ∃ (j : Int) (d' : mD) (w' : Row), 0 ≤ j ∧ lp_82_9 s nc m (w 6) d = (m + j, g_116 (s + 57) (m + j) d') ∧ LP_219_2 nr y w = (y + j, w') ∧ GG w' ∧ RelS (m + j) s d' w' ∧ d' (s + 57) 5 = d (s + 57) 5 ∧ ∀ i, ¬ i = 1 → ¬ i = 11 → ¬ (420 ≤ i ∧ i < 452) → i < 1916 → w' i = w i := by
  intro nc
  induction nc with
  | zero =>
    intro nr m y d w hm hg h h1 h2
    have n11 := hg.1.2.2.2.2.1
    obtain ⟨-, -, -, -, -, -, -, ⟨r1, -⟩, -⟩ := id h
    refine ⟨0, d, w, by omega, ?_, ?_, hg, by rw [Int.add_zero]; exact h, rfl, fun _ _ _ _ _ => rfl⟩
    · show st_82_9 s _ m (w 6) d = _
      unfold st_82_9
      rw [if_neg (by omega), Int.add_zero]
    · cases nr with
      | zero =>
        show ST_219_2 _ y w = _
        unfold ST_219_2
        rw [if_neg (by omega), Int.add_zero]
      | succ nr =>
        show ST_219_2 _ y w = _
        unfold ST_219_2
        rw [if_neg (by omega), Int.add_zero]
  | succ nc ih =>
    intro nr m y d w hm hg h h1 h2
    obtain ⟨hN, hO, hQ, hT, hC, hK, hR⟩ := id hg
    obtain ⟨n7, n8, n9, n10, n11, n0, n1, n2, n3, n4, n5, n6⟩ := id hN
    obtain ⟨⟨a1, -⟩, -, -, -, -, -, -, ⟨r1, -⟩, -⟩ := id h
    by_cases c1 : 0 < w 11
    · by_cases c2 : w 1 < w 6
      · refine ⟨0, d, w, by omega, ?_, ?_, hg, by rw [Int.add_zero]; exact h, rfl, fun _ _ _ _ _ => rfl⟩
        · show st_82_9 s _ m (w 6) d = _
          unfold st_82_9
          rw [if_pos (by omega), if_pos (by omega), Int.add_zero]
        · cases nr with
          | zero => omega
          | succ nr =>
            show ST_219_2 _ y w = _
            unfold ST_219_2
            rw [if_pos c1, if_pos c2, Int.add_zero]
      · cases nr with
        | zero => omega
        | succ nr =>
          have gtk := (hR.2 0 (by omega) c1).1
          simp only [Int.add_zero] at gtk
          have gow := (hK (w 2916) gtk.1 gtk.2).1
          obtain ⟨w', e1, hS⟩ := st219 (n := nr) (y := y) c1 n11.2 (by omega) (by omega) (by omega)
          obtain ⟨g', h'⟩ := stlStep hm hg h c1 (by omega) hS
          have e6 : w' 6 = w 6 := hS.2.2.2.2.2 6 (by omega) (by omega) (by omega) (by omega) (by omega)
          have e11 := hS.2.1
          obtain ⟨j, d2, w2, j0, j1, j2, j3, j4, j5, j6⟩ := ih nr (m + 1) (y + 1) _ w' (by omega) g' h' (by omega) (by omega)
          refine ⟨j + 1, d2, w2, by omega, ?_, by rw [e1, j2, show y + 1 + j = y + (j + 1) by omega], j3, by rw [show m + (j + 1) = m + 1 + j by omega]; exact j4, by
            rw [j5]
            simp (disch := omega) only [ms_a], fun i x y z u => by rw [j6 i x y z u, hS.2.2.2.2.2 i x y (by omega) (by omega) (by omega)]⟩
          rw [show m + (j + 1) = m + 1 + j by omega, ← j1, e6]
          show st_82_9 s _ m (w 6) d = _
          unfold st_82_9
          rw [if_pos (by omega), if_neg (by omega)]
    · refine ⟨0, d, w, by omega, ?_, ?_, hg, by rw [Int.add_zero]; exact h, rfl, fun _ _ _ _ _ => rfl⟩
      · show st_82_9 s _ m (w 6) d = _
        unfold st_82_9
        rw [if_neg (by omega), Int.add_zero]
      · cases nr with
        | zero =>
          show ST_219_2 _ y w = _
          unfold ST_219_2
          rw [if_neg (by omega), Int.add_zero]
        | succ nr =>
          show ST_219_2 _ y w = _
          unfold ST_219_2
          rw [if_neg (by omega), Int.add_zero]
theorem drop116 {x m : Int} (hm : 0 ≤ m) : ∀ (n : Nat) (k : Int) (d : mD), m ≤ k → d x 5 - k ≤ (n : Int) → (∀ b, ¬ b = x → ¬ b = x + 5 → lp_116_2 x m n k d b = d b) ∧ (∀ j, ¬ j = 5 → lp_116_2 x m n k d x j = d x j) ∧ lp_116_2 x m n k d x 5 = d x 5 - m ∧ (∀ j, j < k - m → lp_116_2 x m n k d (x + 5) j = d (x + 5) j) ∧ ∀ j, k - m ≤ j → j < d x 5 - m → lp_116_2 x m n k d (x + 5) j = d (x + 5) (j + m) := by
  intro n
  induction n with
  | zero =>
    intro k d hk hn
    have e : lp_116_2 x m 0 k d = mset d x 5 (d x 5 - m) := by
      show st_116_2 x m _ k d = _
      unfold st_116_2
      rw [if_neg (by omega)]
    rw [e]
    exact ⟨fun b h1 h2 => by funext j; exact ms_a h1, fun j hj => ms_i hj, ms_e rfl rfl, fun j _ => ms_a (by omega), fun j a b => by omega⟩
  | succ n ih =>
    intro k d hk hn
    by_cases hc : k < d x 5
    · have e : lp_116_2 x m (n + 1) k d = lp_116_2 x m n (k + 1) (mset d (x + 5) (k - m) (d (x + 5) k)) := by
        show st_116_2 x m _ k d = _
        unfold st_116_2
        rw [if_pos hc]
      have e5 : mset d (x + 5) (k - m) (d (x + 5) k) x 5 = d x 5 := ms_a (by omega)
      rw [e]
      obtain ⟨i1, i2, i3, i4, i5⟩ := ih (k + 1) (mset d (x + 5) (k - m) (d (x + 5) k)) (by omega) (by rw [e5]; omega)
      rw [e5] at i3 i5
      refine ⟨fun b h1 h2 => by rw [i1 b h1 h2]; funext j; exact ms_a h2, fun j hj => by rw [i2 j hj, ms_a (by omega)], i3, fun j a => by rw [i4 j (by omega), ms_i (by omega)], fun j a b => ?_⟩
      by_cases hj : j = k - m
      · rw [i4 j (by omega), ms_e rfl hj]
        congr 1
        omega
      · rw [i5 j (by omega) b, ms_i (by omega)]
    · have e : lp_116_2 x m (n + 1) k d = mset d x 5 (d x 5 - m) := by
        show st_116_2 x m _ k d = _
        unfold st_116_2
        rw [if_neg hc]
      rw [e]
      exact ⟨fun b h1 h2 => by funext j; exact ms_a h1, fun j hj => ms_i hj, ms_e rfl rfl, fun j _ => ms_a (by omega), fun j a b => by omega⟩
theorem RelS.drop {m s : Int} {d : mD} {w : Row} (hm : 0 ≤ m) (hg : GG w) (h5 : d (s + 57) 5 ≤ 200) (h : RelS m s d w) : Rel s (g_116 (s + 57) m d) w := by
  obtain ⟨hN, hO, hQ, hT, hC, hK, hR⟩ := id hg
  obtain ⟨n7, n8, n9, n10, n11, n0, n1, n2, n3, n4, n5, n6⟩ := id hN
  obtain ⟨rA, rO, rQ, rP, rT, rC, rK, ⟨r1, r2⟩, rB, rH⟩ := h
  unfold g_116
  obtain ⟨i1, i2, i3, i4, i5⟩ := drop116 (x := s + 57) hm (200 - m : Int).toNat m d (by omega) (by omega)
  generalize lp_116_2 (s + 57) m (200 - m : Int).toNat m d = d' at *
  refine ⟨rA.k (fun b x => i1 b (by omega) (by omega)) (fun _ _ => rfl), rO.k (fun b x y => i1 b (by omega) (by omega)) (fun _ _ => rfl) n7, rQ.k (i1 _ (by omega) (by omega)) (fun _ _ => rfl) n7 hO, rP.k (fun b x y => i1 b (by omega) (by omega)) (fun _ _ => rfl) n8, rT.k (fun b x y => i1 b (by omega) (by omega)) (fun _ _ => rfl) n9, rC.k (fun b x => i1 b (by omega) (by omega)) (fun _ _ => rfl) n9, rK.k (i2 0 (by omega)) (fun b x y => i1 b (by omega) (by omega)) (fun _ _ => rfl) n10, ⟨by rw [i3, r1]; omega, fun k x y => ?_⟩, rB.k (fun b x y => i1 b (by omega) (by omega)) (fun _ _ => rfl) n8 n9 n10 hK.of, rH.k (fun b x y => i1 b (by omega) (by omega)) (fun _ _ => rfl) n8 n9 n10 hK.of⟩
  rw [show s + 62 = s + 57 + 5 by omega, i5 k (by omega) (by omega), show s + 57 + 5 = s + 62 by omega, Int.add_comm k m]
  exact r2 k x y
theorem settle {s : Int} {d : mD} {w : Row} (hg : GG w) (h : Rel s d w) : v_82 s d = V_219 w ∧ GG (W_219 w) ∧ Rel s (g_82 s d) (W_219 w) ∧ ∀ i, ¬ i = 1 → ¬ i = 11 → ¬ (420 ≤ i ∧ i < 452) → i < 1916 → W_219 w i = w i := by
  obtain ⟨n7, n8, n9, n10, n11, n0, n1, n2, n3, n4, n5, n6⟩ := id hg.1
  obtain ⟨rA, rO, rQ, rP, rT, rC, rK, ⟨r1, r2⟩, rB, rH⟩ := h
  have hS : RelS 0 s d w := ⟨rA, rO, rQ, rP, rT, rC, rK, ⟨by rw [r1]; omega, fun k x y => by rw [Int.zero_add]; exact r2 k x y⟩, rB, rH⟩
  obtain ⟨j, d', w', j0, j1, j2, j3, j4, j5, j6⟩ := stlLoop (s := s) (200 - 0 : Int).toNat (w 11).toNat 0 0 d w (by omega) hg hS (by rw [show (((200 - 0 : Int).toNat : Nat) : Int) = 200 by decide]; omega) (by omega)
  have e6 : d (s + 1) 4 = w 6 := rA.2.2 4 (by omega) (by omega)
  have e1 : f_82 s d = (0 + j, g_116 (s + 57) (0 + j) d') := by
    unfold f_82
    rw [e6]
    exact j1
  have e2 : F_219 w = (0 + j, w') := j2
  unfold v_82 g_82 V_219 W_219
  rw [e1, e2]
  exact ⟨rfl, j3, j4.drop (by omega) j3 (by omega), j6⟩
