/-! ===== an hour ===== -/
theorem fl_e {d : mD} {x v n b j : Int} (h : b = x) (h0 : 0 ≤ j) (h1 : j < n) : mfl d x v n b j = v := by
  unfold mfl
  rw [if_pos ⟨h, h0, h1⟩]
theorem fl_n {d : mD} {x v n b j : Int} (h : ¬ b = x) : mfl d x v n b j = d b j := by
  unfold mfl
  rw [if_neg (fun z => h z.1)]
theorem csum_zero {f : Int → Int} {n : Nat} (h : ∀ i : Int, 0 ≤ i → i < (n : Int) → f i = 0) : csum f n = 0 := by
  rw [csum_congr (g := fun _ => 0) h]
  induction n with
  | zero => rfl
  | succ n ih =>
    show csum (fun _ => 0) n + 0 = 0
    rw [ih (fun i a b => h i a (by omega))]
    rfl
theorem srvN_of {w w' : Row} (h9 : 0 ≤ w 9 ∧ w 9 ≤ 60) (e : ∀ i, i = 9 ∨ (452 ≤ i ∧ i < 1916 ∧ (i - 452) % 24 = 4) → w' i = w i) : srvN w' = srvN w := by
  unfold srvN
  rw [e 9 (by omega)]
  exact csum_congr (fun t a b => by rw [e (452 + 24 * t + 4) (by omega)])
theorem weekLoop {s : Int} : ∀ (nc nr : Nat) (t : Int) (d : mD) (w : Row), 0 ≤ t → GG w → Rel s d w → w 0 % 20 = 0 → w 9 - t ≤ (nc : Int) → w 9 - t ≤ (nr : Int) →
    ∃ w', LP_223_71 nr t w = W_219 w' ∧ GG w' ∧ Rel s (lp_70_9 s nc t d) w' ∧ (∀ i, ¬ i = 10 → ¬ (1916 ≤ i ∧ i < 2916) → w' i = w i) ∧ XR w w' := by
  intro nc
  induction nc with
  | zero =>
    intro nr t d w h0 hg h hw h1 h2
    obtain ⟨-, -, -, -, ⟨t1, t2⟩, -⟩ := id h
    have e : lp_70_9 s 0 t d = d := by
      show st_70_9 s _ t d = d
      unfold st_70_9
      rw [if_neg (by rw [t1]; omega)]
    refine ⟨w, ?_, hg, by rw [e]; exact h, fun _ _ _ => rfl, XR.refl⟩
    cases nr with
    | zero =>
      show ST_223_71 _ t w = _
      unfold ST_223_71
      rw [if_neg (by omega)]
    | succ nr =>
      show ST_223_71 _ t w = _
      unfold ST_223_71
      rw [if_neg (by omega)]
  | succ nc ih =>
    intro nr t d w h0 hg h hw h1 h2
    obtain ⟨-, -, -, -, ⟨t1, t2⟩, rC, -⟩ := id h
    by_cases c1 : t < w 9
    · cases nr with
      | zero => omega
      | succ nr =>
        have gC := hg.2.2.2.2.1 t h0 c1
        have gc := (rC t h0 c1).1
        by_cases c2 : w (452 + 24 * t + 6) = 0
        · have e : lp_70_9 s (nc + 1) t d = lp_70_9 s nc (t + 1) d := by
            show st_70_9 s _ t d = _
            unfold st_70_9
            rw [if_pos (by rw [t1]; omega), if_neg (by rw [show s + 49 + 6 = s + 55 by omega]; omega)]
          have e2 : LP_223_71 (nr + 1) t w = LP_223_71 nr (t + 1) w := by
            show ST_223_71 _ t w = _
            unfold ST_223_71
            rw [if_pos c1, if_pos hw, if_pos c2]
          rw [e, e2]
          exact ih nr (t + 1) d w (by omega) hg h hw (by omega) (by omega)
        · have hp : w (452 + 24 * t + 6) = 1 := by omega
          have e : lp_70_9 s (nc + 1) t d = lp_70_9 s nc (t + 1) (g_81 s t d) := by
            show st_70_9 s _ t d = _
            unfold st_70_9
            rw [if_pos (by rw [t1]; omega), if_pos (by rw [show s + 49 + 6 = s + 55 by omega]; omega)]
          have e2 : LP_223_71 (nr + 1) t w = LP_223_71 nr (t + 1) (W_218 t w) := by
            show ST_223_71 _ t w = _
            unfold ST_223_71
            rw [if_pos c1, if_pos hw, if_neg c2]
          rw [e, e2]
          have hcl := gC.2.2.1 hp
          obtain ⟨-, g', r', f'⟩ := makes hg h ⟨h0, c1⟩ (gC.2.2.2.1 hcl.1) hcl.2
          obtain ⟨w', j1, j2, j3, j4, j5⟩ := ih nr (t + 1) (g_81 s t d) (W_218 t w) (by omega) g' r' (by rw [f' 0 (by omega) (by omega)]; exact hw) (by rw [f' 9 (by omega) (by omega)]; omega) (by rw [f' 9 (by omega) (by omega)]; omega)
          exact ⟨w', j1, j2, j3, fun i a b => by rw [j4 i a b, f' i a b], (makesX hg.1.2.1 hg.1.2.2.1 hg.1.2.2.2.1).trans j5⟩
    · have e : lp_70_9 s (nc + 1) t d = d := by
        show st_70_9 s _ t d = d
        unfold st_70_9
        rw [if_neg (by rw [t1]; omega)]
      refine ⟨w, ?_, hg, by rw [e]; exact h, fun _ _ _ => rfl, XR.refl⟩
      cases nr with
      | zero =>
        show ST_223_71 _ t w = _
        unfold ST_223_71
        rw [if_neg (by omega)]
      | succ nr =>
        show ST_223_71 _ t w = _
        unfold ST_223_71
        rw [if_neg (by omega)]
-- a new week: nothing was made or witnessed in it
theorem newWeek {s : Int} {d : mD} {w : Row} (hg : GG w) (h : RelN s d w) (hm : ∀ k, 0 ≤ k → k < w 10 → w (1916 + 5 * k + 4) < w 0) (hwt : ∀ t p, 0 ≤ t → t < w 9 → 0 ≤ p → p < 16 → w (452 + 24 * t + 8 + p) ≤ w 0) (hw : w 0 % 20 = 0) : Rel s (g_49 (s + 10) d) w := by
  obtain ⟨hN, hO, hQ, hT, hC, hK, hR⟩ := id hg
  obtain ⟨n7, n8, n9, n10, n11, n0, n1, n2, n3, n4, n5, n6⟩ := id hN
  obtain ⟨rA, rO, rQ, rP, rT, rC, rK, rR, rH⟩ := h
  generalize hd : g_49 (s + 10) d = d'
  have e : d' = mfl (mfl (mfl d (s + 13) 0 16) (s + 14) 0 16) (s + 15) 0 16 := by
    rw [← hd]
    unfold g_49 g_299
    simp only [Int.add_assoc, Int.reduceAdd]
  have fd : ∀ b, ¬ (s + 13 ≤ b ∧ b ≤ s + 15) → d' b = d b := fun b x => by
    rw [e]
    funext j
    rw [fl_n (by omega), fl_n (by omega), fl_n (by omega)]
  refine ⟨rA.k (fun b x => fd b (by omega)) (fun _ _ => rfl), rO.k (fun b x y => fd b (by omega)) (fun _ _ => rfl) n7, rQ.k (fd _ (by omega)) (fun _ _ => rfl) n7 hO, rP.k (fun b x y => fd b (by omega)) (fun _ _ => rfl) n8, rT.k (fun b x y => fd b (by omega)) (fun _ _ => rfl) n9, rC.k (fun b x => fd b (by omega)) (fun _ _ => rfl) n9, rK.k (by rw [fd _ (by omega)]) (fun b x y => fd b (by omega)) (fun _ _ => rfl) n10, rR.k (by rw [fd _ (by omega)]) (fd _ (by omega)) (fun _ _ => rfl) n11, ?_, rH.k (fun b x y => fd b (by omega)) (fun _ _ => rfl) n8 n9 n10 hK.of⟩
  intro p x y
  have z1 : d' (s + 13) p = 0 := by rw [e, fl_n (by omega), fl_n (by omega), fl_e rfl x (by omega)]
  have z2 : d' (s + 14) p = 0 := by rw [e, fl_n (by omega), fl_e rfl x (by omega)]
  have z3 : d' (s + 15) p = 0 := by rw [e, fl_e rfl x (by omega)]
  have na : ∀ t q, 0 ≤ t → t < w 9 → 0 ≤ q → q < 16 → ¬ (0 < w (452 + 24 * t + 8 + q) ∧ (w (452 + 24 * t + 8 + q) - 1) / 20 = w 0 / 20) := fun t q a b c e => by
    have := hwt t q a b c e
    omega
  refine ⟨?_, ?_, fun q u v => ?_⟩
  · rw [z1]
    unfold madeR
    refine (csum_zero (fun k a b => ?_)).symm
    have := hm k a (by omega)
    have g := hK k a (by omega)
    rw [if_neg (by omega)]
  · rw [z2]
    unfold attR
    refine (csum_zero (fun t a b => ?_)).symm
    rw [if_neg (na t p a (by omega) x (by omega))]
  · rw [z3, ib_zero]
    constructor
    · intro z; cases z
    · rintro ⟨t, a, b, c, e⟩
      exact absurd e (na t p a b x (by omega))
-- the time goes on
theorem tick {s : Int} {d : mD} {w : Row} (hg : GG w) (h : Rel s d w) (h0 : w 0 ≤ 1198) :
    GG (ws w 0 (w 0 + 1)) ∧ RelN s (mset d s 2 (d s 2 + 1)) (ws w 0 (w 0 + 1)) ∧ (¬ (w 0 + 1) % 20 = 0 → RelB s (mset d s 2 (d s 2 + 1)) (ws w 0 (w 0 + 1))) := by
  obtain ⟨hN, hO, hQ, hT, hC, hK, hR⟩ := id hg
  obtain ⟨n7, n8, n9, n10, n11, n0, n1, n2, n3, n4, n5, n6⟩ := id hN
  obtain ⟨⟨a1, a2, a3⟩, rO, rQ, rP, rT, rC, rK, rR, rB, rH⟩ := h
  generalize hw : ws w 0 (w 0 + 1) = w'
  have e0 : w' 0 = w 0 + 1 := by rw [← hw]; exact wse rfl
  have ew : ∀ i, ¬ i = 0 → w' i = w i := fun i hi => by rw [← hw]; exact wsn hi
  generalize hd : mset d s 2 (d s 2 + 1) = d'
  have fd : ∀ b, ¬ b = s → d' b = d b := fun b x => by
    rw [← hd]
    funext j
    exact ms_a x
  have pO : ∀ k, 0 ≤ k → k < w 10 → perO w' k = perO w k := fun k a b => by
    have g := hK k a b
    unfold perO
    rw [ew (1916 + 5 * k + 1) (by omega), ew _ (by omega)]
  refine ⟨⟨?_, hO.k (fun i hi => ew i (by omega)) hN, hQ.k (fun i hi => ew i (by omega)) hN hO, ?_, ?_, ?_, hR.k (fun i hi => ew i (by omega)) hN⟩, ⟨?_, rO.k (fun b x y => fd b (by omega)) (fun i hi => ew i (by omega)) n7, rQ.k (fd _ (by omega)) (fun i hi => ew i (by omega)) n7 hO, rP.k (fun b x y => fd b (by omega)) (fun i hi => ew i (by omega)) n8, rT.k (fun b x y => fd b (by omega)) (fun i hi => ew i (by omega)) n9, rC.k (fun b x => fd b (by omega)) (fun i hi => ew i (by omega)) n9, rK.k (by rw [fd _ (by omega)]) (fun b x y => fd b (by omega)) (fun i hi => ew i (by omega)) n10, rR.k (by rw [fd _ (by omega)]) (fd _ (by omega)) (fun i hi => ew i (by omega)) n11, rH.k (fun b x y => fd b (by omega)) (fun i hi => ew i (by omega)) n8 n9 n10 hK.of⟩, ?_⟩
  · unfold GN
    rw [e0, ew 1 (by omega), ew 2 (by omega), ew 3 (by omega), ew 4 (by omega), ew 5 (by omega), ew 6 (by omega), ew 7 (by omega), ew 8 (by omega), ew 9 (by omega), ew 10 (by omega), ew 11 (by omega)]
    omega
  · intro t x y
    rw [ew 9 (by omega)] at y
    have g := hT t x y
    rw [ew (452 + 24 * t + 0) (by omega), ew (452 + 24 * t + 1) (by omega), ew (452 + 24 * t + 2) (by omega), ew (452 + 24 * t + 3) (by omega), ew (452 + 24 * t + 4) (by omega), e0, ew 7 (by omega), ew 8 (by omega)]
    refine ⟨g.1, g.2.1, by omega, g.2.2.2.1, fun z => ?_, fun z => by have := g.2.2.2.2.2 z; omega⟩
    obtain ⟨z1, k, z2, z3, z4⟩ := g.2.2.2.2.1 z
    exact ⟨z1, k, z2, by rw [ew _ (by omega)]; exact z3, by rw [ew _ (by omega)]; exact z4⟩
  · intro t x y
    rw [ew 9 (by omega)] at y
    have g := hC t x y
    rw [ew (452 + 24 * t + 5) (by omega), ew (452 + 24 * t + 6) (by omega), ew (452 + 24 * t + 3) (by omega), ew (452 + 24 * t + 4) (by omega), e0]
    refine ⟨g.1, g.2.1, g.2.2.1, g.2.2.2.1, fun p a b => ?_⟩
    rw [ew (452 + 24 * t + 8 + p) (by omega)]
    have := g.2.2.2.2 p a b
    omega
  · intro k x y
    rw [ew 10 (by omega)] at y
    have g := hK k x y
    rw [ew (1916 + 5 * k + 0) (by omega), ew (1916 + 5 * k + 1) (by omega), ew (1916 + 5 * k + 2) (by omega), ew (1916 + 5 * k + 3) (by omega), ew (1916 + 5 * k + 4) (by omega), e0, ew 8 (by omega), ew 9 (by omega), pO k x y]
    refine ⟨g.1, g.2.1, g.2.2.1, g.2.2.2.1, by omega, fun i a b => ?_⟩
    rw [ew (1916 + 5 * i + 2) (by omega), pO i a (by omega)]
    exact g.2.2.2.2.2 i a b
  · refine ⟨?_, ?_, fun k x y => ?_⟩
    · rw [ew 1 (by omega), ← hd, ms_i (by omega)]; exact a1
    · rw [e0, ← hd, ms_e rfl rfl, a2]
    · rw [ew (2 + k) (by omega), fd _ (by omega)]; exact a3 k x y
  · intro hz p x y
    rw [ew 8 (by omega)] at y
    obtain ⟨g1, g2, g3⟩ := rB p x y
    have e20 : (w 0 + 1) / 20 = w 0 / 20 := by omega
    rw [fd _ (by omega), fd _ (by omega), fd _ (by omega)]
    refine ⟨?_, ?_, fun q u v => ?_⟩
    · rw [g1]
      unfold madeR
      rw [ew 10 (by omega), e0, e20]
      exact csum_congr (fun k a b => by rw [pO k a (by omega), ew (1916 + 5 * k + 4) (by omega)])
    · rw [g2]
      unfold attR
      rw [ew 9 (by omega), e0, e20]
      exact csum_congr (fun t a b => by rw [ew (452 + 24 * t + 8 + p) (by omega)])
    · rw [g3 q u v]
      unfold attd
      rw [ew 9 (by omega), e0, e20]
      constructor
      · rintro ⟨t, a, b, c, e⟩
        exact ⟨t, a, b, by rw [ew _ (by omega)]; exact c, by rw [ew (452 + 24 * t + 8 + p) (by omega)]; exact e⟩
      · rintro ⟨t, a, b, c, e⟩
        rw [ew _ (by omega)] at c
        rw [ew (452 + 24 * t + 8 + p) (by omega)] at e
        exact ⟨t, a, b, c, e⟩
-- the offices of an hour
theorem officeLoop {s N i : Int} {r4 : Int → Int → mD → Int × mD} {X : Prop} : ∀ (nc nr : Nat) (o acc : Int) (d : mD) (w : Row), 0 ≤ o → GG w → RelN s d w → (X → RelB s d w) → w 7 - o ≤ (nc : Int) → w 7 - o ≤ (nr : Int) →
    ∃ (d' : mD) (w' : Row), lp_68_22 s N r4 nc acc i o d = (if w 0 % 20 = 0 then r4 (acc + (srvN w' - srvN w)) (i + 1) (g_82 s (g_70 s d')) else r4 (acc + (srvN w' - srvN w)) (i + 1) (g_82 s d')) ∧ LP_223_12 nr o w = LP_223_71 (61 - 0 : Int).toNat 0 w' ∧ GG w' ∧ RelN s d' w' ∧ (X → RelB s d' w') ∧ ∀ j, j ≤ 11 ∨ (452 ≤ j ∧ j < 1916 ∧ (5 ≤ (j - 452) % 24 ∨ (j - 452) % 24 ≤ 2)) ∨ (420 ≤ j ∧ j < 452) ∨ 1916 ≤ j → w' j = w j := by
  intro nc
  induction nc with
  | zero =>
    intro nr o acc d w h0 hg h hX h1 h2
    obtain ⟨⟨a1, a2, a3⟩, ⟨o1, o2⟩, -⟩ := id h
    refine ⟨d, w, ?_, ?_, hg, h, hX, fun _ _ => rfl⟩
    · show st_68_22 s N r4 _ acc i o d = _
      unfold st_68_22
      rw [if_neg (by rw [o1]; omega), a2, Int.sub_self, Int.add_zero]
    · cases nr with
      | zero =>
        show ST_223_12 _ o w = _
        unfold ST_223_12
        rw [if_neg (by omega)]
      | succ nr =>
        show ST_223_12 _ o w = _
        unfold ST_223_12
        rw [if_neg (by omega)]
  | succ nc ih =>
    intro nr o acc d w h0 hg h hX h1 h2
    obtain ⟨⟨a1, a2, a3⟩, ⟨o1, o2⟩, -⟩ := id h
    by_cases c1 : o < w 7
    · cases nr with
      | zero => omega
      | succ nr =>
        obtain ⟨j1, j2, j3, j4, j5⟩ := serve hg h hX ⟨h0, c1⟩
        have e : lp_68_22 s N r4 (nc + 1) acc i o d = lp_68_22 s N r4 nc (acc + v_69 s o d) i (o + 1) (g_69 s o d) := by
          show st_68_22 s N r4 _ acc i o d = _
          unfold st_68_22
          rw [if_pos (by rw [o1]; exact c1)]
        have e2 : LP_223_12 (nr + 1) o w = LP_223_12 nr (o + 1) (hourO o w) := by
          show ST_223_12 _ o w = _
          unfold ST_223_12 hourO
          rw [if_pos c1]
          split
          · rfl
          · split <;> rfl
        rw [e, e2]
        have e7 := j4 7 (by omega)
        have e0 := j4 0 (by omega)
        obtain ⟨d', w', k1, k2, k3, k4, k5, k6⟩ := ih nr (o + 1) (acc + v_69 s o d) (g_69 s o d) (hourO o w) (by omega) j1 j2 j3 (by omega) (by omega)
        refine ⟨d', w', ?_, k2, k3, k4, k5, fun j hj => by rw [k6 j hj, j4 j hj]⟩
        rw [k1, e0, j5, show acc + v_69 s o d + (srvN w' - (srvN w + v_69 s o d)) = acc + (srvN w' - srvN w) by omega]
    · refine ⟨d, w, ?_, ?_, hg, h, hX, fun _ _ => rfl⟩
      · show st_68_22 s N r4 _ acc i o d = _
        unfold st_68_22
        rw [if_neg (by rw [o1]; omega), a2, Int.sub_self, Int.add_zero]
      · cases nr with
        | zero =>
          show ST_223_12 _ o w = _
          unfold ST_223_12
          rw [if_neg (by omega)]
        | succ nr =>
          show ST_223_12 _ o w = _
          unfold ST_223_12
          rw [if_neg (by omega)]
theorem hour1 {s N i acc : Int} {r4 : Int → Int → mD → Int × mD} {d : mD} {w : Row} (hg : GG w) (h : Rel s d w) (h0 : w 0 ≤ 1198) :
    ∃ d' : mD, lp_68_22 s N r4 (6 - 0 : Int).toNat acc i 0 (mset d s 2 (d s 2 + 1)) = r4 (acc + (srvN (W_223 w) - srvN w)) (i + 1) d' ∧ GG (W_223 w) ∧ Rel s d' (W_223 w) ∧ (∀ j, j = 0 → W_223 w j = w 0 + 1) ∧ (∀ j, (2 ≤ j ∧ j ≤ 9) ∨ (452 ≤ j ∧ j < 1916 ∧ (5 ≤ (j - 452) % 24 ∨ (j - 452) % 24 ≤ 2)) → W_223 w j = w j) ∧ GXI w (W_223 w) := by
  obtain ⟨n7, n8, n9, n10, n11, n0, n1, n2, n3, n4, n5, n6⟩ := id hg.1
  obtain ⟨g1, r1, b1⟩ := tick hg h h0
  have e0 : ws w 0 (w 0 + 1) 0 = w 0 + 1 := wse rfl
  have ew : ∀ i, ¬ i = 0 → ws w 0 (w 0 + 1) i = w i := fun i hi => wsn hi
  obtain ⟨d1, w1, k1, k2, k3, k4, k5, k6⟩ := officeLoop (s := s) (N := N) (i := i) (r4 := r4) (X := ¬ (w 0 + 1) % 20 = 0) (6 - 0 : Int).toNat (6 - 0 : Int).toNat 0 acc (mset d s 2 (d s 2 + 1)) (ws w 0 (w 0 + 1)) (by omega) g1 r1 b1 (by rw [ew 7 (by omega), show (((6 - 0 : Int).toNat : Nat) : Int) = 6 by decide]; omega) (by rw [ew 7 (by omega), show (((6 - 0 : Int).toNat : Nat) : Int) = 6 by decide]; omega)
  rw [e0] at k1
  have f0 : w1 0 = w 0 + 1 := by rw [k6 0 (by omega), e0]
  have fw : ∀ j, ¬ j = 0 → j ≤ 11 ∨ (452 ≤ j ∧ j < 1916 ∧ (5 ≤ (j - 452) % 24 ∨ (j - 452) % 24 ≤ 2)) ∨ (420 ≤ j ∧ j < 452) ∨ 1916 ≤ j → w1 j = w j := fun j a b => by rw [k6 j b, ew j a]
  have sN : srvN (ws w 0 (w 0 + 1)) = srvN w := srvN_of n9 (fun i hi => ew i (by omega))
  rw [sN] at k1
  have eW : W_223 w = LP_223_71 (61 - 0 : Int).toNat 0 w1 := k2
  have key : ∀ (d2 : mD) (w2 : Row), LP_223_71 (61 - 0 : Int).toNat 0 w1 = W_219 w2 → GG w2 → Rel s d2 w2 → (∀ i, ¬ i = 10 → ¬ (1916 ≤ i ∧ i < 2916) → w2 i = w1 i) ∧ XR w1 w2 → ((acc + (srvN w1 - srvN w)) = acc + (srvN (W_223 w) - srvN w)) ∧ GG (W_223 w) ∧ Rel s (g_82 s d2) (W_223 w) ∧ (∀ j, j = 0 → W_223 w j = w 0 + 1) ∧ (∀ j, (2 ≤ j ∧ j ≤ 9) ∨ (452 ≤ j ∧ j < 1916 ∧ (5 ≤ (j - 452) % 24 ∨ (j - 452) % 24 ≤ 2)) → W_223 w j = w j) ∧ GXI w (W_223 w) := by
    intro d2 w2 q1 q2 q3 ⟨q4, q5⟩
    have q6 := settleX q2 q3
    obtain ⟨-, p2, p3, p4⟩ := settle q2 q3
    rw [eW, q1]
    have hs : srvN (W_219 w2) = srvN w1 := by
      rw [srvN_of (w := w2) (w' := W_219 w2) q2.1.2.2.1 (fun i hi => p4 i (by omega) (by omega) (by omega) (by omega))]
      exact srvN_of k3.1.2.2.1 (fun i hi => q4 i (by omega) (by omega))
    refine ⟨by rw [hs], p2, p3, fun j hj => ?_, fun j hj => ?_, GXI.trans (GXI.keep n8 (fw 8 (by omega) (by omega)) (fw 9 (by omega) (by omega)) (fun t q a b u v => fw _ (by omega) (Or.inr (Or.inl ⟨by omega, by omega, Or.inl (by omega)⟩))) (fun p a b => fw _ (by omega) (by omega)) (Int.le_of_eq (C2_of (fw 10 (by omega) (by omega)) (fun k a b => by rw [fw (1916 + 5 * k + 3) (by omega) (by omega)])).symm)) (q5.trans q6).1⟩
    · rw [hj, p4 0 (by omega) (by omega) (by omega) (by omega), q4 0 (by omega) (by omega), f0]
    · rw [p4 j (by omega) (by omega) (by omega) (by omega), q4 j (by omega) (by omega), fw j (by omega) (by omega)]
  by_cases c : (w 0 + 1) % 20 = 0
  · rw [if_pos c] at k1
    have nw := newWeek k3 k4 (fun k a b => by
      rw [fw 10 (by omega) (by omega)] at b
      have := hg.2.2.2.2.2.1 k a b
      rw [fw _ (by omega) (by omega), f0]
      omega) (fun t p a b x y => by
      rw [fw 9 (by omega) (by omega)] at b
      have := (hg.2.2.2.2.1 t a b).2.2.2.2 p x y
      rw [fw (452 + 24 * t + 8 + p) (by omega) (Or.inr (Or.inl ⟨by omega, by omega, Or.inl (by omega)⟩)), f0]
      omega) (by rw [f0]; exact c)
    obtain ⟨w2, q1, q2, q3, q4⟩ := weekLoop (s := s) (60 - 0 : Int).toNat (61 - 0 : Int).toNat 0 (g_49 (s + 10) d1) w1 (by omega) k3 nw (by rw [f0]; exact c) (by rw [fw 9 (by omega) (by omega), show (((60 - 0 : Int).toNat : Nat) : Int) = 60 by decide]; omega) (by rw [fw 9 (by omega) (by omega), show (((61 - 0 : Int).toNat : Nat) : Int) = 61 by decide]; omega)
    obtain ⟨z1, z2⟩ := key (g_70 s d1) w2 q1 q2 q3 q4
    rw [z1] at k1
    exact ⟨_, k1, z2⟩
  · rw [if_neg c] at k1
    have hr := k4.r (k5 c)
    obtain ⟨z1, z2⟩ := key d1 w1 (by
      have : ∀ n : Nat, 0 < n → LP_223_71 n 0 w1 = W_219 w1 := fun n hn => by
        cases n with
        | zero => omega
        | succ n =>
          show ST_223_71 _ 0 w1 = _
          unfold ST_223_71
          split
          · rw [if_neg (by rw [f0]; exact c)]
          · rfl
      exact this _ (by decide)) k3 hr ⟨fun _ _ _ => rfl, XR.refl⟩
    rw [z1] at k1
    exact ⟨_, k1, z2⟩
def hoursW : Nat → Row → Row
  | 0, w => w
  | n + 1, w => hoursW n (W_223 w)
theorem passLoop {s N : Int} : ∀ (n : Nat) (i acc : Int) (d : mD) (w : Row), GG w → Rel s d w → N - i = (n : Int) → w 0 + (n : Int) ≤ 1199 → (lp_68_4 s N n acc i d).1 = acc + (srvN (hoursW n w) - srvN w) ∧ GG (hoursW n w) ∧ Rel s (lp_68_4 s N n acc i d).2 (hoursW n w) ∧ hoursW n w 0 = w 0 + (n : Int) ∧ (∀ j, (2 ≤ j ∧ j ≤ 9) ∨ (452 ≤ j ∧ j < 1916 ∧ (5 ≤ (j - 452) % 24 ∨ (j - 452) % 24 ≤ 2)) → hoursW n w j = w j) ∧ GXI w (hoursW n w) := by
  intro n
  induction n with
  | zero =>
    intro i acc d w hg h hn h9
    have e : lp_68_4 s N 0 acc i d = (acc, d) := by
      show st_68_4 s N _ acc i d = _
      unfold st_68_4
      rw [if_neg (by omega)]
    rw [e]
    exact ⟨by show acc = acc + (srvN w - srvN w); omega, hg, h, by show w 0 = w 0 + ((0 : Nat) : Int); omega, fun _ _ => rfl, fun a b => ⟨a, b⟩⟩
  | succ n ih =>
    intro i acc d w hg h hn h9
    obtain ⟨d', k1, k2, k3, k4, k5, k6⟩ := hour1 (N := N) (i := i) (acc := acc) (r4 := lp_68_4 s N n) hg h (by omega)
    have e : lp_68_4 s N (n + 1) acc i d = lp_68_4 s N n (acc + (srvN (W_223 w) - srvN w)) (i + 1) d' := by
      rw [← k1]
      show st_68_4 s N _ acc i d = _
      unfold st_68_4
      rw [if_pos (by omega)]
    have f0 := k4 0 rfl
    obtain ⟨j1, j2, j3, j4, j5, j6⟩ := ih (i + 1) (acc + (srvN (W_223 w) - srvN w)) d' (W_223 w) k2 k3 (by omega) (by omega)
    rw [e]
    refine ⟨?_, j2, j3, ?_, fun j hj => ?_, k6.trans j6⟩
    · rw [j1]
      show _ = acc + (srvN (hoursW n (W_223 w)) - srvN w)
      omega
    · show hoursW n (W_223 w) 0 = _
      rw [j4, f0]
      omega
    · show hoursW n (W_223 w) j = _
      rw [j5 j hj, k5 j hj]
theorem passHours {s N : Int} {d : mD} {w : Row} (hN : 0 ≤ N) (hg : GG w) (h : Rel s d w) (h9 : w 0 + N ≤ 1199) : v_68 s N d = srvN (hoursW N.toNat w) - srvN w ∧ GG (hoursW N.toNat w) ∧ Rel s (g_68 s N d) (hoursW N.toNat w) ∧ hoursW N.toNat w 0 = w 0 + N ∧ (∀ j, (2 ≤ j ∧ j ≤ 9) ∨ (452 ≤ j ∧ j < 1916 ∧ (5 ≤ (j - 452) % 24 ∨ (j - 452) % 24 ≤ 2)) → hoursW N.toNat w j = w j) ∧ GXI w (hoursW N.toNat w) := by
  have e : (N - 0).toNat = N.toNat := by rw [Int.sub_zero]
  obtain ⟨j1, j2, j3, j4, j5, j6⟩ := passLoop (s := s) (N := N) N.toNat 0 0 d w hg h (by omega) (by omega)
  unfold v_68 g_68 f_68
  rw [e]
  exact ⟨by rw [j1]; omega, j2, j3, by rw [j4]; omega, j5, j6⟩
