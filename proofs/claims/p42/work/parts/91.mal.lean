theorem makesX0 {t p : Int} : ∀ (n : Nat) (m y h : Int) (w : Row), (0 ≤ w 8 ∧ w 8 ≤ 16) → (0 ≤ w 9 ∧ w 9 ≤ 60) → (0 ≤ w 10 ∧ w 10 ≤ 200) → XR w (LP_218_41 t n p m y h w).2 := by
  intro n
  have st : ∀ (r : Int → Int → Int → Int → Row → Int × Row) (m y h : Int) (w : Row), (0 ≤ w 8 ∧ w 8 ≤ 16) → (0 ≤ w 9 ∧ w 9 ≤ 60) → (0 ≤ w 10 ∧ w 10 ≤ 200) → (∀ m y h w, (0 ≤ w 8 ∧ w 8 ≤ 16) → (0 ≤ w 9 ∧ w 9 ≤ 60) → (0 ≤ w 10 ∧ w 10 ≤ 200) → XR w (r p m y h w).2) → XR w (ST_218_41 t r p m y h w).2 := fun r m y h w h8 h9 h10 hr => by
    unfold ST_218_41
    by_cases c1 : h < w (452 + 24 * t + 3)
    · rw [if_pos c1]
      by_cases c2 : m < w 5
      · rw [if_pos c2]
        by_cases c3 : w 10 < 200
        · rw [if_pos c3]
          by_cases c4 : V_216 p h w = 0
          · rw [if_pos c4]
            have hk := tokW (p := p) (t := t) (h := h) h10
            generalize (ws (ws (ws (ws (ws (ws w ((1916 + (5 * (w 10))) + 0) p) ((1916 + (5 * (w 10))) + 1) t) ((1916 + (5 * (w 10))) + 2) h) ((1916 + (5 * (w 10))) + 3) 0) ((1916 + (5 * (w 10))) + 4) (w 0)) 10 ((w 10) + 1)) = u at *
            obtain ⟨k1, k2, k3, k4, k5, k6, k7⟩ := hk
            have e8 : u 8 = w 8 := k7 8 (by omega) (by omega)
            have e9 : u 9 = w 9 := k7 9 (by omega) (by omega)
            refine XR.trans ⟨GXI.keep h8 e8 e9 (fun t q a b c d => k7 _ (by omega) (by omega)) (fun p a b => k7 _ (by omega) (by omega)) ?_, k7 0 (by omega) (by omega)⟩ (hr _ _ _ u (by omega) (by omega) (by omega))
            unfold C2
            rw [k1, csum_s _ h10.1, k5, if_neg (by decide), Int.add_zero]
            have e : csum (fun k => if u (1916 + 5 * k + 3) = 2 then (1 : Int) else 0) (w 10).toNat = csum (fun k => if w (1916 + 5 * k + 3) = 2 then 1 else 0) (w 10).toNat := csum_congr (fun k a b => by
              show (if u (1916 + 5 * k + 3) = 2 then (1 : Int) else 0) = if w (1916 + 5 * k + 3) = 2 then 1 else 0
              rw [k7 _ (by omega) (by omega)])
            rw [e]
            omega
          · rw [if_neg c4]; exact hr _ _ _ w h8 h9 h10
        · rw [if_neg c3]; exact hr _ _ _ w h8 h9 h10
      · rw [if_neg c2]; exact hr _ _ _ w h8 h9 h10
    · rw [if_neg c1]; exact XR.refl
  induction n with
  | zero => intro m y h w h8 h9 h10; exact st _ m y h w h8 h9 h10 (fun _ _ _ _ _ _ _ => XR.refl)
  | succ n ih => intro m y h w h8 h9 h10; exact st _ m y h w h8 h9 h10 ih
theorem makesX {t : Int} {w : Row} (h8 : 0 ≤ w 8 ∧ w 8 ≤ 16) (h9 : 0 ≤ w 9 ∧ w 9 ≤ 60) (h10 : 0 ≤ w 10 ∧ w 10 ≤ 200) : XR w (W_218 t w) := by
  unfold W_218 F_218
  exact makesX0 _ _ _ _ w h8 h9 h10
/-! ===== an hour ===== -/
theorem fl_e {d : mD} {x v n b j : Int} (h : b = x) (h0 : 0 ≤ j) (h1 : j < n) : mfl d x v n b j = v := by
  unfold mfl
  rw [if_pos ⟨h, h0, h1⟩]
theorem fl_n {d : mD} {x v n b j : Int} (h : ¬ b = x) : mfl d x v n b j = d b j := by
  unfold mfl
  rw [if_neg (fun z => h z.1)]
theorem csum_zero {f : Int → Int} {n : Nat} (h : ∀ i : Int, 0 ≤ i → i < (n : Int) → f i = 0) : csum f n = 0 := by
  rw [csum_congr (g := fun _ => 0) h]
  induction n with
  | zero => rfl
  | succ n ih =>
    show csum (fun _ => 0) n + 0 = 0
    rw [ih (fun i a b => h i a (by omega))]
    rfl
theorem srvN_of {w w' : Row} (h9 : 0 ≤ w 9 ∧ w 9 ≤ 60) (e : ∀ i, i = 9 ∨ (452 ≤ i ∧ i < 1916 ∧ (i - 452) % 24 = 4) → w' i = w i) : srvN w' = srvN w := by
  unfold srvN
  rw [e 9 (by omega)]
  exact csum_congr (fun t a b => by rw [e (452 + 24 * t + 4) (by omega)])
theorem weekLoop {s : Int} : ∀ (nc nr : Nat) (t : Int) (d : mD) (w : Row), 0 ≤ t → GG w → Rel s d w → w 0 % 20 = 0 → w 9 - t ≤ (nc : Int) → w 9 - t ≤ (nr : Int) →
    ∃ w', LP_223_71 nr t w = W_219 w' ∧ GG w' ∧ Rel s (lp_70_9 s nc t d) w' ∧ (∀ i, ¬ i = 10 → ¬ (1916 ≤ i ∧ i < 2916) → w' i = w i) ∧ XR w w' := by
  intro nc
  induction nc with
  | zero =>
    intro nr t d w h0 hg h hw h1 h2
    obtain ⟨-, -, -, -, ⟨t1, t2⟩, -⟩ := id h
    have e : lp_70_9 s 0 t d = d := by
      show st_70_9 s _ t d = d
      unfold st_70_9
      rw [if_neg (by rw [t1]; omega)]
    refine ⟨w, ?_, hg, by rw [e]; exact h, fun _ _ _ => rfl, XR.refl⟩
    cases nr with
    | zero =>
      show ST_223_71 _ t w = _
      unfold ST_223_71
      rw [if_neg (by omega)]
    | succ nr =>
      show ST_223_71 _ t w = _
      unfold ST_223_71
      rw [if_neg (by omega)]
  | succ nc ih =>
    intro nr t d w h0 hg h hw h1 h2
    obtain ⟨-, -, -, -, ⟨t1, t2⟩, rC, -⟩ := id h
    by_cases c1 : t < w 9
    · cases nr with
      | zero => omega
      | succ nr =>
        have gC := hg.2.2.2.2.1 t h0 c1
        have gc := (rC t h0 c1).1
        by_cases c2 : w (452 + 24 * t + 6) = 0
        · have e : lp_70_9 s (nc + 1) t d = lp_70_9 s nc (t + 1) d := by
            show st_70_9 s _ t d = _
            unfold st_70_9
            rw [if_pos (by rw [t1]; omega), if_neg (by rw [show s + 49 + 6 = s + 55 by omega]; omega)]
          have e2 : LP_223_71 (nr + 1) t w = LP_223_71 nr (t + 1) w := by
            show ST_223_71 _ t w = _
            unfold ST_223_71
            rw [if_pos c1, if_pos hw, if_pos c2]
          rw [e, e2]
          exact ih nr (t + 1) d w (by omega) hg h hw (by omega) (by omega)
        · have hp : w (452 + 24 * t + 6) = 1 := by omega
          have e : lp_70_9 s (nc + 1) t d = lp_70_9 s nc (t + 1) (g_81 s t d) := by
            show st_70_9 s _ t d = _
            unfold st_70_9
            rw [if_pos (by rw [t1]; omega), if_pos (by rw [show s + 49 + 6 = s + 55 by omega]; omega)]
          have e2 : LP_223_71 (nr + 1) t w = LP_223_71 nr (t + 1) (W_218 t w) := by
            show ST_223_71 _ t w = _
            unfold ST_223_71
            rw [if_pos c1, if_pos hw, if_neg c2]
          rw [e, e2]
          have hcl := gC.2.2.1 hp
          obtain ⟨-, g', r', f'⟩ := makes hg h ⟨h0, c1⟩ (gC.2.2.2.1 hcl.1) hcl.2
          obtain ⟨w', j1, j2, j3, j4, j5⟩ := ih nr (t + 1) (g_81 s t d) (W_218 t w) (by omega) g' r' (by rw [f' 0 (by omega) (by omega)]; exact hw) (by rw [f' 9 (by omega) (by omega)]; omega) (by rw [f' 9 (by omega) (by omega)]; omega)
          exact ⟨w', j1, j2, j3, fun i a b => by rw [j4 i a b, f' i a b], (makesX hg.1.2.1 hg.1.2.2.1 hg.1.2.2.2.1).trans j5⟩
    · have e : lp_70_9 s (nc + 1) t d = d := by
        show st_70_9 s _ t d = d
        unfold st_70_9
        rw [if_neg (by rw [t1]; omega)]
      refine ⟨w, ?_, hg, by rw [e]; exact h, fun _ _ _ => rfl, XR.refl⟩
      cases nr with
      | zero =>
        show ST_223_71 _ t w = _
        unfold ST_223_71
        rw [if_neg (by omega)]
      | succ nr =>
        show ST_223_71 _ t w = _
        unfold ST_223_71
        rw [if_neg (by omega)]
-- a new week: nothing was made or witnessed in it
theorem newWeek {s : Int} {d : mD} {w : Row} (hg : GG w) (h : RelN s d w) (hm : ∀ k, 0 ≤ k → k < w 10 → w (1916 + 5 * k + 4) < w 0) (hwt : ∀ t p, 0 ≤ t → t < w 9 → 0 ≤ p → p < 16 → w (452 + 24 * t + 8 + p) ≤ w 0) (hw : w 0 % 20 = 0) : Rel s (g_49 (s + 10) d) w := by
  obtain ⟨hN, hO, hQ, hT, hC, hK, hR⟩ := id hg
  obtain ⟨n7, n8, n9, n10, n11, n0, n1, n2, n3, n4, n5, n6⟩ := id hN
  obtain ⟨rA, rO, rQ, rP, rT, rC, rK, rR, rH⟩ := h
  generalize hd : g_49 (s + 10) d = d'
  have e : d' = mfl (mfl (mfl d (s + 13) 0 16) (s + 14) 0 16) (s + 15) 0 16 := by
    rw [← hd]
    unfold g_49 g_299
    simp only [Int.add_assoc, Int.reduceAdd]
  have fd : ∀ b, ¬ (s + 13 ≤ b ∧ b ≤ s + 15) → d' b = d b := fun b x => by
    rw [e]
    funext j
    rw [fl_n (by omega), fl_n (by omega), fl_n (by omega)]
  refine ⟨rA.k (fun b x => fd b (by omega)) (fun _ _ => rfl), rO.k (fun b x y => fd b (by omega)) (fun _ _ => rfl) n7, rQ.k (fd _ (by omega)) (fun _ _ => rfl) n7 hO, rP.k (fun b x y => fd b (by omega)) (fun _ _ => rfl) n8, rT.k (fun b x y => fd b (by omega)) (fun _ _ => rfl) n9, rC.k (fun b x => fd b (by omega)) (fun _ _ => rfl) n9, rK.k (by rw [fd _ (by omega)]) (fun b x y => fd b (by omega)) (fun _ _ => rfl) n10, rR.k (by rw [fd _ (by omega)]) (fd _ (by omega)) (fun _ _ => rfl) n11, ?_, rH.k (fun b x y => fd b (by omega)) (fun _ _ => rfl) n8 n9 n10 hK.of⟩
  intro p x y
  have z1 : d' (s + 13) p = 0 := by rw [e, fl_n (by omega), fl_n (by omega), fl_e rfl x (by omega)]
  have z2 : d' (s + 14) p = 0 := by rw [e, fl_n (by omega), fl_e rfl x (by omega)]
  have z3 : d' (s + 15) p = 0 := by rw [e, fl_e rfl x (by omega)]
  have na : ∀ t q, 0 ≤ t → t < w 9 → 0 ≤ q → q < 16 → ¬ (0 < w (452 + 24 * t + 8 + q) ∧ (w (452 + 24 * t + 8 + q) - 1) / 20 = w 0 / 20) := fun t q a b c e => by
    have := hwt t q a b c e
    omega
  refine ⟨?_, ?_, fun q u v => ?_⟩
  · rw [z1]
    unfold madeR
    refine (csum_zero (fun k a b => ?_)).symm
    have := hm k a (by omega)
    have g := hK k a (by omega)
    rw [if_neg (by omega)]
  · rw [z2]
    unfold attR
    refine (csum_zero (fun t a b => ?_)).symm
    rw [if_neg (na t p a (by omega) x (by omega))]
  · rw [z3, ib_zero]
    constructor
    · intro z; cases z
    · rintro ⟨t, a, b, c, e⟩
      exact absurd e (na t p a b x (by omega))
-- the time goes on
theorem tick {s : Int} {d : mD} {w : Row} (hg : GG w) (h : Rel s d w) (h0 : w 0 ≤ 1198) :
    GG (ws w 0 (w 0 + 1)) ∧ RelN s (mset d s 2 (d s 2 + 1)) (ws w 0 (w 0 + 1)) ∧ (¬ (w 0 + 1) % 20 = 0 → RelB s (mset d s 2 (d s 2 + 1)) (ws w 0 (w 0 + 1))) := by
  obtain ⟨hN, hO, hQ, hT, hC, hK, hR⟩ := id hg
  obtain ⟨n7, n8, n9, n10, n11, n0, n1, n2, n3, n4, n5, n6⟩ := id hN
  obtain ⟨⟨a1, a2, a3⟩, rO, rQ, rP, rT, rC, rK, rR, rB, rH⟩ := h
  generalize hw : ws w 0 (w 0 + 1) = w'
  have e0 : w' 0 = w 0 + 1 := by rw [← hw]; exact wse rfl
  have ew : ∀ i, ¬ i = 0 → w' i = w i := fun i hi => by rw [← hw]; exact wsn hi
  generalize hd : mset d s 2 (d s 2 + 1) = d'
  have fd : ∀ b, ¬ b = s → d' b = d b := fun b x => by
    rw [← hd]
    funext j
    exact ms_a x
  have pO : ∀ k, 0 ≤ k → k < w 10 → perO w' k = perO w k := fun k a b => by
    have g := hK k a b
    unfold perO
    rw [ew (1916 + 5 * k + 1) (by omega), ew _ (by omega)]
  refine ⟨⟨?_, hO.k (fun i hi => ew i (by omega)) hN, hQ.k (fun i hi => ew i (by omega)) hN hO, ?_, ?_, ?_, hR.k (fun i hi => ew i (by omega)) hN⟩, ⟨?_, rO.k (fun b x y => fd b (by omega)) (fun i hi => ew i (by omega)) n7, rQ.k (fd _ (by omega)) (fun i hi => ew i (by omega)) n7 hO, rP.k (fun b x y => fd b (by omega)) (fun i hi => ew i (by omega)) n8, rT.k (fun b x y => fd b (by omega)) (fun i hi => ew i (by omega)) n9, rC.k (fun b x => fd b (by omega)) (fun i hi => ew i (by omega)) n9, rK.k (by rw [fd _ (by omega)]) (fun b x y => fd b (by omega)) (fun i hi => ew i (by omega)) n10, rR.k (by rw [fd _ (by omega)]) (fd _ (by omega)) (fun i hi => ew i (by omega)) n11, rH.k (fun b x y => fd b (by omega)) (fun i hi => ew i (by omega)) n8 n9 n10 hK.of⟩, ?_⟩
  · unfold GN
    rw [e0, ew 1 (by omega), ew 2 (by omega), ew 3 (by omega), ew 4 (by omega), ew 5 (by omega), ew 6 (by omega), ew 7 (by omega), ew 8 (by omega), ew 9 (by omega), ew 10 (by omega), ew 11 (by omega)]
    omega
  · intro t x y
    rw [ew 9 (by omega)] at y
    have g := hT t x y
    rw [ew (452 + 24 * t + 0) (by omega), ew (452 + 24 * t + 1) (by omega), ew (452 + 24 * t + 2) (by omega), ew (452 + 24 * t + 3) (by omega), ew (452 + 24 * t + 4) (by omega), e0, ew 7 (by omega), ew 8 (by omega)]
    refine ⟨g.1, g.2.1, by omega, g.2.2.2.1, fun z => ?_, fun z => by have := g.2.2.2.2.2 z; omega⟩
    obtain ⟨z1, k, z2, z3, z4⟩ := g.2.2.2.2.1 z
    exact ⟨z1, k, z2, by rw [ew _ (by omega)]; exact z3, by rw [ew _ (by omega)]; exact z4⟩
  · intro t x y
    rw [ew 9 (by omega)] at y
    have g := hC t x y
    rw [ew (452 + 24 * t + 5) (by omega), ew (452 + 24 * t + 6) (by omega), ew (452 + 24 * t + 3) (by omega), ew (452 + 24 * t + 4) (by omega), e0]
    refine ⟨g.1, g.2.1, g.2.2.1, g.2.2.2.1, fun p a b => ?_⟩
    rw [ew (452 + 24 * t + 8 + p) (by omega)]
    have := g.2.2.2.2 p a b
    omega
  · intro k x y
    rw [ew 10 (by omega)] at y
    have g := hK k x y
    rw [ew (1916 + 5 * k + 0) (by omega), ew (1916 + 5 * k + 1) (by omega), ew (1916 + 5 * k + 2) (by omega), ew (1916 + 5 * k + 3) (by omega), ew (1916 + 5 * k + 4) (by omega), e0, ew 8 (by omega), ew 9 (by omega), pO k x y]
    refine ⟨g.1, g.2.1, g.2.2.1, g.2.2.2.1, by omega, fun i a b => ?_⟩
    rw [ew (1916 + 5 * i + 2) (by omega), pO i a (by omega)]
    exact g.2.2.2.2.2 i a b
  · refine ⟨?_, ?_, fun k x y => ?_⟩
    · rw [ew 1 (by omega), ← hd, ms_i (by omega)]; exact a1
    · rw [e0, ← hd, ms_e rfl rfl, a2]
    · rw [ew (2 + k) (by omega), fd _ (by omega)]; exact a3 k x y
  · intro hz p x y
    rw [ew 8 (by omega)] at y
    obtain ⟨g1, g2, g3⟩ := rB p x y
    have e20 : (w 0 + 1) / 20 = w 0 / 20 := by omega
    rw [fd _ (by omega), fd _ (by omega), fd _ (by omega)]
    refine ⟨?_, ?_, fun q u v => ?_⟩
    · rw [g1]
      unfold madeR
      rw [ew 10 (by omega), e0, e20]
      exact csum_congr (fun k a b => by rw [pO k a (by omega), ew (1916 + 5 * k + 4) (by omega)])
    · rw [g2]
      unfold attR
      rw [ew 9 (by omega), e0, e20]
      exact csum_congr (fun t a b => by rw [ew (452 + 24 * t + 8 + p) (by omega)])
    · rw [g3 q u v]
      unfold attd
      rw [ew 9 (by omega), e0, e20]
      constructor
      · rintro ⟨t, a, b, c, e⟩
        exact ⟨t, a, b, by rw [ew _ (by omega)]; exact c, by rw [ew (452 + 24 * t + 8 + p) (by omega)]; exact e⟩
      · rintro ⟨t, a, b, c, e⟩
        rw [ew _ (by omega)] at c
        rw [ew (452 + 24 * t + 8 + p) (by omega)] at e
        exact ⟨t, a, b, c, e⟩
-- the offices of an hour
theorem officeLoop {s N i : Int} {r4 : Int → Int → mD → Int × mD} {X : Prop} : ∀ (nc nr : Nat) (o acc : Int) (d : mD) (w : Row), 0 ≤ o → GG w → RelN s d w → (X → RelB s d w) → w 7 - o ≤ (nc : Int) → w 7 - o ≤ (nr : Int) →
    ∃ (d' : mD) (w' : Row), lp_68_22 s N r4 nc acc i o d = (if w 0 % 20 = 0 then r4 (acc + (srvN w' - srvN w)) (i + 1) (g_82 s (g_70 s d')) else r4 (acc + (srvN w' - srvN w)) (i + 1) (g_82 s d')) ∧ LP_223_12 nr o w = LP_223_71 (61 - 0 : Int).toNat 0 w' ∧ GG w' ∧ RelN s d' w' ∧ (X → RelB s d' w') ∧ ∀ j, j ≤ 11 ∨ (452 ≤ j ∧ j < 1916 ∧ (5 ≤ (j - 452) % 24 ∨ (j - 452) % 24 ≤ 2)) ∨ (420 ≤ j ∧ j < 452) ∨ 1916 ≤ j → w' j = w j := by
  intro nc
  induction nc with
  | zero =>
    intro nr o acc d w h0 hg h hX h1 h2
    obtain ⟨⟨a1, a2, a3⟩, ⟨o1, o2⟩, -⟩ := id h
    refine ⟨d, w, ?_, ?_, hg, h, hX, fun _ _ => rfl⟩
    · show st_68_22 s N r4 _ acc i o d = _
      unfold st_68_22
      rw [if_neg (by rw [o1]; omega), a2, Int.sub_self, Int.add_zero]
    · cases nr with
      | zero =>
        show ST_223_12 _ o w = _
        unfold ST_223_12
        rw [if_neg (by omega)]
      | succ nr =>
        show ST_223_12 _ o w = _
        unfold ST_223_12
        rw [if_neg (by omega)]
  | succ nc ih =>
    intro nr o acc d w h0 hg h hX h1 h2
    obtain ⟨⟨a1, a2, a3⟩, ⟨o1, o2⟩, -⟩ := id h
    by_cases c1 : o < w 7
    · cases nr with
      | zero => omega
      | succ nr =>
        obtain ⟨j1, j2, j3, j4, j5⟩ := serve hg h hX ⟨h0, c1⟩
        have e : lp_68_22 s N r4 (nc + 1) acc i o d = lp_68_22 s N r4 nc (acc + v_69 s o d) i (o + 1) (g_69 s o d) := by
          show st_68_22 s N r4 _ acc i o d = _
          unfold st_68_22
          rw [if_pos (by rw [o1]; exact c1)]
        have e2 : LP_223_12 (nr + 1) o w = LP_223_12 nr (o + 1) (hourO o w) := by
          show ST_223_12 _ o w = _
          unfold ST_223_12 hourO
          rw [if_pos c1]
          split
          · rfl
          · split <;> rfl
        rw [e, e2]
        have e7 := j4 7 (by omega)
        have e0 := j4 0 (by omega)
        obtain ⟨d', w', k1, k2, k3, k4, k5, k6⟩ := ih nr (o + 1) (acc + v_69 s o d) (g_69 s o d) (hourO o w) (by omega) j1 j2 j3 (by omega) (by omega)
        refine ⟨d', w', ?_, k2, k3, k4, k5, fun j hj => by rw [k6 j hj, j4 j hj]⟩
        rw [k1, e0, j5, show acc + v_69 s o d + (srvN w' - (srvN w + v_69 s o d)) = acc + (srvN w' - srvN w) by omega]
    · refine ⟨d, w, ?_, ?_, hg, h, hX, fun _ _ => rfl⟩
      · show st_68_22 s N r4 _ acc i o d = _
        unfold st_68_22
        rw [if_neg (by rw [o1]; omega), a2, Int.sub_self, Int.add_zero]
      · cases nr with
        | zero =>
          show ST_223_12 _ o w = _
          unfold ST_223_12
          rw [if_neg (by omega)]
        | succ nr =>
          show ST_223_12 _ o w = _
          unfold ST_223_12
          rw [if_neg (by omega)]
theorem hour1 {s N i acc : Int} {r4 : Int → Int → mD → Int × mD} {d : mD} {w : Row} (hg : GG w) (h : Rel s d w) (h0 : w 0 ≤ 1198) :
    ∃ d' : mD, lp_68_22 s N r4 (6 - 0 : Int).toNat acc i 0 (mset d s 2 (d s 2 + 1)) = r4 (acc + (srvN (W_223 w) - srvN w)) (i + 1) d' ∧ GG (W_223 w) ∧ Rel s d' (W_223 w) ∧ (∀ j, j = 0 → W_223 w j = w 0 + 1) ∧ (∀ j, (2 ≤ j ∧ j ≤ 9) ∨ (452 ≤ j ∧ j < 1916 ∧ (5 ≤ (j - 452) % 24 ∨ (j - 452) % 24 ≤ 2)) → W_223 w j = w j) ∧ GXI w (W_223 w) := by
  obtain ⟨n7, n8, n9, n10, n11, n0, n1, n2, n3, n4, n5, n6⟩ := id hg.1
  obtain ⟨g1, r1, b1⟩ := tick hg h h0
  have e0 : ws w 0 (w 0 + 1) 0 = w 0 + 1 := wse rfl
  have ew : ∀ i, ¬ i = 0 → ws w 0 (w 0 + 1) i = w i := fun i hi => wsn hi
  obtain ⟨d1, w1, k1, k2, k3, k4, k5, k6⟩ := officeLoop (s := s) (N := N) (i := i) (r4 := r4) (X := ¬ (w 0 + 1) % 20 = 0) (6 - 0 : Int).toNat (6 - 0 : Int).toNat 0 acc (mset d s 2 (d s 2 + 1)) (ws w 0 (w 0 + 1)) (by omega) g1 r1 b1 (by rw [ew 7 (by omega), show (((6 - 0 : Int).toNat : Nat) : Int) = 6 by decide]; omega) (by rw [ew 7 (by omega), show (((6 - 0 : Int).toNat : Nat) : Int) = 6 by decide]; omega)
  rw [e0] at k1
  have f0 : w1 0 = w 0 + 1 := by rw [k6 0 (by omega), e0]
  have fw : ∀ j, ¬ j = 0 → j ≤ 11 ∨ (452 ≤ j ∧ j < 1916 ∧ (5 ≤ (j - 452) % 24 ∨ (j - 452) % 24 ≤ 2)) ∨ (420 ≤ j ∧ j < 452) ∨ 1916 ≤ j → w1 j = w j := fun j a b => by rw [k6 j b, ew j a]
  have sN : srvN (ws w 0 (w 0 + 1)) = srvN w := srvN_of n9 (fun i hi => ew i (by omega))
  rw [sN] at k1
  have eW : W_223 w = LP_223_71 (61 - 0 : Int).toNat 0 w1 := k2
  have key : ∀ (d2 : mD) (w2 : Row), LP_223_71 (61 - 0 : Int).toNat 0 w1 = W_219 w2 → GG w2 → Rel s d2 w2 → (∀ i, ¬ i = 10 → ¬ (1916 ≤ i ∧ i < 2916) → w2 i = w1 i) ∧ XR w1 w2 → ((acc + (srvN w1 - srvN w)) = acc + (srvN (W_223 w) - srvN w)) ∧ GG (W_223 w) ∧ Rel s (g_82 s d2) (W_223 w) ∧ (∀ j, j = 0 → W_223 w j = w 0 + 1) ∧ (∀ j, (2 ≤ j ∧ j ≤ 9) ∨ (452 ≤ j ∧ j < 1916 ∧ (5 ≤ (j - 452) % 24 ∨ (j - 452) % 24 ≤ 2)) → W_223 w j = w j) ∧ GXI w (W_223 w) := by
    intro d2 w2 q1 q2 q3 ⟨q4, q5⟩
    have q6 := settleX q2 q3
    obtain ⟨-, p2, p3, p4⟩ := settle q2 q3
    rw [eW, q1]
    have hs : srvN (W_219 w2) = srvN w1 := by
      rw [srvN_of (w := w2) (w' := W_219 w2) q2.1.2.2.1 (fun i hi => p4 i (by omega) (by omega) (by omega) (by omega))]
      exact srvN_of k3.1.2.2.1 (fun i hi => q4 i (by omega) (by omega))
    refine ⟨by rw [hs], p2, p3, fun j hj => ?_, fun j hj => ?_, GXI.trans (GXI.keep n8 (fw 8 (by omega) (by omega)) (fw 9 (by omega) (by omega)) (fun t q a b u v => fw _ (by omega) (Or.inr (Or.inl ⟨by omega, by omega, Or.inl (by omega)⟩))) (fun p a b => fw _ (by omega) (by omega)) (Int.le_of_eq (C2_of (fw 10 (by omega) (by omega)) (fun k a b => by rw [fw (1916 + 5 * k + 3) (by omega) (by omega)])).symm)) (q5.trans q6).1⟩
    · rw [hj, p4 0 (by omega) (by omega) (by omega) (by omega), q4 0 (by omega) (by omega), f0]
    · rw [p4 j (by omega) (by omega) (by omega) (by omega), q4 j (by omega) (by omega), fw j (by omega) (by omega)]
  by_cases c : (w 0 + 1) % 20 = 0
  · rw [if_pos c] at k1
    have nw := newWeek k3 k4 (fun k a b => by
      rw [fw 10 (by omega) (by omega)] at b
      have := hg.2.2.2.2.2.1 k a b
      rw [fw _ (by omega) (by omega), f0]
      omega) (fun t p a b x y => by
      rw [fw 9 (by omega) (by omega)] at b
      have := (hg.2.2.2.2.1 t a b).2.2.2.2 p x y
      rw [fw (452 + 24 * t + 8 + p) (by omega) (Or.inr (Or.inl ⟨by omega, by omega, Or.inl (by omega)⟩)), f0]
      omega) (by rw [f0]; exact c)
    obtain ⟨w2, q1, q2, q3, q4⟩ := weekLoop (s := s) (60 - 0 : Int).toNat (61 - 0 : Int).toNat 0 (g_49 (s + 10) d1) w1 (by omega) k3 nw (by rw [f0]; exact c) (by rw [fw 9 (by omega) (by omega), show (((60 - 0 : Int).toNat : Nat) : Int) = 60 by decide]; omega) (by rw [fw 9 (by omega) (by omega), show (((61 - 0 : Int).toNat : Nat) : Int) = 61 by decide]; omega)
    obtain ⟨z1, z2⟩ := key (g_70 s d1) w2 q1 q2 q3 q4
    rw [z1] at k1
    exact ⟨_, k1, z2⟩
  · rw [if_neg c] at k1
    have hr := k4.r (k5 c)
    obtain ⟨z1, z2⟩ := key d1 w1 (by
      have : ∀ n : Nat, 0 < n → LP_223_71 n 0 w1 = W_219 w1 := fun n hn => by
        cases n with
        | zero => omega
        | succ n =>
          show ST_223_71 _ 0 w1 = _
          unfold ST_223_71
          split
          · rw [if_neg (by rw [f0]; exact c)]
          · rfl
      exact this _ (by decide)) k3 hr ⟨fun _ _ _ => rfl, XR.refl⟩
    rw [z1] at k1
    exact ⟨_, k1, z2⟩
def hoursW : Nat → Row → Row
  | 0, w => w
  | n + 1, w => hoursW n (W_223 w)
theorem passLoop {s N : Int} : ∀ (n : Nat) (i acc : Int) (d : mD) (w : Row), GG w → Rel s d w → N - i = (n : Int) → w 0 + (n : Int) ≤ 1199 → (lp_68_4 s N n acc i d).1 = acc + (srvN (hoursW n w) - srvN w) ∧ GG (hoursW n w) ∧ Rel s (lp_68_4 s N n acc i d).2 (hoursW n w) ∧ hoursW n w 0 = w 0 + (n : Int) ∧ (∀ j, (2 ≤ j ∧ j ≤ 9) ∨ (452 ≤ j ∧ j < 1916 ∧ (5 ≤ (j - 452) % 24 ∨ (j - 452) % 24 ≤ 2)) → hoursW n w j = w j) ∧ GXI w (hoursW n w) := by
  intro n
  induction n with
  | zero =>
    intro i acc d w hg h hn h9
    have e : lp_68_4 s N 0 acc i d = (acc, d) := by
      show st_68_4 s N _ acc i d = _
      unfold st_68_4
      rw [if_neg (by omega)]
    rw [e]
    exact ⟨by show acc = acc + (srvN w - srvN w); omega, hg, h, by show w 0 = w 0 + ((0 : Nat) : Int); omega, fun _ _ => rfl, fun a b => ⟨a, b⟩⟩
  | succ n ih =>
    intro i acc d w hg h hn h9
    obtain ⟨d', k1, k2, k3, k4, k5, k6⟩ := hour1 (N := N) (i := i) (acc := acc) (r4 := lp_68_4 s N n) hg h (by omega)
    have e : lp_68_4 s N (n + 1) acc i d = lp_68_4 s N n (acc + (srvN (W_223 w) - srvN w)) (i + 1) d' := by
      rw [← k1]
      show st_68_4 s N _ acc i d = _
      unfold st_68_4
      rw [if_pos (by omega)]
    have f0 := k4 0 rfl
    obtain ⟨j1, j2, j3, j4, j5, j6⟩ := ih (i + 1) (acc + (srvN (W_223 w) - srvN w)) d' (W_223 w) k2 k3 (by omega) (by omega)
    rw [e]
    refine ⟨?_, j2, j3, ?_, fun j hj => ?_, k6.trans j6⟩
    · rw [j1]
      show _ = acc + (srvN (hoursW n (W_223 w)) - srvN w)
      omega
    · show hoursW n (W_223 w) 0 = _
      rw [j4, f0]
      omega
    · show hoursW n (W_223 w) j = _
      rw [j5 j hj, k5 j hj]
theorem passHours {s N : Int} {d : mD} {w : Row} (hN : 0 ≤ N) (hg : GG w) (h : Rel s d w) (h9 : w 0 + N ≤ 1199) : v_68 s N d = srvN (hoursW N.toNat w) - srvN w ∧ GG (hoursW N.toNat w) ∧ Rel s (g_68 s N d) (hoursW N.toNat w) ∧ hoursW N.toNat w 0 = w 0 + N ∧ (∀ j, (2 ≤ j ∧ j ≤ 9) ∨ (452 ≤ j ∧ j < 1916 ∧ (5 ≤ (j - 452) % 24 ∨ (j - 452) % 24 ≤ 2)) → hoursW N.toNat w j = w j) ∧ GXI w (hoursW N.toNat w) := by
  have e : (N - 0).toNat = N.toNat := by rw [Int.sub_zero]
  obtain ⟨j1, j2, j3, j4, j5, j6⟩ := passLoop (s := s) (N := N) N.toNat 0 0 d w hg h (by omega) (by omega)
  unfold v_68 g_68 f_68
  rw [e]
  exact ⟨by rw [j1]; omega, j2, j3, by rw [j4]; omega, j5, j6⟩
/-! ===== joining a queue ===== -/
theorem csum_add {f g : Int → Int} : ∀ n : Nat, csum (fun i => f i + g i) n = csum f n + csum g n
  | 0 => rfl
  | n + 1 => by
    show csum (fun i => f i + g i) n + (f (n : Int) + g (n : Int)) = csum f n + f (n : Int) + (csum g n + g (n : Int))
    rw [csum_add n]
    omega
theorem csum_swap {h : Int → Int → Int} (N : Nat) : ∀ L : Nat, csum (fun k => csum (fun q => h k q) N) L = csum (fun q => csum (fun k => h k q) L) N
  | 0 => by
    show 0 = csum (fun q => 0) N
    exact (csum_zero (fun _ _ _ => rfl)).symm
  | L + 1 => by
    show csum (fun k => csum (fun q => h k q) N) L + csum (fun q => h (L : Int) q) N = csum (fun q => csum (fun k => h k q) L + h (L : Int) q) N
    rw [csum_swap N L, csum_add]
theorem csum_pt {N : Nat} {x : Int} (h0 : 0 ≤ x) (h1 : x < (N : Int)) : csum (fun q => if x = q then 1 else 0) N = 1 := by
  have h := csum_upd (f := fun q => if x = q then 1 else 0) (g := fun _ => 0) (n := N) (k := x) h0 h1 (fun i a b c => by
    show (if x = i then (1 : Int) else 0) = 0
    rw [if_neg (fun z => c z.symm)])
  rw [h, csum_zero (fun _ _ _ => rfl)]
  simp
theorem csum_const {N : Nat} {c : Int} : csum (fun _ => c) N = (N : Int) * c := by
  induction N with
  | zero => simp [csum]
  | succ n ih =>
    show csum (fun _ => c) n + c = _
    rw [ih, Int.natCast_add, Int.add_mul]
    simp
theorem pigeon {f : Int → Int} {L N : Nat} (hr : ∀ k : Int, 0 ≤ k → k < (L : Int) → 0 ≤ f k ∧ f k < (N : Int)) (hi : ∀ k i : Int, 0 ≤ i → i < k → k < (L : Int) → ¬ f i = f k) {p : Int} (p0 : 0 ≤ p) (p1 : p < (N : Int)) (hp : ∀ k : Int, 0 ≤ k → k < (L : Int) → ¬ f k = p) : (L : Int) + 1 ≤ (N : Int) := by
  have one : ∀ q : Int, ∀ M : Nat, (M : Int) ≤ (L : Int) → 0 ≤ csum (fun k => if f k = q then 1 else 0) M ∧ csum (fun k => if f k = q then 1 else 0) M ≤ 1 := by
    intro q M
    induction M with
    | zero => intro _; exact ⟨by simp [csum], by simp [csum]⟩
    | succ M ih =>
      intro hM
      have i := ih (by omega)
      show 0 ≤ csum (fun k => if f k = q then 1 else 0) M + (if f (M : Int) = q then 1 else 0) ∧ csum (fun k => if f k = q then 1 else 0) M + (if f (M : Int) = q then 1 else 0) ≤ 1
      by_cases c : f (M : Int) = q
      · rw [if_pos c, csum_zero (fun k a b => by
          rw [if_neg (fun z => hi (M : Int) k a b (by omega) (z.trans c.symm))])]
        omega
      · rw [if_neg c]
        omega
  have s1 : csum (fun k => csum (fun q => if f k = q then 1 else 0) N) L = (L : Int) := by
    rw [csum_congr (g := fun _ => 1) (fun k a b => csum_pt (hr k a b).1 (hr k a b).2), csum_const, Int.mul_one]
  rw [csum_swap] at s1
  have s2 := csum_upd (f := fun q => csum (fun k => if f k = q then 1 else 0) L) (g := fun q => if q = p then 1 else csum (fun k => if f k = q then 1 else 0) L) (n := N) (k := p) p0 p1 (fun i a b c => by
    show csum (fun k => if f k = i then (1 : Int) else 0) L = if i = p then 1 else csum (fun k => if f k = i then (1 : Int) else 0) L
    rw [if_neg c])
  have z : csum (fun k => if f k = p then (1 : Int) else 0) L = 0 := csum_zero (fun k a b => by rw [if_neg (hp k a b)])
  have s3 := (csum_rng (f := fun q => if q = p then 1 else csum (fun k => if f k = q then 1 else 0) L) (n := N) (B := 1) (fun i a b => by
    show 0 ≤ (if i = p then (1 : Int) else csum (fun k => if f k = i then 1 else 0) L) ∧ (if i = p then (1 : Int) else csum (fun k => if f k = i then 1 else 0) L) ≤ 1
    split
    · omega
    · exact one i L (by omega))).2
  rw [s2] at s1
  simp only [z, if_true] at s1
  omega
def NewW (p o : Int) (w w' : Row) : Prop := (w' (452 + 24 * w 9 + 0) = p ∧ w' (452 + 24 * w 9 + 1) = o ∧ w' (452 + 24 * w 9 + 2) = w 0 ∧ w' (452 + 24 * w 9 + 3) = -1 ∧ ∀ f, 4 ≤ f → f < 24 → w' (452 + 24 * w 9 + f) = 0) ∧ w' (12 + 68 * o + 7 + w (12 + 68 * o + 5)) = w 9 ∧ w' (12 + 68 * o + 5) = w (12 + 68 * o + 5) + 1 ∧ w' 9 = w 9 + 1
  ∧ ∀ i, ¬ (452 + 24 * w 9 ≤ i ∧ i < 452 + 24 * w 9 + 24) → ¬ i = 12 + 68 * o + 7 + w (12 + 68 * o + 5) → ¬ i = 12 + 68 * o + 5 → ¬ i = 9 → w' i = w i
theorem lp224 {p o T b : Int} : ∀ (n : Nat) (x : Int) (w : Row), 0 ≤ x → 24 - x ≤ (n : Int) → 9 < b → ∃ u : Row, LP_224_17 p o n T b x w = (T, ws (ws (ws (ws (ws (ws (ws u (b + 0) p) (b + 1) o) (b + 2) (u 0)) (b + 3) ((-1))) (((12 + (68 * o)) + 7) + (u ((12 + (68 * o)) + 5))) T) ((12 + (68 * o)) + 5) ((u ((12 + (68 * o)) + 5)) + 1)) 9 ((u 9) + 1)) ∧ (∀ f, x ≤ f → f < 24 → u (b + f) = 0) ∧ ∀ i, ¬ (b + x ≤ i ∧ i < b + 24) → u i = w i := by
  intro n
  induction n with
  | zero =>
    intro x w h0 hn hb
    refine ⟨w, ?_, fun f a c => by omega, fun _ _ => rfl⟩
    show ST_224_17 p o _ T b x w = _
    unfold ST_224_17
    rw [if_neg (by omega)]
  | succ n ih =>
    intro x w h0 hn hb
    by_cases c : x < 24
    · obtain ⟨u, i1, i2, i3⟩ := ih (x + 1) (ws w (b + x) 0) (by omega) (by omega) hb
      refine ⟨u, ?_, fun f a e => ?_, fun i hi => by rw [i3 i (by omega), wsn (by omega)]⟩
      · rw [← i1]
        show ST_224_17 p o _ T b x w = _
        unfold ST_224_17
        rw [if_pos c]
      · by_cases hf : f = x
        · rw [i3 _ (by omega), wse (by omega)]
        · exact i2 f (by omega) e
    · refine ⟨w, ?_, fun f a c => by omega, fun _ _ => rfl⟩
      show ST_224_17 p o _ T b x w = _
      unfold ST_224_17
      rw [if_neg c]
theorem newW {p o : Int} {w : Row} (ho : 0 ≤ o ∧ o ≤ 5) (h9 : 0 ≤ w 9 ∧ w 9 ≤ 60) (hl : 0 ≤ w (12 + 68 * o + 5) ∧ w (12 + 68 * o + 5) ≤ 60) : V_224 p o w = w 9 ∧ NewW p o w (W_224 p o w) := by
  obtain ⟨u, i1, i2, i3⟩ := lp224 (p := p) (o := o) (T := w 9) (b := 452 + 24 * w 9) (24 - 0 : Int).toNat 0 w (by omega) (by decide) (by omega)
  have e : F_224 p o w = _ := i1
  unfold V_224 W_224
  rw [e]
  have u0 : u 0 = w 0 := i3 0 (by omega)
  have u9 : u 9 = w 9 := i3 9 (by omega)
  have uq : u (12 + 68 * o + 5) = w (12 + 68 * o + 5) := i3 _ (by omega)
  refine ⟨rfl, ⟨?_, ?_, ?_, ?_, fun f a b => ?_⟩, ?_, ?_, ?_, fun i h1 h2 h3 h4 => ?_⟩
  · show ws _ _ _ _ = _
    rw [uq, u9, u0]
    simp (disch := omega) only [wse, wsn]
  · show ws _ _ _ _ = _
    rw [uq, u9, u0]
    simp (disch := omega) only [wse, wsn]
  · show ws _ _ _ _ = _
    rw [uq, u9, u0]
    simp (disch := omega) only [wse, wsn]
  · show ws _ _ _ _ = _
    rw [uq, u9, u0]
    simp (disch := omega) only [wse, wsn]
  · show ws _ _ _ _ = _
    rw [uq, u9, u0]
    simp (disch := omega) only [wsn]
    exact i2 f (by omega) b
  · show ws _ _ _ _ = _
    rw [uq, u9, u0]
    simp (disch := omega) only [wse, wsn]
  · show ws _ _ _ _ = _
    rw [uq, u9, u0]
    simp (disch := omega) only [wse, wsn]
  · simp (disch := omega) only [wse, wsn, u9]
  · show ws _ _ _ _ = _
    rw [uq, u9, u0]
    simp (disch := omega) only [wse, wsn]
    exact i3 i (by omega)
-- whether a person can join
theorem lp225 {p o : Int} : ∀ (n : Nat) (a x : Int) (w : Row), 0 ≤ x → w (12 + 68 * o + 5) - x ≤ (n : Int) → (a = 0 ∨ a = 1) → (LP_225_57 p o n (12 + 68 * o) a x w = 0 ∨ LP_225_57 p o n (12 + 68 * o) a x w = 1) ∧ (LP_225_57 p o n (12 + 68 * o) a x w = 1 ↔ a = 1 ∧ ∀ k, x ≤ k → k < w (12 + 68 * o + 5) → ¬ w (452 + 24 * w (12 + 68 * o + 7 + k) + 0) = p) := by
  have m00 : miand 0 0 = 0 := by decide
  have m10 : miand 1 0 = 0 := by decide
  have m01 : miand 0 1 = 0 := by decide
  have m11 : miand 1 1 = 1 := by decide
  intro n
  induction n with
  | zero =>
    intro a x w h0 hn ha
    have e : LP_225_57 p o 0 (12 + 68 * o) a x w = a := by
      show ST_225_57 p o _ (12 + 68 * o) a x w = a
      unfold ST_225_57
      rw [if_neg (by omega)]
    rw [e]
    exact ⟨ha, ⟨fun z => ⟨z, fun k b c => by omega⟩, fun z => z.1⟩⟩
  | succ n ih =>
    intro a x w h0 hn ha
    by_cases c : x < w (12 + 68 * o + 5)
    · by_cases c2 : w (452 + 24 * w (12 + 68 * o + 7 + x) + 0) = p
      · have e : LP_225_57 p o (n + 1) (12 + 68 * o) a x w = LP_225_57 p o n (12 + 68 * o) 0 (x + 1) w := by
          show ST_225_57 p o _ (12 + 68 * o) a x w = _
          unfold ST_225_57
          rw [if_pos c, if_pos c2]
          rcases ha with rfl | rfl
          · rw [m00]
          · rw [m10]
        rw [e]
        obtain ⟨i1, i2⟩ := ih 0 (x + 1) w (by omega) (by omega) (Or.inl rfl)
        refine ⟨i1, i2.trans ⟨fun z => absurd z.1 (by decide), fun z => absurd c2 (z.2 x (by omega) c)⟩⟩
      · have e : LP_225_57 p o (n + 1) (12 + 68 * o) a x w = LP_225_57 p o n (12 + 68 * o) a (x + 1) w := by
          show ST_225_57 p o _ (12 + 68 * o) a x w = _
          unfold ST_225_57
          rw [if_pos c, if_neg c2]
          rcases ha with rfl | rfl
          · rw [m01]
          · rw [m11]
        rw [e]
        obtain ⟨i1, i2⟩ := ih a (x + 1) w (by omega) (by omega) ha
        refine ⟨i1, i2.trans ⟨fun z => ⟨z.1, fun k b c => ?_⟩, fun z => ⟨z.1, fun k b c => z.2 k (by omega) c⟩⟩⟩
        by_cases hk : k = x
        · rw [hk]; exact c2
        · exact z.2 k (by omega) c
    · have e : LP_225_57 p o (n + 1) (12 + 68 * o) a x w = a := by
        show ST_225_57 p o _ (12 + 68 * o) a x w = a
        unfold ST_225_57
        rw [if_neg c]
      rw [e]
      exact ⟨ha, ⟨fun z => ⟨z, fun k b c => by omega⟩, fun z => z.1⟩⟩
def CanJ (p o : Int) (w : Row) : Prop := w 9 < 60 ∧ ¬ w (12 + 68 * o + 4) = 0 ∧ w (12 + 68 * o + 5) < w (12 + 68 * o + 3) ∧ ∀ k, 0 ≤ k → k < w (12 + 68 * o + 5) → ¬ w (452 + 24 * w (12 + 68 * o + 7 + k) + 0) = p
theorem v225 {p o : Int} {w : Row} (hl : w (12 + 68 * o + 5) ≤ 61) : (V_225 p o w = 0 ∨ V_225 p o w = 1) ∧ (V_225 p o w = 1 ↔ CanJ p o w) := by
  have hf : (((61 - 0 : Int).toNat : Nat) : Int) = 61 := by decide
  obtain ⟨a1, a2⟩ := lp225 (p := p) (o := o) (61 - 0 : Int).toNat 0 0 w (by omega) (by rw [hf]; omega) (Or.inl rfl)
  obtain ⟨b1, b2⟩ := lp225 (p := p) (o := o) (61 - 0 : Int).toNat 1 0 w (by omega) (by rw [hf]; omega) (Or.inr rfl)
  unfold V_225 CanJ
  by_cases c1 : w 9 < 60
  · rw [if_pos c1]
    by_cases c2 : w (12 + 68 * o + 4) = 0
    · rw [if_pos c2]
      exact ⟨a1, a2.trans ⟨fun z => absurd z.1 (by decide), fun z => absurd c2 z.2.1⟩⟩
    · rw [if_neg c2]
      by_cases c3 : w (12 + 68 * o + 5) < w (12 + 68 * o + 3)
      · rw [if_pos c3]
        exact ⟨b1, b2.trans ⟨fun z => ⟨c1, c2, c3, z.2⟩, fun z => ⟨rfl, z.2.2.2⟩⟩⟩
      · rw [if_neg c3]
        exact ⟨a1, a2.trans ⟨fun z => absurd z.1 (by decide), fun z => absurd z.2.2.1 c3⟩⟩
  · rw [if_neg c1]
    exact ⟨a1, a2.trans ⟨fun z => absurd z.1 (by decide), fun z => absurd z.1 c1⟩⟩
theorem lp62 {s o p : Int} : ∀ (n : Nat) (x : Int) (d : mD), 0 ≤ x → d (s + 8) o - x ≤ (n : Int) → (lp_62_2 s o p n x d = -1 ∧ (∀ k, x ≤ k → k < d (s + 8) o → ¬ d (s + 50) (d (s + 9) (o * 16 + k)) = p)) ∨ (x ≤ lp_62_2 s o p n x d ∧ lp_62_2 s o p n x d < d (s + 8) o ∧ d (s + 50) (d (s + 9) (o * 16 + lp_62_2 s o p n x d)) = p ∧ ∀ k, x ≤ k → k < lp_62_2 s o p n x d → ¬ d (s + 50) (d (s + 9) (o * 16 + k)) = p) := by
  intro n
  induction n with
  | zero =>
    intro x d h0 hn
    have e : lp_62_2 s o p 0 x d = -1 := by
      show st_62_2 s o p _ x d = -1
      unfold st_62_2
      rw [if_neg (by rw [show s + 2 + 6 = s + 8 by omega]; omega)]
    rw [e]
    exact Or.inl ⟨rfl, fun k a b => by omega⟩
  | succ n ih =>
    intro x d h0 hn
    by_cases c : x < d (s + 8) o
    · by_cases c2 : d (s + 50) (d (s + 9) (o * 16 + x)) = p
      · have e : lp_62_2 s o p (n + 1) x d = x := by
          show st_62_2 s o p _ x d = x
          unfold st_62_2 v_38
          rw [show s + 2 + 6 = s + 8 by omega, show s + 49 + 1 = s + 50 by omega, show s + 2 + 7 = s + 9 by omega, if_pos c, if_pos c2]
        rw [e]
        exact Or.inr ⟨by omega, c, c2, fun k a b => by omega⟩
      · have e : lp_62_2 s o p (n + 1) x d = lp_62_2 s o p n (x + 1) d := by
          show st_62_2 s o p _ x d = _
          unfold st_62_2 v_38
          rw [show s + 2 + 6 = s + 8 by omega, show s + 49 + 1 = s + 50 by omega, show s + 2 + 7 = s + 9 by omega, if_pos c, if_neg c2]
        rw [e]
        rcases ih (x + 1) d (by omega) (by omega) with ⟨i1, i2⟩ | ⟨i1, i2, i3, i4⟩
        · refine Or.inl ⟨i1, fun k a b => ?_⟩
          by_cases hk : k = x
          · rw [hk]; exact c2
          · exact i2 k (by omega) b
        · refine Or.inr ⟨by omega, i2, i3, fun k a b => ?_⟩
          by_cases hk : k = x
          · rw [hk]; exact c2
          · exact i4 k (by omega) b
    · have e : lp_62_2 s o p (n + 1) x d = -1 := by
        show st_62_2 s o p _ x d = -1
        unfold st_62_2
        rw [if_neg (by rw [show s + 2 + 6 = s + 8 by omega]; omega)]
      rw [e]
      exact Or.inl ⟨rfl, fun k a b => by omega⟩
-- a queue's tickets and their persons, on both sides
theorem Rel.qp {s : Int} {d : mD} {w : Row} (hg : GG w) (hQ : RelQ s d w) (hT : RelT s d w) {o k : Int} (ho : 0 ≤ o ∧ o < w 7) (h0 : 0 ≤ k) (h1 : k < w (12 + 68 * o + 5)) : d (s + 9) (o * 16 + k) = w (12 + 68 * o + 7 + k) ∧ d (s + 50) (d (s + 9) (o * 16 + k)) = w (452 + 24 * w (12 + 68 * o + 7 + k) + 0) := by
  have e := hQ o ho.1 ho.2 k h0 h1
  have g := hg.2.2.1 o ho.1 ho.2 k h0 h1
  exact ⟨e, by rw [e]; exact (hT.2 _ g.1.1 g.1.2).1⟩
theorem canQ {s p o : Int} {d : mD} {w : Row} (hg : GG w) (h : Rel s d w) (ho : 0 ≤ o ∧ o < w 7) : v_60 s p o d = V_225 p o w ∧ (V_225 p o w = 0 ∨ V_225 p o w = 1) ∧ (V_225 p o w = 1 ↔ CanJ p o w) := by
  have go := hg.2.1 o ho.1 ho.2
  obtain ⟨b1, b2⟩ := v225 (p := p) (o := o) (w := w) (by omega)
  refine ⟨?_, b1, b2⟩
  obtain ⟨-, ⟨o1, o2⟩, rQ, -, rT, -⟩ := h
  have g := o2 o ho.1 ho.2
  have l := lp62 (s := s) (o := o) (p := p) (16 - 0 : Int).toNat 0 d (by omega) (by rw [show (((16 - 0 : Int).toNat : Nat) : Int) = 16 by decide, g.2.2.2.2.2]; omega)
  have e62 : v_62 s o p d = -1 ↔ ∀ k, 0 ≤ k → k < w (12 + 68 * o + 5) → ¬ w (452 + 24 * w (12 + 68 * o + 7 + k) + 0) = p := by
    unfold v_62
    rw [g.2.2.2.2.2] at l
    constructor
    · intro z k a b
      rcases l with ⟨-, l⟩ | ⟨l1, -⟩
      · have := l k a b
        rw [(Rel.qp hg rQ rT ho a b).2] at this
        exact this
      · omega
    · intro z
      rcases l with ⟨l, -⟩ | ⟨l1, l2, l3, -⟩
      · exact l
      · rw [(Rel.qp hg rQ rT ho l1 l2).2] at l3
        exact absurd l3 (z _ l1 l2)
  unfold v_60
  rw [show s + 2 + 5 = s + 7 by omega, show s + 2 + 6 = s + 8 by omega, show s + 2 + 4 = s + 6 by omega, rT.1, g.2.2.2.2.1, g.2.2.2.2.2, g.2.2.2.1]
  unfold CanJ at b2
  by_cases c1 : w 9 < 60
  · rw [if_pos c1]
    by_cases c2 : w (12 + 68 * o + 4) = 0
    · rw [if_pos c2]
      rcases b1 with z | z
      · exact z.symm
      · exact absurd c2 (b2.mp z).2.1
    · rw [if_neg c2]
      by_cases c3 : w (12 + 68 * o + 5) < w (12 + 68 * o + 3)
      · rw [if_pos c3]
        by_cases c4 : v_62 s o p d = -1
        · rw [if_pos c4]
          exact (b2.mpr ⟨c1, c2, c3, e62.mp c4⟩).symm
        · rw [if_neg c4]
          rcases b1 with z | z
          · exact z.symm
          · exact absurd (e62.mpr (b2.mp z).2.2.2) c4
      · rw [if_neg c3]
        rcases b1 with z | z
        · exact z.symm
        · exact absurd (b2.mp z).2.2.1 c3
  · rw [if_neg c1]
    rcases b1 with z | z
    · exact z.symm
    · exact absurd (b2.mp z).1 c1
theorem joinLen {p o : Int} {w : Row} (hg : GG w) (ho : 0 ≤ o ∧ o < w 7) (hp : 0 ≤ p ∧ p < w 8) (hc : CanJ p o w) : w (12 + 68 * o + 5) + 1 ≤ w 8 := by
  have go := hg.2.1 o ho.1 ho.2
  have n8 := hg.1.2.1
  have h := pigeon (f := fun k => w (452 + 24 * w (12 + 68 * o + 7 + k) + 0)) (L := (w (12 + 68 * o + 5)).toNat) (N := (w 8).toNat) (fun k a b => by
    have g := hg.2.2.1 o ho.1 ho.2 k a (by omega)
    have gt := hg.2.2.2.1 _ g.1.1 g.1.2
    show 0 ≤ w (452 + 24 * w (12 + 68 * o + 7 + k) + 0) ∧ w (452 + 24 * w (12 + 68 * o + 7 + k) + 0) < (((w 8).toNat : Nat) : Int)
    omega) (fun k i a b c => (hg.2.2.1 o ho.1 ho.2 k (by omega) (by omega)).2.2.2 i a b |>.2) hp.1 (by omega) (fun k a b => hc.2.2.2 k a (by omega))
  omega
theorem join1 {s p o : Int} {d : mD} {w w' : Row} (hg : GG w) (h : Rel s d w) (ho : 0 ≤ o ∧ o < w 7) (hp : 0 ≤ p ∧ p < w 8) (hc : CanJ p o w) (hS : NewW p o w w') : GG w' ∧ Rel s (g_61 s p o d) w' ∧ v_61 s p o d = w 9 := by
  have jl := joinLen hg ho hp hc
  obtain ⟨hN, hO, hQ, hT, hC, hK, hR⟩ := id hg
  obtain ⟨n7, n8, n9, n10, n11, n0, n1, n2, n3, n4, n5, n6⟩ := id hN
  obtain ⟨⟨a1, a2, a3⟩, ⟨o1, o2⟩, rQ, rP, ⟨t1, t2⟩, rC, rK, rR, rB, rH⟩ := h
  obtain ⟨c1, c2, c3, c4⟩ := hc
  obtain ⟨⟨s1, s2, s3, s4, s5⟩, s7, s8, s9, s6⟩ := hS
  have S6 : ∀ i, (¬ (452 + 24 * w 9 ≤ i ∧ i < 452 + 24 * w 9 + 24) ∧ ¬ i = 12 + 68 * o + 7 + w (12 + 68 * o + 5) ∧ ¬ i = 12 + 68 * o + 5 ∧ ¬ i = 9) → w' i = w i := fun i h => s6 i h.1 h.2.1 h.2.2.1 h.2.2.2
  have go := hO o ho.1 ho.2
  have gc := o2 o ho.1 ho.2
  have e : g_61 s p o d = mset (mset (mset (mset (mset (mset (mset (mset (mset (mset d (s + 50) (w 9) p) (s + 51) (w 9) o) (s + 52) (w 9) (w 0)) (s + 53) (w 9) (-1)) (s + 54) (w 9) 0) (s + 55) (w 9) 0) (s + 56) (w 9) 0) (s + 49) 0 (w 9 + 1)) (s + 9) (o * 16 + w (12 + 68 * o + 5)) (w 9)) (s + 8) o (w (12 + 68 * o + 5) + 1) := by
    unfold g_61
    have e96 : g_96 (s + 49) p o (d s 2) d = mset (mset (mset (mset (mset (mset (mset (mset d (s + 50) (w 9) p) (s + 51) (w 9) o) (s + 52) (w 9) (w 0)) (s + 53) (w 9) (-1)) (s + 54) (w 9) 0) (s + 55) (w 9) 0) (s + 56) (w 9) 0) (s + 49) 0 (w 9 + 1) := by
      unfold g_96
      rw [t1, a2, if_pos c1]
      simp only [Int.add_assoc, Int.reduceAdd]
    rw [e96, t1, show s + 2 + 6 = s + 8 by omega, gc.2.2.2.2.2]
    generalize hd1 : mset (mset (mset (mset (mset (mset (mset (mset d (s + 50) (w 9) p) (s + 51) (w 9) o) (s + 52) (w 9) (w 0)) (s + 53) (w 9) (-1)) (s + 54) (w 9) 0) (s + 55) (w 9) 0) (s + 56) (w 9) 0) (s + 49) 0 (w 9 + 1) = d1
    have e8 : d1 (s + 8) o = w (12 + 68 * o + 5) := by
      rw [← hd1]
      simp (disch := omega) only [ms_a]
      exact gc.2.2.2.2.2
    unfold g_40
    rw [show s + 2 + 6 = s + 8 by omega, e8, if_neg (by omega), if_neg (by omega), if_pos (by omega)]
    have st : ∀ (n : Nat), lp_40_40 (s + 2) o (w (12 + 68 * o + 5)) (w 9) n (o * 16) (w (12 + 68 * o + 5)) d1 = mset (mset d1 (s + 9) (o * 16 + w (12 + 68 * o + 5)) (w 9)) (s + 8) o (w (12 + 68 * o + 5) + 1) := fun n => by
      cases n with
      | zero =>
        show st_40_40 (s + 2) o _ _ _ (o * 16) _ d1 = _
        unfold st_40_40
        rw [if_neg (by omega), show s + 2 + 6 = s + 8 by omega, e8, show s + 2 + 7 = s + 9 by omega]
      | succ n =>
        show st_40_40 (s + 2) o _ _ _ (o * 16) _ d1 = _
        unfold st_40_40
        rw [if_neg (by omega), show s + 2 + 6 = s + 8 by omega, e8, show s + 2 + 7 = s + 9 by omega]
    exact st _
  generalize hd : g_61 s p o d = d' at *
  have fd : ∀ b, ¬ (s + 49 ≤ b ∧ b ≤ s + 56) → ¬ b = s + 9 → ¬ b = s + 8 → d' b = d b := fun b x y z => by
    rw [e]
    funext j
    simp (disch := omega) only [ms_a]
  have ew : ∀ i, (i ≤ 11 ∧ ¬ i = 9) ∨ 1916 ≤ i ∨ (420 ≤ i ∧ i < 452) → w' i = w i := fun i hi => S6 i (by omega)
  have et : ∀ t f, 0 ≤ t → t < w 9 → 0 ≤ f → f < 24 → w' (452 + 24 * t + f) = w (452 + 24 * t + f) := fun t f a b x y => S6 _ (by omega)
  have eo : ∀ o' f, 0 ≤ o' → o' < w 7 → 0 ≤ f → f ≤ 6 → ¬ f = 5 → w' (12 + 68 * o' + f) = w (12 + 68 * o' + f) := fun o' f a b x y z => S6 _ (by omega)
  have pO : ∀ k, 0 ≤ k → k < w 10 → perO w' k = perO w k := fun k a b => by
    have g := hK k a b
    unfold perO
    rw [ew (1916 + 5 * k + 1) (by omega), et _ 0 (by omega) (by omega) (by decide) (by decide)]
  have z8 : ∀ q, 0 ≤ q → q < 16 → w' (452 + 24 * w 9 + 8 + q) = 0 := fun q a b => by
    have := s5 (8 + q) (by omega) (by omega)
    rw [show 452 + 24 * w 9 + (8 + q) = 452 + 24 * w 9 + 8 + q by omega] at this
    exact this
  have e8 : ∀ t q, 0 ≤ t → t < w 9 → 0 ≤ q → q < 16 → w' (452 + 24 * t + 8 + q) = w (452 + 24 * t + 8 + q) := fun t q a b x y => by
    have := et t (8 + q) a b (by omega) (by omega)
    rw [show 452 + 24 * t + (8 + q) = 452 + 24 * t + 8 + q by omega] at this
    exact this
  refine ⟨⟨?_, ?_, ?_, ?_, ?_, ?_, hR.k (fun i hi => ew i (by omega)) hN⟩, ⟨?_, ?_, ?_, rP.k (fun b x y => fd b (by omega) (by omega) (by omega)) (fun i hi => ew i (by omega)) n8, ?_, ?_, rK.k (by rw [fd _ (by omega) (by omega) (by omega)]) (fun b x y => fd b (by omega) (by omega) (by omega)) (fun i hi => ew i (by omega)) n10, rR.k (by rw [fd _ (by omega) (by omega) (by omega)]) (fd _ (by omega) (by omega) (by omega)) (fun i hi => ew i (by omega)) n11, ?_, ?_⟩, ?_⟩
  · unfold GN
    rw [s9, ew 0 (by omega), ew 1 (by omega), ew 2 (by omega), ew 3 (by omega), ew 4 (by omega), ew 5 (by omega), ew 6 (by omega), ew 7 (by omega), ew 8 (by omega), ew 10 (by omega), ew 11 (by omega)]
    omega
  · -- offices
    intro o' x y
    rw [ew 7 (by omega)] at y
    have g := hO o' x y
    rw [eo o' 1 x y (by omega) (by omega) (by omega), eo o' 2 x y (by omega) (by omega) (by omega), eo o' 3 x y (by omega) (by omega) (by omega), eo o' 4 x y (by omega) (by omega) (by omega), eo o' 6 x y (by omega) (by omega) (by omega), s9, csum_s _ n9.1]
    have hs : csum (fun t => if w' (452 + 24 * t + 4) = 1 ∧ w' (452 + 24 * t + 1) = o' then 1 else 0) (w 9).toNat = csum (fun t => if w (452 + 24 * t + 4) = 1 ∧ w (452 + 24 * t + 1) = o' then 1 else 0) (w 9).toNat := csum_congr (fun t a b => by rw [et t 4 a (by omega) (by decide) (by decide), et t 1 a (by omega) (by decide) (by decide)])
    have hz : (if w' (452 + 24 * w 9 + 4) = 1 ∧ w' (452 + 24 * w 9 + 1) = o' then (1 : Int) else 0) = 0 := by
      rw [s5 4 (by omega) (by omega), if_neg (fun z => absurd z.1 (by decide))]
    rw [hs, hz]
    by_cases hoo : o' = o
    · subst hoo
      rw [s8]
      refine ⟨g.1, g.2.1, g.2.2.1, g.2.2.2.1, by omega, fun z => absurd z c2, by omega⟩
    · rw [S6 (12 + 68 * o' + 5) (by omega)]
      exact ⟨g.1, g.2.1, g.2.2.1, g.2.2.2.1, g.2.2.2.2.1, g.2.2.2.2.2.1, by omega⟩
  · -- queues
    intro o' x y k u v
    rw [ew 7 (by omega)] at y
    have go' := hO o' x y
    have old : k < w (12 + 68 * o' + 5) → w' (12 + 68 * o' + 7 + k) = w (12 + 68 * o' + 7 + k) ∧ ((0 ≤ w' (12 + 68 * o' + 7 + k) ∧ w' (12 + 68 * o' + 7 + k) < w' 9) ∧ w' (452 + 24 * w' (12 + 68 * o' + 7 + k) + 1) = o' ∧ w' (452 + 24 * w' (12 + 68 * o' + 7 + k) + 4) = 0
        ∧ ∀ i, 0 ≤ i → i < k → w' (452 + 24 * w' (12 + 68 * o' + 7 + i) + 2) ≤ w' (452 + 24 * w' (12 + 68 * o' + 7 + k) + 2) ∧ ¬ w' (452 + 24 * w' (12 + 68 * o' + 7 + i) + 0) = w' (452 + 24 * w' (12 + 68 * o' + 7 + k) + 0)) := fun hk => by
      have g := hQ o' x y k u hk
      have ek : ∀ i, 0 ≤ i → i < w (12 + 68 * o' + 5) → w' (12 + 68 * o' + 7 + i) = w (12 + 68 * o' + 7 + i) := fun i a b => by
        have hne : ¬ 12 + 68 * o' + 7 + i = 12 + 68 * o + 7 + w (12 + 68 * o + 5) := fun q => by
          by_cases hoo : o' = o
          · rw [hoo] at b q
            omega
          · omega
        exact s6 _ (by omega) hne (by omega) (by omega)
      rw [ek k u hk, s9, et _ 1 g.1.1 g.1.2 (by decide) (by decide), et _ 4 g.1.1 g.1.2 (by decide) (by decide), et _ 2 g.1.1 g.1.2 (by decide) (by decide), et _ 0 g.1.1 g.1.2 (by decide) (by decide)]
      refine ⟨rfl, by omega, g.2.1, g.2.2.1, fun i a b => ?_⟩
      have gi := hQ o' x y i a (by omega)
      rw [ek i a (by omega), et _ 2 gi.1.1 gi.1.2 (by decide) (by decide), et _ 0 gi.1.1 gi.1.2 (by decide) (by decide)]
      exact g.2.2.2 i a b
    by_cases hoo : o' = o
    · subst hoo
      rw [s8] at v
      by_cases hk : k = w (12 + 68 * o' + 5)
      · rw [hk, s7, s9, s2, s5 4 (by omega) (by omega), s3, s1]
        refine ⟨by omega, rfl, rfl, fun i a b => ?_⟩
        have gi := hQ o' x y i a b
        have gt := hT _ gi.1.1 gi.1.2
        rw [S6 (12 + 68 * o' + 7 + i) (by omega), et _ 2 gi.1.1 gi.1.2 (by decide) (by decide), et _ 0 gi.1.1 gi.1.2 (by decide) (by decide)]
        exact ⟨gt.2.2.1.2, c4 i a b⟩
      · exact (old (by omega)).2
    · rw [S6 (12 + 68 * o' + 5) (by omega)] at v
      exact (old v).2
  · -- tickets
    intro t x y
    rw [s9] at y
    rw [ew 0 (by omega), ew 7 (by omega), ew 8 (by omega)]
    by_cases ht : t = w 9
    · rw [ht, s1, s2, s3, s4, s5 4 (by omega) (by omega)]
      refine ⟨hp, ho, by omega, by omega, fun _ => ⟨rfl, w (12 + 68 * o + 5), by omega, by rw [s8]; omega, s7⟩, fun z => absurd rfl z⟩
    · have lt : t < w 9 := by omega
      have g := hT t x lt
      rw [et t 0 x lt (by decide) (by decide), et t 1 x lt (by decide) (by decide), et t 2 x lt (by decide) (by decide), et t 3 x lt (by decide) (by decide), et t 4 x lt (by decide) (by decide)]
      refine ⟨g.1, g.2.1, g.2.2.1, g.2.2.2.1, fun z => ?_, g.2.2.2.2.2⟩
      obtain ⟨z1, k, z2, z3, z4⟩ := g.2.2.2.2.1 z
      have go' := hO _ g.2.1.1 g.2.1.2
      refine ⟨z1, k, z2, ?_, ?_⟩
      · by_cases hoo : w (452 + 24 * t + 1) = o
        · rw [hoo] at z3 ⊢
          rw [s8]
          omega
        · rw [S6 _ (by omega)]
          exact z3
      · have hne : ¬ 12 + 68 * w (452 + 24 * t + 1) + 7 + k = 12 + 68 * o + 7 + w (12 + 68 * o + 5) := fun q => by
          by_cases hoo : w (452 + 24 * t + 1) = o
          · rw [hoo] at z3 q
            omega
          · omega
        rw [s6 _ (by omega) hne (by omega) (by omega)]
        exact z4
  · -- claims
    intro t x y
    rw [s9] at y
    rw [ew 0 (by omega)]
    by_cases ht : t = w 9
    · rw [ht, s5 4 (by omega) (by omega), s5 5 (by omega) (by omega), s5 6 (by omega) (by omega)]
      refine ⟨Or.inl rfl, Or.inl rfl, fun z => absurd z (by decide), fun z => absurd z (by decide), fun q a b => ?_⟩
      rw [z8 q a b]
      omega
    · have lt : t < w 9 := by omega
      have g := hC t x lt
      rw [et t 3 x lt (by decide) (by decide), et t 4 x lt (by decide) (by decide), et t 5 x lt (by decide) (by decide), et t 6 x lt (by decide) (by decide)]
      exact ⟨g.1, g.2.1, g.2.2.1, g.2.2.2.1, fun q a b => by rw [e8 t q x (by omega) a b]; exact g.2.2.2.2 q a b⟩
  · -- tokens
    intro k x y
    rw [ew 10 (by omega)] at y
    have g := hK k x y
    rw [ew (1916 + 5 * k + 0) (by omega), ew (1916 + 5 * k + 1) (by omega), ew (1916 + 5 * k + 2) (by omega), ew (1916 + 5 * k + 3) (by omega), ew (1916 + 5 * k + 4) (by omega), ew 0 (by omega), ew 8 (by omega), s9, pO k x y]
    refine ⟨g.1, by omega, g.2.2.1, g.2.2.2.1, g.2.2.2.2.1, fun i a b => ?_⟩
    rw [ew (1916 + 5 * i + 2) (by omega), pO i a (by omega)]
    exact g.2.2.2.2.2 i a b
  · exact ⟨by rw [fd _ (by omega) (by omega) (by omega), ew 1 (by omega)]; exact a1, by rw [fd _ (by omega) (by omega) (by omega), ew 0 (by omega)]; exact a2, fun k x y => by rw [fd _ (by omega) (by omega) (by omega), ew _ (by omega)]; exact a3 k x y⟩
  · refine ⟨by rw [fd _ (by omega) (by omega) (by omega), ew 7 (by omega)]; exact o1, fun o' x y => ?_⟩
    rw [ew 7 (by omega)] at y
    have g := o2 o' x y
    rw [fd (s + 3) (by omega) (by omega) (by omega), fd (s + 4) (by omega) (by omega) (by omega), fd (s + 5) (by omega) (by omega) (by omega), fd (s + 6) (by omega) (by omega) (by omega), fd (s + 7) (by omega) (by omega) (by omega), eo o' 0 x y (by omega) (by omega) (by omega), eo o' 1 x y (by omega) (by omega) (by omega), eo o' 2 x y (by omega) (by omega) (by omega), eo o' 3 x y (by omega) (by omega) (by omega), eo o' 4 x y (by omega) (by omega) (by omega)]
    refine ⟨g.1, g.2.1, g.2.2.1, g.2.2.2.1, g.2.2.2.2.1, ?_⟩
    rw [e]
    by_cases hoo : o' = o
    · rw [hoo, s8]
      simp (disch := omega) only [ms_e]
    · rw [S6 (12 + 68 * o' + 5) (by omega)]
      simp (disch := omega) only [ms_a, ms_i]
      exact g.2.2.2.2.2
  · intro o' x y k u v
    rw [ew 7 (by omega)] at y
    have go' := hO o' x y
    rw [e]
    by_cases hoo : o' = o
    · subst hoo
      rw [s8] at v
      by_cases hk : k = w (12 + 68 * o' + 5)
      · rw [hk, s7]
        simp (disch := omega) only [ms_a, ms_e]
      · rw [S6 _ (by omega)]
        simp (disch := omega) only [ms_a, ms_i]
        exact rQ o' x y k u (by omega)
    · rw [S6 (12 + 68 * o' + 5) (by omega)] at v
      rw [S6 _ (by omega)]
      simp (disch := omega) only [ms_a, ms_i]
      exact rQ o' x y k u v
  · refine ⟨?_, fun t x y => ?_⟩
    · rw [e, s9]
      simp (disch := omega) only [ms_a, ms_e]
    · rw [s9] at y
      rw [e]
      by_cases ht : t = w 9
      · rw [ht, s1, s2, s3, s4, s5 4 (by omega) (by omega)]
        simp (disch := omega) only [ms_a, ms_e]
        exact ⟨trivial, trivial, trivial, trivial, trivial⟩
      · rw [et t 0 x (by omega) (by decide) (by decide), et t 1 x (by omega) (by decide) (by decide), et t 2 x (by omega) (by decide) (by decide), et t 3 x (by omega) (by decide) (by decide), et t 4 x (by omega) (by decide) (by decide)]
        simp (disch := omega) only [ms_a, ms_i]
        exact t2 t x (by omega)
  · intro t x y
    rw [s9] at y
    rw [e]
    by_cases ht : t = w 9
    · rw [ht, s5 5 (by omega) (by omega), s5 6 (by omega) (by omega), s5 7 (by omega) (by omega)]
      simp (disch := omega) only [ms_a, ms_e]
      refine ⟨by decide, (csum_zero (fun q a b => by rw [if_pos (z8 q a (by omega))])).symm, fun q a b => ?_, by decide⟩
      rw [ib_zero, z8 q a b]
      simp
    · rw [et t 5 x (by omega) (by decide) (by decide), et t 6 x (by omega) (by decide) (by decide), et t 7 x (by omega) (by decide) (by decide)]
      simp (disch := omega) only [ms_a, ms_i]
      obtain ⟨g1, g2, g3, g4⟩ := rC t x (by omega)
      refine ⟨g1, ?_, fun q a b => by rw [e8 t q x (by omega) a b]; exact g3 q a b, g4⟩
      rw [g2]
      exact csum_congr (fun q a b => by rw [e8 t q x (by omega) a (by omega)])
  · intro q x y
    rw [ew 8 (by omega)] at y
    obtain ⟨g1, g2, g3⟩ := rB q x y
    rw [fd (s + 13) (by omega) (by omega) (by omega), fd (s + 14) (by omega) (by omega) (by omega), fd (s + 15) (by omega) (by omega) (by omega)]
    refine ⟨?_, ?_, fun r a b => ?_⟩
    · rw [g1]
      unfold madeR
      rw [ew 10 (by omega), ew 0 (by omega)]
      exact csum_congr (fun k a b => by rw [pO k a (by omega), ew (1916 + 5 * k + 4) (by omega)])
    · rw [g2]
      unfold attR
      rw [s9, csum_s _ n9.1, z8 q x (by omega), ew 0 (by omega), if_neg (fun z => absurd z.1 (by decide)), Int.add_zero]
      exact csum_congr (fun t a b => by rw [e8 t q a (by omega) x (by omega)])
    · rw [g3 r a b]
      unfold attd
      rw [s9, ew 0 (by omega)]
      constructor
      · rintro ⟨t, z1, z2, z3, z4⟩
        exact ⟨t, z1, by omega, by rw [et t 0 z1 z2 (by omega) (by omega)]; exact z3, by rw [e8 t q z1 z2 x (by omega)]; exact z4⟩
      · rintro ⟨t, z1, z2, z3, z4⟩
        by_cases ht : t = w 9
        · rw [ht, z8 q x (by omega)] at z4
          omega
        · rw [et t 0 z1 (by omega) (by decide) (by decide)] at z3
          rw [e8 t q z1 (by omega) x (by omega)] at z4
          exact ⟨t, z1, by omega, z3, z4⟩
  · intro q x y h' u v
    rw [ew 8 (by omega)] at y
    rw [fd _ (by omega) (by omega) (by omega), ew 10 (by omega)]
    refine (rH q x y h' u v).trans ⟨?_, ?_⟩
    · rintro ⟨k, z1, z2, z3, z4⟩
      exact ⟨k, z1, z2, by rw [ew _ (by omega)]; exact z3, by rw [pO k z1 z2]; exact z4⟩
    · rintro ⟨k, z1, z2, z3, z4⟩
      rw [ew _ (by omega)] at z3
      rw [pO k z1 z2] at z4
      exact ⟨k, z1, z2, z3, z4⟩
  · exact t1
theorem join {s p o : Int} {d : mD} {w : Row} (hg : GG w) (h : Rel s d w) (ho : 0 ≤ o ∧ o < w 7) (hp : 0 ≤ p ∧ p < w 8) (hc : CanJ p o w) : v_61 s p o d = V_226 p o w ∧ GG (W_226 p o w) ∧ Rel s (g_61 s p o d) (W_226 p o w) := by
  have n7 := hg.1.1
  have n9 := hg.1.2.2.1
  have go := hg.2.1 o ho.1 ho.2
  obtain ⟨v, hS⟩ := newW (p := p) (o := o) (w := w) (by omega) n9 (by omega)
  obtain ⟨x, y, z⟩ := join1 hg h ho hp hc hS
  unfold V_226 W_226
  exact ⟨by rw [z, v], x, y⟩
/-! ===== a ticket leaves its queue ===== -/
def sg (p k : Int) : Int := if k < p then k else k + 1
theorem sg_r (p k : Int) : (sg p k = k ∧ k < p) ∨ (sg p k = k + 1 ∧ p ≤ k) := by
  unfold sg
  split <;> omega
def StepL (o p t : Int) (w w' : Row) : Prop := w' (12 + 68 * o + 5) = w (12 + 68 * o + 5) - 1 ∧ w' (452 + 24 * t + 4) = 2 ∧ w' (452 + 24 * t + 3) = w 0 ∧ (∀ k, 0 ≤ k → k < w (12 + 68 * o + 5) - 1 → w' (12 + 68 * o + 7 + k) = w (12 + 68 * o + 7 + sg p k))
  ∧ ∀ i, ¬ i = 12 + 68 * o + 5 → ¬ i = 452 + 24 * t + 4 → ¬ i = 452 + 24 * t + 3 → ¬ (12 + 68 * o + 7 ≤ i ∧ i < 12 + 68 * o + 7 + (w (12 + 68 * o + 5) - 1)) → w' i = w i
theorem leave1 {s o p t : Int} {d d1 d' : mD} {w w' : Row} (hg : GG w) (h : Rel s d w) (ho : 0 ≤ o ∧ o < w 7) (hp : 0 ≤ p ∧ p < w (12 + 68 * o + 5)) (et : w (12 + 68 * o + 7 + p) = t) (hS : StepL o p t w w') (hd1 : TakeD s o p d d1) (hd : d' = mset (mset d1 (s + 54) t 2) (s + 53) t (w 0)) : GG w' ∧ Rel s d' w' := by
  obtain ⟨hN, hO, hQ, hT, hC, hK, hR⟩ := hg
  obtain ⟨n7, n8, n9, n10, n11, n0, n1, n2, n3, n4, n5, n6⟩ := id hN
  obtain ⟨⟨a1, a2, a3⟩, ⟨o1, o2⟩, rQ, rP, ⟨t1, t2⟩, rC, rK, rR, rB, rH⟩ := h
  obtain ⟨s1, s3, s4, s5, s6⟩ := hS
  have S6 : ∀ i, (¬ i = 12 + 68 * o + 5 ∧ ¬ i = 452 + 24 * t + 4 ∧ ¬ i = 452 + 24 * t + 3 ∧ ¬ (12 + 68 * o + 7 ≤ i ∧ i < 12 + 68 * o + 7 + (w (12 + 68 * o + 5) - 1))) → w' i = w i := fun i h => s6 i h.1 h.2.1 h.2.2.1 h.2.2.2
  obtain ⟨q1, q2, q3, q4, q5⟩ := hd1
  have go := hO o ho.1 ho.2
  have gq := hQ o ho.1 ho.2 p hp.1 hp.2
  rw [et] at gq
  have e8 : d (s + 8) o = w (12 + 68 * o + 5) := (o2 o ho.1 ho.2).2.2.2.2.2
  rw [e8] at q3 q4 q5
  have fd : ∀ b, ¬ b = s + 54 → ¬ b = s + 53 → ¬ b = s + 8 → ¬ b = s + 9 → d' b = d b := fun b x y z u => by
    rw [hd, ← q1 b z u]
    funext j
    simp (disch := omega) only [ms_a]
  have f1 : ∀ b, ¬ b = s + 54 → ¬ b = s + 53 → d' b = d1 b := fun b x y => by
    rw [hd]
    funext j
    simp (disch := omega) only [ms_a]
  -- the ticket is in no other place
  have other : ∀ o', 0 ≤ o' → o' < w 7 → ∀ k, 0 ≤ k → k < w (12 + 68 * o' + 5) → ¬ (o' = o ∧ k = p) → ¬ w (12 + 68 * o' + 7 + k) = t := by
    intro o' x y k u v hn e
    have g := hQ o' x y k u v
    rw [e] at g
    by_cases hoo : o' = o
    · subst hoo
      rcases Int.lt_trichotomy k p with hk | hk | hk
      · have g2 := (hQ o' x y p hp.1 hp.2).2.2.2 k u hk
        rw [e, et] at g2
        exact g2.2 rfl
      · exact hn ⟨rfl, hk⟩
      · have g2 := g.2.2.2 p hp.1 hk
        rw [et] at g2
        exact g2.2 rfl
    · omega
  have cl := hC _ gq.1.1 gq.1.2
  refine ⟨⟨hN.k (fun i hi => S6 i (by omega)), ?_, ?_, ?_, ?_, hK.k (fun i hi => S6 i (by omega)) hN, hR.k (fun i hi => S6 i (by omega)) hN⟩, ⟨?_, ?_, ?_, rP.k (fun b x y => fd b (by omega) (by omega) (by omega) (by omega)) (fun i hi => S6 i (by omega)) n8, ?_, rC.k (fun b x => fd b (by omega) (by omega) (by omega) (by omega)) (fun i hi => S6 i (by omega)) n9, rK.k (by rw [fd _ (by omega) (by omega) (by omega) (by omega)]) (fun b x y => fd b (by omega) (by omega) (by omega) (by omega)) (fun i hi => S6 i (by omega)) n10, rR.k (by rw [fd _ (by omega) (by omega) (by omega) (by omega)]) (fd _ (by omega) (by omega) (by omega) (by omega)) (fun i hi => S6 i (by omega)) n11, rB.k (fun b x y => fd b (by omega) (by omega) (by omega) (by omega)) (fun i hi => S6 i (by omega)) n8 n9 n10 hK.of, rH.k (fun b x y => fd b (by omega) (by omega) (by omega) (by omega)) (fun i hi => S6 i (by omega)) n8 n9 n10 hK.of⟩⟩
  · -- offices
    intro o' x y
    rw [S6 7 (by omega)] at y
    have g := hO o' x y
    rw [S6 (12 + 68 * o' + 1) (by omega), S6 (12 + 68 * o' + 2) (by omega), S6 (12 + 68 * o' + 3) (by omega), S6 (12 + 68 * o' + 4) (by omega), S6 (12 + 68 * o' + 6) (by omega), S6 9 (by omega)]
    have hs := csum_upd (f := fun t => if w' (452 + 24 * t + 4) = 1 ∧ w' (452 + 24 * t + 1) = o' then 1 else 0) (g := fun t => if w (452 + 24 * t + 4) = 1 ∧ w (452 + 24 * t + 1) = o' then 1 else 0) (n := (w 9).toNat) (k := t) gq.1.1 (by omega) (fun i a b c => by
      show (if w' (452 + 24 * i + 4) = 1 ∧ w' (452 + 24 * i + 1) = o' then (1 : Int) else 0) = if w (452 + 24 * i + 4) = 1 ∧ w (452 + 24 * i + 1) = o' then 1 else 0
      rw [S6 (452 + 24 * i + 4) (by omega), S6 (452 + 24 * i + 1) (by omega)])
    rw [s3, gq.2.2.1, if_neg (fun z => absurd z.1 (by decide)), if_neg (fun z => absurd z.1 (by decide))] at hs
    rw [hs]
    by_cases hoo : o' = o
    · subst hoo
      rw [s1]
      refine ⟨g.1, g.2.1, g.2.2.1, g.2.2.2.1, by omega, fun z => by have := g.2.2.2.2.2.1 z; omega, by rw [g.2.2.2.2.2.2]; omega⟩
    · rw [S6 (12 + 68 * o' + 5) (by omega)]
      refine ⟨g.1, g.2.1, g.2.2.1, g.2.2.2.1, g.2.2.2.2.1, g.2.2.2.2.2.1, by rw [g.2.2.2.2.2.2]; omega⟩
  · -- queues
    intro o' x y k u v
    rw [S6 7 (by omega)] at y
    by_cases hoo : o' = o
    · subst hoo
      rw [s1] at v
      have hk := sg_r p k
      have g := hQ o' x y (sg p k) (by omega) (by omega)
      have ne := other o' x y (sg p k) (by omega) (by omega) (by omega)
      rw [s5 k u v, S6 9 (by omega), S6 (452 + 24 * w (12 + 68 * o' + 7 + sg p k) + 1) (by omega), S6 (452 + 24 * w (12 + 68 * o' + 7 + sg p k) + 4) (by omega)]
      refine ⟨g.1, g.2.1, g.2.2.1, fun i a b => ?_⟩
      have hi := sg_r p i
      have g2 := g.2.2.2 (sg p i) (by omega) (by omega)
      have gi := hQ o' x y (sg p i) (by omega) (by omega)
      rw [s5 i a (by omega), S6 (452 + 24 * w (12 + 68 * o' + 7 + sg p k) + 2) (by omega), S6 (452 + 24 * w (12 + 68 * o' + 7 + sg p k) + 0) (by omega), S6 (452 + 24 * w (12 + 68 * o' + 7 + sg p i) + 2) (by omega), S6 (452 + 24 * w (12 + 68 * o' + 7 + sg p i) + 0) (by omega)]
      exact g2
    · have go' := hO o' x y
      rw [S6 (12 + 68 * o' + 5) (by omega)] at v
      have g := hQ o' x y k u v
      have ne := other o' x y k u v (by omega)
      rw [S6 (12 + 68 * o' + 7 + k) (by omega), S6 9 (by omega), S6 (452 + 24 * w (12 + 68 * o' + 7 + k) + 1) (by omega), S6 (452 + 24 * w (12 + 68 * o' + 7 + k) + 4) (by omega)]
      refine ⟨g.1, g.2.1, g.2.2.1, fun i a b => ?_⟩
      have gi := hQ o' x y i a (by omega)
      rw [S6 (12 + 68 * o' + 7 + i) (by omega), S6 (452 + 24 * w (12 + 68 * o' + 7 + k) + 2) (by omega), S6 (452 + 24 * w (12 + 68 * o' + 7 + k) + 0) (by omega), S6 (452 + 24 * w (12 + 68 * o' + 7 + i) + 2) (by omega), S6 (452 + 24 * w (12 + 68 * o' + 7 + i) + 0) (by omega)]
      exact g.2.2.2 i a b
  · -- tickets
    intro t' x y
    rw [S6 9 (by omega)] at y
    have g := hT t' x y
    rw [S6 (452 + 24 * t' + 0) (by omega), S6 (452 + 24 * t' + 1) (by omega), S6 (452 + 24 * t' + 2) (by omega), S6 0 (by omega), S6 7 (by omega), S6 8 (by omega)]
    by_cases ht : t' = t
    · rw [ht, s3, s4]
      rw [ht] at g
      exact ⟨g.1, g.2.1, g.2.2.1, by omega, fun z => by omega, fun _ => by omega⟩
    · rw [S6 (452 + 24 * t' + 3) (by omega), S6 (452 + 24 * t' + 4) (by omega)]
      refine ⟨g.1, g.2.1, g.2.2.1, g.2.2.2.1, fun z => ?_, g.2.2.2.2.2⟩
      obtain ⟨z1, k, z2, z3, z4⟩ := g.2.2.2.2.1 z
      refine ⟨z1, ?_⟩
      have go' := hO _ g.2.1.1 g.2.1.2
      by_cases hoo : w (452 + 24 * t' + 1) = o
      · rw [hoo] at z3 z4 ⊢
        have hk : ¬ k = p := by
          intro hk
          rw [hk, et] at z4
          exact ht z4.symm
        by_cases hk2 : k < p
        · refine ⟨k, z2, by rw [s1]; omega, ?_⟩
          rw [s5 k z2 (by omega), show sg p k = k by have := sg_r p k; omega]
          exact z4
        · refine ⟨k - 1, by omega, by rw [s1]; omega, ?_⟩
          rw [s5 (k - 1) (by omega) (by omega), show sg p (k - 1) = k by have := sg_r p (k - 1); omega]
          exact z4
      · exact ⟨k, z2, by rw [S6 _ (by omega)]; exact z3, by rw [S6 _ (by omega)]; exact z4⟩
  · -- claims
    intro t' x y
    rw [S6 9 (by omega)] at y
    have g := hC t' x y
    rw [S6 (452 + 24 * t' + 5) (by omega), S6 (452 + 24 * t' + 6) (by omega), S6 0 (by omega)]
    have gp : ∀ p, 0 ≤ p → p < 16 → 0 ≤ w' (452 + 24 * t' + 8 + p) ∧ w' (452 + 24 * t' + 8 + p) ≤ w 0 + 1 := fun p a b => by
      rw [S6 _ (by omega)]
      exact g.2.2.2.2 p a b
    by_cases ht : t' = t
    · rw [ht] at g gp ⊢
      rw [s3, s4]
      have h5 : ¬ w (452 + 24 * t + 5) = 1 := fun z => by
        have := g.2.2.2.1 z
        omega
      exact ⟨g.1, g.2.1, fun z => absurd (g.2.2.1 z).1 h5, fun z => absurd z h5, gp⟩
    · rw [S6 (452 + 24 * t' + 3) (by omega), S6 (452 + 24 * t' + 4) (by omega)]
      exact ⟨g.1, g.2.1, g.2.2.1, g.2.2.2.1, gp⟩
  · refine ⟨?_, ?_, fun k x y => ?_⟩
    · rw [fd _ (by omega) (by omega) (by omega) (by omega), S6 1 (by omega)]; exact a1
    · rw [fd _ (by omega) (by omega) (by omega) (by omega), S6 0 (by omega)]; exact a2
    · rw [fd _ (by omega) (by omega) (by omega) (by omega), S6 _ (by omega)]; exact a3 k x y
  · refine ⟨?_, fun o' x y => ?_⟩
    · rw [fd _ (by omega) (by omega) (by omega) (by omega), S6 7 (by omega)]; exact o1
    · rw [S6 7 (by omega)] at y
      have g := o2 o' x y
      rw [fd (s + 3) (by omega) (by omega) (by omega) (by omega), fd (s + 4) (by omega) (by omega) (by omega) (by omega), fd (s + 5) (by omega) (by omega) (by omega) (by omega), fd (s + 6) (by omega) (by omega) (by omega) (by omega), fd (s + 7) (by omega) (by omega) (by omega) (by omega), S6 (12 + 68 * o' + 0) (by omega), S6 (12 + 68 * o' + 1) (by omega), S6 (12 + 68 * o' + 2) (by omega), S6 (12 + 68 * o' + 3) (by omega), S6 (12 + 68 * o' + 4) (by omega), f1 (s + 8) (by omega) (by omega)]
      refine ⟨g.1, g.2.1, g.2.2.1, g.2.2.2.1, g.2.2.2.2.1, ?_⟩
      by_cases hoo : o' = o
      · rw [hoo, q3, s1]
      · rw [q2 o' hoo, S6 (12 + 68 * o' + 5) (by omega)]
        exact g.2.2.2.2.2
  · intro o' x y k u v
    rw [S6 7 (by omega)] at y
    have go' := hO o' x y
    rw [f1 (s + 9) (by omega) (by omega)]
    by_cases hoo : o' = o
    · subst hoo
      rw [s1] at v
      rw [s5 k u v]
      rcases sg_r p k with hk | hk
      · rw [hk.1, q5 _ (by omega)]
        exact rQ o' x y k u (by omega)
      · rw [hk.1, q4 k hk.2 v]
        have := rQ o' x y (k + 1) (by omega) (by omega)
        rw [show o' * 16 + (k + 1) = o' * 16 + k + 1 by omega] at this
        exact this
    · rw [S6 (12 + 68 * o' + 5) (by omega)] at v
      rw [q5 _ (by omega), S6 _ (by omega)]
      exact rQ o' x y k u v
  · refine ⟨?_, fun t' x y => ?_⟩
    · rw [fd _ (by omega) (by omega) (by omega) (by omega), S6 9 (by omega)]; exact t1
    · rw [S6 9 (by omega)] at y
      have g := t2 t' x y
      rw [fd (s + 50) (by omega) (by omega) (by omega) (by omega), fd (s + 51) (by omega) (by omega) (by omega) (by omega), fd (s + 52) (by omega) (by omega) (by omega) (by omega), S6 (452 + 24 * t' + 0) (by omega), S6 (452 + 24 * t' + 1) (by omega), S6 (452 + 24 * t' + 2) (by omega), hd]
      by_cases ht : t' = t
      · rw [ht] at g ⊢
        rw [s3, s4]
        simp (disch := omega) only [ms_a, ms_e]
        exact ⟨g.1, g.2.1, g.2.2.1, trivial, trivial⟩
      · rw [S6 (452 + 24 * t' + 3) (by omega), S6 (452 + 24 * t' + 4) (by omega)]
        simp (disch := omega) only [ms_a, ms_i]
        rw [q1 (s + 53) (by omega) (by omega), q1 (s + 54) (by omega) (by omega)]
        exact g
-- where a ticket stands
theorem lp221 {t b : Int} : ∀ (n : Nat) (x : Int) (w : Row), 0 ≤ x → w (b + 5) - x ≤ (n : Int) → (LP_221_17 t n b x w = -1 ∧ ∀ k, x ≤ k → k < w (b + 5) → ¬ w (b + 7 + k) = t) ∨ (x ≤ LP_221_17 t n b x w ∧ LP_221_17 t n b x w < w (b + 5) ∧ w (b + 7 + LP_221_17 t n b x w) = t ∧ ∀ k, x ≤ k → k < LP_221_17 t n b x w → ¬ w (b + 7 + k) = t) := by
  intro n
  induction n with
  | zero =>
    intro x w h0 hn
    have e : LP_221_17 t 0 b x w = -1 := by
      show ST_221_17 t _ b x w = -1
      unfold ST_221_17
      rw [if_neg (by omega)]
    rw [e]
    exact Or.inl ⟨rfl, fun k a c => by omega⟩
  | succ n ih =>
    intro x w h0 hn
    by_cases c : x < w (b + 5)
    · by_cases c2 : w (b + 7 + x) = t
      · have e : LP_221_17 t (n + 1) b x w = x := by
          show ST_221_17 t _ b x w = x
          unfold ST_221_17
          rw [if_pos c, if_pos c2]
        rw [e]
        exact Or.inr ⟨by omega, c, c2, fun k a b => by omega⟩
      · have e : LP_221_17 t (n + 1) b x w = LP_221_17 t n b (x + 1) w := by
          show ST_221_17 t _ b x w = _
          unfold ST_221_17
          rw [if_pos c, if_neg c2]
        rw [e]
        rcases ih (x + 1) w (by omega) (by omega) with ⟨i1, i2⟩ | ⟨i1, i2, i3, i4⟩
        · refine Or.inl ⟨i1, fun k a b => ?_⟩
          by_cases hk : k = x
          · rw [hk]; exact c2
          · exact i2 k (by omega) b
        · refine Or.inr ⟨by omega, i2, i3, fun k a b => ?_⟩
          by_cases hk : k = x
          · rw [hk]; exact c2
          · exact i4 k (by omega) b
    · have e : LP_221_17 t (n + 1) b x w = -1 := by
        show ST_221_17 t _ b x w = -1
        unfold ST_221_17
        rw [if_neg c]
      rw [e]
      exact Or.inl ⟨rfl, fun k a c => by omega⟩
theorem lp39 {s o t : Int} : ∀ (n : Nat) (x : Int) (d : mD), 0 ≤ x → d (s + 8) o - x ≤ (n : Int) → (lp_39_2 (s + 2) o t n x d = -1 ∧ ∀ k, x ≤ k → k < d (s + 8) o → ¬ d (s + 9) (o * 16 + k) = t) ∨ (x ≤ lp_39_2 (s + 2) o t n x d ∧ lp_39_2 (s + 2) o t n x d < d (s + 8) o ∧ d (s + 9) (o * 16 + lp_39_2 (s + 2) o t n x d) = t ∧ ∀ k, x ≤ k → k < lp_39_2 (s + 2) o t n x d → ¬ d (s + 9) (o * 16 + k) = t) := by
  intro n
  induction n with
  | zero =>
    intro x d h0 hn
    have e : lp_39_2 (s + 2) o t 0 x d = -1 := by
      show st_39_2 (s + 2) o t _ x d = -1
      unfold st_39_2
      rw [if_neg (by rw [show s + 2 + 6 = s + 8 by omega]; omega)]
    rw [e]
    exact Or.inl ⟨rfl, fun k a c => by omega⟩
  | succ n ih =>
    intro x d h0 hn
    by_cases c : x < d (s + 8) o
    · by_cases c2 : d (s + 9) (o * 16 + x) = t
      · have e : lp_39_2 (s + 2) o t (n + 1) x d = x := by
          show st_39_2 (s + 2) o t _ x d = x
          unfold st_39_2 v_38
          rw [show s + 2 + 6 = s + 8 by omega, show s + 2 + 7 = s + 9 by omega, if_pos c, if_pos c2]
        rw [e]
        exact Or.inr ⟨by omega, c, c2, fun k a b => by omega⟩
      · have e : lp_39_2 (s + 2) o t (n + 1) x d = lp_39_2 (s + 2) o t n (x + 1) d := by
          show st_39_2 (s + 2) o t _ x d = _
          unfold st_39_2 v_38
          rw [show s + 2 + 6 = s + 8 by omega, show s + 2 + 7 = s + 9 by omega, if_pos c, if_neg c2]
        rw [e]
        rcases ih (x + 1) d (by omega) (by omega) with ⟨i1, i2⟩ | ⟨i1, i2, i3, i4⟩
        · refine Or.inl ⟨i1, fun k a b => ?_⟩
          by_cases hk : k = x
          · rw [hk]; exact c2
          · exact i2 k (by omega) b
        · refine Or.inr ⟨by omega, i2, i3, fun k a b => ?_⟩
          by_cases hk : k = x
          · rw [hk]; exact c2
          · exact i4 k (by omega) b
    · have e : lp_39_2 (s + 2) o t (n + 1) x d = -1 := by
        show st_39_2 (s + 2) o t _ x d = -1
        unfold st_39_2
        rw [if_neg (by rw [show s + 2 + 6 = s + 8 by omega]; omega)]
      rw [e]
      exact Or.inl ⟨rfl, fun k a c => by omega⟩
theorem placeEq {s t : Int} {d : mD} {w : Row} (hg : GG w) (h : Rel s d w) (ht : 0 ≤ t ∧ t < w 9) : v_39 (s + 2) (w (452 + 24 * t + 1)) t d = V_221 t w ∧ ((V_221 t w = -1 ∧ ∀ k, 0 ≤ k → k < w (12 + 68 * w (452 + 24 * t + 1) + 5) → ¬ w (12 + 68 * w (452 + 24 * t + 1) + 7 + k) = t) ∨ (0 ≤ V_221 t w ∧ V_221 t w < w (12 + 68 * w (452 + 24 * t + 1) + 5) ∧ w (12 + 68 * w (452 + 24 * t + 1) + 7 + V_221 t w) = t)) := by
  have gt := hg.2.2.2.1 t ht.1 ht.2
  unfold V_221 v_39
  generalize w (452 + 24 * t + 1) = o at *
  have go := hg.2.1 o gt.2.1.1 gt.2.1.2
  obtain ⟨-, ⟨o1, o2⟩, rQ, -, rT, -⟩ := h
  have gc := o2 o gt.2.1.1 gt.2.1.2
  have a := lp221 (t := t) (b := 12 + 68 * o) (61 - 0 : Int).toNat 0 w (by omega) (by rw [show (((61 - 0 : Int).toNat : Nat) : Int) = 61 by decide]; omega)
  have b := lp39 (s := s) (o := o) (t := t) (16 - 0 : Int).toNat 0 d (by omega) (by rw [show (((16 - 0 : Int).toNat : Nat) : Int) = 16 by decide]; omega)
  rw [gc.2.2.2.2.2] at b
  have eq := rQ o gt.2.1.1 gt.2.1.2
  rcases a with ⟨a1, a2⟩ | ⟨a1, a2, a3, a4⟩
  · refine ⟨?_, Or.inl ⟨a1, a2⟩⟩
    rcases b with ⟨b1, b2⟩ | ⟨b1, b2, b3, b4⟩
    · rw [a1, b1]
    · rw [eq _ b1 b2] at b3
      exact absurd b3 (a2 _ b1 b2)
  · refine ⟨?_, Or.inr ⟨a1, a2, a3⟩⟩
    rcases b with ⟨b1, b2⟩ | ⟨b1, b2, b3, b4⟩
    · exact absurd (by rw [eq _ a1 a2]; exact a3) (b2 _ a1 a2)
    · rcases Int.lt_trichotomy (lp_39_2 (s + 2) o t (16 - 0 : Int).toNat 0 d) (LP_221_17 t (61 - 0 : Int).toNat (12 + 68 * o) 0 w) with z | z | z
      · rw [eq _ b1 b2] at b3
        exact absurd b3 (a4 _ b1 z)
      · exact z
      · exact absurd (by rw [eq _ a1 a2]; exact a3) (b4 _ a1 z)
-- a waiting ticket stands in its office's queue
theorem placeIn {s t : Int} {d : mD} {w : Row} (hg : GG w) (h : Rel s d w) (ht : 0 ≤ t ∧ t < w 9) (hw : w (452 + 24 * t + 4) = 0) : v_39 (s + 2) (w (452 + 24 * t + 1)) t d = V_221 t w ∧ 0 ≤ V_221 t w ∧ V_221 t w < w (12 + 68 * w (452 + 24 * t + 1) + 5) ∧ w (12 + 68 * w (452 + 24 * t + 1) + 7 + V_221 t w) = t := by
  obtain ⟨e, a⟩ := placeEq hg h ht
  refine ⟨e, ?_⟩
  rcases a with ⟨a1, a2⟩ | a
  · obtain ⟨-, k, k1, k2, k3⟩ := (hg.2.2.2.1 t ht.1 ht.2).2.2.2.2.1 hw
    exact absurd k3 (a2 k k1 k2)
  · exact a
theorem leave {s t : Int} {d : mD} {w : Row} (hg : GG w) (h : Rel s d w) (ht : 0 ≤ t ∧ t < w 9) (hw : w (452 + 24 * t + 4) = 0) :
    GG (ws (ws (W_220 (w (452 + 24 * t + 1)) (V_221 t w) w) (452 + 24 * t + 4) 2) (452 + 24 * t + 3) (w 0)) ∧ Rel s (mset (mset (g_41 (s + 2) (w (452 + 24 * t + 1)) (V_221 t w) d) (s + 54) t 2) (s + 53) t (w 0)) (ws (ws (W_220 (w (452 + 24 * t + 1)) (V_221 t w) w) (452 + 24 * t + 4) 2) (452 + 24 * t + 3) (w 0)) := by
  obtain ⟨-, p1, p2, p3⟩ := placeIn hg h ht hw
  have gt := hg.2.2.2.1 t ht.1 ht.2
  have n7 := hg.1.1
  have n9 := hg.1.2.2.1
  generalize w (452 + 24 * t + 1) = o at *
  have go := hg.2.1 o gt.2.1.1 gt.2.1.2
  have gc := h.2.1.2 o gt.2.1.1 gt.2.1.2
  have hT := take41 (s := s) (o := o) (p := V_221 t w) (d := d) p1 (by rw [gc.2.2.2.2.2]; exact p2) (by rw [gc.2.2.2.2.2]; omega)
  obtain ⟨u1, u2, u3⟩ := take220 (o := o) (p := V_221 t w) (w := w) p1 (by omega) (by omega)
  refine leave1 hg h gt.2.1 ⟨p1, p2⟩ p3 ⟨?_, ?_, ?_, fun k a b => ?_, fun i e1 e2 e3 e4 => ?_⟩ hT rfl
  · rw [wsn (by omega), wsn (by omega)]; exact u1
  · rw [wsn (by omega), wse rfl]
  · rw [wse rfl]
  · rw [wsn (by omega), wsn (by omega)]
    rcases sg_r (V_221 t w) k with q | q
    · rw [q.1, u3 _ (by omega) (by omega)]
    · rw [q.1, u2 k q.2 b, show 12 + 68 * o + 7 + (k + 1) = 12 + 68 * o + 7 + k + 1 by omega]
  · rw [wsn e3, wsn e2, u3 i e1 (by omega)]
/-! ===== how many bits of sixteen are set ===== -/
def mk8 (c : Nat) : Nat → Nat
  | 0 => 0
  | k + 1 => 256 * mk8 c k + c
theorem land8 (a b : Nat) {s m : Nat} (hs : s < 256) (hm : m < 256) : (256 * a + s) &&& (256 * b + m) = 256 * (a &&& b) + (s &&& m) := by
  have h1 : ((256 * a + s) &&& (256 * b + m)) / 2 ^ 8 = a &&& b := by
    rw [Nat.and_div_two_pow]
    congr 1 <;> omega
  have h2 : ((256 * a + s) &&& (256 * b + m)) % 2 ^ 8 = s &&& m := by
    rw [Nat.and_mod_two_pow]
    congr 1 <;> omega
  omega
def pA (k n : Nat) : Nat := n - (n / 2 &&& mk8 85 k)
def pB (k n : Nat) : Nat := (n &&& mk8 51 k) + (n / 4 &&& mk8 51 k)
def pC (k n : Nat) : Nat := n + n / 16 &&& mk8 15 k
def sA (r : Nat) : Nat := r - (r / 2 &&& 85)
def sB (r : Nat) : Nat := (r &&& 51) + (r / 4 &&& 51)
def bc8 (r : Nat) : Nat := r % 2 + r / 2 % 2 + r / 4 % 2 + r / 8 % 2 + r / 16 % 2 + r / 32 % 2 + r / 64 % 2 + r / 128 % 2
theorem pkA : ∀ q : Fin 2, ∀ r : Fin 256, 128 * q.val + r.val / 2 &&& 85 = r.val / 2 &&& 85 := by decide +kernel
theorem pkB : ∀ q : Fin 4, ∀ r : Fin 256, 64 * q.val + r.val / 4 &&& 51 = r.val / 4 &&& 51 := by decide +kernel
theorem pkC : ∀ q : Fin 5, ∀ r : Fin 73, 16 * q.val + (r.val + r.val / 16) &&& 15 = r.val + r.val / 16 &&& 15 := by decide +kernel
theorem pkD : ∀ r : Fin 256, sB (sA r.val) ≤ 68 ∧ sB (sA r.val) % 16 ≤ 4 ∧ (sB (sA r.val) + sB (sA r.val) / 16 &&& 15) = bc8 r.val := by decide +kernel
theorem pA_s (k q : Nat) {r : Nat} (hr : r < 256) : pA (k + 1) (256 * q + r) = 256 * pA k q + sA r := by
  have e : (256 * q + r) / 2 = 256 * (q / 2) + (128 * (q % 2) + r / 2) := by omega
  have l1 : q / 2 &&& mk8 85 k ≤ q / 2 := Nat.and_le_left
  have l2 : r / 2 &&& 85 ≤ r / 2 := Nat.and_le_left
  have c := pkA ⟨q % 2, by omega⟩ ⟨r, hr⟩
  simp only at c
  unfold pA sA
  show 256 * q + r - ((256 * q + r) / 2 &&& 256 * mk8 85 k + 85) = _
  rw [e, land8 _ _ (by omega) (by decide), c]
  omega
theorem pB_s (k q : Nat) {r : Nat} (hr : r < 256) : pB (k + 1) (256 * q + r) = 256 * pB k q + sB r := by
  have e : (256 * q + r) / 4 = 256 * (q / 4) + (64 * (q % 4) + r / 4) := by omega
  have c := pkB ⟨q % 4, by omega⟩ ⟨r, hr⟩
  simp only at c
  unfold pB sB
  show (256 * q + r &&& 256 * mk8 51 k + 51) + ((256 * q + r) / 4 &&& 256 * mk8 51 k + 51) = _
  rw [e, land8 _ _ hr (by decide), land8 _ _ (by omega) (by decide), c]
  omega
theorem pC_s (k q : Nat) {r : Nat} (hr : r ≤ 68) (hq : q % 16 ≤ 4) : pC (k + 1) (256 * q + r) = 256 * pC k q + (r + r / 16 &&& 15) := by
  have e : 256 * q + r + (256 * q + r) / 16 = 256 * (q + q / 16) + (16 * (q % 16) + (r + r / 16)) := by omega
  have c := pkC ⟨q % 16, by omega⟩ ⟨r, by omega⟩
  simp only at c
  unfold pC
  show 256 * q + r + (256 * q + r) / 16 &&& 256 * mk8 15 k + 15 = _
  rw [e, land8 _ _ (by omega) (by decide), c]
def dig : Nat → Nat → Nat
  | 0, _ => 0
  | k + 1, n => 256 * dig k (n / 256) + bc8 (n % 256)
theorem pcDig : ∀ (k n : Nat), pB k (pA k n) % 16 ≤ 4 ∧ pC k (pB k (pA k n)) = dig k n
  | 0, n => by
    have e : ∀ x : Nat, x &&& mk8 51 0 = 0 := fun x => Nat.and_zero x
    have f : ∀ x : Nat, x &&& mk8 15 0 = 0 := fun x => Nat.and_zero x
    unfold pB pC
    rw [e, e, f]
    exact ⟨by decide, rfl⟩
  | k + 1, n => by
    have hr : n % 256 < 256 := Nat.mod_lt _ (by decide)
    have en : n = 256 * (n / 256) + n % 256 := by omega
    obtain ⟨i1, i2⟩ := pcDig k (n / 256)
    obtain ⟨d1, d2, d3⟩ := pkD ⟨n % 256, hr⟩
    simp only at d1 d2 d3
    have l : sA (n % 256) < 256 := by
      unfold sA
      omega
    have eA : pA (k + 1) n = 256 * pA k (n / 256) + sA (n % 256) := by
      have := pA_s k (n / 256) hr
      rwa [← en] at this
    rw [eA, pB_s _ _ l]
    refine ⟨by omega, ?_⟩
    rw [pC_s _ _ d1 i1, i2, d3]
    rfl
theorem bc8_le (r : Nat) : bc8 r ≤ 8 := by
  unfold bc8
  omega
theorem ndl (m : Nat) (a : Nat) (ha : a < 2147483648) (hm : m < 2147483648) : miand (a : Int) (m : Int) = ((a &&& m : Nat) : Int) := by
  unfold miand mI
  have e : (Int32.ofInt (a : Int) &&& Int32.ofInt (m : Int)).toBitVec.toNat = a &&& m := by
    rw [Int32.toBitVec_and, BitVec.toNat_and, n32 ha, n32 hm]
  rw [i32n (by rw [e]; exact Nat.lt_of_le_of_lt Nat.and_le_left ha), e]
theorem nsr (k : Nat) (hk : k < 32) (a : Nat) (ha : a < 2147483648) : miushr (a : Int) (k : Int) = ((a >>> k : Nat) : Int) := by
  unfold miushr mI
  have e : ((Int32.ofInt (a : Int)).toUInt32 >>> ((Int32.ofInt (k : Int)).toUInt32 &&& Int32.toUInt32 31)).toInt32.toBitVec.toNat = a >>> k := by
    show ((Int32.ofInt (a : Int)).toUInt32 >>> ((Int32.ofInt (k : Int)).toUInt32 &&& Int32.toUInt32 31)).toBitVec.toNat = a >>> k
    rw [UInt32.toBitVec_shiftRight]
    have e3 : (((Int32.ofInt (k : Int)).toUInt32 &&& Int32.toUInt32 31).toBitVec % 32).toNat = k := by
      have : ∀ k : Fin 32, (((Int32.ofInt ((k.val : Nat) : Int)).toUInt32 &&& Int32.toUInt32 31).toBitVec % 32).toNat = k.val := by decide +kernel
      exact this ⟨k, hk⟩
    show ((Int32.ofInt (a : Int)).toBitVec >>> ((((Int32.ofInt (k : Int)).toUInt32 &&& Int32.toUInt32 31).toBitVec % 32).toNat)).toNat = _
    rw [e3, BitVec.toNat_ushiftRight, n32 ha]
  rw [i32n (by rw [e]; exact Nat.lt_of_le_of_lt (Nat.shiftRight_le a k) ha), e]
def pcA (n : Nat) : Nat := n - ((n >>> 1) &&& 1431655765)
def pcB (n : Nat) : Nat := (pcA n &&& 858993459) + ((pcA n >>> 2) &&& 858993459)
def pcC (n : Nat) : Nat := (pcB n + (pcB n >>> 4)) &&& 252645135
def pcD (n : Nat) : Nat := pcC n + (pcC n >>> 8)
def pcN (n : Nat) : Nat := (pcD n + (pcD n >>> 16)) &&& 63
def bcN (n : Nat) : Nat := n % 2 + n / 2 % 2 + n / 4 % 2 + n / 8 % 2 + n / 16 % 2 + n / 32 % 2 + n / 64 % 2 + n / 128 % 2 + n / 256 % 2 + n / 512 % 2 + n / 1024 % 2 + n / 2048 % 2 + n / 4096 % 2 + n / 8192 % 2 + n / 16384 % 2 + n / 32768 % 2
theorem bc16 {n : Nat} (h : n < 65536) : bcN n = bc8 (n % 256) + bc8 (n / 256 % 256) := by
  have e : n / 256 % 256 = n / 256 := Nat.mod_eq_of_lt (by omega)
  have d : ∀ k, n / 256 / k = n / (256 * k) := fun k => Nat.div_div_eq_div_mul n 256 k
  have l : ∀ k m : Nat, k * m = 128 → n % 256 / k % 2 = n / k % 2 := fun k m hk => by
    have : 256 = k * (m * 2) := by rw [← Nat.mul_assoc, hk]
    rw [this, Nat.mod_mul_right_div_self, Nat.mod_mul_left_mod]
  have a : bc8 (n % 256) = n % 2 + n / 2 % 2 + n / 4 % 2 + n / 8 % 2 + n / 16 % 2 + n / 32 % 2 + n / 64 % 2 + n / 128 % 2 := by
    unfold bc8
    rw [l 2 64 rfl, l 4 32 rfl, l 8 16 rfl, l 16 8 rfl, l 32 4 rfl, l 64 2 rfl, l 128 1 rfl, show n % 256 % 2 = n % 2 by omega]
  have b : bc8 (n / 256) = n / 256 % 2 + n / 512 % 2 + n / 1024 % 2 + n / 2048 % 2 + n / 4096 % 2 + n / 8192 % 2 + n / 16384 % 2 + n / 32768 % 2 := by
    unfold bc8
    rw [d 2, d 4, d 8, d 16, d 32, d 64, d 128]
  rw [e, a, b]
  unfold bcN
  simp only [Nat.add_assoc]
theorem pc_all {n : Nat} (h : n < 65536) : pcN n = bcN n := by
  have e1 : pcA n = pA 4 n := by
    unfold pcA pA
    rw [Nat.shiftRight_eq_div_pow]
    rfl
  have e2 : pcB n = pB 4 (pA 4 n) := by
    unfold pcB pB
    rw [e1, Nat.shiftRight_eq_div_pow]
    rfl
  have e3 : pcC n = dig 4 n := by
    unfold pcC
    rw [e2, Nat.shiftRight_eq_div_pow, ← (pcDig 4 n).2]
    rfl
  have e4 : dig 4 n = bc8 (n % 256) + 256 * bc8 (n / 256 % 256) := by
    show 256 * (256 * (256 * (256 * 0 + bc8 (n / 256 / 256 / 256 % 256)) + bc8 (n / 256 / 256 % 256)) + bc8 (n / 256 % 256)) + bc8 (n % 256) = _
    rw [show n / 256 / 256 = 0 by omega]
    show 256 * (256 * (256 * (256 * 0 + 0) + 0) + bc8 (n / 256 % 256)) + bc8 (n % 256) = _
    omega
  have b0 := bc8_le (n % 256)
  have b1 := bc8_le (n / 256 % 256)
  rw [bc16 h]
  unfold pcN pcD
  rw [e3, e4, Nat.shiftRight_eq_div_pow, Nat.shiftRight_eq_div_pow, show (63 : Nat) = 2 ^ 6 - 1 by decide, Nat.and_two_pow_sub_one_eq_mod]
  generalize bc8 (n % 256) = x0 at *
  generalize bc8 (n / 256 % 256) = x1 at *
  rw [show x0 + 256 * x1 + (x0 + 256 * x1) / 2 ^ 8 = (x0 + x1) + 256 * x1 by omega, show (x0 + x1 + 256 * x1) / 2 ^ 16 = 0 by omega]
  omega
theorem v298_n {n : Nat} (h : n < 65536) (d : mD) : v_298 (n : Int) d = (pcN n : Int) := by
  have hl : (n >>> 1) &&& 1431655765 ≤ n := Nat.le_trans Nat.and_le_left (Nat.shiftRight_le n 1)
  have eA : (n : Int) - miand (miushr (n : Int) 1) 1431655765 = (pcA n : Int) := by
    have e1 := nsr 1 (by decide) n (by omega)
    have e2 := ndl 1431655765 (n >>> 1) (Nat.lt_of_le_of_lt (Nat.shiftRight_le n 1) (by omega)) (by decide)
    rw [show ((1 : Nat) : Int) = 1 from rfl] at e1
    rw [show ((1431655765 : Nat) : Int) = 1431655765 from rfl] at e2
    rw [e1, e2]
    unfold pcA
    omega
  have hA : pcA n < 65536 := by unfold pcA; omega
  have eB : miand (pcA n : Int) 858993459 + miand (miushr (pcA n : Int) 2) 858993459 = (pcB n : Int) := by
    have e1 := nsr 2 (by decide) (pcA n) (by omega)
    have e2 := ndl 858993459 (pcA n >>> 2) (Nat.lt_of_le_of_lt (Nat.shiftRight_le _ 2) (by omega)) (by decide)
    have e3 := ndl 858993459 (pcA n) (by omega) (by decide)
    rw [show ((2 : Nat) : Int) = 2 from rfl] at e1
    rw [show ((858993459 : Nat) : Int) = 858993459 from rfl] at e2 e3
    rw [e1, e2, e3]
    unfold pcB
    omega
  have hB : pcB n < 131072 := by
    have a := @Nat.and_le_left (pcA n) 858993459
    have b := Nat.le_trans (@Nat.and_le_left (pcA n >>> 2) 858993459) (Nat.shiftRight_le (pcA n) 2)
    unfold pcB
    omega
  have hs : pcB n >>> 4 ≤ pcB n := Nat.shiftRight_le _ _
  have eC : miand ((pcB n : Int) + miushr (pcB n : Int) 4) 252645135 = (pcC n : Int) := by
    have e1 := nsr 4 (by decide) (pcB n) (by omega)
    have e2 := ndl 252645135 (pcB n + pcB n >>> 4) (by omega) (by decide)
    rw [show ((4 : Nat) : Int) = 4 from rfl] at e1
    rw [show ((252645135 : Nat) : Int) = 252645135 from rfl, Int.natCast_add] at e2
    rw [e1, e2]
    rfl
  have hC : pcC n < 262144 := by
    have a := @Nat.and_le_left (pcB n + pcB n >>> 4) 252645135
    unfold pcC
    omega
  have hs8 : pcC n >>> 8 ≤ pcC n := Nat.shiftRight_le _ _
  have eD : (pcC n : Int) + miushr (pcC n : Int) 8 = (pcD n : Int) := by
    have e1 := nsr 8 (by decide) (pcC n) (by omega)
    rw [show ((8 : Nat) : Int) = 8 from rfl] at e1
    rw [e1]
    unfold pcD
    omega
  have hD : pcD n < 524288 := by unfold pcD; omega
  have hs16 : pcD n >>> 16 ≤ pcD n := Nat.shiftRight_le _ _
  unfold v_298
  rw [eA, eB, eC, eD]
  have e1 := nsr 16 (by decide) (pcD n) (by omega)
  have e2 := ndl 63 (pcD n + pcD n >>> 16) (by omega) (by decide)
  rw [show ((16 : Nat) : Int) = 16 from rfl] at e1
  rw [show ((63 : Nat) : Int) = 63 from rfl, Int.natCast_add] at e2
  rw [e1, e2]
  rfl
theorem ib_n {n : Nat} (h : n < 65536) (p : Nat) : ib (n : Int) p = decide (n / 2 ^ p % 2 = 1) := by
  unfold ib
  show (Int32.ofInt (n : Int)).toBitVec.toNat.testBit p = _
  rw [n32 (by omega), Nat.testBit_eq_decide_div_mod_eq]
theorem ibv {n : Nat} (h : n < 65536) (p : Nat) : (if ib (n : Int) p = true then (1 : Int) else 0) = ((n / 2 ^ p % 2 : Nat) : Int) := by
  rw [ib_n h]
  by_cases c : n / 2 ^ p % 2 = 1
  · rw [if_pos (by simp [c]), c]
    rfl
  · rw [if_neg (by simp [c])]
    have := Nat.mod_lt (n / 2 ^ p) (show 0 < 2 by decide)
    have : n / 2 ^ p % 2 = 0 := by omega
    rw [this]
    rfl
theorem v298_bits {W : Int} (h0 : 0 ≤ W) (h1 : W < 65536) (d : mD) : v_298 W d = csum (fun p => if ib W p.toNat = true then 1 else 0) 16 := by
  obtain ⟨n, rfl⟩ := Int.eq_ofNat_of_zero_le h0
  have h : n < 65536 := by omega
  rw [v298_n h, pc_all h]
  have e : csum (fun p => if ib (n : Int) p.toNat = true then 1 else 0) 16 = csum (fun p => ((n / 2 ^ p.toNat % 2 : Nat) : Int)) 16 := csum_congr (fun p a b => ibv h p.toNat)
  rw [e]
  simp only [csum]
  unfold bcN
  simp
theorem mior_rng {W p : Int} (h0 : 0 ≤ W) (h1 : W < 65536) (p0 : 0 ≤ p) (p1 : p < 16) : 0 ≤ mior W (mishl 1 p) ∧ mior W (mishl 1 p) < 65536 := by
  obtain ⟨n, rfl⟩ := Int.eq_ofNat_of_zero_le h0
  obtain ⟨k, rfl⟩ := Int.eq_ofNat_of_zero_le p0
  have e1 : mishl 1 (k : Int) = ((2 ^ k : Nat) : Int) := by
    have : ∀ k : Fin 16, mishl 1 ((k.val : Nat) : Int) = ((2 ^ k.val : Nat) : Int) := by decide +kernel
    exact this ⟨k, by omega⟩
  have hk : 2 ^ k < 65536 := by
    have : ∀ k : Fin 16, 2 ^ k.val < 65536 := by decide
    exact this ⟨k, by omega⟩
  rw [e1]
  unfold mior mI
  have e : (Int32.ofInt (n : Int) ||| Int32.ofInt ((2 ^ k : Nat) : Int)).toBitVec.toNat = n ||| 2 ^ k := by
    rw [Int32.toBitVec_or, BitVec.toNat_or, n32 (by omega), n32 (by omega)]
  have hb : n ||| 2 ^ k < 65536 := Nat.or_lt_two_pow (n := 16) (by omega) hk
  rw [i32n (by rw [e]; omega), e]
  omega
/-! ===== claims and witnesses ===== -/
-- a ticket's claim is written
theorem setC {s t c v : Int} {d : mD} {w w' : Row} (hg : GG w) (h : Rel s d w) (ht : 0 ≤ t ∧ t < w 9) (hc : c = 0 ∨ c = 1) (hv : v = 0 ∨ v = 1) (h1 : v = 1 → c = 1 ∧ w (452 + 24 * t + 3) ≤ 999) (h2 : c = 1 → w (452 + 24 * t + 4) = 1) (e5 : w' (452 + 24 * t + 5) = c) (e6 : w' (452 + 24 * t + 6) = v) (e : ∀ i, ¬ i = 452 + 24 * t + 5 → ¬ i = 452 + 24 * t + 6 → w' i = w i) : GG w' ∧ Rel s (mset d (s + 55) t (c + v)) w' := by
  obtain ⟨hN, hO, hQ, hT, hC, hK, hR⟩ := id hg
  obtain ⟨n7, n8, n9, n10, n11, n0, n1, n2, n3, n4, n5, n6⟩ := id hN
  obtain ⟨rA, rO, rQ, rP, rT, rC, rK, rR, rB, rH⟩ := h
  have fd : ∀ b, ¬ b = s + 55 → mset d (s + 55) t (c + v) b = d b := fun b x => by
    funext j
    exact ms_a x
  refine ⟨⟨hN.k (fun i hi => e i (by omega) (by omega)), hO.k (fun i hi => e i (by omega) (by omega)) hN, hQ.k (fun i hi => e i (by omega) (by omega)) hN hO, hT.k (fun i hi => e i (by omega) (by omega)) hN hO, ?_, hK.k (fun i hi => e i (by omega) (by omega)) hN, hR.k (fun i hi => e i (by omega) (by omega)) hN⟩, rA.k (fun b x => fd b (by omega)) (fun i hi => e i (by omega) (by omega)), rO.k (fun b x y => fd b (by omega)) (fun i hi => e i (by omega) (by omega)) n7, rQ.k (fd _ (by omega)) (fun i hi => e i (by omega) (by omega)) n7 hO, rP.k (fun b x y => fd b (by omega)) (fun i hi => e i (by omega) (by omega)) n8, rT.k (fun b x y => fd b (by omega)) (fun i hi => e i (by omega) (by omega)) n9, ?_, rK.k (by rw [fd _ (by omega)]) (fun b x y => fd b (by omega)) (fun i hi => e i (by omega) (by omega)) n10, rR.k (by rw [fd _ (by omega)]) (fd _ (by omega)) (fun i hi => e i (by omega) (by omega)) n11, rB.k (fun b x y => fd b (by omega)) (fun i hi => e i (by omega) (by omega)) n8 n9 n10 hK.of, rH.k (fun b x y => fd b (by omega)) (fun i hi => e i (by omega) (by omega)) n8 n9 n10 hK.of⟩
  · intro t' x y
    rw [e 9 (by omega) (by omega)] at y
    have g := hC t' x y
    rw [e (452 + 24 * t' + 3) (by omega) (by omega), e (452 + 24 * t' + 4) (by omega) (by omega), e 0 (by omega) (by omega)]
    have gp : ∀ p, 0 ≤ p → p < 16 → 0 ≤ w' (452 + 24 * t' + 8 + p) ∧ w' (452 + 24 * t' + 8 + p) ≤ w 0 + 1 := fun p a b => by
      rw [e _ (by omega) (by omega)]
      exact g.2.2.2.2 p a b
    by_cases q : t' = t
    · rw [q] at gp ⊢
      rw [e5, e6]
      exact ⟨hc, hv, h1, h2, gp⟩
    · rw [e (452 + 24 * t' + 5) (by omega) (by omega), e (452 + 24 * t' + 6) (by omega) (by omega)]
      exact ⟨g.1, g.2.1, g.2.2.1, g.2.2.2.1, gp⟩
  · intro t' x y
    rw [e 9 (by omega) (by omega)] at y
    obtain ⟨g1, g2, g3, g4⟩ := rC t' x y
    rw [fd (s + 56) (by omega), e (452 + 24 * t' + 7) (by omega) (by omega)]
    refine ⟨?_, by rw [g2]; exact csum_congr (fun p a b => by rw [e (452 + 24 * t' + 8 + p) (by omega) (by omega)]), fun p a b => by rw [e (452 + 24 * t' + 8 + p) (by omega) (by omega)]; exact g3 p a b, g4⟩
    by_cases q : t' = t
    · rw [q, e5, e6, ms_e rfl rfl]
    · rw [e (452 + 24 * t' + 5) (by omega) (by omega), e (452 + 24 * t' + 6) (by omega) (by omega), ms_i q]
      exact g1
theorem canClaim {s t : Int} {d : mD} {w : Row} (hg : GG w) (h : Rel s d w) (ht : 0 ≤ t ∧ t < w 9) : v_73 s t d = V_227 t w ∧ (V_227 t w = 0 ∨ V_227 t w = 1) ∧ (V_227 t w = 1 ↔ w (452 + 24 * t + 4) = 1 ∧ w (452 + 24 * t + 5) = 0) := by
  obtain ⟨-, -, -, -, rT, rC, -⟩ := h
  have gt := (rT.2 t ht.1 ht.2).2.2.2.2
  have gc := (rC t ht.1 ht.2).1
  have g := hg.2.2.2.2.1 t ht.1 ht.2
  unfold v_73 V_227
  rw [show s + 49 + 5 = s + 54 by omega, show s + 49 + 6 = s + 55 by omega, gt, gc]
  by_cases c1 : w (452 + 24 * t + 4) = 1
  · rw [if_pos c1, if_pos c1]
    by_cases c2 : w (452 + 24 * t + 5) = 0
    · have c3 : w (452 + 24 * t + 6) = 0 := by
        rcases g.2.1 with z | z
        · exact z
        · have := (g.2.2.1 z).1
          omega
      rw [if_pos (by omega), if_pos c2]
      exact ⟨rfl, Or.inr rfl, ⟨fun _ => ⟨c1, c2⟩, fun _ => rfl⟩⟩
    · rw [if_neg (by omega), if_neg c2]
      exact ⟨rfl, Or.inl rfl, ⟨fun z => absurd z (by decide), fun z => absurd z.2 c2⟩⟩
  · rw [if_neg c1, if_neg c1]
    exact ⟨rfl, Or.inl rfl, ⟨fun z => absurd z (by decide), fun z => absurd z.1 c1⟩⟩
theorem claim {s t : Int} {d : mD} {w : Row} (hg : GG w) (h : Rel s d w) (ht : 0 ≤ t ∧ t < w 9) (hs : w (452 + 24 * t + 4) = 1) (hc : w (452 + 24 * t + 5) = 0) (h9 : w 0 ≤ 999) : v_74 s t d = V_228 t w ∧ GG (W_228 t w) ∧ Rel s (g_74 s t d) (W_228 t w) ∧ ∀ i, i ≤ 9 → W_228 t w i = w i := by
  have n9 := hg.1.2.2.1
  have n3 := hg.1.2.2.2.2.2.2.2.2.1
  have gt := hg.2.2.2.1 t ht.1 ht.2
  have g := hg.2.2.2.2.1 t ht.1 ht.2
  have h6 : w (452 + 24 * t + 6) = 0 := by
    rcases g.2.1 with z | z
    · exact z
    · have := (g.2.2.1 z).1
      omega
  have e3 : d (s + 1) 1 = w 3 := h.1.2.2 1 (by omega) (by omega)
  have hen : w (452 + 24 * t + 3) ≤ 999 := by
    have := gt.2.2.2.2.2 (by omega)
    omega
  obtain ⟨g1, r1⟩ := setC (c := 1) (v := 0) (w' := ws w (452 + 24 * t + 5) 1) hg h ht (Or.inr rfl) (Or.inl rfl) (fun z => absurd z (by decide)) (fun _ => hs) (wse rfl) (by rw [wsn (by omega)]; exact h6) (fun i a b => wsn a)
  rw [show (1 : Int) + 0 = 1 by decide] at r1
  unfold v_74 g_74 V_228 W_228
  rw [e3, show s + 49 + 6 = s + 55 by omega]
  by_cases c : 0 < w 3
  · have hz : ¬ w 3 = 0 := by omega
    simp only [if_neg hz, if_pos c]
    exact ⟨trivial, g1, r1, fun i hi => wsn (by omega)⟩
  · have hz : w 3 = 0 := by omega
    simp only [if_pos hz, if_neg c]
    obtain ⟨g2, r2⟩ := setC (s := s) (t := t) (c := 1) (v := 1) (w' := ws (ws w (452 + 24 * t + 5) 1) (452 + 24 * t + 6) 1) g1 r1 (by rw [wsn (by omega)]; exact ht) (Or.inr rfl) (Or.inr rfl) (fun _ => ⟨rfl, by rw [wsn (by omega)]; exact hen⟩) (fun _ => by rw [wsn (by omega)]; exact hs) (by rw [wsn (by omega), wse rfl]) (wse rfl) (fun i a b => wsn b)
    rw [show (1 : Int) + 1 = 2 by decide] at r2
    obtain ⟨m1, m2, m3, m4⟩ := makes (t := t) g2 r2 (by rw [wsn (by omega), wsn (by omega)]; exact ht) (by rw [wsn (by omega), wsn (by omega)]; exact hs) (by rw [wsn (by omega), wsn (by omega)]; exact hen)
    unfold v_76 g_76
    rw [show s + 49 + 6 = s + 55 by omega]
    exact ⟨m1, m2, m3, fun i hi => by rw [m4 i (by omega) (by omega), wsn (by omega), wsn (by omega)]⟩
-- a witness
theorem lp233 {p : Int} : ∀ (n : Nat) (a k : Int) (w : Row), 0 ≤ k → k ≤ w 9 → w 9 - k ≤ (n : Int) → LP_233_4 p n a k w = a + (csum (fun t => if 0 < w (452 + 24 * t + 8 + p) ∧ (w (452 + 24 * t + 8 + p) - 1) / 20 = w 0 / 20 then 1 else 0) (w 9).toNat - csum (fun t => if 0 < w (452 + 24 * t + 8 + p) ∧ (w (452 + 24 * t + 8 + p) - 1) / 20 = w 0 / 20 then 1 else 0) k.toNat) := by
  intro n
  induction n with
  | zero =>
    intro a k w h0 hk hn
    have : k = w 9 := by omega
    rw [this]
    show ST_233_4 p _ a (w 9) w = _
    unfold ST_233_4
    rw [if_neg (by omega)]
    omega
  | succ n ih =>
    intro a k w h0 hk hn
    by_cases c1 : k < w 9
    · have i := fun a => ih a (k + 1) w (by omega) (by omega) (by omega)
      rw [csum_s _ h0] at i
      show ST_233_4 p _ a k w = _
      unfold ST_233_4
      rw [if_pos c1]
      unfold V_232
      by_cases c2 : 0 < w (452 + 24 * k + 8 + p)
      · rw [if_pos c2]
        by_cases c3 : (w (452 + 24 * k + 8 + p) - 1) / 20 = w 0 / 20
        · rw [if_pos c3, if_neg (by decide), i, if_pos ⟨c2, c3⟩]
          omega
        · rw [if_neg c3, if_pos rfl, i, if_neg (fun z => c3 z.2)]
          omega
      · rw [if_neg c2, if_pos rfl, i, if_neg (fun z => c2 z.1)]
        omega
    · have : k = w 9 := by omega
      rw [this]
      show ST_233_4 p _ a (w 9) w = _
      unfold ST_233_4
      rw [if_neg (by omega)]
      omega
theorem v233 {p : Int} {w : Row} (h9 : 0 ≤ w 9 ∧ w 9 ≤ 60) : V_233 p w = attR w p := by
  have h := lp233 (p := p) (61 - 0 : Int).toNat 0 0 w (by decide) h9.1 (by rw [show (((61 - 0 : Int).toNat : Nat) : Int) = 61 by decide]; omega)
  unfold V_233 attR
  rw [h]
  show 0 + (_ - csum _ 0) = _
  simp only [csum]
  omega
theorem v232 {t p : Int} {w : Row} : (V_232 t p w = 0 ∨ V_232 t p w = 1) ∧ (V_232 t p w = 0 ↔ ¬ attd w t p) := by
  unfold V_232 attd
  by_cases c2 : 0 < w (452 + 24 * t + 8 + p)
  · rw [if_pos c2]
    by_cases c3 : (w (452 + 24 * t + 8 + p) - 1) / 20 = w 0 / 20
    · rw [if_pos c3]
      exact ⟨Or.inr rfl, ⟨fun z => absurd z (by decide), fun z => absurd ⟨c2, c3⟩ z⟩⟩
    · rw [if_neg c3]
      exact ⟨Or.inl rfl, ⟨fun _ z => c3 z.2, fun _ => rfl⟩⟩
  · rw [if_neg c2]
    exact ⟨Or.inl rfl, ⟨fun _ z => c2 z.1, fun _ => rfl⟩⟩
theorem lp234 {t p : Int} : ∀ (n : Nat) (a k : Int) (w : Row), 0 ≤ k → w 9 - k ≤ (n : Int) → (a = 0 ∨ a = 1) → (LP_234_97 t p n (452 + 24 * t) a k w = 0 ∨ LP_234_97 t p n (452 + 24 * t) a k w = 7) ∧ (LP_234_97 t p n (452 + 24 * t) a k w = 0 ↔ a = 0 ∧ ¬ ∃ j, k ≤ j ∧ j < w 9 ∧ w (452 + 24 * j + 0) = p ∧ attd w j (w (452 + 24 * t + 0))) := by
  have m00 : mior 0 0 = 0 := by decide
  have m10 : mior 1 0 = 1 := by decide
  have m01 : mior 0 1 = 1 := by decide
  have m11 : mior 1 1 = 1 := by decide
  intro n
  induction n with
  | zero =>
    intro a k w h0 hn ha
    have e : LP_234_97 t p 0 (452 + 24 * t) a k w = if a = 0 then 0 else 7 := by
      show ST_234_97 t p _ (452 + 24 * t) a k w = _
      unfold ST_234_97
      rw [if_neg (by omega)]
    rw [e]
    rcases ha with rfl | rfl
    · rw [if_pos rfl]
      exact ⟨Or.inl rfl, ⟨fun _ => ⟨rfl, fun ⟨j, a, b, _⟩ => by omega⟩, fun _ => rfl⟩⟩
    · rw [if_neg (by decide)]
      exact ⟨Or.inr rfl, ⟨fun z => absurd z (by decide), fun z => absurd z.1 (by decide)⟩⟩
  | succ n ih =>
    intro a k w h0 hn ha
    by_cases c1 : k < w 9
    · have pass : (w (452 + 24 * k + 0) = p → ¬ attd w k (w (452 + 24 * t + 0))) → LP_234_97 t p (n + 1) (452 + 24 * t) a k w = LP_234_97 t p n (452 + 24 * t) a (k + 1) w → (LP_234_97 t p (n + 1) (452 + 24 * t) a k w = 0 ∨ LP_234_97 t p (n + 1) (452 + 24 * t) a k w = 7) ∧ (LP_234_97 t p (n + 1) (452 + 24 * t) a k w = 0 ↔ a = 0 ∧ ¬ ∃ j, k ≤ j ∧ j < w 9 ∧ w (452 + 24 * j + 0) = p ∧ attd w j (w (452 + 24 * t + 0))) := fun hn' e => by
        obtain ⟨i1, i2⟩ := ih a (k + 1) w (by omega) (by omega) ha
        rw [e]
        refine ⟨i1, i2.trans ⟨fun z => ⟨z.1, fun ⟨j, x, y, u, v⟩ => ?_⟩, fun z => ⟨z.1, fun ⟨j, x, y, u, v⟩ => z.2 ⟨j, by omega, y, u, v⟩⟩⟩⟩
        by_cases hj : j = k
        · rw [hj] at u v
          exact hn' u v
        · exact z.2 ⟨j, by omega, y, u, v⟩
      by_cases c2 : w (452 + 24 * k + 0) = p
      · by_cases c3 : V_232 k (w (452 + 24 * t + 0)) w = 0
        · refine pass (fun _ => v232.2.mp c3) ?_
          show ST_234_97 t p _ (452 + 24 * t) a k w = _
          unfold ST_234_97
          rw [if_pos c1, if_pos c2, if_pos c3]
          rcases ha with rfl | rfl
          · rw [m00]
          · rw [m10]
        · have e : LP_234_97 t p (n + 1) (452 + 24 * t) a k w = LP_234_97 t p n (452 + 24 * t) 1 (k + 1) w := by
            show ST_234_97 t p _ (452 + 24 * t) a k w = _
            unfold ST_234_97
            rw [if_pos c1, if_pos c2, if_neg c3]
            rcases ha with rfl | rfl
            · rw [m01]
            · rw [m11]
          obtain ⟨i1, i2⟩ := ih 1 (k + 1) w (by omega) (by omega) (Or.inr rfl)
          have hat : attd w k (w (452 + 24 * t + 0)) := by
            rcases Classical.em (attd w k (w (452 + 24 * t + 0))) with z | z
            · exact z
            · exact absurd (v232.2.mpr z) c3
          rw [e]
          exact ⟨i1, i2.trans ⟨fun z => absurd z.1 (by decide), fun z => absurd ⟨k, by omega, c1, c2, hat⟩ z.2⟩⟩
      · refine pass (fun z => absurd z c2) ?_
        show ST_234_97 t p _ (452 + 24 * t) a k w = _
        unfold ST_234_97
        rw [if_pos c1, if_neg c2]
        rcases ha with rfl | rfl
        · rw [m00]
        · rw [m10]
    · have e : LP_234_97 t p (n + 1) (452 + 24 * t) a k w = if a = 0 then 0 else 7 := by
        show ST_234_97 t p _ (452 + 24 * t) a k w = _
        unfold ST_234_97
        rw [if_neg c1]
      rw [e]
      rcases ha with rfl | rfl
      · rw [if_pos rfl]
        exact ⟨Or.inl rfl, ⟨fun _ => ⟨rfl, fun ⟨j, a, b, _⟩ => by omega⟩, fun _ => rfl⟩⟩
      · rw [if_neg (by decide)]
        exact ⟨Or.inr rfl, ⟨fun z => absurd z (by decide), fun z => absurd z.1 (by decide)⟩⟩
-- the hours that two tickets have in common
theorem untilEq {s t : Int} {d : mD} {w : Row} (h : Rel s d w) (ht : 0 ≤ t ∧ t < w 9) : v_98 (s + 49) t (d s 2) d = V_212 t w := by
  obtain ⟨⟨-, a2, -⟩, -, -, -, rT, -⟩ := h
  unfold v_98 V_212
  rw [show s + 49 + 4 = s + 53 by omega, (rT.2 t ht.1 ht.2).2.2.2.1, a2]
theorem comLoop {s t p : Int} {d : mD} {w : Row} (h : Rel s d w) (ht : 0 ≤ t ∧ t < w 9) : ∀ (nc nr : Nat) (m k : Int), 0 ≤ k → 0 ≤ m → w 9 - k ≤ (nc : Int) → w 9 - k ≤ (nr : Int) → lp_78_5 s t p nc m k d = LP_231_5 t p nr m k w := by
  obtain ⟨⟨-, a2, -⟩, -, -, -, ⟨t1, t2⟩, -⟩ := id h
  have gt := t2 t ht.1 ht.2
  intro nc
  induction nc with
  | zero =>
    intro nr m k h0 hm h1 h2
    have e : lp_78_5 s t p 0 m k d = m := by
      show st_78_5 s t p _ m k d = m
      unfold st_78_5
      rw [if_neg (by rw [t1]; omega)]
    rw [e]
    cases nr with
    | zero =>
      show m = ST_231_5 t p _ m k w
      unfold ST_231_5
      rw [if_neg (by omega)]
    | succ nr =>
      show m = ST_231_5 t p _ m k w
      unfold ST_231_5
      rw [if_neg (by omega)]
  | succ nc ih =>
    intro nr m k h0 hm h1 h2
    by_cases c1 : k < w 9
    · cases nr with
      | zero => omega
      | succ nr =>
        have gk := t2 k h0 c1
        show st_78_5 s t p _ m k d = ST_231_5 t p _ m k w
        unfold st_78_5 ST_231_5
        rw [if_pos (by rw [t1]; exact c1), if_pos c1]
        rw [show s + 49 + 1 = s + 50 by omega, show s + 49 + 2 = s + 51 by omega, show s + 49 + 3 = s + 52 by omega, gk.1, gk.2.1, gt.2.1, gt.2.2.1, gk.2.2.1]
        by_cases c2 : k = t
        · rw [if_pos c2, if_pos c2]
          exact ih nr m (k + 1) (by omega) hm (by omega) (by omega)
        · rw [if_neg c2, if_neg c2]
          by_cases c3 : w (452 + 24 * k + 0) = p
          · rw [if_pos c3, if_pos c3]
            by_cases c4 : w (452 + 24 * k + 1) = w (452 + 24 * t + 1)
            · rw [if_pos c4, if_pos c4, untilEq h ht, untilEq h ⟨h0, c1⟩]
              have e1 := mmin_r (V_212 t w) (V_212 k w)
              have e2 := mmax_r (w (452 + 24 * t + 2)) (w (452 + 24 * k + 2))
              have e3 := mmax_r m (mmin (V_212 t w) (V_212 k w) - mmax (w (452 + 24 * t + 2)) (w (452 + 24 * k + 2)))
              have e4 : V_230 t k w = if mmax (w (452 + 24 * t + 2)) (w (452 + 24 * k + 2)) < mmin (V_212 t w) (V_212 k w) then mmin (V_212 t w) (V_212 k w) - mmax (w (452 + 24 * t + 2)) (w (452 + 24 * k + 2)) else 0 := by
                unfold V_230 mmax mmin
                repeat' split
                all_goals omega
              have e5 : (if m < V_230 t k w then V_230 t k w else m) = mmax m (mmin (V_212 t w) (V_212 k w) - mmax (w (452 + 24 * t + 2)) (w (452 + 24 * k + 2))) := by
                rw [e4]
                split
                · split <;> omega
                · split <;> omega
              rw [← e5]
              by_cases c5 : m < V_230 t k w
              · rw [if_pos c5, if_pos c5]
                exact ih nr _ (k + 1) (by omega) (by omega) (by omega) (by omega)
              · rw [if_neg c5, if_neg c5]
                exact ih nr m (k + 1) (by omega) hm (by omega) (by omega)
            · rw [if_neg c4, if_neg c4]
              exact ih nr m (k + 1) (by omega) hm (by omega) (by omega)
          · rw [if_neg c3, if_neg c3]
            exact ih nr m (k + 1) (by omega) hm (by omega) (by omega)
    · have e : lp_78_5 s t p (nc + 1) m k d = m := by
        show st_78_5 s t p _ m k d = m
        unfold st_78_5
        rw [if_neg (by rw [t1]; omega)]
      rw [e]
      cases nr with
      | zero =>
        show m = ST_231_5 t p _ m k w
        unfold ST_231_5
        rw [if_neg (by omega)]
      | succ nr =>
        show m = ST_231_5 t p _ m k w
        unfold ST_231_5
        rw [if_neg (by omega)]
theorem common {s t p : Int} {d : mD} {w : Row} (hg : GG w) (h : Rel s d w) (ht : 0 ≤ t ∧ t < w 9) : v_78 s t p d = V_231 t p w := by
  have n9 := hg.1.2.2.1
  exact comLoop h ht (60 - 0 : Int).toNat (61 - 0 : Int).toNat 0 0 (by omega) (by omega) (by rw [show (((60 - 0 : Int).toNat : Nat) : Int) = 60 by decide]; omega) (by rw [show (((61 - 0 : Int).toNat : Nat) : Int) = 61 by decide]; omega)
theorem ibit {W p : Int} (p0 : 0 ≤ p) (p1 : p < 31) : miand (mishr W p) 1 = if ib W p.toNat = true then 1 else 0 := by
  have e := iget W p.toNat (by omega)
  rw [igetb W p.toNat (by omega), show ((p.toNat : Nat) : Int) = p by omega] at e
  exact e
theorem hinder {s t p : Int} {d : mD} {w : Row} (hg : GG w) (h : Rel s d w) (ht : 0 ≤ t ∧ t < w 9) (hp : 0 ≤ p ∧ p < w 8) : v_77 s t p d = V_234 t p w ∧ (V_234 t p w = 0 → w (452 + 24 * t + 5) = 1 ∧ w (452 + 24 * t + 6) = 0 ∧ ¬ w (452 + 24 * t + 0) = p ∧ w (452 + 24 * t + 8 + p) = 0) := by
  have n8 := hg.1.2.1
  have n9 := hg.1.2.2.1
  have gT := hg.2.2.2.1 t ht.1 ht.2
  have gC := hg.2.2.2.2.1 t ht.1 ht.2
  have z0 : w (452 + 24 * t + 5) = 0 → w (452 + 24 * t + 5) + w (452 + 24 * t + 6) = 0 := fun z => by
    rcases gC.2.1 with q | q
    · omega
    · have := (gC.2.2.1 q).1
      omega
  have z1 : ¬ w (452 + 24 * t + 5) = 0 → w (452 + 24 * t + 6) = 0 → w (452 + 24 * t + 5) = 1 ∧ ¬ w (452 + 24 * t + 5) + w (452 + 24 * t + 6) = 0 ∧ ¬ w (452 + 24 * t + 5) + w (452 + 24 * t + 6) = 2 := fun z z' => by
    rcases gC.1 with q | q <;> omega
  have z2 : ¬ w (452 + 24 * t + 6) = 0 → ¬ w (452 + 24 * t + 5) + w (452 + 24 * t + 6) = 0 ∧ w (452 + 24 * t + 5) + w (452 + 24 * t + 6) = 2 := fun z => by
    rcases gC.2.1 with q | q
    · omega
    · have := (gC.2.2.1 q).1
      omega
  have hcom := common (p := p) hg h ht
  obtain ⟨⟨a1, a2, a3⟩, -, -, -, ⟨t1, t2⟩, rC, -, -, rB, -⟩ := id h
  have gt := t2 t ht.1 ht.2
  have gc := rC t ht.1 ht.2
  have gb := rB p hp.1 hp.2
  have gb2 := rB _ gT.1.1 gT.1.2
  have bit := gc.2.2.1 p hp.1 (by omega)
  have l := (lp234 (t := t) (p := p) (61 - 0 : Int).toNat 0 0 w (by omega) (by rw [show (((61 - 0 : Int).toNat : Nat) : Int) = 61 by decide]; omega) (Or.inl rfl))
  have e2 : d (s + 1) 2 = w 4 := a3 2 (by omega) (by omega)
  have ev : v_99 (s + 49) t p d = if w (452 + 24 * t + 8 + p) = 0 then 0 else 1 := by
    unfold v_99
    rw [show s + 49 + 7 = s + 56 by omega, ibit hp.1 (by omega)]
    by_cases z : ib (d (s + 56) t) p.toNat = true
    · rw [if_pos z, if_neg (by decide), if_neg (bit.mp z)]
    · rw [if_neg z, if_pos rfl]
      by_cases z2 : w (452 + 24 * t + 8 + p) = 0
      · rw [if_pos z2]
      · exact absurd (bit.mpr z2) z
  unfold v_77 V_234
  rw [show s + 49 + 6 = s + 55 by omega, show s + 49 + 1 = s + 50 by omega, show s + 10 + 4 = s + 14 by omega, show s + 10 + 5 = s + 15 by omega, gc.1, gt.1, ev, hcom, e2, gb.2.1, v233 n9, ibit hp.1 (by omega)]
  by_cases c1 : w (452 + 24 * t + 5) = 0
  · rw [if_pos (z0 c1), if_pos c1]
    exact ⟨rfl, fun z => absurd z (by decide)⟩
  · rw [if_neg (show ¬ w (452 + 24 * t + 5) + w (452 + 24 * t + 6) = 0 from fun z => (by
      rcases Classical.em (w (452 + 24 * t + 6) = 0) with q | q
      · exact (z1 c1 q).2.1 z
      · exact (z2 q).1 z)), if_neg c1]
    by_cases c2 : w (452 + 24 * t + 6) = 0
    · rw [if_neg (z1 c1 c2).2.2, if_pos c2]
      by_cases c3 : w (452 + 24 * t + 0) = p
      · rw [if_pos c3, if_pos c3]
        exact ⟨rfl, fun z => absurd z (by decide)⟩
      · rw [if_neg c3, if_neg c3]
        by_cases c4 : w (452 + 24 * t + 8 + p) = 0
        · rw [if_pos c4, if_pos rfl, if_pos c4]
          refine ⟨?_, fun _ => ⟨(z1 c1 c2).1, c2, c3, c4⟩⟩
          split
          · rfl
          · split
            · obtain ⟨l1, l2⟩ := l
              have hb := gb2.2.2 p hp.1 (by omega)
              by_cases z : ib (d (s + 15) (w (452 + 24 * t + 0))) p.toNat = true
              · rw [if_pos z, if_neg (by decide)]
                obtain ⟨j, j1, j2, j3, j4⟩ := hb.mp z
                rcases l1 with q | q
                · exact absurd ⟨j, j1, j2, j3, j4⟩ (l2.mp q).2
                · exact q.symm
              · rw [if_neg z, if_pos rfl]
                exact (l2.mpr ⟨rfl, fun ⟨j, j1, j2, j3, j4⟩ => z (hb.mpr ⟨j, j1, j2, j3, j4⟩)⟩).symm
            · rfl
        · rw [if_neg c4, if_neg (by decide), if_neg c4]
          exact ⟨rfl, fun z => absurd z (by decide)⟩
    · rw [if_pos (z2 c2).2, if_neg c2]
      exact ⟨rfl, fun z => absurd z (by decide)⟩
/-! ===== a person is a witness ===== -/
theorem madeR_k' {w w' : Row} {p : Int} (h10 : w' 10 = w 10) (h : ∀ k, 0 ≤ k → k < w 10 → perO w' k = perO w k ∧ w' (1916 + 5 * k + 4) = w (1916 + 5 * k + 4) ∧ w' 0 = w 0) : madeR w' p = madeR w p := by
  unfold madeR
  rw [h10]
  refine csum_congr (fun k a b => ?_)
  obtain ⟨x, y, z⟩ := h k a (by omega)
  rw [x, y, z]
theorem witStep {s t p : Int} {d : mD} {w w' : Row} (hg : GG w) (h : Rel s d w) (ht : 0 ≤ t ∧ t < w 9) (hp : 0 ≤ p ∧ p < w 8) (hz : w (452 + 24 * t + 8 + p) = 0) (e8 : w' (452 + 24 * t + 8 + p) = w 0 + 1) (e7 : w' (452 + 24 * t + 7) = w (452 + 24 * t + 7) + 1) (e : ∀ i, ¬ i = 452 + 24 * t + 8 + p → ¬ i = 452 + 24 * t + 7 → w' i = w i) :
    GG w' ∧ Rel s (mset (mset (mset d (s + 56) t (mior (d (s + 56) t) (mishl 1 p))) (s + 14) p (d (s + 14) p + 1)) (s + 15) p (mior (d (s + 15) p) (mishl 1 (d (s + 50) t)))) w' := by
  obtain ⟨hN, hO, hQ, hT, hC, hK, hR⟩ := id hg
  obtain ⟨n7, n8, n9, n10, n11, n0, n1, n2, n3, n4, n5, n6⟩ := id hN
  obtain ⟨rA, rO, rQ, rP, ⟨t1, t2⟩, rC, rK, rR, rB, rH⟩ := h
  have gt := hT t ht.1 ht.2
  have ew := (t2 t ht.1 ht.2).1
  rw [ew]
  generalize hd : (mset (mset (mset d (s + 56) t (mior (d (s + 56) t) (mishl 1 p))) (s + 14) p (d (s + 14) p + 1)) (s + 15) p (mior (d (s + 15) p) (mishl 1 (w (452 + 24 * t + 0))))) = d'
  have fd : ∀ b, ¬ b = s + 56 → ¬ b = s + 14 → ¬ b = s + 15 → d' b = d b := fun b x y z => by
    rw [← hd]
    funext j
    simp (disch := omega) only [ms_a]
  have e0 : w' 0 = w 0 := e 0 (by omega) (by omega)
  have e9 : w' 9 = w 9 := e 9 (by omega) (by omega)
  have ei : ∀ i, i < 452 + 24 * t + 7 ∨ 452 + 24 * t + 24 ≤ i → w' i = w i := fun i hi => e i (by omega) (by omega)
  have ef : ∀ t' f, 0 ≤ f → f ≤ 6 → w' (452 + 24 * t' + f) = w (452 + 24 * t' + f) := fun t' f a b => e _ (by omega) (by omega)
  have eq8 : ∀ t' q, 0 ≤ q → q < 16 → ¬ (t' = t ∧ q = p) → w' (452 + 24 * t' + 8 + q) = w (452 + 24 * t' + 8 + q) := fun t' q a b c => by
    have h1 : ¬ 452 + 24 * t' + 8 + q = 452 + 24 * t + 8 + p := fun z => by
      have : t' = t := by omega
      subst this
      exact c ⟨rfl, by omega⟩
    exact e _ h1 (by omega)
  have at0 : ∀ t' q, 0 ≤ q → q < 16 → (attd w' t' q ↔ attd w t' q ∨ (t' = t ∧ q = p)) := fun t' q a b => by
    unfold attd
    rw [e0]
    by_cases c : t' = t ∧ q = p
    · obtain ⟨rfl, rfl⟩ := c
      rw [e8, hz]
      constructor
      · intro _; exact Or.inr ⟨rfl, rfl⟩
      · intro _
        refine ⟨by omega, by rw [show w 0 + 1 - 1 = w 0 by omega]⟩
    · rw [eq8 t' q a b c]
      exact ⟨fun z => Or.inl z, fun z => z.elim id (fun z => absurd z c)⟩
  have needC : ∀ i, (i = 0 ∨ i = 9 ∨ (452 ≤ i ∧ i < 1916 ∧ 3 ≤ (i - 452) % 24 ∧ (i - 452) % 24 ≤ 6)) → w' i = w i := fun i hi => e i (by omega) (by omega)
  refine ⟨⟨hN.k (fun i hi => e i (by omega) (by omega)), hO.k (fun i hi => e i (by omega) (by omega)) hN, hQ.k (fun i hi => e i (by omega) (by omega)) hN hO, hT.k (fun i hi => e i (by omega) (by omega)) hN hO, ?_, hK.k (fun i hi => e i (by omega) (by omega)) hN, hR.k (fun i hi => e i (by omega) (by omega)) hN⟩, rA.k (fun b x => fd b (by omega) (by omega) (by omega)) (fun i hi => e i (by omega) (by omega)), rO.k (fun b x y => fd b (by omega) (by omega) (by omega)) (fun i hi => e i (by omega) (by omega)) n7, rQ.k (fd _ (by omega) (by omega) (by omega)) (fun i hi => e i (by omega) (by omega)) n7 hO, rP.k (fun b x y => fd b (by omega) (by omega) (by omega)) (fun i hi => e i (by omega) (by omega)) n8, RelT.k (fun b x y => fd b (by omega) (by omega) (by omega)) (fun i hi => e i (by omega) (by omega)) n9 ⟨t1, t2⟩, ?_, rK.k (by rw [fd _ (by omega) (by omega) (by omega)]) (fun b x y => fd b (by omega) (by omega) (by omega)) (fun i hi => e i (by omega) (by omega)) n10, rR.k (by rw [fd _ (by omega) (by omega) (by omega)]) (fd _ (by omega) (by omega) (by omega)) (fun i hi => e i (by omega) (by omega)) n11, ?_, rH.k (fun b x y => fd b (by omega) (by omega) (by omega)) (fun i hi => e i (by omega) (by omega)) n8 n9 n10 hK.of⟩
  · intro t' x y
    rw [e9] at y
    have g := hC t' x y
    rw [ef t' 3 (by decide) (by decide), ef t' 4 (by decide) (by decide), ef t' 5 (by decide) (by decide), ef t' 6 (by decide) (by decide), e0]
    refine ⟨g.1, g.2.1, g.2.2.1, g.2.2.2.1, fun q a b => ?_⟩
    by_cases c : t' = t ∧ q = p
    · obtain ⟨rfl, rfl⟩ := c
      rw [e8]
      omega
    · rw [eq8 t' q a b c]
      exact g.2.2.2.2 q a b
  · intro t' x y
    rw [e9] at y
    obtain ⟨g1, g2, g3, g4, g5⟩ := rC t' x y
    rw [fd (s + 55) (by omega) (by omega) (by omega), ef t' 5 (by decide) (by decide), ef t' 6 (by decide) (by decide)]
    by_cases c : t' = t
    · subst c
      have hm : d' (s + 56) t' = mior (d (s + 56) t') (mishl 1 p) := by
        rw [← hd]
        simp (disch := omega) only [ms_a, ms_e]
      have hr := mior_rng g4 g5 hp.1 (by omega : p < 16)
      rw [hm, e7]
      refine ⟨g1, ?_, fun q a b => ?_, hr.1, hr.2⟩
      · have hs := csum_upd (f := fun q => if w' (452 + 24 * t' + 8 + q) = 0 then 0 else 1) (g := fun q => if w (452 + 24 * t' + 8 + q) = 0 then 0 else 1) (n := 16) (k := p) hp.1 (by omega) (fun i a b c => by
          show (if w' (452 + 24 * t' + 8 + i) = 0 then (0 : Int) else 1) = if w (452 + 24 * t' + 8 + i) = 0 then 0 else 1
          rw [eq8 t' i a (by omega) (fun z => c z.2)])
        rw [e8, hz, if_neg (by omega), if_pos rfl] at hs
        rw [hs, g2]
        omega
      · have hb := iset (d (s + 56) t') p.toNat q.toNat (by omega) (by omega)
        rw [show ((p.toNat : Nat) : Int) = p by omega] at hb
        rw [hb]
        by_cases c : q = p
        · subst c
          rw [if_pos rfl, e8]
          exact ⟨fun _ => by omega, fun _ => rfl⟩
        · rw [if_neg (by omega), eq8 t' q a b (fun z => c z.2)]
          exact g3 q a b
    · have hm : d' (s + 56) t' = d (s + 56) t' := by
        rw [← hd]
        simp (disch := omega) only [ms_a, ms_i]
      rw [hm, e (452 + 24 * t' + 7) (by omega) (by omega)]
      refine ⟨g1, ?_, fun q a b => ?_, g4, g5⟩
      · rw [g2]
        exact csum_congr (fun q a b => by rw [eq8 t' q a (by omega) (fun z => c z.1)])
      · rw [eq8 t' q a b (fun z => c z.1)]
        exact g3 q a b
  · intro q x y
    rw [e 8 (by omega) (by omega)] at y
    obtain ⟨g1, g2, g3⟩ := rB q x y
    rw [fd (s + 13) (by omega) (by omega) (by omega)]
    have hat : attR w' q = attR w q + (if q = p then 1 else 0) := by
      unfold attR
      rw [e9, e0]
      by_cases c : q = p
      · subst c
        have hs := csum_upd (f := fun t => if 0 < w' (452 + 24 * t + 8 + q) ∧ (w' (452 + 24 * t + 8 + q) - 1) / 20 = w 0 / 20 then 1 else 0) (g := fun t => if 0 < w (452 + 24 * t + 8 + q) ∧ (w (452 + 24 * t + 8 + q) - 1) / 20 = w 0 / 20 then 1 else 0) (n := (w 9).toNat) (k := t) ht.1 (by omega) (fun i a b c => by
          show (if 0 < w' (452 + 24 * i + 8 + q) ∧ (w' (452 + 24 * i + 8 + q) - 1) / 20 = w 0 / 20 then (1 : Int) else 0) = if 0 < w (452 + 24 * i + 8 + q) ∧ (w (452 + 24 * i + 8 + q) - 1) / 20 = w 0 / 20 then 1 else 0
          rw [eq8 i q x (by omega) (fun z => c z.1)])
        rw [e8, hz, if_pos ⟨by omega, by rw [show w 0 + 1 - 1 = w 0 by omega]⟩, if_neg (fun z => absurd z.1 (by decide))] at hs
        rw [hs, if_pos rfl]
        omega
      · rw [if_neg c, Int.add_zero]
        exact csum_congr (fun t' a b => by rw [eq8 t' q x (by omega) (fun z => c z.2)])
    refine ⟨?_, ?_, fun r a b => ?_⟩
    · rw [g1]
      refine (madeR_k' ?_ ?_).symm
      · exact e 10 (by omega) (by omega)
      · intro k a b
        have gk := hK k a b
        refine ⟨?_, e _ (by omega) (by omega), e0⟩
        unfold perO
        rw [e (1916 + 5 * k + 1) (by omega) (by omega), ef _ 0 (by decide) (by decide)]
    · rw [hat, ← g2, ← hd]
      by_cases c : q = p
      · rw [if_pos c, c]
        simp (disch := omega) only [ms_a, ms_e]
      · rw [if_neg c]
        simp (disch := omega) only [ms_a, ms_i]
        omega
    · have hx : ib (d' (s + 15) q) r.toNat = true ↔ ib (d (s + 15) q) r.toNat = true ∨ (q = p ∧ r = w (452 + 24 * t + 0)) := by
        by_cases c : q = p
        · subst c
          have hm : d' (s + 15) q = mior (d (s + 15) q) (mishl 1 (w (452 + 24 * t + 0))) := by
            rw [← hd]
            simp (disch := omega) only [ms_e]
          have hb := iset (d (s + 15) q) (w (452 + 24 * t + 0)).toNat r.toNat (by omega) (by omega)
          rw [show (((w (452 + 24 * t + 0)).toNat : Nat) : Int) = w (452 + 24 * t + 0) by omega] at hb
          rw [hm, hb]
          by_cases c2 : r = w (452 + 24 * t + 0)
          · rw [if_pos (by omega)]
            exact ⟨fun _ => Or.inr ⟨rfl, c2⟩, fun _ => rfl⟩
          · rw [if_neg (by omega)]
            exact ⟨fun z => Or.inl z, fun z => z.elim id (fun z => absurd z.2 c2)⟩
        · have hm : d' (s + 15) q = d (s + 15) q := by
            rw [← hd]
            simp (disch := omega) only [ms_a, ms_i]
          rw [hm]
          exact ⟨fun z => Or.inl z, fun z => z.elim id (fun z => absurd z.1 c)⟩
      rw [hx, g3 r a b, e9]
      constructor
      · rintro (⟨t', z1, z2, z3, z4⟩ | ⟨z1, z2⟩)
        · exact ⟨t', z1, z2, by rw [ef t' 0 (by decide) (by decide)]; exact z3, (at0 t' q x (by omega)).mpr (Or.inl z4)⟩
        · exact ⟨t, ht.1, ht.2, by rw [ef t 0 (by decide) (by decide), z2], (at0 t q x (by omega)).mpr (Or.inr ⟨rfl, z1⟩)⟩
      · rintro ⟨t', z1, z2, z3, z4⟩
        rw [ef t' 0 (by decide) (by decide)] at z3
        rcases (at0 t' q x (by omega)).mp z4 with z | ⟨z, z'⟩
        · exact Or.inl ⟨t', z1, z2, z3, z⟩
        · rw [z] at z3
          exact Or.inr ⟨z', z3.symm⟩
theorem witCount {s t : Int} {d d2 : mD} {w : Row} (h : Rel s d w) (ht : 0 ≤ t ∧ t < w 9) : v_298 (d (s + 56) t) d2 = w (452 + 24 * t + 7) := by
  obtain ⟨g1, g2, g3, g4, g5⟩ := h.2.2.2.2.2.1 t ht.1 ht.2
  rw [v298_bits g4 g5, g2]
  refine csum_congr (fun p a b => ?_)
  have k := g3 p a (by omega)
  by_cases z : ib (d (s + 56) t) p.toNat = true
  · rw [if_pos z, if_neg (k.mp z)]
  · rw [if_neg z]
    by_cases z2 : w (452 + 24 * t + 8 + p) = 0
    · rw [if_pos z2]
    · exact absurd (k.mpr z2) z
theorem attest {s t p : Int} {d : mD} {w : Row} (hg : GG w) (h : Rel s d w) (ht : 0 ≤ t ∧ t < w 9) (hp : 0 ≤ p ∧ p < w 8) (hv : V_234 t p w = 0) (h9 : w 0 ≤ 999) : v_75 s t p d = V_235 t p w ∧ GG (W_235 t p w) ∧ Rel s (g_75 s t p d) (W_235 t p w) ∧ ∀ i, i ≤ 9 → W_235 t p w i = w i := by
  have n9 := hg.1.2.2.1
  have n8 := hg.1.2.1
  obtain ⟨c5, c6, c0, c8⟩ := (hinder hg h ht hp).2 hv
  have gt := hg.2.2.2.1 t ht.1 ht.2
  have gC := hg.2.2.2.2.1 t ht.1 ht.2
  have c4 := gC.2.2.2.1 c5
  have hen : w (452 + 24 * t + 3) ≤ 999 := by
    have := gt.2.2.2.2.2 (by omega)
    omega
  have e3 : d (s + 1) 1 = w 3 := h.1.2.2 1 (by omega) (by omega)
  have h8 : ¬ 452 + 24 * t + 8 + p = 452 + 24 * t + 7 := by omega
  generalize hw1 : ws (ws w (((452 + (24 * t)) + 8) + p) ((w 0) + 1)) ((452 + (24 * t)) + 7) ((w ((452 + (24 * t)) + 7)) + 1) = w1
  have f8 : w1 (452 + 24 * t + 8 + p) = w 0 + 1 := by rw [← hw1, wsn h8, wse rfl]
  have f7 : w1 (452 + 24 * t + 7) = w (452 + 24 * t + 7) + 1 := by rw [← hw1, wse rfl]
  have fi : ∀ i, ¬ i = 452 + 24 * t + 8 + p → ¬ i = 452 + 24 * t + 7 → w1 i = w i := fun i a b => by rw [← hw1, wsn b, wsn a]
  obtain ⟨g1, r1⟩ := witStep hg h ht hp c8 f8 f7 fi
  have t9 : w1 9 = w 9 := fi 9 (by omega) (by omega)
  generalize hd1 : (mset (mset (mset d (s + 56) t (mior (d (s + 56) t) (mishl 1 p))) (s + 14) p (d (s + 14) p + 1)) (s + 15) p (mior (d (s + 15) p) (mishl 1 (d (s + 50) t)))) = d1 at r1
  have hcnt := witCount (d2 := d1) r1 (t := t) (by rw [t9]; exact ht)
  have hm : d1 (s + 56) t = mior (d (s + 56) t) (mishl 1 p) := by
    rw [← hd1]
    simp (disch := omega) only [ms_a, ms_e]
  rw [hm, f7] at hcnt
  unfold v_75 g_75 V_235 W_235
  rw [show s + 49 + 7 = s + 56 by omega, show s + 10 + 4 = s + 14 by omega, show s + 10 + 5 = s + 15 by omega, show s + 49 + 1 = s + 50 by omega, hd1, hcnt, e3, hw1]
  by_cases c : w (452 + 24 * t + 7) + 1 < w 3
  · simp only [if_pos c]
    exact ⟨trivial, g1, r1, fun i hi => fi i (by omega) (by omega)⟩
  · simp only [if_neg c]
    obtain ⟨g2, r2⟩ := setC (s := s) (t := t) (c := 1) (v := 1) (w' := ws w1 (452 + 24 * t + 6) 1) g1 r1 (by rw [t9]; exact ht) (Or.inr rfl) (Or.inr rfl) (fun _ => ⟨rfl, by rw [fi _ (by omega) (by omega)]; exact hen⟩) (fun _ => by rw [fi _ (by omega) (by omega)]; exact c4) (by rw [wsn (by omega), fi _ (by omega) (by omega)]; exact c5) (wse rfl) (fun i a b => wsn b)
    rw [show (1 : Int) + 1 = 2 by decide] at r2
    obtain ⟨m1, m2, m3, m4⟩ := makes (t := t) g2 r2 (by rw [wsn (by omega), t9]; exact ht) (by rw [wsn (by omega), fi _ (by omega) (by omega)]; exact c4) (by rw [wsn (by omega), fi _ (by omega) (by omega)]; exact hen)
    unfold v_76 g_76
    rw [show s + 49 + 6 = s + 55 by omega]
    exact ⟨m1, m2, m3, fun i hi => by rw [m4 i (by omega) (by omega), wsn (by omega), fi i (by omega) (by omega)]⟩
