/-! ===== tokens change hands; tokens are offered ===== -/
theorem cntGen {L : Nat → Int → Int → Int} {f : Int → Int} {N : Int} (hz : ∀ (n : Nat) (a k : Int), N ≤ k → L n a k = a) (hs : ∀ (n : Nat) (a k : Int), 0 ≤ k → k < N → L (n + 1) a k = L n (a + f k) (k + 1)) : ∀ (n : Nat) (a k : Int), 0 ≤ k → k ≤ N → N - k ≤ (n : Int) → L n a k = a + (csum f N.toNat - csum f k.toNat) := by
  intro n
  induction n with
  | zero =>
    intro a k h0 hk hn
    have e : k = N := by omega
    rw [hz 0 a k (by omega), e]
    omega
  | succ n ih =>
    intro a k h0 hk hn
    by_cases c : k < N
    · have i := ih (a + f k) (k + 1) (by omega) (by omega) (by omega)
      rw [csum_s _ h0] at i
      rw [hs n a k h0 c, i]
      omega
    · have e : k = N := by omega
      rw [hz _ a k (by omega), e]
      omega
theorem cnt0 {L : Nat → Int → Int → Int} {f : Int → Int} {N : Int} {n : Nat} (hN : 0 ≤ N) (hn : N ≤ (n : Int)) (hz : ∀ (n : Nat) (a k : Int), N ≤ k → L n a k = a) (hs : ∀ (n : Nat) (a k : Int), 0 ≤ k → k < N → L (n + 1) a k = L n (a + f k) (k + 1)) : L n 0 0 = csum f N.toNat := by
  rw [cntGen hz hs n 0 0 (by omega) hN (by omega)]
  show 0 + (_ - csum _ 0) = _
  simp only [csum]
  omega
theorem v245 {p q : Int} {w : Row} (h10 : 0 ≤ w 10 ∧ w 10 ≤ 200) : V_245 p q w = csum (fun k => if w (1916 + 5 * k + 0) = p ∧ w (1916 + 5 * k + 3) = q then 1 else 0) (w 10).toNat := by
  unfold V_245
  refine cnt0 (L := fun n a k => LP_245_5 p q n a k w) h10.1 (by rw [show (((200 - 0 : Int).toNat : Nat) : Int) = 200 by decide]; omega) (fun n a k h => ?_) (fun n a k h0 h => ?_)
  · cases n with
    | zero =>
      show ST_245_5 p q _ a k w = a
      unfold ST_245_5
      rw [if_neg (by omega)]
    | succ n =>
      show ST_245_5 p q _ a k w = a
      unfold ST_245_5
      rw [if_neg (by omega)]
  · show ST_245_5 p q _ a k w = _
    unfold ST_245_5
    rw [if_pos h]
    by_cases c2 : w (1916 + 5 * k + 0) = p
    · by_cases c3 : w (1916 + 5 * k + 3) = q
      · rw [if_pos c2, if_pos c3, if_pos ⟨c2, c3⟩]
      · rw [if_pos c2, if_neg c3, if_neg (fun z => c3 z.2)]
    · rw [if_neg c2, if_neg (fun z => c2 z.1)]
theorem v111 {s p q : Int} {d : mD} (h10 : 0 ≤ d (s + 57) 0 ∧ d (s + 57) 0 ≤ 200) : v_111 (s + 57) p q d = csum (fun k => if d (s + 58) k = p ∧ d (s + 61) k = q then 1 else 0) (d (s + 57) 0).toNat := by
  unfold v_111
  refine cnt0 (L := fun n a k => lp_111_5 (s + 57) p q n a k d) h10.1 (by rw [show (((200 - 0 : Int).toNat : Nat) : Int) = 200 by decide]; omega) (fun n a k h => ?_) (fun n a k h0 h => ?_)
  · cases n with
    | zero =>
      show st_111_5 (s + 57) p q _ a k d = a
      unfold st_111_5
      rw [if_neg (by omega)]
    | succ n =>
      show st_111_5 (s + 57) p q _ a k d = a
      unfold st_111_5
      rw [if_neg (by omega)]
  · show st_111_5 (s + 57) p q _ a k d = _
    unfold st_111_5
    rw [if_pos h, show s + 57 + 1 = s + 58 by omega, show s + 57 + 4 = s + 61 by omega]
    by_cases c2 : d (s + 58) k = p
    · by_cases c3 : d (s + 61) k = q <;> simp [c2, c3]
    · simp [c2]
theorem owned {s p q : Int} {d : mD} {w : Row} (hg : GG w) (h : Rel s d w) : v_111 (s + 57) p q d = V_245 p q w := by
  have n10 := hg.1.2.2.2.1
  obtain ⟨-, -, -, -, -, -, ⟨k1, k2⟩, -⟩ := h
  rw [v111 (by rw [k1]; exact n10), v245 n10, k1]
  refine csum_congr (fun k a b => ?_)
  have g := k2 k a (by omega)
  rw [g.1, g.2.2.2]
-- one token goes to another person
theorem giveStep {s k o : Int} {d : mD} {w : Row} (hg : GG w) (h : Rel s d w) (hk : 0 ≤ k ∧ k < w 10) (ho : 0 ≤ o ∧ o < w 8) : GG (ws w (1916 + 5 * k + 0) o) ∧ Rel s (mset d (s + 58) k o) (ws w (1916 + 5 * k + 0) o) := by
  obtain ⟨hN, hO, hQ, hT, hC, hK, hR⟩ := id hg
  obtain ⟨n7, n8, n9, n10, n11, n0, n1, n2, n3, n4, n5, n6⟩ := id hN
  obtain ⟨rA, rO, rQ, rP, rT, rC, ⟨k1, k2⟩, rR, rB, rH⟩ := h
  generalize hw : ws w (1916 + 5 * k + 0) o = w'
  have eo : w' (1916 + 5 * k + 0) = o := by rw [← hw]; exact wse rfl
  have e : ∀ i, ¬ i = 1916 + 5 * k + 0 → w' i = w i := fun i hi => by rw [← hw]; exact wsn hi
  have fd : ∀ b, ¬ b = s + 58 → mset d (s + 58) k o b = d b := fun b x => by
    funext j
    exact ms_a x
  refine ⟨⟨hN.k (fun i hi => e i (by omega)), hO.k (fun i hi => e i (by omega)) hN, hQ.k (fun i hi => e i (by omega)) hN hO, hT.k (fun i hi => e i (by omega)) hN hO, hC.k (fun i hi => e i (by omega)) hN, hK.k2 (fun i hi => e i (by omega)) hN (fun j x y => ?_), hR.k (fun i hi => e i (by omega)) hN⟩, rA.k (fun b x => fd b (by omega)) (fun i hi => e i (by omega)), rO.k (fun b x y => fd b (by omega)) (fun i hi => e i (by omega)) n7, rQ.k (fd _ (by omega)) (fun i hi => e i (by omega)) n7 hO, rP.k (fun b x y => fd b (by omega)) (fun i hi => e i (by omega)) n8, rT.k (fun b x y => fd b (by omega)) (fun i hi => e i (by omega)) n9, rC.k (fun b x => fd b (by omega)) (fun i hi => e i (by omega)) n9, ⟨?_, fun j x y => ?_⟩, rR.k (by rw [fd _ (by omega)]) (fd _ (by omega)) (fun i hi => e i (by omega)) n11, rB.k (fun b x y => fd b (by omega)) (fun i hi => e i (by omega)) n8 n9 n10 hK.of, rH.k (fun b x y => fd b (by omega)) (fun i hi => e i (by omega)) n8 n9 n10 hK.of⟩
  · have g := hK j x y
    refine ⟨?_, by rw [e _ (by omega)]; exact g.2.2.2.1⟩
    by_cases c : j = k
    · rw [c, eo]; exact ho
    · rw [e _ (by omega)]; exact g.1
  · rw [fd _ (by omega), e 10 (by omega)]; exact k1
  · rw [e 10 (by omega)] at y
    have g := k2 j x y
    rw [fd (s + 59) (by omega), fd (s + 60) (by omega), fd (s + 61) (by omega), e (1916 + 5 * j + 1) (by omega), e (1916 + 5 * j + 2) (by omega), e (1916 + 5 * j + 3) (by omega)]
    refine ⟨?_, g.2⟩
    by_cases c : j = k
    · rw [c, eo, ms_e rfl rfl]
    · rw [e _ (by omega), ms_i c]; exact g.1
theorem giveLoop {s p o m0 : Int} : ∀ (nc nr : Nat) (m k : Int) (d : mD) (w : Row), 0 ≤ k → GG w → Rel s d w → 0 ≤ o ∧ o < w 8 → w 10 - k ≤ (nc : Int) → w 10 - k ≤ (nr : Int) →
    ∃ w', LP_285_79 p o m0 nr m k w = (V_245 o 0 w', w') ∧ GG w' ∧ Rel s (lp_114_6 (s + 57) p o m0 nc m k d) w' ∧ XR w w' := by
  intro nc
  induction nc with
  | zero =>
    intro nr m k d w h0 hg h ho h1 h2
    have k1 := h.2.2.2.2.2.2.1.1
    have e : lp_114_6 (s + 57) p o m0 0 m k d = d := by
      show st_114_6 (s + 57) p o m0 _ m k d = d
      unfold st_114_6
      rw [if_neg (by omega)]
    refine ⟨w, ?_, hg, by rw [e]; exact h, XR.refl⟩
    cases nr with
    | zero =>
      show ST_285_79 p o m0 _ m k w = _
      unfold ST_285_79
      rw [if_neg (by omega)]
    | succ nr =>
      show ST_285_79 p o m0 _ m k w = _
      unfold ST_285_79
      rw [if_neg (by omega)]
  | succ nc ih =>
    intro nr m k d w h0 hg h ho h1 h2
    obtain ⟨k1, k2⟩ := h.2.2.2.2.2.2.1
    by_cases c1 : k < w 10
    · cases nr with
      | zero => omega
      | succ nr =>
        have g := k2 k h0 c1
        by_cases c2 : 0 < m
        · by_cases c3 : w (1916 + 5 * k + 0) = p
          · by_cases c4 : w (1916 + 5 * k + 3) = 0
            · obtain ⟨g', r'⟩ := giveStep (o := o) hg h ⟨h0, c1⟩ ho
              have e : lp_114_6 (s + 57) p o m0 (nc + 1) m k d = lp_114_6 (s + 57) p o m0 nc (m + -1) (k + 1) (mset d (s + 58) k o) := by
                show st_114_6 (s + 57) p o m0 _ m k d = _
                unfold st_114_6
                rw [if_pos (by omega), if_pos c2, show s + 57 + 1 = s + 58 by omega, show s + 57 + 4 = s + 61 by omega, if_pos (by rw [g.1]; exact c3), if_pos (by rw [g.2.2.2]; exact c4)]
              have e2 : LP_285_79 p o m0 (nr + 1) m k w = LP_285_79 p o m0 nr (m + -1) (k + 1) (ws w (1916 + 5 * k + 0) o) := by
                show ST_285_79 p o m0 _ m k w = _
                unfold ST_285_79
                rw [if_pos c1, if_pos c2, if_pos c3, if_pos c4]
              rw [e, e2]
              have e10 : ws w (1916 + 5 * k + 0) o 10 = w 10 := wsn (by omega)
              have e8 : ws w (1916 + 5 * k + 0) o 8 = w 8 := wsn (by omega)
              obtain ⟨w', q1, q2, q3, q4⟩ := ih nr (m + -1) (k + 1) _ _ (by omega) g' r' (by rw [e8]; exact ho) (by rw [e10]; omega) (by rw [e10]; omega)
              exact ⟨w', q1, q2, q3, XR.trans ⟨GXI.keep hg.1.2.1 e8 (wsn (by omega)) (fun t q a b u v => wsn (by have := hg.1.2.2.1; omega)) (fun p a b => wsn (by omega)) (Int.le_of_eq (C2_of e10 (fun j a b => by rw [wsn (by omega)])).symm), wsn (by omega)⟩ q4⟩
            · have e : lp_114_6 (s + 57) p o m0 (nc + 1) m k d = lp_114_6 (s + 57) p o m0 nc m (k + 1) d := by
                show st_114_6 (s + 57) p o m0 _ m k d = _
                unfold st_114_6
                rw [if_pos (by omega), if_pos c2, show s + 57 + 1 = s + 58 by omega, show s + 57 + 4 = s + 61 by omega, if_pos (by rw [g.1]; exact c3), if_neg (by rw [g.2.2.2]; exact c4)]
              have e2 : LP_285_79 p o m0 (nr + 1) m k w = LP_285_79 p o m0 nr m (k + 1) w := by
                show ST_285_79 p o m0 _ m k w = _
                unfold ST_285_79
                rw [if_pos c1, if_pos c2, if_pos c3, if_neg c4]
              rw [e, e2]
              exact ih nr m (k + 1) d w (by omega) hg h ho (by omega) (by omega)
          · have e : lp_114_6 (s + 57) p o m0 (nc + 1) m k d = lp_114_6 (s + 57) p o m0 nc m (k + 1) d := by
              show st_114_6 (s + 57) p o m0 _ m k d = _
              unfold st_114_6
              rw [if_pos (by omega), if_pos c2, show s + 57 + 1 = s + 58 by omega, if_neg (by rw [g.1]; exact c3)]
            have e2 : LP_285_79 p o m0 (nr + 1) m k w = LP_285_79 p o m0 nr m (k + 1) w := by
              show ST_285_79 p o m0 _ m k w = _
              unfold ST_285_79
              rw [if_pos c1, if_pos c2, if_neg c3]
            rw [e, e2]
            exact ih nr m (k + 1) d w (by omega) hg h ho (by omega) (by omega)
        · have e : lp_114_6 (s + 57) p o m0 (nc + 1) m k d = d := by
            show st_114_6 (s + 57) p o m0 _ m k d = d
            unfold st_114_6
            rw [if_pos (by omega), if_neg c2]
          refine ⟨w, ?_, hg, by rw [e]; exact h, XR.refl⟩
          show ST_285_79 p o m0 _ m k w = _
          unfold ST_285_79
          rw [if_pos c1, if_neg c2]
    · have e : lp_114_6 (s + 57) p o m0 (nc + 1) m k d = d := by
        show st_114_6 (s + 57) p o m0 _ m k d = d
        unfold st_114_6
        rw [if_neg (by omega)]
      refine ⟨w, ?_, hg, by rw [e]; exact h, XR.refl⟩
      cases nr with
      | zero =>
        show ST_285_79 p o m0 _ m k w = _
        unfold ST_285_79
        rw [if_neg (by omega)]
      | succ nr =>
        show ST_285_79 p o m0 _ m k w = _
        unfold ST_285_79
        rw [if_neg (by omega)]
-- one token is offered
theorem csum_full {f : Int → Int} {n : Nat} (h : ∀ i : Int, 0 ≤ i → i < (n : Int) → f i ≤ 1) {k : Int} (k0 : 0 ≤ k) (k1 : k < (n : Int)) (hk : f k ≤ 0) : csum f n + 1 ≤ (n : Int) := by
  induction n with
  | zero => omega
  | succ n ih =>
    have hn := h (n : Int) (by omega) (by omega)
    show csum f n + f (n : Int) + 1 ≤ _
    by_cases c : k = (n : Int)
    · rw [c] at hk
      have : ∀ m : Nat, (m : Int) ≤ (n : Int) → csum f m ≤ (m : Int) := fun m => by
        induction m with
        | zero => intro _; simp [csum]
        | succ m ihm =>
          intro hm
          have a := ihm (by omega)
          have b := h (m : Int) (by omega) (by omega)
          show csum f m + f (m : Int) ≤ _
          omega
      have := this n (by omega)
      omega
    · have := ih (fun i a b => h i a (by omega)) (by omega)
      omega
theorem offStep {s k : Int} {d : mD} {w : Row} (hg : GG w) (h : Rel s d w) (hk : 0 ≤ k ∧ k < w 10) (h3 : w (1916 + 5 * k + 3) = 0) : w 11 < 200 ∧ GG (ws (ws (ws w ((1916 + (5 * k)) + 3) 1) (2916 + (w 11)) k) 11 ((w 11) + 1)) ∧ Rel s (mset (mset (mset d (s + 61) k 1) (s + 62) (w 11) k) (s + 57) 5 (w 11 + 1)) (ws (ws (ws w ((1916 + (5 * k)) + 3) 1) (2916 + (w 11)) k) 11 ((w 11) + 1)) := by
  obtain ⟨hN, hO, hQ, hT, hC, hK, hR⟩ := id hg
  obtain ⟨n7, n8, n9, n10, n11, n0, n1, n2, n3, n4, n5, n6⟩ := id hN
  obtain ⟨rA, rO, rQ, rP, rT, rC, ⟨k1, k2⟩, ⟨r1, r2⟩, rB, rH⟩ := h
  have hlt : w 11 < 200 := by
    have := csum_full (f := fun k => if w (1916 + 5 * k + 3) = 1 then 1 else 0) (n := (w 10).toNat) (fun i a b => by
      show (if w (1916 + 5 * i + 3) = 1 then (1 : Int) else 0) ≤ 1
      split <;> omega) (k := k) hk.1 (by omega) (by
      show (if w (1916 + 5 * k + 3) = 1 then (1 : Int) else 0) ≤ 0
      rw [if_neg (by omega)]
      omega)
    have r := hR.1
    omega
  refine ⟨hlt, ?_⟩
  generalize hw : (ws (ws (ws w ((1916 + (5 * k)) + 3) 1) (2916 + (w 11)) k) 11 ((w 11) + 1)) = w'
  have e11 : w' 11 = w 11 + 1 := by rw [← hw]; exact wse rfl
  have e3 : w' (1916 + 5 * k + 3) = 1 := by
    rw [← hw]
    simp (disch := omega) only [wse, wsn]
  have er : w' (2916 + w 11) = k := by
    rw [← hw]
    simp (disch := omega) only [wse, wsn]
  have e : ∀ i, ¬ i = 1916 + 5 * k + 3 → ¬ i = 2916 + w 11 → ¬ i = 11 → w' i = w i := fun i a b c => by
    rw [← hw, wsn c, wsn b, wsn a]
  generalize hd : mset (mset (mset d (s + 61) k 1) (s + 62) (w 11) k) (s + 57) 5 (w 11 + 1) = d'
  have fd : ∀ b, ¬ b = s + 61 → ¬ b = s + 62 → ¬ b = s + 57 → d' b = d b := fun b x y z => by
    rw [← hd]
    funext j
    simp (disch := omega) only [ms_a]
  have nk : ∀ i, 0 ≤ i → i < w 11 → ¬ w (2916 + i) = k := fun i a b z => by
    have := (hR.2 i a b).2.1
    rw [z] at this
    omega
  refine ⟨⟨?_, hO.k (fun i hi => e i (by omega) (by omega) (by omega)) hN, hQ.k (fun i hi => e i (by omega) (by omega) (by omega)) hN hO, hT.k (fun i hi => e i (by omega) (by omega) (by omega)) hN hO, hC.k (fun i hi => e i (by omega) (by omega) (by omega)) hN, hK.k2 (fun i hi => e i (by omega) (by omega) (by omega)) hN (fun j x y => ?_), ⟨?_, fun j x y => ?_⟩⟩, rA.k (fun b x => fd b (by omega) (by omega) (by omega)) (fun i hi => e i (by omega) (by omega) (by omega)), rO.k (fun b x y => fd b (by omega) (by omega) (by omega)) (fun i hi => e i (by omega) (by omega) (by omega)) n7, rQ.k (fd _ (by omega) (by omega) (by omega)) (fun i hi => e i (by omega) (by omega) (by omega)) n7 hO, rP.k (fun b x y => fd b (by omega) (by omega) (by omega)) (fun i hi => e i (by omega) (by omega) (by omega)) n8, rT.k (fun b x y => fd b (by omega) (by omega) (by omega)) (fun i hi => e i (by omega) (by omega) (by omega)) n9, rC.k (fun b x => fd b (by omega) (by omega) (by omega)) (fun i hi => e i (by omega) (by omega) (by omega)) n9, ⟨?_, fun j x y => ?_⟩, ⟨?_, fun j x y => ?_⟩, rB.k (fun b x y => fd b (by omega) (by omega) (by omega)) (fun i hi => e i (by omega) (by omega) (by omega)) n8 n9 n10 hK.of, rH.k (fun b x y => fd b (by omega) (by omega) (by omega)) (fun i hi => e i (by omega) (by omega) (by omega)) n8 n9 n10 hK.of⟩
  · unfold GN
    rw [e11, e 0 (by omega) (by omega) (by omega), e 1 (by omega) (by omega) (by omega), e 2 (by omega) (by omega) (by omega), e 3 (by omega) (by omega) (by omega), e 4 (by omega) (by omega) (by omega), e 5 (by omega) (by omega) (by omega), e 6 (by omega) (by omega) (by omega), e 7 (by omega) (by omega) (by omega), e 8 (by omega) (by omega) (by omega), e 9 (by omega) (by omega) (by omega), e 10 (by omega) (by omega) (by omega)]
    omega
  · have g := hK j x y
    refine ⟨by rw [e _ (by omega) (by omega) (by omega)]; exact g.1, ?_⟩
    by_cases c : j = k
    · rw [c, e3]; omega
    · rw [e _ (by omega) (by omega) (by omega)]; exact g.2.2.2.1
  · have hs := csum_upd (f := fun k => if w' (1916 + 5 * k + 3) = 1 then 1 else 0) (g := fun k => if w (1916 + 5 * k + 3) = 1 then 1 else 0) (n := (w 10).toNat) (k := k) hk.1 (by omega) (fun i a b c => by
      show (if w' (1916 + 5 * i + 3) = 1 then (1 : Int) else 0) = if w (1916 + 5 * i + 3) = 1 then 1 else 0
      rw [e _ (by omega) (by omega) (by omega)])
    rw [e3, h3, if_pos rfl, if_neg (by decide)] at hs
    rw [e11, e 10 (by omega) (by omega) (by omega), hs, ← hR.1]
    omega
  · rw [e11] at y
    rw [e 10 (by omega) (by omega) (by omega)]
    by_cases c : j = w 11
    · rw [c, er, e3]
      refine ⟨hk, rfl, fun i a b => ?_⟩
      rw [e _ (by omega) (by omega) (by omega)]
      exact nk i a b
    · have g := hR.2 j x (by omega)
      have := nk j x (by omega)
      rw [e (2916 + j) (by omega) (by omega) (by omega), e (1916 + 5 * w (2916 + j) + 3) (by omega) (by omega) (by omega)]
      refine ⟨g.1, g.2.1, fun i a b => ?_⟩
      rw [e (2916 + i) (by omega) (by omega) (by omega)]
      exact g.2.2 i a b
  · rw [e 10 (by omega) (by omega) (by omega), ← hd, ms_i (by omega)]
    simp (disch := omega) only [ms_a]
    exact k1
  · rw [e 10 (by omega) (by omega) (by omega)] at y
    have g := k2 j x y
    rw [fd (s + 58) (by omega) (by omega) (by omega), fd (s + 59) (by omega) (by omega) (by omega), fd (s + 60) (by omega) (by omega) (by omega), e (1916 + 5 * j + 0) (by omega) (by omega) (by omega), e (1916 + 5 * j + 1) (by omega) (by omega) (by omega), e (1916 + 5 * j + 2) (by omega) (by omega) (by omega)]
    refine ⟨g.1, g.2.1, g.2.2.1, ?_⟩
    rw [← hd]
    by_cases c : j = k
    · rw [c, e3]
      simp (disch := omega) only [ms_a, ms_e]
    · rw [e _ (by omega) (by omega) (by omega)]
      simp (disch := omega) only [ms_a, ms_i]
      exact g.2.2.2
  · rw [e11, ← hd, ms_e rfl rfl]
  · rw [e11] at y
    rw [← hd]
    by_cases c : j = w 11
    · rw [c, er]
      simp (disch := omega) only [ms_a, ms_e]
    · rw [e _ (by omega) (by omega) (by omega)]
      simp (disch := omega) only [ms_a, ms_i]
      exact r2 j x (by omega)
theorem offIdle {p m0 : Int} : ∀ (n : Nat) (m k : Int) (w : Row), w 10 - k ≤ (n : Int) → 0 ≤ k → (∀ j, 0 ≤ j → j < w 10 → ¬ w (1916 + 5 * j + 3) = 0) → LP_286_65 p m0 n m k w = (V_219 w, W_219 w) := by
  intro n
  induction n with
  | zero =>
    intro m k w hn h0 hz
    show ST_286_65 p m0 _ m k w = _
    unfold ST_286_65
    rw [if_neg (by omega)]
  | succ n ih =>
    intro m k w hn h0 hz
    show ST_286_65 p m0 _ m k w = _
    unfold ST_286_65
    by_cases c1 : k < w 10
    · rw [if_pos c1]
      by_cases c2 : 0 < m
      · rw [if_pos c2, if_neg (hz k h0 c1)]
        split
        · exact ih m (k + 1) w (by omega) (by omega) hz
        · exact ih m (k + 1) w (by omega) (by omega) hz
      · rw [if_neg c2]
    · rw [if_neg c1]
theorem offLoop {s p m0 : Int} : ∀ (nc nr : Nat) (m k : Int) (d : mD) (w : Row), 0 ≤ k → GG w → Rel s d w → w 10 - k ≤ (nc : Int) → w 10 - k ≤ (nr : Int) →
    ∃ w', LP_286_65 p m0 nr m k w = (V_219 w', W_219 w') ∧ GG w' ∧ Rel s (lp_115_5 (s + 57) p m0 nc m k d) w' ∧ XR w w' := by
  intro nc
  induction nc with
  | zero =>
    intro nr m k d w h0 hg h h1 h2
    have k1 := h.2.2.2.2.2.2.1.1
    have e : lp_115_5 (s + 57) p m0 0 m k d = d := by
      show st_115_5 (s + 57) p m0 _ m k d = d
      unfold st_115_5
      rw [if_neg (by omega)]
    refine ⟨w, ?_, hg, by rw [e]; exact h, XR.refl⟩
    cases nr with
    | zero =>
      show ST_286_65 p m0 _ m k w = _
      unfold ST_286_65
      rw [if_neg (by omega)]
    | succ nr =>
      show ST_286_65 p m0 _ m k w = _
      unfold ST_286_65
      rw [if_neg (by omega)]
  | succ nc ih =>
    intro nr m k d w h0 hg h h1 h2
    obtain ⟨k1, k2⟩ := h.2.2.2.2.2.2.1
    have r1 := h.2.2.2.2.2.2.2.1.1
    by_cases c1 : k < w 10
    · cases nr with
      | zero => omega
      | succ nr =>
        have g := k2 k h0 c1
        by_cases c2 : 0 < m
        · by_cases c5 : w 11 < 200
          · by_cases c3 : w (1916 + 5 * k + 0) = p
            · by_cases c4 : w (1916 + 5 * k + 3) = 0
              · obtain ⟨-, g', r'⟩ := offStep hg h ⟨h0, c1⟩ c4
                have e : lp_115_5 (s + 57) p m0 (nc + 1) m k d = lp_115_5 (s + 57) p m0 nc (m + -1) (k + 1) (mset (mset (mset d (s + 61) k 1) (s + 62) (w 11) k) (s + 57) 5 (w 11 + 1)) := by
                  show st_115_5 (s + 57) p m0 _ m k d = _
                  unfold st_115_5
                  rw [if_pos (by omega), if_pos c2, if_pos (by rw [r1]; exact c5), show s + 57 + 1 = s + 58 by omega, show s + 57 + 4 = s + 61 by omega, show s + 57 + 5 = s + 62 by omega, if_pos (by rw [g.1]; exact c3), if_pos (by rw [g.2.2.2]; exact c4), r1]
                have e2 : LP_286_65 p m0 (nr + 1) m k w = LP_286_65 p m0 nr (m + -1) (k + 1) (ws (ws (ws w ((1916 + (5 * k)) + 3) 1) (2916 + (w 11)) k) 11 ((w 11) + 1)) := by
                  show ST_286_65 p m0 _ m k w = _
                  unfold ST_286_65
                  rw [if_pos c1, if_pos c2, if_pos c3, if_pos c4]
                rw [e, e2]
                have n11 := hg.1.2.2.2.2.1
                have e10 : (ws (ws (ws w ((1916 + (5 * k)) + 3) 1) (2916 + (w 11)) k) 11 ((w 11) + 1)) 10 = w 10 := by
                  simp (disch := omega) only [wsn]
                obtain ⟨w', q1, q2, q3, q4⟩ := ih nr (m + -1) (k + 1) _ _ (by omega) g' r' (by rw [e10]; omega) (by rw [e10]; omega)
                refine ⟨w', q1, q2, q3, XR.trans ?_ q4⟩
                have n8 := hg.1.2.1
                have n9 := hg.1.2.2.1
                have n10 := hg.1.2.2.2.1
                generalize hu : (ws (ws (ws w ((1916 + (5 * k)) + 3) 1) (2916 + (w 11)) k) 11 ((w 11) + 1)) = u at *
                have ue : ∀ i, ¬ i = 11 → ¬ i = 1916 + 5 * k + 3 → ¬ i = 2916 + w 11 → u i = w i := fun i a b c => by
                  rw [← hu]
                  simp (disch := omega) only [wsn]
                have u3 : u (1916 + 5 * k + 3) = 1 := by
                  rw [← hu]
                  simp (disch := omega) only [wsn, wse]
                refine ⟨GXI.keep hg.1.2.1 (ue 8 (by omega) (by omega) (by omega)) (ue 9 (by omega) (by omega) (by omega)) (fun t q a b x y => ue _ (by omega) (by omega) (by omega)) (fun p a b => ue _ (by omega) (by omega) (by omega)) (Int.le_of_eq (C2_of e10 (fun j a b => ?_)).symm), ue 0 (by omega) (by omega) (by omega)⟩
                by_cases z : j = k
                · rw [z, u3, c4]
                  exact ⟨fun y => absurd y (by decide), fun y => absurd y (by decide)⟩
                · rw [ue _ (by omega) (by omega) (by omega)]
              · have e : lp_115_5 (s + 57) p m0 (nc + 1) m k d = lp_115_5 (s + 57) p m0 nc m (k + 1) d := by
                  show st_115_5 (s + 57) p m0 _ m k d = _
                  unfold st_115_5
                  rw [if_pos (by omega), if_pos c2, if_pos (by rw [r1]; exact c5), show s + 57 + 1 = s + 58 by omega, show s + 57 + 4 = s + 61 by omega, if_pos (by rw [g.1]; exact c3), if_neg (by rw [g.2.2.2]; exact c4)]
                have e2 : LP_286_65 p m0 (nr + 1) m k w = LP_286_65 p m0 nr m (k + 1) w := by
                  show ST_286_65 p m0 _ m k w = _
                  unfold ST_286_65
                  rw [if_pos c1, if_pos c2, if_pos c3, if_neg c4]
                rw [e, e2]
                exact ih nr m (k + 1) d w (by omega) hg h (by omega) (by omega)
            · have e : lp_115_5 (s + 57) p m0 (nc + 1) m k d = lp_115_5 (s + 57) p m0 nc m (k + 1) d := by
                show st_115_5 (s + 57) p m0 _ m k d = _
                unfold st_115_5
                rw [if_pos (by omega), if_pos c2, if_pos (by rw [r1]; exact c5), show s + 57 + 1 = s + 58 by omega, if_neg (by rw [g.1]; exact c3)]
              have e2 : LP_286_65 p m0 (nr + 1) m k w = LP_286_65 p m0 nr m (k + 1) w := by
                show ST_286_65 p m0 _ m k w = _
                unfold ST_286_65
                rw [if_pos c1, if_pos c2, if_neg c3]
              rw [e, e2]
              exact ih nr m (k + 1) d w (by omega) hg h (by omega) (by omega)
          · have e : lp_115_5 (s + 57) p m0 (nc + 1) m k d = d := by
              show st_115_5 (s + 57) p m0 _ m k d = d
              unfold st_115_5
              rw [if_pos (by omega), if_pos c2, if_neg (by rw [r1]; exact c5)]
            refine ⟨w, offIdle (nr + 1) m k w (by omega) h0 (fun j a b z => ?_), hg, by rw [e]; exact h, XR.refl⟩
            exact absurd (offStep hg h ⟨a, b⟩ z).1 c5
        · have e : lp_115_5 (s + 57) p m0 (nc + 1) m k d = d := by
            show st_115_5 (s + 57) p m0 _ m k d = d
            unfold st_115_5
            rw [if_pos (by omega), if_neg c2]
          refine ⟨w, ?_, hg, by rw [e]; exact h, XR.refl⟩
          show ST_286_65 p m0 _ m k w = _
          unfold ST_286_65
          rw [if_pos c1, if_neg c2]
    · have e : lp_115_5 (s + 57) p m0 (nc + 1) m k d = d := by
        show st_115_5 (s + 57) p m0 _ m k d = d
        unfold st_115_5
        rw [if_neg (by omega)]
      refine ⟨w, ?_, hg, by rw [e]; exact h, XR.refl⟩
      cases nr with
      | zero =>
        show ST_286_65 p m0 _ m k w = _
        unfold ST_286_65
        rw [if_neg (by omega)]
      | succ nr =>
        show ST_286_65 p m0 _ m k w = _
        unfold ST_286_65
        rw [if_neg (by omega)]
