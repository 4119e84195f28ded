/-! ===== tokens change hands; tokens are offered ===== -/
theorem cntGen {L : Nat → Int → Int → Int} {f : Int → Int} {N : Int} (hz : ∀ (n : Nat) (a k : Int), N ≤ k → L n a k = a) (hs : ∀ (n : Nat) (a k : Int), 0 ≤ k → k < N → L (n + 1) a k = L n (a + f k) (k + 1)) : ∀ (n : Nat) (a k : Int), 0 ≤ k → k ≤ N → N - k ≤ (n : Int) → L n a k = a + (csum f N.toNat - csum f k.toNat) := by
  intro n
  induction n with
  | zero =>
    intro a k h0 hk hn
    have e : k = N := by omega
    rw [hz 0 a k (by omega), e]
    omega
  | succ n ih =>
    intro a k h0 hk hn
    by_cases c : k < N
    · have i := ih (a + f k) (k + 1) (by omega) (by omega) (by omega)
      rw [csum_s _ h0] at i
      rw [hs n a k h0 c, i]
      omega
    · have e : k = N := by omega
      rw [hz _ a k (by omega), e]
      omega
theorem cnt0 {L : Nat → Int → Int → Int} {f : Int → Int} {N : Int} {n : Nat} (hN : 0 ≤ N) (hn : N ≤ (n : Int)) (hz : ∀ (n : Nat) (a k : Int), N ≤ k → L n a k = a) (hs : ∀ (n : Nat) (a k : Int), 0 ≤ k → k < N → L (n + 1) a k = L n (a + f k) (k + 1)) : L n 0 0 = csum f N.toNat := by
  rw [cntGen hz hs n 0 0 (by omega) hN (by omega)]
  show 0 + (_ - csum _ 0) = _
  simp only [csum]
  omega
theorem v245 {p q : Int} {w : Row} (h10 : 0 ≤ w 10 ∧ w 10 ≤ 200) : V_245 p q w = csum (fun k => if w (1916 + 5 * k + 0) = p ∧ w (1916 + 5 * k + 3) = q then 1 else 0) (w 10).toNat := by
  unfold V_245
  refine cnt0 (L := fun n a k => LP_245_5 p q n a k w) h10.1 (by rw [show (((200 - 0 : Int).toNat : Nat) : Int) = 200 by decide]; omega) (fun n a k h => ?_) (fun n a k h0 h => ?_)
  · cases n with
    | zero =>
      show ST_245_5 p q _ a k w = a
      unfold ST_245_5
      rw [if_neg (by omega)]
    | succ n =>
      show ST_245_5 p q _ a k w = a
      unfold ST_245_5
      rw [if_neg (by omega)]
  · show ST_245_5 p q _ a k w = _
    unfold ST_245_5
    rw [if_pos h]
    by_cases c2 : w (1916 + 5 * k + 0) = p
    · by_cases c3 : w (1916 + 5 * k + 3) = q
      · rw [if_pos c2, if_pos c3, if_pos ⟨c2, c3⟩]
      · rw [if_pos c2, if_neg c3, if_neg (fun z => c3 z.2)]
    · rw [if_neg c2, if_neg (fun z => c2 z.1)]
theorem v111 {s p q : Int} {d : mD} (h10 : 0 ≤ d (s + 57) 0 ∧ d (s + 57) 0 ≤ 200) : v_111 (s + 57) p q d = csum (fun k => if d (s + 58) k = p ∧ d (s + 61) k = q then 1 else 0) (d (s + 57) 0).toNat := by
  unfold v_111
  refine cnt0 (L := fun n a k => lp_111_5 (s + 57) p q n a k d) h10.1 (by rw [show (((200 - 0 : Int).toNat : Nat) : Int) = 200 by decide]; omega) (fun n a k h => ?_) (fun n a k h0 h => ?_)
  · cases n with
    | zero =>
      show st_111_5 (s + 57) p q _ a k d = a
      unfold st_111_5
      rw [if_neg (by omega)]
    | succ n =>
      show st_111_5 (s + 57) p q _ a k d = a
      unfold st_111_5
      rw [if_neg (by omega)]
  · show st_111_5 (s + 57) p q _ a k d = _
    unfold st_111_5
    rw [if_pos h, show s + 57 + 1 = s + 58 by omega, show s + 57 + 4 = s + 61 by omega]
    by_cases c2 : d (s + 58) k = p
    · by_cases c3 : d (s + 61) k = q <;> simp [c2, c3]
    · simp [c2]
theorem owned {s p q : Int} {d : mD} {w : Row} (hg : GG w) (h : Rel s d w) : v_111 (s + 57) p q d = V_245 p q w := by
  have n10 := hg.1.2.2.2.1
  obtain ⟨-, -, -, -, -, -, ⟨k1, k2⟩, -⟩ := h
  rw [v111 (by rw [k1]; exact n10), v245 n10, k1]
  refine csum_congr (fun k a b => ?_)
  have g := k2 k a (by omega)
  rw [g.1, g.2.2.2]
-- one token goes to another person
theorem giveStep {s k o : Int} {d : mD} {w : Row} (hg : GG w) (h : Rel s d w) (hk : 0 ≤ k ∧ k < w 10) (ho : 0 ≤ o ∧ o < w 8) : GG (ws w (1916 + 5 * k + 0) o) ∧ Rel s (mset d (s + 58) k o) (ws w (1916 + 5 * k + 0) o) := by
  obtain ⟨hN, hO, hQ, hT, hC, hK, hR⟩ := id hg
  obtain ⟨n7, n8, n9, n10, n11, n0, n1, n2, n3, n4, n5, n6⟩ := id hN
  obtain ⟨rA, rO, rQ, rP, rT, rC, ⟨k1, k2⟩, rR, rB, rH⟩ := h
  generalize hw : ws w (1916 + 5 * k + 0) o = w'
  have eo : w' (1916 + 5 * k + 0) = o := by rw [← hw]; exact wse rfl
  have e : ∀ i, ¬ i = 1916 + 5 * k + 0 → w' i = w i := fun i hi => by rw [← hw]; exact wsn hi
  have fd : ∀ b, ¬ b = s + 58 → mset d (s + 58) k o b = d b := fun b x => by
    funext j
    exact ms_a x
  refine ⟨⟨hN.k (fun i hi => e i (by omega)), hO.k (fun i hi => e i (by omega)) hN, hQ.k (fun i hi => e i (by omega)) hN hO, hT.k (fun i hi => e i (by omega)) hN hO, hC.k (fun i hi => e i (by omega)) hN, hK.k2 (fun i hi => e i (by omega)) hN (fun j x y => ?_), hR.k (fun i hi => e i (by omega)) hN⟩, rA.k (fun b x => fd b (by omega)) (fun i hi => e i (by omega)), rO.k (fun b x y => fd b (by omega)) (fun i hi => e i (by omega)) n7, rQ.k (fd _ (by omega)) (fun i hi => e i (by omega)) n7 hO, rP.k (fun b x y => fd b (by omega)) (fun i hi => e i (by omega)) n8, rT.k (fun b x y => fd b (by omega)) (fun i hi => e i (by omega)) n9, rC.k (fun b x => fd b (by omega)) (fun i hi => e i (by omega)) n9, ⟨?_, fun j x y => ?_⟩, rR.k (by rw [fd _ (by omega)]) (fd _ (by omega)) (fun i hi => e i (by omega)) n11, rB.k (fun b x y => fd b (by omega)) (fun i hi => e i (by omega)) n8 n9 n10 hK.of, rH.k (fun b x y => fd b (by omega)) (fun i hi => e i (by omega)) n8 n9 n10 hK.of⟩
  · have g := hK j x y
    refine ⟨?_, by rw [e _ (by omega)]; exact g.2.2.2.1⟩
    by_cases c : j = k
    · rw [c, eo]; exact ho
    · rw [e _ (by omega)]; exact g.1
  · rw [fd _ (by omega), e 10 (by omega)]; exact k1
  · rw [e 10 (by omega)] at y
    have g := k2 j x y
    rw [fd (s + 59) (by omega), fd (s + 60) (by omega), fd (s + 61) (by omega), e (1916 + 5 * j + 1) (by omega), e (1916 + 5 * j + 2) (by omega), e (1916 + 5 * j + 3) (by omega)]
    refine ⟨?_, g.2⟩
    by_cases c : j = k
    · rw [c, eo, ms_e rfl rfl]
    · rw [e _ (by omega), ms_i c]; exact g.1
theorem giveLoop {s p o m0 : Int} : ∀ (nc nr : Nat) (m k : Int) (d : mD) (w : Row), 0 ≤ k → GG w → Rel s d w → 0 ≤ o ∧ o < w 8 → w 10 - k ≤ (nc : Int) → w 10 - k ≤ (nr : Int) →
    ∃ w', LP_285_79 p o m0 nr m k w = (V_245 o 0 w', w') ∧ GG w' ∧ Rel s (lp_114_6 (s + 57) p o m0 nc m k d) w' ∧ XR w w' := by
  intro nc
  induction nc with
  | zero =>
    intro nr m k d w h0 hg h ho h1 h2
    have k1 := h.2.2.2.2.2.2.1.1
    have e : lp_114_6 (s + 57) p o m0 0 m k d = d := by
      show st_114_6 (s + 57) p o m0 _ m k d = d
      unfold st_114_6
      rw [if_neg (by omega)]
    refine ⟨w, ?_, hg, by rw [e]; exact h, XR.refl⟩
    cases nr with
    | zero =>
      show ST_285_79 p o m0 _ m k w = _
      unfold ST_285_79
      rw [if_neg (by omega)]
    | succ nr =>
      show ST_285_79 p o m0 _ m k w = _
      unfold ST_285_79
      rw [if_neg (by omega)]
  | succ nc ih =>
    intro nr m k d w h0 hg h ho h1 h2
    obtain ⟨k1, k2⟩ := h.2.2.2.2.2.2.1
    by_cases c1 : k < w 10
    · cases nr with
      | zero => omega
      | succ nr =>
        have g := k2 k h0 c1
        by_cases c2 : 0 < m
        · by_cases c3 : w (1916 + 5 * k + 0) = p
          · by_cases c4 : w (1916 + 5 * k + 3) = 0
            · obtain ⟨g', r'⟩ := giveStep (o := o) hg h ⟨h0, c1⟩ ho
              have e : lp_114_6 (s + 57) p o m0 (nc + 1) m k d = lp_114_6 (s + 57) p o m0 nc (m + -1) (k + 1) (mset d (s + 58) k o) := by
                show st_114_6 (s + 57) p o m0 _ m k d = _
                unfold st_114_6
                rw [if_pos (by omega), if_pos c2, show s + 57 + 1 = s + 58 by omega, show s + 57 + 4 = s + 61 by omega, if_pos (by rw [g.1]; exact c3), if_pos (by rw [g.2.2.2]; exact c4)]
              have e2 : LP_285_79 p o m0 (nr + 1) m k w = LP_285_79 p o m0 nr (m + -1) (k + 1) (ws w (1916 + 5 * k + 0) o) := by
                show ST_285_79 p o m0 _ m k w = _
                unfold ST_285_79
                rw [if_pos c1, if_pos c2, if_pos c3, if_pos c4]
              rw [e, e2]
              have e10 : ws w (1916 + 5 * k + 0) o 10 = w 10 := wsn (by omega)
              have e8 : ws w (1916 + 5 * k + 0) o 8 = w 8 := wsn (by omega)
              obtain ⟨w', q1, q2, q3, q4⟩ := ih nr (m + -1) (k + 1) _ _ (by omega) g' r' (by rw [e8]; exact ho) (by rw [e10]; omega) (by rw [e10]; omega)
              exact ⟨w', q1, q2, q3, XR.trans ⟨GXI.keep hg.1.2.1 e8 (wsn (by omega)) (fun t q a b u v => wsn (by have := hg.1.2.2.1; omega)) (fun p a b => wsn (by omega)) (Int.le_of_eq (C2_of e10 (fun j a b => by rw [wsn (by omega)])).symm), wsn (by omega)⟩ q4⟩
            · have e : lp_114_6 (s + 57) p o m0 (nc + 1) m k d = lp_114_6 (s + 57) p o m0 nc m (k + 1) d := by
                show st_114_6 (s + 57) p o m0 _ m k d = _
                unfold st_114_6
                rw [if_pos (by omega), if_pos c2, show s + 57 + 1 = s + 58 by omega, show s + 57 + 4 = s + 61 by omega, if_pos (by rw [g.1]; exact c3), if_neg (by rw [g.2.2.2]; exact c4)]
              have e2 : LP_285_79 p o m0 (nr + 1) m k w = LP_285_79 p o m0 nr m (k + 1) w := by
                show ST_285_79 p o m0 _ m k w = _
                unfold ST_285_79
                rw [if_pos c1, if_pos c2, if_pos c3, if_neg c4]
              rw [e, e2]
              exact ih nr m (k + 1) d w (by omega) hg h ho (by omega) (by omega)
          · have e : lp_114_6 (s + 57) p o m0 (nc + 1) m k d = lp_114_6 (s + 57) p o m0 nc m (k + 1) d := by
              show st_114_6 (s + 57) p o m0 _ m k d = _
              unfold st_114_6
              rw [if_pos (by omega), if_pos c2, show s + 57 + 1 = s + 58 by omega, if_neg (by rw [g.1]; exact c3)]
            have e2 : LP_285_79 p o m0 (nr + 1) m k w = LP_285_79 p o m0 nr m (k + 1) w := by
              show ST_285_79 p o m0 _ m k w = _
              unfold ST_285_79
              rw [if_pos c1, if_pos c2, if_neg c3]
            rw [e, e2]
            exact ih nr m (k + 1) d w (by omega) hg h ho (by omega) (by omega)
        · have e : lp_114_6 (s + 57) p o m0 (nc + 1) m k d = d := by
            show st_114_6 (s + 57) p o m0 _ m k d = d
            unfold st_114_6
            rw [if_pos (by omega), if_neg c2]
          refine ⟨w, ?_, hg, by rw [e]; exact h, XR.refl⟩
          show ST_285_79 p o m0 _ m k w = _
          unfold ST_285_79
          rw [if_pos c1, if_neg c2]
    · have e : lp_114_6 (s + 57) p o m0 (nc + 1) m k d = d := by
        show st_114_6 (s + 57) p o m0 _ m k d = d
        unfold st_114_6
        rw [if_neg (by omega)]
      refine ⟨w, ?_, hg, by rw [e]; exact h, XR.refl⟩
      cases nr with
      | zero =>
        show ST_285_79 p o m0 _ m k w = _
        unfold ST_285_79
        rw [if_neg (by omega)]
      | succ nr =>
        show ST_285_79 p o m0 _ m k w = _
        unfold ST_285_79
        rw [if_neg (by omega)]
-- one token is offered
theorem csum_full {f : Int → Int} {n : Nat} (h : ∀ i : Int, 0 ≤ i → i < (n : Int) → f i ≤ 1) {k : Int} (k0 : 0 ≤ k) (k1 : k < (n : Int)) (hk : f k ≤ 0) : csum f n + 1 ≤ (n : Int) := by
  induction n with
  | zero => omega
  | succ n ih =>
    have hn := h (n : Int) (by omega) (by omega)
    show csum f n + f (n : Int) + 1 ≤ _
    by_cases c : k = (n : Int)
    · rw [c] at hk
      have : ∀ m : Nat, (m : Int) ≤ (n : Int) → csum f m ≤ (m : Int) := fun m => by
        induction m with
        | zero => intro _; simp [csum]
        | succ m ihm =>
          intro hm
          have a := ihm (by omega)
          have b := h (m : Int) (by omega) (by omega)
          show csum f m + f (m : Int) ≤ _
          omega
      have := this n (by omega)
      omega
    · have := ih (fun i a b => h i a (by omega)) (by omega)
      omega
theorem offStep {s k : Int} {d : mD} {w : Row} (hg : GG w) (h : Rel s d w) (hk : 0 ≤ k ∧ k < w 10) (h3 : w (1916 + 5 * k + 3) = 0) : w 11 < 200 ∧ GG (ws (ws (ws w ((1916 + (5 * k)) + 3) 1) (2916 + (w 11)) k) 11 ((w 11) + 1)) ∧ Rel s (mset (mset (mset d (s + 61) k 1) (s + 62) (w 11) k) (s + 57) 5 (w 11 + 1)) (ws (ws (ws w ((1916 + (5 * k)) + 3) 1) (2916 + (w 11)) k) 11 ((w 11) + 1)) := by
  obtain ⟨hN, hO, hQ, hT, hC, hK, hR⟩ := id hg
  obtain ⟨n7, n8, n9, n10, n11, n0, n1, n2, n3, n4, n5, n6⟩ := id hN
  obtain ⟨rA, rO, rQ, rP, rT, rC, ⟨k1, k2⟩, ⟨r1, r2⟩, rB, rH⟩ := h
  have hlt : w 11 < 200 := by
    have := csum_full (f := fun k => if w (1916 + 5 * k + 3) = 1 then 1 else 0) (n := (w 10).toNat) (fun i a b => by
      show (if w (1916 + 5 * i + 3) = 1 then (1 : Int) else 0) ≤ 1
      split <;> omega) (k := k) hk.1 (by omega) (by
      show (if w (1916 + 5 * k + 3) = 1 then (1 : Int) else 0) ≤ 0
      rw [if_neg (by omega)]
      omega)
    have r := hR.1
    omega
  refine ⟨hlt, ?_⟩
  generalize hw : (ws (ws (ws w ((1916 + (5 * k)) + 3) 1) (2916 + (w 11)) k) 11 ((w 11) + 1)) = w'
  have e11 : w' 11 = w 11 + 1 := by rw [← hw]; exact wse rfl
  have e3 : w' (1916 + 5 * k + 3) = 1 := by
    rw [← hw]
    simp (disch := omega) only [wse, wsn]
  have er : w' (2916 + w 11) = k := by
    rw [← hw]
    simp (disch := omega) only [wse, wsn]
  have e : ∀ i, ¬ i = 1916 + 5 * k + 3 → ¬ i = 2916 + w 11 → ¬ i = 11 → w' i = w i := fun i a b c => by
    rw [← hw, wsn c, wsn b, wsn a]
  generalize hd : mset (mset (mset d (s + 61) k 1) (s + 62) (w 11) k) (s + 57) 5 (w 11 + 1) = d'
  have fd : ∀ b, ¬ b = s + 61 → ¬ b = s + 62 → ¬ b = s + 57 → d' b = d b := fun b x y z => by
    rw [← hd]
    funext j
    simp (disch := omega) only [ms_a]
  have nk : ∀ i, 0 ≤ i → i < w 11 → ¬ w (2916 + i) = k := fun i a b z => by
    have := (hR.2 i a b).2.1
    rw [z] at this
    omega
  refine ⟨⟨?_, hO.k (fun i hi => e i (by omega) (by omega) (by omega)) hN, hQ.k (fun i hi => e i (by omega) (by omega) (by omega)) hN hO, hT.k (fun i hi => e i (by omega) (by omega) (by omega)) hN hO, hC.k (fun i hi => e i (by omega) (by omega) (by omega)) hN, hK.k2 (fun i hi => e i (by omega) (by omega) (by omega)) hN (fun j x y => ?_), ⟨?_, fun j x y => ?_⟩⟩, rA.k (fun b x => fd b (by omega) (by omega) (by omega)) (fun i hi => e i (by omega) (by omega) (by omega)), rO.k (fun b x y => fd b (by omega) (by omega) (by omega)) (fun i hi => e i (by omega) (by omega) (by omega)) n7, rQ.k (fd _ (by omega) (by omega) (by omega)) (fun i hi => e i (by omega) (by omega) (by omega)) n7 hO, rP.k (fun b x y => fd b (by omega) (by omega) (by omega)) (fun i hi => e i (by omega) (by omega) (by omega)) n8, rT.k (fun b x y => fd b (by omega) (by omega) (by omega)) (fun i hi => e i (by omega) (by omega) (by omega)) n9, rC.k (fun b x => fd b (by omega) (by omega) (by omega)) (fun i hi => e i (by omega) (by omega) (by omega)) n9, ⟨?_, fun j x y => ?_⟩, ⟨?_, fun j x y => ?_⟩, rB.k (fun b x y => fd b (by omega) (by omega) (by omega)) (fun i hi => e i (by omega) (by omega) (by omega)) n8 n9 n10 hK.of, rH.k (fun b x y => fd b (by omega) (by omega) (by omega)) (fun i hi => e i (by omega) (by omega) (by omega)) n8 n9 n10 hK.of⟩
  · unfold GN
    rw [e11, e 0 (by omega) (by omega) (by omega), e 1 (by omega) (by omega) (by omega), e 2 (by omega) (by omega) (by omega), e 3 (by omega) (by omega) (by omega), e 4 (by omega) (by omega) (by omega), e 5 (by omega) (by omega) (by omega), e 6 (by omega) (by omega) (by omega), e 7 (by omega) (by omega) (by omega), e 8 (by omega) (by omega) (by omega), e 9 (by omega) (by omega) (by omega), e 10 (by omega) (by omega) (by omega)]
    omega
  · have g := hK j x y
    refine ⟨by rw [e _ (by omega) (by omega) (by omega)]; exact g.1, ?_⟩
    by_cases c : j = k
    · rw [c, e3]; omega
    · rw [e _ (by omega) (by omega) (by omega)]; exact g.2.2.2.1
  · have hs := csum_upd (f := fun k => if w' (1916 + 5 * k + 3) = 1 then 1 else 0) (g := fun k => if w (1916 + 5 * k + 3) = 1 then 1 else 0) (n := (w 10).toNat) (k := k) hk.1 (by omega) (fun i a b c => by
      show (if w' (1916 + 5 * i + 3) = 1 then (1 : Int) else 0) = if w (1916 + 5 * i + 3) = 1 then 1 else 0
      rw [e _ (by omega) (by omega) (by omega)])
    rw [e3, h3, if_pos rfl, if_neg (by decide)] at hs
    rw [e11, e 10 (by omega) (by omega) (by omega), hs, ← hR.1]
    omega
  · rw [e11] at y
    rw [e 10 (by omega) (by omega) (by omega)]
    by_cases c : j = w 11
    · rw [c, er, e3]
      refine ⟨hk, rfl, fun i a b => ?_⟩
      rw [e _ (by omega) (by omega) (by omega)]
      exact nk i a b
    · have g := hR.2 j x (by omega)
      have := nk j x (by omega)
      rw [e (2916 + j) (by omega) (by omega) (by omega), e (1916 + 5 * w (2916 + j) + 3) (by omega) (by omega) (by omega)]
      refine ⟨g.1, g.2.1, fun i a b => ?_⟩
      rw [e (2916 + i) (by omega) (by omega) (by omega)]
      exact g.2.2 i a b
  · rw [e 10 (by omega) (by omega) (by omega), ← hd, ms_i (by omega)]
    simp (disch := omega) only [ms_a]
    exact k1
  · rw [e 10 (by omega) (by omega) (by omega)] at y
    have g := k2 j x y
    rw [fd (s + 58) (by omega) (by omega) (by omega), fd (s + 59) (by omega) (by omega) (by omega), fd (s + 60) (by omega) (by omega) (by omega), e (1916 + 5 * j + 0) (by omega) (by omega) (by omega), e (1916 + 5 * j + 1) (by omega) (by omega) (by omega), e (1916 + 5 * j + 2) (by omega) (by omega) (by omega)]
    refine ⟨g.1, g.2.1, g.2.2.1, ?_⟩
    rw [← hd]
    by_cases c : j = k
    · rw [c, e3]
      simp (disch := omega) only [ms_a, ms_e]
    · rw [e _ (by omega) (by omega) (by omega)]
      simp (disch := omega) only [ms_a, ms_i]
      exact g.2.2.2
  · rw [e11, ← hd, ms_e rfl rfl]
  · rw [e11] at y
    rw [← hd]
    by_cases c : j = w 11
    · rw [c, er]
      simp (disch := omega) only [ms_a, ms_e]
    · rw [e _ (by omega) (by omega) (by omega)]
      simp (disch := omega) only [ms_a, ms_i]
      exact r2 j x (by omega)
theorem offIdle {p m0 : Int} : ∀ (n : Nat) (m k : Int) (w : Row), w 10 - k ≤ (n : Int) → 0 ≤ k → (∀ j, 0 ≤ j → j < w 10 → ¬ w (1916 + 5 * j + 3) = 0) → LP_286_65 p m0 n m k w = (V_219 w, W_219 w) := by
  intro n
  induction n with
  | zero =>
    intro m k w hn h0 hz
    show ST_286_65 p m0 _ m k w = _
    unfold ST_286_65
    rw [if_neg (by omega)]
  | succ n ih =>
    intro m k w hn h0 hz
    show ST_286_65 p m0 _ m k w = _
    unfold ST_286_65
    by_cases c1 : k < w 10
    · rw [if_pos c1]
      by_cases c2 : 0 < m
      · rw [if_pos c2, if_neg (hz k h0 c1)]
        split
        · exact ih m (k + 1) w (by omega) (by omega) hz
        · exact ih m (k + 1) w (by omega) (by omega) hz
      · rw [if_neg c2]
    · rw [if_neg c1]
theorem offLoop {s p m0 : Int} : ∀ (nc nr : Nat) (m k : Int) (d : mD) (w : Row), 0 ≤ k → GG w → Rel s d w → w 10 - k ≤ (nc : Int) → w 10 - k ≤ (nr : Int) →
    ∃ w', LP_286_65 p m0 nr m k w = (V_219 w', W_219 w') ∧ GG w' ∧ Rel s (lp_115_5 (s + 57) p m0 nc m k d) w' ∧ XR w w' := by
  intro nc
  induction nc with
  | zero =>
    intro nr m k d w h0 hg h h1 h2
    have k1 := h.2.2.2.2.2.2.1.1
    have e : lp_115_5 (s + 57) p m0 0 m k d = d := by
      show st_115_5 (s + 57) p m0 _ m k d = d
      unfold st_115_5
      rw [if_neg (by omega)]
    refine ⟨w, ?_, hg, by rw [e]; exact h, XR.refl⟩
    cases nr with
    | zero =>
      show ST_286_65 p m0 _ m k w = _
      unfold ST_286_65
      rw [if_neg (by omega)]
    | succ nr =>
      show ST_286_65 p m0 _ m k w = _
      unfold ST_286_65
      rw [if_neg (by omega)]
  | succ nc ih =>
    intro nr m k d w h0 hg h h1 h2
    obtain ⟨k1, k2⟩ := h.2.2.2.2.2.2.1
    have r1 := h.2.2.2.2.2.2.2.1.1
    by_cases c1 : k < w 10
    · cases nr with
      | zero => omega
      | succ nr =>
        have g := k2 k h0 c1
        by_cases c2 : 0 < m
        · by_cases c5 : w 11 < 200
          · by_cases c3 : w (1916 + 5 * k + 0) = p
            · by_cases c4 : w (1916 + 5 * k + 3) = 0
              · obtain ⟨-, g', r'⟩ := offStep hg h ⟨h0, c1⟩ c4
                have e : lp_115_5 (s + 57) p m0 (nc + 1) m k d = lp_115_5 (s + 57) p m0 nc (m + -1) (k + 1) (mset (mset (mset d (s + 61) k 1) (s + 62) (w 11) k) (s + 57) 5 (w 11 + 1)) := by
                  show st_115_5 (s + 57) p m0 _ m k d = _
                  unfold st_115_5
                  rw [if_pos (by omega), if_pos c2, if_pos (by rw [r1]; exact c5), show s + 57 + 1 = s + 58 by omega, show s + 57 + 4 = s + 61 by omega, show s + 57 + 5 = s + 62 by omega, if_pos (by rw [g.1]; exact c3), if_pos (by rw [g.2.2.2]; exact c4), r1]
                have e2 : LP_286_65 p m0 (nr + 1) m k w = LP_286_65 p m0 nr (m + -1) (k + 1) (ws (ws (ws w ((1916 + (5 * k)) + 3) 1) (2916 + (w 11)) k) 11 ((w 11) + 1)) := by
                  show ST_286_65 p m0 _ m k w = _
                  unfold ST_286_65
                  rw [if_pos c1, if_pos c2, if_pos c3, if_pos c4]
                rw [e, e2]
                have n11 := hg.1.2.2.2.2.1
                have e10 : (ws (ws (ws w ((1916 + (5 * k)) + 3) 1) (2916 + (w 11)) k) 11 ((w 11) + 1)) 10 = w 10 := by
                  simp (disch := omega) only [wsn]
                obtain ⟨w', q1, q2, q3, q4⟩ := ih nr (m + -1) (k + 1) _ _ (by omega) g' r' (by rw [e10]; omega) (by rw [e10]; omega)
                refine ⟨w', q1, q2, q3, XR.trans ?_ q4⟩
                have n8 := hg.1.2.1
                have n9 := hg.1.2.2.1
                have n10 := hg.1.2.2.2.1
                generalize hu : (ws (ws (ws w ((1916 + (5 * k)) + 3) 1) (2916 + (w 11)) k) 11 ((w 11) + 1)) = u at *
                have ue : ∀ i, ¬ i = 11 → ¬ i = 1916 + 5 * k + 3 → ¬ i = 2916 + w 11 → u i = w i := fun i a b c => by
                  rw [← hu]
                  simp (disch := omega) only [wsn]
                have u3 : u (1916 + 5 * k + 3) = 1 := by
                  rw [← hu]
                  simp (disch := omega) only [wsn, wse]
                refine ⟨GXI.keep hg.1.2.1 (ue 8 (by omega) (by omega) (by omega)) (ue 9 (by omega) (by omega) (by omega)) (fun t q a b x y => ue _ (by omega) (by omega) (by omega)) (fun p a b => ue _ (by omega) (by omega) (by omega)) (Int.le_of_eq (C2_of e10 (fun j a b => ?_)).symm), ue 0 (by omega) (by omega) (by omega)⟩
                by_cases z : j = k
                · rw [z, u3, c4]
                  exact ⟨fun y => absurd y (by decide), fun y => absurd y (by decide)⟩
                · rw [ue _ (by omega) (by omega) (by omega)]
              · have e : lp_115_5 (s + 57) p m0 (nc + 1) m k d = lp_115_5 (s + 57) p m0 nc m (k + 1) d := by
                  show st_115_5 (s + 57) p m0 _ m k d = _
                  unfold st_115_5
                  rw [if_pos (by omega), if_pos c2, if_pos (by rw [r1]; exact c5), show s + 57 + 1 = s + 58 by omega, show s + 57 + 4 = s + 61 by omega, if_pos (by rw [g.1]; exact c3), if_neg (by rw [g.2.2.2]; exact c4)]
                have e2 : LP_286_65 p m0 (nr + 1) m k w = LP_286_65 p m0 nr m (k + 1) w := by
                  show ST_286_65 p m0 _ m k w = _
                  unfold ST_286_65
                  rw [if_pos c1, if_pos c2, if_pos c3, if_neg c4]
                rw [e, e2]
                exact ih nr m (k + 1) d w (by omega) hg h (by omega) (by omega)
            · have e : lp_115_5 (s + 57) p m0 (nc + 1) m k d = lp_115_5 (s + 57) p m0 nc m (k + 1) d := by
                show st_115_5 (s + 57) p m0 _ m k d = _
                unfold st_115_5
                rw [if_pos (by omega), if_pos c2, if_pos (by rw [r1]; exact c5), show s + 57 + 1 = s + 58 by omega, if_neg (by rw [g.1]; exact c3)]
              have e2 : LP_286_65 p m0 (nr + 1) m k w = LP_286_65 p m0 nr m (k + 1) w := by
                show ST_286_65 p m0 _ m k w = _
                unfold ST_286_65
                rw [if_pos c1, if_pos c2, if_neg c3]
              rw [e, e2]
              exact ih nr m (k + 1) d w (by omega) hg h (by omega) (by omega)
          · have e : lp_115_5 (s + 57) p m0 (nc + 1) m k d = d := by
              show st_115_5 (s + 57) p m0 _ m k d = d
              unfold st_115_5
              rw [if_pos (by omega), if_pos c2, if_neg (by rw [r1]; exact c5)]
            refine ⟨w, offIdle (nr + 1) m k w (by omega) h0 (fun j a b z => ?_), hg, by rw [e]; exact h, XR.refl⟩
            exact absurd (offStep hg h ⟨a, b⟩ z).1 c5
        · have e : lp_115_5 (s + 57) p m0 (nc + 1) m k d = d := by
            show st_115_5 (s + 57) p m0 _ m k d = d
            unfold st_115_5
            rw [if_pos (by omega), if_neg c2]
          refine ⟨w, ?_, hg, by rw [e]; exact h, XR.refl⟩
          show ST_286_65 p m0 _ m k w = _
          unfold ST_286_65
          rw [if_pos c1, if_neg c2]
    · have e : lp_115_5 (s + 57) p m0 (nc + 1) m k d = d := by
        show st_115_5 (s + 57) p m0 _ m k d = d
        unfold st_115_5
        rw [if_neg (by omega)]
      refine ⟨w, ?_, hg, by rw [e]; exact h, XR.refl⟩
      cases nr with
      | zero =>
        show ST_286_65 p m0 _ m k w = _
        unfold ST_286_65
        rw [if_neg (by omega)]
      | succ nr =>
        show ST_286_65 p m0 _ m k w = _
        unfold ST_286_65
        rw [if_neg (by omega)]
/-! ===== small changes ===== -/
theorem GWt.of {w w' : Row} (h : GWt w) (h8 : w' 8 = w 8) (h9 : w' 9 = w 9) (e : ∀ t q, 0 ≤ t → t < w 9 → 0 ≤ q → q < 16 → w' (452 + 24 * t + 8 + q) = w (452 + 24 * t + 8 + q)) (p8 : 0 ≤ w 8) : GWt w' := by
  intro t x y q u v
  rw [h9] at y
  rw [h8] at u
  rw [e t q x y (by omega) v]
  exact h t x y q u v
-- one number ahead of the offices
theorem setHead {s j v : Int} {d d' : mD} {w : Row} (hg : GG w) (h : Rel s d w) (hj : 1 ≤ j ∧ j ≤ 6) (hN' : GN (ws w j v)) (hA : RelA s d' (ws w j v)) (hd : ∀ b, ¬ b = s → ¬ b = s + 1 → d' b = d b) : GG (ws w j v) ∧ Rel s d' (ws w j v) := by
  obtain ⟨hN, hO, hQ, hT, hC, hK, hR⟩ := id hg
  obtain ⟨n7, n8, n9, n10, n11, n0, n1, n2, n3, n4, n5, n6⟩ := id hN
  obtain ⟨rA, rO, rQ, rP, rT, rC, rK, rR, rB, rH⟩ := h
  have e : ∀ i, ¬ (1 ≤ i ∧ i ≤ 6) → ws w j v i = w i := fun i hi => wsn (by omega)
  generalize ws w j v = w' at *
  exact ⟨⟨hN', hO.k (fun i hi => e i (by omega)) hN, hQ.k (fun i hi => e i (by omega)) hN hO, hT.k (fun i hi => e i (by omega)) hN hO, hC.k (fun i hi => e i (by omega)) hN, hK.k (fun i hi => e i (by omega)) hN, hR.k (fun i hi => e i (by omega)) hN⟩, hA, rO.k (fun b x y => hd b (by omega) (by omega)) (fun i hi => e i (by omega)) n7, rQ.k (hd _ (by omega) (by omega)) (fun i hi => e i (by omega)) n7 hO, rP.k (fun b x y => hd b (by omega) (by omega)) (fun i hi => e i (by omega)) n8, rT.k (fun b x y => hd b (by omega) (by omega)) (fun i hi => e i (by omega)) n9, rC.k (fun b x => hd b (by omega) (by omega)) (fun i hi => e i (by omega)) n9, rK.k (by rw [hd _ (by omega) (by omega)]) (fun b x y => hd b (by omega) (by omega)) (fun i hi => e i (by omega)) n10, rR.k (by rw [hd _ (by omega) (by omega)]) (hd _ (by omega) (by omega)) (fun i hi => e i (by omega)) n11, rB.k (fun b x y => hd b (by omega) (by omega)) (fun i hi => e i (by omega)) n8 n9 n10 hK.of, rH.k (fun b x y => hd b (by omega) (by omega)) (fun i hi => e i (by omega)) n8 n9 n10 hK.of⟩
theorem setFund {s v : Int} {d : mD} {w : Row} (hg : GG w) (h : Rel s d w) (hv : 0 ≤ v ∧ v ≤ 99999) : GG (ws w 1 v) ∧ Rel s (mset d s 1 v) (ws w 1 v) := by
  obtain ⟨n7, n8, n9, n10, n11, n0, n1, n2, n3, n4, n5, n6⟩ := id hg.1
  obtain ⟨a1, a2, a3⟩ := id h.1
  refine setHead hg h ⟨by decide, by decide⟩ ?_ ⟨?_, ?_, fun k x y => ?_⟩ (fun b x y => by funext j; exact ms_a x)
  · unfold GN
    simp (disch := omega) only [wse, wsn]
    omega
  · rw [wse rfl, ms_e rfl rfl]
  · rw [wsn (by omega), ms_i (by omega)]; exact a2
  · rw [wsn (by omega), ms_a (by omega)]; exact a3 k x y
theorem setSet {s k v : Int} {d : mD} {w : Row} (hg : GG w) (h : Rel s d w) (hk : 0 ≤ k ∧ k < 5) (hN' : GN (ws w (2 + k) v)) : GG (ws w (2 + k) v) ∧ Rel s (mset d (s + 1) k v) (ws w (2 + k) v) := by
  obtain ⟨a1, a2, a3⟩ := id h.1
  refine setHead hg h ⟨by omega, by omega⟩ hN' ⟨?_, ?_, fun j x y => ?_⟩ (fun b x y => by funext j; exact ms_a y)
  · rw [wsn (by omega), ms_a (by omega)]; exact a1
  · rw [wsn (by omega), ms_a (by omega)]; exact a2
  · by_cases c : j = k
    · rw [c, wse rfl, ms_e rfl rfl]
    · rw [wsn (by omega), ms_i c]; exact a3 j x y
theorem setOpen {s o : Int} {d : mD} {w : Row} (hg : GG w) (h : Rel s d w) (ho : 0 ≤ o ∧ o < w 7) : GG (ws w (12 + 68 * o + 4) 1) ∧ Rel s (mset d (s + 7) o 1) (ws w (12 + 68 * o + 4) 1) := by
  obtain ⟨hN, hO, hQ, hT, hC, hK, hR⟩ := id hg
  obtain ⟨n7, n8, n9, n10, n11, n0, n1, n2, n3, n4, n5, n6⟩ := id hN
  obtain ⟨rA, ⟨o1, o2⟩, rQ, rP, rT, rC, rK, rR, rB, rH⟩ := h
  have eo : ws w (12 + 68 * o + 4) 1 (12 + 68 * o + 4) = 1 := wse rfl
  have e : ∀ i, ¬ i = 12 + 68 * o + 4 → ws w (12 + 68 * o + 4) 1 i = w i := fun i hi => wsn hi
  generalize ws w (12 + 68 * o + 4) 1 = w' at *
  have fd : ∀ b, ¬ b = s + 7 → mset d (s + 7) o 1 b = d b := fun b x => by
    funext j
    exact ms_a x
  refine ⟨⟨hN.k (fun i hi => e i (by omega)), fun o' x y => ?_, hQ.k (fun i hi => e i (by omega)) hN hO, hT.k (fun i hi => e i (by omega)) hN hO, hC.k (fun i hi => e i (by omega)) hN, hK.k (fun i hi => e i (by omega)) hN, hR.k (fun i hi => e i (by omega)) hN⟩, rA.k (fun b x => fd b (by omega)) (fun i hi => e i (by omega)), ⟨?_, fun o' x y => ?_⟩, rQ.k (fd _ (by omega)) (fun i hi => e i (by omega)) n7 hO, rP.k (fun b x y => fd b (by omega)) (fun i hi => e i (by omega)) n8, rT.k (fun b x y => fd b (by omega)) (fun i hi => e i (by omega)) n9, rC.k (fun b x => fd b (by omega)) (fun i hi => e i (by omega)) n9, rK.k (by rw [fd _ (by omega)]) (fun b x y => fd b (by omega)) (fun i hi => e i (by omega)) n10, rR.k (by rw [fd _ (by omega)]) (fd _ (by omega)) (fun i hi => e i (by omega)) n11, rB.k (fun b x y => fd b (by omega)) (fun i hi => e i (by omega)) n8 n9 n10 hK.of, rH.k (fun b x y => fd b (by omega)) (fun i hi => e i (by omega)) n8 n9 n10 hK.of⟩
  · rw [e 7 (by omega)] at y
    have g := hO o' x y
    rw [e (12 + 68 * o' + 1) (by omega), e (12 + 68 * o' + 2) (by omega), e (12 + 68 * o' + 3) (by omega), e (12 + 68 * o' + 5) (by omega), e (12 + 68 * o' + 6) (by omega), e 9 (by omega), csum_congr (f := fun t => if w' (452 + 24 * t + 4) = 1 ∧ w' (452 + 24 * t + 1) = o' then 1 else 0) (g := fun t => if w (452 + 24 * t + 4) = 1 ∧ w (452 + 24 * t + 1) = o' then 1 else 0) (fun t a b => by
      show (if w' (452 + 24 * t + 4) = 1 ∧ w' (452 + 24 * t + 1) = o' then (1 : Int) else 0) = if w (452 + 24 * t + 4) = 1 ∧ w (452 + 24 * t + 1) = o' then 1 else 0
      rw [e (452 + 24 * t + 4) (by omega), e (452 + 24 * t + 1) (by omega)])]
    by_cases c : o' = o
    · rw [c, eo]
      rw [c] at g
      exact ⟨g.1, g.2.1, g.2.2.1, Or.inr rfl, g.2.2.2.2.1, fun z => absurd z (by decide), g.2.2.2.2.2.2⟩
    · rw [e (12 + 68 * o' + 4) (by omega)]
      exact g
  · rw [fd _ (by omega), e 7 (by omega)]; exact o1
  · rw [e 7 (by omega)] at y
    have g := o2 o' x y
    rw [fd (s + 3) (by omega), fd (s + 4) (by omega), fd (s + 5) (by omega), fd (s + 6) (by omega), fd (s + 8) (by omega), e (12 + 68 * o' + 0) (by omega), e (12 + 68 * o' + 1) (by omega), e (12 + 68 * o' + 2) (by omega), e (12 + 68 * o' + 3) (by omega), e (12 + 68 * o' + 5) (by omega)]
    refine ⟨g.1, g.2.1, g.2.2.1, g.2.2.2.1, ?_, g.2.2.2.2.2⟩
    by_cases c : o' = o
    · rw [c, eo, ms_e rfl rfl]
    · rw [e _ (by omega), ms_i c]; exact g.2.2.2.2.1
-- a new person
theorem addP {s c : Int} {d : mD} {w : Row} (hg : GG w) (hw : GWt w) (h : Rel s d w) (h8 : w 8 < 16) (hc : okN c) : GG (W_182 (nm c) w) ∧ GWt (W_182 (nm c) w) ∧ Rel s (g_47 (s + 10) c d) (W_182 (nm c) w) ∧ W_182 (nm c) w 8 = w 8 + 1 ∧ ∀ i, ¬ i = 8 → ¬ (420 ≤ i ∧ i < 452) → W_182 (nm c) w i = w i := by
  obtain ⟨hN, hO, hQ, hT, hC, hK, hR⟩ := id hg
  obtain ⟨n7, n8, n9, n10, n11, n0, n1, n2, n3, n4, n5, n6⟩ := id hN
  obtain ⟨rA, rO, rQ, ⟨p1, p2⟩, rT, rC, rK, rR, rB, rH⟩ := h
  generalize hw' : W_182 (nm c) w = w'
  have e8 : w' 8 = w 8 + 1 := by
    rw [← hw']
    unfold W_182
    simp (disch := omega) only [wse, wsn]
  have ep0 : w' (420 + 2 * w 8 + 0) = nm c := by
    rw [← hw']
    unfold W_182
    simp (disch := omega) only [wse, wsn]
  have ep1 : w' (420 + 2 * w 8 + 1) = 0 := by
    rw [← hw']
    unfold W_182
    simp (disch := omega) only [wse, wsn]
  have e : ∀ i, ¬ i = 8 → ¬ i = 420 + 2 * w 8 + 0 → ¬ i = 420 + 2 * w 8 + 1 → w' i = w i := fun i x y z => by
    rw [← hw']
    unfold W_182
    simp (disch := omega) only [wsn]
  have eh : g_8 (s + 10 + 6 + (1 + 2 * w 8)) = fun d => mfl d (s + 18 + 2 * w 8) 0 16 := by
    funext d
    unfold g_8 g_300
    rw [show s + 10 + 6 + (1 + 2 * w 8) + 1 = s + 18 + 2 * w 8 by omega]
  generalize hd : g_47 (s + 10) c d = d'
  have ed : d' = mset (mfl (mset (mset (mset (mset (mset d (s + 11) (w 8) c) (s + 12) (w 8) 0) (s + 13) (w 8) 0) (s + 14) (w 8) 0) (s + 15) (w 8) 0) (s + 18 + 2 * w 8) 0 16) (s + 10) 0 (w 8 + 1) := by
    rw [← hd]
    unfold g_47
    rw [p1, if_pos h8, eh]
    simp only [show s + 10 + 1 = s + 11 by omega, show s + 10 + 2 = s + 12 by omega, show s + 10 + 3 = s + 13 by omega, show s + 10 + 4 = s + 14 by omega, show s + 10 + 5 = s + 15 by omega]
  have fd : ∀ b, ¬ (s + 10 ≤ b ∧ b ≤ s + 15) → ¬ b = s + 18 + 2 * w 8 → d' b = d b := fun b x y => by
    rw [ed]
    funext j
    simp (disch := omega) only [ms_a, fl_n]
  have fe : ∀ b j, s + 11 ≤ b → b ≤ s + 15 → ¬ j = w 8 → d' b j = d b j := fun b j x y z => by
    rw [ed]
    simp (disch := omega) only [ms_a, ms_i, fl_n]
  have pO : ∀ k, perO w' k = perO w k ∨ ¬ (0 ≤ k ∧ k < w 10) := fun k => by
    by_cases q : 0 ≤ k ∧ k < w 10
    · have g := hK k q.1 q.2
      refine Or.inl ?_
      unfold perO
      rw [e (1916 + 5 * k + 1) (by omega) (by omega) (by omega), e _ (by omega) (by omega) (by omega)]
    · exact Or.inr q
  have pO' : ∀ k, 0 ≤ k → k < w 10 → perO w' k = perO w k ∧ perO w k < w 8 := fun k a b => by
    refine ⟨(pO k).elim id (fun z => absurd ⟨a, b⟩ z), ?_⟩
    have g := hK k a b
    exact (hT _ g.2.1.1 g.2.1.2).1.2
  refine ⟨⟨?_, hO.k (fun i hi => e i (by omega) (by omega) (by omega)) hN, hQ.k (fun i hi => e i (by omega) (by omega) (by omega)) hN hO, ?_, hC.k (fun i hi => e i (by omega) (by omega) (by omega)) hN, ?_, hR.k (fun i hi => e i (by omega) (by omega) (by omega)) hN⟩, ?_, ⟨rA.k (fun b x => fd b (by omega) (by omega)) (fun i hi => e i (by omega) (by omega) (by omega)), rO.k (fun b x y => fd b (by omega) (by omega)) (fun i hi => e i (by omega) (by omega) (by omega)) n7, rQ.k (fd _ (by omega) (by omega)) (fun i hi => e i (by omega) (by omega) (by omega)) n7 hO, ⟨?_, fun p x y => ?_⟩, rT.k (fun b x y => fd b (by omega) (by omega)) (fun i hi => e i (by omega) (by omega) (by omega)) n9, rC.k (fun b x => fd b (by omega) (by omega)) (fun i hi => e i (by omega) (by omega) (by omega)) n9, rK.k (by rw [fd _ (by omega) (by omega)]) (fun b x y => fd b (by omega) (by omega)) (fun i hi => e i (by omega) (by omega) (by omega)) n10, rR.k (by rw [fd _ (by omega) (by omega)]) (fd _ (by omega) (by omega)) (fun i hi => e i (by omega) (by omega) (by omega)) n11, ?_, ?_⟩, e8, fun i x y => e i x (by omega) (by omega)⟩
  · unfold GN
    rw [e8, e 0 (by omega) (by omega) (by omega), e 1 (by omega) (by omega) (by omega), e 2 (by omega) (by omega) (by omega), e 3 (by omega) (by omega) (by omega), e 4 (by omega) (by omega) (by omega), e 5 (by omega) (by omega) (by omega), e 6 (by omega) (by omega) (by omega), e 7 (by omega) (by omega) (by omega), e 9 (by omega) (by omega) (by omega), e 10 (by omega) (by omega) (by omega), e 11 (by omega) (by omega) (by omega)]
    omega
  · intro t x y
    rw [e 9 (by omega) (by omega) (by omega)] at y
    have g := hT t x y
    rw [e (452 + 24 * t + 0) (by omega) (by omega) (by omega), e (452 + 24 * t + 1) (by omega) (by omega) (by omega), e (452 + 24 * t + 2) (by omega) (by omega) (by omega), e (452 + 24 * t + 3) (by omega) (by omega) (by omega), e (452 + 24 * t + 4) (by omega) (by omega) (by omega), e 0 (by omega) (by omega) (by omega), e 7 (by omega) (by omega) (by omega), e8]
    refine ⟨by omega, g.2.1, g.2.2.1, g.2.2.2.1, fun z => ?_, g.2.2.2.2.2⟩
    obtain ⟨z1, k, z2, z3, z4⟩ := g.2.2.2.2.1 z
    have go := hO _ g.2.1.1 g.2.1.2
    exact ⟨z1, k, z2, by rw [e _ (by omega) (by omega) (by omega)]; exact z3, by rw [e _ (by omega) (by omega) (by omega)]; exact z4⟩
  · intro k x y
    rw [e 10 (by omega) (by omega) (by omega)] at y
    have g := hK k x y
    rw [e (1916 + 5 * k + 0) (by omega) (by omega) (by omega), e (1916 + 5 * k + 1) (by omega) (by omega) (by omega), e (1916 + 5 * k + 2) (by omega) (by omega) (by omega), e (1916 + 5 * k + 3) (by omega) (by omega) (by omega), e (1916 + 5 * k + 4) (by omega) (by omega) (by omega), e 0 (by omega) (by omega) (by omega), e8, e 9 (by omega) (by omega) (by omega), (pO' k x y).1]
    refine ⟨by omega, g.2.1, g.2.2.1, g.2.2.2.1, g.2.2.2.2.1, fun i a b => ?_⟩
    rw [e (1916 + 5 * i + 2) (by omega) (by omega) (by omega), (pO' i a (by omega)).1]
    exact g.2.2.2.2.2 i a b
  · intro t x y q u v
    rw [e 9 (by omega) (by omega) (by omega)] at y
    rw [e8] at u
    rw [e _ (by omega) (by omega) (by omega)]
    exact hw t x y q (by omega) v
  · rw [ed, e8, ms_e rfl rfl]
  · rw [e8] at y
    by_cases q : p = w 8
    · rw [q, ep0, ep1, ed]
      simp (disch := omega) only [ms_a, ms_e, fl_n]
      exact ⟨⟨hc, trivial⟩, trivial⟩
    · rw [e (420 + 2 * p + 0) (by omega) (by omega) (by omega), e (420 + 2 * p + 1) (by omega) (by omega) (by omega), fe (s + 11) p (by omega) (by omega) q, fe (s + 12) p (by omega) (by omega) q]
      exact p2 p x (by omega)
  · intro p x y
    rw [e8] at y
    have hm : madeR w' p = madeR w p := madeR_k' (e 10 (by omega) (by omega) (by omega)) (fun k a b => ⟨(pO' k a b).1, e _ (by omega) (by omega) (by omega), e 0 (by omega) (by omega) (by omega)⟩)
    have ha : attR w' p = attR w p := by
      unfold attR
      rw [e 9 (by omega) (by omega) (by omega), e 0 (by omega) (by omega) (by omega)]
      exact csum_congr (fun t a b => by rw [e (452 + 24 * t + 8 + p) (by omega) (by omega) (by omega)])
    have hb : ∀ r, (∃ t, 0 ≤ t ∧ t < w' 9 ∧ w' (452 + 24 * t + 0) = r ∧ attd w' t p) ↔ ∃ t, 0 ≤ t ∧ t < w 9 ∧ w (452 + 24 * t + 0) = r ∧ attd w t p := fun r => by
      rw [e 9 (by omega) (by omega) (by omega)]
      constructor
      · rintro ⟨t, a, b, c, dd⟩
        rw [e _ (by omega) (by omega) (by omega)] at c
        unfold attd at dd
        rw [e (452 + 24 * t + 8 + p) (by omega) (by omega) (by omega), e 0 (by omega) (by omega) (by omega)] at dd
        exact ⟨t, a, b, c, dd⟩
      · rintro ⟨t, a, b, c, dd⟩
        refine ⟨t, a, b, by rw [e _ (by omega) (by omega) (by omega)]; exact c, ?_⟩
        unfold attd
        rw [e (452 + 24 * t + 8 + p) (by omega) (by omega) (by omega), e 0 (by omega) (by omega) (by omega)]
        exact dd
    rw [hm, ha]
    by_cases q : p = w 8
    · have z1 : d' (s + 13) p = 0 := by
        rw [ed, q]
        simp (disch := omega) only [ms_a, ms_e, fl_n]
      have z2 : d' (s + 14) p = 0 := by
        rw [ed, q]
        simp (disch := omega) only [ms_a, ms_e, fl_n]
      have z3 : d' (s + 15) p = 0 := by
        rw [ed, q]
        simp (disch := omega) only [ms_a, ms_e, fl_n]
      rw [z1, z2, z3]
      refine ⟨?_, ?_, fun r a b => ?_⟩
      · unfold madeR
        refine (csum_zero (fun k a b => ?_)).symm
        have := (pO' k a (by omega)).2
        rw [if_neg (by omega)]
      · unfold attR
        refine (csum_zero (fun t a b => ?_)).symm
        rw [hw t a (by omega) p (by omega) (by omega), if_neg (by omega)]
      · rw [ib_zero, hb]
        constructor
        · intro z; cases z
        · rintro ⟨t, a, b, c, dd⟩
          unfold attd at dd
          rw [hw t a b p (by omega) (by omega)] at dd
          omega
    · obtain ⟨g1, g2, g3⟩ := rB p x (by omega)
      rw [fe (s + 13) p (by omega) (by omega) q, fe (s + 14) p (by omega) (by omega) q, fe (s + 15) p (by omega) (by omega) q]
      exact ⟨g1, g2, fun r a b => (g3 r a b).trans (hb r).symm⟩
  · intro p x y h0 u v
    rw [e8] at y
    have hb : (∃ k, 0 ≤ k ∧ k < w' 10 ∧ w' (1916 + 5 * k + 2) = h0 ∧ perO w' k = p) ↔ ∃ k, 0 ≤ k ∧ k < w 10 ∧ w (1916 + 5 * k + 2) = h0 ∧ perO w k = p := by
      rw [e 10 (by omega) (by omega) (by omega)]
      constructor
      · rintro ⟨k, a, b, c, dd⟩
        rw [e _ (by omega) (by omega) (by omega)] at c
        rw [(pO' k a b).1] at dd
        exact ⟨k, a, b, c, dd⟩
      · rintro ⟨k, a, b, c, dd⟩
        exact ⟨k, a, b, by rw [e _ (by omega) (by omega) (by omega)]; exact c, by rw [(pO' k a b).1]; exact dd⟩
    rw [hb]
    by_cases q : p = w 8
    · have z : d' (s + 18 + 2 * p) (h0 / 64) = 0 := by
        rw [ed, q]
        simp (disch := omega) only [ms_a]
        exact fl_e rfl (by omega) (by omega)
      rw [z, lb_zero]
      constructor
      · intro z; cases z
      · rintro ⟨k, a, b, c, dd⟩
        have := (pO' k a b).2
        omega
    · rw [fd _ (by omega) (by omega)]
      exact rH p x (by omega) h0 u v
/-! ===== names: looking them up, and a new office ===== -/
theorem find36 {s c m : Int} {d : mD} {w : Row} (h0 : d (s + 2) 0 = w 7) (h : ∀ o, 0 ≤ o → o < w 7 → (d (s + 3) o = c ↔ w (12 + 68 * o + 0) = m)) : ∀ (n : Nat) (x : Int), 0 ≤ x → lp_36_2 (s + 2) c n x d = LP_184_2 m n x w := by
  have st : ∀ (r : Int → mD → Int) (R : Int → Row → Int) (x : Int), 0 ≤ x → (x < w 7 → r (x + 1) d = R (x + 1) w) → st_36_2 (s + 2) c r x d = ST_184_2 m R x w := fun r R x a hr => by
    unfold st_36_2 ST_184_2
    rw [h0, show s + 2 + 1 = s + 3 by omega]
    by_cases q : x < w 7
    · rw [if_pos q, if_pos q]
      by_cases z : d (s + 3) x = c
      · rw [if_pos z, if_pos ((h x a q).1 z)]
      · rw [if_neg z, if_neg (fun y => z ((h x a q).2 y))]; exact hr q
    · rw [if_neg q, if_neg q]
  intro n
  induction n with
  | zero => intro x a; exact st _ _ x a (fun _ => rfl)
  | succ n ih => intro x a; exact st _ _ x a (fun _ => ih (x + 1) (by omega))
theorem find48 {s c m : Int} {d : mD} {w : Row} (h0 : d (s + 10) 0 = w 8) (h : ∀ p, 0 ≤ p → p < w 8 → (d (s + 11) p = c ↔ w (420 + 2 * p + 0) = m)) : ∀ (n : Nat) (x : Int), 0 ≤ x → lp_48_2 (s + 10) c n x d = LP_183_2 m n x w := by
  have st : ∀ (r : Int → mD → Int) (R : Int → Row → Int) (x : Int), 0 ≤ x → (x < w 8 → r (x + 1) d = R (x + 1) w) → st_48_2 (s + 10) c r x d = ST_183_2 m R x w := fun r R x a hr => by
    unfold st_48_2 ST_183_2
    rw [h0, show s + 10 + 1 = s + 11 by omega]
    by_cases q : x < w 8
    · rw [if_pos q, if_pos q]
      by_cases z : d (s + 11) x = c
      · rw [if_pos z, if_pos ((h x a q).1 z)]
      · rw [if_neg z, if_neg (fun y => z ((h x a q).2 y))]; exact hr q
    · rw [if_neg q, if_neg q]
  intro n
  induction n with
  | zero => intro x a; exact st _ _ x a (fun _ => rfl)
  | succ n ih => intro x a; exact st _ _ x a (fun _ => ih (x + 1) (by omega))
theorem findO {s c : Int} {d : mD} {w : Row} (h : RelO s d w) (hc : okN c) : v_36 (s + 2) c d = V_184 (nm c) w := by
  unfold v_36 V_184
  refine find36 h.1 (fun o x y => ?_) _ 0 (by omega)
  have g := (h.2 o x y).1
  exact ⟨fun z => by rw [← g.2, z], fun z => nm_inj g.1 hc (by rw [g.2, z])⟩
theorem findP {s c : Int} {d : mD} {w : Row} (h : RelP s d w) (hc : okN c) : v_48 (s + 10) c d = V_183 (nm c) w := by
  unfold v_48 V_183
  refine find48 h.1 (fun o x y => ?_) _ 0 (by omega)
  have g := (h.2 o x y).1
  exact ⟨fun z => by rw [← g.2, z], fun z => nm_inj g.1 hc (by rw [g.2, z])⟩
theorem noO {s c m : Int} {d : mD} {w : Row} (h : RelO s d w) (hc : c ≤ 0) (hm : m ≤ 0) : v_36 (s + 2) c d = V_184 m w := by
  unfold v_36 V_184
  refine find36 h.1 (fun o x y => ?_) _ 0 (by omega)
  have g := (h.2 o x y).1
  have g1 := nm_pos g.1
  have g2 := g.1.1
  exact ⟨fun z => by omega, fun z => by omega⟩
theorem noP {s c m : Int} {d : mD} {w : Row} (h : RelP s d w) (hc : c ≤ 0) (hm : m ≤ 0) : v_48 (s + 10) c d = V_183 m w := by
  unfold v_48 V_183
  refine find48 h.1 (fun o x y => ?_) _ 0 (by omega)
  have g := (h.2 o x y).1
  have g1 := nm_pos g.1
  have g2 := g.1.1
  exact ⟨fun z => by omega, fun z => by omega⟩
-- the answers' ranges
theorem V184_lo {m : Int} {w : Row} : ∀ (n : Nat) (x : Int), 0 ≤ x → w 7 ≤ x + n → -1 ≤ LP_184_2 m n x w ∧ LP_184_2 m n x w < w 7 ∨ w 7 ≤ x ∧ LP_184_2 m n x w = -1 := by
  intro n
  induction n with
  | zero =>
    intro x a b
    refine Or.inr ⟨by omega, ?_⟩
    show ST_184_2 m _ x w = -1
    unfold ST_184_2
    rw [if_neg (by omega)]
  | succ n ih =>
    intro x a b
    show (-1 ≤ ST_184_2 m (LP_184_2 m n) x w ∧ ST_184_2 m (LP_184_2 m n) x w < w 7) ∨ _ ∧ ST_184_2 m (LP_184_2 m n) x w = -1
    unfold ST_184_2
    by_cases q : x < w 7
    · rw [if_pos q]
      by_cases z : w (12 + 68 * x + 0) = m
      · rw [if_pos z]; exact Or.inl ⟨by omega, q⟩
      · rw [if_neg z]
        have := ih (x + 1) (by omega) (by omega)
        omega
    · rw [if_neg q]; exact Or.inr ⟨by omega, rfl⟩
theorem V183_lo {m : Int} {w : Row} : ∀ (n : Nat) (x : Int), 0 ≤ x → w 8 ≤ x + n → -1 ≤ LP_183_2 m n x w ∧ LP_183_2 m n x w < w 8 ∨ w 8 ≤ x ∧ LP_183_2 m n x w = -1 := by
  intro n
  induction n with
  | zero =>
    intro x a b
    refine Or.inr ⟨by omega, ?_⟩
    show ST_183_2 m _ x w = -1
    unfold ST_183_2
    rw [if_neg (by omega)]
  | succ n ih =>
    intro x a b
    show (-1 ≤ ST_183_2 m (LP_183_2 m n) x w ∧ ST_183_2 m (LP_183_2 m n) x w < w 8) ∨ _ ∧ ST_183_2 m (LP_183_2 m n) x w = -1
    unfold ST_183_2
    by_cases q : x < w 8
    · rw [if_pos q]
      by_cases z : w (420 + 2 * x + 0) = m
      · rw [if_pos z]; exact Or.inl ⟨by omega, q⟩
      · rw [if_neg z]
        have := ih (x + 1) (by omega) (by omega)
        omega
    · rw [if_neg q]; exact Or.inr ⟨by omega, rfl⟩
theorem V184_rng {m : Int} {w : Row} (h : 0 ≤ w 7 ∧ w 7 ≤ 6) : V_184 m w = -1 ∨ (0 ≤ V_184 m w ∧ V_184 m w < w 7) := by
  have := V184_lo (m := m) (w := w) (6 - 0 : Int).toNat 0 (by omega) (by omega)
  unfold V_184
  omega
theorem V183_rng {m : Int} {w : Row} (h : 0 ≤ w 8 ∧ w 8 ≤ 16) : V_183 m w = -1 ∨ (0 ≤ V_183 m w ∧ V_183 m w < w 8) := by
  have := V183_lo (m := m) (w := w) (16 - 0 : Int).toNat 0 (by omega) (by omega)
  unfold V_183
  omega
-- a new office, while nobody has a ticket
def GZ (w : Row) : Prop := ∀ o, w 7 ≤ o → o < 6 → w (12 + 68 * o + 5) = 0 ∧ w (12 + 68 * o + 6) = 0
theorem addO {s c a1 a2 a3 : Int} {d : mD} {w : Row} (hg : GG w) (hz : GZ w) (h : Rel s d w) (h7 : w 7 < 6) (h9 : w 9 = 0) (h10 : w 10 = 0) (hc : okN c) (b1 : 1 ≤ a1 ∧ a1 ≤ 4) (b2 : 1 ≤ a2 ∧ a2 ≤ 6) (b3 : 1 ≤ a3 ∧ a3 ≤ 20) : GG (W_181 (nm c) a1 a2 a3 w) ∧ GZ (W_181 (nm c) a1 a2 a3 w) ∧ Rel s (g_35 (s + 2) c a1 a2 a3 d) (W_181 (nm c) a1 a2 a3 w) ∧ W_181 (nm c) a1 a2 a3 w 7 = w 7 + 1 ∧ ∀ i, ¬ i = 7 → ¬ (12 ≤ i ∧ i < 420) → W_181 (nm c) a1 a2 a3 w i = w i := by
  obtain ⟨hN, hO, hQ, hT, hC, hK, hR⟩ := id hg
  obtain ⟨n7, n8, n9, n10, n11, n0, n1, n2, n3, n4, n5, n6⟩ := id hN
  obtain ⟨rA, ⟨o1, o2⟩, rQ, rP, rT, rC, rK, rR, rB, rH⟩ := h
  have h11 : w 11 = 0 := by
    have := hR.1
    rw [h10] at this
    exact this
  generalize hw' : W_181 (nm c) a1 a2 a3 w = w'
  have e7 : w' 7 = w 7 + 1 := by
    rw [← hw']
    unfold W_181
    simp (disch := omega) only [wse, wsn]
  have p0 : w' (12 + 68 * w 7 + 0) = nm c := by
    rw [← hw']
    unfold W_181
    simp (disch := omega) only [wse, wsn]
  have p1 : w' (12 + 68 * w 7 + 1) = a1 := by
    rw [← hw']
    unfold W_181
    simp (disch := omega) only [wse, wsn]
  have p2 : w' (12 + 68 * w 7 + 2) = a2 := by
    rw [← hw']
    unfold W_181
    simp (disch := omega) only [wse, wsn]
  have p3 : w' (12 + 68 * w 7 + 3) = a3 := by
    rw [← hw']
    unfold W_181
    simp (disch := omega) only [wse, wsn]
  have p4 : w' (12 + 68 * w 7 + 4) = 1 := by
    rw [← hw']
    unfold W_181
    simp (disch := omega) only [wse, wsn]
  have e : ∀ i, ¬ i = 7 → ¬ (12 + 68 * w 7 + 0 ≤ i ∧ i ≤ 12 + 68 * w 7 + 4) → w' i = w i := fun i x y => by
    rw [← hw']
    unfold W_181
    simp (disch := omega) only [wsn]
  have z5 : w' (12 + 68 * w 7 + 5) = 0 := by rw [e _ (by omega) (by omega)]; exact (hz (w 7) (by omega) h7).1
  have z6 : w' (12 + 68 * w 7 + 6) = 0 := by rw [e _ (by omega) (by omega)]; exact (hz (w 7) (by omega) h7).2
  generalize hd : g_35 (s + 2) c a1 a2 a3 d = d'
  have ed : d' = mset (mset (mset (mset (mset (mset (mset d (s + 3) (w 7) c) (s + 4) (w 7) a1) (s + 5) (w 7) a2) (s + 6) (w 7) a3) (s + 7) (w 7) 1) (s + 8) (w 7) 0) (s + 2) 0 (w 7 + 1) := by
    rw [← hd]
    unfold g_35
    rw [o1, if_pos h7]
    simp only [show s + 2 + 1 = s + 3 by omega, show s + 2 + 2 = s + 4 by omega, show s + 2 + 3 = s + 5 by omega, show s + 2 + 4 = s + 6 by omega, show s + 2 + 5 = s + 7 by omega, show s + 2 + 6 = s + 8 by omega]
  have fd : ∀ b, ¬ (s + 2 ≤ b ∧ b ≤ s + 8) → d' b = d b := fun b x => by
    rw [ed]
    funext j
    simp (disch := omega) only [ms_a]
  have fe : ∀ b j, s + 3 ≤ b → b ≤ s + 8 → ¬ j = w 7 → d' b j = d b j := fun b j x y z => by
    rw [ed]
    simp (disch := omega) only [ms_a, ms_i]
  have h9' : w' 9 = 0 := by rw [e 9 (by omega) (by omega)]; exact h9
  have h10' : w' 10 = 0 := by rw [e 10 (by omega) (by omega)]; exact h10
  have h11' : w' 11 = 0 := by rw [e 11 (by omega) (by omega)]; exact h11
  refine ⟨⟨?_, fun o x y => ?_, fun o x y k u v => ?_, fun t x y => absurd y (by omega), fun t x y => absurd y (by omega), fun k x y => absurd y (by omega), ?_, fun k x y => absurd y (by omega)⟩, fun o x y => ?_, ⟨rA.k (fun b x => fd b (by omega)) (fun i hi => e i (by omega) (by omega)), ⟨?_, fun o x y => ?_⟩, fun o x y k u v => ?_, rP.k (fun b x y => fd b (by omega)) (fun i hi => e i (by omega) (by omega)) n8, rT.k (fun b x y => fd b (by omega)) (fun i hi => e i (by omega) (by omega)) n9, rC.k (fun b x => fd b (by omega)) (fun i hi => e i (by omega) (by omega)) n9, rK.k (by rw [fd _ (by omega)]) (fun b x y => fd b (by omega)) (fun i hi => e i (by omega) (by omega)) n10, rR.k (by rw [fd _ (by omega)]) (fd _ (by omega)) (fun i hi => e i (by omega) (by omega)) n11, rB.k (fun b x y => fd b (by omega)) (fun i hi => e i (by omega) (by omega)) n8 n9 n10 hK.of, rH.k (fun b x y => fd b (by omega)) (fun i hi => e i (by omega) (by omega)) n8 n9 n10 hK.of⟩, e7, fun i x y => e i x (by omega)⟩
  · unfold GN
    rw [e7, e 0 (by omega) (by omega), e 1 (by omega) (by omega), e 2 (by omega) (by omega), e 3 (by omega) (by omega), e 4 (by omega) (by omega), e 5 (by omega) (by omega), e 6 (by omega) (by omega), e 8 (by omega) (by omega), h9', h10', h11']
    omega
  · rw [h9']
    rw [e7] at y
    by_cases q : o = w 7
    · rw [q, p1, p2, p3, p4, z5, z6]
      exact ⟨b1, b2, b3, Or.inr rfl, by omega, fun _ => rfl, rfl⟩
    · have g := hO o x (by omega)
      rw [h9] at g
      rw [e (12 + 68 * o + 1) (by omega) (by omega), e (12 + 68 * o + 2) (by omega) (by omega), e (12 + 68 * o + 3) (by omega) (by omega), e (12 + 68 * o + 4) (by omega) (by omega), e (12 + 68 * o + 5) (by omega) (by omega), e (12 + 68 * o + 6) (by omega) (by omega)]
      exact g
  · rw [e7] at y
    by_cases q : o = w 7
    · rw [q, z5] at v; omega
    · rw [e _ (by omega) (by omega)] at v
      have := (hQ o x (by omega) k u v).1
      omega
  · rw [h11', h10']; rfl
  · rw [e7] at x
    rw [e _ (by omega) (by omega), e _ (by omega) (by omega)]
    exact hz o (by omega) y
  · rw [ed, e7, ms_e rfl rfl]
  · rw [e7] at y
    by_cases q : o = w 7
    · rw [q, p0, p1, p2, p3, p4, z5, ed]
      simp (disch := omega) only [ms_a, ms_e]
      exact ⟨⟨hc, trivial⟩, trivial, trivial, trivial, trivial, trivial⟩
    · rw [e (12 + 68 * o + 0) (by omega) (by omega), e (12 + 68 * o + 1) (by omega) (by omega), e (12 + 68 * o + 2) (by omega) (by omega), e (12 + 68 * o + 3) (by omega) (by omega), e (12 + 68 * o + 4) (by omega) (by omega), e (12 + 68 * o + 5) (by omega) (by omega), fe (s + 3) o (by omega) (by omega) q, fe (s + 4) o (by omega) (by omega) q, fe (s + 5) o (by omega) (by omega) q, fe (s + 6) o (by omega) (by omega) q, fe (s + 7) o (by omega) (by omega) q, fe (s + 8) o (by omega) (by omega) q]
      exact o2 o x (by omega)
  · rw [e7] at y
    by_cases q : o = w 7
    · rw [q, z5] at v; omega
    · rw [e _ (by omega) (by omega)] at v
      have := (hQ o x (by omega) k u v).1
      omega
/-! ===== sorted queues: two enumerations of one set, the first of each person ===== -/
def incS (κ q : Int → Int) (m : Int) : Prop := ∀ i k, 0 ≤ i → i < k → k < m → κ (q i) < κ (q k)
def memS (q : Int → Int) (m t : Int) : Prop := ∃ k, 0 ≤ k ∧ k < m ∧ q k = t
theorem incS.pt {κ f g : Int → Int} {m n : Int} (hf : incS κ f m) (hg : incS κ g n) (h : ∀ t, memS f m t ↔ memS g n t) : ∀ (N : Nat) (k : Int), 0 ≤ k → k < N → k < m → k < n ∧ f k = g k := by
  intro N
  induction N with
  | zero => intro k a b; omega
  | succ N ih =>
    intro k a b c
    by_cases q : k < N
    · exact ih k a q c
    · obtain ⟨l, l0, l1, l2⟩ := (h (f k)).1 ⟨k, a, c, rfl⟩
      have hl : k ≤ l := by
        by_cases z : l < k
        · have e := (ih l l0 (by omega) (by omega)).2
          have y := hf l k l0 z c
          rw [e, l2] at y
          omega
        · omega
      have kn : k < n := by omega
      refine ⟨kn, ?_⟩
      by_cases z : l = k
      · rw [z] at l2
        exact l2.symm
      · exfalso
        obtain ⟨i, i0, i1, i2⟩ := (h (g k)).2 ⟨k, a, kn, rfl⟩
        have y1 := hg k l a (by omega) l1
        rw [l2, ← i2] at y1
        by_cases zz : i < k
        · have e := (ih i i0 (by omega) i1).2
          have y2 := hg i k i0 zz kn
          rw [← e, i2] at y2
          omega
        · by_cases z3 : i = k
          · rw [z3] at y1; omega
          · have y3 := hf k i a (by omega) i1
            omega
theorem incS.ext {κ f g : Int → Int} {m n : Int} (hf : incS κ f m) (hg : incS κ g n) (h : ∀ t, memS f m t ↔ memS g n t) (hm : 0 ≤ m) (hn : 0 ≤ n) : m = n ∧ ∀ k, 0 ≤ k → k < m → f k = g k := by
  have a : m ≤ n := by
    by_cases z : m = 0
    · omega
    · have := (hf.pt hg h m.toNat (m - 1) (by omega) (by omega) (by omega)).1
      omega
  have b : n ≤ m := by
    by_cases z : n = 0
    · omega
    · have := (hg.pt hf (fun t => (h t).symm) n.toNat (n - 1) (by omega) (by omega) (by omega)).1
      omega
  exact ⟨by omega, fun k x y => (hf.pt hg h m.toNat k x (by omega) y).2⟩
theorem incS.inj {κ q : Int → Int} {m i k : Int} (h : incS κ q m) (i0 : 0 ≤ i) (i1 : i < m) (k0 : 0 ≤ k) (k1 : k < m) (e : q i = q k) : i = k := by
  by_cases a : i < k
  · have := h i k i0 a k1
    rw [e] at this
    omega
  · by_cases b : k < i
    · have := h k i k0 b i1
      rw [e] at this
      omega
    · omega
theorem incS.ins {κ q q' : Int → Int} {m pos t : Int} (h : incS κ q m) (p : 0 ≤ pos ∧ pos ≤ m) (e1 : ∀ k, 0 ≤ k → k < pos → q' k = q k) (e2 : q' pos = t) (e3 : ∀ k, pos < k → k ≤ m → q' k = q (k - 1)) (lo : ∀ k, 0 ≤ k → k < pos → κ (q k) < κ t) (hi : ∀ k, pos ≤ k → k < m → κ t < κ (q k)) : incS κ q' (m + 1) ∧ ∀ x, memS q' (m + 1) x ↔ (x = t ∨ memS q m x) := by
  refine ⟨fun i k a b c => ?_, fun x => ⟨?_, ?_⟩⟩
  · by_cases z1 : k < pos
    · rw [e1 i a (by omega), e1 k (by omega) z1]
      exact h i k a b (by omega)
    · by_cases z2 : k = pos
      · rw [e1 i a (by omega), z2, e2]
        exact lo i a (by omega)
      · rw [e3 k (by omega) (by omega)]
        by_cases z3 : i < pos
        · rw [e1 i a z3]
          exact h i (k - 1) a (by omega) (by omega)
        · by_cases z4 : i = pos
          · rw [z4, e2]
            exact hi (k - 1) (by omega) (by omega)
          · rw [e3 i (by omega) (by omega)]
            exact h (i - 1) (k - 1) (by omega) (by omega) (by omega)
  · rintro ⟨k, a, b, c⟩
    by_cases z1 : k < pos
    · rw [e1 k a z1] at c
      exact Or.inr ⟨k, a, by omega, c⟩
    · by_cases z2 : k = pos
      · rw [z2, e2] at c
        exact Or.inl c.symm
      · rw [e3 k (by omega) (by omega)] at c
        exact Or.inr ⟨k - 1, by omega, by omega, c⟩
  · rintro (c | ⟨k, a, b, c⟩)
    · exact ⟨pos, p.1, by omega, by rw [e2, c]⟩
    · by_cases z1 : k < pos
      · exact ⟨k, a, by omega, by rw [e1 k a z1]; exact c⟩
      · exact ⟨k + 1, by omega, by omega, by rw [e3 (k + 1) (by omega) (by omega), show k + 1 - 1 = k by omega]; exact c⟩
theorem incS.rem {κ q q' : Int → Int} {m pos : Int} (h : incS κ q m) (p : 0 ≤ pos ∧ pos < m) (e1 : ∀ k, 0 ≤ k → k < pos → q' k = q k) (e2 : ∀ k, pos ≤ k → k < m - 1 → q' k = q (k + 1)) : incS κ q' (m - 1) ∧ ∀ x, memS q' (m - 1) x ↔ (memS q m x ∧ ¬ x = q pos) := by
  refine ⟨fun i k a b c => ?_, fun x => ⟨?_, ?_⟩⟩
  · by_cases z1 : k < pos
    · rw [e1 i a (by omega), e1 k (by omega) z1]
      exact h i k a b (by omega)
    · rw [e2 k (by omega) (by omega)]
      by_cases z3 : i < pos
      · rw [e1 i a z3]
        exact h i (k + 1) a (by omega) (by omega)
      · rw [e2 i (by omega) (by omega)]
        exact h (i + 1) (k + 1) (by omega) (by omega) (by omega)
  · rintro ⟨k, a, b, c⟩
    by_cases z1 : k < pos
    · rw [e1 k a z1] at c
      refine ⟨⟨k, a, by omega, c⟩, fun z => ?_⟩
      have := h.inj a (by omega) p.1 p.2 (c.trans z)
      omega
    · rw [e2 k (by omega) (by omega)] at c
      refine ⟨⟨k + 1, by omega, by omega, c⟩, fun z => ?_⟩
      have := h.inj (i := k + 1) (by omega) (by omega) p.1 p.2 (c.trans z)
      omega
  · rintro ⟨⟨k, a, b, c⟩, n⟩
    by_cases z1 : k < pos
    · exact ⟨k, a, by omega, by rw [e1 k a z1]; exact c⟩
    · by_cases z2 : k = pos
      · rw [z2] at c
        exact absurd c.symm n
      · exact ⟨k - 1, by omega, by omega, by rw [e2 (k - 1) (by omega) (by omega), show k - 1 + 1 = k by omega]; exact c⟩
-- the first of each person among the first n
def inU (U : Int → Int) (n t : Int) : Prop := ∃ i, 0 ≤ i ∧ i < n ∧ U i = t
def bestS (κ p U : Int → Int) (n t : Int) : Prop := inU U n t ∧ ∀ x, inU U n x → p x = p t → κ t ≤ κ x
theorem inU_succ {U : Int → Int} {n x : Int} (hn : 0 ≤ n) : inU U (n + 1) x ↔ (inU U n x ∨ x = U n) := by
  constructor
  · rintro ⟨i, a, b, c⟩
    by_cases z : i = n
    · rw [z] at c; exact Or.inr c.symm
    · exact Or.inl ⟨i, a, by omega, c⟩
  · rintro (⟨i, a, b, c⟩ | c)
    · exact ⟨i, a, by omega, c⟩
    · exact ⟨n, hn, by omega, c.symm⟩
theorem minU {κ p U : Int → Int} {c : Int} : ∀ (n : Nat), (∃ x, inU U n x ∧ p x = c) → ∃ y, inU U n y ∧ p y = c ∧ ∀ x, inU U n x → p x = c → κ y ≤ κ x := by
  intro n
  induction n with
  | zero => rintro ⟨x, ⟨i, a, b, -⟩, -⟩; omega
  | succ n ih =>
    intro h
    have e : ∀ x, inU U ((n + 1 : Nat) : Int) x ↔ (inU U n x ∨ x = U n) := fun x => by
      rw [show ((n + 1 : Nat) : Int) = (n : Int) + 1 by omega]
      exact inU_succ (by omega)
    by_cases q : ∃ x, inU U n x ∧ p x = c
    · obtain ⟨y, y1, y2, y3⟩ := ih q
      by_cases z : p (U n) = c ∧ κ (U n) < κ y
      · refine ⟨U n, (e _).2 (Or.inr rfl), z.1, fun x a b => ?_⟩
        rcases (e x).1 a with a | a
        · have := y3 x a b; omega
        · rw [a]; omega
      · refine ⟨y, (e _).2 (Or.inl y1), y2, fun x a b => ?_⟩
        rcases (e x).1 a with a | a
        · exact y3 x a b
        · rw [a] at b ⊢
          by_cases zz : κ (U n) < κ y
          · exact absurd ⟨b, zz⟩ z
          · omega
    · obtain ⟨x, x1, x2⟩ := h
      rcases (e x).1 x1 with a | a
      · exact absurd ⟨x, a, x2⟩ q
      · refine ⟨x, x1, x2, fun z z1 z2 => ?_⟩
        rcases (e z).1 z1 with b | b
        · exact absurd ⟨z, b, z2⟩ q
        · rw [a, b]; omega
theorem bestS.ex {κ p U : Int → Int} {n x : Int} (h : inU U n x) : ∃ y, bestS κ p U n y ∧ p y = p x ∧ κ y ≤ κ x := by
  have hn : ((n.toNat : Nat) : Int) = n := by
    obtain ⟨i, a, b, -⟩ := h
    omega
  have := minU (κ := κ) (p := p) (U := U) (c := p x) n.toNat
  rw [hn] at this
  obtain ⟨y, a, b, c⟩ := this ⟨x, h, rfl⟩
  exact ⟨y, ⟨a, fun z z1 z2 => c z z1 (z2.trans b)⟩, b, c x h rfl⟩
theorem bestStep {κ p U : Int → Int} {n : Int} (hn : 0 ≤ n) (hk : ∀ x, inU U n x → ¬ κ x = κ (U n)) (y : Int) : bestS κ p U (n + 1) y ↔ ((bestS κ p U n y ∧ (p y = p (U n) → κ y < κ (U n))) ∨ (y = U n ∧ ∀ x, bestS κ p U n x → p x = p (U n) → κ (U n) < κ x)) := by
  constructor
  · rintro ⟨a, b⟩
    rcases (inU_succ hn).1 a with a | a
    · refine Or.inl ⟨⟨a, fun x x1 x2 => b x ((inU_succ hn).2 (Or.inl x1)) x2⟩, fun z => ?_⟩
      have z1 := b (U n) ((inU_succ hn).2 (Or.inr rfl)) z.symm
      have z2 := hk y a
      omega
    · refine Or.inr ⟨a, fun x x1 x2 => ?_⟩
      have z1 := b x ((inU_succ hn).2 (Or.inl x1.1)) (by rw [a]; exact x2)
      have z2 := hk x x1.1
      rw [a] at z1
      omega
  · rintro (⟨⟨a, b⟩, c⟩ | ⟨a, b⟩)
    · refine ⟨(inU_succ hn).2 (Or.inl a), fun x x1 x2 => ?_⟩
      rcases (inU_succ hn).1 x1 with x1 | x1
      · exact b x x1 x2
      · rw [x1] at x2 ⊢
        have := c x2.symm
        omega
    · refine ⟨(inU_succ hn).2 (Or.inr a), fun x x1 x2 => ?_⟩
      rw [a] at x2 ⊢
      rcases (inU_succ hn).1 x1 with x1 | x1
      · obtain ⟨z, z1, z2, z3⟩ := bestS.ex (κ := κ) (p := p) x1
        have := b z z1 (z2.trans x2)
        omega
      · rw [x1]; omega
-- a step of the class: nobody of that person yet, or the one that stands ahead stays, or the one behind goes
theorem stNone {κ p U q q' : Int → Int} {n m : Int} (hn : 0 ≤ n) (hk : ∀ x, inU U n x → ¬ κ x = κ (U n)) (h : incS κ q m) (hb : ∀ x, memS q m x ↔ bestS κ p U n x) (hi : incS κ q' (m + 1) ∧ ∀ x, memS q' (m + 1) x ↔ (x = U n ∨ memS q m x)) (no : ∀ k, 0 ≤ k → k < m → ¬ p (q k) = p (U n)) : (∀ x, memS q' (m + 1) x ↔ bestS κ p U (n + 1) x) ∧ ∀ x, (inU U (n + 1) x ∧ ¬ bestS κ p U (n + 1) x) ↔ (inU U n x ∧ ¬ bestS κ p U n x) := by
  have nb : ∀ x, bestS κ p U n x → ¬ p x = p (U n) := fun x a b => by
    obtain ⟨k, k0, k1, k2⟩ := (hb x).2 a
    exact no k k0 k1 (by rw [k2]; exact b)
  have eb : ∀ x, bestS κ p U (n + 1) x ↔ (x = U n ∨ bestS κ p U n x) := fun x => by
    rw [bestStep hn hk]
    constructor
    · rintro (a | a)
      · exact Or.inr a.1
      · exact Or.inl a.1
    · rintro (a | a)
      · exact Or.inr ⟨a, fun z z1 z2 => absurd z2 (nb z z1)⟩
      · exact Or.inl ⟨a, fun z => absurd z (nb x a)⟩
  refine ⟨fun x => by rw [hi.2, hb, eb], fun x => ?_⟩
  rw [eb, inU_succ hn]
  constructor
  · rintro ⟨a | a, b⟩
    · exact ⟨a, fun z => b (Or.inr z)⟩
    · exact absurd (Or.inl a) b
  · rintro ⟨a, b⟩
    refine ⟨Or.inl a, ?_⟩
    rintro (z | z)
    · exact hk x a (by rw [z])
    · exact b z
theorem stKeep {κ p U q : Int → Int} {n m tw : Int} (hn : 0 ≤ n) (hk : ∀ x, inU U n x → ¬ κ x = κ (U n)) (h : incS κ q m) (hb : ∀ x, memS q m x ↔ bestS κ p U n x) (htw : 0 ≤ tw ∧ tw < m) (hp : p (q tw) = p (U n)) (hl : κ (q tw) < κ (U n)) : (∀ x, memS q m x ↔ bestS κ p U (n + 1) x) ∧ ∀ x, (inU U (n + 1) x ∧ ¬ bestS κ p U (n + 1) x) ↔ ((inU U n x ∧ ¬ bestS κ p U n x) ∨ x = U n) := by
  have bt : bestS κ p U n (q tw) := (hb _).1 ⟨tw, htw.1, htw.2, rfl⟩
  have eb : ∀ x, bestS κ p U (n + 1) x ↔ bestS κ p U n x := fun x => by
    rw [bestStep hn hk]
    constructor
    · rintro (a | a)
      · exact a.1
      · have := a.2 _ bt hp
        omega
    · intro a
      refine Or.inl ⟨a, fun z => ?_⟩
      have := a.2 _ bt.1 (by rw [hp, z])
      omega
  refine ⟨fun x => by rw [hb, eb], fun x => ?_⟩
  rw [eb, inU_succ hn]
  constructor
  · rintro ⟨a | a, b⟩
    · exact Or.inl ⟨a, b⟩
    · exact Or.inr a
  · rintro (⟨a, b⟩ | a)
    · exact ⟨Or.inl a, b⟩
    · exact ⟨Or.inr a, fun z => hk x z.1 (by rw [a])⟩
theorem stSwap {κ p U q q1 q' : Int → Int} {n m tw : Int} (hn : 0 ≤ n) (hk : ∀ x, inU U n x → ¬ κ x = κ (U n)) (h : incS κ q m) (hb : ∀ x, memS q m x ↔ bestS κ p U n x) (htw : 0 ≤ tw ∧ tw < m) (hp : p (q tw) = p (U n)) (hl : κ (U n) < κ (q tw)) (hr : ∀ x, memS q1 (m - 1) x ↔ (memS q m x ∧ ¬ x = q tw)) (hi : ∀ x, memS q' (m - 1 + 1) x ↔ (x = U n ∨ memS q1 (m - 1) x)) : (∀ x, memS q' m x ↔ bestS κ p U (n + 1) x) ∧ ∀ x, (inU U (n + 1) x ∧ ¬ bestS κ p U (n + 1) x) ↔ ((inU U n x ∧ ¬ bestS κ p U n x) ∨ x = q tw) := by
  have bt : bestS κ p U n (q tw) := (hb _).1 ⟨tw, htw.1, htw.2, rfl⟩
  have un : ∀ x, bestS κ p U n x → p x = p (U n) → x = q tw := fun x a b => by
    obtain ⟨k, k0, k1, k2⟩ := (hb x).2 a
    have e1 := a.2 _ bt.1 (by rw [hp, b])
    have e2 := bt.2 _ a.1 (by rw [hp, b])
    by_cases z : k = tw
    · rw [← k2, z]
    · exfalso
      by_cases zz : k < tw
      · have := h k tw k0 zz htw.2
        rw [k2] at this; omega
      · have := h tw k htw.1 (by omega) k1
        rw [k2] at this; omega
  have eb : ∀ x, bestS κ p U (n + 1) x ↔ (x = U n ∨ (bestS κ p U n x ∧ ¬ x = q tw)) := fun x => by
    rw [bestStep hn hk]
    constructor
    · rintro (a | a)
      · refine Or.inr ⟨a.1, fun z => ?_⟩
        have := a.2 (by rw [z]; exact hp)
        rw [z] at this
        omega
      · exact Or.inl a.1
    · rintro (a | a)
      · refine Or.inr ⟨a, fun z z1 z2 => ?_⟩
        rw [un z z1 z2]; exact hl
      · exact Or.inl ⟨a.1, fun z => absurd (un x a.1 z) a.2⟩
  refine ⟨fun x => ?_, fun x => ?_⟩
  · have := hi x
    rw [show m - 1 + 1 = m by omega] at this
    rw [this, hr, hb, eb]
  · rw [eb, inU_succ hn]
    constructor
    · rintro ⟨a | a, b⟩
      · by_cases z : x = q tw
        · exact Or.inr z
        · exact Or.inl ⟨a, fun y => b (Or.inr ⟨y, z⟩)⟩
      · exact absurd (Or.inl a) b
    · rintro (⟨a, b⟩ | a)
      · refine ⟨Or.inl a, ?_⟩
        rintro (z | z)
        · exact hk x a (by rw [z])
        · exact b z.1
      · refine ⟨Or.inl (by rw [a]; exact bt.1), ?_⟩
        rintro (z | z)
        · exact hk (q tw) bt.1 (by rw [← a, z])
        · exact z.2 a
/-! ===== merge, the class: ticket by ticket ===== -/
def PutD (s o p t : Int) (d d' : mD) : Prop := (∀ b, ¬ b = s + 8 → ¬ b = s + 9 → d' b = d b) ∧ (∀ j, ¬ j = o → d' (s + 8) j = d (s + 8) j) ∧ d' (s + 8) o = d (s + 8) o + 1 ∧ d' (s + 9) (o * 16 + p) = t ∧ (∀ k, p < k → k ≤ d (s + 8) o → d' (s + 9) (o * 16 + k) = d (s + 9) (o * 16 + k - 1)) ∧ ∀ j, ¬ (o * 16 + p ≤ j ∧ j ≤ o * 16 + d (s + 8) o) → d' (s + 9) j = d (s + 9) j
theorem lp40 {x0 o p t : Int} : ∀ (n : Nat) (x : Int) (d : mD), p ≤ x → x - p ≤ (n : Int) → (∀ b, ¬ b = x0 + 6 → ¬ b = x0 + 7 → lp_40_40 x0 o p t n (o * 16) x d b = d b) ∧ (∀ j, ¬ j = o → lp_40_40 x0 o p t n (o * 16) x d (x0 + 6) j = d (x0 + 6) j) ∧ lp_40_40 x0 o p t n (o * 16) x d (x0 + 6) o = d (x0 + 6) o + 1 ∧ lp_40_40 x0 o p t n (o * 16) x d (x0 + 7) (o * 16 + p) = t ∧ (∀ k, p < k → k ≤ x → lp_40_40 x0 o p t n (o * 16) x d (x0 + 7) (o * 16 + k) = d (x0 + 7) (o * 16 + k - 1)) ∧ ∀ j, ¬ (o * 16 + p ≤ j ∧ j ≤ o * 16 + x) → lp_40_40 x0 o p t n (o * 16) x d (x0 + 7) j = d (x0 + 7) j := by
  have base : ∀ (r : Int → Int → mD → mD) (x : Int) (d : mD), p ≤ x → ¬ p < x → st_40_40 x0 o p t r (o * 16) x d = mset (mset d (x0 + 7) (o * 16 + p) t) (x0 + 6) o (d (x0 + 6) o + 1) := fun r x d a b => by
    unfold st_40_40
    rw [if_neg b]
  have fin : ∀ (x : Int) (d d' : mD), p ≤ x → ¬ p < x → d' = mset (mset d (x0 + 7) (o * 16 + p) t) (x0 + 6) o (d (x0 + 6) o + 1) → (∀ b, ¬ b = x0 + 6 → ¬ b = x0 + 7 → d' b = d b) ∧ (∀ j, ¬ j = o → d' (x0 + 6) j = d (x0 + 6) j) ∧ d' (x0 + 6) o = d (x0 + 6) o + 1 ∧ d' (x0 + 7) (o * 16 + p) = t ∧ (∀ k, p < k → k ≤ x → d' (x0 + 7) (o * 16 + k) = d (x0 + 7) (o * 16 + k - 1)) ∧ ∀ j, ¬ (o * 16 + p ≤ j ∧ j ≤ o * 16 + x) → d' (x0 + 7) j = d (x0 + 7) j := fun x d d' a b e => by
    rw [e]
    refine ⟨fun c x y => by funext j; rw [ms_a x, ms_a y], fun j x => by rw [ms_i x, ms_a (by omega)], ms_e rfl rfl, by rw [ms_a (by omega), ms_e rfl rfl], fun k x y => by omega, fun j x => by rw [ms_a (by omega), ms_i (by omega)]⟩
  intro n
  induction n with
  | zero => intro x d a b; exact fin x d _ a (by omega) (base _ x d a (by omega))
  | succ n ih =>
    intro x d a b
    by_cases hc : p < x
    · have e : lp_40_40 x0 o p t (n + 1) (o * 16) x d = lp_40_40 x0 o p t n (o * 16) (x + -1) (mset d (x0 + 7) (o * 16 + x) (d (x0 + 7) (o * 16 + x - 1))) := by
        show st_40_40 x0 o p t _ (o * 16) x d = _
        unfold st_40_40
        rw [if_pos hc]
      rw [e]
      obtain ⟨i1, i2, i3, i4, i5, i6⟩ := ih (x + -1) (mset d (x0 + 7) (o * 16 + x) (d (x0 + 7) (o * 16 + x - 1))) (by omega) (by omega)
      have e6 : ∀ j, mset d (x0 + 7) (o * 16 + x) (d (x0 + 7) (o * 16 + x - 1)) (x0 + 6) j = d (x0 + 6) j := fun j => ms_a (by omega)
      refine ⟨fun c y z => by rw [i1 c y z]; funext j; exact ms_a z, fun j y => by rw [i2 j y, e6], by rw [i3, e6], i4, fun k y z => ?_, fun j y => by rw [i6 j (by omega), ms_i (by omega)]⟩
      by_cases q : k = x
      · rw [q, i6 _ (by omega), ms_e rfl rfl]
      · rw [i5 k y (by omega), ms_i (by omega)]
    · exact fin x d _ a hc (base _ x d a hc)
theorem put40 {s o p t : Int} {d : mD} (hp : 0 ≤ p ∧ p ≤ d (s + 8) o) (hl : d (s + 8) o < 16) : PutD s o p t d (g_40 (s + 2) o p t d) := by
  unfold g_40
  have e8 : s + 2 + 6 = s + 8 := by omega
  have e9 : s + 2 + 7 = s + 9 := by omega
  rw [if_neg (by omega), e8, if_neg (by omega), if_pos hl]
  obtain ⟨i1, i2, i3, i4, i5, i6⟩ := lp40 (x0 := s + 2) (o := o) (p := p) (t := t) (d (s + 8) o).toNat (d (s + 8) o) d hp.2 (by omega)
  rw [e8] at i1 i2 i3
  rw [e9] at i1 i4 i5 i6
  exact ⟨i1, i2, i3, i4, i5, i6⟩
theorem per62 {s o c m : Int} {d : mD} (hm : d (s + 8) o = m) : ∀ (n : Nat) (x : Int), 0 ≤ x → m ≤ x + n → (lp_62_2 s o c n x d = -1 ∧ ∀ k, x ≤ k → k < m → ¬ d (s + 50) (d (s + 9) (o * 16 + k)) = c) ∨ (x ≤ lp_62_2 s o c n x d ∧ lp_62_2 s o c n x d < m ∧ d (s + 50) (d (s + 9) (o * 16 + lp_62_2 s o c n x d)) = c) := by
  have st : ∀ (r : Int → mD → Int) (x : Int), st_62_2 s o c r x d = if x < m then (if d (s + 50) (d (s + 9) (o * 16 + x)) = c then x else r (x + 1) d) else -1 := fun r x => by
    unfold st_62_2 v_38
    rw [show s + 2 + 6 = s + 8 by omega, show s + 2 + 7 = s + 9 by omega, show s + 49 + 1 = s + 50 by omega, hm]
  intro n
  induction n with
  | zero =>
    intro x a b
    have e : lp_62_2 s o c 0 x d = -1 := by
      show st_62_2 s o c _ x d = _
      rw [st, if_neg (by omega)]
    exact Or.inl ⟨e, fun k x y => by omega⟩
  | succ n ih =>
    intro x a b
    have e : lp_62_2 s o c (n + 1) x d = if x < m then (if d (s + 50) (d (s + 9) (o * 16 + x)) = c then x else lp_62_2 s o c n (x + 1) d) else -1 := by
      show st_62_2 s o c _ x d = _
      rw [st]
    by_cases q : x < m
    · rw [if_pos q] at e
      by_cases z : d (s + 50) (d (s + 9) (o * 16 + x)) = c
      · rw [if_pos z] at e
        exact Or.inr ⟨by omega, by omega, by rw [e]; exact z⟩
      · rw [if_neg z] at e
        rw [e]
        rcases ih (x + 1) (by omega) (by omega) with ⟨i1, i2⟩ | ⟨i1, i2, i3⟩
        · refine Or.inl ⟨i1, fun k y1 y2 => ?_⟩
          by_cases y3 : k = x
          · rw [y3]; exact z
          · exact i2 k (by omega) y2
        · exact Or.inr ⟨by omega, i2, i3⟩
    · rw [if_neg q] at e
      exact Or.inl ⟨e, fun k x y => by omega⟩
theorem pl65 {s o c m : Int} {d : mD} (hm : d (s + 8) o = m) : ∀ (n : Nat) (x : Int), 0 ≤ x → x ≤ m → m ≤ x + n → x ≤ lp_65_2 s o c n x d ∧ lp_65_2 s o c n x d ≤ m ∧ (∀ k, x ≤ k → k < lp_65_2 s o c n x d → ¬ c < d (s + 52) (d (s + 9) (o * 16 + k))) ∧ (lp_65_2 s o c n x d < m → c < d (s + 52) (d (s + 9) (o * 16 + lp_65_2 s o c n x d))) := by
  have st : ∀ (r : Int → mD → Int) (x : Int), st_65_2 s o c r x d = if x < m then (if c < d (s + 52) (d (s + 9) (o * 16 + x)) then x else r (x + 1) d) else x := fun r x => by
    unfold st_65_2 v_38
    rw [show s + 2 + 6 = s + 8 by omega, show s + 2 + 7 = s + 9 by omega, show s + 49 + 3 = s + 52 by omega, hm]
  intro n
  induction n with
  | zero =>
    intro x a a2 b
    have e : lp_65_2 s o c 0 x d = x := by
      show st_65_2 s o c _ x d = _
      rw [st, if_neg (by omega)]
    rw [e]
    exact ⟨by omega, a2, fun k x y => by omega, fun z => by omega⟩
  | succ n ih =>
    intro x a a2 b
    have e : lp_65_2 s o c (n + 1) x d = if x < m then (if c < d (s + 52) (d (s + 9) (o * 16 + x)) then x else lp_65_2 s o c n (x + 1) d) else x := by
      show st_65_2 s o c _ x d = _
      rw [st]
    by_cases q : x < m
    · rw [if_pos q] at e
      by_cases z : c < d (s + 52) (d (s + 9) (o * 16 + x))
      · rw [if_pos z] at e
        rw [e]
        exact ⟨by omega, a2, fun k x y => by omega, fun _ => z⟩
      · rw [if_neg z] at e
        rw [e]
        obtain ⟨i1, i2, i3, i4⟩ := ih (x + 1) (by omega) (by omega) (by omega)
        refine ⟨by omega, i2, fun k y1 y2 => ?_, i4⟩
        by_cases y3 : k = x
        · rw [y3]; exact z
        · exact i3 k (by omega) y2
    · rw [if_neg q] at e
      rw [e]
      exact ⟨by omega, a2, fun k x y => by omega, fun z => by omega⟩
theorem pig16 {f : Int → Int} {m : Int} (hr : ∀ k, 0 ≤ k → k < m → 0 ≤ f k ∧ f k < 16) (hi : ∀ k i, 0 ≤ i → i < k → k < m → ¬ f i = f k) : m ≤ 16 := by
  by_cases z : m ≤ 0
  · omega
  · have e : (((m - 1).toNat : Nat) : Int) = m - 1 := by omega
    have := pigeon (f := f) (L := (m - 1).toNat) (N := 16) (fun k a b => hr k a (by omega)) (fun k i a b c => hi k i a b (by omega)) (p := f (m - 1)) (hr (m - 1) (by omega) (by omega)).1 (hr (m - 1) (by omega) (by omega)).2 (fun k a b => hi (m - 1) k a (by omega) (by omega))
    omega
def MC (κ U p : Int → Int) (s o2 T : Int) (d0 : mD) (n m : Int) (d : mD) : Prop :=
  (∀ b, ¬ b = s + 8 → ¬ b = s + 9 → ¬ b = s + 51 → ¬ b = s + 53 → ¬ b = s + 54 → d b = d0 b)
  ∧ (∀ o, ¬ o = o2 → d (s + 8) o = d0 (s + 8) o) ∧ d (s + 8) o2 = m
  ∧ (∀ i, ¬ (o2 * 16 ≤ i ∧ i < o2 * 16 + 16) → d (s + 9) i = d0 (s + 9) i)
  ∧ 0 ≤ m ∧ incS κ (fun k => d (s + 9) (o2 * 16 + k)) m ∧ (∀ t, memS (fun k => d (s + 9) (o2 * 16 + k)) m t ↔ bestS κ p U n t)
  ∧ (∀ t, (inU U n t → d (s + 51) t = o2) ∧ (¬ inU U n t → d (s + 51) t = d0 (s + 51) t))
  ∧ ∀ t, ((inU U n t ∧ ¬ bestS κ p U n t) → d (s + 53) t = T ∧ d (s + 54) t = 2) ∧ (¬ (inU U n t ∧ ¬ bestS κ p U n t) → d (s + 53) t = d0 (s + 53) t ∧ d (s + 54) t = d0 (s + 54) t)
theorem bestS.one {κ p U : Int → Int} {q : Int → Int} {n m i k : Int} (h : incS κ q m) (hb : ∀ x, memS q m x ↔ bestS κ p U n x) (a : 0 ≤ i) (b : i < k) (c : k < m) : ¬ p (q i) = p (q k) := fun z => by
  have bi := (hb (q i)).1 ⟨i, a, by omega, rfl⟩
  have bk := (hb (q k)).1 ⟨k, by omega, c, rfl⟩
  have := bk.2 _ bi.1 z
  have := h i k a b c
  omega
theorem stepM {κ U p j : Int → Int} {s o2 T n m : Int} {d0 d : mD} (hn : 0 ≤ n) (hk : ∀ x, inU U n x → ¬ κ x = κ (U n) ∧ (κ x < κ (U n) ↔ j x ≤ j (U n))) (hp : ∀ x, inU U (n + 1) x → d0 (s + 50) x = p x ∧ d0 (s + 52) x = j x ∧ 0 ≤ p x ∧ p x < 16) (hT : d0 s 2 = T) (h : MC κ U p s o2 T d0 n m d) : ∃ m', MC κ U p s o2 T d0 (n + 1) m' (g_64 s o2 (U n) d) := by
  obtain ⟨c1, c2, c3, c4, c5, c6, c7, c8, c9⟩ := h
  have hu : ∀ x, inU U n x → inU U (n + 1) x := fun x a => (inU_succ hn).2 (Or.inl a)
  have ht : inU U (n + 1) (U n) := (inU_succ hn).2 (Or.inr rfl)
  have hk1 : ∀ x, inU U n x → ¬ κ x = κ (U n) := fun x a => (hk x a).1
  have f50 : d (s + 50) = d0 (s + 50) := c1 _ (by omega) (by omega) (by omega) (by omega) (by omega)
  have f52 : d (s + 52) = d0 (s + 52) := c1 _ (by omega) (by omega) (by omega) (by omega) (by omega)
  have fs : d s 2 = T := by rw [c1 s (by omega) (by omega) (by omega) (by omega) (by omega)]; exact hT
  have mq : ∀ k, 0 ≤ k → k < m → inU U n (d (s + 9) (o2 * 16 + k)) := fun k a b => ((c7 _).1 ⟨k, a, b, rfl⟩).1
  have pr := hp (U n) ht
  have m16 : m ≤ 16 := pig16 (f := fun k => p (d (s + 9) (o2 * 16 + k))) (fun k a b => (hp _ (hu _ (mq k a b))).2.2) (fun k i a b c => bestS.one (q := fun k => d (s + 9) (o2 * 16 + k)) c6 c7 a b c)
  have eP : d (s + 49 + 1) (U n) = p (U n) := by rw [show s + 49 + 1 = s + 50 by omega, f50]; exact pr.1
  have eJ : d (s + 49 + 3) (U n) = j (U n) := by rw [show s + 49 + 3 = s + 52 by omega, f52]; exact pr.2.1
  have h62 := per62 (c := p (U n)) c3 (16 - 0 : Int).toNat 0 (by omega) (by omega)
  have h65 := pl65 (c := j (U n)) c3 (16 - 0 : Int).toNat 0 (by omega) (by omega) (by omega)
  have e62 : v_62 s o2 (p (U n)) d = lp_62_2 s o2 (p (U n)) (16 - 0 : Int).toNat 0 d := rfl
  have e65 : v_65 s o2 (j (U n)) d = lp_65_2 s o2 (j (U n)) (16 - 0 : Int).toNat 0 d := rfl
  rw [← e62] at h62
  rw [← e65] at h65
  have hg : g_64 s o2 (U n) d = if v_62 s o2 (p (U n)) d = (-1) then g_40 (s + 2) o2 (v_65 s o2 (j (U n)) d) (U n) (mset d (s + 51) (U n) o2) else if v_62 s o2 (p (U n)) d < v_65 s o2 (j (U n)) d then mset (mset (mset d (s + 51) (U n) o2) (s + 54) (U n) 2) (s + 53) (U n) T else g_40 (s + 2) o2 (v_65 s o2 (j (U n)) d) (U n) (g_41 (s + 2) o2 (v_62 s o2 (p (U n)) d) (mset (mset (mset d (s + 51) (U n) o2) (s + 54) (d (s + 9) (o2 * 16 + v_62 s o2 (p (U n)) d)) 2) (s + 53) (d (s + 9) (o2 * 16 + v_62 s o2 (p (U n)) d)) T)) := by
    unfold g_64 g_97
    rw [eP, eJ, fs, show s + 49 + 2 = s + 51 by omega, show s + 49 + 5 = s + 54 by omega, show s + 49 + 4 = s + 53 by omega]
    have e38 : v_38 (s + 2) o2 (v_62 s o2 (p (U n)) d) (mset d (s + 51) (U n) o2) = d (s + 9) (o2 * 16 + v_62 s o2 (p (U n)) d) := by
      unfold v_38
      rw [show s + 2 + 7 = s + 9 by omega, ms_a (by omega)]
    rw [e38]
  rw [hg]
  generalize v_62 s o2 (p (U n)) d = tw at *
  generalize v_65 s o2 (j (U n)) d = pos at *
  obtain ⟨p1, p2, p3, p4⟩ := h65
  have lo : ∀ k, 0 ≤ k → k < pos → κ (d (s + 9) (o2 * 16 + k)) < κ (U n) := fun k a b => by
    have y := p3 k a b
    have z := mq k a (by omega)
    rw [f52, (hp _ (hu _ z)).2.1] at y
    exact ((hk _ z).2).2 (by omega)
  have hi : ∀ k, pos ≤ k → k < m → κ (U n) < κ (d (s + 9) (o2 * 16 + k)) := fun k a b => by
    have y := p4 (by omega)
    have z := mq pos p1 (by omega)
    rw [f52, (hp _ (hu _ z)).2.1] at y
    have y1 := (hk _ z).1
    have y2 : ¬ κ (d (s + 9) (o2 * 16 + pos)) < κ (U n) := fun u => by
      have := ((hk _ z).2).1 u
      omega
    by_cases q : pos = k
    · rw [← q]; omega
    · have := c6 pos k p1 (by omega) b
      have this : κ (d (s + 9) (o2 * 16 + pos)) < κ (d (s + 9) (o2 * 16 + k)) := this
      omega
  have c8' : ∀ (d' : mD), (∀ x, d' (s + 51) x = mset d (s + 51) (U n) o2 (s + 51) x) → ∀ t, (inU U (n + 1) t → d' (s + 51) t = o2) ∧ (¬ inU U (n + 1) t → d' (s + 51) t = d0 (s + 51) t) := fun d' e t => by
    rw [e]
    by_cases z : t = U n
    · rw [z, ms_e rfl rfl]
      exact ⟨fun _ => rfl, fun y => absurd ht y⟩
    · rw [ms_i z, inU_succ hn]
      exact ⟨fun y => (c8 t).1 (y.elim id (fun u => absurd u z)), fun y => (c8 t).2 (fun u => y (Or.inl u))⟩
  by_cases z1 : tw = -1
  · rw [if_pos z1]
    have no : ∀ k, 0 ≤ k → k < m → ¬ p (d (s + 9) (o2 * 16 + k)) = p (U n) := fun k a b => by
      rcases h62 with ⟨-, y⟩ | ⟨y, -⟩
      · have := y k a b
        rw [f50, (hp _ (hu _ (mq k a b))).1] at this
        exact this
      · omega
    have m15 : m < 16 := by
      have e : ((m.toNat : Nat) : Int) = m := by omega
      have := pigeon (f := fun k => p (d (s + 9) (o2 * 16 + k))) (L := m.toNat) (N := 16) (fun k a b => (hp _ (hu _ (mq k a (by omega)))).2.2) (fun k i a b c => bestS.one (q := fun k => d (s + 9) (o2 * 16 + k)) c6 c7 a b (by omega)) (p := p (U n)) pr.2.2.1 pr.2.2.2 (fun k a b => no k a (by omega))
      omega
    have e8 : mset d (s + 51) (U n) o2 (s + 8) o2 = m := by rw [ms_a (by omega)]; exact c3
    obtain ⟨i1, i2, i3, i4, i5, i6⟩ := put40 (s := s) (o := o2) (p := pos) (t := U n) (d := mset d (s + 51) (U n) o2) (by rw [e8]; exact ⟨p1, p2⟩) (by rw [e8]; exact m15)
    generalize g_40 (s + 2) o2 pos (U n) (mset d (s + 51) (U n) o2) = d' at *
    rw [e8] at i3 i5 i6
    have hi' := c6.ins (q' := fun k => d' (s + 9) (o2 * 16 + k)) (t := U n) ⟨p1, p2⟩ (fun k a b => by show d' (s + 9) _ = _; rw [i6 _ (by omega), ms_a (by omega)]) i4 (fun k a b => by show d' (s + 9) _ = _; rw [i5 k a b, ms_a (by omega), show o2 * 16 + k - 1 = o2 * 16 + (k - 1) by omega]) lo hi
    obtain ⟨s1, s2⟩ := stNone hn hk1 c6 c7 hi' no
    refine ⟨m + 1, fun b x1 x2 x3 x4 x5 => ?_, fun o x => ?_, i3, fun i x => ?_, by omega, hi'.1, s1, c8' d' (fun x => by rw [i1 _ (by omega) (by omega)]), fun t => ?_⟩
    · rw [i1 b x1 x2, ← c1 b x1 x2 x3 x4 x5]
      funext k
      exact ms_a x3
    · rw [i2 o x, ms_a (by omega)]; exact c2 o x
    · rw [i6 i (by omega), ms_a (by omega)]; exact c4 i x
    · rw [s2 t, i1 _ (by omega) (by omega), i1 _ (by omega) (by omega), ms_a (by omega), ms_a (by omega)]
      exact c9 t
  · rw [if_neg z1]
    obtain ⟨t1, t2, t3⟩ : 0 ≤ tw ∧ tw < m ∧ d (s + 50) (d (s + 9) (o2 * 16 + tw)) = p (U n) := by
      rcases h62 with ⟨y, -⟩ | ⟨y1, y2, y3⟩
      · exact absurd y z1
      · exact ⟨y1, y2, y3⟩
    rw [f50, (hp _ (hu _ (mq tw t1 t2))).1] at t3
    by_cases z2 : tw < pos
    · rw [if_pos z2]
      obtain ⟨s1, s2⟩ := stKeep hn hk1 c6 c7 ⟨t1, t2⟩ t3 (lo tw t1 z2)
      have e9 : ∀ b, ¬ b = s + 51 → ¬ b = s + 53 → ¬ b = s + 54 → mset (mset (mset d (s + 51) (U n) o2) (s + 54) (U n) 2) (s + 53) (U n) T b = d b := fun b x y z => by
        funext k
        simp (disch := omega) only [ms_a]
      refine ⟨m, fun b x1 x2 x3 x4 x5 => ?_, fun o x => ?_, ?_, fun i x => ?_, c5, ?_, fun t => ?_, c8' _ (fun x => ?_), fun t => ?_⟩
      · rw [e9 b x3 x4 x5]; exact c1 b x1 x2 x3 x4 x5
      · rw [e9 _ (by omega) (by omega) (by omega)]; exact c2 o x
      · rw [e9 _ (by omega) (by omega) (by omega)]; exact c3
      · rw [e9 _ (by omega) (by omega) (by omega)]; exact c4 i x
      · rw [e9 _ (by omega) (by omega) (by omega)]; exact c6
      · rw [e9 _ (by omega) (by omega) (by omega)]; exact s1 t
      · rw [ms_a (by omega), ms_a (by omega)]
      · rw [s2 t]
        by_cases y : t = U n
        · rw [y, ms_e rfl rfl, ms_a (by omega), ms_e rfl rfl]
          exact ⟨fun _ => ⟨rfl, rfl⟩, fun u => absurd (Or.inr rfl) u⟩
        · rw [ms_i y, ms_a (by omega), ms_a (by omega), ms_a (by omega), ms_i y, ms_a (by omega)]
          exact ⟨fun u => (c9 t).1 (u.elim id (fun v => absurd v y)), fun u => (c9 t).2 (fun v => u (Or.inl v))⟩
    · rw [if_neg z2]
      generalize hX : d (s + 9) (o2 * 16 + tw) = X at *
      generalize hd1 : mset (mset (mset d (s + 51) (U n) o2) (s + 54) X 2) (s + 53) X T = d1
      have e9 : ∀ b, ¬ b = s + 51 → ¬ b = s + 53 → ¬ b = s + 54 → d1 b = d b := fun b x y z => by
        rw [← hd1]
        funext k
        simp (disch := omega) only [ms_a]
      have y8 : d1 (s + 8) o2 = m := by rw [e9 _ (by omega) (by omega) (by omega)]; exact c3
      obtain ⟨r1, r2, r3, r4, r5⟩ := take41 (s := s) (o := o2) (p := tw) (d := d1) t1 (by rw [y8]; exact t2) (by rw [y8]; exact m16)
      generalize g_41 (s + 2) o2 tw d1 = d2 at *
      rw [y8] at r3 r4 r5
      rw [e9 (s + 9) (by omega) (by omega) (by omega)] at r4 r5
      rw [e9 (s + 8) (by omega) (by omega) (by omega)] at r2
      obtain ⟨i1, i2, i3, i4, i5, i6⟩ := put40 (s := s) (o := o2) (p := pos) (t := U n) (d := d2) (by rw [r3]; omega) (by rw [r3]; omega)
      generalize g_40 (s + 2) o2 pos (U n) d2 = d' at *
      rw [r3] at i3 i5 i6
      have hr := c6.rem (q' := fun k => d2 (s + 9) (o2 * 16 + k)) ⟨t1, t2⟩ (fun k a b => r5 _ (by omega)) (fun k a b => by show d2 (s + 9) _ = _; rw [r4 k a b, show o2 * 16 + k + 1 = o2 * 16 + (k + 1) by omega])
      have hi' := hr.1.ins (q' := fun k => d' (s + 9) (o2 * 16 + k)) (t := U n) (pos := pos) ⟨p1, by omega⟩ (fun k a b => i6 _ (by omega)) i4 (fun k a b => by show d' (s + 9) _ = _; rw [i5 k a b, show o2 * 16 + k - 1 = o2 * 16 + (k - 1) by omega]) (fun k a b => by
        show κ (d2 (s + 9) (o2 * 16 + k)) < _
        rw [r5 _ (by omega)]
        exact lo k a b) (fun k a b => by
        show _ < κ (d2 (s + 9) (o2 * 16 + k))
        by_cases y : k < tw
        · rw [r5 _ (by omega)]
          exact hi k a (by omega)
        · rw [r4 k (by omega) (by omega), show o2 * 16 + k + 1 = o2 * 16 + (k + 1) by omega]
          exact hi (k + 1) (by omega) (by omega))
      have hl : κ (U n) < κ X := by
        rw [← hX]
        exact hi tw (by omega) t2
      have hr2 := hr.2
      obtain ⟨s1, s2⟩ := stSwap (q := fun k => d (s + 9) (o2 * 16 + k)) (tw := tw) (q1 := fun k => d2 (s + 9) (o2 * 16 + k)) (q' := fun k => d' (s + 9) (o2 * 16 + k)) hn hk1 c6 c7 ⟨t1, t2⟩ (by rw [hX]; exact t3) (by rw [hX]; exact hl) hr2 hi'.2
      rw [hX] at s2
      refine ⟨m, fun b x1 x2 x3 x4 x5 => ?_, fun o x => ?_, by rw [i3]; omega, fun i x => ?_, c5, ?_, s1, c8' d' (fun x => ?_), fun t => ?_⟩
      · rw [i1 b x1 x2, r1 b x1 x2, e9 b x3 x4 x5]; exact c1 b x1 x2 x3 x4 x5
      · rw [i2 o x, r2 o x]; exact c2 o x
      · rw [i6 i (by omega), r5 i (by omega)]; exact c4 i x
      · have := hi'.1
        rw [show m - 1 + 1 = m by omega] at this
        exact this
      · rw [i1 _ (by omega) (by omega), r1 _ (by omega) (by omega), ← hd1, ms_a (by omega), ms_a (by omega)]
      · rw [s2 t, i1 _ (by omega) (by omega), i1 _ (by omega) (by omega), r1 _ (by omega) (by omega), r1 _ (by omega) (by omega), ← hd1]
        by_cases y : t = X
        · rw [y, ms_e rfl rfl, ms_a (by omega), ms_e rfl rfl]
          exact ⟨fun _ => ⟨rfl, rfl⟩, fun u => absurd (Or.inr rfl) u⟩
        · rw [ms_i y, ms_a (by omega), ms_a (by omega), ms_a (by omega), ms_i y, ms_a (by omega)]
          exact ⟨fun u => (c9 t).1 (u.elim id (fun v => absurd v y)), fun u => (c9 t).2 (fun v => u (Or.inl v))⟩
/-! ===== merge: the class's loop, the reference's two loops ===== -/
theorem loopC {κ U p j : Int → Int} {s o1 o2 T a b : Int} {d0 : mD} (ha : 0 ≤ a) (hb : 0 ≤ b ∧ b ≤ 16) (hne : ¬ o1 = o2) (h8 : d0 (s + 8) o1 = b) (hU : ∀ x, 0 ≤ x → x < b → d0 (s + 9) (o1 * 16 + x) = U (a + x)) (hk : ∀ n, a ≤ n → n < a + b → ∀ x, inU U n x → ¬ κ x = κ (U n) ∧ (κ x < κ (U n) ↔ j x ≤ j (U n))) (hp : ∀ x, inU U (a + b) x → d0 (s + 50) x = p x ∧ d0 (s + 52) x = j x ∧ 0 ≤ p x ∧ p x < 16) (hT : d0 s 2 = T) : ∀ (N : Nat) (x m : Int) (d : mD), 0 ≤ x → x ≤ b → b ≤ x + N → MC κ U p s o2 T d0 (a + x) m d → ∃ m' d1, MC κ U p s o2 T d0 (a + b) m' d1 ∧ lp_63_2 s o1 o2 N x d = mset (mset d1 (s + 8) o1 0) (s + 7) o1 0 := by
  have e : ∀ (r : Int → mD → mD) (x m : Int) (d : mD), MC κ U p s o2 T d0 (a + x) m d → st_63_2 s o1 o2 r x d = if x < b then r (x + 1) (g_64 s o2 (d (s + 9) (o1 * 16 + x)) d) else mset (mset d (s + 8) o1 0) (s + 7) o1 0 := fun r x m d h => by
    unfold st_63_2 v_38
    rw [show s + 2 + 6 = s + 8 by omega, show s + 2 + 7 = s + 9 by omega, show s + 2 + 5 = s + 7 by omega, h.2.1 o1 hne, h8]
  intro N
  induction N with
  | zero =>
    intro x m d x0 x1 x2 h
    have q := e (fun _ d => d) x m d h
    rw [if_neg (by omega)] at q
    refine ⟨m, d, ?_, q⟩
    rw [show a + b = a + x by omega]
    exact h
  | succ N ih =>
    intro x m d x0 x1 x2 h
    have q := e (lp_63_2 s o1 o2 N) x m d h
    by_cases z : x < b
    · rw [if_pos z, h.2.2.2.1 _ (by omega), hU x x0 z] at q
      obtain ⟨m', h'⟩ := stepM (j := j) (by omega) (hk (a + x) (by omega) (by omega)) (fun y ⟨i, i0, i1, i2⟩ => hp y ⟨i, i0, by omega, i2⟩) hT h
      rw [show a + x + 1 = a + (x + 1) by omega] at h'
      obtain ⟨m2, d2, g1, g2⟩ := ih (x + 1) m' _ (by omega) (by omega) (by omega) h'
      exact ⟨m2, d2, g1, q.trans g2⟩
    · rw [if_neg z] at q
      refine ⟨m, d, ?_, q⟩
      rw [show a + b = a + x by omega]
      exact h
theorem ins229 {x1 o2 x3 x5 t : Int} {r : Int → Int → Int → Row → Row} (ho : 0 ≤ o2 ∧ o2 ≤ 5) (ht : 0 ≤ t ∧ t < 60) : ∀ (N : Nat) (x : Int) (w : Row), 0 ≤ x → x ≤ 60 → x ≤ N → (∀ k, 0 ≤ k → k < x → 0 ≤ w (12 + 68 * o2 + 7 + k)) → ∃ pos w', 0 ≤ pos ∧ pos ≤ x ∧ LP_229_61 x1 o2 r N x3 (12 + 68 * o2) x5 t x w = r x3 (12 + 68 * o2) (x5 + 1) w' ∧ (∀ k, pos ≤ k → k < x → w (452 + 24 * t + 2) < w (452 + 24 * w (12 + 68 * o2 + 7 + k) + 2)) ∧ (0 < pos → ¬ w (452 + 24 * t + 2) < w (452 + 24 * w (12 + 68 * o2 + 7 + (pos - 1)) + 2)) ∧ w' (12 + 68 * o2 + 7 + pos) = t ∧ (∀ k, pos < k → k ≤ x → w' (12 + 68 * o2 + 7 + k) = w (12 + 68 * o2 + 7 + (k - 1))) ∧ w' (12 + 68 * o2 + 5) = w (12 + 68 * o2 + 5) + 1 ∧ w' (452 + 24 * t + 1) = o2 ∧ ∀ i, ¬ i = 12 + 68 * o2 + 5 → ¬ i = 452 + 24 * t + 1 → ¬ (12 + 68 * o2 + 7 + pos ≤ i ∧ i ≤ 12 + 68 * o2 + 7 + x) → w' i = w i := by
  have stop : ∀ (x : Int) (w : Row) (L : Row), 0 ≤ x → x ≤ 60 → (0 < x → ¬ w (452 + 24 * t + 2) < w (452 + 24 * w (12 + 68 * o2 + 7 + (x - 1)) + 2)) → L = r x3 (12 + 68 * o2) (x5 + 1) (ws (ws (ws w (12 + 68 * o2 + 7 + x) t) (12 + 68 * o2 + 5) (w (12 + 68 * o2 + 5) + 1)) (452 + 24 * t + 1) o2) → ∃ pos w', 0 ≤ pos ∧ pos ≤ x ∧ L = r x3 (12 + 68 * o2) (x5 + 1) w' ∧ (∀ k, pos ≤ k → k < x → w (452 + 24 * t + 2) < w (452 + 24 * w (12 + 68 * o2 + 7 + k) + 2)) ∧ (0 < pos → ¬ w (452 + 24 * t + 2) < w (452 + 24 * w (12 + 68 * o2 + 7 + (pos - 1)) + 2)) ∧ w' (12 + 68 * o2 + 7 + pos) = t ∧ (∀ k, pos < k → k ≤ x → w' (12 + 68 * o2 + 7 + k) = w (12 + 68 * o2 + 7 + (k - 1))) ∧ w' (12 + 68 * o2 + 5) = w (12 + 68 * o2 + 5) + 1 ∧ w' (452 + 24 * t + 1) = o2 ∧ ∀ i, ¬ i = 12 + 68 * o2 + 5 → ¬ i = 452 + 24 * t + 1 → ¬ (12 + 68 * o2 + 7 + pos ≤ i ∧ i ≤ 12 + 68 * o2 + 7 + x) → w' i = w i := fun x w L a b c e => by
    refine ⟨x, _, a, by omega, e, fun k y z => by omega, c, ?_, fun k y z => by omega, ?_, wse rfl, fun i y z u => ?_⟩
    · rw [wsn (by omega), wsn (by omega), wse rfl]
    · rw [wsn (by omega), wse rfl]
    · rw [wsn z, wsn y, wsn (by omega)]
  intro N
  induction N with
  | zero =>
    intro x w a b c hq
    refine stop x w _ a b (fun z => by omega) ?_
    show ST_229_61 x1 o2 r _ x3 (12 + 68 * o2) x5 t x w = _
    unfold ST_229_61
    rw [if_neg (by omega)]
  | succ N ih =>
    intro x w a b c hq
    by_cases q : 0 < x
    · by_cases z : w (452 + 24 * t + 2) < w (452 + 24 * w (12 + 68 * o2 + 7 + (x - 1)) + 2)
      · have e : LP_229_61 x1 o2 r (N + 1) x3 (12 + 68 * o2) x5 t x w = LP_229_61 x1 o2 r N x3 (12 + 68 * o2) x5 t (x + -1) (ws w (12 + 68 * o2 + 7 + x) (w (12 + 68 * o2 + 7 + (x - 1)))) := by
          show ST_229_61 x1 o2 r _ x3 (12 + 68 * o2) x5 t x w = _
          unfold ST_229_61
          rw [if_pos q, show 12 + 68 * o2 + 7 + x - 1 = 12 + 68 * o2 + 7 + (x - 1) by omega, if_pos z]
        have y1 : ∀ i, ¬ i = 12 + 68 * o2 + 7 + x → ws w (12 + 68 * o2 + 7 + x) (w (12 + 68 * o2 + 7 + (x - 1))) i = w i := fun i y => wsn y
        have y2 : ws w (12 + 68 * o2 + 7 + x) (w (12 + 68 * o2 + 7 + (x - 1))) (12 + 68 * o2 + 7 + x) = w (12 + 68 * o2 + 7 + (x - 1)) := wse rfl
        rw [e]
        generalize ws w (12 + 68 * o2 + 7 + x) (w (12 + 68 * o2 + 7 + (x - 1))) = w1 at *
        obtain ⟨pos, w', i1, i2, i3, i4, i5, i6, i7, i8, i9, i10⟩ := ih (x + -1) w1 (by omega) (by omega) (by omega) (fun k u v => by rw [y1 _ (by omega)]; exact hq k u (by omega))
        refine ⟨pos, w', i1, by omega, i3, fun k u v => ?_, fun u => ?_, i6, fun k u v => ?_, by rw [i8, y1 _ (by omega)], i9, fun i u v y => by rw [i10 i u v (by omega), y1 i (by omega)]⟩
        · by_cases k1 : k = x - 1
          · rw [k1]; exact z
          · have k2 := i4 k u (by omega)
            have k3 := hq k (by omega) (by omega)
            rw [y1 (12 + 68 * o2 + 7 + k) (by omega), y1 _ (by omega), y1 _ (by omega)] at k2
            exact k2
        · have k2 := i5 u
          have k3 := hq (pos - 1) (by omega) (by omega)
          rw [y1 (12 + 68 * o2 + 7 + (pos - 1)) (by omega), y1 _ (by omega), y1 _ (by omega)] at k2
          exact k2
        · by_cases k1 : k = x
          · rw [k1, i10 _ (by omega) (by omega) (by omega), y2]
          · rw [i7 k u (by omega), y1 _ (by omega)]
      · refine stop x w _ a b (fun _ => z) ?_
        show ST_229_61 x1 o2 r _ x3 (12 + 68 * o2) x5 t x w = _
        unfold ST_229_61
        rw [if_pos q, show 12 + 68 * o2 + 7 + x - 1 = 12 + 68 * o2 + 7 + (x - 1) by omega, if_neg z]
    · refine stop x w _ a b (fun z => by omega) ?_
      show ST_229_61 x1 o2 r _ x3 (12 + 68 * o2) x5 t x w = _
      unfold ST_229_61
      rw [if_neg q]
def MR (κ U : Int → Int) (o2 : Int) (w0 : Row) (n : Int) (w : Row) : Prop :=
  w (12 + 68 * o2 + 5) = n ∧ incS κ (fun k => w (12 + 68 * o2 + 7 + k)) n ∧ (∀ t, memS (fun k => w (12 + 68 * o2 + 7 + k)) n t ↔ inU U n t)
  ∧ (∀ i, ¬ i = 12 + 68 * o2 + 5 → ¬ (12 + 68 * o2 + 7 ≤ i ∧ i < 12 + 68 * o2 + 68) → ¬ (452 ≤ i ∧ i < 1892 ∧ (i - 452) % 24 = 1) → w i = w0 i)
  ∧ ∀ t, 0 ≤ t → t < 60 → (inU U n t → w (452 + 24 * t + 1) = o2) ∧ (¬ inU U n t → w (452 + 24 * t + 1) = w0 (452 + 24 * t + 1))
theorem stepR {κ U : Int → Int} {o1 o2 x3 x5 n : Int} {w0 w : Row} {r : Int → Int → Int → Row → Row} (ho : 0 ≤ o2 ∧ o2 ≤ 5) (hn : 0 ≤ n ∧ n ≤ 40) (hk : ∀ x, inU U n x → ¬ κ x = κ (U n) ∧ (κ x < κ (U n) ↔ w0 (452 + 24 * x + 2) ≤ w0 (452 + 24 * U n + 2))) (hU : ∀ x, inU U (n + 1) x → 0 ≤ x ∧ x < 60) (h : MR κ U o2 w0 n w) : ∃ w', MR κ U o2 w0 (n + 1) w' ∧ LP_229_61 o1 o2 r (n : Int).toNat x3 (12 + 68 * o2) x5 (U n) n w = r x3 (12 + 68 * o2) (x5 + 1) w' := by
  obtain ⟨c1, c2, c3, c4, c5⟩ := h
  have ht : inU U (n + 1) (U n) := (inU_succ hn.1).2 (Or.inr rfl)
  have hu : ∀ x, inU U n x → inU U (n + 1) x := fun x a => (inU_succ hn.1).2 (Or.inl a)
  have mq : ∀ k, 0 ≤ k → k < n → inU U n (w (12 + 68 * o2 + 7 + k)) := fun k a b => (c3 _).1 ⟨k, a, b, rfl⟩
  have rt := hU _ ht
  obtain ⟨pos, w', i1, i2, i3, i4, i5, i6, i7, i8, i9, i10⟩ := ins229 (x1 := o1) (x3 := x3) (x5 := x5) (r := r) ho rt n.toNat n w hn.1 (by omega) (by omega) (fun k a b => (hU _ (hu _ (mq k a b))).1)
  have ej : ∀ X, 0 ≤ X ∧ X < 60 → w (452 + 24 * X + 2) = w0 (452 + 24 * X + 2) := fun X a => c4 _ (by omega) (by omega) (by omega)
  have hi : ∀ k, pos ≤ k → k < n → κ (U n) < κ (w (12 + 68 * o2 + 7 + k)) := fun k a b => by
    have y := i4 k a b
    have z := mq k (by omega) b
    rw [ej _ rt, ej _ (hU _ (hu _ z))] at y
    have u := hk _ z
    have v : ¬ κ (w (12 + 68 * o2 + 7 + k)) < κ (U n) := fun q => by
      have := u.2.1 q
      omega
    have := u.1
    omega
  have lo : ∀ k, 0 ≤ k → k < pos → κ (w (12 + 68 * o2 + 7 + k)) < κ (U n) := fun k a b => by
    have y := i5 (by omega)
    have z := mq (pos - 1) (by omega) (by omega)
    rw [ej _ rt, ej _ (hU _ (hu _ z))] at y
    have u := (hk _ z).2.2 (by omega)
    by_cases q : k = pos - 1
    · rw [q]; exact u
    · have := c2 k (pos - 1) a (by omega) (by omega)
      have this : κ (w (12 + 68 * o2 + 7 + k)) < κ (w (12 + 68 * o2 + 7 + (pos - 1))) := this
      omega
  have hi' := c2.ins (q' := fun k => w' (12 + 68 * o2 + 7 + k)) (t := U n) ⟨i1, i2⟩ (fun k a b => i10 _ (by omega) (by omega) (by omega)) i6 i7 lo hi
  refine ⟨w', ⟨by rw [i8, c1], hi'.1, fun t => ?_, fun i a b c => ?_, fun t a b => ?_⟩, i3⟩
  · rw [hi'.2, c3, inU_succ hn.1]
    exact ⟨fun z => z.elim Or.inr Or.inl, fun z => z.elim Or.inr Or.inl⟩
  · rw [i10 i a (by omega) (by omega)]
    exact c4 i a b c
  · by_cases z : t = U n
    · rw [z]
      exact ⟨fun _ => i9, fun y => absurd ht y⟩
    · rw [inU_succ hn.1, i10 _ (by omega) (by omega) (by omega)]
      exact ⟨fun y => (c5 t a b).1 (y.elim id (fun u => absurd u z)), fun y => (c5 t a b).2 (fun u => y (Or.inl u))⟩
theorem loopR {κ U : Int → Int} {o1 o2 a b : Int} {w0 : Row} (ho1 : 0 ≤ o1 ∧ o1 ≤ 5) (ho2 : 0 ≤ o2 ∧ o2 ≤ 5) (hne : ¬ o1 = o2) (ha : 0 ≤ a ∧ a ≤ 16) (hb : 0 ≤ b ∧ b ≤ 16) (h5 : w0 (12 + 68 * o1 + 5) = b) (hq : ∀ x, 0 ≤ x → x < b → w0 (12 + 68 * o1 + 7 + x) = U (a + x)) (hk : ∀ n, a ≤ n → n < a + b → ∀ x, inU U n x → ¬ κ x = κ (U n) ∧ (κ x < κ (U n) ↔ w0 (452 + 24 * x + 2) ≤ w0 (452 + 24 * U n + 2))) (hU : ∀ x, inU U (a + b) x → 0 ≤ x ∧ x < 60) : ∀ (N : Nat) (x : Int) (w : Row), 0 ≤ x → x ≤ b → b ≤ x + N → MR κ U o2 w0 (a + x) w → ∃ w1, MR κ U o2 w0 (a + b) w1 ∧ LP_229_23 o1 o2 N (12 + 68 * o1) (12 + 68 * o2) x w = LP_229_199 o1 o2 (a + b : Int).toNat (12 + 68 * o1) (12 + 68 * o2) 0 (ws w1 (12 + 68 * o1 + 5) 0) := by
  have fin : ∀ (r : Int → Int → Int → Row → Row) (x : Int) (w : Row), x = b → MR κ U o2 w0 (a + x) w → ST_229_23 o1 o2 r (12 + 68 * o1) (12 + 68 * o2) x w = LP_229_199 o1 o2 (a + b : Int).toNat (12 + 68 * o1) (12 + 68 * o2) 0 (ws w (12 + 68 * o1 + 5) 0) := fun r x w e h => by
    unfold ST_229_23
    rw [h.2.2.2.1 (12 + 68 * o1 + 5) (by omega) (by omega) (by omega), h5, if_neg (by omega), wsn (by omega), h.1, show a + x - 0 = a + b by omega]
  intro N
  induction N with
  | zero =>
    intro x w x0 x1 x2 h
    have e : x = b := by omega
    have y : LP_229_23 o1 o2 0 (12 + 68 * o1) (12 + 68 * o2) x w = _ := fin _ x w e h
    rw [e] at h
    exact ⟨w, h, y⟩
  | succ N ih =>
    intro x w x0 x1 x2 h
    by_cases z : x < b
    · have t : w (12 + 68 * o1 + 7 + x) = U (a + x) := by
        rw [h.2.2.2.1 (12 + 68 * o1 + 7 + x) (by omega) (by omega) (by omega)]
        exact hq x x0 z
      obtain ⟨w', g1, g2⟩ := stepR (o1 := o1) (x3 := 12 + 68 * o1) (x5 := x) (r := LP_229_23 o1 o2 N) ho2 (by omega) (hk (a + x) (by omega) (by omega)) (fun y ⟨i, i0, i1, i2⟩ => hU y ⟨i, i0, by omega, i2⟩) h
      have y : LP_229_23 o1 o2 (N + 1) (12 + 68 * o1) (12 + 68 * o2) x w = LP_229_23 o1 o2 N (12 + 68 * o1) (12 + 68 * o2) (x + 1) w' := by
        show ST_229_23 o1 o2 _ (12 + 68 * o1) (12 + 68 * o2) x w = _
        unfold ST_229_23
        rw [h.2.2.2.1 (12 + 68 * o1 + 5) (by omega) (by omega) (by omega), h5, if_pos z, t, h.1]
        exact g2
      rw [show a + x + 1 = a + (x + 1) by omega] at g1
      rw [y]
      exact ih (x + 1) w' (by omega) (by omega) (by omega) g1
    · have e : x = b := by omega
      have y : LP_229_23 o1 o2 (N + 1) (12 + 68 * o1) (12 + 68 * o2) x w = _ := fin _ x w e h
      rw [e] at h
      exact ⟨w, h, y⟩
-- the second loop: who stands behind a ticket of the same person goes
theorem lp237 {x1 x2 x3 x4 x5 x6 : Int} {r : Int → Int → Int → Row → Row} {w : Row} : ∀ (N : Nat) (x7 x8 : Int), (x7 = 0 ∨ x7 = 1) → x5 ≤ x8 + N → (LP_229_237 x1 x2 r N x3 x4 x5 x6 x7 x8 w = r x3 x4 (x5 + 1) w ∧ x7 = 0 ∧ ∀ k, x8 ≤ k → k < x5 → ¬ w (452 + 24 * w (x4 + 7 + k) + 0) = w (x6 + 0)) ∨ (LP_229_237 x1 x2 r N x3 x4 x5 x6 x7 x8 w = r x3 x4 x5 (W_220 x2 x5 (ws (ws w (x6 + 4) 2) (x6 + 3) (w 0))) ∧ (x7 = 1 ∨ ∃ k, x8 ≤ k ∧ k < x5 ∧ w (452 + 24 * w (x4 + 7 + k) + 0) = w (x6 + 0))) := by
  have fin : ∀ (r' : Int → Int → Int → Int → Int → Int → Row → Row) (x7 x8 : Int) (L : Row), (x7 = 0 ∨ x7 = 1) → ¬ x8 < x5 → L = ST_229_237 x1 x2 r r' x3 x4 x5 x6 x7 x8 w → (L = r x3 x4 (x5 + 1) w ∧ x7 = 0 ∧ ∀ k, x8 ≤ k → k < x5 → ¬ w (452 + 24 * w (x4 + 7 + k) + 0) = w (x6 + 0)) ∨ (L = r x3 x4 x5 (W_220 x2 x5 (ws (ws w (x6 + 4) 2) (x6 + 3) (w 0))) ∧ (x7 = 1 ∨ ∃ k, x8 ≤ k ∧ k < x5 ∧ w (452 + 24 * w (x4 + 7 + k) + 0) = w (x6 + 0))) := fun r' x7 x8 L h c e => by
    unfold ST_229_237 at e
    rw [if_neg c] at e
    rcases h with h | h
    · rw [if_pos h] at e
      exact Or.inl ⟨e, h, fun k a b => by omega⟩
    · rw [if_neg (by omega)] at e
      exact Or.inr ⟨e, Or.inl h⟩
  intro N
  induction N with
  | zero => intro x7 x8 h c; exact fin _ x7 x8 _ h (by omega) rfl
  | succ N ih =>
    intro x7 x8 h c
    by_cases z : x8 < x5
    · by_cases y : w (452 + 24 * w (x4 + 7 + x8) + 0) = w (x6 + 0)
      · have e : LP_229_237 x1 x2 r (N + 1) x3 x4 x5 x6 x7 x8 w = LP_229_237 x1 x2 r N x3 x4 x5 x6 1 (x8 + 1) w := by
          show ST_229_237 x1 x2 r _ x3 x4 x5 x6 x7 x8 w = _
          unfold ST_229_237
          rw [if_pos z, if_pos y]
          rcases h with h | h
          · rw [h, show mior 0 1 = 1 by decide]
          · rw [h, show mior 1 1 = 1 by decide]
        rw [e]
        rcases ih 1 (x8 + 1) (Or.inr rfl) (by omega) with ⟨-, i2, -⟩ | ⟨i1, -⟩
        · exact absurd i2 (by decide)
        · exact Or.inr ⟨i1, Or.inr ⟨x8, by omega, z, y⟩⟩
      · have e : LP_229_237 x1 x2 r (N + 1) x3 x4 x5 x6 x7 x8 w = LP_229_237 x1 x2 r N x3 x4 x5 x6 x7 (x8 + 1) w := by
          show ST_229_237 x1 x2 r _ x3 x4 x5 x6 x7 x8 w = _
          unfold ST_229_237
          rw [if_pos z, if_neg y]
          rcases h with h | h
          · rw [h, show mior 0 0 = 0 by decide]
          · rw [h, show mior 1 0 = 1 by decide]
        rw [e]
        rcases ih x7 (x8 + 1) h (by omega) with ⟨i1, i2, i3⟩ | ⟨i1, i2⟩
        · refine Or.inl ⟨i1, i2, fun k a b => ?_⟩
          by_cases q : k = x8
          · rw [q]; exact y
          · exact i3 k (by omega) b
        · refine Or.inr ⟨i1, i2.elim Or.inl (fun ⟨k, a, b, c⟩ => Or.inr ⟨k, by omega, b, c⟩)⟩
    · exact fin _ x7 x8 _ h z rfl
def MrgQ (κ U p : Int → Int) (o2 : Int) (w1 : Row) (n x m : Int) (w : Row) : Prop :=
  w (12 + 68 * o2 + 5) = m ∧ 0 ≤ x ∧ x ≤ m ∧ m ≤ 40 ∧ incS κ (fun k => w (12 + 68 * o2 + 7 + k)) m ∧ (∀ t, memS (fun k => w (12 + 68 * o2 + 7 + k)) m t → inU U n t) ∧ (∀ t, bestS κ p U n t → memS (fun k => w (12 + 68 * o2 + 7 + k)) m t) ∧ (∀ k, 0 ≤ k → k < x → bestS κ p U n (w (12 + 68 * o2 + 7 + k)))
  ∧ (∀ i, ¬ i = 12 + 68 * o2 + 5 → ¬ (12 + 68 * o2 + 7 ≤ i ∧ i < 12 + 68 * o2 + 68) → ¬ (452 ≤ i ∧ i < 1892 ∧ ((i - 452) % 24 = 3 ∨ (i - 452) % 24 = 4)) → w i = w1 i)
  ∧ ∀ t, 0 ≤ t → t < 60 → ((inU U n t ∧ ¬ memS (fun k => w (12 + 68 * o2 + 7 + k)) m t) → w (452 + 24 * t + 3) = w1 0 ∧ w (452 + 24 * t + 4) = 2) ∧ (¬ (inU U n t ∧ ¬ memS (fun k => w (12 + 68 * o2 + 7 + k)) m t) → w (452 + 24 * t + 3) = w1 (452 + 24 * t + 3) ∧ w (452 + 24 * t + 4) = w1 (452 + 24 * t + 4))
theorem stepQ {κ U p : Int → Int} {o1 o2 x3 n x m : Int} {w1 w : Row} {r : Int → Int → Int → Row → Row} (ho : 0 ≤ o2 ∧ o2 ≤ 5) (hU : ∀ t, inU U n t → (0 ≤ t ∧ t < 60) ∧ w1 (452 + 24 * t + 0) = p t) (h : MrgQ κ U p o2 w1 n x m w) (hx : x < m) : ∃ x' m' w', MrgQ κ U p o2 w1 n x' m' w' ∧ m' - x' = m - x - 1 ∧ LP_229_237 o1 o2 r (x - 0 : Int).toNat x3 (12 + 68 * o2) x (452 + 24 * w (12 + 68 * o2 + 7 + x)) 0 0 w = r x3 (12 + 68 * o2) x' w' := by
  obtain ⟨c1, c2, c3, c4, c5, c6, c7, c8, c9, c10⟩ := h
  have mq : ∀ k, 0 ≤ k → k < m → inU U n (w (12 + 68 * o2 + 7 + k)) := fun k a b => c6 _ ⟨k, a, b, rfl⟩
  have ep : ∀ t, inU U n t → w (452 + 24 * t + 0) = p t := fun t a => by
    have := (hU t a).1
    rw [c9 _ (by omega) (by omega) (by omega)]
    exact (hU t a).2
  rcases lp237 (x1 := o1) (x2 := o2) (x3 := x3) (x4 := 12 + 68 * o2) (x5 := x) (x6 := 452 + 24 * w (12 + 68 * o2 + 7 + x)) (r := r) (w := w) (x - 0 : Int).toNat 0 0 (Or.inl rfl) (by omega) with ⟨i1, -, i3⟩ | ⟨i1, i2⟩
  · refine ⟨x + 1, m, w, ⟨c1, by omega, by omega, c4, c5, c6, c7, fun k a b => ?_, c9, c10⟩, by omega, i1⟩
    by_cases q : k < x
    · exact c8 k a q
    · have e : k = x := by omega
      rw [e]
      refine ⟨mq x c2 hx, fun y y1 y2 => ?_⟩
      obtain ⟨z, z1, z2, z3⟩ := bestS.ex (κ := κ) (p := p) y1
      obtain ⟨l, l0, l1, l2⟩ := c7 z z1
      have l2 : w (12 + 68 * o2 + 7 + l) = z := l2
      by_cases ll : l < x
      · have := i3 l l0 ll
        rw [ep _ (mq l l0 l1), ep _ (mq x c2 hx), l2] at this
        exact absurd (z2.trans y2) this
      · by_cases lx : l = x
        · rw [lx] at l2
          rw [l2]; exact z3
        · have := c5 x l c2 (by omega) l1
          have this : κ (w (12 + 68 * o2 + 7 + x)) < κ (w (12 + 68 * o2 + 7 + l)) := this
          rw [l2] at this
          omega
  · obtain ⟨k0, k1, k2, k3⟩ : ∃ k, 0 ≤ k ∧ k < x ∧ w (452 + 24 * w (12 + 68 * o2 + 7 + k) + 0) = w (452 + 24 * w (12 + 68 * o2 + 7 + x) + 0) := i2.elim (fun z => absurd z (by decide)) id
    rw [ep _ (mq k0 k1 (by omega)), ep _ (mq x c2 hx)] at k3
    have rt := (hU _ (mq x c2 hx)).1
    have nb : ¬ bestS κ p U n (w (12 + 68 * o2 + 7 + x)) := fun z => by
      have y1 := z.2 _ (mq k0 k1 (by omega)) k3
      have y2 := c5 k0 x k1 k2 hx
      have y2 : κ (w (12 + 68 * o2 + 7 + k0)) < κ (w (12 + 68 * o2 + 7 + x)) := y2
      omega
    generalize hX : w (12 + 68 * o2 + 7 + x) = X at *
    generalize hu : ws (ws w (452 + 24 * X + 4) 2) (452 + 24 * X + 3) (w 0) = u at *
    have eu : ∀ i, ¬ i = 452 + 24 * X + 4 → ¬ i = 452 + 24 * X + 3 → u i = w i := fun i a b => by
      rw [← hu, wsn b, wsn a]
    have e5 : u (12 + 68 * o2 + 5) = m := by rw [eu _ (by omega) (by omega)]; exact c1
    obtain ⟨t1, t2, t3⟩ := take220 (o := o2) (p := x) (w := u) c2 (by rw [e5]; omega) (by omega)
    generalize W_220 o2 x u = w' at *
    rw [e5] at t1 t2 t3
    have hr := c5.rem (q' := fun k => w' (12 + 68 * o2 + 7 + k)) ⟨c2, hx⟩ (fun k a b => by show w' _ = _; rw [t3 _ (by omega) (by omega), eu _ (by omega) (by omega)]) (fun k a b => by show w' _ = _; rw [t2 k a b, eu _ (by omega) (by omega), show 12 + 68 * o2 + 7 + k + 1 = 12 + 68 * o2 + 7 + (k + 1) by omega])
    have hr2 : ∀ y, memS (fun k => w' (12 + 68 * o2 + 7 + k)) (m - 1) y ↔ memS (fun k => w (12 + 68 * o2 + 7 + k)) m y ∧ ¬ y = X := by
      intro y
      have := hr.2 y
      rw [this, ← hX]
    have w0 : w 0 = w1 0 := c9 0 (by omega) (by omega) (by omega)
    refine ⟨x, m - 1, w', ⟨t1, c2, by omega, by omega, hr.1, fun t a => c6 t ((hr2 t).1 a).1, fun t a => (hr2 t).2 ⟨c7 t a, fun z => nb (by rw [← z]; exact a)⟩, fun k a b => ?_, fun i a b c => ?_, fun t a b => ?_⟩, by omega, i1⟩
    · rw [t3 _ (by omega) (by omega), eu _ (by omega) (by omega)]
      exact c8 k a b
    · rw [t3 i a (by omega), eu i (by omega) (by omega)]
      exact c9 i a b c
    · rw [hr2, t3 _ (by omega) (by omega), t3 _ (by omega) (by omega)]
      by_cases z : t = X
      · rw [z, ← hu, wse rfl, wsn (by omega), wse rfl]
        refine ⟨fun _ => ⟨w0, rfl⟩, fun y => absurd ⟨?_, fun v => v.2 rfl⟩ y⟩
        have := mq x c2 hx
        rw [hX] at this
        exact this
      · rw [eu _ (by omega) (by omega), eu _ (by omega) (by omega)]
        exact ⟨fun y => (c10 t a b).1 ⟨y.1, fun v => y.2 ⟨v, z⟩⟩, fun y => (c10 t a b).2 (fun v => y ⟨v.1, fun u => v.2 u.1⟩)⟩
theorem loopQ {κ U p : Int → Int} {o1 o2 x3 n : Int} {w1 : Row} (ho : 0 ≤ o2 ∧ o2 ≤ 5) (hU : ∀ t, inU U n t → (0 ≤ t ∧ t < 60) ∧ w1 (452 + 24 * t + 0) = p t) : ∀ (N : Nat) (x m : Int) (w : Row), MrgQ κ U p o2 w1 n x m w → m ≤ x + N → ∃ m', MrgQ κ U p o2 w1 n m' m' (LP_229_199 o1 o2 N x3 (12 + 68 * o2) x w) := by
  have fin : ∀ (r : Int → Int → Int → Row → Row) (x m : Int) (w : Row), MrgQ κ U p o2 w1 n x m w → ¬ x < m → MrgQ κ U p o2 w1 n m m (ST_229_199 o1 o2 r x3 (12 + 68 * o2) x w) := fun r x m w h c => by
    unfold ST_229_199
    rw [h.1, if_neg c]
    have e : x = m := by
      have := h.2.2.1
      omega
    rw [e] at h
    exact h
  intro N
  induction N with
  | zero => intro x m w h c; exact ⟨m, fin _ x m w h (by omega)⟩
  | succ N ih =>
    intro x m w h c
    by_cases z : x < m
    · obtain ⟨x', m', w', g1, g2, g3⟩ := stepQ (o1 := o1) (x3 := x3) (r := LP_229_199 o1 o2 N) ho hU h z
      have e : LP_229_199 o1 o2 (N + 1) x3 (12 + 68 * o2) x w = LP_229_199 o1 o2 N x3 (12 + 68 * o2) x' w' := by
        show ST_229_199 o1 o2 _ x3 (12 + 68 * o2) x w = _
        unfold ST_229_199
        rw [h.1, if_pos z]
        exact g3
      rw [e]
      exact ih x' m' w' g1 (by omega)
    · exact ⟨m, fin _ x m w h z⟩
/-! ===== merge: class and reference agree ===== -/
theorem exRank {U : Int → Int} : ∀ (N : Nat), (∀ i k, 0 ≤ i → i < k → k < (N : Int) → ¬ U i = U k) → ∃ r : Int → Int, ∀ i, 0 ≤ i → i < (N : Int) → r (U i) = i := by
  intro N
  induction N with
  | zero => intro h; exact ⟨fun _ => 0, fun i a b => by omega⟩
  | succ N ih =>
    intro h
    obtain ⟨r, hr⟩ := ih (fun i k a b c => h i k a b (by omega))
    refine ⟨fun t => if t = U N then N else r t, fun i a b => ?_⟩
    show (if U i = U N then (N : Int) else r (U i)) = i
    by_cases q : i = N
    · rw [q, if_pos rfl]
    · rw [if_neg (h i N a (by omega) (by omega))]
      exact hr i a (by omega)
def mgU (o1 o2 : Int) (w : Row) (i : Int) : Int := if i < w (12 + 68 * o2 + 5) then w (12 + 68 * o2 + 7 + i) else w (12 + 68 * o1 + 7 + (i - w (12 + 68 * o2 + 5)))
theorem mgU_lo {o1 o2 i : Int} {w : Row} (h : i < w (12 + 68 * o2 + 5)) : mgU o1 o2 w i = w (12 + 68 * o2 + 7 + i) := by
  unfold mgU
  rw [if_pos h]
theorem mgU_hi {o1 o2 i : Int} {w : Row} (h : 0 ≤ i) : mgU o1 o2 w (w (12 + 68 * o2 + 5) + i) = w (12 + 68 * o1 + 7 + i) := by
  unfold mgU
  rw [if_neg (by omega), show w (12 + 68 * o2 + 5) + i - w (12 + 68 * o2 + 5) = i by omega]
theorem mgU_f {o1 o2 : Int} {w : Row} (hg : GG w) (h1 : 0 ≤ o1 ∧ o1 < w 7) (h2 : 0 ≤ o2 ∧ o2 < w 7) {i : Int} (a : 0 ≤ i) (b : i < w (12 + 68 * o2 + 5) + w (12 + 68 * o1 + 5)) : (0 ≤ mgU o1 o2 w i ∧ mgU o1 o2 w i < w 9) ∧ w (452 + 24 * mgU o1 o2 w i + 4) = 0 ∧ ((i < w (12 + 68 * o2 + 5) ∧ w (452 + 24 * mgU o1 o2 w i + 1) = o2) ∨ (¬ i < w (12 + 68 * o2 + 5) ∧ w (452 + 24 * mgU o1 o2 w i + 1) = o1)) := by
  by_cases q : i < w (12 + 68 * o2 + 5)
  · rw [mgU_lo q]
    have g := hg.2.2.1 o2 h2.1 h2.2 i a q
    exact ⟨g.1, g.2.2.1, Or.inl ⟨q, g.2.1⟩⟩
  · have e := mgU_hi (o1 := o1) (o2 := o2) (i := i - w (12 + 68 * o2 + 5)) (w := w) (by omega)
    rw [show w (12 + 68 * o2 + 5) + (i - w (12 + 68 * o2 + 5)) = i by omega] at e
    rw [e]
    have g := hg.2.2.1 o1 h1.1 h1.2 (i - w (12 + 68 * o2 + 5)) (by omega) (by omega)
    exact ⟨g.1, g.2.2.1, Or.inr ⟨q, g.2.1⟩⟩
theorem mgU_inj {o1 o2 : Int} {w : Row} (hg : GG w) (h1 : 0 ≤ o1 ∧ o1 < w 7) (h2 : 0 ≤ o2 ∧ o2 < w 7) (hne : ¬ o1 = o2) {i k : Int} (a : 0 ≤ i) (b : i < k) (c : k < w (12 + 68 * o2 + 5) + w (12 + 68 * o1 + 5)) : ¬ mgU o1 o2 w i = mgU o1 o2 w k := fun z => by
  obtain ⟨-, -, f1⟩ := mgU_f hg h1 h2 a (by omega : i < _)
  obtain ⟨-, -, f2⟩ := mgU_f hg h1 h2 (by omega : 0 ≤ k) c
  rw [← z] at f2
  by_cases q : k < w (12 + 68 * o2 + 5)
  · rw [mgU_lo q, mgU_lo (by omega)] at z
    have g := (hg.2.2.1 o2 h2.1 h2.2 k (by omega) q).2.2.2 i a b
    exact g.2 (by rw [z])
  · by_cases q2 : i < w (12 + 68 * o2 + 5)
    · omega
    · have e1 := mgU_hi (o1 := o1) (o2 := o2) (i := i - w (12 + 68 * o2 + 5)) (w := w) (by omega)
      have e2 := mgU_hi (o1 := o1) (o2 := o2) (i := k - w (12 + 68 * o2 + 5)) (w := w) (by omega)
      rw [show w (12 + 68 * o2 + 5) + (i - w (12 + 68 * o2 + 5)) = i by omega] at e1
      rw [show w (12 + 68 * o2 + 5) + (k - w (12 + 68 * o2 + 5)) = k by omega] at e2
      rw [e1, e2] at z
      have g := (hg.2.2.1 o1 h1.1 h1.2 (k - w (12 + 68 * o2 + 5)) (by omega) (by omega)).2.2.2 (i - w (12 + 68 * o2 + 5)) (by omega) (by omega)
      exact g.2 (by rw [z])
-- what comes out
def MrgW (κ : Int → Int) (o1 o2 m : Int) (w w' : Row) : Prop :=
  (∀ i, ¬ i = 12 + 68 * o1 + 4 → ¬ i = 12 + 68 * o1 + 5 → ¬ i = 12 + 68 * o2 + 5 → ¬ (12 + 68 * o2 + 7 ≤ i ∧ i < 12 + 68 * o2 + 68) → ¬ (452 ≤ i ∧ i < 1892 ∧ ((i - 452) % 24 = 1 ∨ (i - 452) % 24 = 3 ∨ (i - 452) % 24 = 4)) → w' i = w i)
  ∧ w' (12 + 68 * o1 + 4) = 0 ∧ w' (12 + 68 * o1 + 5) = 0 ∧ w' (12 + 68 * o2 + 5) = m ∧ 0 ≤ m
  ∧ incS κ (fun k => w' (12 + 68 * o2 + 7 + k)) m ∧ (∀ t, memS (fun k => w' (12 + 68 * o2 + 7 + k)) m t ↔ bestS κ (fun t => w (452 + 24 * t + 0)) (mgU o1 o2 w) (w (12 + 68 * o2 + 5) + w (12 + 68 * o1 + 5)) t)
  ∧ (∀ t, 0 ≤ t → t < 60 → (inU (mgU o1 o2 w) (w (12 + 68 * o2 + 5) + w (12 + 68 * o1 + 5)) t → w' (452 + 24 * t + 1) = o2) ∧ (¬ inU (mgU o1 o2 w) (w (12 + 68 * o2 + 5) + w (12 + 68 * o1 + 5)) t → w' (452 + 24 * t + 1) = w (452 + 24 * t + 1)))
  ∧ ∀ t, 0 ≤ t → t < 60 → ((inU (mgU o1 o2 w) (w (12 + 68 * o2 + 5) + w (12 + 68 * o1 + 5)) t ∧ ¬ bestS κ (fun t => w (452 + 24 * t + 0)) (mgU o1 o2 w) (w (12 + 68 * o2 + 5) + w (12 + 68 * o1 + 5)) t) → w' (452 + 24 * t + 3) = w 0 ∧ w' (452 + 24 * t + 4) = 2) ∧ (¬ (inU (mgU o1 o2 w) (w (12 + 68 * o2 + 5) + w (12 + 68 * o1 + 5)) t ∧ ¬ bestS κ (fun t => w (452 + 24 * t + 0)) (mgU o1 o2 w) (w (12 + 68 * o2 + 5) + w (12 + 68 * o1 + 5)) t) → w' (452 + 24 * t + 3) = w (452 + 24 * t + 3) ∧ w' (452 + 24 * t + 4) = w (452 + 24 * t + 4))
def KapM (κ : Int → Int) (o1 o2 : Int) (w : Row) : Prop := ∀ n i, 0 ≤ i → i < n → n < w (12 + 68 * o2 + 5) + w (12 + 68 * o1 + 5) → ¬ κ (mgU o1 o2 w i) = κ (mgU o1 o2 w n) ∧ (κ (mgU o1 o2 w i) < κ (mgU o1 o2 w n) ↔ w (452 + 24 * mgU o1 o2 w i + 2) ≤ w (452 + 24 * mgU o1 o2 w n + 2))
theorem exKap {o1 o2 : Int} {w : Row} (hg : GG w) (h1 : 0 ≤ o1 ∧ o1 < w 7) (h2 : 0 ≤ o2 ∧ o2 < w 7) (hne : ¬ o1 = o2) : ∃ κ, KapM κ o1 o2 w := by
  have n7 := hg.1.1
  have a1 := (hg.2.1 o1 h1.1 h1.2).2.2.2.2.1
  have a2 := (hg.2.1 o2 h2.1 h2.2).2.2.2.2.1
  obtain ⟨r, hr⟩ := exRank (U := mgU o1 o2 w) (w (12 + 68 * o2 + 5) + w (12 + 68 * o1 + 5)).toNat (fun i k a b c => mgU_inj hg h1 h2 hne a b (by omega))
  refine ⟨fun t => w (452 + 24 * t + 2) * 64 + r t, fun n i a b c => ?_⟩
  have e1 := hr i a (by omega)
  have e2 := hr n (by omega) (by omega)
  show ¬ w (452 + 24 * mgU o1 o2 w i + 2) * 64 + r (mgU o1 o2 w i) = w (452 + 24 * mgU o1 o2 w n + 2) * 64 + r (mgU o1 o2 w n) ∧ (w (452 + 24 * mgU o1 o2 w i + 2) * 64 + r (mgU o1 o2 w i) < w (452 + 24 * mgU o1 o2 w n + 2) * 64 + r (mgU o1 o2 w n) ↔ w (452 + 24 * mgU o1 o2 w i + 2) ≤ w (452 + 24 * mgU o1 o2 w n + 2))
  rw [e1, e2]
  omega
theorem startQ {κ : Int → Int} {o1 o2 : Int} {w : Row} (hg : GG w) (h1 : 0 ≤ o1 ∧ o1 < w 7) (h2 : 0 ≤ o2 ∧ o2 < w 7) (hκ : KapM κ o1 o2 w) : incS κ (fun k => w (12 + 68 * o2 + 7 + k)) (w (12 + 68 * o2 + 5)) ∧ (∀ t, memS (fun k => w (12 + 68 * o2 + 7 + k)) (w (12 + 68 * o2 + 5)) t ↔ inU (mgU o1 o2 w) (w (12 + 68 * o2 + 5)) t) ∧ ∀ t, inU (mgU o1 o2 w) (w (12 + 68 * o2 + 5)) t → bestS κ (fun t => w (452 + 24 * t + 0)) (mgU o1 o2 w) (w (12 + 68 * o2 + 5)) t := by
  have a1 := (hg.2.1 o1 h1.1 h1.2).2.2.2.2.1
  have gq := hg.2.2.1 o2 h2.1 h2.2
  refine ⟨fun i k a b c => ?_, fun t => ⟨?_, ?_⟩, ?_⟩
  · have y := (hκ k i a b (by omega)).2
    rw [mgU_lo c, mgU_lo (by omega)] at y
    exact y.2 ((gq k (by omega) c).2.2.2 i a b).1
  · rintro ⟨k, a, b, c⟩
    exact ⟨k, a, b, by rw [mgU_lo b]; exact c⟩
  · rintro ⟨k, a, b, c⟩
    rw [mgU_lo b] at c
    exact ⟨k, a, b, c⟩
  · rintro t ⟨k, a, b, c⟩
    refine ⟨⟨k, a, b, c⟩, ?_⟩
    rintro x ⟨i, i0, i1, i2⟩ e
    rw [mgU_lo b] at c
    rw [mgU_lo i1] at i2
    have e : w (452 + 24 * x + 0) = w (452 + 24 * t + 0) := e
    rw [← c, ← i2] at e
    by_cases q : i < k
    · exact absurd e ((gq k a b).2.2.2 i i0 q).2
    · by_cases q2 : k < i
      · exact absurd e.symm ((gq i i0 i1).2.2.2 k a q2).2
      · have z : i = k := by omega
        rw [← c, ← i2, z]
        omega
theorem mergeW {κ : Int → Int} {o1 o2 : Int} {w : Row} (hg : GG w) (h1 : 0 ≤ o1 ∧ o1 < w 7) (h2 : 0 ≤ o2 ∧ o2 < w 7) (hne : ¬ o1 = o2) (hκ : KapM κ o1 o2 w) : ∃ m, MrgW κ o1 o2 m w (W_229 o1 o2 w) := by
  have n7 := hg.1.1
  have n9 := hg.1.2.2.1
  have a1 := (hg.2.1 o1 h1.1 h1.2).2.2.2.2.1
  have a2 := (hg.2.1 o2 h2.1 h2.2).2.2.2.2.1
  obtain ⟨s1, s2, s3⟩ := startQ hg h1 h2 hκ
  have hf : ∀ t, inU (mgU o1 o2 w) (w (12 + 68 * o2 + 5) + w (12 + 68 * o1 + 5)) t → 0 ≤ t ∧ t < 60 := by
    rintro t ⟨i, i0, i1, i2⟩
    have := (mgU_f hg h1 h2 i0 i1).1
    rw [i2] at this
    omega
  have hoff : ∀ t, inU (mgU o1 o2 w) (w (12 + 68 * o2 + 5)) t → w (452 + 24 * t + 1) = o2 := by
    rintro t ⟨i, i0, i1, i2⟩
    have := (mgU_f hg h1 h2 i0 (by omega)).2.2
    rw [i2] at this
    omega
  generalize hz : ws w (12 + 68 * o1 + 4) 0 = wz
  have ez : ∀ i, ¬ i = 12 + 68 * o1 + 4 → wz i = w i := fun i a => by rw [← hz]; exact wsn a
  have ez4 : wz (12 + 68 * o1 + 4) = 0 := by rw [← hz]; exact wse rfl
  have st : MR κ (mgU o1 o2 w) o2 wz (w (12 + 68 * o2 + 5) + 0) wz := by
    rw [Int.add_zero]
    refine ⟨ez _ (by omega), fun i k a b c => ?_, fun t => ?_, fun i _ _ _ => rfl, fun t a b => ⟨fun u => ?_, fun _ => rfl⟩⟩
    · show κ (wz _) < κ (wz _)
      rw [ez _ (by omega), ez _ (by omega)]
      exact s1 i k a b c
    · rw [← s2]
      constructor
      · rintro ⟨k, a, b, c⟩
        have c : wz (12 + 68 * o2 + 7 + k) = t := c
        rw [ez _ (by omega)] at c
        exact ⟨k, a, b, c⟩
      · rintro ⟨k, a, b, c⟩
        refine ⟨k, a, b, ?_⟩
        show wz _ = _
        rw [ez _ (by omega)]
        exact c
    · rw [ez _ (by omega)]
      exact hoff t u
  obtain ⟨w1, r1, r2⟩ := loopR (a := w (12 + 68 * o2 + 5)) (b := w (12 + 68 * o1 + 5)) (w0 := wz) ⟨h1.1, by omega⟩ ⟨h2.1, by omega⟩ hne a2 a1 (ez _ (by omega)) (fun x x0 x1 => by rw [ez _ (by omega), mgU_hi x0]) (by
    rintro n nn n1 x ⟨i, i0, i1, i2⟩
    have y := hκ n i i0 i1 n1
    have f1 := (mgU_f hg h1 h2 i0 (by omega)).1
    have f2 := (mgU_f hg h1 h2 (by omega : 0 ≤ n) n1).1
    rw [i2] at y f1
    rw [ez _ (by omega), ez _ (by omega)]
    exact y) hf 61 0 wz (by omega) a1.1 (by omega) st
  obtain ⟨c1, c2, c3, c4, c5⟩ := id r1
  generalize hu : ws w1 (12 + 68 * o1 + 5) 0 = u at *
  have eu : ∀ i, ¬ i = 12 + 68 * o1 + 5 → u i = w1 i := fun i a => by rw [← hu]; exact wsn a
  have eu5 : u (12 + 68 * o1 + 5) = 0 := by rw [← hu]; exact wse rfl
  have eq : ∀ k, 0 ≤ k → k < w (12 + 68 * o2 + 5) + w (12 + 68 * o1 + 5) → u (12 + 68 * o2 + 7 + k) = w1 (12 + 68 * o2 + 7 + k) := fun k a b => eu _ (by omega)
  have stq : MrgQ κ (mgU o1 o2 w) (fun t => w (452 + 24 * t + 0)) o2 u (w (12 + 68 * o2 + 5) + w (12 + 68 * o1 + 5)) 0 (w (12 + 68 * o2 + 5) + w (12 + 68 * o1 + 5)) u := by
    have mm : ∀ t, memS (fun k => u (12 + 68 * o2 + 7 + k)) (w (12 + 68 * o2 + 5) + w (12 + 68 * o1 + 5)) t ↔ inU (mgU o1 o2 w) (w (12 + 68 * o2 + 5) + w (12 + 68 * o1 + 5)) t := fun t => by
      rw [← c3]
      constructor
      · rintro ⟨k, a, b, c⟩
        have c : u (12 + 68 * o2 + 7 + k) = t := c
        rw [eq k a b] at c
        exact ⟨k, a, b, c⟩
      · rintro ⟨k, a, b, c⟩
        refine ⟨k, a, b, ?_⟩
        show u _ = _
        rw [eq k a b]
        exact c
    refine ⟨by rw [eu _ (by omega)]; exact c1, by omega, by omega, by omega, fun i k a b c => ?_, fun t => (mm t).1, fun t a => (mm t).2 a.1, fun k a b => by omega, fun i _ _ _ => rfl, fun t a b => ⟨fun x => absurd ((mm t).2 x.1) x.2, fun _ => ⟨rfl, rfl⟩⟩⟩
    show κ (u _) < κ (u _)
    rw [eq i a (by omega), eq k (by omega) c]
    exact c2 i k a b c
  obtain ⟨m, q⟩ := loopQ (o1 := o1) (x3 := 12 + 68 * o1) ⟨h2.1, by omega⟩ (fun t a => by
    have y := hf t a
    refine ⟨y, ?_⟩
    rw [eu _ (by omega), c4 _ (by omega) (by omega) (by omega), ez _ (by omega)]) (w (12 + 68 * o2 + 5) + w (12 + 68 * o1 + 5)).toNat 0 (w (12 + 68 * o2 + 5) + w (12 + 68 * o1 + 5)) u stq (by omega)
  have eW : W_229 o1 o2 w = LP_229_199 o1 o2 (w (12 + 68 * o2 + 5) + w (12 + 68 * o1 + 5)).toNat (12 + 68 * o1) (12 + 68 * o2) 0 u := by
    unfold W_229
    rw [hz]
    exact r2
  rw [eW]
  generalize LP_229_199 o1 o2 (w (12 + 68 * o2 + 5) + w (12 + 68 * o1 + 5)).toNat (12 + 68 * o1) (12 + 68 * o2) 0 u = w' at *
  obtain ⟨q1, q2, q3, q4, q5, q6, q7, q8, q9, q10⟩ := q
  have mb : ∀ t, memS (fun k => w' (12 + 68 * o2 + 7 + k)) m t ↔ bestS κ (fun t => w (452 + 24 * t + 0)) (mgU o1 o2 w) (w (12 + 68 * o2 + 5) + w (12 + 68 * o1 + 5)) t := fun t => by
    refine ⟨?_, q7 t⟩
    rintro ⟨k, a, b, c⟩
    have := q8 k a b
    have c : w' (12 + 68 * o2 + 7 + k) = t := c
    rw [c] at this
    exact this
  refine ⟨m, fun i x1 x2 x3 x4 x5 => ?_, ?_, ?_, q1, q2, q5, mb, fun t a b => ?_, fun t a b => ?_⟩
  · rw [q9 i x3 x4 (by omega), eu i x2, c4 i x3 x4 (by omega), ez i x1]
  · rw [q9 _ (by omega) (by omega) (by omega), eu _ (by omega), c4 _ (by omega) (by omega) (by omega)]
    exact ez4
  · rw [q9 _ (by omega) (by omega) (by omega)]
    exact eu5
  · rw [q9 _ (by omega) (by omega) (by omega), eu _ (by omega)]
    have := c5 t a b
    rw [ez _ (by omega)] at this
    exact this
  · have := q10 t a b
    rw [mb, eu 0 (by omega), c4 0 (by omega) (by omega) (by omega), ez 0 (by omega), eu _ (by omega), eu _ (by omega), c4 _ (by omega) (by omega) (by omega), c4 _ (by omega) (by omega) (by omega), ez _ (by omega), ez _ (by omega)] at this
    exact this
theorem mergeD {κ : Int → Int} {s o1 o2 : Int} {d : mD} {w : Row} (hg : GG w) (h : Rel s d w) (h1 : 0 ≤ o1 ∧ o1 < w 7) (h2 : 0 ≤ o2 ∧ o2 < w 7) (hne : ¬ o1 = o2) (hκ : KapM κ o1 o2 w) : ∃ m d1, MC κ (mgU o1 o2 w) (fun t => w (452 + 24 * t + 0)) s o2 (w 0) d (w (12 + 68 * o2 + 5) + w (12 + 68 * o1 + 5)) m d1 ∧ g_63 s o1 o2 d = mset (mset d1 (s + 8) o1 0) (s + 7) o1 0 := by
  have n7 := hg.1.1
  have n8 := hg.1.2.1
  have n9 := hg.1.2.2.1
  have a1 := (hg.2.1 o1 h1.1 h1.2).2.2.2.2.1
  have a2 := (hg.2.1 o2 h2.1 h2.2).2.2.2.2.1
  obtain ⟨rA, rO, rQ, rP, rT, rC, rK, rR, rB, rH⟩ := id h
  obtain ⟨s1, s2, s3⟩ := startQ hg h1 h2 hκ
  have hf : ∀ t, inU (mgU o1 o2 w) (w (12 + 68 * o2 + 5) + w (12 + 68 * o1 + 5)) t → 0 ≤ t ∧ t < w 9 := by
    rintro t ⟨i, i0, i1, i2⟩
    have := (mgU_f hg h1 h2 i0 i1).1
    rw [i2] at this
    exact this
  have hoff : ∀ t, inU (mgU o1 o2 w) (w (12 + 68 * o2 + 5)) t → w (452 + 24 * t + 1) = o2 := by
    rintro t ⟨i, i0, i1, i2⟩
    have := (mgU_f hg h1 h2 i0 (by omega)).2.2
    rw [i2] at this
    omega
  have eq : ∀ k, 0 ≤ k → k < w (12 + 68 * o2 + 5) → d (s + 9) (o2 * 16 + k) = w (12 + 68 * o2 + 7 + k) := fun k a b => rQ o2 h2.1 h2.2 k a b
  have st : MC κ (mgU o1 o2 w) (fun t => w (452 + 24 * t + 0)) s o2 (w 0) d (w (12 + 68 * o2 + 5) + 0) (w (12 + 68 * o2 + 5)) d := by
    rw [Int.add_zero]
    refine ⟨fun b _ _ _ _ _ => rfl, fun o _ => rfl, (rO.2 o2 h2.1 h2.2).2.2.2.2.2, fun i _ => rfl, a2.1, fun i k a b c => ?_, fun t => ?_, fun t => ⟨fun u => ?_, fun _ => rfl⟩, fun t => ⟨fun u => absurd (s3 t u.1) u.2, fun _ => ⟨rfl, rfl⟩⟩⟩
    · show κ (d (s + 9) _) < κ (d (s + 9) _)
      rw [eq i a (by omega), eq k (by omega) c]
      exact s1 i k a b c
    · have e1 : memS (fun k => d (s + 9) (o2 * 16 + k)) (w (12 + 68 * o2 + 5)) t ↔ memS (fun k => w (12 + 68 * o2 + 7 + k)) (w (12 + 68 * o2 + 5)) t := by
        constructor
        · rintro ⟨k, a, b, c⟩
          have c : d (s + 9) (o2 * 16 + k) = t := c
          rw [eq k a b] at c
          exact ⟨k, a, b, c⟩
        · rintro ⟨k, a, b, c⟩
          refine ⟨k, a, b, ?_⟩
          show d (s + 9) _ = _
          rw [eq k a b]
          exact c
      rw [e1, s2]
      exact ⟨s3 t, fun y => y.1⟩
    · have y : 0 ≤ t ∧ t < w 9 := by
        obtain ⟨i, i0, i1, i2⟩ := u
        exact hf t ⟨i, i0, by omega, i2⟩
      rw [(rT.2 t y.1 y.2).2.1]
      exact hoff t u
  have hl := loopC (p := fun t => w (452 + 24 * t + 0)) (j := fun t => w (452 + 24 * t + 2)) (T := w 0) (o2 := o2) a2.1 a1 hne (rO.2 o1 h1.1 h1.2).2.2.2.2.2 (fun x x0 x1 => by rw [mgU_hi x0]; exact rQ o1 h1.1 h1.2 x x0 x1) (by
    rintro n nn n1 x ⟨i, i0, i1, i2⟩
    have y := hκ n i i0 i1 n1
    rw [i2] at y
    exact y) (fun x u => by
      have y := hf x u
      have g := (hg.2.2.2.1 x y.1 y.2).1
      have e := rT.2 x y.1 y.2
      exact ⟨e.1, e.2.2.1, g.1, by omega⟩) rA.2.1 16 0 (w (12 + 68 * o2 + 5)) d (by omega) a1.1 (by omega) st
  exact hl
