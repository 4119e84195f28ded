/-! ===== pass ===== -/
theorem v281 {w : Row} (h9 : 0 ≤ w 9 ∧ w 9 ≤ 60) : V_281 w = srvN w := by
  unfold V_281 srvN
  refine cnt0 (L := fun n a k => LP_281_4 n a k w) h9.1 (by omega) (fun n a k h => ?_) (fun n a k x y => ?_)
  · cases n with
    | zero =>
      show ST_281_4 _ a k w = a
      unfold ST_281_4
      rw [if_neg (by omega)]
    | succ n =>
      show ST_281_4 _ a k w = a
      unfold ST_281_4
      rw [if_neg (by omega)]
  · show ST_281_4 _ a k w = _
    unfold ST_281_4
    rw [if_pos y]
    split
    · rfl
    · rfl
theorem lp282 {x a : Int} : ∀ (n : Nat) (k : Int) (w : Row), x - k = (n : Int) → LP_282_59 x n a k w = (V_281 (hoursW n w) - a, hoursW n w) := by
  intro n
  induction n with
  | zero =>
    intro k w h
    show ST_282_59 x _ a k w = _
    unfold ST_282_59
    rw [if_neg (by omega)]
    rfl
  | succ n ih =>
    intro k w h
    show ST_282_59 x _ a k w = _
    unfold ST_282_59
    rw [if_pos (by omega), ih (k + 1) _ (by omega)]
    rfl
theorem if12 {α : Type} {n N : Int} {x y : α} : (if n < 1 then y else if N < n then y else x) = if 1 ≤ n ∧ n ≤ N then x else y := by
  by_cases c : 1 ≤ n ∧ n ≤ N
  · rw [if_pos c, if_neg (by omega), if_neg (by omega)]
  · rw [if_neg c]
    by_cases z : n < 1
    · rw [if_pos z]
    · rw [if_neg z, if_pos (by omega)]
theorem opPass {E : mO × tW} {d : mD} {n : Int} (hT : TKL E) (hI : Inv E d) : OPR d (g_328 0 n 778 d) (g_282 769 n (g_328 0 n 778 d)) (v_328 0 n 778 d) (v_282 769 n (g_328 0 n 778 d)) := by
  obtain ⟨hS, hh, hi⟩ := id hI
  have hk := hi.1
  obtain ⟨hg, hw, hp, ht, hr⟩ := id hk
  have tm : d 1 2 = d 770 0 := hr.1.2.1
  have n0 := hg.1.2.2.2.2.2.1
  unfold v_328 g_328
  rw [n641, n01, if12, if12]
  by_cases c1 : 1 ≤ n ∧ n ≤ 99
  · rw [if_pos c1, if_pos c1]
    have vc : v_67 1 n d = if (999 : Int) < d 770 0 + n then 0 else 1 := by
      unfold v_67
      rw [tm]
    by_cases c2 : (999 : Int) < d 770 0 + n
    · rw [if_pos c2] at vc
      rw [if_pos vc, if_pos vc]
      have e : g_282 769 n d = mset d 769 0 2 := by
        unfold g_282 f_282
        rw [v176, if_pos c1, if_neg (by decide), show (769 : Int) + 1 = 770 by decide, if_pos c2]
      rw [e]
      exact OPR.fail hi (by decide)
    · rw [if_neg c2] at vc
      have vc : ¬ v_67 1 n d = 0 := by omega
      rw [if_neg vc, if_neg vc]
      obtain ⟨kS, kh, kk, kf⟩ := hI.keep hT
      obtain ⟨j0, j1, j2, j3, j4, j5⟩ := passHours (s := 1) (N := n) (by omega) hg kk.2.2.2.2 (by omega)
      obtain ⟨x1, x2⟩ := j5 hw hp
      have tk : g_2 64 1 d 1 2 = d 770 0 := by rw [kf 1 (by decide), tm]
      obtain ⟨-, fv, f1, -⟩ := p_68 (E := E) (x0 := 1) (x1 := n) kS s1B (by omega) (by omega) (Or.inr (by omega)) ⟨hT.t 6 1 (by decide), trivial, trivial⟩ kh
      have hU : ∀ k, (k < 1 ∨ 63 < k) → g_68 1 n (g_2 64 1 d) k = g_2 64 1 d k := fun k hk => f1 k (by omega)
      obtain ⟨r0, r1⟩ := rowK hT hI hU (v_68 1 n (g_2 64 1 d))
      have e : f_282 769 n (mset (g_68 1 n (g_2 64 1 d)) 778 0 (v_68 1 n (g_2 64 1 d))) = (srvN (hoursW n.toNat (d 770)) - srvN (d 770), rset (g_278 769 (mset (mset (g_68 1 n (g_2 64 1 d)) 778 0 (v_68 1 n (g_2 64 1 d))) 769 0 0)) (hoursW n.toNat (d 770))) := by
        unfold f_282
        rw [v176, if_pos c1, if_neg (by decide), show (769 : Int) + 1 = 770 by decide, r0, if_neg c2, m_lp_282_59, m_v_281, r1, show n - 0 = n by omega, lp282 n.toNat 0 _ (by omega), v281 j1.1.2.2.1, v281 hg.1.2.2.1]
        rfl
      refine OPR.ok hI hU (W := hoursW n.toNat (d 770)) ⟨j1, x1, x2, by omega, j2⟩ (fun m => m.fr (fun u u0 u1 => ⟨j4 _ (Or.inr ⟨by omega, by omega, by omega⟩), j4 _ (Or.inr ⟨by omega, by omega, by omega⟩)⟩)) ?_ ?_ (by omega)
      · unfold g_282
        rw [e]
      · unfold v_282
        rw [e]
        exact j0
  · rw [if_neg c1, if_neg c1]
    have e : g_282 769 n d = mset d 769 0 1 := by
      unfold g_282 f_282
      rw [v176, if_neg c1, if_pos rfl]
    rw [e]
    exact OPR.fail hi (by decide)
/-! ===== give, offer ===== -/
theorem n57 : (1 : Int) + 57 = 58 := by decide
theorem lp285f {p o m0 : Int} : ∀ (n : Nat) (m k : Int) (w : Row), 0 ≤ k → ∀ i, i < 1916 → (LP_285_79 p o m0 n m k w).2 i = w i := by
  intro n
  induction n with
  | zero =>
    intro m k w h0 i hi
    show (ST_285_79 p o m0 _ m k w).2 i = w i
    unfold ST_285_79
    repeat' split
    all_goals first
      | rfl
      | exact wsn (by omega)
  | succ n ih =>
    intro m k w h0 i hi
    show (ST_285_79 p o m0 _ m k w).2 i = w i
    unfold ST_285_79
    repeat' split
    all_goals first
      | rfl
      | exact ih _ _ _ (by omega) i hi
      | exact (ih _ _ _ (by omega) i hi).trans (wsn (by omega))
theorem opGive {E : mO × tW} {d : mD} {a b n : Int} (hT : TKL E) (hI : Inv E d) : OPR d (g_331 0 a b n 778 d) (g_285 769 a b n (g_331 0 a b n 778 d)) (v_331 0 a b n 778 d) (v_285 769 a b n (g_331 0 a b n 778 d)) := by
  obtain ⟨hS, hh, hi⟩ := id hI
  have hk := hi.1
  obtain ⟨hg, hw, hp, ht, hr⟩ := id hk
  have o8 : d 11 0 = d 770 8 := hr.2.2.2.1.1
  have n8 := hg.1.2.1
  have n10 := hg.1.2.2.2.1
  unfold v_331 g_331
  rw [n641, n01, n57, show (1 : Int) + 10 = 11 by decide, o8, ifR, ifR, ifR, ifR, if12, if12]
  by_cases c1 : 0 ≤ a ∧ a < d 770 8
  · rw [if_pos c1, if_pos c1]
    by_cases c2 : 0 ≤ b ∧ b < d 770 8
    · rw [if_pos c2, if_pos c2]
      by_cases c3 : 1 ≤ n ∧ n ≤ 200
      · rw [if_pos c3, if_pos c3]
        by_cases c4 : a = b
        · rw [if_pos c4, if_pos c4]
          have e : g_285 769 a b n d = mset d 769 0 3 := by
            unfold g_285 f_285
            rw [v237, v237, v176, if_pos c1, if_neg (by decide), if_pos c2, if_neg (by decide), if_pos c3, if_neg (by decide), if_pos c4]
          rw [e]
          exact OPR.fail hi (by decide)
        · rw [if_neg c4, if_neg c4]
          have ow : v_111 58 a 0 d = V_245 a 0 (d 770) := owned hg hr
          rw [ow]
          by_cases c5 : V_245 a 0 (d 770) < n
          · rw [if_pos c5, if_pos c5]
            have e : g_285 769 a b n d = mset d 769 0 3 := by
              unfold g_285 f_285
              rw [v237, v237, v176, if_pos c1, if_neg (by decide), if_pos c2, if_neg (by decide), if_pos c3, if_neg (by decide), if_neg c4, m_v_245, if_pos c5]
            rw [e]
            exact OPR.fail hi (by decide)
          · rw [if_neg c5, if_neg c5]
            obtain ⟨kS, kh, kk, kf⟩ := hI.keep hT
            obtain ⟨w', j0, j1, j2, xr⟩ := giveLoop (s := 1) (p := a) (o := b) (m0 := n) (200 - 0 : Int).toNat (200 - 0 : Int).toNat n 0 (g_2 64 1 d) (d 770) (by decide) hg kk.2.2.2.2 c2 (by omega) (by omega)
            rw [n57] at j2
            have j2 : Rel 1 (g_114 58 a b n (g_2 64 1 d)) w' := j2
            obtain ⟨x1, x2⟩ := xr.1 hw hp
            obtain ⟨fh, f1, fS⟩ := p_114 (E := E) (x0 := 58) (x1 := a) (x2 := b) (x3 := n) kS s1B (by omega) (by omega) (by omega) ⟨hT.t 9 58 (by decide), trivial, trivial, trivial, trivial⟩ kh
            have hU : ∀ k, (k < 1 ∨ 63 < k) → g_114 58 a b n (g_2 64 1 d) k = g_2 64 1 d k := fun k hk => f1 k (by omega)
            obtain ⟨r0, r1⟩ := rowK hT hI hU (v_111 58 b 0 (g_114 58 a b n (g_2 64 1 d)))
            have ow2 : v_111 58 b 0 (g_114 58 a b n (g_2 64 1 d)) = V_245 b 0 w' := owned j1 j2
            have e : f_285 769 a b n (mset (g_114 58 a b n (g_2 64 1 d)) 778 0 (v_111 58 b 0 (g_114 58 a b n (g_2 64 1 d)))) = (V_245 b 0 w', rset (g_278 769 (mset (mset (g_114 58 a b n (g_2 64 1 d)) 778 0 (v_111 58 b 0 (g_114 58 a b n (g_2 64 1 d)))) 769 0 0)) w') := by
              unfold f_285
              rw [v237, v237, v176, r0, if_pos c1, if_neg (by decide), if_pos c2, if_neg (by decide), if_pos c3, if_neg (by decide), if_neg c4, m_v_245, r0, if_neg c5, m_lp_285_79, r1, j0]
              rfl
            refine OPR.ok hI hU (W := w') ⟨j1, x1, x2, by rw [xr.2]; exact ht, j2⟩ (fun m => m.fr (fun u u0 u1 => ?_)) ?_ ?_ (by have := (p_111 (E := E) (x0 := 58) (x1 := b) (x2 := 0) fS s1B ⟨by omega, by omega⟩ (by decide) ⟨hT.t 9 58 (by decide), trivial, trivial, trivial⟩ fh).2; omega)
            · have e := lp285f (p := a) (o := b) (m0 := n) (200 - 0 : Int).toNat n 0 (d 770) (by decide)
              rw [j0] at e
              exact ⟨e _ (by omega), e _ (by omega)⟩
            · unfold g_285
              rw [e]
            · unfold v_285
              rw [e]
              exact ow2
      · rw [if_neg c3, if_neg c3]
        have e : g_285 769 a b n d = mset d 769 0 2 := by
          unfold g_285 f_285
          rw [v237, v237, v176, if_pos c1, if_neg (by decide), if_pos c2, if_neg (by decide), if_neg c3, if_pos rfl]
        rw [e]
        exact OPR.fail hi (by decide)
    · rw [if_neg c2, if_neg c2]
      have e : g_285 769 a b n d = mset d 769 0 1 := by
        unfold g_285 f_285
        rw [v237, v237, if_pos c1, if_neg (by decide), if_neg c2, if_pos rfl]
      rw [e]
      exact OPR.fail hi (by decide)
  · rw [if_neg c1, if_neg c1]
    have e : g_285 769 a b n d = mset d 769 0 1 := by
      unfold g_285 f_285
      rw [v237, if_neg c1, if_pos rfl]
    rw [e]
    exact OPR.fail hi (by decide)
theorem offLoop2 {s p m0 : Int} : ∀ (nc nr : Nat) (m k : Int) (d : mD) (w : Row), 0 ≤ k → GG w → Rel s d w → w 10 - k ≤ (nc : Int) → w 10 - k ≤ (nr : Int) →
    ∃ w', LP_286_65 p m0 nr m k w = (V_219 w', W_219 w') ∧ GG w' ∧ Rel s (lp_115_5 (s + 57) p m0 nc m k d) w' ∧ XR w w' ∧ ∀ i, ¬ i = 11 → i < 1916 → w' i = w i := by
  intro nc
  induction nc with
  | zero =>
    intro nr m k d w h0 hg h h1 h2
    have k1 := h.2.2.2.2.2.2.1.1
    have e : lp_115_5 (s + 57) p m0 0 m k d = d := by
      show st_115_5 (s + 57) p m0 _ m k d = d
      unfold st_115_5
      rw [if_neg (by omega)]
    refine ⟨w, ?_, hg, by rw [e]; exact h, XR.refl, fun _ _ _ => rfl⟩
    cases nr with
    | zero =>
      show ST_286_65 p m0 _ m k w = _
      unfold ST_286_65
      rw [if_neg (by omega)]
    | succ nr =>
      show ST_286_65 p m0 _ m k w = _
      unfold ST_286_65
      rw [if_neg (by omega)]
  | succ nc ih =>
    intro nr m k d w h0 hg h h1 h2
    obtain ⟨k1, k2⟩ := h.2.2.2.2.2.2.1
    have r1 := h.2.2.2.2.2.2.2.1.1
    by_cases c1 : k < w 10
    · cases nr with
      | zero => omega
      | succ nr =>
        have g := k2 k h0 c1
        by_cases c2 : 0 < m
        · by_cases c5 : w 11 < 200
          · by_cases c3 : w (1916 + 5 * k + 0) = p
            · by_cases c4 : w (1916 + 5 * k + 3) = 0
              · obtain ⟨-, g', r'⟩ := offStep hg h ⟨h0, c1⟩ c4
                have e : lp_115_5 (s + 57) p m0 (nc + 1) m k d = lp_115_5 (s + 57) p m0 nc (m + -1) (k + 1) (mset (mset (mset d (s + 61) k 1) (s + 62) (w 11) k) (s + 57) 5 (w 11 + 1)) := by
                  show st_115_5 (s + 57) p m0 _ m k d = _
                  unfold st_115_5
                  rw [if_pos (by omega), if_pos c2, if_pos (by rw [r1]; exact c5), show s + 57 + 1 = s + 58 by omega, show s + 57 + 4 = s + 61 by omega, show s + 57 + 5 = s + 62 by omega, if_pos (by rw [g.1]; exact c3), if_pos (by rw [g.2.2.2]; exact c4), r1]
                have e2 : LP_286_65 p m0 (nr + 1) m k w = LP_286_65 p m0 nr (m + -1) (k + 1) (ws (ws (ws w ((1916 + (5 * k)) + 3) 1) (2916 + (w 11)) k) 11 ((w 11) + 1)) := by
                  show ST_286_65 p m0 _ m k w = _
                  unfold ST_286_65
                  rw [if_pos c1, if_pos c2, if_pos c3, if_pos c4]
                rw [e, e2]
                have n11 := hg.1.2.2.2.2.1
                have e10 : (ws (ws (ws w ((1916 + (5 * k)) + 3) 1) (2916 + (w 11)) k) 11 ((w 11) + 1)) 10 = w 10 := by
                  simp (disch := omega) only [wsn]
                obtain ⟨w', q1, q2, q3, q4, q5⟩ := ih nr (m + -1) (k + 1) _ _ (by omega) g' r' (by rw [e10]; omega) (by rw [e10]; omega)
                refine ⟨w', q1, q2, q3, XR.trans ?_ q4, fun i a b => (q5 i a b).trans (by simp (disch := omega) only [wsn])⟩
                have n8 := hg.1.2.1
                have n9 := hg.1.2.2.1
                have n10 := hg.1.2.2.2.1
                generalize hu : (ws (ws (ws w ((1916 + (5 * k)) + 3) 1) (2916 + (w 11)) k) 11 ((w 11) + 1)) = u at *
                have ue : ∀ i, ¬ i = 11 → ¬ i = 1916 + 5 * k + 3 → ¬ i = 2916 + w 11 → u i = w i := fun i a b c => by
                  rw [← hu]
                  simp (disch := omega) only [wsn]
                have u3 : u (1916 + 5 * k + 3) = 1 := by
                  rw [← hu]
                  simp (disch := omega) only [wsn, wse]
                refine ⟨GXI.keep hg.1.2.1 (ue 8 (by omega) (by omega) (by omega)) (ue 9 (by omega) (by omega) (by omega)) (fun t q a b x y => ue _ (by omega) (by omega) (by omega)) (fun p a b => ue _ (by omega) (by omega) (by omega)) (Int.le_of_eq (C2_of e10 (fun j a b => ?_)).symm), ue 0 (by omega) (by omega) (by omega)⟩
                by_cases z : j = k
                · rw [z, u3, c4]
                  exact ⟨fun y => absurd y (by decide), fun y => absurd y (by decide)⟩
                · rw [ue _ (by omega) (by omega) (by omega)]
              · have e : lp_115_5 (s + 57) p m0 (nc + 1) m k d = lp_115_5 (s + 57) p m0 nc m (k + 1) d := by
                  show st_115_5 (s + 57) p m0 _ m k d = _
                  unfold st_115_5
                  rw [if_pos (by omega), if_pos c2, if_pos (by rw [r1]; exact c5), show s + 57 + 1 = s + 58 by omega, show s + 57 + 4 = s + 61 by omega, if_pos (by rw [g.1]; exact c3), if_neg (by rw [g.2.2.2]; exact c4)]
                have e2 : LP_286_65 p m0 (nr + 1) m k w = LP_286_65 p m0 nr m (k + 1) w := by
                  show ST_286_65 p m0 _ m k w = _
                  unfold ST_286_65
                  rw [if_pos c1, if_pos c2, if_pos c3, if_neg c4]
                rw [e, e2]
                exact ih nr m (k + 1) d w (by omega) hg h (by omega) (by omega)
            · have e : lp_115_5 (s + 57) p m0 (nc + 1) m k d = lp_115_5 (s + 57) p m0 nc m (k + 1) d := by
                show st_115_5 (s + 57) p m0 _ m k d = _
                unfold st_115_5
                rw [if_pos (by omega), if_pos c2, if_pos (by rw [r1]; exact c5), show s + 57 + 1 = s + 58 by omega, if_neg (by rw [g.1]; exact c3)]
              have e2 : LP_286_65 p m0 (nr + 1) m k w = LP_286_65 p m0 nr m (k + 1) w := by
                show ST_286_65 p m0 _ m k w = _
                unfold ST_286_65
                rw [if_pos c1, if_pos c2, if_neg c3]
              rw [e, e2]
              exact ih nr m (k + 1) d w (by omega) hg h (by omega) (by omega)
          · have e : lp_115_5 (s + 57) p m0 (nc + 1) m k d = d := by
              show st_115_5 (s + 57) p m0 _ m k d = d
              unfold st_115_5
              rw [if_pos (by omega), if_pos c2, if_neg (by rw [r1]; exact c5)]
            refine ⟨w, offIdle (nr + 1) m k w (by omega) h0 (fun j a b z => ?_), hg, by rw [e]; exact h, XR.refl, fun _ _ _ => rfl⟩
            exact absurd (offStep hg h ⟨a, b⟩ z).1 c5
        · have e : lp_115_5 (s + 57) p m0 (nc + 1) m k d = d := by
            show st_115_5 (s + 57) p m0 _ m k d = d
            unfold st_115_5
            rw [if_pos (by omega), if_neg c2]
          refine ⟨w, ?_, hg, by rw [e]; exact h, XR.refl, fun _ _ _ => rfl⟩
          show ST_286_65 p m0 _ m k w = _
          unfold ST_286_65
          rw [if_pos c1, if_neg c2]
    · have e : lp_115_5 (s + 57) p m0 (nc + 1) m k d = d := by
        show st_115_5 (s + 57) p m0 _ m k d = d
        unfold st_115_5
        rw [if_neg (by omega)]
      refine ⟨w, ?_, hg, by rw [e]; exact h, XR.refl, fun _ _ _ => rfl⟩
      cases nr with
      | zero =>
        show ST_286_65 p m0 _ m k w = _
        unfold ST_286_65
        rw [if_neg (by omega)]
      | succ nr =>
        show ST_286_65 p m0 _ m k w = _
        unfold ST_286_65
        rw [if_neg (by omega)]
theorem opOffer {E : mO × tW} {d : mD} {a n : Int} (hT : TKL E) (hI : Inv E d) : OPR d (g_332 0 a n 778 d) (g_286 769 a n (g_332 0 a n 778 d)) (v_332 0 a n 778 d) (v_286 769 a n (g_332 0 a n 778 d)) := by
  obtain ⟨hS, hh, hi⟩ := id hI
  have hk := hi.1
  obtain ⟨hg, hw, hp, ht, hr⟩ := id hk
  have o8 : d 11 0 = d 770 8 := hr.2.2.2.1.1
  have n8 := hg.1.2.1
  have n10 := hg.1.2.2.2.1
  unfold v_332 g_332
  rw [n641, n01, n57, show (1 : Int) + 10 = 11 by decide, o8, ifR, ifR, if12, if12]
  by_cases c1 : 0 ≤ a ∧ a < d 770 8
  · rw [if_pos c1, if_pos c1]
    by_cases c3 : 1 ≤ n ∧ n ≤ 200
    · rw [if_pos c3, if_pos c3]
      have ow : v_111 58 a 0 d = V_245 a 0 (d 770) := owned hg hr
      rw [ow]
      by_cases c5 : V_245 a 0 (d 770) < n
      · rw [if_pos c5, if_pos c5]
        have e : g_286 769 a n d = mset d 769 0 3 := by
          unfold g_286 f_286
          rw [v237, v176, if_pos c1, if_neg (by decide), if_pos c3, if_neg (by decide), m_v_245, if_pos c5]
        rw [e]
        exact OPR.fail hi (by decide)
      · rw [if_neg c5, if_neg c5]
        obtain ⟨kS, kh, kk, kf⟩ := hI.keep hT
        obtain ⟨w', j0, j1, j2, xr, j6⟩ := offLoop2 (s := 1) (p := a) (m0 := n) (200 - 0 : Int).toNat (200 - 0 : Int).toNat n 0 (g_2 64 1 d) (d 770) (by decide) hg kk.2.2.2.2 (by omega) (by omega)
        rw [n57] at j2
        have j2 : Rel 1 (g_115 58 a n (g_2 64 1 d)) w' := j2
        obtain ⟨x1, x2⟩ := xr.1 hw hp
        obtain ⟨s0, s1, s2, s3⟩ := settle j1 j2
        have xr2 := settleX j1 j2
        obtain ⟨y1, y2⟩ := xr2.1 x1 x2
        obtain ⟨fh, f1, fS⟩ := p_115 (E := E) (x0 := 58) (x1 := a) (x2 := n) kS s1B (by omega) (by omega) ⟨hT.t 9 58 (by decide), trivial, trivial, trivial⟩ kh
        obtain ⟨-, fv, f2, -⟩ := p_82 (E := E) (x0 := 1) fS s1B ⟨hT.t 6 1 (by decide), trivial⟩ fh
        have hU : ∀ k, (k < 1 ∨ 63 < k) → g_82 1 (g_115 58 a n (g_2 64 1 d)) k = g_2 64 1 d k := fun k hk => by rw [f2 k (by omega), f1 k (by omega)]
        obtain ⟨r0, r1⟩ := rowK hT hI hU (v_82 1 (g_115 58 a n (g_2 64 1 d)))
        have e : f_286 769 a n (mset (g_82 1 (g_115 58 a n (g_2 64 1 d))) 778 0 (v_82 1 (g_115 58 a n (g_2 64 1 d)))) = (V_219 w', rset (g_278 769 (mset (mset (g_82 1 (g_115 58 a n (g_2 64 1 d))) 778 0 (v_82 1 (g_115 58 a n (g_2 64 1 d)))) 769 0 0)) (W_219 w')) := by
          unfold f_286
          rw [v237, v176, r0, if_pos c1, if_neg (by decide), if_pos c3, if_neg (by decide), m_v_245, r0, if_neg c5, m_lp_286_65, r1, j0]
          rfl
        refine OPR.ok hI hU (W := W_219 w') ⟨s1, y1, y2, by rw [xr2.2, xr.2]; exact ht, s2⟩ (fun m => ?_) ?_ ?_ (by omega)
        · exact m.fr (fun u u0 u1 => ⟨by rw [s3 _ (by omega) (by omega) (by omega) (by omega), j6 _ (by omega) (by omega)], by rw [s3 _ (by omega) (by omega) (by omega) (by omega), j6 _ (by omega) (by omega)]⟩)
        · unfold g_286
          rw [e]
        · unfold v_286
          rw [e]
          exact s0
    · rw [if_neg c3, if_neg c3]
      have e : g_286 769 a n d = mset d 769 0 2 := by
        unfold g_286 f_286
        rw [v237, v176, if_pos c1, if_neg (by decide), if_neg c3, if_pos rfl]
      rw [e]
      exact OPR.fail hi (by decide)
  · rw [if_neg c1, if_neg c1]
    have e : g_286 769 a n d = mset d 769 0 1 := by
      unfold g_286 f_286
      rw [v237, if_neg c1, if_pos rfl]
    rw [e]
    exact OPR.fail hi (by decide)
