/-! ===== leave ===== -/
theorem mpI {w : Row} (hg : GG w) : mpP w := fun o a b => (hg.2.1 o a b).2.1.1
theorem n49 : (1 : Int) + 49 = 50 := by decide
theorem opLeave {E : mO × tW} {d : mD} {t : Int} (hT : TKL E) (hI : Inv E d) : OPR d (g_327 0 t 778 d) (g_280 769 t (g_327 0 t 778 d)) (v_327 0 t 778 d) (v_280 769 t (g_327 0 t 778 d)) := by
  obtain ⟨hS, hh, hi⟩ := id hI
  have hk := hi.1
  obtain ⟨hg, hw, hp, ht, hr⟩ := id hk
  have o9 : d 50 0 = d 770 9 := hr.2.2.2.2.1.1
  have n9 := hg.1.2.2.1
  unfold v_327 g_327
  rw [n641, n01, n49, show (50 : Int) + 5 = 55 by decide, show (1 : Int) + 2 = 3 by decide, show (50 : Int) + 2 = 52 by decide, show (50 : Int) + 3 = 53 by decide, o9, ifR, ifR]
  by_cases c1 : 0 ≤ t ∧ t < d 770 9
  · rw [if_pos c1, if_pos c1]
    obtain ⟨u1, u2, u3, u4, u5⟩ := hr.2.2.2.2.1.2 t c1.1 c1.2
    have u5 : d 55 t = d 770 (452 + 24 * t + 4) := u5
    have u2 : d 52 t = d 770 (452 + 24 * t + 1) := u2
    have u3 : d 53 t = d 770 (452 + 24 * t + 2) := u3
    rw [u5, u2, u3]
    by_cases c2 : d 770 (452 + 24 * t + 4) = 0
    · rw [if_pos c2, if_pos c2]
      obtain ⟨kS, kh, kk, kf⟩ := hI.keep hT
      have gt := hg.2.2.2.1 t c1.1 c1.2
      obtain ⟨p1, p2, p3, p4⟩ := placeIn hg kk.2.2.2.2 c1 c2
      have p1 : v_39 3 (d 770 (452 + 24 * t + 1)) t (g_2 64 1 d) = V_221 t (d 770) := p1
      obtain ⟨j1, j2⟩ := leave hg kk.2.2.2.2 c1 c2
      have j2 : Rel 1 (mset (mset (g_41 3 (d 770 (452 + 24 * t + 1)) (V_221 t (d 770)) (g_2 64 1 d)) 55 t 2) 54 t (d 770 0)) _ := j2
      have go := hg.2.1 _ gt.2.1.1 gt.2.1.2
      have xr := leaveX (p := V_221 t (d 770)) hg c1 ⟨p2, by omega⟩
      obtain ⟨x1, x2⟩ := xr.1 hw hp
      have tm : d 1 2 = d 770 0 := hr.1.2.1
      have n7 := hg.1.1
      have tk := take220 (o := d 770 (452 + 24 * t + 1)) (w := d 770) p2 (by omega) (by omega)
      obtain ⟨-, f1, -⟩ := p_41 (E := E) (x0 := 3) (x1 := d 770 (452 + 24 * t + 1)) (x2 := V_221 t (d 770)) kS s1B (by omega) (by omega) ⟨hT.t 3 3 (by decide), trivial, trivial, trivial⟩ kh
      have eU : g_97 50 t 2 (d 1 2) (g_41 3 (d 770 (452 + 24 * t + 1)) (v_39 3 (d 770 (452 + 24 * t + 1)) t (g_2 64 1 d)) (g_2 64 1 d)) = mset (mset (g_41 3 (d 770 (452 + 24 * t + 1)) (V_221 t (d 770)) (g_2 64 1 d)) 55 t 2) 54 t (d 770 0) := by
        rw [p1, tm]
        rfl
      rw [eU]
      have hU : ∀ k, (k < 1 ∨ 63 < k) → mset (mset (g_41 3 (d 770 (452 + 24 * t + 1)) (V_221 t (d 770)) (g_2 64 1 d)) 55 t 2) 54 t (d 770 0) k = g_2 64 1 d k := fun k hk => by
        rw [← f1 k (by omega)]
        funext j
        rw [ms_a (by omega), ms_a (by omega)]
      obtain ⟨r0, r1⟩ := rowK hT hI hU (d 1 2 - d 770 (452 + 24 * t + 2))
      have n0 := hg.1.2.2.2.2.2.1
      refine OPR.ok hI hU ⟨j1, x1, x2, by rw [xr.2]; exact ht, j2⟩ (fun m => ?_) ?_ ?_ (by have := gt.2.2.1; omega)
      · refine m.fr (fun u u0 u1 => ?_)
        have t1 := tk.2.2 (452 + 24 * u + 6) (by omega) (by omega)
        have t2 := tk.2.2 (452 + 24 * u + 7) (by omega) (by omega)
        exact ⟨by rw [wsn (by omega), wsn (by omega), t1], by rw [wsn (by omega), wsn (by omega), t2]⟩
      · unfold g_280
        rw [v238, show (769 : Int) + 1 = 770 by decide, r0, if_pos c1, if_neg (by decide), if_pos c2, m_v_221, m_g_220, r1]
        simp only [mset_row, rset_at, rset_rset]
        rw [show W_220 (d 770 (452 + 24 * t + 1)) (V_221 t (d 770)) (d 770) 0 = d 770 0 from tk.2.2 0 (by omega) (by omega)]
      · unfold v_280
        rw [v238, show (769 : Int) + 1 = 770 by decide, r0, if_pos c1, if_neg (by decide), if_pos c2, m_v_221, m_g_220, r1]
        simp only [rset_at]
        rw [show W_220 (d 770 (452 + 24 * t + 1)) (V_221 t (d 770)) (d 770) 0 = d 770 0 from tk.2.2 0 (by omega) (by omega), show W_220 (d 770 (452 + 24 * t + 1)) (V_221 t (d 770)) (d 770) (452 + 24 * t + 2) = d 770 (452 + 24 * t + 2) from tk.2.2 _ (by omega) (by omega), tm]
    · rw [if_neg c2, if_neg c2]
      have e : g_280 769 t d = mset d 769 0 2 := by
        unfold g_280
        rw [v238, show (769 : Int) + 1 = 770 by decide, if_pos c1, if_neg (by decide), if_neg c2]
      rw [e]
      exact OPR.fail hi (by decide)
  · rw [if_neg c1, if_neg c1]
    have e : g_280 769 t d = mset d 769 0 1 := by
      unfold g_280
      rw [v238, if_neg c1, if_pos rfl]
    rw [e]
    exact OPR.fail hi (by decide)
/-! ===== claim ===== -/
theorem opClaim {E : mO × tW} {d : mD} {t : Int} (hT : TKL E) (hI : Inv E d) : OPR d (g_329 0 t 778 d) (g_283 769 t (g_329 0 t 778 d)) (v_329 0 t 778 d) (v_283 769 t (g_329 0 t 778 d)) := by
  obtain ⟨hS, hh, hi⟩ := id hI
  have hk := hi.1
  obtain ⟨hg, hw, hp, ht, hr⟩ := id hk
  have o9 : d 50 0 = d 770 9 := hr.2.2.2.2.1.1
  have n9 := hg.1.2.2.1
  unfold v_329 g_329
  rw [n641, n01, n49, o9, ifR, ifR]
  by_cases c1 : 0 ≤ t ∧ t < d 770 9
  · rw [if_pos c1, if_pos c1]
    obtain ⟨q1, q2, q3⟩ := canClaim hg hr c1
    rw [q1]
    by_cases c2 : V_227 t (d 770) = 0
    · rw [if_pos c2, if_pos c2]
      have e : g_283 769 t d = mset d 769 0 2 := by
        unfold g_283
        rw [v238, if_pos c1, if_neg (by decide), m_v_227, if_pos c2]
      rw [e]
      exact OPR.fail hi (by decide)
    · rw [if_neg c2, if_neg c2]
      obtain ⟨kS, kh, kk, kf⟩ := hI.keep hT
      have cj := q3.1 (by omega)
      obtain ⟨j0, j1, j2, -⟩ := claim hg kk.2.2.2.2 c1 cj.1 cj.2 ht
      have xr := claimX hg c1
      obtain ⟨x1, x2⟩ := xr.1 hw hp
      obtain ⟨-, fv, f1, -⟩ := p_74 (E := E) (x0 := 1) (x1 := t) kS s1B (by omega) ⟨hT.t 6 1 (by decide), trivial, trivial⟩ kh
      have hU : ∀ k, (k < 1 ∨ 63 < k) → g_74 1 t (g_2 64 1 d) k = g_2 64 1 d k := fun k hk => f1 k (by omega)
      obtain ⟨r0, r1⟩ := rowK hT hI hU (v_74 1 t (g_2 64 1 d))
      refine OPR.ok hI hU (W := W_228 t (d 770)) ⟨j1, x1, x2, by rw [xr.2]; exact ht, j2⟩ (fun m => ?_) ?_ ?_ (by omega)
      · have e := (p_228 (E := E) (x0 := 769) (x1 := t) hS rfl (by omega) (mpI hg) m ⟨hT.t 11 769 (by decide), trivial, trivial⟩ hh).2.2.2.2.2.1
        rw [m_g_228, show (769 : Int) + 1 = 770 by decide, rset_at] at e
        exact e
      · unfold g_283
        rw [v238, m_v_227, r0, if_pos c1, if_neg (by decide), if_neg c2, m_g_228, r1]
      · unfold v_283
        rw [v238, m_v_227, r0, if_pos c1, if_neg (by decide), if_neg c2, m_v_228, r1]
        exact j0
  · rw [if_neg c1, if_neg c1]
    have e : g_283 769 t d = mset d 769 0 1 := by
      unfold g_283
      rw [v238, if_neg c1, if_pos rfl]
    rw [e]
    exact OPR.fail hi (by decide)
/-! ===== witness ===== -/
theorem opWit {E : mO × tW} {d : mD} {t p : Int} (hT : TKL E) (hI : Inv E d) : OPR d (g_330 0 t p 778 d) (g_284 769 t p (g_330 0 t p 778 d)) (v_330 0 t p 778 d) (v_284 769 t p (g_330 0 t p 778 d)) := by
  obtain ⟨hS, hh, hi⟩ := id hI
  have hk := hi.1
  obtain ⟨hg, hw, hp, ht, hr⟩ := id hk
  have o9 : d 50 0 = d 770 9 := hr.2.2.2.2.1.1
  have o8 : d 11 0 = d 770 8 := hr.2.2.2.1.1
  have n9 := hg.1.2.2.1
  have n8 := hg.1.2.1
  unfold v_330 g_330
  rw [n641, n01, n49, show (1 : Int) + 10 = 11 by decide, o9, o8, ifR, ifR, ifR, ifR]
  by_cases c1 : 0 ≤ t ∧ t < d 770 9
  · rw [if_pos c1, if_pos c1]
    by_cases c2 : 0 ≤ p ∧ p < d 770 8
    · rw [if_pos c2, if_pos c2]
      obtain ⟨q1, q2⟩ := hinder hg hr c1 c2
      rw [q1]
      by_cases c3 : V_234 t p (d 770) = 0
      · rw [if_pos c3, if_pos c3]
        have q4 := q2 c3
        obtain ⟨kS, kh, kk, kf⟩ := hI.keep hT
        obtain ⟨j0, j1, j2, -⟩ := attest hg kk.2.2.2.2 c1 c2 c3 ht
        have xr := attestX (p := p) hg c1 c2
        obtain ⟨x1, x2⟩ := xr.1 hw hp
        have w2 : g_2 64 1 d (1 + 10 + 4) p ≤ 2 := by
          rw [kf (1 + 10 + 4) (by decide)]
          rcases (p_77 (E := E) (x0 := 1) (x1 := t) (x2 := p) hS s1B (by omega) (by omega) ⟨hT.t 6 1 (by decide), trivial, trivial, trivial⟩ hh).2.2 with z | z
          · exact absurd (q1.trans c3) z
          · exact z
        obtain ⟨-, fv, f1, -⟩ := p_75 (E := E) (x0 := 1) (x1 := t) (x2 := p) kS s1B (by omega) (by omega) w2 ⟨hT.t 6 1 (by decide), trivial, trivial, trivial⟩ kh
        have hU : ∀ k, (k < 1 ∨ 63 < k) → g_75 1 t p (g_2 64 1 d) k = g_2 64 1 d k := fun k hk => f1 k (by omega)
        obtain ⟨r0, r1⟩ := rowK hT hI hU (v_75 1 t p (g_2 64 1 d))
        refine OPR.ok hI hU (W := W_235 t p (d 770)) ⟨j1, x1, x2, by rw [xr.2]; exact ht, j2⟩ (fun m => ?_) ?_ ?_ (by omega)
        · have e := (p_235 (E := E) (x0 := 769) (x1 := t) (x2 := p) hS rfl (by omega) (by omega) (mpI hg) m q4.2.1 ⟨hT.t 11 769 (by decide), trivial, trivial, trivial⟩ hh).2.2.2.2.2.1
          rw [m_g_235, show (769 : Int) + 1 = 770 by decide, rset_at] at e
          exact e
        · unfold g_284
          rw [v238, v237, m_v_234, r0, if_pos c1, if_neg (by decide), if_pos c2, if_neg (by decide), if_pos c3, m_g_235, r1]
        · unfold v_284
          rw [v238, v237, m_v_234, r0, if_pos c1, if_neg (by decide), if_pos c2, if_neg (by decide), if_pos c3, m_v_235, r1]
          exact j0
      · rw [if_neg c3, if_neg c3]
        have e : g_284 769 t p d = mset d 769 0 2 := by
          unfold g_284
          rw [v238, v237, m_v_234, if_pos c1, if_neg (by decide), if_pos c2, if_neg (by decide), if_neg c3]
        rw [e]
        exact OPR.fail hi (by decide)
    · rw [if_neg c2, if_neg c2]
      have e : g_284 769 t p d = mset d 769 0 1 := by
        unfold g_284
        rw [v238, v237, if_pos c1, if_neg (by decide), if_neg c2, if_pos rfl]
      rw [e]
      exact OPR.fail hi (by decide)
  · rw [if_neg c1, if_neg c1]
    have e : g_284 769 t p d = mset d 769 0 1 := by
      unfold g_284
      rw [v238, if_neg c1, if_pos rfl]
    rw [e]
    exact OPR.fail hi (by decide)
