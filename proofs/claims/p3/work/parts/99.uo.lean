/-! ===== deposit ===== -/
theorem fr116 {m : Int} : ∀ (n : Nat) (x : Int) (d : mD) (b : Int), ¬ b = 58 → ¬ b = 63 → lp_116_2 58 m n x d b = d b := by
  intro n
  induction n with
  | zero =>
    intro x d b h1 h2
    show st_116_2 58 m _ x d b = d b
    unfold st_116_2
    split
    · funext j
      exact ms_a (by omega)
    · funext j
      exact ms_a h1
  | succ n ih =>
    intro x d b h1 h2
    show st_116_2 58 m _ x d b = d b
    unfold st_116_2
    split
    · rw [ih _ _ b h1 h2]
      funext j
      exact ms_a (by omega)
    · funext j
      exact ms_a h1
theorem fr82l : ∀ (n : Nat) (m y : Int) (d : mD) (b : Int), (b < 1 ∨ 63 < b) → (lp_82_9 1 n m y d).2 b = d b := by
  have g116 : ∀ (m : Int) (d : mD) (b : Int), (b < 1 ∨ 63 < b) → g_116 (1 + 57) m d b = d b := fun m d b hb => by
    rw [n57]
    exact fr116 _ _ _ b (by omega) (by omega)
  intro n
  induction n with
  | zero =>
    intro m y d b hb
    show (st_82_9 1 _ m y d).2 b = d b
    unfold st_82_9
    split
    · split
      · exact g116 _ _ b hb
      · funext j
        show mset _ _ _ _ b j = d b j
        rw [ms_a (by omega), ms_a (by omega), ms_a (by omega)]
    · exact g116 _ _ b hb
  | succ n ih =>
    intro m y d b hb
    show (st_82_9 1 _ m y d).2 b = d b
    unfold st_82_9
    split
    · split
      · exact g116 _ _ b hb
      · rw [ih _ _ _ b hb]
        funext j
        rw [ms_a (by omega), ms_a (by omega), ms_a (by omega)]
    · exact g116 _ _ b hb
theorem fr82 {d : mD} : ∀ b, (b < 1 ∨ 63 < b) → g_82 1 d b = d b := fun b hb => by
  unfold g_82 f_82
  exact fr82l _ _ _ _ b hb
theorem opDep {E : mO × tW} {d : mD} {n : Int} (hT : TKL E) (hI : Inv E d) : OPR d (g_333 0 n 778 d) (g_287 769 n (g_333 0 n 778 d)) (v_333 0 n 778 d) (v_287 769 n (g_333 0 n 778 d)) := by
  obtain ⟨hS, hh, hi⟩ := id hI
  have hk := hi.1
  obtain ⟨hg, hw, hp, ht, hr⟩ := id hk
  have fu : d 1 1 = d 770 1 := hr.1.1
  have n1 := hg.1.2.2.2.2.2.2.1
  unfold v_333 g_333
  rw [n641, n01, if12, if12, fu]
  by_cases c1 : 1 ≤ n ∧ n ≤ 9999
  · rw [if_pos c1, if_pos c1]
    by_cases c2 : (99999 : Int) < d 770 1 + n
    · rw [if_pos c2, if_pos c2]
      have e : g_287 769 n d = mset d 769 0 2 := by
        unfold g_287
        rw [v176, if_pos c1, if_neg (by decide), show (769 : Int) + 1 = 770 by decide, if_pos c2]
      rw [e]
      exact OPR.fail hi (by decide)
    · rw [if_neg c2, if_neg c2]
      obtain ⟨kS, kh, kk, kf⟩ := hI.keep hT
      obtain ⟨a1, a2⟩ := setFund (v := d 770 1 + n) hg kk.2.2.2.2 (by omega)
      have xa := wsX (i := 1) (v := d 770 1 + n) hg.1 (Or.inl (by decide))
      obtain ⟨w1, w2⟩ := xa.1 hw hp
      obtain ⟨s0, s1, s2, s3⟩ := settle a1 a2
      have xr := settleX a1 a2
      obtain ⟨y1, y2⟩ := xr.1 w1 w2
      have f2 : ∀ b, (b < 1 ∨ 63 < b) → g_82 1 (mset (g_2 64 1 d) 1 1 (d 770 1 + n)) b = mset (g_2 64 1 d) 1 1 (d 770 1 + n) b := fr82
      have hU : ∀ k, (k < 1 ∨ 63 < k) → g_82 1 (mset (g_2 64 1 d) 1 1 (d 770 1 + n)) k = g_2 64 1 d k := fun k hk => by
        rw [f2 k hk]
        funext j
        exact ms_a (by omega)
      obtain ⟨r0, r1⟩ := rowK hT hI hU (g_82 1 (mset (g_2 64 1 d) 1 1 (d 770 1 + n)) 1 1)
      refine OPR.ok hI hU (W := W_219 (ws (d 770) 1 (d 770 1 + n))) ⟨s1, y1, y2, by rw [xr.2, xa.2]; exact ht, s2⟩ (fun m => m.fr (fun u u0 u1 => ⟨by rw [s3 _ (by omega) (by omega) (by omega) (by omega), wsn (by omega)], by rw [s3 _ (by omega) (by omega) (by omega) (by omega), wsn (by omega)]⟩)) ?_ ?_ (by have a := s2.1.1; have b := s1.1.2.2.2.2.2.2.1; rw [a]; omega)
      · unfold g_287
        rw [v176, if_pos c1, if_neg (by decide), show (769 : Int) + 1 = 770 by decide, r0, if_neg c2, mset_row, r1, m_g_219, rset_rset, rset_at]
      · unfold v_287
        rw [v176, if_pos c1, if_neg (by decide), show (769 : Int) + 1 = 770 by decide, r0, if_neg c2, mset_row, r1, m_g_219, rset_at, rset_at]
        exact s2.1.1
  · rw [if_neg c1, if_neg c1]
    have e : g_287 769 n d = mset d 769 0 1 := by
      unfold g_287
      rw [v176, if_neg c1, if_pos rfl]
    rw [e]
    exact OPR.fail hi (by decide)
/-! ===== merge ===== -/
theorem pairLe {x y : Int} (a : x = y) (e : 0 ≤ y ∧ y ≤ 16) : -100000 ≤ x ∧ x ≤ 100000 := by omega
theorem opMerge {E : mO × tW} {d : mD} {a b : Int} (hT : TKL E) (hI : Inv E d) : OPR d (g_334 0 a b 778 d) (g_288 769 a b (g_334 0 a b 778 d)) (v_334 0 a b 778 d) (v_288 769 a b (g_334 0 a b 778 d)) := by
  obtain ⟨hS, hh, hi⟩ := id hI
  have hk := hi.1
  obtain ⟨hg, hw, hp, ht, hr⟩ := id hk
  have o7 : d 3 0 = d 770 7 := hr.2.1.1
  have n7 := hg.1.1
  unfold v_334 g_334
  rw [n641, n01, show (1 : Int) + 2 = 3 by decide, show (3 : Int) + 5 = 8 by decide, show (3 : Int) + 6 = 9 by decide, o7, ifR, ifR, ifR, ifR]
  by_cases c1 : 0 ≤ a ∧ a < d 770 7
  · rw [if_pos c1, if_pos c1]
    by_cases c2 : 0 ≤ b ∧ b < d 770 7
    · rw [if_pos c2, if_pos c2]
      have oa : d 8 a = d 770 (12 + 68 * a + 4) := (hr.2.1.2 a c1.1 c1.2).2.2.2.2.1
      have ob : d 8 b = d 770 (12 + 68 * b + 4) := (hr.2.1.2 b c2.1 c2.2).2.2.2.2.1
      rw [oa, ob]
      have v270 : ∀ D : mD, D 770 = d 770 → v_270 769 a b D = if a = b then 0 else if d 770 (12 + 68 * a + 4) = 0 then 0 else if d 770 (12 + 68 * b + 4) = 0 then 0 else 1 := fun D hD => by
        unfold v_270
        rw [show (769 : Int) + 1 = 770 by decide, hD]
      by_cases c3 : ¬ a = b ∧ ¬ d 770 (12 + 68 * a + 4) = 0 ∧ ¬ d 770 (12 + 68 * b + 4) = 0
      · obtain ⟨c3, c4, c5⟩ := c3
        rw [if_neg c3, if_neg c4, if_neg c5, if_neg c3, if_neg c4, if_neg c5]
        obtain ⟨kS, kh, kk, kf⟩ := hI.keep hT
        have oo : d 770 (12 + 68 * b + 4) = 1 := by
          rcases (hg.2.1 b c2.1 c2.2).2.2.2.1 with z | z
          · exact absurd z c5
          · exact z
        obtain ⟨j1, j2, j3⟩ := merge hg kk.2.2.2.2 c1 c2 c3 oo
        have xr := mergeX hg j3
        obtain ⟨x1, x2⟩ := xr.1 hw hp
        obtain ⟨-, f1, -⟩ := p_63 (E := E) (x0 := 1) (x1 := a) (x2 := b) kS s1B (by omega) (by omega) ⟨hT.t 6 1 (by decide), trivial, trivial, trivial⟩ kh
        have hU : ∀ k, (k < 1 ∨ 63 < k) → g_63 1 a b (g_2 64 1 d) k = g_2 64 1 d k := fun k hk => f1 k (by omega)
        obtain ⟨r0, r1⟩ := rowK hT hI hU (g_63 1 a b (g_2 64 1 d) 9 b)
        have w7 : W_229 a b (d 770) 7 = d 770 7 := j3 7 (by decide) (by decide)
        refine OPR.ok hI hU (W := W_229 a b (d 770)) ⟨j1, x1, x2, by rw [xr.2]; exact ht, j2⟩ (fun m => m.fr (fun u u0 u1 => ⟨j3 _ (by omega) (by omega), j3 _ (by omega) (by omega)⟩)) ?_ ?_ (by have a := (j2.2.1.2 b c2.1 (by omega)).2.2.2.2.2; have e := (j1.2.1 b c2.1 (by omega)).2.2.2.2.1; exact pairLe a e)
        · unfold g_288
          rw [v236, v236, v270 _ r0, r0, if_pos c1, if_neg (by decide), if_pos c2, if_neg (by decide), if_neg c3, if_neg c4, if_neg c5, if_neg (by decide), m_g_229, r1]
        · unfold v_288
          rw [v236, v236, v270 _ r0, r0, if_pos c1, if_neg (by decide), if_pos c2, if_neg (by decide), if_neg c3, if_neg c4, if_neg c5, if_neg (by decide), m_g_229, r1, show (769 : Int) + 1 = 770 by decide, rset_at]
          exact (j2.2.1.2 b c2.1 (by omega)).2.2.2.2.2
      · have ev : (if a = b then (2 : Int) else if d 770 (12 + 68 * a + 4) = 0 then 2 else if d 770 (12 + 68 * b + 4) = 0 then 2 else 0) = 2 := by
          by_cases z : a = b
          · rw [if_pos z]
          · rw [if_neg z]
            by_cases z2 : d 770 (12 + 68 * a + 4) = 0
            · rw [if_pos z2]
            · rw [if_neg z2]
              by_cases z3 : d 770 (12 + 68 * b + 4) = 0
              · rw [if_pos z3]
              · exact absurd ⟨z, z2, z3⟩ c3
        have eg : ∀ u : mD, (if a = b then d else if d 770 (12 + 68 * a + 4) = 0 then d else if d 770 (12 + 68 * b + 4) = 0 then d else u) = d := fun u => by
          by_cases z : a = b
          · rw [if_pos z]
          · rw [if_neg z]
            by_cases z2 : d 770 (12 + 68 * a + 4) = 0
            · rw [if_pos z2]
            · rw [if_neg z2]
              by_cases z3 : d 770 (12 + 68 * b + 4) = 0
              · rw [if_pos z3]
              · exact absurd ⟨z, z2, z3⟩ c3
        have er : (if a = b then (0 : Int) else if d 770 (12 + 68 * a + 4) = 0 then 0 else if d 770 (12 + 68 * b + 4) = 0 then 0 else 1) = 0 := by
          by_cases z : a = b
          · rw [if_pos z]
          · rw [if_neg z]
            by_cases z2 : d 770 (12 + 68 * a + 4) = 0
            · rw [if_pos z2]
            · rw [if_neg z2]
              by_cases z3 : d 770 (12 + 68 * b + 4) = 0
              · rw [if_pos z3]
              · exact absurd ⟨z, z2, z3⟩ c3
        rw [ev, eg]
        have e : g_288 769 a b d = mset d 769 0 2 := by
          unfold g_288
          rw [v236, v236, v270 d rfl, if_pos c1, if_neg (by decide), if_pos c2, if_neg (by decide), er, if_pos rfl]
        rw [e]
        exact OPR.fail hi (by decide)
    · rw [if_neg c2, if_neg c2]
      have e : g_288 769 a b d = mset d 769 0 1 := by
        unfold g_288
        rw [v236, v236, if_pos c1, if_neg (by decide), if_neg c2, if_pos rfl]
      rw [e]
      exact OPR.fail hi (by decide)
  · rw [if_neg c1, if_neg c1]
    have e : g_288 769 a b d = mset d 769 0 1 := by
      unfold g_288
      rw [v236, if_neg c1, if_pos rfl]
    rw [e]
    exact OPR.fail hi (by decide)
/-! ===== reopen ===== -/
theorem openCnt {d : mD} {w : Row} {x1 : Int} (hg : GG w) (h : Rel 1 d w) : ∀ (n : Nat) (a x : Int), 0 ≤ x → w 7 - x ≤ (n : Int) → (LP_289_64 x1 n a x w) = (lp_37_4 3 n a x d, w) := by
  have o7 : d 3 0 = w 7 := h.2.1.1
  intro n
  induction n with
  | zero =>
    intro a x h0 hn
    show ST_289_64 x1 _ a x w = (st_37_4 3 _ a x d, w)
    unfold ST_289_64 st_37_4
    rw [o7, if_neg (by omega), if_neg (by omega)]
  | succ n ih =>
    intro a x h0 hn
    show ST_289_64 x1 _ a x w = (st_37_4 3 _ a x d, w)
    unfold ST_289_64 st_37_4
    rw [o7, show (3 : Int) + 5 = 8 by decide]
    by_cases c : x < w 7
    · rw [if_pos c, if_pos c]
      have oa : d 8 x = w (12 + 68 * x + 4) := (h.2.1.2 x h0 c).2.2.2.2.1
      rw [oa]
      rcases (hg.2.1 x h0 c).2.2.2.1 with z | z
      · rw [z, if_pos rfl]
        exact ih _ _ (by omega) (by omega)
      · rw [z, if_neg (by decide)]
        exact ih _ _ (by omega) (by omega)
    · rw [if_neg c, if_neg c]
theorem b37 {d : mD} : ∀ (n : Nat) (a x : Int), 0 ≤ a → 0 ≤ lp_37_4 3 n a x d ∧ lp_37_4 3 n a x d ≤ a + n := by
  intro n
  induction n with
  | zero =>
    intro a x h
    show 0 ≤ st_37_4 3 _ a x d ∧ st_37_4 3 _ a x d ≤ _
    unfold st_37_4
    repeat' split
    · show 0 ≤ (0 : Int) ∧ (0 : Int) ≤ _
      omega
    · show 0 ≤ (0 : Int) ∧ (0 : Int) ≤ _
      omega
    · omega
  | succ n ih =>
    intro a x h
    show 0 ≤ st_37_4 3 _ a x d ∧ st_37_4 3 _ a x d ≤ _
    unfold st_37_4
    split
    · split
      · have := ih (a + 0) (x + 1) (by omega)
        omega
      · have := ih (a + 1) (x + 1) (by omega)
        omega
    · omega
theorem opOpen {E : mO × tW} {d : mD} {o : Int} (hT : TKL E) (hI : Inv E d) : OPR d (g_335 0 o 778 d) (g_289 769 o (g_335 0 o 778 d)) (v_335 0 o 778 d) (v_289 769 o (g_335 0 o 778 d)) := by
  obtain ⟨hS, hh, hi⟩ := id hI
  have hk := hi.1
  obtain ⟨hg, hw, hp, ht, hr⟩ := id hk
  have o7 : d 3 0 = d 770 7 := hr.2.1.1
  have n7 := hg.1.1
  unfold v_335 g_335
  rw [n641, n01, show (1 : Int) + 2 = 3 by decide, show (3 : Int) + 5 = 8 by decide, o7, ifR, ifR]
  by_cases c1 : 0 ≤ o ∧ o < d 770 7
  · rw [if_pos c1, if_pos c1]
    have oa : d 8 o = d 770 (12 + 68 * o + 4) := (hr.2.1.2 o c1.1 c1.2).2.2.2.2.1
    rw [oa]
    by_cases c2 : d 770 (12 + 68 * o + 4) = 0
    · rw [if_pos c2, if_pos c2]
      obtain ⟨kS, kh, kk, kf⟩ := hI.keep hT
      obtain ⟨j1, j2⟩ := setOpen hg kk.2.2.2.2 c1
      have j2 : Rel 1 (mset (g_2 64 1 d) 8 o 1) (ws (d 770) (12 + 68 * o + 4) 1) := j2
      have xr := wsX (i := 12 + 68 * o + 4) (v := 1) hg.1 (Or.inr (Or.inl (by omega)))
      obtain ⟨x1, x2⟩ := xr.1 hw hp
      have hU : ∀ k, (k < 1 ∨ 63 < k) → mset (g_2 64 1 d) 8 o 1 k = g_2 64 1 d k := fun k hk => by
        funext j
        exact ms_a (by omega)
      obtain ⟨r0, r1⟩ := rowK hT hI hU (v_37 3 (mset (g_2 64 1 d) 8 o 1))
      have n7' := j1.1.1
      have oc := openCnt (x1 := o) j1 j2 (6 - 0 : Int).toNat 0 0 (by decide) (by omega)
      have e : f_289 769 o (mset (mset (g_2 64 1 d) 8 o 1) 778 0 (v_37 3 (mset (g_2 64 1 d) 8 o 1))) = (v_37 3 (mset (g_2 64 1 d) 8 o 1), rset (g_278 769 (mset (mset (mset (g_2 64 1 d) 8 o 1) 778 0 (v_37 3 (mset (g_2 64 1 d) 8 o 1))) 769 0 0)) (ws (d 770) (12 + 68 * o + 4) 1)) := by
        unfold f_289
        rw [v236, show (769 : Int) + 1 = 770 by decide, r0, if_pos c1, if_neg (by decide), if_pos c2, mset_row, r1, m_lp_289_64, rset_at, oc]
        unfold pr
        rw [rset_rset]
        rfl
      refine OPR.ok hI hU (W := ws (d 770) (12 + 68 * o + 4) 1) ⟨j1, x1, x2, by rw [xr.2]; exact ht, j2⟩ (fun m => m.fr (fun u u0 u1 => ⟨wsn (by omega), wsn (by omega)⟩)) ?_ ?_ (by have := b37 (d := mset (g_2 64 1 d) 8 o 1) (6 - 0 : Int).toNat 0 0 (by decide); unfold v_37; omega)
      · unfold g_289
        rw [e]
      · unfold v_289
        rw [e]
    · rw [if_neg c2, if_neg c2]
      have e : g_289 769 o d = mset d 769 0 2 := by
        unfold g_289 f_289
        rw [v236, show (769 : Int) + 1 = 770 by decide, if_pos c1, if_neg (by decide), if_neg c2]
      rw [e]
      exact OPR.fail hi (by decide)
  · rw [if_neg c1, if_neg c1]
    have e : g_289 769 o d = mset d 769 0 1 := by
      unfold g_289 f_289
      rw [v236, if_neg c1, if_pos rfl]
    rw [e]
    exact OPR.fail hi (by decide)
/-! ===== set ===== -/
theorem olds_r {k : Int} (h : 0 ≤ k ∧ k < 5) : (k = 0 ∧ olds 0 k = 0 ∧ olds 1 k = 9) ∨ (k = 1 ∧ olds 0 k = 0 ∧ olds 1 k = 3) ∨ (k = 2 ∧ olds 0 k = 1 ∧ olds 1 k = 9) ∨ (k = 3 ∧ olds 0 k = 1 ∧ olds 1 k = 20) ∨ (k = 4 ∧ olds 0 k = 1 ∧ olds 1 k = 99) := by
  have : k = 0 ∨ k = 1 ∨ k = 2 ∨ k = 3 ∨ k = 4 := by omega
  rcases this with h | h | h | h | h <;> subst h <;> decide
theorem GN.set {w : Row} {k v : Int} (hg : GN w) (hk : 0 ≤ k ∧ k < 5) (hv : olds 0 k ≤ v ∧ v ≤ olds 1 k) : GN (ws w (2 + k) v) := by
  unfold GN at hg ⊢
  obtain ⟨h1, h2, h3, h4, h5, h6, h7, h8, h9, h10, h11, h12, h13⟩ := hg
  unfold ws
  rcases olds_r hk with ⟨z, a, b⟩ | ⟨z, a, b⟩ | ⟨z, a, b⟩ | ⟨z, a, b⟩ | ⟨z, a, b⟩ <;> subst z <;> rw [a, b] at hv <;> simp <;> omega
theorem oldB {d : mD} {w : Row} {k : Int} (hg : GG w) (h : Rel 1 d w) (hk : 0 ≤ k ∧ k < 5) : -100000 ≤ d 2 k ∧ d 2 k ≤ 100000 := by
  have e : d 2 k = w (2 + k) := h.1.2.2 k hk.1 hk.2
  obtain ⟨-, -, -, -, -, -, -, g2, g3, g4, g5, g6, g7⟩ := hg.1
  have : k = 0 ∨ k = 1 ∨ k = 2 ∨ k = 3 ∨ k = 4 := by omega
  rcases this with z | z | z | z | z
  · subst z
    have e : d 2 0 = w 2 := e
    omega
  · subst z
    have e : d 2 1 = w 3 := e
    omega
  · subst z
    have e : d 2 2 = w 4 := e
    omega
  · subst z
    have e : d 2 3 = w 5 := e
    omega
  · subst z
    have e : d 2 4 = w 6 := e
    omega
theorem opSet {E : mO × tW} {d : mD} {k v : Int} (hT : TKL E) (hI : Inv E d) : OPR d (g_337 0 k v 778 d) (g_293 769 k v (g_337 0 k v 778 d)) (v_337 0 k v 778 d) (v_293 769 k v (g_337 0 k v 778 d)) := by
  obtain ⟨hS, hh, hi⟩ := id hI
  have hk := hi.1
  obtain ⟨hg, hw, hp, ht, hr⟩ := id hk
  unfold v_337 g_337
  rw [n641, n01, show (1 : Int) + 1 = 2 by decide, ifR, ifR]
  have v04 : ∀ D, v_176 k 0 4 D = if 0 ≤ k ∧ k < 5 then 1 else 0 := fun D => by
    rw [v176]
    by_cases c : 0 ≤ k ∧ k < 5
    · rw [if_pos c, if_pos (by omega)]
    · rw [if_neg c, if_neg (by omega)]
  by_cases c1 : 0 ≤ k ∧ k < 5
  · rw [if_pos c1, if_pos c1]
    by_cases c2 : olds 0 k ≤ v ∧ v ≤ olds 1 k
    · rw [if_neg (by omega), if_neg (by omega), if_neg (by omega), if_neg (by omega)]
      obtain ⟨kS, kh, kk, kf⟩ := hI.keep hT
      obtain ⟨j1, j2⟩ := setSet hg kk.2.2.2.2 c1 (hg.1.set c1 c2)
      have j2 : Rel 1 (mset (g_2 64 1 d) 2 k v) (ws (d 770) (2 + k) v) := j2
      have xr := wsX (i := 2 + k) (v := v) hg.1 (Or.inl (by omega))
      obtain ⟨x1, x2⟩ := xr.1 hw hp
      have hU : ∀ i, (i < 1 ∨ 63 < i) → mset (g_2 64 1 d) 2 k v i = g_2 64 1 d i := fun i hi => by
        funext j
        exact ms_a (by omega)
      obtain ⟨r0, r1⟩ := rowK hT hI hU (d 2 k)
      refine OPR.ok hI hU (W := ws (d 770) (2 + k) v) ⟨j1, x1, x2, by rw [xr.2]; exact ht, j2⟩ (fun m => m.fr (fun u u0 u1 => ⟨wsn (by omega), wsn (by omega)⟩)) ?_ ?_ (oldB hg hr c1)
      · unfold g_293
        rw [v04, if_pos c1, if_neg (by decide), old0 c1, old1 c1, v176, if_pos c2, if_neg (by decide), show (769 : Int) + 1 = 770 by decide, mset_row, r1]
      · unfold v_293
        rw [v04, if_pos c1, if_neg (by decide), old0 c1, old1 c1, v176, if_pos c2, if_neg (by decide), show (769 : Int) + 1 = 770 by decide, r0]
        exact hr.1.2.2 k c1.1 c1.2
    · have ev : (if v < olds 0 k then (1 : Int) else if olds 1 k < v then 1 else 0) = 1 := by
        by_cases z : v < olds 0 k
        · rw [if_pos z]
        · rw [if_neg z, if_pos (by omega)]
      have eg : ∀ u : mD, (if v < olds 0 k then d else if olds 1 k < v then d else u) = d := fun u => by
        by_cases z : v < olds 0 k
        · rw [if_pos z]
        · rw [if_neg z, if_pos (by omega)]
      rw [ev, eg]
      have e : g_293 769 k v d = mset d 769 0 1 := by
        unfold g_293
        rw [v04, if_pos c1, if_neg (by decide), old0 c1, old1 c1, v176, if_neg c2, if_pos rfl]
      rw [e]
      exact OPR.fail hi (by decide)
  · rw [if_neg c1, if_neg c1]
    have e : g_293 769 k v d = mset d 769 0 1 := by
      unfold g_293
      rw [v04, if_neg c1, if_pos rfl]
    rw [e]
    exact OPR.fail hi (by decide)
