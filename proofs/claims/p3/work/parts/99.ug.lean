/-! ===== the head of a text ===== -/
theorem OKR.empty {s : Int} {d : mD} {w : Row} (h0 : w 0 = 0) (h1 : 0 ≤ w 1 ∧ w 1 ≤ 99999) (h2 : 0 ≤ w 2 ∧ w 2 ≤ 9) (h3 : 0 ≤ w 3 ∧ w 3 ≤ 3) (h4 : 1 ≤ w 4 ∧ w 4 ≤ 9) (h5 : 1 ≤ w 5 ∧ w 5 ≤ 20) (h6 : 1 ≤ w 6 ∧ w 6 ≤ 99) (h7 : w 7 = 0) (h8 : w 8 = 0) (h9 : w 9 = 0) (h10 : w 10 = 0) (h11 : w 11 = 0) (hA : RelA s d w) (z2 : d (s + 2) 0 = 0) (z10 : d (s + 10) 0 = 0) (z49 : d (s + 49) 0 = 0) (z57 : d (s + 57) 0 = 0) (z5 : d (s + 57) 5 = 0) : OKR s d w := by
  refine ⟨⟨⟨by omega, by omega, by omega, by omega, by omega, by omega, by omega, by omega, by omega, by omega, by omega, by omega⟩, fun o a b => by omega, fun o a b => by omega, fun o a b => by omega, fun o a b => by omega, fun o a b => by omega, ?_, fun k a b => by omega⟩, fun t a b => by omega, fun p a b => by omega, by omega, hA, ⟨by omega, fun o a b => by omega⟩, fun o a b => by omega, ⟨by omega, fun o a b => by omega⟩, ⟨by omega, fun o a b => by omega⟩, fun o a b => by omega, ⟨by omega, fun o a b => by omega⟩, ⟨by omega, fun o a b => by omega⟩, fun o a b => by omega, fun o a b => by omega⟩
  rw [h10, h11]
  rfl
def rEnd (L : Int) (X : mD) : mD := if X 769 13 = 0 then (if g_189 769 X 769 10 < L then g_188 769 1 (g_189 769 X 769 10) (g_189 769 X) else g_189 769 X) else X
def rBody (X : mD) : mD := g_205 769 (g_204 769 0 (g_204 769 1 X))
theorem bad204 {x : Int} {e : mD} (h : ¬ e 769 13 = 0) : g_204 769 x e = e := by
  unfold g_204
  rw [if_neg h]
  obtain ⟨r, er, -, -⟩ := r204 x (1000 - e 769 10 + 0 : Int).toNat
  rw [er]
  unfold st_204_13
  rw [if_pos rfl]
theorem bad205 {e : mD} (h : ¬ e 769 13 = 0) : g_205 769 e = e := by
  unfold g_205
  rw [if_neg h]
  obtain ⟨r, er, -, -⟩ := r205 (1000 - e 769 10 + 0 : Int).toNat
  rw [er]
  unfold st_205_13
  rw [if_pos rfl]
theorem badBody {e : mD} (h : ¬ e 769 13 = 0) : rBody e = e := by
  unfold rBody
  rw [bad204 h, bad204 h, bad205 h]
theorem badEnd {L : Int} {e : mD} (h : ¬ e 769 13 = 0) : rEnd L e = e := by
  unfold rEnd
  rw [if_neg h]
def rLast (e : mD) : mD := g_195 769 (mset (g_197 769 0 99999 e) 770 1 (v_197 769 0 99999 e))
theorem st206l {r : Int → mD → mD} {x : Int} {e : mD} (hx : ¬ x < 5) : st_206_53 769 r x e = rEnd (e 769 9) (rBody (rLast e)) := by
  unfold st_206_53 rEnd rBody rLast
  rw [if_neg hx, show (769 : Int) + 1 = 770 by decide]
theorem badHead : ∀ (n : Nat) (x : Int) (e : mD), ¬ e 769 13 = 0 → ∀ b, ¬ b = 770 → lp_206_53 769 n x e b = e b := by
  have last : ∀ (r : Int → mD → mD) (x : Int) (e : mD), ¬ x < 5 → ¬ e 769 13 = 0 → ∀ b, ¬ b = 770 → st_206_53 769 r x e b = e b := fun r x e hx h b hb => by
    have h1 : ∀ v, ¬ mset e 770 1 v 769 13 = 0 := fun v => by rw [ms_a (by decide)]; exact h
    rw [st206l hx]
    unfold rLast
    rw [bad197 h, bad195 (h1 _), badBody (h1 _), badEnd (h1 _)]
    funext j
    exact ms_a hb
  intro n
  induction n with
  | zero =>
    intro x e h b hb
    show st_206_53 769 _ x e b = e b
    by_cases c : x < 5
    · unfold st_206_53
      rw [if_pos c, bad197 h]
      funext j
      exact ms_a hb
    · exact last _ x e c h b hb
  | succ n ih =>
    intro x e h b hb
    show st_206_53 769 _ x e b = e b
    by_cases c : x < 5
    · unfold st_206_53
      rw [if_pos c, bad197 h, ih _ _ (by rw [ms_a (by decide)]; exact h) b hb]
      funext j
      exact ms_a hb
    · exact last _ x e c h b hb
theorem old0 {x : Int} {e : mD} (h : 0 ≤ x ∧ x < 5) : v_291 x e = olds 0 x := by
  have : x = 0 ∨ x = 1 ∨ x = 2 ∨ x = 3 ∨ x = 4 := by omega
  rcases this with h | h | h | h | h <;> subst h <;> rfl
theorem old1 {x : Int} {e : mD} (h : 0 ≤ x ∧ x < 5) : v_292 x e = olds 1 x := by
  have : x = 0 ∨ x = 1 ∨ x = 2 ∨ x = 3 ∨ x = 4 := by omega
  rcases this with h | h | h | h | h <;> subst h <;> rfl
def HD (x : Int) (d e : mD) : Prop := (∀ j, 0 ≤ j → j < x → d 581 j = e 770 (2 + j) ∧ olds 0 j ≤ e 770 (2 + j) ∧ e 770 (2 + j) ≤ olds 1 j) ∧ (∀ j, j = 0 ∨ (7 ≤ j ∧ j < 3116) → e 770 j = 0) ∧ d 580 2 = 0 ∧ d 582 0 = 0 ∧ d 590 0 = 0 ∧ d 629 0 = 0 ∧ d 637 0 = 0 ∧ d 637 5 = 0
theorem loopN : ∀ (n : Nat) (x : Int) (d e : mD), Syn d e → 0 ≤ x → x ≤ 5 → 5 - x ≤ (n : Int) → HD x d e → ((lp_14_13 576 n x d).1 = 1 ∧ ∃ X, LdFr d (lp_14_13 576 n x d).2 e X ∧ lp_206_53 769 n x e = rEnd (e 769 9) (rBody X) ∧ LO (lp_14_13 576 n x d).2 X 0) ∨ ((lp_14_13 576 n x d).1 = 0 ∧ LdFr d (lp_14_13 576 n x d).2 e (lp_206_53 769 n x e) ∧ Fail (lp_14_13 576 n x d).2 (lp_206_53 769 n x e)) := by
  have f8 : ∀ (d : mD) (a i v : Int), (a = 580 ∨ a = 581) → ∀ b, (b < 580 ∨ 581 < b) → mset d a i v b = d b := fun d a i v ha b hb => by
    funext j
    exact ms_a (by omega)
  have last : ∀ (r : Int → mD → Int × mD) (r' : Int → mD → mD) (x : Int) (d e : mD), Syn d e → x = 5 → HD x d e → ((st_14_13 576 r x d).1 = 1 ∧ ∃ X, LdFr d (st_14_13 576 r x d).2 e X ∧ st_206_53 769 r' x e = rEnd (e 769 9) (rBody X) ∧ LO (st_14_13 576 r x d).2 X 0) ∨ ((st_14_13 576 r x d).1 = 0 ∧ LdFr d (st_14_13 576 r x d).2 e (st_206_53 769 r' x e) ∧ Fail (st_14_13 576 r x d).2 (st_206_53 769 r' x e)) := fun r r' x d e hs hx ⟨h1, h2, h3, h4, h5, h6, h7, h8⟩ => by
    rw [st206l (by omega)]
    have ec : st_14_13 576 r x d = if v_25 576 0 99999 d = 0 then (0, g_25 576 0 99999 d) else (v_31 576 (mset (g_25 576 0 99999 d) 580 1 (g_25 576 0 99999 d 576 4)), g_31 576 (mset (g_25 576 0 99999 d) 580 1 (g_25 576 0 99999 d 576 4))) := by
      unfold st_14_13
      rw [if_neg (by omega), e580]
    rw [ec]
    obtain ⟨a1, a2, a3⟩ := takeNum (lo := 0) (hi := 99999) hs
    have fm : ∀ u : mD, ∀ b, ¬ b = 770 → mset u 770 1 (v_197 769 0 99999 e) b = u b := fun u b hb => by
      funext j
      exact ms_a hb
    rcases a3 with ⟨q1, q2, q3, q4, q5⟩ | ⟨q1, q2, q3⟩
    · rw [if_neg (by omega)]
      unfold rLast
      rw [q3]
      generalize hv : v_197 769 0 99999 e = v at *
      generalize g_197 769 0 99999 e = E1 at *
      generalize g_25 576 0 99999 d = D1 at *
      have fd : ∀ b, (b < 580 ∨ 581 < b) → mset D1 580 1 v b = D1 b := f8 D1 580 1 v (Or.inl rfl)
      have s2 : Syn (mset D1 580 1 v) (mset E1 770 1 v) := (q2.c (fd 577 (by decide)) (fd 578 (by decide)) (fd 579 (by decide))).r (fm _ 769 (by decide)) (fm _ 776 (by decide))
      obtain ⟨-, -, t1, t2, t3, -⟩ := takeSemi s2
      have fr : LdFr d (g_31 576 (mset D1 580 1 v)) e (g_195 769 (mset E1 770 1 v)) := ⟨fun b hb => by rw [t1 b (by omega) (by omega), fd b (by omega), a1 b (by omega) (by omega)], fun k y z => by rw [t2.1 k y, fm _ k z, a2.1 k y], fun j hj => by rw [t2.2 j hj, fm _ 769 (by decide), a2.2 j hj]⟩
      rcases t3 with ⟨t4, t5⟩ | ⟨t4, t5⟩
      · refine Or.inl ⟨t4, _, fr, rfl, t5, ?_⟩
        have wX : ∀ j, ¬ j = 1 → g_195 769 (mset E1 770 1 v) 770 j = e 770 j := fun j hj => by rw [t2.1 770 (by decide), ms_i hj, a2.1 770 (by decide)]
        have wX1 : g_195 769 (mset E1 770 1 v) 770 1 = v := by rw [t2.1 770 (by decide), ms_e rfl rfl]
        have dX : ∀ b, 581 < b → g_31 576 (mset D1 580 1 v) b = d b := fun b hb => by rw [t1 b (by omega) (by omega), fd b (by omega), a1 b (by omega) (by omega)]
        have d81 : g_31 576 (mset D1 580 1 v) 581 = d 581 := by
          rw [t1 581 (by decide) (by decide), ← a1 581 (by decide) (by decide)]
          funext j
          exact ms_a (by decide)
        have d802 : g_31 576 (mset D1 580 1 v) 580 2 = 0 := by rw [t1 580 (by decide) (by decide), ms_i (by decide), a1 580 (by decide) (by decide)]; exact h3
        have d801 : g_31 576 (mset D1 580 1 v) 580 1 = v := by rw [t1 580 (by decide) (by decide), ms_e rfl rfl]
        have wj : ∀ j, 0 ≤ j → j < 5 → olds 0 j ≤ g_195 769 (mset E1 770 1 v) 770 (2 + j) ∧ g_195 769 (mset E1 770 1 v) 770 (2 + j) ≤ olds 1 j := fun j u1 u2 => by
          rw [wX _ (by omega)]
          exact (h1 j u1 (by omega)).2
        have z : ∀ j, j = 0 ∨ (7 ≤ j ∧ j < 3116) → g_195 769 (mset E1 770 1 v) 770 j = 0 := fun j hj => by
          rw [wX _ (by omega)]
          exact h2 j hj
        show OKR 580 (g_31 576 (mset D1 580 1 v)) (g_195 769 (mset E1 770 1 v) 770) ∧ GZ (g_195 769 (mset E1 770 1 v) 770) ∧ g_195 769 (mset E1 770 1 v) 770 9 = 0 ∧ g_195 769 (mset E1 770 1 v) 770 10 = 0 ∧ g_195 769 (mset E1 770 1 v) 770 7 = 0 ∧ g_195 769 (mset E1 770 1 v) 770 8 = 0
        refine ⟨OKR.empty (z 0 (by decide)) (by rw [wX1]; omega) (wj 0 (by decide) (by decide)) (wj 1 (by decide) (by decide)) (wj 2 (by decide) (by decide)) (wj 3 (by decide) (by decide)) (wj 4 (by decide) (by decide)) (z 7 (by decide)) (z 8 (by decide)) (z 9 (by decide)) (z 10 (by decide)) (z 11 (by decide)) ⟨by rw [d801, wX1], by rw [d802, z 0 (by decide)], fun k u1 u2 => ?_⟩ ?_ ?_ ?_ ?_ ?_, fun o u1 u2 => by
          have := z 7 (by decide)
          exact ⟨z _ (by omega), z _ (by omega)⟩, z 9 (by decide), z 10 (by decide), z 7 (by decide), z 8 (by decide)⟩
        · rw [show (580 : Int) + 1 = 581 by decide, d81, wX _ (by omega)]
          exact (h1 k u1 (by omega)).1
        · rw [show (580 : Int) + 2 = 582 by decide, dX 582 (by decide)]; exact h4
        · rw [show (580 : Int) + 10 = 590 by decide, dX 590 (by decide)]; exact h5
        · rw [show (580 : Int) + 49 = 629 by decide, dX 629 (by decide)]; exact h6
        · rw [show (580 : Int) + 57 = 637 by decide, dX 637 (by decide)]; exact h7
        · rw [show (580 : Int) + 57 = 637 by decide, dX 637 (by decide)]; exact h8
      · rw [badBody t5.ne, badEnd t5.ne]
        exact Or.inr ⟨t4, fr, t5⟩
    · rw [if_pos q1]
      have n1 : ¬ mset (g_197 769 0 99999 e) 770 1 (v_197 769 0 99999 e) 769 13 = 0 := by rw [fm _ 769 (by decide)]; exact q2.ne
      unfold rLast
      rw [bad195 n1, badBody n1, badEnd n1]
      refine Or.inr ⟨rfl, ⟨fun b hb => a1 b (by omega) (by omega), fun k y z => by rw [fm _ k z, a2.1 k y], fun j hj => by rw [fm _ 769 (by decide), a2.2 j hj]⟩, ?_⟩
      obtain ⟨c, p, k1, k2, k3⟩ := q2
      refine ⟨c, p, k1, k2, ?_⟩
      unfold BadR
      rw [fm _ 769 (by decide)]
      exact k3
  intro n
  induction n with
  | zero =>
    intro x d e hs h0 h1 hn hh
    exact last _ _ x d e hs (by omega) hh
  | succ n ih =>
    intro x d e hs h0 h1 hn hh
    by_cases c : x < 5
    · have ec : lp_14_13 576 (n + 1) x d = if v_25 576 (olds 0 x) (olds 1 x) d = 0 then (0, g_25 576 (olds 0 x) (olds 1 x) d) else lp_14_13 576 n (x + 1) (mset (g_25 576 (olds 0 x) (olds 1 x) d) 581 x (g_25 576 (olds 0 x) (olds 1 x) d 576 4)) := by
        show st_14_13 576 _ x d = _
        unfold st_14_13
        rw [if_pos c, show (576 : Int) + 4 + 1 = 581 by decide]
      have er : lp_206_53 769 (n + 1) x e = lp_206_53 769 n (x + 1) (mset (g_197 769 (olds 0 x) (olds 1 x) e) 770 (2 + x) (v_197 769 (olds 0 x) (olds 1 x) e)) := by
        show st_206_53 769 _ x e = _
        unfold st_206_53
        rw [if_pos c, show (769 : Int) + 1 = 770 by decide, old0 ⟨h0, c⟩, old1 ⟨h0, c⟩]
      rw [ec, er]
      obtain ⟨a1, a2, a3⟩ := takeNum (lo := olds 0 x) (hi := olds 1 x) hs
      have fm : ∀ u : mD, ∀ b, ¬ b = 770 → mset u 770 (2 + x) (v_197 769 (olds 0 x) (olds 1 x) e) b = u b := fun u b hb => by
        funext j
        exact ms_a hb
      rcases a3 with ⟨q1, q2, q3, q4, q5⟩ | ⟨q1, q2, q3⟩
      · rw [if_neg (by omega), q3]
        generalize hv : v_197 769 (olds 0 x) (olds 1 x) e = v at *
        generalize g_197 769 (olds 0 x) (olds 1 x) e = E1 at *
        generalize g_25 576 (olds 0 x) (olds 1 x) d = D1 at *
        have fd : ∀ b, (b < 580 ∨ 581 < b) → mset D1 581 x v b = D1 b := f8 D1 581 x v (Or.inr rfl)
        have s2 : Syn (mset D1 581 x v) (mset E1 770 (2 + x) v) := (q2.c (fd 577 (by decide)) (fd 578 (by decide)) (fd 579 (by decide))).r (fm _ 769 (by decide)) (fm _ 776 (by decide))
        have fr : LdFr d (mset D1 581 x v) e (mset E1 770 (2 + x) v) := ⟨fun b hb => by rw [fd b (by omega), a1 b (by omega) (by omega)], fun k y z => by rw [fm _ k z, a2.1 k y], fun j hj => by rw [fm _ 769 (by decide), a2.2 j hj]⟩
        obtain ⟨g1, g2, g3, g4, g5, g6, g7, g8⟩ := hh
        have dX : ∀ b, 581 < b → mset D1 581 x v b = d b := fun b hb => by rw [fd b (by omega), a1 b (by omega) (by omega)]
        have hd : HD (x + 1) (mset D1 581 x v) (mset E1 770 (2 + x) v) := by
          refine ⟨fun j u1 u2 => ?_, fun j hj => ?_, ?_, by rw [dX 582 (by decide)]; exact g4, by rw [dX 590 (by decide)]; exact g5, by rw [dX 629 (by decide)]; exact g6, by rw [dX 637 (by decide)]; exact g7, by rw [dX 637 (by decide)]; exact g8⟩
          · by_cases y : j = x
            · subst y
              rw [ms_e rfl rfl, ms_e rfl rfl]
              exact ⟨rfl, q4, q5⟩
            · rw [ms_i y, ms_i (by omega), a1 581 (by decide) (by decide), a2.1 770 (by decide)]
              exact g1 j u1 (by omega)
          · rw [ms_i (by omega), a2.1 770 (by decide)]
            exact g2 j hj
          · rw [ms_a (by decide), a1 580 (by decide) (by decide)]
            exact g3
        have e9 : mset E1 770 (2 + x) v 769 9 = e 769 9 := fr.2.2 9 (by decide)
        rcases ih (x + 1) (mset D1 581 x v) (mset E1 770 (2 + x) v) s2 (by omega) (by omega) (by omega) hd with ⟨k1, X, k2, k3, k4⟩ | ⟨k1, k2, k3⟩
        · rw [e9] at k3
          exact Or.inl ⟨k1, X, fr.trans k2, k3, k4⟩
        · exact Or.inr ⟨k1, fr.trans k2, k3⟩
      · rw [if_pos q1]
        have n1 : ¬ mset (g_197 769 (olds 0 x) (olds 1 x) e) 770 (2 + x) (v_197 769 (olds 0 x) (olds 1 x) e) 769 13 = 0 := by rw [fm _ 769 (by decide)]; exact q2.ne
        have bh := badHead n (x + 1) _ n1
        refine Or.inr ⟨rfl, ⟨fun b hb => a1 b (by omega) (by omega), fun k y z => by rw [bh k z, fm _ k z, a2.1 k y], fun j hj => by rw [bh 769 (by decide), fm _ 769 (by decide), a2.2 j hj]⟩, ?_⟩
        obtain ⟨c, p, k1, k2, k3⟩ := q2
        refine ⟨c, p, k1, k2, ?_⟩
        unfold BadR
        rw [bh 769 (by decide), fm _ 769 (by decide)]
        exact k3
    · exact last _ _ x d e hs (by omega) hh
