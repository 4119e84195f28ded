/-! ===== both readers side by side: who is meant ===== -/
theorem wordK {w code k : Int} (hk : tsl w = k) (hk2 : 4 ≤ k ∧ k ≤ 7) (hc : wc (fun i => tsc w i) 0 (tsl w).toNat = code) (h0 : 97 ≤ tsc w 0 ∧ tsc w 0 ≤ 122) (h1 : 97 ≤ tsc w 1 ∧ tsc w 1 ≤ 122) (h2 : 97 ≤ tsc w 2 ∧ tsc w 2 ≤ 122) (h3 : 97 ≤ tsc w 3 ∧ tsc w 3 ≤ 122) (h4 : 4 < k → 97 ≤ tsc w 4 ∧ tsc w 4 ≤ 122) (h5 : 5 < k → 97 ≤ tsc w 5 ∧ tsc w 5 ≤ 122) (h6 : 6 < k → 97 ≤ tsc w 6 ∧ tsc w 6 ≤ 122) : wordOK w code := by
  refine ⟨hc, by omega, fun i x y => ?_⟩
  rw [hk] at y
  have : i = 0 ∨ i = 1 ∨ i = 2 ∨ i = 3 ∨ i = 4 ∨ i = 5 ∨ i = 6 := by omega
  rcases this with z | z | z | z | z | z | z
  · rw [z]; exact h0
  · rw [z]; exact h1
  · rw [z]; exact h2
  · rw [z]; exact h3
  · rw [z]; exact h4 (by omega)
  · rw [z]; exact h5 (by omega)
  · rw [z]; exact h6 (by omega)
theorem word0 : wordOK 0 40216062 := wordK (k := 6) (by decide) (by decide) (by decide) (by decide) (by decide) (by decide) (by decide) (fun _ => by decide) (fun _ => by decide) (fun z => absurd z (by decide))
theorem word1 : wordOK 1 218546996 := wordK (k := 6) (by decide) (by decide) (by decide) (by decide) (by decide) (by decide) (by decide) (fun _ => by decide) (fun _ => by decide) (fun z => absurd z (by decide))
theorem word2 : wordOK 2 232608281 := wordK (k := 6) (by decide) (by decide) (by decide) (by decide) (by decide) (by decide) (by decide) (fun _ => by decide) (fun _ => by decide) (fun z => absurd z (by decide))
theorem word3 : wordOK 3 208022 := wordK (k := 4) (by decide) (by decide) (by decide) (by decide) (by decide) (by decide) (by decide) (fun z => absurd z (by decide)) (fun z => absurd z (by decide)) (fun z => absurd z (by decide))
theorem word4 : wordOK 4 316189 := wordK (k := 4) (by decide) (by decide) (by decide) (by decide) (by decide) (by decide) (by decide) (fun z => absurd z (by decide)) (fun z => absurd z (by decide)) (fun z => absurd z (by decide))
theorem word5 : wordOK 5 1831504 := wordK (k := 5) (by decide) (by decide) (by decide) (by decide) (by decide) (by decide) (by decide) (fun _ => by decide) (fun z => absurd z (by decide)) (fun z => absurd z (by decide))
theorem word6 : wordOK 6 9050719969 := wordK (k := 7) (by decide) (by decide) (by decide) (by decide) (by decide) (by decide) (by decide) (fun _ => by decide) (fun _ => by decide) (fun _ => by decide)
theorem Syn.c {d d' e : mD} (h : Syn d e) (e7 : d' 577 = d 577) (e8 : d' 578 = d 578) (e9 : d' 579 = d 579) : Syn d' e := by
  unfold Syn
  rw [e7, e8, e9]
  exact h
theorem g26_6 {d e : mD} (h : Syn d e) (hv : ¬ v_56 577 d = -1) : g_26 576 d 576 6 = d 576 6 := by
  obtain ⟨tx, b13, bt, bl, tk⟩ := h
  have hz := tk.z bl.2.1
  have := bl.1
  unfold g_26
  rw [show (576 : Int) + 1 = 577 by decide, if_neg hv, (adv (L := d 578 1) (d := mset d 576 5 (v_56 577 d)) (by rw [ms_a (by decide)]) tx.1.2 (by rw [ms_a (by decide)]; omega) (by rw [ms_a (by decide)]; exact hz.2)).1 576 (by decide), ms_i (by decide)]
theorem v56_c {d : mD} {v : Int} : v_56 577 (mset d 576 6 v) = v_56 577 d := by
  have st : ∀ (r r' : Int → Int → mD → Int) (a b x y : Int), (∀ x y, r x y (mset d 576 6 v) = r' x y d) → st_93_20 578 a b r x y (mset d 576 6 v) = st_93_20 578 a b r' x y d := fun r r' a b x y hr => by
    unfold st_93_20 v_91
    rw [ms_a (by decide : ¬ (578 : Int) + 1 = 576), hr]
  have lp : ∀ (a b : Int) (n : Nat) (x y : Int), lp_93_20 578 a b n x y (mset d 576 6 v) = lp_93_20 578 a b n x y d := by
    intro a b n
    induction n with
    | zero => intro x y; exact st _ _ a b x y (fun _ _ => rfl)
    | succ n ih => intro x y; exact st _ _ a b x y ih
  unfold v_56 v_93
  rw [ms_a (by decide : ¬ (577 : Int) = 576), ms_a (by decide : ¬ (577 : Int) = 576), ms_a (by decide : ¬ (577 : Int) = 576), show (577 : Int) + 1 = 578 by decide, lp]
-- a person by his name
theorem takePer {d e : mD} {w : Row} (h : Syn d e) (hr : RelP 580 d w) (hw : e 770 = w) (h8 : 0 ≤ w 8 ∧ w 8 ≤ 16) : FrC d (g_27 576 d) ∧ FrR e (g_199 769 0 e) ∧ ((v_27 576 d = 1 ∧ Syn (g_27 576 d) (g_199 769 0 e) ∧ g_27 576 d 576 6 = v_199 769 0 e ∧ 0 ≤ v_199 769 0 e ∧ v_199 769 0 e < w 8) ∨ (v_27 576 d = 0 ∧ Fail (g_27 576 d) (g_199 769 0 e))) := by
  generalize hf : v_48 590 (v_56 577 d) d = f
  have ev : v_27 576 d = if v_56 577 d = -1 then v_26 576 (mset d 576 6 f) else if f = -1 then 0 else v_26 576 (mset d 576 6 f) := by
    unfold v_27
    rw [show (576 : Int) + 1 = 577 by decide, show (576 : Int) + 4 + 10 = 590 by decide, hf, v56_c]
    rfl
  have eg : g_27 576 d = if v_56 577 d = -1 then g_26 576 (mset d 576 6 f) else if f = -1 then g_32 576 4 (mset d 576 6 f) else g_26 576 (mset d 576 6 f) := by
    unfold g_27
    rw [show (576 : Int) + 1 = 577 by decide, show (576 : Int) + 4 + 10 = 590 by decide, hf, v56_c]
  have h6 : Syn (mset d 576 6 f) e := h.c (by funext j; exact ms_a (by decide)) (by funext j; exact ms_a (by decide)) (by funext j; exact ms_a (by decide))
  have c6 : FrC d (mset d 576 6 f) := fun b x y => by funext j; exact ms_a x
  obtain ⟨n1, n2, n3, n4⟩ := takeName h6
  rw [v56_c] at n4
  have s2 : mset d 576 6 f 577 2 = d 577 2 := ms_a (by decide)
  rw [s2] at n3
  have w1 : g_198 769 e 770 = w := by rw [n2.1 770 (by decide)]; exact hw
  have er : v_183 769 (v_198 769 e) (g_198 769 e) = V_183 (v_198 769 e) w := by rw [m_v_183, w1]
  have gr : g_199 769 0 e = if V_183 (v_198 769 e) w = -1 then g_188 769 4 (d 577 2) (g_198 769 e) else g_198 769 e := by
    unfold g_199
    rw [er, n3, if_pos rfl]
  rcases n4 with ⟨o1, o2, o3, o4, o5⟩ | ⟨o1, o2, o3, o4⟩
  · have hne : ¬ v_56 577 d = -1 := by
      have := o1.1
      omega
    have ff : f = V_183 (v_198 769 e) w := by
      rw [← hf, o5]
      exact findP (s := 580) hr o1
    rw [if_neg hne] at ev eg
    by_cases c : f = -1
    · rw [if_pos c] at ev eg
      rw [if_pos (by rw [← ff]; exact c)] at gr
      obtain ⟨b1, b2⟩ := flt188 (c := 4) (p := d 577 2) o3.2.1
      obtain ⟨c1, c2, c3⟩ := fail32 (c := 4) (d := mset d 576 6 f)
      rw [s2] at c2
      rw [eg, gr]
      exact ⟨fun b x y => by rw [c3 b x y, c6 b x y], n2.trans b2, Or.inr ⟨ev, 4, d 577 2, c1, c2, b1⟩⟩
    · rw [if_neg c] at ev eg
      rw [if_neg (by rw [← ff]; exact c)] at gr
      have vr : v_199 769 0 e = f := by
        unfold v_199
        rw [er, ← ff, if_neg c, if_pos rfl, if_pos o3.2.1]
      have rg := V183_rng (m := v_198 769 e) (w := w) h8
      rw [← ff] at rg
      rw [eg, gr, vr]
      exact ⟨fun b x y => by rw [n1 b x y, c6 b x y], n2, Or.inl ⟨by rw [ev]; exact o2, o3, by rw [g26_6 h6 (by rw [v56_c]; exact hne), ms_e rfl rfl], by omega, by omega⟩⟩
  · rw [if_pos o1] at ev eg
    obtain ⟨c, p, q1, q2, q3⟩ := o3
    have stay : ∀ x, g_188 769 4 x (g_198 769 e) = g_198 769 e := fun x => by
      unfold g_188
      rw [if_neg (by rw [q3.1]; decide)]
    have gr2 : g_199 769 0 e = g_198 769 e := by
      rw [gr, stay]
      split <;> rfl
    rw [eg, gr2]
    exact ⟨fun b x y => by rw [n1 b x y, c6 b x y], n2, Or.inr ⟨by rw [ev]; exact o2, c, p, q1, q2, q3⟩⟩
