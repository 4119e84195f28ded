/-! ===== a person is read ===== -/
theorem f47 {c : Int} {d : mD} (h0 : 0 ≤ d 590 0) : ∀ b, (b < 590 ∨ 642 < b) → g_47 590 c d b = d b := fun b hb => by
  unfold g_47
  split
  · have eh : g_8 (590 + 6 + (1 + 2 * d 590 0)) = fun e => mfl e (598 + 2 * d 590 0) 0 16 := by
      funext e
      unfold g_8 g_300
      rw [show 590 + 6 + (1 + 2 * d 590 0) + 1 = 598 + 2 * d 590 0 by omega]
    rw [eh]
    funext j
    simp (disch := omega) only [ms_a, fl_n]
  · rfl
theorem personTail {d e : mD} (h : Syn d e) : FrR e (g_195 769 e) ∧ ((v_31 576 d = 1 ∧ Syn (g_31 576 d) (g_195 769 e) ∧ FrC d (g_31 576 d)) ∨ (v_31 576 d = 0 ∧ FrC d (g_31 576 d) ∧ Fail (g_31 576 d) (g_195 769 e))) := by
  obtain ⟨-, -, c4, r4, o4, -⟩ := takeSemi h
  rcases o4 with ⟨v4, s4⟩ | ⟨v4, f4⟩
  · exact ⟨r4, Or.inl ⟨v4, s4, c4⟩⟩
  · exact ⟨r4, Or.inr ⟨v4, c4, f4⟩⟩
theorem readPer {d0 e : mD} (h : Syn (g_52 577 d0) e) (hc : FrC d0 (g_52 577 d0)) (hk : OKR 580 d0 (e 770)) (h8 : e 770 8 < 16) : LdFr d0 (g_18 576 d0) e (g_203 769 e) ∧ ((v_18 576 d0 = 1 ∧ Syn (g_18 576 d0) (g_203 769 e) ∧ OKR 580 (g_18 576 d0) (g_203 769 e 770) ∧ g_203 769 e 770 8 = e 770 8 + 1 ∧ ∀ i, ¬ i = 8 → ¬ (420 ≤ i ∧ i < 452) → g_203 769 e 770 i = e 770 i) ∨ (v_18 576 d0 = 0 ∧ Fail (g_18 576 d0) (g_203 769 e))) := by
  have o8 : d0 590 0 = e 770 8 := hk.2.2.2.2.2.2.2.1.1
  have hk1 := hk.frc hc
  have rP := hk1.2.2.2.2.2.2.2.1
  have n8 := hk.1.1.2.1
  generalize hw : e 770 = w at *
  unfold v_18 g_18
  rw [show (576 : Int) + 1 = 577 by decide, show (576 : Int) + 4 + 10 = 590 by decide, o8, if_pos h8, if_pos h8]
  generalize g_52 577 d0 = d at *
  obtain ⟨n1, n2, n3, n4⟩ := takeName h
  have w1 : g_198 769 e 770 = w := by rw [n2.1 770 (by decide)]; exact hw
  have er : v_183 769 (v_198 769 e) (g_198 769 e) = V_183 (v_198 769 e) w := by rw [m_v_183, w1]
  rcases n4 with ⟨o1, o2, o3, o4, o5⟩ | ⟨o1, o2, o3, o4⟩
  · have hne : ¬ v_56 577 d = -1 := by
      have := o1.1
      omega
    have ff : v_48 590 (v_56 577 d) d = V_183 (v_198 769 e) w := by
      rw [o5]
      exact findP (s := 580) rP o1
    have n26 : ¬ v_26 576 d = 0 := by rw [o2]; decide
    rw [if_neg hne, if_neg hne, ff]
    by_cases c : V_183 (v_198 769 e) w = -1
    · rw [if_pos c, if_pos c, if_neg n26, if_neg n26]
      obtain ⟨t2, t3⟩ := personTail o3
      have gr : g_203 769 e = if g_195 769 (g_198 769 e) 769 13 = 0 then g_182 769 (v_198 769 e) (g_195 769 (g_198 769 e)) else g_195 769 (g_198 769 e) := by
        unfold g_203
        rw [if_pos o3.2.1, er, if_pos c]
      rw [gr]
      rcases t3 with ⟨f1, f3, f4⟩ | ⟨f1, f4, f3⟩
      · have n31 : ¬ v_31 576 (g_26 576 d) = 0 := by rw [f1]; decide
        rw [if_pos f3.2.1, if_neg n31, if_neg n31, o4]
        generalize g_195 769 (g_198 769 e) = E at *
        generalize g_31 576 (g_26 576 d) = D at *
        have hD := (hk1.frc n1).frc f4
        have wE : E 770 = w := by rw [t2.1 770 (by decide)]; exact w1
        have D0 : D 590 0 = w 8 := hD.2.2.2.2.2.2.2.1.1
        obtain ⟨a1, a2, a3, a4, a5⟩ := addP (c := v_56 577 d) hD.1 hD.2.1 hD.2.2.2.2 h8 o1
        have gp := addPX (c := nm (v_56 577 d)) hD.1 h8 hD.2.2.1
        have fr := f47 (c := v_56 577 d) (d := D) (by omega)
        rw [m_g_182, wE, o5]
        have r7 : ∀ u, rset E u 770 = u := fun u => rset_at E u
        have rn : ∀ u b, ¬ b = 770 → rset E u b = E b := fun u b hb => rset_ne hb
        refine ⟨⟨fun b hb => ?_, fun k x y => ?_, fun j hj => ?_⟩, Or.inl ⟨rfl, ?_, ?_, ?_, ?_⟩⟩
        · rw [fr b (by omega), f4 b (by omega) (by omega), n1 b (by omega) (by omega), hc b (by omega) (by omega)]
        · rw [rn _ k y, t2.1 k x, n2.1 k x]
        · rw [rn _ 769 (by decide), t2.2 j hj, n2.2 j hj]
        · exact (f3.c (fr 577 (by decide)) (fr 578 (by decide)) (fr 579 (by decide))).r (rn _ 769 (by decide)) (rn _ 776 (by decide))
        · rw [r7]
          exact ⟨a1, a2, gp, by rw [a5 0 (by decide) (by decide)]; exact hD.2.2.2.1, a3⟩
        · rw [r7]; exact a4
        · intro i x y
          rw [r7]
          exact a5 i x y
      · rw [if_neg f3.ne, if_pos f1, if_pos f1]
        exact ⟨LdFr.of ((hc.trans n1).trans f4) (n2.trans t2), Or.inr ⟨rfl, f3⟩⟩
    · rw [if_neg c, if_neg c]
      obtain ⟨b1, b2⟩ := flt188 (c := 3) (p := d 577 2) o3.2.1
      obtain ⟨c1, c2, c3⟩ := fail32 (c := 3) (d := d)
      have gr : g_203 769 e = g_188 769 3 (d 577 2) (g_198 769 e) := by
        unfold g_203
        rw [if_pos o3.2.1, er, if_neg c, n3, bad195 b1.ne, if_neg b1.ne]
      rw [gr]
      exact ⟨LdFr.of (hc.trans c3) (n2.trans b2), Or.inr ⟨rfl, 3, d 577 2, c1, c2, b1⟩⟩
  · rw [if_pos o1, if_pos o1, if_pos o2, if_pos o2]
    have gr : g_203 769 e = g_198 769 e := by
      unfold g_203
      rw [if_neg o3.ne, bad195 o3.ne, if_neg o3.ne]
    rw [gr]
    exact ⟨LdFr.of (hc.trans n1) n2, Or.inr ⟨rfl, o3⟩⟩
