/-! ===== an office is read ===== -/
theorem f35 {c x y z : Int} {d : mD} : ∀ b, ¬ (582 ≤ b ∧ b ≤ 588) → g_35 582 c x y z d b = d b := fun b hb => by
  unfold g_35
  split
  · funext j
    simp (disch := omega) only [ms_a]
  · rfl
theorem Syn.r {d e e' : mD} (h : Syn d e) (e1 : e' 769 = e 769) (e2 : e' 776 = e 776) : Syn d e' := by
  unfold Syn TX
  rw [e1, e2]
  exact h
theorem OKR.frc {d d' : mD} {w : Row} (h : OKR 580 d w) (hc : FrC d d') : OKR 580 d' w := h.fr (fun b x y => hc b (by omega) (by omega))
def LdFr (d0 d e0 e : mD) : Prop := (∀ b, (b < 576 ∨ 642 < b ∨ b = 578 ∨ b = 579) → d b = d0 b) ∧ (∀ k, ¬ k = 769 → ¬ k = 770 → e k = e0 k) ∧ ∀ j, j < 10 ∨ 16 < j → e 769 j = e0 769 j
theorem LdFr.of {d0 d e0 e : mD} (h : FrC d0 d) (g : FrR e0 e) : LdFr d0 d e0 e := ⟨fun b hb => h b (by omega) (by omega), fun k x _ => g.1 k x, g.2⟩
theorem readOff {d0 e : mD} (h : Syn (g_52 577 d0) e) (hc : FrC d0 (g_52 577 d0)) (hk : OKR 580 d0 (e 770)) (hz : GZ (e 770)) (h9 : e 770 9 = 0) (h10 : e 770 10 = 0) (h7 : e 770 7 < 6) : LdFr d0 (g_16 576 d0) e (g_202 769 e) ∧ ((v_16 576 d0 = 1 ∧ Syn (g_16 576 d0) (g_202 769 e) ∧ OKR 580 (g_16 576 d0) (g_202 769 e 770) ∧ GZ (g_202 769 e 770) ∧ g_202 769 e 770 7 = e 770 7 + 1 ∧ g_202 769 e 770 8 = e 770 8 ∧ g_202 769 e 770 9 = 0 ∧ g_202 769 e 770 10 = 0) ∨ (v_16 576 d0 = 0 ∧ Fail (g_16 576 d0) (g_202 769 e))) := by
  have o7 : d0 582 0 = e 770 7 := hk.2.2.2.2.2.1.1
  have hk1 := hk.frc hc
  have rO := hk1.2.2.2.2.2.1
  generalize hw : e 770 = w at *
  unfold v_16 g_16
  rw [show (576 : Int) + 1 = 577 by decide, show (576 : Int) + 4 + 2 = 582 by decide, o7, if_pos h7, if_pos h7]
  generalize g_52 577 d0 = d at *
  obtain ⟨n1, n2, n3, n4⟩ := takeName h
  have w1 : g_198 769 e 770 = w := by rw [n2.1 770 (by decide)]; exact hw
  have er : v_184 769 (v_198 769 e) (g_198 769 e) = V_184 (v_198 769 e) w := by rw [m_v_184, w1]
  rcases n4 with ⟨o1, o2, o3, o4, o5⟩ | ⟨o1, o2, o3, o4⟩
  · have hne : ¬ v_56 577 d = -1 := by
      have := o1.1
      omega
    have ff : v_36 582 (v_56 577 d) d = V_184 (v_198 769 e) w := by
      rw [o5]
      exact findO (s := 580) rO o1
    have n26 : ¬ v_26 576 d = 0 := by rw [o2]; decide
    rw [if_neg hne, if_neg hne, ff]
    by_cases c : V_184 (v_198 769 e) w = -1
    · rw [if_pos c, if_pos c, if_neg n26, if_neg n26]
      obtain ⟨F, t1, t2, t3⟩ := officeTail o3 (g_35 582 (g_26 576 d 576 5) (g_25 576 1 4 (g_26 576 d) 576 4) (g_25 576 1 6 (g_25 576 1 4 (g_26 576 d)) 576 4) (g_25 576 1 20 (g_25 576 1 6 (g_25 576 1 4 (g_26 576 d))) 576 4) (g_31 576 (g_25 576 1 20 (g_25 576 1 6 (g_25 576 1 4 (g_26 576 d))))))
      rw [t1]
      have gr : g_202 769 e = if g_195 769 (g_197 769 1 20 (g_197 769 1 6 (g_197 769 1 4 (g_198 769 e)))) 769 13 = 0 then g_181 769 (v_198 769 e) (v_197 769 1 4 (g_198 769 e)) (v_197 769 1 6 (g_197 769 1 4 (g_198 769 e))) (v_197 769 1 20 (g_197 769 1 6 (g_197 769 1 4 (g_198 769 e)))) (g_195 769 (g_197 769 1 20 (g_197 769 1 6 (g_197 769 1 4 (g_198 769 e))))) else g_195 769 (g_197 769 1 20 (g_197 769 1 6 (g_197 769 1 4 (g_198 769 e)))) := by
        unfold g_202
        rw [if_pos o3.2.1, er, if_pos c]
      rw [gr]
      rcases t3 with ⟨f1, f2, f3, f4, ⟨m1, m2, m3⟩, ⟨m4, m5, m6⟩, m7, m8, m9⟩ | ⟨f1, f2, f3⟩
      · rw [if_pos f3.2.1, f2, f1, m1, m4, m7, o4]
        generalize v_197 769 1 4 (g_198 769 e) = x1 at *
        generalize v_197 769 1 6 (g_197 769 1 4 (g_198 769 e)) = x2 at *
        generalize v_197 769 1 20 (g_197 769 1 6 (g_197 769 1 4 (g_198 769 e))) = x3 at *
        generalize g_195 769 (g_197 769 1 20 (g_197 769 1 6 (g_197 769 1 4 (g_198 769 e)))) = E at *
        generalize g_31 576 (g_25 576 1 20 (g_25 576 1 6 (g_25 576 1 4 (g_26 576 d)))) = D at *
        have hD := (hk1.frc n1).frc f4
        have wE : E 770 = w := by rw [t2.1 770 (by decide)]; exact w1
        obtain ⟨a1, a2, a3, a4, a5⟩ := addO (c := v_56 577 d) (a1 := x1) (a2 := x2) (a3 := x3) hD.1 hz hD.2.2.2.2 h7 h9 h10 o1 ⟨m2, m3⟩ ⟨m5, m6⟩ ⟨m8, m9⟩
        have xr := addOX hD.1 a5
        obtain ⟨x4, x5⟩ := xr.1 hD.2.1 hD.2.2.1
        rw [m_g_181, wE, o5]
        have r7 : ∀ u, rset E u 770 = u := fun u => by unfold rset; simp
        have rn : ∀ u b, ¬ b = 770 → rset E u b = E b := fun u b hb => by unfold rset; simp [hb]
        refine ⟨⟨fun b hb => ?_, fun k x y => ?_, fun j hj => ?_⟩, Or.inl ⟨rfl, ?_, ?_, ?_, ?_, ?_, ?_, ?_⟩⟩
        · rw [f35 b (by omega), f4 b (by omega) (by omega), n1 b (by omega) (by omega), hc b (by omega) (by omega)]
        · rw [rn _ k y, t2.1 k x, n2.1 k x]
        · rw [rn _ 769 (by decide), t2.2 j hj, n2.2 j hj]
        · exact (f3.c (f35 577 (by decide)) (f35 578 (by decide)) (f35 579 (by decide))).r (rn _ 769 (by decide)) (rn _ 776 (by decide))
        · rw [r7]
          exact ⟨a1, x4, x5, by rw [xr.2]; exact hD.2.2.2.1, a3⟩
        · rw [r7]; exact a2
        · rw [r7]; exact a4
        · rw [r7]; exact a5 8 (by decide) (by decide)
        · rw [r7, a5 9 (by decide) (by decide)]; exact h9
        · rw [r7, a5 10 (by decide) (by decide)]; exact h10
      · rw [if_neg f3.ne, f1]
        exact ⟨LdFr.of ((hc.trans n1).trans f2) (n2.trans t2), Or.inr ⟨rfl, f3⟩⟩
    · rw [if_neg c, if_neg c]
      obtain ⟨b1, b2⟩ := flt188 (c := 3) (p := d 577 2) o3.2.1
      obtain ⟨c1, c2, c3⟩ := fail32 (c := 3) (d := d)
      have gr : g_202 769 e = g_188 769 3 (d 577 2) (g_198 769 e) := by
        unfold g_202
        rw [if_pos o3.2.1, er, if_neg c, n3, bad197 b1.ne, bad197 b1.ne, bad197 b1.ne, bad195 b1.ne, if_neg b1.ne]
      rw [gr]
      exact ⟨LdFr.of (hc.trans c3) (n2.trans b2), Or.inr ⟨rfl, 3, d 577 2, c1, c2, b1⟩⟩
  · rw [if_pos o1, if_pos o1, if_pos o2, if_pos o2]
    have gr : g_202 769 e = g_198 769 e := by
      unfold g_202
      rw [if_neg o3.ne, bad197 o3.ne, bad197 o3.ne, bad197 o3.ne, bad195 o3.ne, if_neg o3.ne]
    rw [gr]
    exact ⟨LdFr.of (hc.trans n1) n2, Or.inr ⟨rfl, o3⟩⟩
