/-! ===== a pass is read ===== -/
def rPassX (e : mD) : Int := if (999 : Int) < g_197 769 1 99 e 770 0 + v_197 769 1 99 e then 0 else 1
def rPass (e : mD) : mD := if v_196 769 (rPassX e) (g_197 769 1 99 e) = 0 then g_196 769 (rPassX e) (g_197 769 1 99 e) else rset (g_196 769 (rPassX e) (g_197 769 1 99 e)) (hoursW (v_197 769 1 99 e).toNat (g_196 769 (rPassX e) (g_197 769 1 99 e) 770))
theorem readPass {d0 e : mD} (h : Syn (g_52 577 d0) e) (hc : FrC d0 (g_52 577 d0)) (hk : OKR 580 d0 (e 770)) (hF : v_25 576 1 99 (g_52 577 d0) = 1 → ∀ b, (b < 580 ∨ 642 < b) → g_68 580 (g_25 576 1 99 (g_52 577 d0) 576 4) (g_25 576 1 99 (g_52 577 d0)) b = g_25 576 1 99 (g_52 577 d0) b) : LdFr d0 (g_21 576 d0) e (rPass e) ∧ ((v_21 576 d0 = 1 ∧ Syn (g_21 576 d0) (rPass e) ∧ OKR 580 (g_21 576 d0) (rPass e 770)) ∨ (v_21 576 d0 = 0 ∧ Fail (g_21 576 d0) (rPass e))) := by
  have hk1 := hk.frc hc
  have hG := hk.1
  generalize hw : e 770 = w at *
  unfold v_21 g_21 rPass
  rw [show (576 : Int) + 1 = 577 by decide, show (576 : Int) + 4 = 580 by decide]
  generalize g_52 577 d0 = d at *
  obtain ⟨a1, a2, a3⟩ := takeNum (lo := 1) (hi := 99) h
  rcases a3 with ⟨v1, s1, m1, l1, u1⟩ | ⟨v1, f1, -⟩
  · have hk2 := hk1.frc a1
    have w1 : g_197 769 1 99 e 770 = w := by rw [a2.1 770 (by decide)]; exact hw
    have n1 : ¬ v_25 576 1 99 d = 0 := by rw [v1]; decide
    have hF := hF v1
    rw [if_neg n1, if_neg n1]
    rw [m1] at hF ⊢
    have hx : rPassX e = if (999 : Int) < w 0 + v_197 769 1 99 e then 0 else 1 := by
      unfold rPassX
      rw [w1]
    obtain ⟨r1, r2⟩ := deedEnd (x := rPassX e) s1
    generalize rPassX e = x at *
    generalize v_197 769 1 99 e = n at *
    generalize g_197 769 1 99 e = E at *
    have fcD := hc.trans a1
    generalize g_25 576 1 99 d = D at *
    have t0 : D 580 2 = w 0 := hk2.2.2.2.2.1.2.1
    have vc : v_67 580 n D = if (999 : Int) < w 0 + n then 0 else 1 := by
      unfold v_67
      rw [t0]
    rcases r2 with ⟨y1, y2, y3, y4⟩ | ⟨y1, y2, y3, y4, y5, y6⟩ | ⟨y1, y2, y3, y4, y5, y6, y7⟩
    · rw [if_pos y1, if_pos y1, if_pos y2]
      exact ⟨LdFr.of (fcD.trans y3) (a2.trans r1), Or.inr ⟨rfl, y4⟩⟩
    · have ny : ¬ v_30 576 D = 0 := by omega
      have vz : v_67 580 n D = 0 := by
        rw [vc, ← hx]
        exact y3
      rw [if_neg ny, if_neg ny, y2, if_pos vz, if_pos vz, if_pos y4]
      exact ⟨LdFr.of (fcD.trans y5) (a2.trans r1), Or.inr ⟨rfl, y6⟩⟩
    · have ny : ¬ v_30 576 D = 0 := by omega
      have vn : ¬ v_67 580 n D = 0 := by rw [vc, ← hx]; exact y3
      have tl : w 0 + n ≤ 999 := by
        by_cases z : (999 : Int) < w 0 + n
        · rw [if_pos z] at hx
          exact absurd hx y3
        · omega
      have nx : ¬ v_196 769 x E = 0 := by omega
      rw [if_neg ny, if_neg ny, y2, if_neg vn, if_neg vn, if_neg nx]
      obtain ⟨-, j1, j2, j3, -, j5⟩ := passHours (s := 580) (N := n) (d := D) (by omega) hG hk2.2.2.2.2 (by omega)
      obtain ⟨x1, x2⟩ := j5 hk2.2.1 hk2.2.2.1
      have sD : Syn (g_68 580 n D) (g_189 769 E) := y6.c (hF 577 (by decide)) (hF 578 (by decide)) (hF 579 (by decide))
      obtain ⟨-, -, t1, t2, t3, -⟩ := takeSemi sD
      rw [← y5] at t2 t3 y7
      have wE : g_196 769 x E 770 = w := by rw [r1.1 770 (by decide)]; exact w1
      rcases t3 with ⟨t4, t5⟩ | ⟨-, t5⟩
      · rw [wE]
        have rn : ∀ u b, ¬ b = 770 → rset (g_196 769 x E) u b = g_196 769 x E b := fun u b hb => rset_ne hb
        refine ⟨⟨fun b hb => ?_, fun k y z => ?_, fun j hj => ?_⟩, Or.inl ⟨t4, ?_, ?_⟩⟩
        · rw [t1 b (by omega) (by omega), hF b (by omega), fcD b (by omega) (by omega)]
        · rw [rn _ k z, r1.1 k y, a2.1 k y]
        · rw [rn _ 769 (by decide), r1.2 j hj, a2.2 j hj]
        · exact t5.r (rn _ 769 (by decide)) (rn _ 776 (by decide))
        · rw [rset_at]
          exact OKR.frc ⟨j1, x1, x2, by rw [j3]; exact tl, j2⟩ t1
      · exact absurd y7 t5.ne
  · rw [if_pos v1, if_pos v1]
    obtain ⟨z1, z2⟩ := bad196 (x := rPassX e) f1.ne
    rw [z1, if_pos z2]
    exact ⟨LdFr.of (hc.trans a1) a2, Or.inr ⟨rfl, f1⟩⟩
