/-! ===== a claim, a witness are read ===== -/
def rClaimX (e : mD) : Int := if g_199 769 1 e 769 13 = 0 then (if v_227 769 (v_201 769 (v_199 769 1 e) (g_199 769 1 e)) (g_199 769 1 e) = 0 then 0 else 1) else 0
def rClaim (e : mD) : mD := if v_196 769 (rClaimX e) (g_199 769 1 e) = 0 then g_196 769 (rClaimX e) (g_199 769 1 e) else g_228 769 (v_201 769 (v_199 769 1 e) (g_199 769 1 e)) (g_196 769 (rClaimX e) (g_199 769 1 e))
theorem readClaim {d0 e : mD} (h : Syn (g_52 577 d0) e) (hc : FrC d0 (g_52 577 d0)) (hk : OKR 580 d0 (e 770)) (hF : v_29 576 (g_52 577 d0) = 1 → ∀ b, (b < 580 ∨ 642 < b) → g_74 580 (g_29 576 (g_52 577 d0) 576 6) (g_29 576 (g_52 577 d0)) b = g_29 576 (g_52 577 d0) b) : LdFr d0 (g_22 576 d0) e (rClaim e) ∧ ((v_22 576 d0 = 1 ∧ Syn (g_22 576 d0) (rClaim e) ∧ OKR 580 (g_22 576 d0) (rClaim e 770)) ∨ (v_22 576 d0 = 0 ∧ Fail (g_22 576 d0) (rClaim e))) := by
  have hk1 := hk.frc hc
  have hG := hk.1
  generalize hw : e 770 = w at *
  unfold v_22 g_22 rClaim
  rw [show (576 : Int) + 1 = 577 by decide, show (576 : Int) + 4 = 580 by decide]
  generalize g_52 577 d0 = d at *
  obtain ⟨a1, a2, a3⟩ := takeTick h hk1.2.2.2.2.2.2.2.1 hk1.2.2.2.2.2.2.2.2.1 hw hG.1.2.1
  rcases a3 with ⟨v1, s1, m1, l0, l1, u1⟩ | ⟨v1, f1⟩
  · have hk2 := hk1.frc a1
    have w1 : g_199 769 1 e 770 = w := by rw [a2.1 770 (by decide)]; exact hw
    have n1 : ¬ v_29 576 d = 0 := by rw [v1]; decide
    have hF := hF v1
    have el : v_201 769 (v_199 769 1 e) (g_199 769 1 e) = V_201 (v_199 769 1 e) w := by rw [m_v_201, w1]
    have hx : rClaimX e = if V_227 (V_201 (v_199 769 1 e) w) w = 0 then 0 else 1 := by
      unfold rClaimX
      rw [if_pos s1.2.1, el, m_v_227, w1]
    rw [if_neg n1, if_neg n1, el]
    rw [m1] at hF ⊢
    obtain ⟨r1, r2⟩ := deedEnd (x := rClaimX e) s1
    generalize rClaimX e = x at *
    generalize V_201 (v_199 769 1 e) w = n at *
    generalize g_199 769 1 e = E at *
    have fcD := hc.trans a1
    generalize g_29 576 d = D at *
    obtain ⟨q1, q2, q3⟩ := canClaim hG hk2.2.2.2.2 ⟨l1, u1⟩
    rcases r2 with ⟨y1, y2, y3, y4⟩ | ⟨y1, y2, y3, y4, y5, y6⟩ | ⟨y1, y2, y3, y4, y5, y6, y7⟩
    · rw [if_pos y1, if_pos y1, if_pos y2]
      exact ⟨LdFr.of (fcD.trans y3) (a2.trans r1), Or.inr ⟨rfl, y4⟩⟩
    · have ny : ¬ v_30 576 D = 0 := by omega
      have vz : v_73 580 n D = 0 := by
        rw [q1]
        by_cases z : V_227 n w = 0
        · exact z
        · rw [if_neg z] at hx
          omega
      rw [if_neg ny, if_neg ny, y2, if_pos vz, if_pos vz, if_pos y4]
      exact ⟨LdFr.of (fcD.trans y5) (a2.trans r1), Or.inr ⟨rfl, y6⟩⟩
    · have ny : ¬ v_30 576 D = 0 := by omega
      have vz : ¬ V_227 n w = 0 := fun z => by
        rw [if_pos z] at hx
        exact y3 hx
      have vn : ¬ v_73 580 n D = 0 := by rw [q1]; exact vz
      have nx : ¬ v_196 769 x E = 0 := by omega
      rw [if_neg ny, if_neg ny, y2, if_neg vn, if_neg vn, if_neg nx]
      have cj := q3.1 (by omega)
      obtain ⟨-, j1, j2, -⟩ := claim hG hk2.2.2.2.2 ⟨l1, u1⟩ cj.1 cj.2 hk2.2.2.2.1
      have xr := claimX hG ⟨l1, u1⟩
      obtain ⟨x1, x2⟩ := xr.1 hk2.2.1 hk2.2.2.1
      have sD : Syn (g_74 580 n D) (g_189 769 E) := y6.c (hF 577 (by decide)) (hF 578 (by decide)) (hF 579 (by decide))
      obtain ⟨-, -, t1, t2, t3, -⟩ := takeSemi sD
      rw [← y5] at t2 t3 y7
      have wE : g_196 769 x E 770 = w := by rw [r1.1 770 (by decide)]; exact w1
      rcases t3 with ⟨t4, t5⟩ | ⟨-, t5⟩
      · rw [m_g_228, wE]
        have rn : ∀ u b, ¬ b = 770 → rset (g_196 769 x E) u b = g_196 769 x E b := fun u b hb => rset_ne hb
        refine ⟨⟨fun b hb => ?_, fun k y z => ?_, fun j hj => ?_⟩, Or.inl ⟨t4, ?_, ?_⟩⟩
        · rw [t1 b (by omega) (by omega), hF b (by omega), fcD b (by omega) (by omega)]
        · rw [rn _ k z, r1.1 k y, a2.1 k y]
        · rw [rn _ 769 (by decide), r1.2 j hj, a2.2 j hj]
        · exact t5.r (rn _ 769 (by decide)) (rn _ 776 (by decide))
        · rw [rset_at]
          exact OKR.frc ⟨j1, x1, x2, by rw [xr.2]; exact hk2.2.2.2.1, j2⟩ t1
      · exact absurd y7 t5.ne
  · rw [if_pos v1, if_pos v1]
    obtain ⟨z1, z2⟩ := bad196 (x := rClaimX e) f1.ne
    rw [z1, if_pos z2]
    exact ⟨LdFr.of (hc.trans a1) a2, Or.inr ⟨rfl, f1⟩⟩
def rWitE (e : mD) : mD := g_199 769 1 (g_199 769 0 e)
def rWitX (e : mD) : Int := if rWitE e 769 13 = 0 then (if v_234 769 (v_201 769 (v_199 769 1 (g_199 769 0 e)) (rWitE e)) (v_199 769 0 e) (rWitE e) = 0 then 1 else 0) else 0
def rWit (e : mD) : mD := if v_196 769 (rWitX e) (rWitE e) = 0 then g_196 769 (rWitX e) (rWitE e) else g_235 769 (v_201 769 (v_199 769 1 (g_199 769 0 e)) (rWitE e)) (v_199 769 0 e) (g_196 769 (rWitX e) (rWitE e))
theorem readWit {d0 e : mD} (h : Syn (g_52 577 d0) e) (hc : FrC d0 (g_52 577 d0)) (hk : OKR 580 d0 (e 770)) (hF : v_27 576 (g_52 577 d0) = 1 → v_29 576 (g_27 576 (g_52 577 d0)) = 1 → v_77 580 (g_29 576 (g_27 576 (g_52 577 d0)) 576 6) (g_27 576 (g_52 577 d0) 576 6) (g_29 576 (g_27 576 (g_52 577 d0))) = 0 → ∀ b, (b < 580 ∨ 642 < b) → g_75 580 (g_29 576 (g_27 576 (g_52 577 d0)) 576 6) (g_27 576 (g_52 577 d0) 576 6) (g_29 576 (g_27 576 (g_52 577 d0))) b = g_29 576 (g_27 576 (g_52 577 d0)) b) : LdFr d0 (g_23 576 d0) e (rWit e) ∧ ((v_23 576 d0 = 1 ∧ Syn (g_23 576 d0) (rWit e) ∧ OKR 580 (g_23 576 d0) (rWit e 770)) ∨ (v_23 576 d0 = 0 ∧ Fail (g_23 576 d0) (rWit e))) := by
  have hk1 := hk.frc hc
  have hG := hk.1
  generalize hw : e 770 = w at *
  unfold v_23 g_23 rWit
  rw [show (576 : Int) + 1 = 577 by decide, show (576 : Int) + 4 = 580 by decide]
  generalize g_52 577 d0 = d at *
  obtain ⟨b1, b2, b3⟩ := takePer h hk1.2.2.2.2.2.2.2.1 hw hG.1.2.1
  rcases b3 with ⟨v0, s0, m0, l0, u0⟩ | ⟨v0, f0⟩
  · have hk1' := hk1.frc b1
    have w0 : g_199 769 0 e 770 = w := by rw [b2.1 770 (by decide)]; exact hw
    obtain ⟨a1, a2, a3⟩ := takeTick s0 hk1'.2.2.2.2.2.2.2.1 hk1'.2.2.2.2.2.2.2.2.1 w0 hG.1.2.1
    have n0 : ¬ v_27 576 d = 0 := by rw [v0]; decide
    have hF := hF v0
    rw [if_neg n0, if_neg n0]
    rw [m0] at hF ⊢
    rcases a3 with ⟨v1, s1, m1, -, l1, u1⟩ | ⟨v1, f1⟩
    · have hk2 := hk1'.frc a1
      have w1 : rWitE e 770 = w := by
        show g_199 769 1 (g_199 769 0 e) 770 = w
        rw [a2.1 770 (by decide)]; exact w0
      have n1 : ¬ v_29 576 (g_27 576 d) = 0 := by rw [v1]; decide
      have hF := hF v1
      have el : v_201 769 (v_199 769 1 (g_199 769 0 e)) (rWitE e) = V_201 (v_199 769 1 (g_199 769 0 e)) w := by rw [m_v_201, w1]
      have s1 : Syn (g_29 576 (g_27 576 d)) (rWitE e) := s1
      have a2 : FrR (g_199 769 0 e) (rWitE e) := a2
      have hx : rWitX e = if V_234 (V_201 (v_199 769 1 (g_199 769 0 e)) w) (v_199 769 0 e) w = 0 then 1 else 0 := by
        unfold rWitX
        rw [if_pos s1.2.1, el, m_v_234, w1]
      rw [if_neg n1, if_neg n1, el]
      rw [m1] at hF ⊢
      obtain ⟨r1, r2⟩ := deedEnd (x := rWitX e) s1
      generalize rWitX e = x at *
      generalize V_201 (v_199 769 1 (g_199 769 0 e)) w = n at *
      generalize rWitE e = E at *
      generalize v_199 769 0 e = p at *
      have frE := b2.trans a2
      have fcD := (hc.trans b1).trans a1
      generalize g_29 576 (g_27 576 d) = D at *
      obtain ⟨q1, q2⟩ := hinder hG hk2.2.2.2.2 ⟨l1, u1⟩ ⟨l0, u0⟩
      rcases r2 with ⟨y1, y2, y3, y4⟩ | ⟨y1, y2, y3, y4, y5, y6⟩ | ⟨y1, y2, y3, y4, y5, y6, y7⟩
      · rw [if_pos y1, if_pos y1, if_pos y2]
        exact ⟨LdFr.of (fcD.trans y3) (frE.trans r1), Or.inr ⟨rfl, y4⟩⟩
      · have ny : ¬ v_30 576 D = 0 := by omega
        have vz : ¬ v_77 580 n p D = 0 := by
          rw [q1]
          intro z
          rw [if_pos z] at hx
          omega
        rw [if_neg ny, if_neg ny, y2, if_neg vz, if_neg vz, if_pos y4]
        exact ⟨LdFr.of (fcD.trans y5) (frE.trans r1), Or.inr ⟨rfl, y6⟩⟩
      · have ny : ¬ v_30 576 D = 0 := by omega
        have vz : V_234 n p w = 0 := by
          by_cases z : V_234 n p w = 0
          · exact z
          · rw [if_neg z] at hx
            exact absurd hx y3
        have vn : v_77 580 n p D = 0 := by rw [q1]; exact vz
        have hF := hF vn
        have nx : ¬ v_196 769 x E = 0 := by omega
        rw [if_neg ny, if_neg ny, y2, if_pos vn, if_pos vn, if_neg nx]
        obtain ⟨-, j1, j2, -⟩ := attest hG hk2.2.2.2.2 ⟨l1, u1⟩ ⟨l0, u0⟩ vz hk2.2.2.2.1
        have xr := attestX (p := p) hG ⟨l1, u1⟩ ⟨l0, u0⟩
        obtain ⟨x1, x2⟩ := xr.1 hk2.2.1 hk2.2.2.1
        have sD : Syn (g_75 580 n p D) (g_189 769 E) := y6.c (hF 577 (by decide)) (hF 578 (by decide)) (hF 579 (by decide))
        obtain ⟨-, -, t1, t2, t3, -⟩ := takeSemi sD
        rw [← y5] at t2 t3 y7
        have wE : g_196 769 x E 770 = w := by rw [r1.1 770 (by decide)]; exact w1
        rcases t3 with ⟨t4, t5⟩ | ⟨-, t5⟩
        · rw [m_g_235, wE]
          have rn : ∀ u b, ¬ b = 770 → rset (g_196 769 x E) u b = g_196 769 x E b := fun u b hb => rset_ne hb
          refine ⟨⟨fun b hb => ?_, fun k y z => ?_, fun j hj => ?_⟩, Or.inl ⟨t4, ?_, ?_⟩⟩
          · rw [t1 b (by omega) (by omega), hF b (by omega), fcD b (by omega) (by omega)]
          · rw [rn _ k z, r1.1 k y, frE.1 k y]
          · rw [rn _ 769 (by decide), r1.2 j hj, frE.2 j hj]
          · exact t5.r (rn _ 769 (by decide)) (rn _ 776 (by decide))
          · rw [rset_at]
            exact OKR.frc ⟨j1, x1, x2, by rw [xr.2]; exact hk2.2.2.2.1, j2⟩ t1
        · exact absurd y7 t5.ne
    · have f1 : Fail (g_29 576 (g_27 576 d)) (rWitE e) := f1
      rw [if_pos v1, if_pos v1]
      obtain ⟨z1, z2⟩ := bad196 (x := rWitX e) f1.ne
      rw [z1, if_pos z2]
      exact ⟨LdFr.of ((hc.trans b1).trans a1) (b2.trans a2), Or.inr ⟨rfl, f1⟩⟩
  · have eE : rWitE e = g_199 769 0 e := bad199 f0.ne
    rw [if_pos v0, if_pos v0, eE]
    obtain ⟨z1, z2⟩ := bad196 (x := rWitX e) f0.ne
    rw [z1, if_pos z2]
    exact ⟨LdFr.of (hc.trans b1) b2, Or.inr ⟨rfl, f0⟩⟩
