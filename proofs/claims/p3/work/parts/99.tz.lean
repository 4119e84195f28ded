/-! ===== a join is read ===== -/
theorem f61 {p o : Int} {d : mD} : ∀ b, (b < 580 ∨ 642 < b) → g_61 580 p o d b = d b := fun b hb => by
  have f96 : ∀ b, (b < 580 ∨ 642 < b) → g_96 629 p o (d 580 2) d b = d b := fun b hb => by
    unfold g_96
    split
    · funext j
      simp (disch := omega) only [ms_a]
    · rfl
  have e588 : g_96 629 p o (d 580 2) d 588 o = d 588 o := by
    unfold g_96
    split
    · simp (disch := omega) only [ms_a]
    · rfl
  unfold g_61
  rw [show (580 : Int) + 49 = 629 by decide, show (580 : Int) + 2 = 582 by decide, show (582 : Int) + 6 = 588 by decide, ← f96 b hb]
  unfold g_40
  rw [show (582 : Int) + 6 = 588 by decide, e588]
  split
  · rfl
  · split
    · rfl
    · split
      · exact (lp40 (x0 := 582) (o := o) (p := d 588 o) (t := d 629 0) (d 588 o).toNat (d 588 o) (g_96 629 p o (d 580 2) d) (by omega) (by omega)).1 b (by omega) (by omega)
      · rfl
def rJoinX (e : mD) : Int := if g_200 769 (g_199 769 0 e) 769 13 = 0 then (if v_225 769 (v_199 769 0 e) (v_200 769 (g_199 769 0 e)) (g_200 769 (g_199 769 0 e)) = 0 then 0 else 1) else 0
def rJoin (e : mD) : mD := if v_196 769 (rJoinX e) (g_200 769 (g_199 769 0 e)) = 0 then g_196 769 (rJoinX e) (g_200 769 (g_199 769 0 e)) else g_226 769 (v_199 769 0 e) (v_200 769 (g_199 769 0 e)) (g_196 769 (rJoinX e) (g_200 769 (g_199 769 0 e)))
theorem bad198 {e : mD} (h : ¬ e 769 13 = 0) : g_198 769 e = e := by
  unfold g_198
  rw [if_neg h]
theorem bad188 {c p : Int} {e : mD} (h : ¬ e 769 13 = 0) : g_188 769 c p e = e := by
  unfold g_188
  rw [if_neg h]
theorem bad200 {e : mD} (h : ¬ e 769 13 = 0) : g_200 769 e = e := by
  unfold g_200
  rw [bad198 h, bad188 h]
  split <;> rfl
theorem bad199 {x : Int} {e : mD} (h : ¬ e 769 13 = 0) : g_199 769 x e = e := by
  unfold g_199
  rw [bad198 h, bad188 h]
  split
  · rfl
  · split
    · rfl
    · split <;> rfl
theorem bad196 {x : Int} {e : mD} (h : ¬ e 769 13 = 0) : g_196 769 x e = e ∧ v_196 769 x e = 0 := by
  unfold g_196 v_196
  rw [if_neg h, if_neg h, bad195 h, if_neg h]
  exact ⟨rfl, rfl⟩
theorem readJoin {d0 e : mD} (h : Syn (g_52 577 d0) e) (hc : FrC d0 (g_52 577 d0)) (hk : OKR 580 d0 (e 770)) : LdFr d0 (g_20 576 d0) e (rJoin e) ∧ ((v_20 576 d0 = 1 ∧ Syn (g_20 576 d0) (rJoin e) ∧ OKR 580 (g_20 576 d0) (rJoin e 770)) ∨ (v_20 576 d0 = 0 ∧ Fail (g_20 576 d0) (rJoin e))) := by
  have hk1 := hk.frc hc
  have hG := hk.1
  generalize hw : e 770 = w at *
  unfold v_20 g_20 rJoin
  rw [show (576 : Int) + 1 = 577 by decide, show (576 : Int) + 4 = 580 by decide]
  generalize g_52 577 d0 = d at *
  obtain ⟨a1, a2, a3⟩ := takePer h hk1.2.2.2.2.2.2.2.1 hw hG.1.2.1
  rcases a3 with ⟨v1, s1, m1, l1, u1⟩ | ⟨v1, f1⟩
  · have hk2 := hk1.frc a1
    have w1 : g_199 769 0 e 770 = w := by rw [a2.1 770 (by decide)]; exact hw
    obtain ⟨b1, b2, b3⟩ := takeOff s1 hk2.2.2.2.2.2.1 w1 hG.1.1
    have n1 : ¬ v_27 576 d = 0 := by rw [v1]; decide
    rw [if_neg n1, if_neg n1]
    rcases b3 with ⟨v2, s2, m2, l2, u2⟩ | ⟨v2, f2⟩
    · have hk3 := hk2.frc b1
      have w2 : g_200 769 (g_199 769 0 e) 770 = w := by rw [b2.1 770 (by decide)]; exact w1
      have n2 : ¬ v_28 576 (g_27 576 d) = 0 := by rw [v2]; decide
      rw [if_neg n2, if_neg n2, m1, m2]
      have hx : rJoinX e = if V_225 (v_199 769 0 e) (v_200 769 (g_199 769 0 e)) w = 0 then 0 else 1 := by
        unfold rJoinX
        rw [if_pos s2.2.1, m_v_225, w2]
      obtain ⟨q1, q2, q3⟩ := canQ (p := v_199 769 0 e) (o := v_200 769 (g_199 769 0 e)) hG hk3.2.2.2.2 ⟨l2, u2⟩
      obtain ⟨r1, r2⟩ := deedEnd (x := rJoinX e) s2
      generalize rJoinX e = x at *
      generalize v_199 769 0 e = p at *
      generalize v_200 769 (g_199 769 0 e) = o at *
      generalize g_200 769 (g_199 769 0 e) = E at *
      have fcD := (hc.trans a1).trans b1
      generalize g_28 576 (g_27 576 d) = D at *
      have frE := a2.trans b2
      rcases r2 with ⟨y1, y2, y3, y4⟩ | ⟨y1, y2, y3, y4, y5, y6⟩ | ⟨y1, y2, y3, y4, y5, y6, y7⟩
      · rw [if_pos y1, if_pos y1, if_pos y2]
        exact ⟨LdFr.of (fcD.trans y3) (frE.trans r1), Or.inr ⟨rfl, y4⟩⟩
      · have ny : ¬ v_30 576 D = 0 := by omega
        have vz : v_60 580 p o D = 0 := by
          rw [q1]
          by_cases z : V_225 p o w = 0
          · exact z
          · rw [if_neg z] at hx
            omega
        rw [if_neg ny, if_neg ny, y2, if_pos vz, if_pos vz, if_pos y4]
        exact ⟨LdFr.of (fcD.trans y5) (frE.trans r1), Or.inr ⟨rfl, y6⟩⟩
      · have ny : ¬ v_30 576 D = 0 := by omega
        have vz : ¬ V_225 p o w = 0 := fun z => by
          rw [if_pos z] at hx
          exact y3 hx
        have vn : ¬ v_60 580 p o D = 0 := by rw [q1]; exact vz
        have nx : ¬ v_196 769 x E = 0 := by omega
        rw [if_neg ny, if_neg ny, y2, if_neg vn, if_neg vn, if_neg nx]
        have cj := q3.1 (by omega)
        obtain ⟨-, j1, j2⟩ := join hG hk3.2.2.2.2 ⟨l2, u2⟩ ⟨l1, u1⟩ cj
        have xr := joinX (p := p) hG ⟨l2, u2⟩ cj.1
        obtain ⟨x1, x2⟩ := xr.1 hk3.2.1 hk3.2.2.1
        have fr := f61 (p := p) (o := o) (d := D)
        have sD : Syn (g_61 580 p o D) (g_189 769 E) := y6.c (fr 577 (by decide)) (fr 578 (by decide)) (fr 579 (by decide))
        obtain ⟨-, -, t1, t2, t3, -⟩ := takeSemi sD
        rw [← y5] at t2 t3 y7
        have wE : g_196 769 x E 770 = w := by rw [r1.1 770 (by decide)]; exact w2
        rcases t3 with ⟨t4, t5⟩ | ⟨-, t5⟩
        · rw [m_g_226, wE]
          have rn : ∀ u b, ¬ b = 770 → rset (g_196 769 x E) u b = g_196 769 x E b := fun u b hb => rset_ne hb
          refine ⟨⟨fun b hb => ?_, fun k y z => ?_, fun j hj => ?_⟩, Or.inl ⟨t4, ?_, ?_⟩⟩
          · rw [t1 b (by omega) (by omega), fr b (by omega), fcD b (by omega) (by omega)]
          · rw [rn _ k z, r1.1 k y, frE.1 k y]
          · rw [rn _ 769 (by decide), r1.2 j hj, frE.2 j hj]
          · exact t5.r (rn _ 769 (by decide)) (rn _ 776 (by decide))
          · rw [rset_at]
            exact OKR.frc ⟨j1, x1, x2, by rw [xr.2]; exact hk3.2.2.2.1, j2⟩ t1
        · exact absurd y7 t5.ne
    · rw [if_pos v2, if_pos v2]
      have nx : rJoinX e = 0 := by
        unfold rJoinX
        rw [if_neg f2.ne]
      obtain ⟨z1, z2⟩ := bad196 (x := rJoinX e) f2.ne
      rw [z1, if_pos z2]
      exact ⟨LdFr.of ((hc.trans a1).trans b1) (a2.trans b2), Or.inr ⟨rfl, f2⟩⟩
  · rw [if_pos v1, if_pos v1, bad200 f1.ne]
    obtain ⟨z1, z2⟩ := bad196 (x := rJoinX e) f1.ne
    rw [z1, if_pos z2]
    exact ⟨LdFr.of (hc.trans a1) a2, Or.inr ⟨rfl, f1⟩⟩
