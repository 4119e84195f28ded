/-! ===== both readers side by side: the end of a deed ===== -/
theorem Syn.bl {d e : mD} (h : Syn d e) : Syn d (g_189 769 e) ∧ FrR e (g_189 769 e) ∧ g_189 769 e 769 10 = d 577 2 := by
  obtain ⟨tx, b13, bt, bl, tk⟩ := h
  obtain ⟨a, e1, p1, p2, p3, p4, p5⟩ := bl189 tx bt.1 bt.2
  have ea : a = d 577 2 := p2.uni bl
  rw [ea] at p5
  have f1 : FrR e e1 := ⟨p3, fun j hj => p4 j (by omega)⟩
  have b0 := bl.1
  rw [p1]
  refine ⟨⟨tx.fr (p4 9 (by decide)) (p3 776 (by decide)), by rw [p4 13 (by decide)]; exact b13, ?_, ?_, tk⟩, f1, p5⟩
  · rw [p5]
    exact ⟨by omega, bl.2.1⟩
  · rw [p5]
    exact bl.self
theorem semi192 {d e : mD} (h : Syn d e) : v_192 769 59 e = v_30 576 d := by
  obtain ⟨tx, b13, bt, bl, tk⟩ := id h
  obtain ⟨-, f1, f2⟩ := h.bl
  have b0 := bl.1
  have vr : v_192 769 59 e = if d 577 2 < d 578 1 then (if e 776 (d 577 2) = 59 then 1 else 0) else 0 := by
    unfold v_192
    rw [f2, tx.2.1, show (769 : Int) + 7 = 776 by decide]
  have ev : v_30 576 d = if d 577 1 = 2 then 1 else 0 := by
    unfold v_30 v_32
    rw [show (576 : Int) + 1 = 577 by decide, if_pos rfl]
  rw [vr, ev]
  rcases tk with ⟨a1, a2, a3⟩ | ⟨a1, a2, a3, a4⟩ | ⟨a1, a2, a3, a4⟩ | ⟨a1, a2, a3, a4⟩ | ⟨a1, a2, a3, a4, a5, a6⟩
  · rw [if_neg (by omega), if_neg (by omega)]
  · have g := tx.2.2 (d 577 2) (by omega) a1
    unfold isLe at a2
    rw [if_pos a1, if_neg (by omega), if_neg (by omega)]
  · have g := tx.2.2 (d 577 2) (by omega) a1
    unfold isDi at a2
    rw [if_pos a1, if_neg (by omega), if_neg (by omega)]
  · have g := tx.2.2 (d 577 2) (by omega) a1
    rw [if_pos a1, if_pos (by omega), if_pos a3]
  · have g := tx.2.2 (d 577 2) (by omega) a1
    rw [if_pos a1, if_neg (by omega), if_neg (by omega)]
theorem deedEnd {d e : mD} {x : Int} (h : Syn d e) : FrR e (g_196 769 x e) ∧ ((v_30 576 d = 0 ∧ v_196 769 x e = 0 ∧ FrC d (g_30 576 d) ∧ Fail (g_30 576 d) (g_196 769 x e)) ∨ (v_30 576 d = 1 ∧ g_30 576 d = d ∧ x = 0 ∧ v_196 769 x e = 0 ∧ FrC d (g_32 576 6 d) ∧ Fail (g_32 576 6 d) (g_196 769 x e)) ∨ (v_30 576 d = 1 ∧ g_30 576 d = d ∧ ¬ x = 0 ∧ v_196 769 x e = 1 ∧ g_196 769 x e = g_195 769 (g_189 769 e) ∧ Syn d (g_189 769 e) ∧ (g_195 769 (g_189 769 e)) 769 13 = 0)) := by
  obtain ⟨s1, s2, s3⟩ := h.bl
  obtain ⟨z1, -, z3, z4, z5, z6, z7, z8⟩ := takeSemi s1
  have h13 := h.2.1
  have e192 : g_192 769 59 e = g_189 769 e := rfl
  have vs := semi192 h
  have gr : g_196 769 x e = if v_30 576 d = 0 then g_195 769 (g_189 769 e) else if x = 0 then g_195 769 (g_188 769 6 (d 577 2) (g_189 769 e)) else g_195 769 (g_189 769 e) := by
    unfold g_196
    rw [if_pos h13, vs, e192, s3]
  have vr : v_196 769 x e = if v_30 576 d = 0 then (if g_195 769 (g_189 769 e) 769 13 = 0 then 1 else 0) else if x = 0 then (if g_195 769 (g_188 769 6 (d 577 2) (g_189 769 e)) 769 13 = 0 then 1 else 0) else if g_195 769 (g_189 769 e) 769 13 = 0 then 1 else 0 := by
    unfold v_196
    rw [if_pos h13, vs, e192, s3]
  rcases z1 with c | c
  · rw [if_pos c] at gr vr
    rcases z5 with ⟨y1, -⟩ | ⟨y1, y2⟩
    · omega
    · rw [if_neg y2.ne] at vr
      rw [gr]
      refine ⟨s2.trans z4, Or.inl ⟨c, vr, ?_, ?_⟩⟩
      · rw [← z8 c]; exact z3
      · rw [← z8 c]; exact y2
  · have c1 : ¬ v_30 576 d = 0 := by omega
    rw [if_neg c1] at gr vr
    by_cases q : x = 0
    · rw [if_pos q] at gr vr
      obtain ⟨b1, b2⟩ := flt188 (c := 6) (p := d 577 2) s1.2.1
      obtain ⟨k1, k2, k3⟩ := fail32 (c := 6) (d := d)
      rw [bad195 b1.ne] at gr vr
      rw [if_neg b1.ne] at vr
      rw [gr]
      exact ⟨s2.trans b2, Or.inr (Or.inl ⟨c, z7 c, q, vr, k3, 6, d 577 2, k1, k2, b1⟩)⟩
    · rw [if_neg q] at gr vr
      rcases z5 with ⟨y1, y2⟩ | ⟨y1, -⟩
      · rw [if_pos y2.2.1] at vr
        rw [gr]
        exact ⟨s2.trans z4, Or.inr (Or.inr ⟨c, z7 c, q, vr, rfl, s1, y2.2.1⟩)⟩
      · omega
