/-! ===== both readers side by side: numbers and semicolons ===== -/
def Syn (d e : mD) : Prop := TX (d 579) (d 578 1) e ∧ e 769 13 = 0 ∧ (0 ≤ e 769 10 ∧ e 769 10 ≤ d 578 1) ∧ BL (d 579) (d 578 1) (e 769 10) (d 577 2) ∧ TokAt (d 579) (d 578 1) (d 577 2) (d 577 1) (d 577 3) (d 577 4)
def FrC (d d' : mD) : Prop := ∀ b, ¬ b = 576 → ¬ b = 577 → d' b = d b
def Fail (d' e' : mD) : Prop := ∃ c p, d' 576 2 = c ∧ d' 576 3 = p ∧ BadR c p e'
theorem TokAt.z {b : Int → Int} {L a k z m : Int} (h : TokAt b L a k z m) (h1 : a ≤ L) : a ≤ z ∧ z ≤ L := by
  rcases h with ⟨a1, a2, a3⟩ | ⟨a1, a2, a3, a4⟩ | ⟨a1, a2, a3, a4⟩ | ⟨a1, a2, a3, a4⟩ | ⟨a1, a2, a3, a4, a5, a6⟩
  · omega
  · exact ⟨a4.1, a4.2.1⟩
  · exact ⟨a3.1, a3.2.1⟩
  · omega
  · omega
theorem Syn.next {d d0 e e' : mD} (h : Syn d e) (h0 : FrC d d0) (h3 : d0 577 3 = d 577 3) (hf : FrR e e') (h13 : e' 769 13 = 0) (h10 : e' 769 10 = d 577 3) : Syn (g_52 577 d0) e' ∧ FrC d (g_52 577 d0) := by
  obtain ⟨tx, b13, bt, bl, tk⟩ := h
  have hz := tk.z bl.2.1
  have q1 : d0 579 = d 579 := h0 579 (by decide) (by decide)
  have q2 : d0 578 = d 578 := h0 578 (by decide) (by decide)
  have := bl.1
  obtain ⟨a1, a2, a3⟩ := adv (L := d 578 1) (d := d0) (by rw [q2]) tx.1.2 (by omega) (by omega)
  rw [q1, h3] at a2
  rw [q1] at a3
  have e9 : g_52 577 d0 579 = d 579 := by rw [a1 579 (by decide), q1]
  have e8 : g_52 577 d0 578 = d 578 := by rw [a1 578 (by decide), q2]
  refine ⟨⟨?_, h13, ?_, ?_, ?_⟩, fun b x y => by rw [a1 b y, h0 b x y]⟩
  · rw [e9, e8]
    exact tx.fr (hf.2 9 (by decide)) (hf.1 776 (by decide))
  · rw [e8, h10]
    omega
  · rw [e9, e8, h10]
    exact a2
  · rw [e9, e8]
    exact a3
theorem fail32 {c : Int} {d : mD} : g_32 576 c d 576 2 = c ∧ g_32 576 c d 576 3 = d 577 2 ∧ FrC d (g_32 576 c d) := by
  unfold g_32
  exact ⟨by rw [ms_i (by decide), ms_e rfl rfl], by rw [ms_e rfl rfl]; rfl, fun b x y => by funext j; rw [ms_a x, ms_a x]⟩
theorem RU.nil {P : Int → Prop} {b : Int → Int} {L a z : Int} (h : RU P b L a z) (hn : a < L → ¬ P (b a)) : z = a := by
  obtain ⟨p1, p2, p3, p4⟩ := h
  by_cases c : a < z
  · exact absurd (p3 a (by omega) c) (hn (by omega))
  · omega
theorem takeNum {d e : mD} {lo hi : Int} (h : Syn d e) : FrC d (g_25 576 lo hi d) ∧ FrR e (g_197 769 lo hi e) ∧ ((v_25 576 lo hi d = 1 ∧ Syn (g_25 576 lo hi d) (g_197 769 lo hi e) ∧ g_25 576 lo hi d 576 4 = v_197 769 lo hi e ∧ lo ≤ v_197 769 lo hi e ∧ v_197 769 lo hi e ≤ hi) ∨ (v_25 576 lo hi d = 0 ∧ Fail (g_25 576 lo hi d) (g_197 769 lo hi e) ∧ v_197 769 lo hi e = 0)) := by
  obtain ⟨tx, b13, bt, bl, tk⟩ := id h
  obtain ⟨a, z, n1, n2, nf, nr⟩ := n197 (lo := lo) (hi := hi) tx bt.1 bt.2 b13
  have ea : a = d 577 2 := n1.uni bl
  rw [ea] at n2 nr
  generalize hv : v_197 769 lo hi e = v at *
  generalize hw : g_197 769 lo hi e = e' at *
  have nf : FrR e e' := nf
  have bad : ∀ c, BadR c (d 577 2) e' → v = 0 → v_25 576 lo hi d = 0 → g_25 576 lo hi d = g_32 576 c d → FrC d (g_25 576 lo hi d) ∧ FrR e e' ∧ ((v_25 576 lo hi d = 1 ∧ Syn (g_25 576 lo hi d) e' ∧ g_25 576 lo hi d 576 4 = v ∧ lo ≤ v ∧ v ≤ hi) ∨ (v_25 576 lo hi d = 0 ∧ Fail (g_25 576 lo hi d) e' ∧ v = 0)) := fun c hb hv0 hvc hgc => by
    rw [hgc]
    obtain ⟨f1, f2, f3⟩ := fail32 (c := c) (d := d)
    exact ⟨f3, nf, Or.inr ⟨hvc, ⟨c, d 577 2, f1, f2, hb⟩, hv0⟩⟩
  by_cases k1 : d 577 1 = 1
  · have tk3 : d 577 2 < d 578 1 ∧ isDi (d 579 (d 577 2)) ∧ RU isDi (d 579) (d 578 1) (d 577 2) (d 577 3) ∧ d 577 3 - d 577 2 ≤ 5 ∧ d 577 4 = dv (d 579) (d 577 2) (d 577 3 - d 577 2).toNat := by
      rcases tk with ⟨a1, a2, a3⟩ | ⟨a1, a2, a3, a4⟩ | ⟨a1, a2, a3, a4⟩ | ⟨a1, a2, a3, a4⟩ | ⟨a1, a2, a3, a4, a5, a6⟩
      · omega
      · omega
      · rcases a4 with a4 | a4
        · exact ⟨a1, a2, a3, a4.1, a4.2.2⟩
        · omega
      · omega
      · omega
    obtain ⟨t1, t2, t3, t4, t5⟩ := tk3
    have ez : z = d 577 3 := n2.uni t3
    rw [ez] at nr
    rw [← t5] at nr
    have hz : d 577 2 < d 577 3 := by
      by_cases c : d 577 2 < d 577 3
      · exact c
      · have e3 : d 577 3 = d 577 2 := by have := t3.1; omega
        have := t3.2.2.2
        rw [e3] at this
        exact absurd t2 (this t1)
    have ev : v_25 576 lo hi d = if d 577 4 < lo then 0 else if hi < d 577 4 then 0 else 1 := by
      unfold v_25
      rw [show (576 : Int) + 1 = 577 by decide, if_pos k1]
      rfl
    have eg : g_25 576 lo hi d = if d 577 4 < lo then g_32 576 2 d else if hi < d 577 4 then g_32 576 2 d else g_52 577 (mset d 576 4 (d 577 4)) := by
      unfold g_25
      rw [show (576 : Int) + 1 = 577 by decide, if_pos k1]
    rcases nr with nr | nr | nr | nr
    · omega
    · omega
    · obtain ⟨r1, r2, r3, r4, r5⟩ := nr
      have r4 : v = 0 := r4
      by_cases c1 : d 577 4 < lo
      · rw [if_pos c1] at ev eg
        exact bad 2 r5 r4 ev eg
      · have c2 : hi < d 577 4 := by omega
        rw [if_neg c1, if_pos c2] at ev eg
        exact bad 2 r5 r4 ev eg
    · obtain ⟨r1, r2, r3, r4, r5, r6⟩ := nr
      have r4 : v = d 577 4 := r4
      rw [if_neg (by omega), if_neg (by omega)] at ev eg
      obtain ⟨s1, s2⟩ := h.next (d0 := mset d 576 4 (d 577 4)) (fun b x y => by funext j; exact ms_a x) (ms_a (by decide)) nf r5 r6
      rw [eg, ev]
      refine ⟨s2, nf, Or.inl ⟨rfl, s1, ?_, by omega, by omega⟩⟩
      have := (adv (L := d 578 1) (d := mset d 576 4 (d 577 4)) (by rw [ms_a (by decide)]) tx.1.2 (by rw [ms_a (by decide)]; have := bl.1; omega) (by rw [ms_a (by decide)]; exact t3.2.1)).1 576 (by decide)
      rw [this, ms_e rfl rfl, r4]
  · have ev : v_25 576 lo hi d = 0 := by
      unfold v_25
      rw [show (576 : Int) + 1 = 577 by decide, if_neg k1]
      rfl
    have eg : g_25 576 lo hi d = g_32 576 1 d := by
      unfold g_25
      rw [show (576 : Int) + 1 = 577 by decide, if_neg k1]
    have hz : z = d 577 2 ∨ 5 < z - d 577 2 := by
      rcases tk with ⟨a1, a2, a3⟩ | ⟨a1, a2, a3, a4⟩ | ⟨a1, a2, a3, a4⟩ | ⟨a1, a2, a3, a4⟩ | ⟨a1, a2, a3, a4, a5, a6⟩
      · exact Or.inl (n2.nil (fun y => by omega))
      · exact Or.inl (n2.nil (fun _ y => by unfold isLe at a2; unfold isDi at y; omega))
      · rcases a4 with a4 | a4
        · exact absurd a4.2.1 k1
        · have ez : z = d 577 3 := n2.uni a3
          right
          omega
      · exact Or.inl (n2.nil (fun _ y => by unfold isDi at y; omega))
      · exact Or.inl (n2.nil (fun _ y => a3 y))
    rcases nr with nr | nr | nr | nr
    · exact bad 1 nr.2.2 nr.2.1 ev eg
    · exact bad 1 nr.2.2 nr.2.1 ev eg
    · omega
    · omega
-- a semicolon
theorem takeSemi {d e : mD} (h : Syn d e) : (v_30 576 d = 0 ∨ v_30 576 d = 1) ∧ (v_31 576 d = 0 ∨ v_31 576 d = 1) ∧ FrC d (g_31 576 d) ∧ FrR e (g_195 769 e) ∧ ((v_31 576 d = 1 ∧ Syn (g_31 576 d) (g_195 769 e)) ∨ (v_31 576 d = 0 ∧ Fail (g_31 576 d) (g_195 769 e))) ∧ v_31 576 d = v_30 576 d ∧ (v_30 576 d = 1 → g_30 576 d = d) ∧ (v_30 576 d = 0 → g_31 576 d = g_30 576 d) := by
  obtain ⟨tx, b13, bt, bl, tk⟩ := id h
  obtain ⟨a, e1, p1, p2, p3, p4, p5⟩ := bl189 tx bt.1 bt.2
  have ea : a = d 577 2 := p2.uni bl
  rw [ea] at p5
  have f1 : FrR e e1 := ⟨p3, fun j hj => p4 j (by omega)⟩
  have e13 : e1 769 13 = 0 := by rw [p4 13 (by decide)]; exact b13
  have vr : v_192 769 59 e = if d 577 2 < d 578 1 then (if e 776 (d 577 2) = 59 then 1 else 0) else 0 := by
    unfold v_192
    rw [p1, p5, tx.2.1, show (769 : Int) + 7 = 776 by decide]
  have gr : g_192 769 59 e = e1 := p1
  have er : g_195 769 e = if v_192 769 59 e = 0 then g_188 769 1 (d 577 2) e1 else mset e1 769 10 (d 577 2 + 1) := by
    unfold g_195
    rw [if_pos b13, gr, p5]
  have hb0 := bl.1
  by_cases k2 : d 577 1 = 2
  · have t : d 577 2 < d 578 1 ∧ d 579 (d 577 2) = 59 ∧ d 577 3 = d 577 2 + 1 := by
      rcases tk with ⟨a1, a2, a3⟩ | ⟨a1, a2, a3, a4⟩ | ⟨a1, a2, a3, a4⟩ | ⟨a1, a2, a3, a4⟩ | ⟨a1, a2, a3, a4, a5, a6⟩
      · omega
      · omega
      · omega
      · exact ⟨a1, a2, a4⟩
      · omega
    obtain ⟨t1, t2, t3⟩ := t
    have g := tx.2.2 (d 577 2) (by omega) t1
    rw [if_pos t1, if_pos (by omega)] at vr
    rw [vr, if_neg (by decide)] at er
    have ev : v_30 576 d = 1 := by
      unfold v_30
      rw [show (576 : Int) + 1 = 577 by decide, if_pos k2]
    have eg : g_30 576 d = d := by
      unfold g_30
      rw [show (576 : Int) + 1 = 577 by decide, if_pos k2]
    have ev1 : v_31 576 d = 1 := by
      unfold v_31
      rw [ev, if_neg (by decide)]
    have eg1 : g_31 576 d = g_52 577 d := by
      unfold g_31
      rw [ev, if_neg (by decide), eg]
      rfl
    have fr := f1.trans (FrR.set (e := e1) (j := 10) (v := d 577 2 + 1) (by decide))
    obtain ⟨s1, s2⟩ := h.next (d0 := d) (fun _ _ _ => rfl) rfl fr (by rw [ms_i (by decide)]; exact e13) (by rw [ms_e rfl rfl, t3])
    rw [er, ev, ev1, eg, eg1]
    exact ⟨Or.inr rfl, Or.inr rfl, s2, fr, Or.inl ⟨rfl, s1⟩, rfl, fun _ => rfl, fun z => absurd z (by decide)⟩
  · have t : d 577 2 < d 578 1 → ¬ d 579 (d 577 2) = 59 := by
      rcases tk with ⟨a1, a2, a3⟩ | ⟨a1, a2, a3, a4⟩ | ⟨a1, a2, a3, a4⟩ | ⟨a1, a2, a3, a4⟩ | ⟨a1, a2, a3, a4, a5, a6⟩
      · intro z; omega
      · intro _ z; unfold isLe at a2; omega
      · intro _ z; unfold isDi at a2; omega
      · exact absurd a3 k2
      · intro _; exact a4
    have vr0 : v_192 769 59 e = 0 := by
      rw [vr]
      by_cases c : d 577 2 < d 578 1
      · have g := tx.2.2 (d 577 2) (by omega) c
        have := t c
        rw [if_pos c, if_neg (by omega)]
      · rw [if_neg c]
    rw [if_pos vr0] at er
    have ev : v_30 576 d = 0 := by
      unfold v_30
      rw [show (576 : Int) + 1 = 577 by decide, if_neg k2]
      rfl
    have eg : g_30 576 d = g_32 576 1 d := by
      unfold g_30
      rw [show (576 : Int) + 1 = 577 by decide, if_neg k2]
    have ev1 : v_31 576 d = 0 := by
      unfold v_31
      rw [ev, if_pos rfl]
    have eg1 : g_31 576 d = g_32 576 1 d := by
      unfold g_31
      rw [ev, if_pos rfl, eg]
    obtain ⟨b1, b2⟩ := flt188 (c := 1) (p := d 577 2) e13
    obtain ⟨c1, c2, c3⟩ := fail32 (c := 1) (d := d)
    rw [er, ev, ev1, eg, eg1]
    exact ⟨Or.inl rfl, Or.inl rfl, c3, f1.trans b2, Or.inr ⟨rfl, 1, d 577 2, c1, c2, b1⟩, rfl, fun z => absurd z (by decide), fun _ => rfl⟩
