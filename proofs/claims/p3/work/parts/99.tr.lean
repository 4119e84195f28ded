/-! ===== both readers side by side: names ===== -/
theorem nameC {d : mD} {a z : Int} (hz : z - a ≤ 6) (hl : ∀ j, a ≤ j → j < z → isLe (d 579 j)) : ∀ (n : Nat) (c i : Int), ((c = 0 ∧ i = 0) ∨ (okN c ∧ 1 ≤ i)) → nmB i c → nm c = wc (d 579) a i.toNat → a + i ≤ z → a < z → z - (a + i) ≤ (n : Int) → okN (lp_93_20 578 a z n c (a + i) d) ∧ nm (lp_93_20 578 a z n c (a + i) d) = wc (d 579) a (z - a).toNat := by
  have fin : ∀ (r : Int → Int → mD → Int) (c i : Int), ((c = 0 ∧ i = 0) ∨ (okN c ∧ 1 ≤ i)) → nm c = wc (d 579) a i.toNat → a < z → a + i = z → okN (st_93_20 578 a z r c (a + i) d) ∧ nm (st_93_20 578 a z r c (a + i) d) = wc (d 579) a (z - a).toNat := fun r c i hc hw h0 h1 => by
    unfold st_93_20
    rw [if_neg (by omega), show (z - a).toNat = i.toNat by omega]
    refine ⟨?_, hw⟩
    rcases hc with hc | hc
    · omega
    · exact hc.1
  intro n
  induction n with
  | zero =>
    intro c i hc hb hw h1 h0 hn
    exact fin _ c i hc hw h0 (by omega)
  | succ n ih =>
    intro c i hc hb hw h1 h0 hn
    by_cases q : a + i < z
    · have i0 : 0 ≤ i := by
        rcases hc with hc | hc <;> omega
      have le := hl (a + i) (by omega) q
      have hv : ¬ v_91 578 (a + i) d = 0 := by
        rcases v91_i (i := a + i) (d := d) with ⟨v, g⟩ | ⟨v, g⟩
        · exact absurd le g
        · omega
      have hb' : (i = 0 ∧ c < 1) ∨ (i = 1 ∧ c < 32) ∨ (i = 2 ∧ c < 1024) ∨ (i = 3 ∧ c < 32768) ∨ (i = 4 ∧ c < 1048576) ∨ (i = 5 ∧ c < 33554432) := by
        unfold nmB at hb
        omega
      unfold isLe at le
      obtain ⟨o1, o2, o3⟩ := okStep (l := d 579 (a + i) - 96) hc hb' (by omega)
      have hc0 : 0 ≤ c := by
        rcases hc with hc | hc
        · omega
        · have := hc.1.1
          omega
      have hm : mior (mishl c 5) (d 579 (a + i) - 96) = 32 * c + (d 579 (a + i) - 96) := by
        rcases mname_or c (d 579 (a + i) - 96) with y | y
        · exact y.2.2.2.2
        · omega
      have e1 : lp_93_20 578 a z (n + 1) c (a + i) d = lp_93_20 578 a z n (32 * c + (d 579 (a + i) - 96)) (a + (i + 1)) d := by
        show st_93_20 578 a z _ c (a + i) d = _
        unfold st_93_20
        rw [if_pos q, if_neg hv, show (578 : Int) + 1 = 579 by decide, hm, show a + i + 1 = a + (i + 1) by omega]
      rw [e1]
      refine ih _ (i + 1) (Or.inr ⟨o1, by omega⟩) (by unfold nmB; omega) ?_ (by omega) h0 (by omega)
      rw [o2, hw, show (i + 1).toNat = i.toNat + 1 by omega]
      show _ = 27 * wc (d 579) a i.toNat + d 579 (a + (i.toNat : Int)) - 96
      rw [show a + (i.toNat : Int) = a + i by omega]
      omega
    · exact fin _ c i hc hw h0 (by omega)
theorem mc0 {x : Int} : 0 < mcmp x 0 ↔ 0 < x := by
  unfold mcmp
  split
  · omega
  · split <;> omega
theorem takeName {d e : mD} (h : Syn d e) : FrC d (g_26 576 d) ∧ FrR e (g_198 769 e) ∧ g_198 769 e 769 16 = d 577 2 ∧ ((okN (v_56 577 d) ∧ v_26 576 d = 1 ∧ Syn (g_26 576 d) (g_198 769 e) ∧ g_26 576 d 576 5 = v_56 577 d ∧ v_198 769 e = nm (v_56 577 d)) ∨ (v_56 577 d = -1 ∧ v_26 576 d = 0 ∧ Fail (g_26 576 d) (g_198 769 e) ∧ v_198 769 e = 0)) := by
  obtain ⟨tx, b13, bt, bl, tk⟩ := id h
  obtain ⟨a, z, e1, p1, p2, p3, p4, p5, p6, p7⟩ := w193 (lim := 6) (by decide) tx bt.1 bt.2
  have ea : a = d 577 2 := p1.uni bl
  rw [ea] at p2 p3 p7
  have f1 : FrR e e1 := ⟨p4, fun j hj => p5 j (by omega) (by omega)⟩
  have e13 : e1 769 13 = 0 := by rw [p5 13 (by decide) (by decide)]; exact b13
  have v3 : v_193 769 6 e = if z - d 577 2 ≤ 6 then wc (d 579) (d 577 2) (z - d 577 2).toNat else -1 := by
    unfold v_193
    rw [p3]
  have g3 : g_193 769 6 e = e1 := by
    unfold g_193
    rw [p3]
  have vr : v_198 769 e = if 0 < v_193 769 6 e then v_193 769 6 e else 0 := by
    unfold v_198
    rw [if_pos b13, g3, p7]
    obtain ⟨b1, -⟩ := flt188 (c := 1) (p := d 577 2) e13
    by_cases c : 0 < v_193 769 6 e
    · rw [if_pos (mc0.2 c), if_pos c, if_pos e13]
    · rw [if_neg (fun y => c (mc0.1 y)), if_neg c, if_neg (by rw [b1.1]; decide)]
  have gr : g_198 769 e = if 0 < v_193 769 6 e then e1 else g_188 769 1 (d 577 2) e1 := by
    unfold g_198
    rw [if_pos b13, g3, p7]
    by_cases c : 0 < v_193 769 6 e
    · rw [if_pos (mc0.2 c), if_pos c]
    · rw [if_neg (fun y => c (mc0.1 y)), if_neg c]
  have b16 : g_188 769 1 (d 577 2) e1 769 16 = d 577 2 := by
    unfold g_188
    rw [if_pos e13, ms_i (by decide), ms_i (by decide), ms_i (by decide), p7]
  have bad : v_56 577 d = -1 → ¬ 0 < v_193 769 6 e → FrC d (g_26 576 d) ∧ FrR e (g_198 769 e) ∧ g_198 769 e 769 16 = d 577 2 ∧ ((okN (v_56 577 d) ∧ v_26 576 d = 1 ∧ Syn (g_26 576 d) (g_198 769 e) ∧ g_26 576 d 576 5 = v_56 577 d ∧ v_198 769 e = nm (v_56 577 d)) ∨ (v_56 577 d = -1 ∧ v_26 576 d = 0 ∧ Fail (g_26 576 d) (g_198 769 e) ∧ v_198 769 e = 0)) := fun hv hn => by
    rw [if_neg hn] at vr gr
    have eg : g_26 576 d = g_32 576 1 (mset d 576 5 (-1)) := by
      unfold g_26
      rw [show (576 : Int) + 1 = 577 by decide, hv, if_pos rfl]
    have ev : v_26 576 d = 0 := by
      unfold v_26
      rw [show (576 : Int) + 1 = 577 by decide, hv, if_pos rfl]
      rfl
    obtain ⟨c1, c2, c3⟩ := fail32 (c := 1) (d := mset d 576 5 (-1))
    rw [ms_a (by decide)] at c2
    obtain ⟨b1, b2⟩ := flt188 (c := 1) (p := d 577 2) e13
    rw [eg, gr]
    exact ⟨fun b x y => by rw [c3 b x y]; funext j; exact ms_a x, f1.trans b2, b16, Or.inr ⟨hv, ev, ⟨1, d 577 2, c1, c2, b1⟩, vr⟩⟩
  by_cases k0 : d 577 1 = 0
  · have t : d 577 2 < d 578 1 ∧ isLe (d 579 (d 577 2)) ∧ RU isLe (d 579) (d 578 1) (d 577 2) (d 577 3) := by
      rcases tk with ⟨a1, a2, a3⟩ | ⟨a1, a2, a3, a4⟩ | ⟨a1, a2, a3, a4⟩ | ⟨a1, a2, a3, a4⟩ | ⟨a1, a2, a3, a4, a5, a6⟩
      · omega
      · exact ⟨a1, a2, a4⟩
      · omega
      · omega
      · omega
    obtain ⟨t1, t2, t3⟩ := t
    have ez : z = d 577 3 := p2.uni t3
    rw [ez] at v3 p6
    have hz : d 577 2 < d 577 3 := by
      by_cases c : d 577 2 < d 577 3
      · exact c
      · have e3 : d 577 3 = d 577 2 := by have := t3.1; omega
        have := t3.2.2.2
        rw [e3] at this
        exact absurd t2 (this t1)
    have v56 : v_56 577 d = if 6 < d 577 3 - d 577 2 then -1 else lp_93_20 578 (d 577 2) (d 577 3) (d 577 3 - d 577 2 : Int).toNat 0 (d 577 2) d := by
      unfold v_56 v_93
      rw [if_pos k0, if_pos hz]
      rfl
    by_cases c6 : 6 < d 577 3 - d 577 2
    · rw [if_pos c6] at v56
      exact bad v56 (by rw [v3, if_neg (by omega)]; decide)
    · rw [if_neg c6] at v56
      rw [if_pos (by omega)] at v3
      obtain ⟨n1, n2⟩ := nameC (d := d) (a := d 577 2) (z := d 577 3) (by omega) t3.2.2.1 (d 577 3 - d 577 2 : Int).toNat 0 0 (Or.inl ⟨rfl, rfl⟩) (Or.inl ⟨rfl, by decide⟩) (by rw [nm_zero]; rfl) (by omega) hz (by omega)
      rw [show d 577 2 + 0 = d 577 2 by omega, ← v56] at n1 n2
      have np := nm_pos n1
      rw [← n2] at v3
      rw [v3, if_pos np] at vr gr
      have c0 := n1.1
      have hne : ¬ v_56 577 d = -1 := by omega
      have eg : g_26 576 d = g_52 577 (mset d 576 5 (v_56 577 d)) := by
        unfold g_26
        rw [show (576 : Int) + 1 = 577 by decide, if_neg hne]
      have ev : v_26 576 d = 1 := by
        unfold v_26
        rw [show (576 : Int) + 1 = 577 by decide, if_neg hne]
      obtain ⟨s1, s2⟩ := h.next (d0 := mset d 576 5 (v_56 577 d)) (fun b x y => by funext j; exact ms_a x) (ms_a (by decide)) f1 e13 p6
      have e5 := (adv (L := d 578 1) (d := mset d 576 5 (v_56 577 d)) (by rw [ms_a (by decide)]) tx.1.2 (by rw [ms_a (by decide)]; have := bl.1; omega) (by rw [ms_a (by decide)]; exact t3.2.1)).1 576 (by decide)
      rw [eg, gr]
      exact ⟨s2, f1, p7, Or.inl ⟨n1, ev, s1, by rw [e5, ms_e rfl rfl], vr⟩⟩
  · have v56 : v_56 577 d = -1 := by
      unfold v_56
      rw [if_neg k0]
    have ez : z = d 577 2 := by
      rcases tk with ⟨a1, a2, a3⟩ | ⟨a1, a2, a3, a4⟩ | ⟨a1, a2, a3, a4⟩ | ⟨a1, a2, a3, a4⟩ | ⟨a1, a2, a3, a4, a5, a6⟩
      · exact p2.nil (fun y => by omega)
      · exact absurd a3 k0
      · exact p2.nil (fun _ y => by unfold isLe at y; unfold isDi at a2; omega)
      · exact p2.nil (fun _ y => by unfold isLe at y; omega)
      · exact p2.nil (fun _ y => a2 y)
    refine bad v56 ?_
    rw [v3, ez, if_pos (by omega), show (d 577 2 - d 577 2).toNat = 0 by omega]
    show ¬ (0 : Int) < 0
    decide
