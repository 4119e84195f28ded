/-! ===== undo, save, restore ===== -/
def OPV (d d2 : mD) (v : Int) : Prop := CI d2 ∧ d2 769 0 = v ∧ (RP d → RP d2)
theorem opUndo {d : mD} (hi : CI d) : OPR d (g_338 0 778 d) (g_294 769 (g_338 0 778 d)) (v_338 0 778 d) (v_294 769 (g_338 0 778 d)) := by
  obtain ⟨i1, i2, i3, i4⟩ := id hi
  have h7 := i2.2.2.1
  have hn := i2.1
  have hc := i2.2.1
  unfold v_338 g_338
  rw [n641, n01]
  by_cases c : d 64 2 = 0
  · rw [if_pos c, if_pos c]
    have e : g_294 769 d = mset d 769 0 1 := by
      unfold g_294 f_294
      rw [if_neg (by omega)]
    rw [e]
    exact OPR.fail hi (by decide)
  · rw [if_neg c, if_neg c]
    have hk := i2.2.2.2 (d 64 2 - 1) (by omega) (by omega)
    have ek : ksl (d 64 1) (d 64 2) (d 64 2 - 1) = 66 + 63 * ((d 64 1 + 8 - 1) % 8) := by
      unfold ksl
      rw [show d 64 1 + 8 - d 64 2 + (d 64 2 - 1) = d 64 1 + 8 - 1 by omega]
    rw [ek] at hk
    obtain ⟨u1, u2, u3, u4⟩ := undoC hn hk
    generalize hD : mset (g_3 64 1 d) 778 0 (g_3 64 1 d 64 2) = D
    have Db : ∀ b, ¬ b = 778 → D b = g_3 64 1 d b := fun b hb => by
      rw [← hD]
      funext j
      exact ms_a hb
    have Dd : ∀ b, 64 < b → ¬ b = 778 → D b = d b := fun b x y => by rw [Db b y, u2 b (by omega) (by omega)]
    have D0 : D 778 0 = d 64 2 - 1 := by rw [← hD, ms_e rfl rfl, u4]
    have D7 : D 769 7 = d 64 2 := by rw [Dd 769 (by decide) (by decide), h7]
    obtain ⟨v1, v2⟩ := undo294 (d := D) (by omega)
    obtain ⟨w1, w2, w3, w4, w5⟩ := id v2
    obtain ⟨x1, x2⟩ := undoH (d' := g_294 769 D) i2 (by omega) (fun b x y => by rw [w1 b (by omega) (by omega), Db b (by omega)]) v2 (by rw [D7, h7]) (Dd 771 (by decide) (by decide)) rfl rfl rfl
    refine ⟨⟨x2, x1, i3.fr (fun b hb => by rw [w1 b (by omega) (by omega), Dd b (by omega) (by omega)]), i4.fr ?_ ?_ ?_ ?_⟩, w3, fun _ => ⟨by rw [v1, D0, D7], by rw [v1, D7]; exact inI.of (by omega)⟩, fun r => r.undo (by omega) v2 (by rw [D7, h7]) (Dd 771 (by decide) (by decide)) rfl rfl (by rw [w1 771 (by decide) (by decide), Dd 771 (by decide) (by decide)]) (by rw [w1 772 (by decide) (by decide), Dd 772 (by decide) (by decide)]) (by rw [w1 775 (by decide) (by decide), Dd 775 (by decide) (by decide)])⟩
    · rw [w1 578 (by decide) (by decide), Dd 578 (by decide) (by decide)]
    · rw [w1 579 (by decide) (by decide), Dd 579 (by decide) (by decide)]
    · rw [w2 9 (by decide) (by decide), Dd 769 (by decide) (by decide)]
    · rw [w1 776 (by decide) (by decide), Dd 776 (by decide) (by decide)]
theorem opSave {d : mD} {a : Int} (hi : CI d) : OPV d (g_295 769 a (g_339 0 a d)) (v_339 0 a d) := by
  obtain ⟨i1, i2, i3, i4⟩ := id hi
  unfold v_339 g_339
  rw [n01, show (0 : Int) + 570 = 570 by decide, show (0 : Int) + 571 = 571 by decide, ifR, ifR]
  have v01 : ∀ D, v_176 a 0 1 D = if 0 ≤ a ∧ a < 2 then 1 else 0 := fun D => by
    rw [v176]
    by_cases c : 0 ≤ a ∧ a < 2
    · rw [if_pos c, if_pos (by omega)]
    · rw [if_neg c, if_neg (by omega)]
  by_cases c : 0 ≤ a ∧ a < 2
  · rw [if_pos c, if_pos c, show 570 + (73 + 63 * a) = 643 + 63 * a by omega]
    obtain ⟨-, cf⟩ := i1.copy (a := 643 + 63 * a) (by omega)
    generalize hD : mset (g_59 (643 + 63 * a) 1 d) 571 a 1 = D
    have Dd : ∀ b, ¬ b = 571 → ¬ (643 ≤ b ∧ b ≤ 768) → D b = d b := fun b x y => by
      rw [← hD, ← cf b (by omega)]
      funext j
      exact ms_a x
    have er : g_295 769 a D = lp_295_29 769 a (3116 - 0 : Int).toNat 0 (mset D 769 0 0) := by
      unfold g_295
      rw [v01, if_pos c, if_neg (by decide)]
    have sw := save295 (a := a) (d := mset D 769 0 0)
    rw [← er] at sw
    obtain ⟨w1, w2, w3, w4, w5⟩ := id sw
    have m9 : ∀ b, ¬ b = 769 → mset D 769 0 0 b = D b := fun b hb => by
      funext j
      exact ms_a hb
    have sr := saveH (a := a) (d' := g_295 769 a D) (by omega) i3 i1 (fun b x y => by rw [w1 b (by omega) (by omega), m9 b (by omega), hD]) sw (by rw [m9 770 (by decide), Dd 770 (by decide) (by decide)]) (by rw [m9 772 (by decide), Dd 772 (by decide) (by decide)]) (by rw [m9 775 (by decide), Dd 775 (by decide) (by decide)]) rfl rfl
    have gd : ∀ b, ¬ b = 571 → ¬ (643 ≤ b ∧ b ≤ 768) → ¬ b = 769 → ¬ b = 772 → ¬ b = 775 → g_295 769 a D b = d b := fun b x y z u t => by rw [w1 b u t, m9 b z, Dd b x y]
    have g9 : ∀ j, ¬ j = 0 → g_295 769 a D 769 j = d 769 j := fun j hj => by rw [w1 769 (by decide) (by decide), ms_i hj, Dd 769 (by decide) (by decide)]
    have g70 : g_295 769 a D 770 = d 770 := gd 770 (by decide) (by decide) (by decide) (by decide) (by decide)
    refine ⟨⟨?_, i2.fr (fun b x y => gd b (by omega) (by omega) (by omega) (by omega) (by omega)) (g9 7 (by decide)) (fun j _ _ => by rw [gd 771 (by decide) (by decide) (by decide) (by decide) (by decide)]), sr, i4.fr ?_ ?_ (g9 9 (by decide)) ?_⟩, ?_, fun r => r.save (a := a) (by omega) sw (by rw [m9 770 (by decide), Dd 770 (by decide) (by decide)]) (by rw [m9 772 (by decide), Dd 772 (by decide) (by decide)]) (by rw [m9 775 (by decide), Dd 775 (by decide) (by decide)]) g70 (g9 7 (by decide)) (gd 771 (by decide) (by decide) (by decide) (by decide) (by decide)) rfl rfl⟩
    · rw [g70]
      exact i1.fr (fun b x y => gd b (by omega) (by omega) (by omega) (by omega) (by omega))
    · rw [gd 578 (by decide) (by decide) (by decide) (by decide) (by decide)]
    · rw [gd 579 (by decide) (by decide) (by decide) (by decide) (by decide)]
    · rw [gd 776 (by decide) (by decide) (by decide) (by decide) (by decide)]
    · rw [w1 769 (by decide) (by decide), ms_e rfl rfl]
  · rw [if_neg c, if_neg c]
    have e : g_295 769 a d = mset d 769 0 1 := by
      unfold g_295
      rw [v01, if_neg c, if_pos rfl]
    rw [e]
    exact ⟨hi.qr (d1 := d) (fun _ _ _ _ => rfl) QR.s0, ms_e rfl rfl, fun r => QR.s0.rp r rfl rfl (fun _ _ => rfl)⟩
theorem opRest {d : mD} {a : Int} (hi : CI d) : OPV d (g_296 769 a (g_340 0 a d)) (v_340 0 a d) := by
  obtain ⟨i1, i2, i3, i4⟩ := id hi
  unfold v_340 g_340
  rw [n641, n01, show (0 : Int) + 570 = 570 by decide, show (0 : Int) + 571 = 571 by decide, ifR, ifR]
  have v01 : ∀ D, v_176 a 0 1 D = if 0 ≤ a ∧ a < 2 then 1 else 0 := fun D => by
    rw [v176]
    by_cases c : 0 ≤ a ∧ a < 2
    · rw [if_pos c, if_pos (by omega)]
    · rw [if_neg c, if_neg (by omega)]
  by_cases c : 0 ≤ a ∧ a < 2
  · rw [if_pos c, if_pos c, show 570 + (73 + 63 * a) = 643 + 63 * a by omega]
    obtain ⟨s1, s2⟩ := i3 a (by omega)
    rw [s1]
    by_cases c2 : d 775 a = 0
    · rw [if_pos c2, if_pos c2]
      have e : g_296 769 a d = mset d 769 0 2 := by
        unfold g_296
        rw [v01, if_pos c, if_neg (by decide), show (769 : Int) + 6 = 775 by decide, if_pos c2]
      rw [e]
      exact ⟨hi.qr (d1 := d) (fun _ _ _ _ => rfl) QR.s0, ms_e rfl rfl, fun r => QR.s0.rp r rfl rfl (fun _ _ => rfl)⟩
    · rw [if_neg c2, if_neg c2]
      obtain ⟨-, cf⟩ := (s2 c2).copy (a := 1) (by omega)
      generalize hD : g_4 64 (g_59 1 (643 + 63 * a) d) = D
      have Dd : ∀ b, 64 < b → D b = d b := fun b x => by
        rw [← hD, ← cf b (by omega)]
        unfold g_4
        funext j
        exact ms_a (by omega)
      have er : g_296 769 a D = lp_296_42 769 a (3116 - 0 : Int).toNat 0 (mset D 769 0 0) := by
        unfold g_296
        rw [v01, if_pos c, if_neg (by decide), show (769 : Int) + 6 = 775 by decide, Dd 775 (by decide), if_neg c2]
      have sw := rest296 (a := a) (d := mset D 769 0 0)
      rw [← er] at sw
      obtain ⟨w1, w2, w3, w4⟩ := id sw
      have m9 : ∀ b, ¬ b = 769 → mset D 769 0 0 b = D b := fun b hb => by
        funext j
        exact ms_a hb
      obtain ⟨x1, x2⟩ := restH (a := a) (d' := g_296 769 a D) (by omega) i3 c2 i2.1 (fun b x y => by rw [w1 b (by omega) (by omega), m9 b (by omega), hD]) sw (by rw [m9 772 (by decide), Dd 772 (by decide)]) rfl rfl
      have gd : ∀ b, 64 < b → ¬ b = 769 → ¬ b = 770 → g_296 769 a D b = d b := fun b x y z => by rw [w1 b y z, m9 b y, Dd b x]
      refine ⟨⟨x2, x1, i3.fr (fun b hb => gd b (by omega) (by omega) (by omega)), i4.fr ?_ ?_ ?_ ?_⟩, ?_, fun r => r.rest (a := a) (by omega) c2 sw (by rw [m9 772 (by decide), Dd 772 (by decide)]) rfl rfl (gd 772 (by decide) (by decide) (by decide)) (gd 775 (by decide) (by decide) (by decide))⟩
      · rw [gd 578 (by decide) (by decide) (by decide)]
      · rw [gd 579 (by decide) (by decide) (by decide)]
      · rw [w3 9 (by decide), ms_i (by decide), Dd 769 (by decide)]
      · rw [gd 776 (by decide) (by decide) (by decide)]
      · rw [w3 0 (by decide), ms_e rfl rfl]
  · rw [if_neg c, if_neg c]
    have e : g_296 769 a d = mset d 769 0 1 := by
      unfold g_296
      rw [v01, if_neg c, if_pos rfl]
    rw [e]
    exact ⟨hi.qr (d1 := d) (fun _ _ _ _ => rfl) QR.s0, ms_e rfl rfl, fun r => QR.s0.rp r rfl rfl (fun _ _ => rfl)⟩
