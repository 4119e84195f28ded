/-! ===== undo, save, restore ===== -/
def OPV (d d2 : mD) (v : Int) : Prop := CI d2 ∧ d2 769 0 = v ∧ (RP d → RP d2)
theorem opUndo {d : mD} (hi : CI d) : OPR d (g_338 0 778 d) (g_294 769 (g_338 0 778 d)) (v_338 0 778 d) (v_294 769 (g_338 0 778 d)) := by
  obtain ⟨i1, i2, i3, i4⟩ := id hi
  have h7 := i2.2.2.1
  have hn := i2.1
  have hc := i2.2.1
  unfold v_338 g_338
  rw [n641, n01]
  by_cases c : d 64 2 = 0
  · rw [if_pos c, if_pos c]
    have e : g_294 769 d = mset d 769 0 1 := by
      unfold g_294 f_294
      rw [if_neg (by omega)]
    rw [e]
    exact OPR.fail hi (by decide)
  · rw [if_neg c, if_neg c]
    have hk := i2.2.2.2 (d 64 2 - 1) (by omega) (by omega)
    have ek : ksl (d 64 1) (d 64 2) (d 64 2 - 1) = 66 + 63 * ((d 64 1 + 8 - 1) % 8) := by
      unfold ksl
      rw [show d 64 1 + 8 - d 64 2 + (d 64 2 - 1) = d 64 1 + 8 - 1 by omega]
    rw [ek] at hk
    obtain ⟨u1, u2, u3, u4⟩ := undoC hn hk
    generalize hD : mset (g_3 64 1 d) 778 0 (g_3 64 1 d 64 2) = D
    have Db : ∀ b, ¬ b = 778 → D b = g_3 64 1 d b := fun b hb => by
      rw [← hD]
      funext j
      exact ms_a hb
    have Dd : ∀ b, 64 < b → ¬ b = 778 → D b = d b := fun b x y => by rw [Db b y, u2 b (by omega) (by omega)]
    have D0 : D 778 0 = d 64 2 - 1 := by rw [← hD, ms_e rfl rfl, u4]
    have D7 : D 769 7 = d 64 2 := by rw [Dd 769 (by decide) (by decide), h7]
    obtain ⟨v1, v2⟩ := undo294 (d := D) (by omega)
    obtain ⟨w1, w2, w3, w4, w5⟩ := id v2
    obtain ⟨x1, x2⟩ := undoH (d' := g_294 769 D) i2 (by omega) (fun b x y => by rw [w1 b (by omega) (by omega), Db b (by omega)]) v2 (by rw [D7, h7]) (Dd 771 (by decide) (by decide)) rfl rfl rfl
    refine ⟨⟨x2, x1, i3.fr (fun b hb => by rw [w1 b (by omega) (by omega), Dd b (by omega) (by omega)]), i4.fr ?_ ?_ ?_ ?_⟩, w3, fun _ => ⟨by rw [v1, D0, D7], by rw [v1, D7]; exact inI.of (by omega)⟩, fun r => ⟨r.1.undo (by omega) v2 (by rw [D7, h7]) (Dd 771 (by decide) (by decide)) rfl rfl (by rw [w1 771 (by decide) (by decide), Dd 771 (by decide) (by decide)]) (by rw [w1 772 (by decide) (by decide), Dd 772 (by decide) (by decide)]) (by rw [w1 775 (by decide) (by decide), Dd 775 (by decide) (by decide)]), r.2.of (by rw [w1 576 (by decide) (by decide), Dd 576 (by decide) (by decide)]) (by rw [w2 11 (by decide) (by decide), Dd 769 (by decide) (by decide)]) (by rw [w2 12 (by decide) (by decide), Dd 769 (by decide) (by decide)])⟩⟩
    · rw [w1 578 (by decide) (by decide), Dd 578 (by decide) (by decide)]
    · rw [w1 579 (by decide) (by decide), Dd 579 (by decide) (by decide)]
    · rw [w2 9 (by decide) (by decide), Dd 769 (by decide) (by decide)]
    · rw [w1 776 (by decide) (by decide), Dd 776 (by decide) (by decide)]
theorem opSave {d : mD} {a : Int} (hi : CI d) : OPV d (g_295 769 a (g_339 0 a d)) (v_339 0 a d) := by
  obtain ⟨i1, i2, i3, i4⟩ := id hi
  unfold v_339 g_339
  rw [n01, show (0 : Int) + 570 = 570 by decide, show (0 : Int) + 571 = 571 by decide, ifR, ifR]
  have v01 : ∀ D, v_176 a 0 1 D = if 0 ≤ a ∧ a < 2 then 1 else 0 := fun D => by
    rw [v176]
    by_cases c : 0 ≤ a ∧ a < 2
    · rw [if_pos c, if_pos (by omega)]
    · rw [if_neg c, if_neg (by omega)]
  by_cases c : 0 ≤ a ∧ a < 2
  · rw [if_pos c, if_pos c, show 570 + (73 + 63 * a) = 643 + 63 * a by omega]
    obtain ⟨-, cf⟩ := i1.copy (a := 643 + 63 * a) (by omega)
    generalize hD : mset (g_59 (643 + 63 * a) 1 d) 571 a 1 = D
    have Dd : ∀ b, ¬ b = 571 → ¬ (643 ≤ b ∧ b ≤ 768) → D b = d b := fun b x y => by
      rw [← hD, ← cf b (by omega)]
      funext j
      exact ms_a x
    have er : g_295 769 a D = lp_295_29 769 a (3116 - 0 : Int).toNat 0 (mset D 769 0 0) := by
      unfold g_295
      rw [v01, if_pos c, if_neg (by decide)]
    have sw := save295 (a := a) (d := mset D 769 0 0)
    rw [← er] at sw
    obtain ⟨w1, w2, w3, w4, w5⟩ := id sw
    have m9 : ∀ b, ¬ b = 769 → mset D 769 0 0 b = D b := fun b hb => by
      funext j
      exact ms_a hb
    have sr := saveH (a := a) (d' := g_295 769 a D) (by omega) i3 i1 (fun b x y => by rw [w1 b (by omega) (by omega), m9 b (by omega), hD]) sw (by rw [m9 770 (by decide), Dd 770 (by decide) (by decide)]) (by rw [m9 772 (by decide), Dd 772 (by decide) (by decide)]) (by rw [m9 775 (by decide), Dd 775 (by decide) (by decide)]) rfl rfl
    have gd : ∀ b, ¬ b = 571 → ¬ (643 ≤ b ∧ b ≤ 768) → ¬ b = 769 → ¬ b = 772 → ¬ b = 775 → g_295 769 a D b = d b := fun b x y z u t => by rw [w1 b u t, m9 b z, Dd b x y]
    have g9 : ∀ j, ¬ j = 0 → g_295 769 a D 769 j = d 769 j := fun j hj => by rw [w1 769 (by decide) (by decide), ms_i hj, Dd 769 (by decide) (by decide)]
    have g70 : g_295 769 a D 770 = d 770 := gd 770 (by decide) (by decide) (by decide) (by decide) (by decide)
    refine ⟨⟨?_, i2.fr (fun b x y => gd b (by omega) (by omega) (by omega) (by omega) (by omega)) (g9 7 (by decide)) (fun j _ _ => by rw [gd 771 (by decide) (by decide) (by decide) (by decide) (by decide)]), sr, i4.fr ?_ ?_ (g9 9 (by decide)) ?_⟩, ?_, fun r => ⟨r.1.save (a := a) (by omega) sw (by rw [m9 770 (by decide), Dd 770 (by decide) (by decide)]) (by rw [m9 772 (by decide), Dd 772 (by decide) (by decide)]) (by rw [m9 775 (by decide), Dd 775 (by decide) (by decide)]) g70 (g9 7 (by decide)) (gd 771 (by decide) (by decide) (by decide) (by decide) (by decide)) rfl rfl, r.2.of (gd 576 (by decide) (by decide) (by decide) (by decide) (by decide)) (g9 11 (by decide)) (g9 12 (by decide))⟩⟩
    · rw [g70]
      exact i1.fr (fun b x y => gd b (by omega) (by omega) (by omega) (by omega) (by omega))
    · rw [gd 578 (by decide) (by decide) (by decide) (by decide) (by decide)]
    · rw [gd 579 (by decide) (by decide) (by decide) (by decide) (by decide)]
    · rw [gd 776 (by decide) (by decide) (by decide) (by decide) (by decide)]
    · rw [w1 769 (by decide) (by decide), ms_e rfl rfl]
  · rw [if_neg c, if_neg c]
    have e : g_295 769 a d = mset d 769 0 1 := by
      unfold g_295
      rw [v01, if_neg c, if_pos rfl]
    rw [e]
    exact ⟨hi.qr (d1 := d) (fun _ _ _ _ => rfl) QR.s0, ms_e rfl rfl, fun r => QR.s0.rp r rfl rfl (fun _ _ => rfl)⟩
theorem opRest {d : mD} {a : Int} (hi : CI d) : OPV d (g_296 769 a (g_340 0 a d)) (v_340 0 a d) := by
  obtain ⟨i1, i2, i3, i4⟩ := id hi
  unfold v_340 g_340
  rw [n641, n01, show (0 : Int) + 570 = 570 by decide, show (0 : Int) + 571 = 571 by decide, ifR, ifR]
  have v01 : ∀ D, v_176 a 0 1 D = if 0 ≤ a ∧ a < 2 then 1 else 0 := fun D => by
    rw [v176]
    by_cases c : 0 ≤ a ∧ a < 2
    · rw [if_pos c, if_pos (by omega)]
    · rw [if_neg c, if_neg (by omega)]
  by_cases c : 0 ≤ a ∧ a < 2
  · rw [if_pos c, if_pos c, show 570 + (73 + 63 * a) = 643 + 63 * a by omega]
    obtain ⟨s1, s2⟩ := i3 a (by omega)
    rw [s1]
    by_cases c2 : d 775 a = 0
    · rw [if_pos c2, if_pos c2]
      have e : g_296 769 a d = mset d 769 0 2 := by
        unfold g_296
        rw [v01, if_pos c, if_neg (by decide), show (769 : Int) + 6 = 775 by decide, if_pos c2]
      rw [e]
      exact ⟨hi.qr (d1 := d) (fun _ _ _ _ => rfl) QR.s0, ms_e rfl rfl, fun r => QR.s0.rp r rfl rfl (fun _ _ => rfl)⟩
    · rw [if_neg c2, if_neg c2]
      obtain ⟨-, cf⟩ := (s2 c2).copy (a := 1) (by omega)
      generalize hD : g_4 64 (g_59 1 (643 + 63 * a) d) = D
      have Dd : ∀ b, 64 < b → D b = d b := fun b x => by
        rw [← hD, ← cf b (by omega)]
        unfold g_4
        funext j
        exact ms_a (by omega)
      have er : g_296 769 a D = lp_296_42 769 a (3116 - 0 : Int).toNat 0 (mset D 769 0 0) := by
        unfold g_296
        rw [v01, if_pos c, if_neg (by decide), show (769 : Int) + 6 = 775 by decide, Dd 775 (by decide), if_neg c2]
      have sw := rest296 (a := a) (d := mset D 769 0 0)
      rw [← er] at sw
      obtain ⟨w1, w2, w3, w4⟩ := id sw
      have m9 : ∀ b, ¬ b = 769 → mset D 769 0 0 b = D b := fun b hb => by
        funext j
        exact ms_a hb
      obtain ⟨x1, x2⟩ := restH (a := a) (d' := g_296 769 a D) (by omega) i3 c2 i2.1 (fun b x y => by rw [w1 b (by omega) (by omega), m9 b (by omega), hD]) sw (by rw [m9 772 (by decide), Dd 772 (by decide)]) rfl rfl
      have gd : ∀ b, 64 < b → ¬ b = 769 → ¬ b = 770 → g_296 769 a D b = d b := fun b x y z => by rw [w1 b y z, m9 b y, Dd b x]
      refine ⟨⟨x2, x1, i3.fr (fun b hb => gd b (by omega) (by omega) (by omega)), i4.fr ?_ ?_ ?_ ?_⟩, ?_, fun r => ⟨r.1.rest (a := a) (by omega) c2 sw (by rw [m9 772 (by decide), Dd 772 (by decide)]) rfl rfl (gd 772 (by decide) (by decide) (by decide)) (gd 775 (by decide) (by decide) (by decide)), r.2.of (gd 576 (by decide) (by decide) (by decide)) (by rw [w3 11 (by decide), ms_i (by decide), Dd 769 (by decide)]) (by rw [w3 12 (by decide), ms_i (by decide), Dd 769 (by decide)])⟩⟩
      · rw [gd 578 (by decide) (by decide) (by decide)]
      · rw [gd 579 (by decide) (by decide) (by decide)]
      · rw [w3 9 (by decide), ms_i (by decide), Dd 769 (by decide)]
      · rw [gd 776 (by decide) (by decide) (by decide)]
      · rw [w3 0 (by decide), ms_e rfl rfl]
  · rw [if_neg c, if_neg c]
    have e : g_296 769 a d = mset d 769 0 1 := by
      unfold g_296
      rw [v01, if_neg c, if_pos rfl]
    rw [e]
    exact ⟨hi.qr (d1 := d) (fun _ _ _ _ => rfl) QR.s0, ms_e rfl rfl, fun r => QR.s0.rp r rfl rfl (fun _ _ => rfl)⟩
/-! ===== append, truncate, find, addPerson ===== -/
theorem f185n {x1 x2 x3 x4 x5 : Int} {e : mD} : (∀ b, ¬ b = 769 → ¬ b = 776 → g_185 769 x5 (g_185 769 x4 (g_185 769 x3 (g_185 769 x2 (g_185 769 x1 e)))) b = e b) ∧ ∀ j, ¬ j = 9 → g_185 769 x5 (g_185 769 x4 (g_185 769 x3 (g_185 769 x2 (g_185 769 x1 e)))) 769 j = e 769 j := ⟨fun b x y => by rw [f185.1 b x y, f185.1 b x y, f185.1 b x y, f185.1 b x y, f185.1 b x y], fun j x => by rw [f185.2 j x, f185.2 j x, f185.2 j x, f185.2 j x, f185.2 j x]⟩
theorem opApp {d : mD} {x1 x2 x3 x4 x5 : Int} (hi : CI d) : OPR d (g_301 0 x1 x2 x3 x4 x5 778 d) (g_186 769 x1 x2 x3 x4 x5 (g_301 0 x1 x2 x3 x4 x5 778 d)) (v_301 0 x1 x2 x3 x4 x5 778 d) (v_186 769 x1 x2 x3 x4 x5 (g_301 0 x1 x2 x3 x4 x5 778 d)) := by
  obtain ⟨i1, i2, i3, i4⟩ := id hi
  have e9 := i4.2.1
  unfold v_301 g_301
  rw [show (0 : Int) + 578 = 578 by decide]
  by_cases c : (1000 : Int) < d 578 1 + 20
  · rw [if_pos c, if_pos c]
    have e : g_186 769 x1 x2 x3 x4 x5 d = mset d 769 0 1 := by
      unfold g_186
      rw [e9, if_pos c]
    rw [e]
    exact OPR.fail hi (by decide)
  · rw [if_neg c, if_neg c]
    have f87 := (i4.app (a := x1) (b := x2) (c := x3) (x := x4) (y := x5) (by omega)).2.2
    have a2 := (i4.app (a := x1) (b := x2) (c := x3) (x := x4) (y := x5) (by omega)).2.1
    generalize hT : g_87 578 x5 (g_87 578 x4 (g_87 578 x3 (g_87 578 x2 (g_87 578 x1 d)))) = T at *
    generalize hD : mset T 778 0 (T 578 1) = D
    have Db : ∀ b, ¬ b = 778 → D b = T b := fun b hb => by
      rw [← hD]
      funext j
      exact ms_a hb
    have Dd : ∀ b, ¬ b = 578 → ¬ b = 579 → ¬ b = 778 → D b = d b := fun b x y z => by rw [Db b z, f87 b x y]
    have D0 : D 778 0 = T 578 1 := by rw [← hD, ms_e rfl rfl]
    have m9 : ∀ b, ¬ b = 769 → mset D 769 0 0 b = D b := fun b hb => by
      funext j
      exact ms_a hb
    have ht : TextR d (mset D 769 0 0) := i4.fr rfl rfl (by rw [ms_i (by decide), Dd 769 (by decide) (by decide) (by decide)]) (by rw [m9 776 (by decide), Dd 776 (by decide) (by decide) (by decide)])
    have ap := (ht.app (a := x1) (b := x2) (c := x3) (x := x4) (y := x5) (by omega)).1
    rw [hT] at ap
    obtain ⟨f1, f2⟩ := f185n (x1 := x1) (x2 := x2) (x3 := x3) (x4 := x4) (x5 := x5) (e := mset D 769 0 0)
    have D9 : D 769 9 = d 578 1 := by rw [Dd 769 (by decide) (by decide) (by decide), e9]
    have eg : g_186 769 x1 x2 x3 x4 x5 D = g_185 769 x5 (g_185 769 x4 (g_185 769 x3 (g_185 769 x2 (g_185 769 x1 (mset D 769 0 0))))) := by
      unfold g_186
      rw [D9, if_neg c]
    have ev : v_186 769 x1 x2 x3 x4 x5 D = g_185 769 x5 (g_185 769 x4 (g_185 769 x3 (g_185 769 x2 (g_185 769 x1 (mset D 769 0 0))))) 769 9 := by
      unfold v_186
      rw [D9, if_neg c]
    rw [eg, ev]
    generalize g_185 769 x5 (g_185 769 x4 (g_185 769 x3 (g_185 769 x2 (g_185 769 x1 (mset D 769 0 0))))) = Z at *
    have Zd : ∀ b, ¬ b = 578 → ¬ b = 579 → ¬ b = 778 → ¬ b = 769 → ¬ b = 776 → Z b = d b := fun b x y z u t => by rw [f1 b u t, m9 b u, Dd b x y z]
    have ZT : ∀ b, ¬ b = 769 → ¬ b = 776 → ¬ b = 778 → Z b = T b := fun b x y z => by rw [f1 b x y, m9 b x, Db b z]
    refine ⟨⟨?_, i2.fr (fun b x y => Zd b (by omega) (by omega) (by omega) (by omega) (by omega)) ?_ (fun j _ _ => by rw [Zd 771 (by decide) (by decide) (by decide) (by decide) (by decide)]), i3.fr (fun b hb => Zd b (by omega) (by omega) (by omega) (by omega) (by omega)), ap.fr ?_ ?_ rfl rfl⟩, ?_, fun _ => ⟨?_, inI.of (by have := ap.2.1; have := ap.1; omega)⟩, fun r => ⟨r.1.q (fun i _ _ => by rw [Zd 770 (by decide) (by decide) (by decide) (by decide) (by decide)]) (by rw [f2 7 (by decide), ms_i (by decide), Dd 769 (by decide) (by decide) (by decide)]) (fun b hb => Zd b (by omega) (by omega) (by omega) (by omega) (by omega)), r.2.of (Zd 576 (by decide) (by decide) (by decide) (by decide) (by decide)) (by rw [f2 11 (by decide), ms_i (by decide), Dd 769 (by decide) (by decide) (by decide)]) (by rw [f2 12 (by decide), ms_i (by decide), Dd 769 (by decide) (by decide) (by decide)])⟩⟩
    · rw [Zd 770 (by decide) (by decide) (by decide) (by decide) (by decide)]
      exact i1.fr (fun b x y => Zd b (by omega) (by omega) (by omega) (by omega) (by omega))
    · rw [f2 7 (by decide), ms_i (by decide), Dd 769 (by decide) (by decide) (by decide)]
    · rw [ZT 578 (by decide) (by decide) (by decide)]
    · rw [ZT 579 (by decide) (by decide) (by decide)]
    · rw [f2 0 (by decide), ms_e rfl rfl]
    · rw [D0]
      exact ap.2.1.symm
theorem opTrunc {d : mD} {n : Int} (hi : CI d) : OPR d (g_302 0 n 778 d) (g_187 769 n (g_302 0 n 778 d)) (v_302 0 n 778 d) (v_187 769 n (g_302 0 n 778 d)) := by
  obtain ⟨i1, i2, i3, i4⟩ := id hi
  have e9 := i4.2.1
  have hl := i4.1
  unfold v_302 g_302
  rw [show (0 : Int) + 578 = 578 by decide]
  by_cases c : 0 ≤ n ∧ n ≤ d 578 1
  · rw [if_neg (show ¬ n < 0 by omega), if_neg (show ¬ n < 0 by omega), if_neg (show ¬ d 578 1 < n by omega), if_neg (show ¬ d 578 1 < n by omega)]
    generalize hD : mset (mset d 578 1 n) 778 0 n = D
    have Dd : ∀ b, ¬ b = 578 → ¬ b = 778 → D b = d b := fun b x y => by
      rw [← hD]
      funext j
      rw [ms_a y, ms_a x]
    have D0 : D 778 0 = n := by rw [← hD, ms_e rfl rfl]
    have D8 : D 578 1 = n := by rw [← hD, ms_a (by decide), ms_e rfl rfl]
    have D9 : D 769 9 = d 578 1 := by rw [Dd 769 (by decide) (by decide), e9]
    have eg : g_187 769 n D = mset (mset D 769 0 0) 769 9 n := by
      unfold g_187
      rw [v176, D9, if_pos c, if_neg (by decide)]
    have ev : v_187 769 n D = n := by
      unfold v_187
      rw [v176, D9, if_pos c, if_neg (by decide)]
    rw [eg, ev]
    have Zd : ∀ b, ¬ b = 578 → ¬ b = 778 → ¬ b = 769 → mset (mset D 769 0 0) 769 9 n b = d b := fun b x y z => by
      rw [← Dd b x y]
      funext j
      rw [ms_a z, ms_a z]
    refine ⟨⟨?_, i2.fr (fun b x y => Zd b (by omega) (by omega) (by omega)) ?_ (fun j _ _ => by rw [Zd 771 (by decide) (by decide) (by decide)]), i3.fr (fun b hb => Zd b (by omega) (by omega) (by omega)), ?_⟩, ?_, fun _ => ⟨D0, inI.of (by omega)⟩, fun r => ⟨r.1.q (fun i _ _ => by rw [Zd 770 (by decide) (by decide) (by decide)]) (by rw [ms_i (by decide), ms_i (by decide), Dd 769 (by decide) (by decide)]) (fun b hb => Zd b (by omega) (by omega) (by omega)), r.2.of (Zd 576 (by decide) (by decide) (by decide)) (by rw [ms_i (by decide), ms_i (by decide), Dd 769 (by decide) (by decide)]) (by rw [ms_i (by decide), ms_i (by decide), Dd 769 (by decide) (by decide)])⟩⟩
    · rw [Zd 770 (by decide) (by decide) (by decide)]
      exact i1.fr (fun b x y => Zd b (by omega) (by omega) (by omega))
    · rw [ms_i (by decide), ms_i (by decide), Dd 769 (by decide) (by decide)]
    · have z8 : mset (mset D 769 0 0) 769 9 n 578 1 = n := by rw [ms_a (by decide), ms_a (by decide), D8]
      refine ⟨by omega, by rw [z8, ms_e rfl rfl], fun i x y => ?_⟩
      rw [Zd 579 (by decide) (by decide) (by decide), Zd 776 (by decide) (by decide) (by decide)]
      exact i4.2.2 i x (by omega)
    · rw [ms_i (by decide), ms_e rfl rfl]
  · have ev : (if n < 0 then (1 : Int) else if d 578 1 < n then 1 else 0) = 1 := by
      by_cases z : n < 0
      · rw [if_pos z]
      · rw [if_neg z, if_pos (by omega)]
    have eg : ∀ u : mD, (if n < 0 then d else if d 578 1 < n then d else u) = d := fun u => by
      by_cases z : n < 0
      · rw [if_pos z]
      · rw [if_neg z, if_pos (by omega)]
    rw [ev, eg]
    have e : g_187 769 n d = mset d 769 0 1 := by
      unfold g_187
      rw [v176, e9, if_neg c, if_pos rfl]
    rw [e]
    exact OPR.fail hi (by decide)
-- the text goes
theorem CI.noText {d D d2 : mD} (h : CI d) (hD : ∀ b, ¬ b = 578 → ¬ b = 769 → ¬ b = 778 → d2 b = d b) (h8 : d2 578 1 = 0) (h9 : d2 769 9 = 0) (h7 : d2 769 7 = d 769 7) : CI d2 := by
  obtain ⟨i1, i2, i3, i4⟩ := h
  refine ⟨?_, i2.fr (fun b x y => hD b (by omega) (by omega) (by omega)) h7 (fun j _ _ => by rw [hD 771 (by decide) (by decide) (by decide)]), i3.fr (fun b hb => hD b (by omega) (by omega) (by omega)), by omega, by omega, fun i x y => by omega⟩
  rw [hD 770 (by decide) (by decide) (by decide)]
  exact i1.fr (fun b x y => hD b (by omega) (by omega) (by omega))
theorem nameEq {d D : mD} (hi : CI d) (hD : ∀ b, ¬ b = 578 → ¬ b = 778 → D b = d b) : ((v_93 578 0 (d 578 1) d ≤ 0 ∧ v_210 769 D = 0) ∨ (okN (v_93 578 0 (d 578 1) d) ∧ v_210 769 D = nm (v_93 578 0 (d 578 1) d))) ∧ (v_93 578 0 (d 578 1) d ≤ 0 → v_93 578 0 (d 578 1) d = -1) ∧ g_210 769 D = mset D 769 9 0 ∧ v_48 11 (v_93 578 0 (d 578 1) d) (mset d 578 1 0) = V_183 (v_210 769 D) (d 770) ∧ v_36 3 (v_93 578 0 (d 578 1) d) (mset d 578 1 0) = V_184 (v_210 769 D) (d 770) := by
  obtain ⟨i1, i2, i3, i4⟩ := hi
  have ht : TextR d D := i4.fr rfl rfl (by rw [hD 769 (by decide) (by decide)]) (by rw [hD 776 (by decide) (by decide)])
  obtain ⟨c1, c2⟩ := content ht
  have hr : Rel 1 (mset d 578 1 0) (d 770) := (i1.fr (fun b x y => by funext j; exact ms_a (by omega))).2.2.2.2
  have hP := hr.2.2.2.1
  have hO := hr.2.1
  rcases c1 with ⟨c1, c3⟩ | ⟨c1, c3⟩
  · refine ⟨Or.inl ⟨by omega, c3⟩, fun _ => c1, c2, ?_, ?_⟩
    · exact noP (s := 1) hP (by omega) (by omega)
    · exact noO (s := 1) hO (by omega) (by omega)
  · refine ⟨Or.inr ⟨c1, c3⟩, fun z => absurd c1.1 (by omega), c2, ?_, ?_⟩
    · rw [c3]
      exact findP (s := 1) hP c1
    · rw [c3]
      exact findO (s := 1) hO c1
theorem opFind {d : mD} {k : Int} (hi : CI d) : OPR d (g_304 0 k 778 d) (g_211 769 k (g_304 0 k 778 d)) (v_304 0 k 778 d) (v_211 769 k (g_304 0 k 778 d)) := by
  have fin : ∀ (D : mD) (c v vr : Int), (∀ b, ¬ b = 578 → ¬ b = 778 → D b = d b) → D 578 1 = 0 → (c = 0 → D 778 0 = vr ∧ inI vr) → OPR d D (mset (mset D 769 9 0) 769 0 c) c vr := fun D c v vr h1 h2 h3 => by
    refine ⟨hi.noText (D := D) (fun b x y z => ?_) ?_ ?_ ?_, ms_e rfl rfl, h3, fun r => ⟨r.1.q (fun i _ _ => ?_) ?_ (fun b hb => ?_), r.2.of ?_ ?_ ?_⟩⟩
    · rw [← h1 b x z]
      funext j
      rw [ms_a y, ms_a y]
    · rw [ms_a (by decide), ms_a (by decide), h2]
    · rw [ms_i (by decide), ms_e rfl rfl]
    · rw [ms_i (by decide), ms_i (by decide), h1 769 (by decide) (by decide)]
    · rw [ms_a (by decide), ms_a (by decide), h1 770 (by decide) (by decide)]
    · rw [ms_i (by decide), ms_i (by decide), h1 769 (by decide) (by decide)]
    · rw [← h1 b (by omega) (by omega)]
      funext j
      rw [ms_a (by omega), ms_a (by omega)]
    · rw [← h1 576 (by decide) (by decide)]
      funext j
      rw [ms_a (by decide), ms_a (by decide)]
    · rw [ms_i (by decide), ms_i (by decide), h1 769 (by decide) (by decide)]
    · rw [ms_i (by decide), ms_i (by decide), h1 769 (by decide) (by decide)]
  unfold v_304 g_304
  rw [show (0 : Int) + 578 = 578 by decide, n01, show (1 : Int) + 10 = 11 by decide, show (1 : Int) + 2 = 3 by decide]
  have d0 : ∀ b, ¬ b = 578 → ¬ b = 778 → mset d 578 1 0 b = d b := fun b x _ => by
    funext j
    exact ms_a x
  have d1 : ∀ v b, ¬ b = 578 → ¬ b = 778 → mset (mset d 578 1 0) 778 0 v b = d b := fun v b x y => by
    funext j
    rw [ms_a y, ms_a x]
  have key : ∀ D, (∀ b, ¬ b = 578 → ¬ b = 778 → D b = d b) → v_48 11 (v_93 578 0 (d 578 1) d) (mset d 578 1 0) = v_183 769 (v_210 769 D) (g_210 769 D) ∧ v_36 3 (v_93 578 0 (d 578 1) d) (mset d 578 1 0) = v_184 769 (v_210 769 D) (g_210 769 D) ∧ g_210 769 D = mset D 769 9 0 := fun D hD => by
    obtain ⟨-, -, n3, n4, n5⟩ := nameEq hi hD
    have r : g_210 769 D 770 = d 770 := by
      rw [n3, ← hD 770 (by decide) (by decide)]
      funext j
      exact ms_a (by decide)
    rw [m_v_183, m_v_184, r]
    exact ⟨n4, n5, n3⟩
  by_cases ck : k = 0
  · rw [if_pos ck, if_pos ck]
    by_cases c : v_48 11 (v_93 578 0 (d 578 1) d) (mset d 578 1 0) = -1
    · rw [if_pos c, if_pos c]
      obtain ⟨k1, -, k3⟩ := key _ d0
      have e : g_211 769 k (mset d 578 1 0) = mset (mset (mset d 578 1 0) 769 9 0) 769 0 1 := by
        unfold g_211
        rw [if_pos ck, ← k1, if_pos c, k3]
      rw [e]
      exact fin _ 1 0 _ d0 (ms_e rfl rfl) (fun z => absurd z (by decide))
    · rw [if_neg c, if_neg c]
      obtain ⟨k1, -, k3⟩ := key _ (d1 (v_48 11 (v_93 578 0 (d 578 1) d) (mset d 578 1 0)))
      have rg : -100000 ≤ v_48 11 (v_93 578 0 (d 578 1) d) (mset d 578 1 0) ∧ v_48 11 (v_93 578 0 (d 578 1) d) (mset d 578 1 0) ≤ 100000 := by
        have n8 := hi.1.1.1.2.1
        rcases V183_rng (m := v_210 769 (mset d 578 1 0)) n8 with z | z
        · rw [(nameEq hi d0).2.2.2.1, z]; decide
        · rw [(nameEq hi d0).2.2.2.1]; omega
      generalize hv : v_48 11 (v_93 578 0 (d 578 1) d) (mset d 578 1 0) = v at *
      have e : g_211 769 k (mset (mset d 578 1 0) 778 0 v) = mset (mset (mset (mset d 578 1 0) 778 0 v) 769 9 0) 769 0 0 ∧ v_211 769 k (mset (mset d 578 1 0) 778 0 v) = v := by
        unfold g_211 v_211
        rw [if_pos ck, if_pos ck, ← k1, if_neg c, if_neg c, k3]
        exact ⟨rfl, rfl⟩
      rw [e.1, e.2]
      exact fin _ 0 0 _ (d1 v) (by rw [ms_a (by decide), ms_e rfl rfl]) (fun _ => ⟨ms_e rfl rfl, inI.of rg⟩)
  · rw [if_neg ck, if_neg ck]
    by_cases c : v_36 3 (v_93 578 0 (d 578 1) d) (mset d 578 1 0) = -1
    · rw [if_pos c, if_pos c]
      obtain ⟨-, k1, k3⟩ := key _ d0
      have e : g_211 769 k (mset d 578 1 0) = mset (mset (mset d 578 1 0) 769 9 0) 769 0 1 := by
        unfold g_211
        rw [if_neg ck, ← k1, if_pos c, k3]
      rw [e]
      exact fin _ 1 0 _ d0 (ms_e rfl rfl) (fun z => absurd z (by decide))
    · rw [if_neg c, if_neg c]
      obtain ⟨-, k1, k3⟩ := key _ (d1 (v_36 3 (v_93 578 0 (d 578 1) d) (mset d 578 1 0)))
      have rg : -100000 ≤ v_36 3 (v_93 578 0 (d 578 1) d) (mset d 578 1 0) ∧ v_36 3 (v_93 578 0 (d 578 1) d) (mset d 578 1 0) ≤ 100000 := by
        have n7 := hi.1.1.1.1
        rcases V184_rng (m := v_210 769 (mset d 578 1 0)) n7 with z | z
        · rw [(nameEq hi d0).2.2.2.2, z]; decide
        · rw [(nameEq hi d0).2.2.2.2]; omega
      generalize hv : v_36 3 (v_93 578 0 (d 578 1) d) (mset d 578 1 0) = v at *
      have e : g_211 769 k (mset (mset d 578 1 0) 778 0 v) = mset (mset (mset (mset d 578 1 0) 778 0 v) 769 9 0) 769 0 0 ∧ v_211 769 k (mset (mset d 578 1 0) 778 0 v) = v := by
        unfold g_211 v_211
        rw [if_neg ck, if_neg ck, ← k1, if_neg c, if_neg c, k3]
        exact ⟨rfl, rfl⟩
      rw [e.1, e.2]
      exact fin _ 0 0 _ (d1 v) (by rw [ms_a (by decide), ms_e rfl rfl]) (fun _ => ⟨ms_e rfl rfl, inI.of rg⟩)
/-! ===== addPerson ===== -/
theorem f47a {c : Int} {d : mD} (h0 : 0 ≤ d 11 0) : ∀ b, (b < 11 ∨ 63 < b) → g_47 11 c d b = d b := fun b hb => by
  unfold g_47
  split
  · have eh : g_8 (11 + 6 + (1 + 2 * d 11 0)) = fun e => mfl e (19 + 2 * d 11 0) 0 16 := by
      funext e
      unfold g_8 g_300
      rw [show 11 + 6 + (1 + 2 * d 11 0) + 1 = 19 + 2 * d 11 0 by omega]
    rw [eh]
    funext j
    simp (disch := omega) only [ms_a, fl_n]
  · rfl
theorem f47n {c : Int} {d : mD} (h0 : 0 ≤ d 11 0 ∧ d 11 0 < 16) : g_47 11 c d 11 0 = d 11 0 + 1 := by
  unfold g_47
  rw [if_pos h0.2]
  exact ms_e rfl rfl
theorem opAddP {d : mD} (hi : CI d) : OPR d (g_336 0 778 d) (g_290 769 (g_336 0 778 d)) (v_336 0 778 d) (v_290 769 (g_336 0 778 d)) := by
  obtain ⟨i1, i2, i3, i4⟩ := id hi
  obtain ⟨hg, hw, hp, ht, hr⟩ := id i1
  have o8 : d 11 0 = d 770 8 := hr.2.2.2.1.1
  have n8 := hg.1.2.1
  have fin : ∀ (D : mD) (c vr : Int), (∀ b, ¬ b = 578 → ¬ b = 778 → D b = d b) → D 578 1 = 0 → ¬ c = 0 → OPR d D (mset (mset D 769 9 0) 769 0 c) c vr := fun D c vr h1 h2 h3 => by
    refine ⟨hi.noText (D := D) (fun b x y z => ?_) ?_ ?_ ?_, ms_e rfl rfl, fun z => absurd z h3, fun r => ⟨r.1.q (fun i _ _ => ?_) ?_ (fun b hb => ?_), r.2.of ?_ ?_ ?_⟩⟩
    · rw [← h1 b x z]
      funext j
      rw [ms_a y, ms_a y]
    · rw [ms_a (by decide), ms_a (by decide), h2]
    · rw [ms_i (by decide), ms_e rfl rfl]
    · rw [ms_i (by decide), ms_i (by decide), h1 769 (by decide) (by decide)]
    · rw [ms_a (by decide), ms_a (by decide), h1 770 (by decide) (by decide)]
    · rw [ms_i (by decide), ms_i (by decide), h1 769 (by decide) (by decide)]
    · rw [← h1 b (by omega) (by omega)]
      funext j
      rw [ms_a (by omega), ms_a (by omega)]
    · rw [← h1 576 (by decide) (by decide)]
      funext j
      rw [ms_a (by decide), ms_a (by decide)]
    · rw [ms_i (by decide), ms_i (by decide), h1 769 (by decide) (by decide)]
    · rw [ms_i (by decide), ms_i (by decide), h1 769 (by decide) (by decide)]
  have d0 : ∀ b, ¬ b = 578 → ¬ b = 778 → mset d 578 1 0 b = d b := fun b x _ => by
    funext j
    exact ms_a x
  have key : ∀ D : mD, (∀ b, ¬ b = 578 → ¬ b = 778 → D b = d b) → v_183 769 (v_210 769 D) (g_210 769 D) = v_48 11 (v_93 578 0 (d 578 1) d) (mset d 578 1 0) ∧ g_210 769 D = mset D 769 9 0 ∧ ((v_93 578 0 (d 578 1) d = -1 ∧ v_210 769 D = 0) ∨ (okN (v_93 578 0 (d 578 1) d) ∧ v_210 769 D = nm (v_93 578 0 (d 578 1) d) ∧ ¬ v_210 769 D = 0)) := fun D hD => by
    obtain ⟨n1, n2, n3, n4, -⟩ := nameEq hi hD
    have r : g_210 769 D 770 = d 770 := by
      rw [n3, ← hD 770 (by decide) (by decide)]
      funext j
      exact ms_a (by decide)
    refine ⟨by rw [m_v_183, r, n4], n3, ?_⟩
    rcases n1 with ⟨a, b⟩ | ⟨a, b⟩
    · exact Or.inl ⟨n2 a, b⟩
    · refine Or.inr ⟨a, b, ?_⟩
      rw [b]
      obtain ⟨q1, q2, q3, q4, q5, q6, q7, q8⟩ := a
      unfold nm
      omega
  unfold v_336 g_336
  rw [show (0 : Int) + 578 = 578 by decide, n01, n641, show (1 : Int) + 10 = 11 by decide, o8]
  obtain ⟨k1, k2, k3⟩ := key _ d0
  by_cases c1 : v_93 578 0 (d 578 1) d = -1
  · rw [if_pos c1, if_pos c1]
    have z : v_210 769 (mset d 578 1 0) = 0 := by
      rcases k3 with k3 | k3
      · exact k3.2
      · exact absurd k3.1.1 (by omega)
    have e : g_290 769 (mset d 578 1 0) = mset (mset (mset d 578 1 0) 769 9 0) 769 0 1 := by
      unfold g_290
      rw [if_pos z, k2]
    rw [e]
    exact fin _ 1 _ d0 (ms_e rfl rfl) (by decide)
  · rw [if_neg c1, if_neg c1]
    have z : ¬ v_210 769 (mset d 578 1 0) = 0 := by
      rcases k3 with k3 | k3
      · exact absurd k3.1 c1
      · exact k3.2.2
    have e8 : mset d 578 1 0 770 8 = d 770 8 := ms_a (by decide)
    by_cases c2 : d 770 8 < 16
    · rw [if_pos c2, if_pos c2]
      by_cases c3 : v_48 11 (v_93 578 0 (d 578 1) d) (mset d 578 1 0) = -1
      · rw [if_pos c3, if_pos c3]
        clear k1 k2 k3 z e8
        generalize hc : v_93 578 0 (d 578 1) d = c at *
        generalize hdc : mset d 578 1 0 = dc at *
        have ok : OKR 1 dc (d 770) := i1.fr (fun b x y => d0 b (by omega) (by omega))
        have hn : 0 ≤ dc 64 1 ∧ dc 64 1 < 8 := by
          rw [d0 64 (by decide) (by decide)]
          exact i2.1
        obtain ⟨kk, kf, -, -⟩ := keepC hn ok
        have kO : OKR 1 (g_2 64 1 dc) (d 770) := ok.fr (fun b x y => kf b (by omega) (by omega))
        have k11 : g_2 64 1 dc 11 0 = d 770 8 := by rw [kf 11 (by decide) (by omega), d0 11 (by decide) (by decide), o8]
        have f47 := f47a (c := c) (d := g_2 64 1 dc) (by omega)
        have f47v := f47n (c := c) (d := g_2 64 1 dc) (by omega)
        rw [f47v, k11]
        generalize hU : g_47 11 c (g_2 64 1 dc) = U at *
        generalize hDD : mset U 778 0 (d 770 8 + 1 - 1) = D
        have DU : ∀ b, ¬ b = 778 → D b = U b := fun b hb => by
          rw [← hDD]
          funext j
          exact ms_a hb
        have D0 : D 778 0 = d 770 8 := by
          rw [← hDD, ms_e rfl rfl]
          omega
        have Dc : ∀ b, 63 < b → ¬ b = 778 → D b = g_2 64 1 dc b := fun b x y => by rw [DU b y, f47 b (by omega)]
        have Dd : ∀ b, 569 < b → ¬ b = 578 → ¬ b = 778 → D b = d b := fun b x y z => by rw [Dc b (by omega) z, kf b (by omega) (by omega), d0 b y z]
        have D8 : D 578 1 = 0 := by rw [Dc 578 (by decide) (by decide), kf 578 (by decide) (by omega), ← hdc, ms_e rfl rfl]
        -- the reference's text is that of d
        have ht' : TextR d D := i4.fr rfl rfl (by rw [Dd 769 (by decide) (by decide) (by decide)]) (by rw [Dd 776 (by decide) (by decide) (by decide)])
        obtain ⟨t1, t2⟩ := content ht'
        rw [hc] at t1
        have t1 : okN c ∧ v_210 769 D = nm c := by
          rcases t1 with t1 | t1
          · exact absurd t1.1 c1
          · exact t1
        have nz : ¬ nm c = 0 := by
          obtain ⟨q1, q2, q3, q4, q5, q6, q7, q8⟩ := t1.1
          unfold nm
          omega
        have g70 : mset D 769 9 0 770 = d 770 := by
          rw [← Dd 770 (by decide) (by decide) (by decide)]
          funext j
          exact ms_a (by decide)
        have v83 : V_183 (nm c) (d 770) = -1 := by
          rw [← findP (s := 1) ok.2.2.2.2.2.2.2.1 t1.1]
          exact c3
        have kw := keep278 (d := mset (mset D 769 9 0) 769 0 0)
        obtain ⟨w1, w2, w3⟩ := id kw
        have m9 : ∀ b, ¬ b = 769 → mset (mset D 769 9 0) 769 0 0 b = D b := fun b hb => by
          funext j
          rw [ms_a hb, ms_a hb]
        have r70 : g_278 769 (mset (mset D 769 9 0) 769 0 0) 770 = d 770 := by rw [w1 770 (by decide) (by decide), m9 770 (by decide), Dd 770 (by decide) (by decide) (by decide)]
        obtain ⟨a1, a2, a3, a4, a5⟩ := addP (s := 1) (c := c) hg hw kO.2.2.2.2 c2 t1.1
        have gp := addPX (c := nm c) hg c2 hp
        have a3 : Rel 1 U (W_182 (nm c) (d 770)) := by rw [← hU]; exact a3
        have n16 : ¬ d 770 8 = 16 := by omega
        have e : g_290 769 D = rset (g_278 769 (mset (mset D 769 9 0) 769 0 0)) (W_182 (nm c) (d 770)) ∧ v_290 769 D = d 770 8 := by
          unfold g_290 v_290
          rw [t1.2, if_neg nz, if_neg nz, show (769 : Int) + 1 = 770 by decide, Dd 770 (by decide) (by decide) (by decide), if_neg n16, if_neg n16, t2, m_v_183, g70, if_pos v83, if_pos v83, m_g_182, r70, rset_at, a4]
          exact ⟨rfl, by omega⟩
        rw [e.1, e.2]
        generalize hR : g_278 769 (mset (mset D 769 9 0) 769 0 0) = R at *
        have rn : ∀ b, ¬ b = 770 → rset R (W_182 (nm c) (d 770)) b = R b := fun b hb => rset_ne hb
        have rb : ∀ b, ¬ b = 769 → ¬ b = 770 → ¬ b = 771 → rset R (W_182 (nm c) (d 770)) b = D b := fun b x y z => by rw [rn b y, w1 b x z, m9 b x]
        have hHd : HistRel dc := i2.fr (fun b x y => d0 b (by omega) (by omega)) (by rw [d0 769 (by decide) (by decide)]) (fun j _ _ => by rw [d0 771 (by decide) (by decide)])
        have h70 : dc 770 = d 770 := d0 770 (by decide) (by decide)
        refine ⟨⟨?_, ?_, i3.fr (fun b hb => by rw [rb b (by omega) (by omega) (by omega), Dd b (by omega) (by omega) (by omega)]), ?_⟩, ?_, fun _ => ⟨D0, inI.of (by omega)⟩, fun r => ⟨r.1.keep (by have := i2.2.1; have := i2.2.2.1; omega) kw (by rw [ms_i (by decide), ms_i (by decide), Dd 769 (by decide) (by decide) (by decide)]) (by rw [m9 770 (by decide), Dd 770 (by decide) (by decide) (by decide)]) (by rw [m9 771 (by decide), Dd 771 (by decide) (by decide) (by decide)]) (by rw [rn 769 (by decide)]) (rn 771 (by decide)) (by rw [rb 772 (by decide) (by decide) (by decide), Dd 772 (by decide) (by decide) (by decide)]) (by rw [rb 775 (by decide) (by decide) (by decide), Dd 775 (by decide) (by decide) (by decide)]) (by rw [rset_at]; exact r.1.1.fr (fun u u0 u1 => ⟨a5 _ (by omega) (by omega), a5 _ (by omega) (by omega)⟩)), r.2.of (by rw [rb 576 (by decide) (by decide) (by decide), Dd 576 (by decide) (by decide) (by decide)]) (by rw [rn 769 (by decide), w2 11 (by decide), ms_i (by decide), ms_i (by decide), Dd 769 (by decide) (by decide) (by decide)]) (by rw [rn 769 (by decide), w2 12 (by decide), ms_i (by decide), ms_i (by decide), Dd 769 (by decide) (by decide) (by decide)])⟩⟩
        · rw [rset_at]
          have : OKR 1 U (W_182 (nm c) (d 770)) := ⟨a1, a2, gp, by rw [a5 0 (by decide) (by decide)]; exact ht, a3⟩
          exact this.fr (fun b x y => by rw [rb b (by omega) (by omega) (by omega), DU b (by omega)])
        · refine keepH hHd (by rw [h70]; exact ok) (fun b x y => by rw [rb b (by omega) (by omega) (by omega), Dc b (by omega) (by omega)]) kw ?_ ?_ ?_ ?_ ?_
          · rw [ms_i (by decide), ms_i (by decide), Dd 769 (by decide) (by decide) (by decide), d0 769 (by decide) (by decide)]
          · rw [m9 770 (by decide), Dd 770 (by decide) (by decide) (by decide), h70]
          · rw [m9 771 (by decide), Dd 771 (by decide) (by decide) (by decide), d0 771 (by decide) (by decide)]
          · rw [rn 769 (by decide)]
          · rw [rn 771 (by decide)]
        · have z1 : rset R (W_182 (nm c) (d 770)) 578 1 = 0 := by rw [rb 578 (by decide) (by decide) (by decide), D8]
          have z2 : rset R (W_182 (nm c) (d 770)) 769 9 = 0 := by rw [rn 769 (by decide), w2 9 (by decide), ms_i (by decide), ms_e rfl rfl]
          exact ⟨by omega, by omega, fun i x y => by omega⟩
        · rw [rn 769 (by decide), w2 0 (by decide), ms_e rfl rfl]
      · rw [if_neg c3, if_neg c3]
        have e : g_290 769 (mset d 578 1 0) = mset (mset (mset d 578 1 0) 769 9 0) 769 0 2 := by
          unfold g_290
          rw [if_neg z, show (769 : Int) + 1 = 770 by decide, e8, if_neg (by omega), k1, if_neg c3, k2]
        rw [e]
        exact fin _ 2 _ d0 (ms_e rfl rfl) (by decide)
    · rw [if_neg c2, if_neg c2]
      have e : g_290 769 (mset d 578 1 0) = mset (mset (mset d 578 1 0) 769 9 0) 769 0 2 := by
        unfold g_290
        rw [if_neg z, show (769 : Int) + 1 = 770 by decide, e8, if_pos (by omega), k2]
      rw [e]
      exact fin _ 2 _ d0 (ms_e rfl rfl) (by decide)
/-! ===== contracts once more, with the queues of living offices alone: printed by a program of mine ===== -/
def qoP (f : Int → Int) : Prop := ∀ o, 0 ≤ o → o ≤ 5 → o < f 7 → f (12 + 68 * o + 5) ≤ 30
theorem qoP.of {f g : Int → Int} (Q : ∀ i : Int, i = 7 ∨ (12 ≤ i ∧ i < 420 ∧ (i - 12) % 68 = 5) → f i = g i) (h : qoP g) : qoP f := by
  intro o h0 h1 h2
  rw [Q 7 (by omega)] at h2
  rw [Q _ (by omega)]
  exact h o h0 h1 h2
theorem kq_267 {E : mO × tW} {K : tK} {d : mD} {x0 x1 : Int} (hS : Safe d) (hx0 : mdB x0) (p1 : 0 ≤ x1 ∧ x1 ≤ 5) (hmp : mpP (d (x0 + 1))) (ht : d (x0 + 1) 0 ≤ 999) (hqq : qoP (d (x0 + 1))) (hn : d (x0 + 1) 9 ≤ 60) (h7 : x1 < d (x0 + 1) 7) (h : (0 ≤ (v_267 x0 x1 d) ∧ (v_267 x0 x1 d) ≤ 201) → (∀ b : Int, (b < x0 + 1 ∨ x0 + 1 < b) ∧ (b < x0 + 4 ∨ x0 + 4 < b) → (g_267 x0 x1 d) b = d b) → (∀ i : Int, 0 ≤ i ∧ i < 3116 → (g_267 x0 x1 d) (x0 + 1) i = d (x0 + 1) i) → Safe (g_267 x0 x1 d) → K (.inl (some (0, (v_267 x0 x1 d)))) (g_267 x0 x1 d)) : tCall E 267 [.inr (11, x0), .inl (0, x1)] d K := by
  refine t_267_0 ?_
  have w0 := mh_0 hS hx0 _ rfl
  have w7 := mh_7 hS hx0 _ rfl
  have w8 := mh_8 hS hx0 _ rfl
  have w9 := mh_9 hS hx0 _ rfl
  have w10 := mh_10 hS hx0 _ rfl
  have w11 := mh_11 hS hx0 _ rfl
  have w1 := hqq x1 (by omega) (by omega) (by omega)
  refine k_177 hS ?_
  refine t_267_8 ?_
  have q1 := mo_4 hS hx0 x1 ((12 + (68 * x1)) + 4) (by omega) (by omega)
  refine ⟨by omega, m_inR (by omega) (by omega), fun c0 => ?_, fun c0 => ?_⟩
  · refine k_255 hS hx0 (fun F1 K1_0 hS1 => ?_)
    refine t_267_22 ?_
    have q2 : (g_255 x0 d) (x0 + 1) 9 = d (x0 + 1) 9 := congrFun (F1 (x0 + 1) (by omega)) 9
    have q3 : (g_255 x0 d) (x0 + 1) (12 + 68 * x1 + 5) = d (x0 + 1) (12 + 68 * x1 + 5) := congrFun (F1 (x0 + 1) (by omega)) (12 + 68 * x1 + 5)
    refine k_224 hS1 hx0 (by omega) (by omega) (by omega) (by omega) (fun e1 F2 Q2 hS2 => ?_)
    refine t_267_29 ?_
    have q4 : (g_224 x0 0 x1 (g_255 x0 d)) (x0 + 1) 0 = d (x0 + 1) 0 := (Q2 0 (by omega)).trans (congrFun (F1 (x0 + 1) (by omega)) 0)
    refine k_263 hS2 hx0 (by omega) (mpP.of (mh_7 hS hx0 _ rfl) (show ∀ i : Int, i = 7 ∨ (12 ≤ i ∧ i < 420 ∧ (i - 12) % 68 = 2) → (g_224 x0 0 x1 (g_255 x0 d)) (x0 + 1) i = d (x0 + 1) i from fun i hi => (Q2 i (by omega)).trans (congrFun (F1 (x0 + 1) (by omega)) i)) hmp) (by omega) (fun e2 F3 Q3 hS3 => ?_)
    refine t_267_32 ?_
    refine k_256 hS3 hx0 (fun F4 K4_0 hS4 => ?_)
    refine t_267_37 ?_
    have y0 : v_267 x0 x1 d = v_263 x0 (v_224 x0 0 x1 (g_255 x0 d)) (g_224 x0 0 x1 (g_255 x0 d)) := by simp only [v_267, if_neg (show ¬ d (x0 + 1) ((12 + (68 * x1)) + 4) = 0 from c0)]
    have y1 : g_267 x0 x1 d = g_256 x0 (g_263 x0 (v_224 x0 0 x1 (g_255 x0 d)) (g_224 x0 0 x1 (g_255 x0 d))) := by simp only [g_267, if_neg (show ¬ d (x0 + 1) ((12 + (68 * x1)) + 4) = 0 from c0)]
    rw [y0] at h
    rw [y1] at h
    exact h (show 0 ≤ (v_263 x0 (v_224 x0 0 x1 (g_255 x0 d)) (g_224 x0 0 x1 (g_255 x0 d))) ∧ (v_263 x0 (v_224 x0 0 x1 (g_255 x0 d)) (g_224 x0 0 x1 (g_255 x0 d))) ≤ 201 from (by omega)) (show ∀ b : Int, (b < x0 + 1 ∨ x0 + 1 < b) ∧ (b < x0 + 4 ∨ x0 + 4 < b) → (g_256 x0 (g_263 x0 (v_224 x0 0 x1 (g_255 x0 d)) (g_224 x0 0 x1 (g_255 x0 d)))) b = d b from fun b hb => (F4 b (by omega)).trans ((F3 b (by omega)).trans ((F2 b (by omega)).trans (F1 b (by omega))))) (show ∀ i : Int, 0 ≤ i ∧ i < 3116 → (g_256 x0 (g_263 x0 (v_224 x0 0 x1 (g_255 x0 d)) (g_224 x0 0 x1 (g_255 x0 d)))) (x0 + 1) i = d (x0 + 1) i from fun i hi => (((K4_0 i (by omega) (by omega)).trans (congrFun (F3 (x0 + 4) (by omega)) i)).trans (congrFun (F2 (x0 + 4) (by omega)) i)).trans (K1_0 i (by omega) (by omega))) hS4
  · have y0 : v_267 x0 x1 d = 201 := by simp only [v_267, if_pos (show d (x0 + 1) ((12 + (68 * x1)) + 4) = 0 from c0)]
    have y1 : g_267 x0 x1 d = d := by simp only [g_267, if_pos (show d (x0 + 1) ((12 + (68 * x1)) + 4) = 0 from c0)]
    rw [y0] at h
    rw [y1] at h
    exact h (show 0 ≤ ((201 : Int)) ∧ ((201 : Int)) ≤ 201 from (by omega)) (show ∀ b : Int, (b < x0 + 1 ∨ x0 + 1 < b) ∧ (b < x0 + 4 ∨ x0 + 4 < b) → d b = d b from fun _ _ => rfl) (show ∀ i : Int, 0 ≤ i ∧ i < 3116 → d (x0 + 1) i = d (x0 + 1) i from fun _ _ => rfl) hS
theorem kq_268 {E : mO × tW} {K : tK} {d : mD} {x0 x1 : Int} (hS : Safe d) (hx0 : mdB x0) (p1 : -2147483648 ≤ x1 ∧ x1 ≤ 2147483647) (hmp : mpP (d (x0 + 1))) (ht : d (x0 + 1) 0 ≤ 999) (hqq : qoP (d (x0 + 1))) (hn : d (x0 + 1) 9 ≤ 60) (h : (∀ b : Int, (b < x0 ∨ x0 + 1 < b) ∧ (b < x0 + 4 ∨ x0 + 4 < b) → (g_268 x0 x1 d) b = d b) → Safe (g_268 x0 x1 d) → K (.inl (some (0, (v_268 x0 x1 d)))) (g_268 x0 x1 d)) : tCall E 268 [.inr (11, x0), .inl (0, x1)] d K := by
  refine t_268_0 ?_
  have w0 := mh_0 hS hx0 _ rfl
  have w7 := mh_7 hS hx0 _ rfl
  have w8 := mh_8 hS hx0 _ rfl
  have w9 := mh_9 hS hx0 _ rfl
  have w10 := mh_10 hS hx0 _ rfl
  have w11 := mh_11 hS hx0 _ rfl
  refine k_236 hS hx0 (m_inR (by omega) (by omega)) (fun e1 => ?_)
  refine t_268_6 ?_
  refine ⟨m_inR (by omega) (by omega), fun c0 => ?_, fun c0 => ?_⟩
  · have hS1 : Safe (mset d x0 0 1) := s_11_f0 hS hx0 (by omega)
    rw [mset_eq (d := d) (a := x0) (i := (0 : Int)) (v := (1 : Int))]
    refine ⟨m_inR (by omega) (by omega), fun c1 => ?_, fun c1 => ?_⟩
    · exact (show False by omega).elim
    · have y0 : v_268 x0 x1 d = 0 := by simp only [v_268, if_pos (show v_236 x0 x1 d = 0 from c0), if_pos (show (0 : Int) < 1 from c1)]
      have y1 : g_268 x0 x1 d = mset d x0 0 1 := by simp only [g_268, if_pos (show v_236 x0 x1 d = 0 from c0), if_pos (show (0 : Int) < 1 from c1)]
      rw [y0] at h
      rw [y1] at h
      exact h (show ∀ b : Int, (b < x0 ∨ x0 + 1 < b) ∧ (b < x0 + 4 ∨ x0 + 4 < b) → (mset d x0 0 1) b = d b from fun b hb => mset_ne (by omega)) hS1
  · have hS2 : Safe (mset d x0 0 0) := s_11_f0 hS hx0 (by omega)
    rw [mset_eq (d := d) (a := x0) (i := (0 : Int)) (v := (0 : Int))]
    refine ⟨m_inR (by omega) (by omega), fun c1 => ?_, fun c1 => ?_⟩
    · have q1 : (mset d x0 0 0) (x0 + 1) 0 = d (x0 + 1) 0 := congrFun (mset_ne (by omega)) 0
      have q2 : (mset d x0 0 0) (x0 + 1) 9 = d (x0 + 1) 9 := congrFun (mset_ne (by omega)) 9
      have q3 : (mset d x0 0 0) (x0 + 1) 7 = d (x0 + 1) 7 := congrFun (mset_ne (by omega)) 7
      refine kq_267 hS2 hx0 (by omega) (mpP.of (mh_7 hS hx0 _ rfl) (show ∀ i : Int, i = 7 ∨ (12 ≤ i ∧ i < 420 ∧ (i - 12) % 68 = 2) → (mset d x0 0 0) (x0 + 1) i = d (x0 + 1) i from fun i hi => congrFun (mset_ne (by omega)) i) hmp) (by omega) (qoP.of (show ∀ i : Int, i = 7 ∨ (12 ≤ i ∧ i < 420 ∧ (i - 12) % 68 = 5) → (mset d x0 0 0) (x0 + 1) i = d (x0 + 1) i from fun i hi => congrFun (mset_ne (by omega)) i) hqq) (by omega) (by omega) (fun e2 F1 Q1 hS3 => ?_)
      refine t_268_31 ?_
      refine ⟨⟨m_inR (by omega) (by omega), m_inR (by omega) (by omega)⟩, fun c2 => ?_, fun c2 => ?_⟩
      · have hS4 : Safe (mset (g_267 x0 x1 (mset d x0 0 0)) x0 0 0) := s_11_f0 hS3 hx0 (by omega)
        rw [mset_eq (d := g_267 x0 x1 (mset d x0 0 0)) (a := x0) (i := (0 : Int)) (v := (0 : Int))]
        refine ⟨m_inR (by omega) (by omega), fun c3 => ?_, fun c3 => ?_⟩
        · have y0 : v_268 x0 x1 d = v_267 x0 x1 (mset d x0 0 0) := by simp only [v_268, if_neg (show ¬ v_236 x0 x1 d = 0 from c0), if_neg (show ¬ (0 : Int) < 0 from Int.not_lt.mpr c1), if_neg (show ¬ (200 : Int) < v_267 x0 x1 (mset d x0 0 0) from Int.not_lt.mpr c2), if_neg (show ¬ (0 : Int) < 0 from Int.not_lt.mpr c3)]
          have y1 : g_268 x0 x1 d = mset (g_267 x0 x1 (mset d x0 0 0)) x0 0 0 := by simp only [g_268, if_neg (show ¬ v_236 x0 x1 d = 0 from c0), if_neg (show ¬ (0 : Int) < 0 from Int.not_lt.mpr c1), if_neg (show ¬ (200 : Int) < v_267 x0 x1 (mset d x0 0 0) from Int.not_lt.mpr c2), if_neg (show ¬ (0 : Int) < 0 from Int.not_lt.mpr c3)]
          rw [y0] at h
          rw [y1] at h
          exact h (show ∀ b : Int, (b < x0 ∨ x0 + 1 < b) ∧ (b < x0 + 4 ∨ x0 + 4 < b) → (mset (g_267 x0 x1 (mset d x0 0 0)) x0 0 0) b = d b from fun b hb => (mset_ne (by omega)).trans ((F1 b (by omega)).trans (mset_ne (by omega)))) hS4
        · exact (show False by omega).elim
      · have hS5 : Safe (mset (g_267 x0 x1 (mset d x0 0 0)) x0 0 2) := s_11_f0 hS3 hx0 (by omega)
        rw [mset_eq (d := g_267 x0 x1 (mset d x0 0 0)) (a := x0) (i := (0 : Int)) (v := (2 : Int))]
        refine ⟨m_inR (by omega) (by omega), fun c3 => ?_, fun c3 => ?_⟩
        · exact (show False by omega).elim
        · have y0 : v_268 x0 x1 d = 0 := by simp only [v_268, if_neg (show ¬ v_236 x0 x1 d = 0 from c0), if_neg (show ¬ (0 : Int) < 0 from Int.not_lt.mpr c1), if_pos (show (200 : Int) < v_267 x0 x1 (mset d x0 0 0) from c2), if_pos (show (0 : Int) < 2 from c3)]
          have y1 : g_268 x0 x1 d = mset (g_267 x0 x1 (mset d x0 0 0)) x0 0 2 := by simp only [g_268, if_neg (show ¬ v_236 x0 x1 d = 0 from c0), if_neg (show ¬ (0 : Int) < 0 from Int.not_lt.mpr c1), if_pos (show (200 : Int) < v_267 x0 x1 (mset d x0 0 0) from c2), if_pos (show (0 : Int) < 2 from c3)]
          rw [y0] at h
          rw [y1] at h
          exact h (show ∀ b : Int, (b < x0 ∨ x0 + 1 < b) ∧ (b < x0 + 4 ∨ x0 + 4 < b) → (mset (g_267 x0 x1 (mset d x0 0 0)) x0 0 2) b = d b from fun b hb => (mset_ne (by omega)).trans ((F1 b (by omega)).trans (mset_ne (by omega)))) hS5
    · exact (show False by omega).elim
theorem lsq_269_8 {E : mO × tW} {K : tK} {x0 : Int} (hx0 : mdB x0) (N8 : Int) (r8 : Int → Int → Int → mD → Int × mD) (ih8 : ∀ (x1 x2 x3 : Int) (v4 : tV) (d : mD), Safe d → (0 ≤ x3 ∧ x3 ≤ 6) → (-1 ≤ x1 ∧ x1 ≤ 5) → (0 ≤ x2 ∧ x2 ≤ 201) → (mpP (d (x0 + 1))) → (d (x0 + 1) 0 ≤ 999) → (qoP (d (x0 + 1))) → (d (x0 + 1) 9 ≤ 60) → 0 ≤ 6 - x3 → 6 - x3 < N8 → ((∀ b : Int, (b < x0 ∨ x0 + 1 < b) ∧ (b < x0 + 4 ∨ x0 + 4 < b) → (r8 x1 x2 x3 d).2 b = d b) → Safe (r8 x1 x2 x3 d).2 → K (.inl (some (0, (r8 x1 x2 x3 d).1))) (r8 x1 x2 x3 d).2) → tRun E 269 (8, [.inr (11, x0), .inl (0, x1), .inl (0, x2), .inl (0, x3), v4], [], 0, 0, d) K) (x1 x2 x3 : Int) (v4 : tV) (d : mD) (hS : Safe d) (i0 : 0 ≤ x3 ∧ x3 ≤ 6) (i1 : -1 ≤ x1 ∧ x1 ≤ 5) (i2 : 0 ≤ x2 ∧ x2 ≤ 201) (hmp : mpP (d (x0 + 1))) (i4 : d (x0 + 1) 0 ≤ 999) (hqq : qoP (d (x0 + 1))) (i6 : d (x0 + 1) 9 ≤ 60) (hm : 6 - x3 ≤ N8) (h : (∀ b : Int, (b < x0 ∨ x0 + 1 < b) ∧ (b < x0 + 4 ∨ x0 + 4 < b) → (st_269_8 x0 r8 x1 x2 x3 d).2 b = d b) → Safe (st_269_8 x0 r8 x1 x2 x3 d).2 → K (.inl (some (0, (st_269_8 x0 r8 x1 x2 x3 d).1))) (st_269_8 x0 r8 x1 x2 x3 d).2) : tRun E 269 (8, [.inr (11, x0), .inl (0, x1), .inl (0, x2), .inl (0, x3), v4], [], 0, 0, d) K := by
  refine t_269_8 ?_
  have q1 := mh_7 hS hx0 _ rfl
  refine ⟨by omega, ⟨m_inR (by omega) (by omega), m_inR (by omega) (by omega)⟩, fun c0 => ?_, fun c0 => ?_⟩
  · refine ⟨⟨m_inR (by omega) (by omega), m_inR (by omega) (by omega)⟩, fun c1 => ?_, fun c1 => ?_⟩
    · have hS1 : Safe (mset d x0 0 0) := s_11_f0 hS hx0 (by omega)
      rw [mset_eq (d := d) (a := x0) (i := (0 : Int)) (v := (0 : Int))]
      refine ⟨m_inR (by omega) (by omega), fun c2 => ?_, fun c2 => ?_⟩
      · have y0 : st_269_8 x0 r8 x1 x2 x3 d = (x1, mset d x0 0 0) := by simp only [st_269_8, if_neg (show ¬ x3 < d (x0 + 1) 7 from Int.not_lt.mpr c0), if_neg (show ¬ x1 = (-1) from c1), if_neg (show ¬ (0 : Int) < 0 from Int.not_lt.mpr c2)]
        rw [y0] at h
        exact h (show ∀ b : Int, (b < x0 ∨ x0 + 1 < b) ∧ (b < x0 + 4 ∨ x0 + 4 < b) → (mset d x0 0 0) b = d b from fun b hb => mset_ne (by omega)) hS1
      · exact (show False by omega).elim
    · have hS2 : Safe (mset d x0 0 1) := s_11_f0 hS hx0 (by omega)
      rw [mset_eq (d := d) (a := x0) (i := (0 : Int)) (v := (1 : Int))]
      refine ⟨m_inR (by omega) (by omega), fun c2 => ?_, fun c2 => ?_⟩
      · exact (show False by omega).elim
      · have y0 : st_269_8 x0 r8 x1 x2 x3 d = (0, mset d x0 0 1) := by simp only [st_269_8, if_neg (show ¬ x3 < d (x0 + 1) 7 from Int.not_lt.mpr c0), if_pos (show x1 = (-1) from c1), if_pos (show (0 : Int) < 1 from c2)]
        rw [y0] at h
        exact h (show ∀ b : Int, (b < x0 ∨ x0 + 1 < b) ∧ (b < x0 + 4 ∨ x0 + 4 < b) → (mset d x0 0 1) b = d b from fun b hb => mset_ne (by omega)) hS2
  · refine kq_267 hS hx0 (by omega) hmp (by omega) hqq (by omega) (by omega) (fun e1 F1 Q1 hS3 => ?_)
    refine t_269_24 ?_
    refine ⟨⟨m_inR (by omega) (by omega), m_inR (by omega) (by omega)⟩, fun c1 => ?_, fun c1 => ?_⟩
    · refine ⟨⟨m_inR (by omega) (by omega), m_inR (by omega) (by omega)⟩, fun c2 => ?_, fun c2 => ?_⟩
      · have q2 : (g_267 x0 x3 d) (x0 + 1) 0 = d (x0 + 1) 0 := Q1 0 (by omega)
        have q3 : (g_267 x0 x3 d) (x0 + 1) 9 = d (x0 + 1) 9 := Q1 9 (by omega)
        refine ih8 x1 x2 (x3 + 1) (.inl (0, v_267 x0 x3 d)) (g_267 x0 x3 d) hS3 (by omega) (by omega) (by omega) (mpP.of (mh_7 hS hx0 _ rfl) (show ∀ i : Int, i = 7 ∨ (12 ≤ i ∧ i < 420 ∧ (i - 12) % 68 = 2) → (g_267 x0 x3 d) (x0 + 1) i = d (x0 + 1) i from fun i hi => Q1 i (by omega)) hmp) (by omega) (qoP.of (show ∀ i : Int, i = 7 ∨ (12 ≤ i ∧ i < 420 ∧ (i - 12) % 68 = 5) → (g_267 x0 x3 d) (x0 + 1) i = d (x0 + 1) i from fun i hi => Q1 i (by omega)) hqq) (by omega) (by omega) (by omega) ?_
        intro F hS_
        have y0 : st_269_8 x0 r8 x1 x2 x3 d = r8 x1 x2 (x3 + 1) (g_267 x0 x3 d) := by simp only [st_269_8, if_pos (show x3 < d (x0 + 1) 7 from c0), if_neg (show ¬ v_267 x0 x3 d < x2 from Int.not_lt.mpr c1), if_neg (show ¬ v_267 x0 x3 d < x2 from Int.not_lt.mpr c2)]
        rw [y0] at h
        exact h (fun b hb => (F b hb).trans ((show ∀ b : Int, (b < x0 ∨ x0 + 1 < b) ∧ (b < x0 + 4 ∨ x0 + 4 < b) → (g_267 x0 x3 d) b = d b from fun b hb => F1 b (by omega)) b hb)) hS_
      · exact (show False by omega).elim
    · refine ⟨⟨m_inR (by omega) (by omega), m_inR (by omega) (by omega)⟩, fun c2 => ?_, fun c2 => ?_⟩
      · exact (show False by omega).elim
      · have q4 : (g_267 x0 x3 d) (x0 + 1) 0 = d (x0 + 1) 0 := Q1 0 (by omega)
        have q5 : (g_267 x0 x3 d) (x0 + 1) 9 = d (x0 + 1) 9 := Q1 9 (by omega)
        refine ih8 x3 (v_267 x0 x3 d) (x3 + 1) (.inl (0, v_267 x0 x3 d)) (g_267 x0 x3 d) hS3 (by omega) (by omega) (by omega) (mpP.of (mh_7 hS hx0 _ rfl) (show ∀ i : Int, i = 7 ∨ (12 ≤ i ∧ i < 420 ∧ (i - 12) % 68 = 2) → (g_267 x0 x3 d) (x0 + 1) i = d (x0 + 1) i from fun i hi => Q1 i (by omega)) hmp) (by omega) (qoP.of (show ∀ i : Int, i = 7 ∨ (12 ≤ i ∧ i < 420 ∧ (i - 12) % 68 = 5) → (g_267 x0 x3 d) (x0 + 1) i = d (x0 + 1) i from fun i hi => Q1 i (by omega)) hqq) (by omega) (by omega) (by omega) ?_
        intro F hS_
        have y0 : st_269_8 x0 r8 x1 x2 x3 d = r8 x3 (v_267 x0 x3 d) (x3 + 1) (g_267 x0 x3 d) := by simp only [st_269_8, if_pos (show x3 < d (x0 + 1) 7 from c0), if_pos (show v_267 x0 x3 d < x2 from c1), if_pos (show v_267 x0 x3 d < x2 from c2)]
        rw [y0] at h
        exact h (fun b hb => (F b hb).trans ((show ∀ b : Int, (b < x0 ∨ x0 + 1 < b) ∧ (b < x0 + 4 ∨ x0 + 4 < b) → (g_267 x0 x3 d) b = d b from fun b hb => F1 b (by omega)) b hb)) hS_
theorem lq_269_8 {E : mO × tW} {K : tK} {x0 : Int} (hx0 : mdB x0) : ∀ (n : Nat) (x1 x2 x3 : Int) (v4 : tV) (d : mD), Safe d → (0 ≤ x3 ∧ x3 ≤ 6) → (-1 ≤ x1 ∧ x1 ≤ 5) → (0 ≤ x2 ∧ x2 ≤ 201) → (mpP (d (x0 + 1))) → (d (x0 + 1) 0 ≤ 999) → (qoP (d (x0 + 1))) → (d (x0 + 1) 9 ≤ 60) → 6 - x3 ≤ (n : Int) → ((∀ b : Int, (b < x0 ∨ x0 + 1 < b) ∧ (b < x0 + 4 ∨ x0 + 4 < b) → (lp_269_8 x0 n x1 x2 x3 d).2 b = d b) → Safe (lp_269_8 x0 n x1 x2 x3 d).2 → K (.inl (some (0, (lp_269_8 x0 n x1 x2 x3 d).1))) (lp_269_8 x0 n x1 x2 x3 d).2) → tRun E 269 (8, [.inr (11, x0), .inl (0, x1), .inl (0, x2), .inl (0, x3), v4], [], 0, 0, d) K := by
  intro n
  induction n with
  | zero =>
    intro x1 x2 x3 v4 d hS i0 i1 i2 hmp i4 hqq i6 hm  h
    exact lsq_269_8 hx0 0 _ (fun _ _ _ _ _ _ _ _ _ _ _ _ _ m0 m1 _ => absurd m1 (by omega)) x1 x2 x3 v4 d hS i0 i1 i2 hmp i4 hqq i6 hm  h
  | succ n ih =>
    intro x1 x2 x3 v4 d hS i0 i1 i2 hmp i4 hqq i6 hm  h
    exact lsq_269_8 hx0 ((n + 1 : Nat) : Int) _ (fun x1 x2 x3 v4 d hS i0 i1 i2 hmp i4 hqq i6  m0 m1 h => ih x1 x2 x3 v4 d hS i0 i1 i2 hmp i4 hqq i6 (by omega)  h) x1 x2 x3 v4 d hS i0 i1 i2 hmp i4 hqq i6 hm  h
theorem kq_269 {E : mO × tW} {K : tK} {d : mD} {x0 : Int} (hS : Safe d) (hx0 : mdB x0) (hmp : mpP (d (x0 + 1))) (ht : d (x0 + 1) 0 ≤ 999) (hqq : qoP (d (x0 + 1))) (hn : d (x0 + 1) 9 ≤ 60) (h : (∀ b : Int, (b < x0 ∨ x0 + 1 < b) ∧ (b < x0 + 4 ∨ x0 + 4 < b) → (g_269 x0 d) b = d b) → Safe (g_269 x0 d) → K (.inl (some (0, (v_269 x0 d)))) (g_269 x0 d)) : tCall E 269 [.inr (11, x0)] d K := by
  simp only [v_269, g_269] at h
  refine t_269_0 ?_
  have w0 := mh_0 hS hx0 _ rfl
  have w7 := mh_7 hS hx0 _ rfl
  have w8 := mh_8 hS hx0 _ rfl
  have w9 := mh_9 hS hx0 _ rfl
  have w10 := mh_10 hS hx0 _ rfl
  have w11 := mh_11 hS hx0 _ rfl
  refine lq_269_8 hx0 (6 - 0 : Int).toNat ((-1)) 201 0 tu d hS (by omega) (by omega) (by omega) hmp (by omega) hqq (by omega) (by omega) ?_
  intro F hS_
  have y0 : f_269 x0 d = lp_269_8 x0 (6 - 0 : Int).toNat ((-1)) 201 0 d := by simp only [f_269]
  rw [y0] at h
  exact h F hS_
theorem lsq_272_89 {E : mO × tW} {K : tK} {x0 x1 x2 : Int} (hx0 : mdB x0) (p1 : -2147483648 ≤ x1 ∧ x1 ≤ 2147483647) (p2 : -2147483648 ≤ x2 ∧ x2 ≤ 2147483647) (N89 : Int) (r89 : Int → Int → Int → mD → Int × mD) (ih89 : ∀ (x3 x4 x5 : Int) (v6 v7 : tV) (d : mD), Safe d → (0 ≤ x5 ∧ x5 ≤ 61) → (0 ≤ x4 ∧ x4 ≤ 1300) → 0 ≤ 61 - x5 → 61 - x5 < N89 → ((∀ b : Int, (b < x0 ∨ x0 + 1 < b) ∧ (b < x0 + 4 ∨ x0 + 4 < b) → (r89 x3 x4 x5 d).2 b = d b) → Safe (r89 x3 x4 x5 d).2 → K (.inl (some (0, (r89 x3 x4 x5 d).1))) (r89 x3 x4 x5 d).2) → tRun E 272 (89, [.inr (11, x0), .inl (0, x1), .inl (0, x2), .inl (0, x3), .inl (0, x4), .inl (0, x5), v6, v7], [], 0, 0, d) K) (x3 x4 x5 : Int) (v6 v7 : tV) (d : mD) (hS : Safe d) (i0 : 0 ≤ x5 ∧ x5 ≤ 61) (i1 : 0 ≤ x4 ∧ x4 ≤ 1300) (hm : 61 - x5 ≤ N89) (h : (∀ b : Int, (b < x0 ∨ x0 + 1 < b) ∧ (b < x0 + 4 ∨ x0 + 4 < b) → (st_272_89 x0 x1 x2 r89 x3 x4 x5 d).2 b = d b) → Safe (st_272_89 x0 x1 x2 r89 x3 x4 x5 d).2 → K (.inl (some (0, (st_272_89 x0 x1 x2 r89 x3 x4 x5 d).1))) (st_272_89 x0 x1 x2 r89 x3 x4 x5 d).2) : tRun E 272 (89, [.inr (11, x0), .inl (0, x1), .inl (0, x2), .inl (0, x3), .inl (0, x4), .inl (0, x5), v6, v7], [], 0, 0, d) K := by
  refine t_272_89 ?_
  have w9 := as4 hS hx0 x5
  have q1 := mh_9 hS hx0 _ rfl
  refine ⟨by omega, ⟨m_inR (by omega) (by omega), m_inR (by omega) (by omega)⟩, fun c0 => ?_, fun c0 => ?_⟩
  · refine k_271 hS hx0 (fun e1 => ?_)
    refine t_272_206 ?_
    refine ⟨m_inR (by omega) (by omega), fun c1 => ?_, fun c1 => ?_⟩
    · have hS1 : Safe (mset d x0 0 0) := s_11_f0 hS hx0 (by omega)
      refine k_256 hS1 hx0 (fun F1 K1_0 hS2 => ?_)
      refine t_272_221 ?_
      rw [F1 x0 (by omega)]
      rw [mset_eq (d := d) (a := x0) (i := (0 : Int)) (v := (0 : Int))]
      refine ⟨m_inR (by omega) (by omega), fun c2 => ?_, fun c2 => ?_⟩
      · have y0 : st_272_89 x0 x1 x2 r89 x3 x4 x5 d = (x4, g_256 x0 (mset d x0 0 0)) := by simp only [st_272_89, if_neg (show ¬ x5 < d (x0 + 1) 9 from Int.not_lt.mpr c0), if_neg (show ¬ (0 : Int) < v_271 x0 d from Int.not_lt.mpr c1), if_neg (show ¬ (0 : Int) < 0 from Int.not_lt.mpr c2)]
        rw [y0] at h
        exact h (show ∀ b : Int, (b < x0 ∨ x0 + 1 < b) ∧ (b < x0 + 4 ∨ x0 + 4 < b) → (g_256 x0 (mset d x0 0 0)) b = d b from fun b hb => (F1 b (by omega)).trans (mset_ne (by omega))) hS2
      · exact (show False by omega).elim
    · have hS3 : Safe (mset d x0 0 3) := s_11_f0 hS hx0 (by omega)
      refine k_256 hS3 hx0 (fun F2 K2_0 hS4 => ?_)
      refine t_272_221 ?_
      rw [F2 x0 (by omega)]
      rw [mset_eq (d := d) (a := x0) (i := (0 : Int)) (v := (3 : Int))]
      refine ⟨m_inR (by omega) (by omega), fun c2 => ?_, fun c2 => ?_⟩
      · exact (show False by omega).elim
      · have y0 : st_272_89 x0 x1 x2 r89 x3 x4 x5 d = (0, g_256 x0 (mset d x0 0 3)) := by simp only [st_272_89, if_neg (show ¬ x5 < d (x0 + 1) 9 from Int.not_lt.mpr c0), if_pos (show (0 : Int) < v_271 x0 d from c1), if_pos (show (0 : Int) < 3 from c2)]
        rw [y0] at h
        exact h (show ∀ b : Int, (b < x0 ∨ x0 + 1 < b) ∧ (b < x0 + 4 ∨ x0 + 4 < b) → (g_256 x0 (mset d x0 0 3)) b = d b from fun b hb => (F2 b (by omega)).trans (mset_ne (by omega))) hS4
  · refine k_179 hS ?_
    refine t_272_106 ?_
    refine ⟨by omega, m_inR (by omega) (by omega), fun c1 => ?_, fun c1 => ?_⟩
    · refine ⟨m_inR (by omega) (by omega), fun c2 => ?_, fun c2 => ?_⟩
      · refine ih89 x3 x4 (x5 + 1) (.inl (0, 452 + (24 * x5))) (.inl (0, 0)) d hS (by omega) (by omega) (by omega) (by omega) ?_
        intro F hS_
        have y0 : st_272_89 x0 x1 x2 r89 x3 x4 x5 d = r89 x3 x4 (x5 + 1) d := by simp only [st_272_89, if_pos (show x5 < d (x0 + 1) 9 from c0), if_neg (show ¬ d (x0 + 4) ((452 + (24 * x5)) + 4) = 0 from c1), if_pos (show (0 : Int) = 0 from c2)]
        rw [y0] at h
        exact h F hS_
      · exact (show False by omega).elim
    · have q2 := mt_4 hS hx0 x5 ((452 + (24 * x5)) + 4) (by omega) (by omega)
      refine ⟨by omega, ⟨m_inR (by omega) (by omega), m_inR (by omega) (by omega)⟩, fun c2 => ?_, fun c2 => ?_⟩
      · refine ⟨m_inR (by omega) (by omega), fun c3 => ?_, fun c3 => ?_⟩
        · refine ih89 x3 x4 (x5 + 1) (.inl (0, 452 + (24 * x5))) (.inl (0, 0)) d hS (by omega) (by omega) (by omega) (by omega) ?_
          intro F hS_
          have y0 : st_272_89 x0 x1 x2 r89 x3 x4 x5 d = r89 x3 x4 (x5 + 1) d := by simp only [st_272_89, if_pos (show x5 < d (x0 + 1) 9 from c0), if_pos (show d (x0 + 4) ((452 + (24 * x5)) + 4) = 0 from c1), if_neg (show ¬ d (x0 + 1) ((452 + (24 * x5)) + 4) = 1 from c2), if_pos (show (0 : Int) = 0 from c3)]
          rw [y0] at h
          exact h F hS_
        · exact (show False by omega).elim
      · refine ⟨m_inR (by omega) (by omega), fun c3 => ?_, fun c3 => ?_⟩
        · exact (show False by omega).elim
        · have q3 := mt_3 hS hx0 x5 ((452 + (24 * x5)) + 3) (by omega) (by omega)
          have q4 := mt_2 hS hx0 x5 ((452 + (24 * x5)) + 2) (by omega) (by omega)
          refine ⟨by omega, by omega, ⟨m_inR (by omega) (by omega), m_inR (by omega) (by omega)⟩, fun c4 => ?_, fun c4 => ?_⟩
          · refine ih89 x3 x4 (x5 + 1) (.inl (0, 452 + (24 * x5))) (.inl (0, 1)) d hS (by omega) (by omega) (by omega) (by omega) ?_
            intro F hS_
            have y0 : st_272_89 x0 x1 x2 r89 x3 x4 x5 d = r89 x3 x4 (x5 + 1) d := by simp only [st_272_89, if_pos (show x5 < d (x0 + 1) 9 from c0), if_pos (show d (x0 + 4) ((452 + (24 * x5)) + 4) = 0 from c1), if_pos (show d (x0 + 1) ((452 + (24 * x5)) + 4) = 1 from c2), if_neg (show ¬ (1 : Int) = 0 from c3), if_neg (show ¬ x4 < (d (x0 + 1) ((452 + (24 * x5)) + 3)) - (d (x0 + 1) ((452 + (24 * x5)) + 2)) from Int.not_lt.mpr c4)]
            rw [y0] at h
            exact h F hS_
          · refine ⟨by omega, by omega, ?_⟩
            refine ih89 x3 ((d (x0 + 1) ((452 + (24 * x5)) + 3)) - (d (x0 + 1) ((452 + (24 * x5)) + 2))) (x5 + 1) (.inl (0, 452 + (24 * x5))) (.inl (0, 1)) d hS (by omega) (by omega) (by omega) (by omega) ?_
            intro F hS_
            have y0 : st_272_89 x0 x1 x2 r89 x3 x4 x5 d = r89 x3 ((d (x0 + 1) ((452 + (24 * x5)) + 3)) - (d (x0 + 1) ((452 + (24 * x5)) + 2))) (x5 + 1) d := by simp only [st_272_89, if_pos (show x5 < d (x0 + 1) 9 from c0), if_pos (show d (x0 + 4) ((452 + (24 * x5)) + 4) = 0 from c1), if_pos (show d (x0 + 1) ((452 + (24 * x5)) + 4) = 1 from c2), if_neg (show ¬ (1 : Int) = 0 from c3), if_pos (show x4 < (d (x0 + 1) ((452 + (24 * x5)) + 3)) - (d (x0 + 1) ((452 + (24 * x5)) + 2)) from c4)]
            rw [y0] at h
            exact h F hS_
theorem lq_272_89 {E : mO × tW} {K : tK} {x0 x1 x2 : Int} (hx0 : mdB x0) (p1 : -2147483648 ≤ x1 ∧ x1 ≤ 2147483647) (p2 : -2147483648 ≤ x2 ∧ x2 ≤ 2147483647) : ∀ (n : Nat) (x3 x4 x5 : Int) (v6 v7 : tV) (d : mD), Safe d → (0 ≤ x5 ∧ x5 ≤ 61) → (0 ≤ x4 ∧ x4 ≤ 1300) → 61 - x5 ≤ (n : Int) → ((∀ b : Int, (b < x0 ∨ x0 + 1 < b) ∧ (b < x0 + 4 ∨ x0 + 4 < b) → (lp_272_89 x0 x1 x2 n x3 x4 x5 d).2 b = d b) → Safe (lp_272_89 x0 x1 x2 n x3 x4 x5 d).2 → K (.inl (some (0, (lp_272_89 x0 x1 x2 n x3 x4 x5 d).1))) (lp_272_89 x0 x1 x2 n x3 x4 x5 d).2) → tRun E 272 (89, [.inr (11, x0), .inl (0, x1), .inl (0, x2), .inl (0, x3), .inl (0, x4), .inl (0, x5), v6, v7], [], 0, 0, d) K := by
  intro n
  induction n with
  | zero =>
    intro x3 x4 x5 v6 v7 d hS i0 i1 hm  h
    exact lsq_272_89 hx0 p1 p2 0 _ (fun _ _ _ _ _ _ _ _ _ m0 m1 _ => absurd m1 (by omega)) x3 x4 x5 v6 v7 d hS i0 i1 hm  h
  | succ n ih =>
    intro x3 x4 x5 v6 v7 d hS i0 i1 hm  h
    exact lsq_272_89 hx0 p1 p2 ((n + 1 : Nat) : Int) _ (fun x3 x4 x5 v6 v7 d hS i0 i1  m0 m1 h => ih x3 x4 x5 v6 v7 d hS i0 i1 (by omega)  h) x3 x4 x5 v6 v7 d hS i0 i1 hm  h
theorem lsq_272_59 {E : mO × tW} {K : tK} {x0 x1 x2 : Int} (hx0 : mdB x0) (p1 : -2147483648 ≤ x1 ∧ x1 ≤ 2147483647) (p2 : -2147483648 ≤ x2 ∧ x2 ≤ 2147483647) (N59 : Int) (r59 : Int → mD → Int × mD) (ih59 : ∀ (x3 : Int) (d : mD), Safe d → (0 ≤ x3 ∧ x3 ≤ 200) → (d (x0 + 1) 0 + (200 - x3) ≤ 1200) → (mpP (d (x0 + 1))) → 0 ≤ 200 - x3 → 200 - x3 < N59 → ((∀ b : Int, (b < x0 ∨ x0 + 1 < b) ∧ (b < x0 + 4 ∨ x0 + 4 < b) → (r59 x3 d).2 b = d b) → Safe (r59 x3 d).2 → K (.inl (some (0, (r59 x3 d).1))) (r59 x3 d).2) → tRun E 272 (59, [.inr (11, x0), .inl (0, x1), .inl (0, x2), .inl (0, x3), tu, tu, tu, tu], [], 0, 0, d) K) (x3 : Int) (d : mD) (hS : Safe d) (i0 : 0 ≤ x3 ∧ x3 ≤ 200) (i1 : d (x0 + 1) 0 + (200 - x3) ≤ 1200) (hmp : mpP (d (x0 + 1))) (hm : 200 - x3 ≤ N59) (h : (∀ b : Int, (b < x0 ∨ x0 + 1 < b) ∧ (b < x0 + 4 ∨ x0 + 4 < b) → (st_272_59 x0 x1 x2 r59 x3 d).2 b = d b) → Safe (st_272_59 x0 x1 x2 r59 x3 d).2 → K (.inl (some (0, (st_272_59 x0 x1 x2 r59 x3 d).1))) (st_272_59 x0 x1 x2 r59 x3 d).2) : tRun E 272 (59, [.inr (11, x0), .inl (0, x1), .inl (0, x2), .inl (0, x3), tu, tu, tu, tu], [], 0, 0, d) K := by
  refine t_272_59 ?_
  refine ⟨⟨m_inR (by omega) (by omega), m_inR (by omega) (by omega)⟩, fun c0 => ?_, fun c0 => ?_⟩
  · refine lq_272_89 hx0 p1 p2 (61 - 0 : Int).toNat x3 0 0 tu tu d hS (by omega) (by omega) (by omega) ?_
    intro F hS_
    have y0 : st_272_59 x0 x1 x2 r59 x3 d = lp_272_89 x0 x1 x2 (61 - 0 : Int).toNat x3 0 0 d := by simp only [st_272_59, if_neg (show ¬ x3 < 200 from Int.not_lt.mpr c0)]
    rw [y0] at h
    exact h F hS_
  · refine k_271 hS hx0 (fun e2 => ?_)
    refine t_272_70 ?_
    refine ⟨m_inR (by omega) (by omega), fun c1 => ?_, fun c1 => ?_⟩
    · refine lq_272_89 hx0 p1 p2 (61 - 0 : Int).toNat x3 0 0 tu tu d hS (by omega) (by omega) (by omega) ?_
      intro F hS_
      have y0 : st_272_59 x0 x1 x2 r59 x3 d = lp_272_89 x0 x1 x2 (61 - 0 : Int).toNat x3 0 0 d := by simp only [st_272_59, if_pos (show x3 < 200 from c0), if_neg (show ¬ (0 : Int) < v_271 x0 d from Int.not_lt.mpr c1)]
      rw [y0] at h
      exact h F hS_
    · refine k_223 hS hx0 hmp (by omega) (fun F3 Q3 n3_0 hS5 => ?_)
      refine t_272_77 ?_
      refine ih59 (x3 + 1)  (g_223 x0 d) hS5 (by omega) (by omega) (mpP.of (mh_7 hS hx0 _ rfl) (show ∀ i : Int, i = 7 ∨ (12 ≤ i ∧ i < 420 ∧ (i - 12) % 68 = 2) → (g_223 x0 d) (x0 + 1) i = d (x0 + 1) i from fun i hi => Q3 i (by omega)) hmp) (by omega) (by omega) ?_
      intro F hS_
      have y0 : st_272_59 x0 x1 x2 r59 x3 d = r59 (x3 + 1) (g_223 x0 d) := by simp only [st_272_59, if_pos (show x3 < 200 from c0), if_pos (show (0 : Int) < v_271 x0 d from c1)]
      rw [y0] at h
      exact h (fun b hb => (F b hb).trans ((show ∀ b : Int, (b < x0 ∨ x0 + 1 < b) ∧ (b < x0 + 4 ∨ x0 + 4 < b) → (g_223 x0 d) b = d b from fun b hb => F3 b (by omega)) b hb)) hS_
theorem lq_272_59 {E : mO × tW} {K : tK} {x0 x1 x2 : Int} (hx0 : mdB x0) (p1 : -2147483648 ≤ x1 ∧ x1 ≤ 2147483647) (p2 : -2147483648 ≤ x2 ∧ x2 ≤ 2147483647) : ∀ (n : Nat) (x3 : Int) (d : mD), Safe d → (0 ≤ x3 ∧ x3 ≤ 200) → (d (x0 + 1) 0 + (200 - x3) ≤ 1200) → (mpP (d (x0 + 1))) → 200 - x3 ≤ (n : Int) → ((∀ b : Int, (b < x0 ∨ x0 + 1 < b) ∧ (b < x0 + 4 ∨ x0 + 4 < b) → (lp_272_59 x0 x1 x2 n x3 d).2 b = d b) → Safe (lp_272_59 x0 x1 x2 n x3 d).2 → K (.inl (some (0, (lp_272_59 x0 x1 x2 n x3 d).1))) (lp_272_59 x0 x1 x2 n x3 d).2) → tRun E 272 (59, [.inr (11, x0), .inl (0, x1), .inl (0, x2), .inl (0, x3), tu, tu, tu, tu], [], 0, 0, d) K := by
  intro n
  induction n with
  | zero =>
    intro x3  d hS i0 i1 hmp hm  h
    exact lsq_272_59 hx0 p1 p2 0 _ (fun _  _ _ _ _ _ m0 m1 _ => absurd m1 (by omega)) x3  d hS i0 i1 hmp hm  h
  | succ n ih =>
    intro x3  d hS i0 i1 hmp hm  h
    exact lsq_272_59 hx0 p1 p2 ((n + 1 : Nat) : Int) _ (fun x3  d hS i0 i1 hmp  m0 m1 h => ih x3  d hS i0 i1 hmp (by omega)  h) x3  d hS i0 i1 hmp hm  h
theorem kq_272 {E : mO × tW} {K : tK} {d : mD} {x0 x1 x2 : Int} (hS : Safe d) (hx0 : mdB x0) (p1 : -2147483648 ≤ x1 ∧ x1 ≤ 2147483647) (p2 : -2147483648 ≤ x2 ∧ x2 ≤ 2147483647) (hmp : mpP (d (x0 + 1))) (ht : d (x0 + 1) 0 ≤ 999) (hqq : qoP (d (x0 + 1))) (h : (∀ b : Int, (b < x0 ∨ x0 + 1 < b) ∧ (b < x0 + 4 ∨ x0 + 4 < b) → (g_272 x0 x1 x2 d) b = d b) → Safe (g_272 x0 x1 x2 d) → K (.inl (some (0, (v_272 x0 x1 x2 d)))) (g_272 x0 x1 x2 d)) : tCall E 272 [.inr (11, x0), .inl (0, x1), .inl (0, x2)] d K := by
  simp only [v_272, g_272] at h
  refine t_272_0 ?_
  have w0 := mh_0 hS hx0 _ rfl
  have w7 := mh_7 hS hx0 _ rfl
  have w8 := mh_8 hS hx0 _ rfl
  have w9 := mh_9 hS hx0 _ rfl
  have w10 := mh_10 hS hx0 _ rfl
  have w11 := mh_11 hS hx0 _ rfl
  refine k_236 hS hx0 (m_inR (by omega) (by omega)) (fun e3 => ?_)
  refine t_272_6 ?_
  refine ⟨m_inR (by omega) (by omega), fun c0 => ?_, fun c0 => ?_⟩
  · have hS6 : Safe (mset d x0 0 1) := s_11_f0 hS hx0 (by omega)
    rw [mset_eq (d := d) (a := x0) (i := (0 : Int)) (v := (1 : Int))]
    refine ⟨m_inR (by omega) (by omega), fun c1 => ?_, fun c1 => ?_⟩
    · exact (show False by omega).elim
    · have y0 : f_272 x0 x1 x2 d = (0, mset d x0 0 1) := by simp only [f_272, if_pos (show v_236 x0 x1 d = 0 from c0), if_pos (show (0 : Int) < 1 from c1)]
      rw [y0] at h
      exact h (show ∀ b : Int, (b < x0 ∨ x0 + 1 < b) ∧ (b < x0 + 4 ∨ x0 + 4 < b) → (mset d x0 0 1) b = d b from fun b hb => mset_ne (by omega)) hS6
  · refine k_236 hS hx0 (m_inR (by omega) (by omega)) (fun e4 => ?_)
    refine t_272_14 ?_
    refine ⟨m_inR (by omega) (by omega), fun c1 => ?_, fun c1 => ?_⟩
    · refine k_270 hS hx0 (by omega) (by omega) (fun e5 => ?_)
      refine t_272_27 ?_
      refine ⟨m_inR (by omega) (by omega), fun c2 => ?_, fun c2 => ?_⟩
      · have hS7 : Safe (mset d x0 0 2) := s_11_f0 hS hx0 (by omega)
        rw [mset_eq (d := d) (a := x0) (i := (0 : Int)) (v := (2 : Int))]
        refine ⟨m_inR (by omega) (by omega), fun c3 => ?_, fun c3 => ?_⟩
        · exact (show False by omega).elim
        · have y0 : f_272 x0 x1 x2 d = (0, mset d x0 0 2) := by simp only [f_272, if_neg (show ¬ v_236 x0 x1 d = 0 from c0), if_neg (show ¬ v_236 x0 x2 d = 0 from c1), if_pos (show v_270 x0 x1 x2 d = 0 from c2), if_pos (show (0 : Int) < 2 from c3)]
          rw [y0] at h
          exact h (show ∀ b : Int, (b < x0 ∨ x0 + 1 < b) ∧ (b < x0 + 4 ∨ x0 + 4 < b) → (mset d x0 0 2) b = d b from fun b hb => mset_ne (by omega)) hS7
      · have hS8 : Safe (mset d x0 0 0) := s_11_f0 hS hx0 (by omega)
        rw [mset_eq (d := d) (a := x0) (i := (0 : Int)) (v := (0 : Int))]
        refine ⟨m_inR (by omega) (by omega), fun c3 => ?_, fun c3 => ?_⟩
        · refine k_255 hS8 hx0 (fun F4 K4_0 hS9 => ?_)
          refine t_272_51 ?_
          have q5 : (g_255 x0 (mset d x0 0 0)) (x0 + 1) (12 + 68 * x1 + 5) = d (x0 + 1) (12 + 68 * x1 + 5) := (congrFun (F4 (x0 + 1) (by omega)) (12 + 68 * x1 + 5)).trans (congrFun (mset_ne (by omega)) (12 + 68 * x1 + 5))
          have q6 : (g_255 x0 (mset d x0 0 0)) (x0 + 1) (12 + 68 * x2 + 5) = d (x0 + 1) (12 + 68 * x2 + 5) := (congrFun (F4 (x0 + 1) (by omega)) (12 + 68 * x2 + 5)).trans (congrFun (mset_ne (by omega)) (12 + 68 * x2 + 5))
          refine k_229 hS9 hx0 (by omega) (by omega) (by have u1 := hqq x1 (by omega) (by omega) (by omega); have u2 := hqq x2 (by omega) (by omega) (by omega); omega) (by omega) (fun F5 Q5 hS10 => ?_)
          refine t_272_57 ?_
          have q7 : (g_229 x0 x1 x2 (g_255 x0 (mset d x0 0 0))) (x0 + 1) 0 = d (x0 + 1) 0 := ((Q5 0 (by omega)).trans (congrFun (F4 (x0 + 1) (by omega)) 0)).trans (congrFun (mset_ne (by omega)) 0)
          refine lq_272_59 hx0 p1 p2 (200 - 0 : Int).toNat 0  (g_229 x0 x1 x2 (g_255 x0 (mset d x0 0 0))) hS10 (by omega) (by omega) (mpP.of (mh_7 hS hx0 _ rfl) (show ∀ i : Int, i = 7 ∨ (12 ≤ i ∧ i < 420 ∧ (i - 12) % 68 = 2) → (g_229 x0 x1 x2 (g_255 x0 (mset d x0 0 0))) (x0 + 1) i = d (x0 + 1) i from fun i hi => ((Q5 i (by omega)).trans (congrFun (F4 (x0 + 1) (by omega)) i)).trans (congrFun (mset_ne (by omega)) i)) hmp) (by omega) ?_
          intro F hS_
          have y0 : f_272 x0 x1 x2 d = lp_272_59 x0 x1 x2 (200 - 0 : Int).toNat 0 (g_229 x0 x1 x2 (g_255 x0 (mset d x0 0 0))) := by simp only [f_272, if_neg (show ¬ v_236 x0 x1 d = 0 from c0), if_neg (show ¬ v_236 x0 x2 d = 0 from c1), if_neg (show ¬ v_270 x0 x1 x2 d = 0 from c2), if_neg (show ¬ (0 : Int) < 0 from Int.not_lt.mpr c3)]
          rw [y0] at h
          exact h (fun b hb => (F b hb).trans ((show ∀ b : Int, (b < x0 ∨ x0 + 1 < b) ∧ (b < x0 + 4 ∨ x0 + 4 < b) → (g_229 x0 x1 x2 (g_255 x0 (mset d x0 0 0))) b = d b from fun b hb => (F5 b (by omega)).trans ((F4 b (by omega)).trans (mset_ne (by omega)))) b hb)) hS_
        · exact (show False by omega).elim
    · have hS11 : Safe (mset d x0 0 1) := s_11_f0 hS hx0 (by omega)
      rw [mset_eq (d := d) (a := x0) (i := (0 : Int)) (v := (1 : Int))]
      refine ⟨m_inR (by omega) (by omega), fun c2 => ?_, fun c2 => ?_⟩
      · exact (show False by omega).elim
      · have y0 : f_272 x0 x1 x2 d = (0, mset d x0 0 1) := by simp only [f_272, if_neg (show ¬ v_236 x0 x1 d = 0 from c0), if_pos (show v_236 x0 x2 d = 0 from c1), if_pos (show (0 : Int) < 1 from c2)]
        rw [y0] at h
        exact h (show ∀ b : Int, (b < x0 ∨ x0 + 1 < b) ∧ (b < x0 + 4 ∨ x0 + 4 < b) → (mset d x0 0 1) b = d b from fun b hb => mset_ne (by omega)) hS11
theorem kq_288 {E : mO × tW} {K : tK} {d : mD} {x0 x1 x2 : Int} (hS : Safe d) (hx0 : mdB x0) (p1 : -2147483648 ≤ x1 ∧ x1 ≤ 2147483647) (p2 : -2147483648 ≤ x2 ∧ x2 ≤ 2147483647) (hqq : qoP (d (x0 + 1))) (h : (∀ b : Int, (b < x0 ∨ x0 + 2 < b) → (g_288 x0 x1 x2 d) b = d b) → Safe (g_288 x0 x1 x2 d) → K (.inl (some (0, (v_288 x0 x1 x2 d)))) (g_288 x0 x1 x2 d)) : tCall E 288 [.inr (11, x0), .inl (0, x1), .inl (0, x2)] d K := by
  refine t_288_0 ?_
  have w0 := mh_0 hS hx0 _ rfl
  have w7 := mh_7 hS hx0 _ rfl
  have w8 := mh_8 hS hx0 _ rfl
  have w9 := mh_9 hS hx0 _ rfl
  have w10 := mh_10 hS hx0 _ rfl
  have w11 := mh_11 hS hx0 _ rfl
  refine k_236 hS hx0 (m_inR (by omega) (by omega)) (fun e1 => ?_)
  refine t_288_6 ?_
  refine ⟨m_inR (by omega) (by omega), fun c0 => ?_, fun c0 => ?_⟩
  · have hS1 : Safe (mset d x0 0 1) := s_11_f0 hS hx0 (by omega)
    rw [mset_eq (d := d) (a := x0) (i := (0 : Int)) (v := (1 : Int))]
    refine ⟨m_inR (by omega) (by omega), fun c1 => ?_, fun c1 => ?_⟩
    · exact (show False by omega).elim
    · have y0 : v_288 x0 x1 x2 d = 0 := by simp only [v_288, if_pos (show v_236 x0 x1 d = 0 from c0), if_pos (show (0 : Int) < 1 from c1)]
      have y1 : g_288 x0 x1 x2 d = mset d x0 0 1 := by simp only [g_288, if_pos (show v_236 x0 x1 d = 0 from c0), if_pos (show (0 : Int) < 1 from c1)]
      rw [y0] at h
      rw [y1] at h
      exact h (show ∀ b : Int, (b < x0 ∨ x0 + 2 < b) → (mset d x0 0 1) b = d b from fun b hb => mset_ne (by omega)) hS1
  · refine k_236 hS hx0 (m_inR (by omega) (by omega)) (fun e2 => ?_)
    refine t_288_14 ?_
    refine ⟨m_inR (by omega) (by omega), fun c1 => ?_, fun c1 => ?_⟩
    · refine k_270 hS hx0 (by omega) (by omega) (fun e3 => ?_)
      refine t_288_27 ?_
      refine ⟨m_inR (by omega) (by omega), fun c2 => ?_, fun c2 => ?_⟩
      · have hS2 : Safe (mset d x0 0 2) := s_11_f0 hS hx0 (by omega)
        rw [mset_eq (d := d) (a := x0) (i := (0 : Int)) (v := (2 : Int))]
        refine ⟨m_inR (by omega) (by omega), fun c3 => ?_, fun c3 => ?_⟩
        · exact (show False by omega).elim
        · have y0 : v_288 x0 x1 x2 d = 0 := by simp only [v_288, if_neg (show ¬ v_236 x0 x1 d = 0 from c0), if_neg (show ¬ v_236 x0 x2 d = 0 from c1), if_pos (show v_270 x0 x1 x2 d = 0 from c2), if_pos (show (0 : Int) < 2 from c3)]
          have y1 : g_288 x0 x1 x2 d = mset d x0 0 2 := by simp only [g_288, if_neg (show ¬ v_236 x0 x1 d = 0 from c0), if_neg (show ¬ v_236 x0 x2 d = 0 from c1), if_pos (show v_270 x0 x1 x2 d = 0 from c2), if_pos (show (0 : Int) < 2 from c3)]
          rw [y0] at h
          rw [y1] at h
          exact h (show ∀ b : Int, (b < x0 ∨ x0 + 2 < b) → (mset d x0 0 2) b = d b from fun b hb => mset_ne (by omega)) hS2
      · have hS3 : Safe (mset d x0 0 0) := s_11_f0 hS hx0 (by omega)
        rw [mset_eq (d := d) (a := x0) (i := (0 : Int)) (v := (0 : Int))]
        refine ⟨m_inR (by omega) (by omega), fun c3 => ?_, fun c3 => ?_⟩
        · refine k_278 hS3 hx0 (fun F1 hS4 => ?_)
          refine t_288_51 ?_
          have q1 : (g_278 x0 (mset d x0 0 0)) (x0 + 1) (12 + 68 * x1 + 5) = d (x0 + 1) (12 + 68 * x1 + 5) := (congrFun (F1 (x0 + 1) (by omega)) (12 + 68 * x1 + 5)).trans (congrFun (mset_ne (by omega)) (12 + 68 * x1 + 5))
          have q2 : (g_278 x0 (mset d x0 0 0)) (x0 + 1) (12 + 68 * x2 + 5) = d (x0 + 1) (12 + 68 * x2 + 5) := (congrFun (F1 (x0 + 1) (by omega)) (12 + 68 * x2 + 5)).trans (congrFun (mset_ne (by omega)) (12 + 68 * x2 + 5))
          refine k_229 hS4 hx0 (by omega) (by omega) (by have u1 := hqq x1 (by omega) (by omega) (by omega); have u2 := hqq x2 (by omega) (by omega) (by omega); omega) (by omega) (fun F2 Q2 hS5 => ?_)
          refine t_288_57 ?_
          refine k_177 hS5 ?_
          refine t_288_65 ?_
          have q3 := mo_5 hS5 hx0 x2 ((12 + (68 * x2)) + 5) (by omega) (by omega)
          refine ⟨by omega, ?_⟩
          have y0 : v_288 x0 x1 x2 d = (g_229 x0 x1 x2 (g_278 x0 (mset d x0 0 0))) (x0 + 1) ((12 + (68 * x2)) + 5) := by simp only [v_288, if_neg (show ¬ v_236 x0 x1 d = 0 from c0), if_neg (show ¬ v_236 x0 x2 d = 0 from c1), if_neg (show ¬ v_270 x0 x1 x2 d = 0 from c2), if_neg (show ¬ (0 : Int) < 0 from Int.not_lt.mpr c3)]
          have y1 : g_288 x0 x1 x2 d = g_229 x0 x1 x2 (g_278 x0 (mset d x0 0 0)) := by simp only [g_288, if_neg (show ¬ v_236 x0 x1 d = 0 from c0), if_neg (show ¬ v_236 x0 x2 d = 0 from c1), if_neg (show ¬ v_270 x0 x1 x2 d = 0 from c2), if_neg (show ¬ (0 : Int) < 0 from Int.not_lt.mpr c3)]
          rw [y0] at h
          rw [y1] at h
          exact h (show ∀ b : Int, (b < x0 ∨ x0 + 2 < b) → (g_229 x0 x1 x2 (g_278 x0 (mset d x0 0 0))) b = d b from fun b hb => (F2 b (by omega)).trans ((F1 b (by omega)).trans (mset_ne (by omega)))) hS5
        · exact (show False by omega).elim
    · have hS6 : Safe (mset d x0 0 1) := s_11_f0 hS hx0 (by omega)
      rw [mset_eq (d := d) (a := x0) (i := (0 : Int)) (v := (1 : Int))]
      refine ⟨m_inR (by omega) (by omega), fun c2 => ?_, fun c2 => ?_⟩
      · exact (show False by omega).elim
      · have y0 : v_288 x0 x1 x2 d = 0 := by simp only [v_288, if_neg (show ¬ v_236 x0 x1 d = 0 from c0), if_pos (show v_236 x0 x2 d = 0 from c1), if_pos (show (0 : Int) < 1 from c2)]
        have y1 : g_288 x0 x1 x2 d = mset d x0 0 1 := by simp only [g_288, if_neg (show ¬ v_236 x0 x1 d = 0 from c0), if_pos (show v_236 x0 x2 d = 0 from c1), if_pos (show (0 : Int) < 1 from c2)]
        rw [y0] at h
        rw [y1] at h
        exact h (show ∀ b : Int, (b < x0 ∨ x0 + 2 < b) → (mset d x0 0 1) b = d b from fun b hb => mset_ne (by omega)) hS6
/-! ===== load keeps the rows' two witnesses ===== -/
theorem safe207 {E : mO × tW} {d e2 : mD} (hT : TKL E) (hS : Safe d) (hh : tSh E.2 d) (a1 : ∀ b, ¬ b = 769 → ¬ b = 774 → e2 b = d b) (a2 : ∀ j, ¬ j = 11 → ¬ j = 12 → e2 769 j = d 769 j) (a3 : e2 769 11 = 0 ∧ e2 769 12 = -1) (a4 : ∀ i, 0 ≤ i → i < 3116 → e2 774 i = d 770 i) (a5 : ∀ i, 3116 ≤ i → e2 774 i = d 774 i) : Safe e2 ∧ tSh E.2 e2 := by
  have hS1 : Safe (mset (mset d 769 11 0) 769 12 (-1)) := s_11_f12 (s_11_f11 hS rfl (by decide)) rfl (by decide)
  have k11 : E.2.1 769 = ((363 / 32 : Nat) : Int) := tobj (hT.t 11 769 (by decide)) (by decide)
  have hh1 : tSh E.2 (mset (mset d 769 11 0) 769 12 (-1)) := (hh.setF (g := 363) (v := 0) k11 (by decide) (by decide)).setF (g := 364) (v := -1) k11 (by decide) (by decide)
  have e9 : e2 769 = mset (mset d 769 11 0) 769 12 (-1) 769 := by
    funext j
    by_cases c : j = 12
    · rw [ms_e rfl c, c]
      exact a3.2
    · rw [ms_i c]
      by_cases c2 : j = 11
      · rw [ms_e rfl c2, c2]
        exact a3.1
      · rw [ms_i c2]
        exact a2 j c2 c
  have eo : ∀ b, b ≠ 774 → e2 b = mset (mset d 769 11 0) 769 12 (-1) b := fun b hb => by
    by_cases c : b = 769
    · rw [c]; exact e9
    · rw [a1 b c hb]
      funext j
      rw [ms_a c, ms_a c]
  generalize mset (mset d 769 11 0) 769 12 (-1) = u at *
  refine ⟨fun a i h0 => ?_, ?_⟩
  · by_cases c : a = 774
    · rw [c]
      by_cases q : i < 3116
      · rw [a4 i h0 q]
        have := hS 770 i h0
        exact this
      · rw [a5 i (by omega)]
        exact hS 774 i h0
    · rw [eo a c]
      exact hS1 a i h0
  · obtain ⟨p1, p2⟩ := hh.1 769 357 (by decide) (by decide) k11 (by decide)
    have p2 : tokV E.2 (.inr (25, 774)) := p2
    exact hh1.oth (t := 25) p2.2.1 (by decide) (by decide) eo
theorem rpLoad {E : mO × tW} {d : mD} (hT : TKL E) (hI : Inv E d) (hS1 : Safe (g_303 0 778 d)) (hh1 : tSh E.2 (g_303 0 778 d)) (hf : ∀ b, 642 < b → ¬ b = 778 → g_303 0 778 d b = d b) (r : RP d) (he : ER (g_207 769 (g_303 0 778 d))) : RP (g_207 769 (g_303 0 778 d)) := by
  refine ⟨?_, he⟩
  clear he
  obtain ⟨hS, hh, hi⟩ := hI
  have h70 := hf 770 (by decide) (by decide)
  have h71 := hf 771 (by decide) (by decide)
  have h72 := hf 772 (by decide) (by decide)
  have h75 := hf 775 (by decide) (by decide)
  have h69 := hf 769 (by decide) (by decide)
  have h76 := hf 776 (by decide) (by decide)
  generalize g_303 0 778 d = D at *
  obtain ⟨e2, a1, a2, a3, a4, a6, a5⟩ := f207 (d := D)
  obtain ⟨s1, s2⟩ := safe207 hT hS1 hh1 a1 a2 a3 a4 a6
  have ht : TextR d e2 := hi.2.2.2.fr rfl rfl (by rw [a2 9 (by decide) (by decide), h69]) (by rw [a1 776 (by decide) (by decide), h76])
  obtain ⟨p1, p2, p3, p4, p5, p6, p7⟩ := p_206 (E := E) (x0 := 769) s1 rfl ⟨hT.t 11 769 (by decide), trivial⟩ s2
  unfold g_207
  rw [a5]
  by_cases c : g_206 769 e2 769 13 = 0
  · rw [if_pos c]
    dsimp only
    refine RW.new ?_ ?_ ?_ ?_
    · have e : mset (mset (mset (mset (mset (g_206 769 e2) 769 9 0) 769 0 0) 769 7 0) 775 0 0) 775 1 0 770 = g_206 769 e2 770 := by
        funext j
        rw [ms_a (by decide), ms_a (by decide), ms_a (by decide), ms_a (by decide), ms_a (by decide)]
      rw [e]
      exact p5
    · rw [ms_a (by decide), ms_a (by decide), ms_e rfl rfl]
    · rw [ms_i (by decide), ms_e rfl rfl]
    · exact ms_e rfl rfl
  · rw [if_neg c]
    obtain ⟨Z, b1, b2, b3⟩ := back207 (d := mset (mset (g_206 769 e2) 769 9 0) 769 0 1)
    rw [b1]
    dsimp only
    have z : ∀ b, ¬ b = 769 → ¬ b = 770 → Z b = g_206 769 e2 b := fun b x y => by
      rw [b2 b y]
      funext j
      rw [ms_a x, ms_a x]
    have q7 : g_206 769 e2 769 7 = d 769 7 := by
      obtain ⟨D', l1, -⟩ := loadAll hT.1 hT.k (y := 778) ht hS hh
      rw [l1.2.2 7 (by decide), a2 7 (by decide) (by decide), h69]
    refine r.1.q (fun i x y => ?_) ?_ (fun b hb => ?_)
    · rw [b3 i x y, ms_a (by decide), ms_a (by decide), p2 774 (by decide), a4 i x y, h70]
    · rw [b2 769 (by decide), ms_i (by decide), ms_i (by decide), q7]
    · rw [z b (by omega) (by omega), p2 b (by omega), a1 b (by omega) (by omega)]
      rcases hb with hb | hb | hb
      · rw [hb]; exact h71
      · rw [hb]; exact h72
      · rw [hb]; exact h75
