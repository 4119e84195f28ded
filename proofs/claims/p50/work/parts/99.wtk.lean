/-! ===== the queries of the class, told by the reference's row ===== -/
theorem cq_6 {E : mO × tW} {d : mD} {a0 : Int} (hT : TKL E) (h : Inv2 E d) (h0 : inI a0) : (∀ b, 577 < b → ¬ b = 778 → (g_305 0 a0 778 d) b = d b) ∧ Inv2 E (g_239 769 a0 (g_305 0 a0 778 d)) := by
  have hg := h.1.2.2.1.1
  have pw := p_305 (E := E) (d := d) (x0 := 0) (x1 := a0) (x2 := 778) h.1.1 rfl rfl h0 ⟨hT.t 10 0 (by decide), trivial, hT.t 30 778 (by decide), trivial⟩ h.1.2.1
  have hS1 := pw.2.2.2
  have hh1 := pw.1
  have F1 := pw.2.2.1
  have e70 : (g_305 0 a0 778 d) 770 = d 770 := F1 770 (by decide)
  have pr := p_239 (E := E) (d := (g_305 0 a0 778 d)) (x0 := 769) (x1 := a0) hS1 rfl h0 ⟨hT.t 11 769 (by decide), trivial, trivial⟩ hh1
  have hS2 := pr.2.2
  have hh2 := pr.1
  have e78 : (g_239 769 a0 (g_305 0 a0 778 d)) 778 = (g_305 0 a0 778 d) 778 := pr.2.1 778 (by decide)
  have rv := pw.2.1
  have q : QR (g_305 0 a0 778 d) (g_239 769 a0 (g_305 0 a0 778 d)) := q_239.qr
  have c : QC d (g_305 0 a0 778 d) := fun b x y z => F1 b (by omega)
  exact ⟨fun b x y => F1 b (by omega), ⟨⟨hS2, hh2, h.1.2.2.qr c q⟩, q.rp h.2 e70 (by rw [F1 769 (by decide)]) (fun b hb => F1 b (by omega))⟩⟩
theorem cq_8 {E : mO × tW} {d : mD} {a0 : Int} {a1 : Int} (hT : TKL E) (h : Inv2 E d) (h0 : inI a0) (h1 : inI a1) : (∀ b, 577 < b → ¬ b = 778 → (g_307 0 a0 a1 778 d) b = d b) ∧ Inv2 E (g_241 769 a0 a1 (g_307 0 a0 a1 778 d)) := by
  have hg := h.1.2.2.1.1
  have pw := p_307 (E := E) (d := d) (x0 := 0) (x1 := a0) (x2 := a1) (x3 := 778) h.1.1 rfl rfl h0 h1 ⟨hT.t 10 0 (by decide), trivial, trivial, hT.t 30 778 (by decide), trivial⟩ h.1.2.1
  have hS1 := pw.2.2.2
  have hh1 := pw.1
  have F1 := pw.2.2.1
  have e70 : (g_307 0 a0 a1 778 d) 770 = d 770 := F1 770 (by decide)
  have pr := p_241 (E := E) (d := (g_307 0 a0 a1 778 d)) (x0 := 769) (x1 := a0) (x2 := a1) hS1 rfl h0 h1 ⟨hT.t 11 769 (by decide), trivial, trivial, trivial⟩ hh1
  have hS2 := pr.2.2
  have hh2 := pr.1
  have e78 : (g_241 769 a0 a1 (g_307 0 a0 a1 778 d)) 778 = (g_307 0 a0 a1 778 d) 778 := pr.2.1 778 (by decide)
  have rv := pw.2.1
  have q : QR (g_307 0 a0 a1 778 d) (g_241 769 a0 a1 (g_307 0 a0 a1 778 d)) := q_241.qr
  have c : QC d (g_307 0 a0 a1 778 d) := fun b x y z => F1 b (by omega)
  exact ⟨fun b x y => F1 b (by omega), ⟨⟨hS2, hh2, h.1.2.2.qr c q⟩, q.rp h.2 e70 (by rw [F1 769 (by decide)]) (fun b hb => F1 b (by omega))⟩⟩
theorem cq_9 {E : mO × tW} {d : mD} {a0 : Int} {a1 : Int} (hT : TKL E) (h : Inv2 E d) (h0 : inI a0) (h1 : inI a1) : (∀ b, 577 < b → ¬ b = 778 → (g_308 0 a0 a1 778 d) b = d b) ∧ Inv2 E (g_242 769 a0 a1 (g_308 0 a0 a1 778 d)) := by
  have hg := h.1.2.2.1.1
  have pw := p_308 (E := E) (d := d) (x0 := 0) (x1 := a0) (x2 := a1) (x3 := 778) h.1.1 rfl rfl h0 h1 ⟨hT.t 10 0 (by decide), trivial, trivial, hT.t 30 778 (by decide), trivial⟩ h.1.2.1
  have hS1 := pw.2.2.2
  have hh1 := pw.1
  have F1 := pw.2.2.1
  have e70 : (g_308 0 a0 a1 778 d) 770 = d 770 := F1 770 (by decide)
  have pr := p_242 (E := E) (d := (g_308 0 a0 a1 778 d)) (x0 := 769) (x1 := a0) (x2 := a1) hS1 rfl h0 h1 ⟨hT.t 11 769 (by decide), trivial, trivial, trivial⟩ hh1
  have hS2 := pr.2.2
  have hh2 := pr.1
  have e78 : (g_242 769 a0 a1 (g_308 0 a0 a1 778 d)) 778 = (g_308 0 a0 a1 778 d) 778 := pr.2.1 778 (by decide)
  have rv := pw.2.1
  have q : QR (g_308 0 a0 a1 778 d) (g_242 769 a0 a1 (g_308 0 a0 a1 778 d)) := q_242.qr
  have c : QC d (g_308 0 a0 a1 778 d) := fun b x y z => F1 b (by omega)
  exact ⟨fun b x y => F1 b (by omega), ⟨⟨hS2, hh2, h.1.2.2.qr c q⟩, q.rp h.2 e70 (by rw [F1 769 (by decide)]) (fun b hb => F1 b (by omega))⟩⟩
theorem cq_10 {E : mO × tW} {d : mD} {a0 : Int} {a1 : Int} (hT : TKL E) (h : Inv2 E d) (h0 : inI a0) (h1 : inI a1) : (∀ b, 577 < b → ¬ b = 778 → (g_309 0 a0 a1 778 d) b = d b) ∧ Inv2 E (g_246 769 a0 a1 (g_309 0 a0 a1 778 d)) := by
  have hg := h.1.2.2.1.1
  have pw := p_309 (E := E) (d := d) (x0 := 0) (x1 := a0) (x2 := a1) (x3 := 778) h.1.1 rfl rfl h0 h1 (puI h.1.2.2.1) ⟨hT.t 10 0 (by decide), trivial, trivial, hT.t 30 778 (by decide), trivial⟩ h.1.2.1
  have hS1 := pw.2.2.2
  have hh1 := pw.1
  have F1 := pw.2.2.1
  have e70 : (g_309 0 a0 a1 778 d) 770 = d 770 := F1 770 (by decide)
  have pr := p_246 (E := E) (d := (g_309 0 a0 a1 778 d)) (x0 := 769) (x1 := a0) (x2 := a1) hS1 rfl h0 h1 ⟨hT.t 11 769 (by decide), trivial, trivial, trivial⟩ hh1
  have hS2 := pr.2.2
  have hh2 := pr.1
  have e78 : (g_246 769 a0 a1 (g_309 0 a0 a1 778 d)) 778 = (g_309 0 a0 a1 778 d) 778 := pr.2.1 778 (by decide)
  have rv := pw.2.1
  have q : QR (g_309 0 a0 a1 778 d) (g_246 769 a0 a1 (g_309 0 a0 a1 778 d)) := q_246.qr
  have c : QC d (g_309 0 a0 a1 778 d) := fun b x y z => F1 b (by omega)
  exact ⟨fun b x y => F1 b (by omega), ⟨⟨hS2, hh2, h.1.2.2.qr c q⟩, q.rp h.2 e70 (by rw [F1 769 (by decide)]) (fun b hb => F1 b (by omega))⟩⟩
theorem cq_11 {E : mO × tW} {d : mD} {a0 : Int} {a1 : Int} (hT : TKL E) (h : Inv2 E d) (h0 : inI a0) (h1 : inI a1) : (∀ b, 577 < b → ¬ b = 778 → (g_310 0 a0 a1 778 d) b = d b) ∧ Inv2 E (g_247 769 a0 a1 (g_310 0 a0 a1 778 d)) := by
  have hg := h.1.2.2.1.1
  have pw := p_310 (E := E) (d := d) (x0 := 0) (x1 := a0) (x2 := a1) (x3 := 778) h.1.1 rfl rfl h0 h1 ⟨hT.t 10 0 (by decide), trivial, trivial, hT.t 30 778 (by decide), trivial⟩ h.1.2.1
  have hS1 := pw.2.2.2
  have hh1 := pw.1
  have F1 := pw.2.2.1
  have e70 : (g_310 0 a0 a1 778 d) 770 = d 770 := F1 770 (by decide)
  have pr := p_247 (E := E) (d := (g_310 0 a0 a1 778 d)) (x0 := 769) (x1 := a0) (x2 := a1) hS1 rfl h0 h1 ⟨hT.t 11 769 (by decide), trivial, trivial, trivial⟩ hh1
  have hS2 := pr.2.2
  have hh2 := pr.1
  have e78 : (g_247 769 a0 a1 (g_310 0 a0 a1 778 d)) 778 = (g_310 0 a0 a1 778 d) 778 := pr.2.1 778 (by decide)
  have rv := pw.2.1
  have q : QR (g_310 0 a0 a1 778 d) (g_247 769 a0 a1 (g_310 0 a0 a1 778 d)) := q_247.qr
  have c : QC d (g_310 0 a0 a1 778 d) := fun b x y z => F1 b (by omega)
  exact ⟨fun b x y => F1 b (by omega), ⟨⟨hS2, hh2, h.1.2.2.qr c q⟩, q.rp h.2 e70 (by rw [F1 769 (by decide)]) (fun b hb => F1 b (by omega))⟩⟩
theorem cq_12 {E : mO × tW} {d : mD} {a0 : Int} {a1 : Int} (hT : TKL E) (h : Inv2 E d) (h0 : inI a0) (h1 : inI a1) : (∀ b, 577 < b → ¬ b = 778 → (g_311 0 a0 a1 778 d) b = d b) ∧ Inv2 E (g_248 769 a0 a1 (g_311 0 a0 a1 778 d)) := by
  have hg := h.1.2.2.1.1
  have pw := p_311 (E := E) (d := d) (x0 := 0) (x1 := a0) (x2 := a1) (x3 := 778) h.1.1 rfl rfl h0 h1 ⟨hT.t 10 0 (by decide), trivial, trivial, hT.t 30 778 (by decide), trivial⟩ h.1.2.1
  have hS1 := pw.2.2.2
  have hh1 := pw.1
  have F1 := pw.2.2.1
  have e70 : (g_311 0 a0 a1 778 d) 770 = d 770 := F1 770 (by decide)
  have pr := p_248 (E := E) (d := (g_311 0 a0 a1 778 d)) (x0 := 769) (x1 := a0) (x2 := a1) hS1 rfl h0 h1 ⟨hT.t 11 769 (by decide), trivial, trivial, trivial⟩ hh1
  have hS2 := pr.2.2
  have hh2 := pr.1
  have e78 : (g_248 769 a0 a1 (g_311 0 a0 a1 778 d)) 778 = (g_311 0 a0 a1 778 d) 778 := pr.2.1 778 (by decide)
  have rv := pw.2.1
  have q : QR (g_311 0 a0 a1 778 d) (g_248 769 a0 a1 (g_311 0 a0 a1 778 d)) := q_248.qr
  have c : QC d (g_311 0 a0 a1 778 d) := fun b x y z => F1 b (by omega)
  exact ⟨fun b x y => F1 b (by omega), ⟨⟨hS2, hh2, h.1.2.2.qr c q⟩, q.rp h.2 e70 (by rw [F1 769 (by decide)]) (fun b hb => F1 b (by omega))⟩⟩
def SQ' (d d2 : mD) : Prop := d2 770 = d 770 ∧ d2 769 7 = d 769 7 ∧ d2 771 = d 771 ∧ ∀ b, 577 < b → (b < 769 ∨ 778 < b) → d2 b = d b
theorem SQ'.of {d D : mD} (h : ∀ b, 577 < b → ¬ b = 778 → D b = d b) : SQ' d (mset D 769 0 0) := by
  have e : ∀ b, 577 < b → ¬ b = 778 → ¬ b = 769 → mset D 769 0 0 b = d b := fun b x y z => by
    rw [← h b x y]
    funext j
    exact ms_a z
  exact ⟨e 770 (by decide) (by decide) (by decide), by rw [ms_i (by decide), h 769 (by decide) (by decide)], e 771 (by decide) (by decide) (by decide), fun b x y => e b x (by omega) (by omega)⟩
theorem SQ'.refl {d : mD} : SQ' d d := ⟨rfl, rfl, rfl, fun _ _ _ => rfl⟩
theorem SQ'.trans {d d1 d2 : mD} (h : SQ' d d1) (g : SQ' d1 d2) : SQ' d d2 := ⟨g.1.trans h.1, g.2.1.trans h.2.1, g.2.2.1.trans h.2.2.1, fun b x y => (g.2.2.2 b x y).trans (h.2.2.2 b x y)⟩
theorem QP.use {d1 d2 : mD} {v vr x : Int} (q : QP d1 d2 v vr) (h : d2 = mset d1 769 0 0) (hx : vr = x) : v = 0 ∧ d1 778 0 = x := by
  have v0 : v = 0 := by
    rw [← q.1, h]
    exact ms_e rfl rfl
  exact ⟨v0, (q.2 v0).1.trans hx⟩
def cntF (a : Int) (w : Row) : Int := if a = 0 then w 7 else if a = 1 then w 8 else if a = 2 then w 9 else if a = 3 then w 0 else if a = 4 then 20 - w 0 % 20 else if a = 5 then csum (cA w) (w 9).toNat else if a = 6 then csum (cB w) (w 9).toNat else if a = 7 then csum (cC w) (w 9).toNat else if a = 8 then w 10 else if a = 9 then w 11 else if a = 10 then csum (cE w) (w 10).toNat else w 1
theorem z70 {D : mD} : mset D 769 0 0 770 = D 770 := by
  funext j
  exact ms_a (by decide)
theorem u_305 {E E' : mO × tW} {K : tK} {d : mD} {a : Int} (hT : TKL E') (h : Inv2 E' d) (ha : 0 ≤ a ∧ a ≤ 11) (k : ∀ M d2 : mD, (∀ i, (i < 769 ∨ 778 < i) → M i = d2 i) → Inv2 E' d2 → SQ' d d2 → K (.inl (some (0, cntF a (d 770)))) M) : tCall E 411 [.inr (10, 0), .inl (0, a)] d K := by
  have cf := cq_6 hT h (inI.s (x := a) (by omega))
  have qp := qpCount (a := a) h.1.2.2.1 h.1.2.2.2.1
  have hg := h.GG
  have e0 := cf.1 770 (by decide) (by decide)
  generalize hD : g_305 0 a 778 d = D at *
  have x1 : g_239 769 a D = mset D 769 0 0 := by
    unfold g_239 f_239
    rw [v176, if_pos (show 0 ≤ a ∧ a ≤ 12 from ⟨ha.1, by omega⟩), if_neg (by decide), g239]
  have x2 : v_239 769 a D = cntF a (d 770) := by
    unfold v_239 f_239
    rw [v176, if_pos (show 0 ≤ a ∧ a ≤ 12 from ⟨ha.1, by omega⟩), if_neg (by decide), l239 (by rw [z70, e0]; exact hg.1.2.2.2.1) (61 - 0 : Int).toNat 0 0 0 0 (by decide) (by rw [z70, e0]; exact hg.1.2.2.1.1) (by rw [z70, e0, show (((61 - 0 : Int).toNat : Nat) : Int) = 61 by decide]; have := hg.1.2.2.1; omega)]
    unfold fin239 cntF
    rw [z70, e0]
    have z : ∀ f : Int → Int, (0 : Int) + (csum f (d 770 9).toNat - csum f (0 : Int).toNat) = csum f (d 770 9).toNat := fun f => by
      show 0 + (_ - (0 : Int)) = _
      omega
    rw [z, z, z]
    have : a = 0 ∨ a = 1 ∨ a = 2 ∨ a = 3 ∨ a = 4 ∨ a = 5 ∨ a = 6 ∨ a = 7 ∨ a = 8 ∨ a = 9 ∨ a = 10 ∨ a = 11 := by omega
    rcases this with z | z | z | z | z | z | z | z | z | z | z | z <;> subst z <;> simp only [Int.reduceEq, if_true, if_false]
  obtain ⟨v0, v1⟩ := qp.use x1 x2
  refine qq_305 (x2 := 778) h.1.1 rfl ⟨by omega, by omega⟩ (fun z v M hv hM => ?_) (fun z => absurd (z.symm.trans v0) (by decide))
  rw [hv, hD, v1]
  rw [x1] at cf
  refine k M (mset D 769 0 0) (fun i hi => ?_) cf.2 (SQ'.of cf.1)
  rw [hM i (by omega), hD]
  funext j
  exact (ms_a (by omega)).symm
theorem u_307 {E E' : mO × tW} {K : tK} {d : mD} {a b : Int} (hT : TKL E') (h : Inv2 E' d) (ha : 0 ≤ a ∧ a < d 770 7) (hb : 0 ≤ b ∧ b ≤ 5) (k : ∀ M d2 : mD, (∀ i, (i < 769 ∨ 778 < i) → M i = d2 i) → Inv2 E' d2 → SQ' d d2 → K (.inl (some (0, d 770 (12 + 68 * a + 1 + b)))) M) : tCall E 412 [.inr (10, 0), .inl (0, a), .inl (0, b)] d K := by
  have hg := h.GG
  have n7 := hg.1.1
  have cf := cq_8 hT h (inI.s (x := a) (by omega)) (inI.s (x := b) (by omega))
  have qp := qpOffice (a := a) (b := b) h.1.2.2.1
  have e0 := cf.1 770 (by decide) (by decide)
  generalize hD : g_307 0 a b 778 d = D at *
  have x1 : g_241 769 a b D = mset D 769 0 0 := by
    unfold g_241
    rw [v236, e0, if_pos ha, if_neg (by decide), v176, if_pos hb, if_neg (by decide)]
  have x2 : v_241 769 a b D = d 770 (12 + 68 * a + 1 + b) := by
    unfold v_241
    rw [v236, n7691, e0, if_pos ha, if_neg (by decide), v176, if_pos hb, if_neg (by decide)]
  obtain ⟨v0, v1⟩ := qp.use x1 x2
  refine qq_307 (x3 := 778) h.1.1 rfl ⟨by omega, by omega⟩ ⟨by omega, by omega⟩ (fun z v M hv hM => ?_) (fun z => absurd (z.symm.trans v0) (by decide)) (fun z => absurd (z.symm.trans v0) (by decide))
  rw [hv, hD, v1]
  rw [x1] at cf
  refine k M (mset D 769 0 0) (fun i hi => ?_) cf.2 (SQ'.of cf.1)
  rw [hM i (by omega), hD]
  funext j
  exact (ms_a (by omega)).symm
theorem u_308 {E E' : mO × tW} {K : tK} {d : mD} {a b : Int} (hT : TKL E') (h : Inv2 E' d) (ha : 0 ≤ a ∧ a < d 770 7) (hb : 0 ≤ b ∧ b < d 770 (12 + 68 * a + 5)) (k : ∀ M d2 : mD, (∀ i, (i < 769 ∨ 778 < i) → M i = d2 i) → Inv2 E' d2 → SQ' d d2 → K (.inl (some (0, d 770 (12 + 68 * a + 7 + b)))) M) : tCall E 413 [.inr (10, 0), .inl (0, a), .inl (0, b)] d K := by
  have hg := h.GG
  have n7 := hg.1.1
  have go := (hg.2.1 a ha.1 ha.2).2.2.2.2.1
  have cf := cq_9 hT h (inI.s (x := a) (by omega)) (inI.s (x := b) (by omega))
  have qp := qpQueued (a := a) (b := b) h.1.2.2.1
  have e0 := cf.1 770 (by decide) (by decide)
  generalize hD : g_308 0 a b 778 d = D at *
  have x1 : g_242 769 a b D = mset D 769 0 0 := by
    unfold g_242
    rw [v236, n7691, e0, if_pos ha, if_neg (by decide), v176, if_pos (show 0 ≤ b ∧ b ≤ d 770 (12 + 68 * a + 5) - 1 from ⟨hb.1, by omega⟩), if_neg (by decide)]
  have x2 : v_242 769 a b D = d 770 (12 + 68 * a + 7 + b) := by
    unfold v_242
    rw [v236, n7691, e0, if_pos ha, if_neg (by decide), v176, if_pos (show 0 ≤ b ∧ b ≤ d 770 (12 + 68 * a + 5) - 1 from ⟨hb.1, by omega⟩), if_neg (by decide)]
  obtain ⟨v0, v1⟩ := qp.use x1 x2
  refine qq_308 (x3 := 778) h.1.1 rfl ⟨by omega, by omega⟩ ⟨by omega, by omega⟩ (fun z v M hv hM => ?_) (fun z => absurd (z.symm.trans v0) (by decide))
  rw [hv, hD, v1]
  rw [x1] at cf
  refine k M (mset D 769 0 0) (fun i hi => ?_) cf.2 (SQ'.of cf.1)
  rw [hM i (by omega), hD]
  funext j
  exact (ms_a (by omega)).symm
def perF (p b : Int) (w : Row) : Int := if b = 0 then w (420 + 2 * p + 1) else if b = 3 then V_245 p 0 w else if b = 4 then V_245 p 1 w else if b = 5 then V_245 p 2 w else if b = 6 then csum (fun k => if perO w k = p then 1 else 0) (w 10).toNat else if b = 7 then V_217 p w else if b = 8 then V_233 p w else V_244 p 1 w
theorem u_309 {E E' : mO × tW} {K : tK} {d : mD} {a b : Int} (hT : TKL E') (h : Inv2 E' d) (ha : 0 ≤ a ∧ a < d 770 8) (hb : b = 0 ∨ (3 ≤ b ∧ b ≤ 9)) (k : ∀ M d2 : mD, (∀ i, (i < 769 ∨ 778 < i) → M i = d2 i) → Inv2 E' d2 → SQ' d d2 → K (.inl (some (0, perF a b (d 770)))) M) : tCall E 414 [.inr (10, 0), .inl (0, a), .inl (0, b)] d K := by
  have hg := h.GG
  have n8 := hg.1.2.1
  have cf := cq_10 hT h (inI.s (x := a) (by omega)) (inI.s (x := b) (by omega))
  have qp := qpPerson (a := a) (b := b) h.1.2.2.1
  have e0 := cf.1 770 (by decide) (by decide)
  generalize hD : g_309 0 a b 778 d = D at *
  have hb' : 0 ≤ b ∧ b ≤ 9 := by omega
  have fr := fin246r (p := a) (b := b) (D := mset D 769 0 0) (by rw [z70, e0]; exact hg)
  have x1 : g_246 769 a b D = mset D 769 0 0 := by
    unfold g_246 f_246
    rw [v237, e0, if_pos ha, if_neg (by decide), v176, if_pos hb', if_neg (by decide), fr]
  have x2 : v_246 769 a b D = perF a b (d 770) := by
    unfold v_246 f_246
    rw [v237, e0, if_pos ha, if_neg (by decide), v176, if_pos hb', if_neg (by decide), fr]
    dsimp only
    unfold fin246 perF
    rw [m_v_245, m_v_245, m_v_245, m_v_217, m_v_233, m_v_244, z70, e0]
    rcases hb with z | z
    · subst z
      simp only [Int.reduceEq, if_true, if_false]
    · have : b = 3 ∨ b = 4 ∨ b = 5 ∨ b = 6 ∨ b = 7 ∨ b = 8 ∨ b = 9 := by omega
      rcases this with z | z | z | z | z | z | z <;> subst z <;> simp only [Int.reduceEq, if_true, if_false]
  obtain ⟨v0, v1⟩ := qp.use x1 x2
  refine qq_309 (x3 := 778) h.1.1 rfl ⟨by omega, by omega⟩ ⟨by omega, by omega⟩ (puI h.1.2.2.1) (fun z v M hv hM => ?_) (fun z => absurd (z.symm.trans v0) (by decide)) (fun z => absurd (z.symm.trans v0) (by decide))
  rw [hv, hD, v1]
  rw [x1] at cf
  refine k M (mset D 769 0 0) (fun i hi => ?_) cf.2 (SQ'.of cf.1)
  rw [hM i (by omega), hD]
  funext j
  exact (ms_a (by omega)).symm
def tikF (t b : Int) (w : Row) : Int := if b < 8 then w (452 + 24 * t + b) else if b = 8 then V_213 t w else if b = 9 then csum (fun k => if w (1916 + 5 * k + 1) = t then 1 else 0) (w 10).toNat else V_221 t w
theorem u_310 {E E' : mO × tW} {K : tK} {d : mD} {a b : Int} (hT : TKL E') (h : Inv2 E' d) (ha : 0 ≤ a ∧ a < d 770 9) (hb : 0 ≤ b ∧ b ≤ 10) (k : ∀ M d2 : mD, (∀ i, (i < 769 ∨ 778 < i) → M i = d2 i) → Inv2 E' d2 → SQ' d d2 → K (.inl (some (0, tikF a b (d 770)))) M) : tCall E 415 [.inr (10, 0), .inl (0, a), .inl (0, b)] d K := by
  have hg := h.GG
  have n9 := hg.1.2.2.1
  have n10 := hg.1.2.2.2.1
  have cf := cq_11 hT h (inI.s (x := a) (by omega)) (inI.s (x := b) (by omega))
  have qp := qpTicket (a := a) (b := b) h.1.2.2.1
  have e0 := cf.1 770 (by decide) (by decide)
  generalize hD : g_310 0 a b 778 d = D at *
  have fr := l247 (t := a) (b := b) (D := mset D 769 0 0) (200 - 0 : Int).toNat 0 0 (by decide) (by rw [z70, e0]; exact n10.1) (by rw [z70, e0, show (((200 - 0 : Int).toNat : Nat) : Int) = 200 by decide]; omega)
  have x1 : g_247 769 a b D = mset D 769 0 0 := by
    unfold g_247 f_247
    rw [v238, e0, if_pos ha, if_neg (by decide), v176, if_pos hb, if_neg (by decide)]
    by_cases c : b < 8
    · rw [if_pos c]
    · rw [if_neg c, fr]
  have x2 : v_247 769 a b D = tikF a b (d 770) := by
    unfold v_247 f_247 tikF
    rw [v238, n7691, e0, if_pos ha, if_neg (by decide), v176, if_pos hb, if_neg (by decide)]
    by_cases c : b < 8
    · rw [if_pos c, if_pos c]
    · rw [if_neg c, if_neg c, fr]
      dsimp only
      unfold fin247
      rw [m_v_213, m_v_221, z70, e0]
      by_cases c8 : b = 8
      · rw [if_pos c8, if_pos c8]
      · rw [if_neg c8, if_neg c8]
        by_cases c9 : b = 9
        · rw [if_pos c9, if_pos c9]
          show 0 + (_ - (0 : Int)) = _
          omega
        · rw [if_neg c9, if_neg c9]
  obtain ⟨v0, v1⟩ := qp.use x1 x2
  refine qq_310 (x3 := 778) h.1.1 rfl ⟨by omega, by omega⟩ ⟨by omega, by omega⟩ (fun z v M hv hM => ?_) (fun z => absurd (z.symm.trans v0) (by decide)) (fun z => absurd (z.symm.trans v0) (by decide))
  rw [hv, hD, v1]
  rw [x1] at cf
  refine k M (mset D 769 0 0) (fun i hi => ?_) cf.2 (SQ'.of cf.1)
  rw [hM i (by omega), hD]
  funext j
  exact (ms_a (by omega)).symm
-- the place in the row of offered tokens: -1, or any one that holds it
def plF (a v : Int) (w : Row) : Prop := (v = -1 ∧ ∀ j, 0 ≤ j → j < w 11 → ¬ w (2916 + j) = a) ∨ (0 ≤ v ∧ v < w 11 ∧ w (2916 + v) = a)
theorem u_311 {E E' : mO × tW} {K : tK} {d : mD} {a b : Int} (hT : TKL E') (h : Inv2 E' d) (ha : 0 ≤ a ∧ a < d 770 10) (hb : 0 ≤ b ∧ b ≤ 4) (k : ∀ v, (b < 4 → v = d 770 (1916 + 5 * a + b)) → (b = 4 → plF a v (d 770)) → ∀ M d2 : mD, (∀ i, (i < 769 ∨ 778 < i) → M i = d2 i) → Inv2 E' d2 → SQ' d d2 → K (.inl (some (0, v))) M) : tCall E 416 [.inr (10, 0), .inl (0, a), .inl (0, b)] d K := by
  have hg := h.GG
  have n10 := hg.1.2.2.2.1
  have n11 := hg.1.2.2.2.2.1
  have cf := cq_12 hT h (inI.s (x := a) (by omega)) (inI.s (x := b) (by omega))
  have qp := qpToken (a := a) (b := b) h.1.2.2.1
  have e0 := cf.1 770 (by decide) (by decide)
  generalize hD : g_311 0 a b 778 d = D at *
  obtain ⟨r1, r2⟩ := row248 (a := a) (b := b) (D := mset D 769 0 0) (200 - 0 : Int).toNat (-1) 0 (by decide) (by rw [z70, e0, show (((200 - 0 : Int).toNat : Nat) : Int) = 200 by decide]; omega)
  rw [z70, e0] at r2
  have x1 : g_248 769 a b D = mset D 769 0 0 := by
    unfold g_248 f_248
    rw [n7691, e0, v176, if_pos (show 0 ≤ a ∧ a ≤ d 770 10 - 1 from ⟨ha.1, by omega⟩), if_neg (by decide), v176, if_pos hb, if_neg (by decide)]
    by_cases c : b < 4
    · rw [if_pos c]
    · rw [if_neg c, r1]
  obtain ⟨v0, v1⟩ := qp.use x1 rfl
  have x2 : (b < 4 → v_248 769 a b D = d 770 (1916 + 5 * a + b)) ∧ (b = 4 → plF a (v_248 769 a b D) (d 770)) := by
    unfold v_248 f_248
    rw [n7691, e0, v176, if_pos (show 0 ≤ a ∧ a ≤ d 770 10 - 1 from ⟨ha.1, by omega⟩), if_neg (by decide), v176, if_pos hb, if_neg (by decide)]
    refine ⟨fun c => by rw [if_pos c], fun c => ?_⟩
    rw [if_neg (by omega)]
    exact r2
  refine qq_311 (x3 := 778) h.1.1 rfl ⟨by omega, by omega⟩ ⟨by omega, by omega⟩ (fun z v M hv hM => ?_) (fun z => absurd (z.symm.trans v0) (by decide)) (fun z => absurd (z.symm.trans v0) (by decide))
  rw [hv, hD, v1]
  rw [x1] at cf
  refine k _ x2.1 x2.2 M (mset D 769 0 0) (fun i hi => ?_) cf.2 (SQ'.of cf.1)
  rw [hM i (by omega), hD]
  funext j
  exact (ms_a (by omega)).symm
theorem gap0 {E' : mO × tW} {d : mD} (h : Inv2 E' d) : v_141 0 d = 0 := by
  have hg := h.GG
  have n10 := hg.1.2.2.2.1
  rw [(qvGap h.1.2.2.1).1]
  unfold v_262 f_262
  rw [n7691, l262 (by rw [z70]; exact hg) (200 - 0 : Int).toNat _ 0 (by decide) (by rw [z70]; exact n10.1) (by rw [z70, show (((200 - 0 : Int).toNat : Nat) : Int) = 200 by decide]; omega), z70]
  omega
