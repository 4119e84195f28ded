/-! ===== after each call: in step again (the pieces printed by a program of mine) ===== -/
theorem pq_268 {E : mO × tW} {d : mD} {x0 x1 : Int} (hS : Safe d) (hx0 : mdB x0) (p1 : -2147483648 ≤ x1 ∧ x1 ≤ 2147483647) (hmp : mpP (d (x0 + 1))) (ht : d (x0 + 1) 0 ≤ 999) (hqq : qoP (d (x0 + 1))) (hn : d (x0 + 1) 9 ≤ 60) (ha : tokL E.2 [.inr (11, x0), .inl (0, x1)]) (hh : tSh E.2 d) : tSh E.2 (g_268 x0 x1 d) ∧ ((∀ b : Int, (b < x0 ∨ x0 + 1 < b) ∧ (b < x0 + 4 ∨ x0 + 4 < b) → (g_268 x0 x1 d) b = d b)) ∧ (Safe (g_268 x0 x1 d)) :=
  tAdq (E := E) ha hh (kq_268 hS hx0 p1 hmp ht hqq hn (fun z0 z1 => fun hsh => ⟨hsh, z0, z1⟩))
theorem pq_269 {E : mO × tW} {d : mD} {x0 : Int} (hS : Safe d) (hx0 : mdB x0) (hmp : mpP (d (x0 + 1))) (ht : d (x0 + 1) 0 ≤ 999) (hqq : qoP (d (x0 + 1))) (hn : d (x0 + 1) 9 ≤ 60) (ha : tokL E.2 [.inr (11, x0)]) (hh : tSh E.2 d) : tSh E.2 (g_269 x0 d) ∧ ((∀ b : Int, (b < x0 ∨ x0 + 1 < b) ∧ (b < x0 + 4 ∨ x0 + 4 < b) → (g_269 x0 d) b = d b)) ∧ (Safe (g_269 x0 d)) :=
  tAdq (E := E) ha hh (kq_269 hS hx0 hmp ht hqq hn (fun z0 z1 => fun hsh => ⟨hsh, z0, z1⟩))
theorem pq_272 {E : mO × tW} {d : mD} {x0 x1 x2 : Int} (hS : Safe d) (hx0 : mdB x0) (p1 : -2147483648 ≤ x1 ∧ x1 ≤ 2147483647) (p2 : -2147483648 ≤ x2 ∧ x2 ≤ 2147483647) (hmp : mpP (d (x0 + 1))) (ht : d (x0 + 1) 0 ≤ 999) (hqq : qoP (d (x0 + 1))) (ha : tokL E.2 [.inr (11, x0), .inl (0, x1), .inl (0, x2)]) (hh : tSh E.2 d) : tSh E.2 (g_272 x0 x1 x2 d) ∧ ((∀ b : Int, (b < x0 ∨ x0 + 1 < b) ∧ (b < x0 + 4 ∨ x0 + 4 < b) → (g_272 x0 x1 x2 d) b = d b)) ∧ (Safe (g_272 x0 x1 x2 d)) :=
  tAdq (E := E) ha hh (kq_272 hS hx0 p1 p2 hmp ht hqq (fun z0 z1 => fun hsh => ⟨hsh, z0, z1⟩))
theorem pq_288 {E : mO × tW} {d : mD} {x0 x1 x2 : Int} (hS : Safe d) (hx0 : mdB x0) (p1 : -2147483648 ≤ x1 ∧ x1 ≤ 2147483647) (p2 : -2147483648 ≤ x2 ∧ x2 ≤ 2147483647) (hqq : qoP (d (x0 + 1))) (ha : tokL E.2 [.inr (11, x0), .inl (0, x1), .inl (0, x2)]) (hh : tSh E.2 d) : tSh E.2 (g_288 x0 x1 x2 d) ∧ ((∀ b : Int, (b < x0 ∨ x0 + 2 < b) → (g_288 x0 x1 x2 d) b = d b)) ∧ (Safe (g_288 x0 x1 x2 d)) :=
  tAdq (E := E) ha hh (kq_288 hS hx0 p1 p2 hqq (fun z0 z1 => fun hsh => ⟨hsh, z0, z1⟩))
def Inv2 (E : mO × tW) (d : mD) : Prop := Inv E d ∧ RP d
theorem n7691 : (769 : Int) + 1 = 770 := by decide
theorem qoI {w : Row} (hg : GG w) : qoP w := fun o a _ c => Int.le_trans (hg.2.1 o a c).2.2.2.2.1.2 (by decide)
theorem rkI {w : Row} (hg : GG w) : rkP w := Int.le_of_eq hg.2.2.2.2.2.2.1
theorem puI {d : mD} {p : Int} (h : OKR 1 d (d 770)) : puR 0 p d := by
  by_cases c : 0 ≤ p ∧ p < d 770 8
  · have := purse h.1 h.2.2.1 h.2.2.2.2 c.1 c.2
    have : 0 ≤ d 13 p ∧ d 13 p ≤ 19800 := this
    refine Or.inr (Or.inr ?_)
    rw [n01, show (1 : Int) + 10 = 11 by decide, show (11 : Int) + 2 = 13 by decide]
    omega
  · have o8 : d 11 0 = d 770 8 := h.2.2.2.2.2.2.2.1.1
    unfold puR
    rw [n01, show (1 : Int) + 10 = 11 by decide, o8]
    omega
theorem hwqI {d D : mD} {t : Int} (h : OKR 1 d (d 770)) (e : D 770 = d 770) : t < 0 ∨ D (769 + 1) 9 ≤ t ∨ ¬ D (769 + 1) (452 + 24 * t + 4) = 0 ∨ (0 ≤ v_221 769 t D ∧ 1 ≤ D (769 + 1) (12 + 68 * D (769 + 1) (452 + 24 * t + 1) + 5)) := by
  rw [n7691, m_v_221, e]
  by_cases c : 0 ≤ t ∧ t < d 770 9
  · by_cases c2 : d 770 (452 + 24 * t + 4) = 0
    · obtain ⟨-, p2, p3, -⟩ := placeIn h.1 h.2.2.2.2 c c2
      exact Or.inr (Or.inr (Or.inr ⟨p2, by omega⟩))
    · exact Or.inr (Or.inr (Or.inl c2))
  · omega
theorem opLoad {E : mO × tW} {d : mD} (hT : TKL E) (hI : Inv E d) : OPR d (g_303 0 778 d) (g_207 769 (g_303 0 778 d)) (v_303 0 778 d) (v_207 769 (g_303 0 778 d)) := by
  obtain ⟨hS, hh, hi⟩ := id hI
  obtain ⟨p1, p2, p3, p4⟩ := p_303 (E := E) (x0 := 0) (x1 := 778) hT.1 hT.2.1 hS rfl rfl ⟨hT.t 10 0 (by decide), hT.t 30 778 (by decide), trivial⟩ hh
  have hf : ∀ b, 642 < b → ¬ b = 778 → g_303 0 778 d b = d b := fun b x y => p3 b (by omega)
  obtain ⟨q1, q2, -, q4⟩ := load303 hT.1 hT.k hi hS hh hf hi.2.1.1
  refine ⟨q2, ?_, fun z => ?_, fun r => rpLoad hT hI p4 p1 hf r q4⟩
  · rcases q1 with ⟨a, b, c, e⟩ | ⟨a, b⟩
    · omega
    · omega
  · rcases q1 with ⟨a, b, c, e⟩ | ⟨a, b⟩
    · exact ⟨b.symm, inI.of (by omega)⟩
    · omega
theorem iv_0 {E : mO × tW} {d : mD} {a0 : Int} {a1 : Int} {a2 : Int} {a3 : Int} {a4 : Int} (hT : TKL E) (h : Inv2 E d) (h0 : inI a0) (h1 : inI a1) (h2 : inI a2) (h3 : inI a3) (h4 : inI a4) : Safe (g_301 0 a0 a1 a2 a3 a4 778 d) ∧ (g_301 0 a0 a1 a2 a3 a4 778 d) 770 = d 770 ∧ Inv2 E (g_186 769 a0 a1 a2 a3 a4 (g_301 0 a0 a1 a2 a3 a4 778 d)) ∧ (g_186 769 a0 a1 a2 a3 a4 (g_301 0 a0 a1 a2 a3 a4 778 d)) 778 = (g_301 0 a0 a1 a2 a3 a4 778 d) 778 ∧ (0 ≤ (v_301 0 a0 a1 a2 a3 a4 778 d) ∧ (v_301 0 a0 a1 a2 a3 a4 778 d) ≤ 3) ∧ OPR d (g_301 0 a0 a1 a2 a3 a4 778 d) (g_186 769 a0 a1 a2 a3 a4 (g_301 0 a0 a1 a2 a3 a4 778 d)) (v_301 0 a0 a1 a2 a3 a4 778 d) (v_186 769 a0 a1 a2 a3 a4 (g_301 0 a0 a1 a2 a3 a4 778 d)) := by
  have hg := h.1.2.2.1.1
  have pw := p_301 (E := E) (d := d) (x0 := 0) (x1 := a0) (x2 := a1) (x3 := a2) (x4 := a3) (x5 := a4) (x6 := 778) h.1.1 rfl rfl h0 h1 h2 h3 h4 ⟨hT.t 10 0 (by decide), trivial, trivial, trivial, trivial, trivial, hT.t 30 778 (by decide), trivial⟩ h.1.2.1
  have hS1 := pw.2.2.2
  have hh1 := pw.1
  have F1 := pw.2.2.1
  have e70 : (g_301 0 a0 a1 a2 a3 a4 778 d) 770 = d 770 := F1 770 (by decide)
  have pr := p_186 (E := E) (d := (g_301 0 a0 a1 a2 a3 a4 778 d)) (x0 := 769) (x1 := a0) (x2 := a1) (x3 := a2) (x4 := a3) (x5 := a4) hS1 rfl h0 h1 h2 h3 h4 ⟨hT.t 11 769 (by decide), trivial, trivial, trivial, trivial, trivial, trivial⟩ hh1
  have hS2 := pr.2.2.2
  have hh2 := pr.1
  have e78 : (g_186 769 a0 a1 a2 a3 a4 (g_301 0 a0 a1 a2 a3 a4 778 d)) 778 = (g_301 0 a0 a1 a2 a3 a4 778 d) 778 := pr.2.2.1 778 (by decide)
  have rv := pw.2.1
  have op : OPR d (g_301 0 a0 a1 a2 a3 a4 778 d) (g_186 769 a0 a1 a2 a3 a4 (g_301 0 a0 a1 a2 a3 a4 778 d)) (v_301 0 a0 a1 a2 a3 a4 778 d) (v_186 769 a0 a1 a2 a3 a4 (g_301 0 a0 a1 a2 a3 a4 778 d)) := opApp h.1.2.2
  exact ⟨hS1, e70, ⟨⟨hS2, hh2, op.1⟩, op.2.2.2 h.2⟩, e78, rv, op⟩
theorem iv_1 {E : mO × tW} {d : mD} {a0 : Int} (hT : TKL E) (h : Inv2 E d) (h0 : inI a0) : Safe (g_302 0 a0 778 d) ∧ (g_302 0 a0 778 d) 770 = d 770 ∧ Inv2 E (g_187 769 a0 (g_302 0 a0 778 d)) ∧ (g_187 769 a0 (g_302 0 a0 778 d)) 778 = (g_302 0 a0 778 d) 778 ∧ (0 ≤ (v_302 0 a0 778 d) ∧ (v_302 0 a0 778 d) ≤ 3) ∧ OPR d (g_302 0 a0 778 d) (g_187 769 a0 (g_302 0 a0 778 d)) (v_302 0 a0 778 d) (v_187 769 a0 (g_302 0 a0 778 d)) := by
  have hg := h.1.2.2.1.1
  have pw := p_302 (E := E) (d := d) (x0 := 0) (x1 := a0) (x2 := 778) h.1.1 rfl rfl h0 ⟨hT.t 10 0 (by decide), trivial, hT.t 30 778 (by decide), trivial⟩ h.1.2.1
  have hS1 := pw.2.2.2
  have hh1 := pw.1
  have F1 := pw.2.2.1
  have e70 : (g_302 0 a0 778 d) 770 = d 770 := F1 770 (by decide)
  have pr := p_187 (E := E) (d := (g_302 0 a0 778 d)) (x0 := 769) (x1 := a0) hS1 rfl h0 ⟨hT.t 11 769 (by decide), trivial, trivial⟩ hh1
  have hS2 := pr.2.2.2
  have hh2 := pr.1
  have e78 : (g_187 769 a0 (g_302 0 a0 778 d)) 778 = (g_302 0 a0 778 d) 778 := pr.2.2.1 778 (by decide)
  have rv := pw.2.1
  have op : OPR d (g_302 0 a0 778 d) (g_187 769 a0 (g_302 0 a0 778 d)) (v_302 0 a0 778 d) (v_187 769 a0 (g_302 0 a0 778 d)) := opTrunc h.1.2.2
  exact ⟨hS1, e70, ⟨⟨hS2, hh2, op.1⟩, op.2.2.2 h.2⟩, e78, rv, op⟩
theorem iv_2 {E : mO × tW} {d : mD}  (hT : TKL E) (h : Inv2 E d) : Safe (g_303 0 778 d) ∧ (g_303 0 778 d) 770 = d 770 ∧ Inv2 E (g_207 769 (g_303 0 778 d)) ∧ (g_207 769 (g_303 0 778 d)) 778 = (g_303 0 778 d) 778 ∧ (0 ≤ (v_303 0 778 d) ∧ (v_303 0 778 d) ≤ 3) ∧ OPR d (g_303 0 778 d) (g_207 769 (g_303 0 778 d)) (v_303 0 778 d) (v_207 769 (g_303 0 778 d)) := by
  have hg := h.1.2.2.1.1
  have pw := p_303 (E := E) (d := d) (x0 := 0) (x1 := 778) hT.1 hT.2.1 h.1.1 rfl rfl ⟨hT.t 10 0 (by decide), hT.t 30 778 (by decide), trivial⟩ h.1.2.1
  have hS1 := pw.2.2.2
  have hh1 := pw.1
  have F1 := pw.2.2.1
  have e70 : (g_303 0 778 d) 770 = d 770 := F1 770 (by decide)
  have pr := p_207 (E := E) (d := (g_303 0 778 d)) (x0 := 769) hS1 rfl ⟨hT.t 11 769 (by decide), trivial⟩ hh1
  have hS2 := pr.2.2
  have hh2 := pr.1
  have e78 : (g_207 769 (g_303 0 778 d)) 778 = (g_303 0 778 d) 778 := pr.2.1 778 (by decide)
  have rv := pw.2.1
  have op : OPR d (g_303 0 778 d) (g_207 769 (g_303 0 778 d)) (v_303 0 778 d) (v_207 769 (g_303 0 778 d)) := opLoad hT h.1
  exact ⟨hS1, e70, ⟨⟨hS2, hh2, op.1⟩, op.2.2.2 h.2⟩, e78, rv, op⟩
theorem iv_3 {E : mO × tW} {d : mD}  (hT : TKL E) (h : Inv2 E d) : Safe d ∧ d 770 = d 770 ∧ Inv2 E (g_208 769 d) ∧ (g_208 769 d) 778 = d 778 := by
  have hg := h.1.2.2.1.1
  have hS1 := h.1.1
  have hh1 := h.1.2.1
  have e70 : d 770 = d 770 := rfl
  have pr := p_208 (E := E) (d := d) (x0 := 769) hS1 rfl ⟨hT.t 11 769 (by decide), trivial⟩ hh1
  have hS2 := pr.2.2
  have hh2 := pr.1
  have e78 : (g_208 769 d) 778 = d 778 := pr.2.1 778 (by decide)
  have q : QR d (g_208 769 d) := q_208.qr
  exact ⟨hS1, e70, ⟨⟨hS2, hh2, h.1.2.2.qr (fun _ _ _ _ => rfl) q⟩, q.rp h.2 rfl rfl (fun _ _ => rfl)⟩, e78⟩
theorem iv_4 {E : mO × tW} {d : mD}  (hT : TKL E) (h : Inv2 E d) : Safe d ∧ d 770 = d 770 ∧ Inv2 E (g_209 769 d) ∧ (g_209 769 d) 778 = d 778 := by
  have hg := h.1.2.2.1.1
  have hS1 := h.1.1
  have hh1 := h.1.2.1
  have e70 : d 770 = d 770 := rfl
  have pr := p_209 (E := E) (d := d) (x0 := 769) hS1 rfl ⟨hT.t 11 769 (by decide), trivial⟩ hh1
  have hS2 := pr.2.2
  have hh2 := pr.1
  have e78 : (g_209 769 d) 778 = d 778 := pr.2.1 778 (by decide)
  have q : QR d (g_209 769 d) := q_209.qr
  exact ⟨hS1, e70, ⟨⟨hS2, hh2, h.1.2.2.qr (fun _ _ _ _ => rfl) q⟩, q.rp h.2 rfl rfl (fun _ _ => rfl)⟩, e78⟩
theorem iv_5 {E : mO × tW} {d : mD} {a0 : Int} (hT : TKL E) (h : Inv2 E d) (h0 : 0 ≤ a0 ∧ a0 ≤ 1) : Safe (g_304 0 a0 778 d) ∧ (g_304 0 a0 778 d) 770 = d 770 ∧ Inv2 E (g_211 769 a0 (g_304 0 a0 778 d)) ∧ (g_211 769 a0 (g_304 0 a0 778 d)) 778 = (g_304 0 a0 778 d) 778 ∧ (0 ≤ (v_304 0 a0 778 d) ∧ (v_304 0 a0 778 d) ≤ 3) ∧ OPR d (g_304 0 a0 778 d) (g_211 769 a0 (g_304 0 a0 778 d)) (v_304 0 a0 778 d) (v_211 769 a0 (g_304 0 a0 778 d)) := by
  have hg := h.1.2.2.1.1
  have pw := p_304 (E := E) (d := d) (x0 := 0) (x1 := a0) (x2 := 778) h.1.1 rfl rfl ⟨by omega, by omega⟩ ⟨hT.t 10 0 (by decide), trivial, hT.t 30 778 (by decide), trivial⟩ h.1.2.1
  have hS1 := pw.2.2.2
  have hh1 := pw.1
  have F1 := pw.2.2.1
  have e70 : (g_304 0 a0 778 d) 770 = d 770 := F1 770 (by decide)
  have pr := p_211 (E := E) (d := (g_304 0 a0 778 d)) (x0 := 769) (x1 := a0) hS1 rfl h0 ⟨hT.t 11 769 (by decide), trivial, trivial⟩ hh1
  have hS2 := pr.2.2
  have hh2 := pr.1
  have e78 : (g_211 769 a0 (g_304 0 a0 778 d)) 778 = (g_304 0 a0 778 d) 778 := pr.2.1 778 (by decide)
  have rv := pw.2.1
  have op : OPR d (g_304 0 a0 778 d) (g_211 769 a0 (g_304 0 a0 778 d)) (v_304 0 a0 778 d) (v_211 769 a0 (g_304 0 a0 778 d)) := opFind h.1.2.2
  exact ⟨hS1, e70, ⟨⟨hS2, hh2, op.1⟩, op.2.2.2 h.2⟩, e78, rv, op⟩
theorem iv_6 {E : mO × tW} {d : mD} {a0 : Int} (hT : TKL E) (h : Inv2 E d) (h0 : inI a0) : Safe (g_305 0 a0 778 d) ∧ (g_305 0 a0 778 d) 770 = d 770 ∧ Inv2 E (g_239 769 a0 (g_305 0 a0 778 d)) ∧ (g_239 769 a0 (g_305 0 a0 778 d)) 778 = (g_305 0 a0 778 d) 778 ∧ (0 ≤ (v_305 0 a0 778 d) ∧ (v_305 0 a0 778 d) ≤ 3) := by
  have hg := h.1.2.2.1.1
  have pw := p_305 (E := E) (d := d) (x0 := 0) (x1 := a0) (x2 := 778) h.1.1 rfl rfl h0 ⟨hT.t 10 0 (by decide), trivial, hT.t 30 778 (by decide), trivial⟩ h.1.2.1
  have hS1 := pw.2.2.2
  have hh1 := pw.1
  have F1 := pw.2.2.1
  have e70 : (g_305 0 a0 778 d) 770 = d 770 := F1 770 (by decide)
  have pr := p_239 (E := E) (d := (g_305 0 a0 778 d)) (x0 := 769) (x1 := a0) hS1 rfl h0 ⟨hT.t 11 769 (by decide), trivial, trivial⟩ hh1
  have hS2 := pr.2.2
  have hh2 := pr.1
  have e78 : (g_239 769 a0 (g_305 0 a0 778 d)) 778 = (g_305 0 a0 778 d) 778 := pr.2.1 778 (by decide)
  have rv := pw.2.1
  have q : QR (g_305 0 a0 778 d) (g_239 769 a0 (g_305 0 a0 778 d)) := q_239.qr
  have c : QC d (g_305 0 a0 778 d) := fun b x y z => F1 b (by omega)
  exact ⟨hS1, e70, ⟨⟨hS2, hh2, h.1.2.2.qr c q⟩, q.rp h.2 e70 (by rw [F1 769 (by decide)]) (fun b hb => F1 b (by omega))⟩, e78, rv⟩
theorem iv_7 {E : mO × tW} {d : mD} {a0 : Int} (hT : TKL E) (h : Inv2 E d) (h0 : inI a0) : Safe (g_306 0 a0 778 d) ∧ (g_306 0 a0 778 d) 770 = d 770 ∧ Inv2 E (g_240 769 a0 (g_306 0 a0 778 d)) ∧ (g_240 769 a0 (g_306 0 a0 778 d)) 778 = (g_306 0 a0 778 d) 778 ∧ (0 ≤ (v_306 0 a0 778 d) ∧ (v_306 0 a0 778 d) ≤ 3) := by
  have hg := h.1.2.2.1.1
  have pw := p_306 (E := E) (d := d) (x0 := 0) (x1 := a0) (x2 := 778) h.1.1 rfl rfl h0 ⟨hT.t 10 0 (by decide), trivial, hT.t 30 778 (by decide), trivial⟩ h.1.2.1
  have hS1 := pw.2.2.2
  have hh1 := pw.1
  have F1 := pw.2.2.1
  have e70 : (g_306 0 a0 778 d) 770 = d 770 := F1 770 (by decide)
  have pr := p_240 (E := E) (d := (g_306 0 a0 778 d)) (x0 := 769) (x1 := a0) hS1 rfl h0 ⟨hT.t 11 769 (by decide), trivial, trivial⟩ hh1
  have hS2 := pr.2.2
  have hh2 := pr.1
  have e78 : (g_240 769 a0 (g_306 0 a0 778 d)) 778 = (g_306 0 a0 778 d) 778 := pr.2.1 778 (by decide)
  have rv := pw.2.1
  have q : QR (g_306 0 a0 778 d) (g_240 769 a0 (g_306 0 a0 778 d)) := q_240.qr
  have c : QC d (g_306 0 a0 778 d) := fun b x y z => F1 b (by omega)
  exact ⟨hS1, e70, ⟨⟨hS2, hh2, h.1.2.2.qr c q⟩, q.rp h.2 e70 (by rw [F1 769 (by decide)]) (fun b hb => F1 b (by omega))⟩, e78, rv⟩
theorem iv_8 {E : mO × tW} {d : mD} {a0 : Int} {a1 : Int} (hT : TKL E) (h : Inv2 E d) (h0 : inI a0) (h1 : inI a1) : Safe (g_307 0 a0 a1 778 d) ∧ (g_307 0 a0 a1 778 d) 770 = d 770 ∧ Inv2 E (g_241 769 a0 a1 (g_307 0 a0 a1 778 d)) ∧ (g_241 769 a0 a1 (g_307 0 a0 a1 778 d)) 778 = (g_307 0 a0 a1 778 d) 778 ∧ (0 ≤ (v_307 0 a0 a1 778 d) ∧ (v_307 0 a0 a1 778 d) ≤ 3) := by
  have hg := h.1.2.2.1.1
  have pw := p_307 (E := E) (d := d) (x0 := 0) (x1 := a0) (x2 := a1) (x3 := 778) h.1.1 rfl rfl h0 h1 ⟨hT.t 10 0 (by decide), trivial, trivial, hT.t 30 778 (by decide), trivial⟩ h.1.2.1
  have hS1 := pw.2.2.2
  have hh1 := pw.1
  have F1 := pw.2.2.1
  have e70 : (g_307 0 a0 a1 778 d) 770 = d 770 := F1 770 (by decide)
  have pr := p_241 (E := E) (d := (g_307 0 a0 a1 778 d)) (x0 := 769) (x1 := a0) (x2 := a1) hS1 rfl h0 h1 ⟨hT.t 11 769 (by decide), trivial, trivial, trivial⟩ hh1
  have hS2 := pr.2.2
  have hh2 := pr.1
  have e78 : (g_241 769 a0 a1 (g_307 0 a0 a1 778 d)) 778 = (g_307 0 a0 a1 778 d) 778 := pr.2.1 778 (by decide)
  have rv := pw.2.1
  have q : QR (g_307 0 a0 a1 778 d) (g_241 769 a0 a1 (g_307 0 a0 a1 778 d)) := q_241.qr
  have c : QC d (g_307 0 a0 a1 778 d) := fun b x y z => F1 b (by omega)
  exact ⟨hS1, e70, ⟨⟨hS2, hh2, h.1.2.2.qr c q⟩, q.rp h.2 e70 (by rw [F1 769 (by decide)]) (fun b hb => F1 b (by omega))⟩, e78, rv⟩
theorem iv_9 {E : mO × tW} {d : mD} {a0 : Int} {a1 : Int} (hT : TKL E) (h : Inv2 E d) (h0 : inI a0) (h1 : inI a1) : Safe (g_308 0 a0 a1 778 d) ∧ (g_308 0 a0 a1 778 d) 770 = d 770 ∧ Inv2 E (g_242 769 a0 a1 (g_308 0 a0 a1 778 d)) ∧ (g_242 769 a0 a1 (g_308 0 a0 a1 778 d)) 778 = (g_308 0 a0 a1 778 d) 778 ∧ (0 ≤ (v_308 0 a0 a1 778 d) ∧ (v_308 0 a0 a1 778 d) ≤ 3) := by
  have hg := h.1.2.2.1.1
  have pw := p_308 (E := E) (d := d) (x0 := 0) (x1 := a0) (x2 := a1) (x3 := 778) h.1.1 rfl rfl h0 h1 ⟨hT.t 10 0 (by decide), trivial, trivial, hT.t 30 778 (by decide), trivial⟩ h.1.2.1
  have hS1 := pw.2.2.2
  have hh1 := pw.1
  have F1 := pw.2.2.1
  have e70 : (g_308 0 a0 a1 778 d) 770 = d 770 := F1 770 (by decide)
  have pr := p_242 (E := E) (d := (g_308 0 a0 a1 778 d)) (x0 := 769) (x1 := a0) (x2 := a1) hS1 rfl h0 h1 ⟨hT.t 11 769 (by decide), trivial, trivial, trivial⟩ hh1
  have hS2 := pr.2.2
  have hh2 := pr.1
  have e78 : (g_242 769 a0 a1 (g_308 0 a0 a1 778 d)) 778 = (g_308 0 a0 a1 778 d) 778 := pr.2.1 778 (by decide)
  have rv := pw.2.1
  have q : QR (g_308 0 a0 a1 778 d) (g_242 769 a0 a1 (g_308 0 a0 a1 778 d)) := q_242.qr
  have c : QC d (g_308 0 a0 a1 778 d) := fun b x y z => F1 b (by omega)
  exact ⟨hS1, e70, ⟨⟨hS2, hh2, h.1.2.2.qr c q⟩, q.rp h.2 e70 (by rw [F1 769 (by decide)]) (fun b hb => F1 b (by omega))⟩, e78, rv⟩
theorem iv_10 {E : mO × tW} {d : mD} {a0 : Int} {a1 : Int} (hT : TKL E) (h : Inv2 E d) (h0 : inI a0) (h1 : inI a1) : Safe (g_309 0 a0 a1 778 d) ∧ (g_309 0 a0 a1 778 d) 770 = d 770 ∧ Inv2 E (g_246 769 a0 a1 (g_309 0 a0 a1 778 d)) ∧ (g_246 769 a0 a1 (g_309 0 a0 a1 778 d)) 778 = (g_309 0 a0 a1 778 d) 778 ∧ (0 ≤ (v_309 0 a0 a1 778 d) ∧ (v_309 0 a0 a1 778 d) ≤ 3) := by
  have hg := h.1.2.2.1.1
  have pw := p_309 (E := E) (d := d) (x0 := 0) (x1 := a0) (x2 := a1) (x3 := 778) h.1.1 rfl rfl h0 h1 (puI h.1.2.2.1) ⟨hT.t 10 0 (by decide), trivial, trivial, hT.t 30 778 (by decide), trivial⟩ h.1.2.1
  have hS1 := pw.2.2.2
  have hh1 := pw.1
  have F1 := pw.2.2.1
  have e70 : (g_309 0 a0 a1 778 d) 770 = d 770 := F1 770 (by decide)
  have pr := p_246 (E := E) (d := (g_309 0 a0 a1 778 d)) (x0 := 769) (x1 := a0) (x2 := a1) hS1 rfl h0 h1 ⟨hT.t 11 769 (by decide), trivial, trivial, trivial⟩ hh1
  have hS2 := pr.2.2
  have hh2 := pr.1
  have e78 : (g_246 769 a0 a1 (g_309 0 a0 a1 778 d)) 778 = (g_309 0 a0 a1 778 d) 778 := pr.2.1 778 (by decide)
  have rv := pw.2.1
  have q : QR (g_309 0 a0 a1 778 d) (g_246 769 a0 a1 (g_309 0 a0 a1 778 d)) := q_246.qr
  have c : QC d (g_309 0 a0 a1 778 d) := fun b x y z => F1 b (by omega)
  exact ⟨hS1, e70, ⟨⟨hS2, hh2, h.1.2.2.qr c q⟩, q.rp h.2 e70 (by rw [F1 769 (by decide)]) (fun b hb => F1 b (by omega))⟩, e78, rv⟩
theorem iv_11 {E : mO × tW} {d : mD} {a0 : Int} {a1 : Int} (hT : TKL E) (h : Inv2 E d) (h0 : inI a0) (h1 : inI a1) : Safe (g_310 0 a0 a1 778 d) ∧ (g_310 0 a0 a1 778 d) 770 = d 770 ∧ Inv2 E (g_247 769 a0 a1 (g_310 0 a0 a1 778 d)) ∧ (g_247 769 a0 a1 (g_310 0 a0 a1 778 d)) 778 = (g_310 0 a0 a1 778 d) 778 ∧ (0 ≤ (v_310 0 a0 a1 778 d) ∧ (v_310 0 a0 a1 778 d) ≤ 3) := by
  have hg := h.1.2.2.1.1
  have pw := p_310 (E := E) (d := d) (x0 := 0) (x1 := a0) (x2 := a1) (x3 := 778) h.1.1 rfl rfl h0 h1 ⟨hT.t 10 0 (by decide), trivial, trivial, hT.t 30 778 (by decide), trivial⟩ h.1.2.1
  have hS1 := pw.2.2.2
  have hh1 := pw.1
  have F1 := pw.2.2.1
  have e70 : (g_310 0 a0 a1 778 d) 770 = d 770 := F1 770 (by decide)
  have pr := p_247 (E := E) (d := (g_310 0 a0 a1 778 d)) (x0 := 769) (x1 := a0) (x2 := a1) hS1 rfl h0 h1 ⟨hT.t 11 769 (by decide), trivial, trivial, trivial⟩ hh1
  have hS2 := pr.2.2
  have hh2 := pr.1
  have e78 : (g_247 769 a0 a1 (g_310 0 a0 a1 778 d)) 778 = (g_310 0 a0 a1 778 d) 778 := pr.2.1 778 (by decide)
  have rv := pw.2.1
  have q : QR (g_310 0 a0 a1 778 d) (g_247 769 a0 a1 (g_310 0 a0 a1 778 d)) := q_247.qr
  have c : QC d (g_310 0 a0 a1 778 d) := fun b x y z => F1 b (by omega)
  exact ⟨hS1, e70, ⟨⟨hS2, hh2, h.1.2.2.qr c q⟩, q.rp h.2 e70 (by rw [F1 769 (by decide)]) (fun b hb => F1 b (by omega))⟩, e78, rv⟩
theorem iv_12 {E : mO × tW} {d : mD} {a0 : Int} {a1 : Int} (hT : TKL E) (h : Inv2 E d) (h0 : inI a0) (h1 : inI a1) : Safe (g_311 0 a0 a1 778 d) ∧ (g_311 0 a0 a1 778 d) 770 = d 770 ∧ Inv2 E (g_248 769 a0 a1 (g_311 0 a0 a1 778 d)) ∧ (g_248 769 a0 a1 (g_311 0 a0 a1 778 d)) 778 = (g_311 0 a0 a1 778 d) 778 ∧ (0 ≤ (v_311 0 a0 a1 778 d) ∧ (v_311 0 a0 a1 778 d) ≤ 3) := by
  have hg := h.1.2.2.1.1
  have pw := p_311 (E := E) (d := d) (x0 := 0) (x1 := a0) (x2 := a1) (x3 := 778) h.1.1 rfl rfl h0 h1 ⟨hT.t 10 0 (by decide), trivial, trivial, hT.t 30 778 (by decide), trivial⟩ h.1.2.1
  have hS1 := pw.2.2.2
  have hh1 := pw.1
  have F1 := pw.2.2.1
  have e70 : (g_311 0 a0 a1 778 d) 770 = d 770 := F1 770 (by decide)
  have pr := p_248 (E := E) (d := (g_311 0 a0 a1 778 d)) (x0 := 769) (x1 := a0) (x2 := a1) hS1 rfl h0 h1 ⟨hT.t 11 769 (by decide), trivial, trivial, trivial⟩ hh1
  have hS2 := pr.2.2
  have hh2 := pr.1
  have e78 : (g_248 769 a0 a1 (g_311 0 a0 a1 778 d)) 778 = (g_311 0 a0 a1 778 d) 778 := pr.2.1 778 (by decide)
  have rv := pw.2.1
  have q : QR (g_311 0 a0 a1 778 d) (g_248 769 a0 a1 (g_311 0 a0 a1 778 d)) := q_248.qr
  have c : QC d (g_311 0 a0 a1 778 d) := fun b x y z => F1 b (by omega)
  exact ⟨hS1, e70, ⟨⟨hS2, hh2, h.1.2.2.qr c q⟩, q.rp h.2 e70 (by rw [F1 769 (by decide)]) (fun b hb => F1 b (by omega))⟩, e78, rv⟩
theorem iv_13 {E : mO × tW} {d : mD} {a0 : Int} {a1 : Int} (hT : TKL E) (h : Inv2 E d) (h0 : inI a0) (h1 : inI a1) : Safe (g_312 0 a0 a1 778 d) ∧ (g_312 0 a0 a1 778 d) 770 = d 770 ∧ Inv2 E (g_249 769 a0 a1 (g_312 0 a0 a1 778 d)) ∧ (g_249 769 a0 a1 (g_312 0 a0 a1 778 d)) 778 = (g_312 0 a0 a1 778 d) 778 ∧ (0 ≤ (v_312 0 a0 a1 778 d) ∧ (v_312 0 a0 a1 778 d) ≤ 3) := by
  have hg := h.1.2.2.1.1
  have pw := p_312 (E := E) (d := d) (x0 := 0) (x1 := a0) (x2 := a1) (x3 := 778) h.1.1 rfl rfl h0 h1 ⟨hT.t 10 0 (by decide), trivial, trivial, hT.t 30 778 (by decide), trivial⟩ h.1.2.1
  have hS1 := pw.2.2.2
  have hh1 := pw.1
  have F1 := pw.2.2.1
  have e70 : (g_312 0 a0 a1 778 d) 770 = d 770 := F1 770 (by decide)
  have pr := p_249 (E := E) (d := (g_312 0 a0 a1 778 d)) (x0 := 769) (x1 := a0) (x2 := a1) hS1 rfl h0 h1 ⟨hT.t 11 769 (by decide), trivial, trivial, trivial⟩ hh1
  have hS2 := pr.2.2.2
  have hh2 := pr.1
  have e78 : (g_249 769 a0 a1 (g_312 0 a0 a1 778 d)) 778 = (g_312 0 a0 a1 778 d) 778 := pr.2.2.1 778 (by decide)
  have rv := pw.2.1
  have q : QR (g_312 0 a0 a1 778 d) (g_249 769 a0 a1 (g_312 0 a0 a1 778 d)) := q_249.qr
  have c : QC d (g_312 0 a0 a1 778 d) := fun b x y z => F1 b (by omega)
  exact ⟨hS1, e70, ⟨⟨hS2, hh2, h.1.2.2.qr c q⟩, q.rp h.2 e70 (by rw [F1 769 (by decide)]) (fun b hb => F1 b (by omega))⟩, e78, rv⟩
theorem iv_14 {E : mO × tW} {d : mD} {a0 : Int} {a1 : Int} (hT : TKL E) (h : Inv2 E d) (h0 : inI a0) (h1 : inI a1) : Safe (g_313 0 a0 a1 778 d) ∧ (g_313 0 a0 a1 778 d) 770 = d 770 ∧ Inv2 E (g_251 769 a0 a1 (g_313 0 a0 a1 778 d)) ∧ (g_251 769 a0 a1 (g_313 0 a0 a1 778 d)) 778 = (g_313 0 a0 a1 778 d) 778 ∧ (0 ≤ (v_313 0 a0 a1 778 d) ∧ (v_313 0 a0 a1 778 d) ≤ 3) := by
  have hg := h.1.2.2.1.1
  have pw := p_313 (E := E) (d := d) (x0 := 0) (x1 := a0) (x2 := a1) (x3 := 778) h.1.1 rfl rfl h0 h1 ⟨hT.t 10 0 (by decide), trivial, trivial, hT.t 30 778 (by decide), trivial⟩ h.1.2.1
  have hS1 := pw.2.2.2
  have hh1 := pw.1
  have F1 := pw.2.2.1
  have e70 : (g_313 0 a0 a1 778 d) 770 = d 770 := F1 770 (by decide)
  have pr := p_251 (E := E) (d := (g_313 0 a0 a1 778 d)) (x0 := 769) (x1 := a0) (x2 := a1) hS1 rfl h0 h1 ⟨hT.t 11 769 (by decide), trivial, trivial, trivial⟩ hh1
  have hS2 := pr.2.2
  have hh2 := pr.1
  have e78 : (g_251 769 a0 a1 (g_313 0 a0 a1 778 d)) 778 = (g_313 0 a0 a1 778 d) 778 := pr.2.1 778 (by decide)
  have rv := pw.2.1
  have q : QR (g_313 0 a0 a1 778 d) (g_251 769 a0 a1 (g_313 0 a0 a1 778 d)) := q_251.qr
  have c : QC d (g_313 0 a0 a1 778 d) := fun b x y z => F1 b (by omega)
  exact ⟨hS1, e70, ⟨⟨hS2, hh2, h.1.2.2.qr c q⟩, q.rp h.2 e70 (by rw [F1 769 (by decide)]) (fun b hb => F1 b (by omega))⟩, e78, rv⟩
theorem iv_15 {E : mO × tW} {d : mD} {a0 : Int} {a1 : Int} (hT : TKL E) (h : Inv2 E d) (h0 : inI a0) (h1 : inI a1) : Safe (g_314 0 a0 a1 778 d) ∧ (g_314 0 a0 a1 778 d) 770 = d 770 ∧ Inv2 E (g_252 769 a0 a1 (g_314 0 a0 a1 778 d)) ∧ (g_252 769 a0 a1 (g_314 0 a0 a1 778 d)) 778 = (g_314 0 a0 a1 778 d) 778 ∧ (0 ≤ (v_314 0 a0 a1 778 d) ∧ (v_314 0 a0 a1 778 d) ≤ 3) := by
  have hg := h.1.2.2.1.1
  have pw := p_314 (E := E) (d := d) (x0 := 0) (x1 := a0) (x2 := a1) (x3 := 778) h.1.1 rfl rfl h0 h1 ⟨hT.t 10 0 (by decide), trivial, trivial, hT.t 30 778 (by decide), trivial⟩ h.1.2.1
  have hS1 := pw.2.2.2
  have hh1 := pw.1
  have F1 := pw.2.2.1
  have e70 : (g_314 0 a0 a1 778 d) 770 = d 770 := F1 770 (by decide)
  have pr := p_252 (E := E) (d := (g_314 0 a0 a1 778 d)) (x0 := 769) (x1 := a0) (x2 := a1) hS1 rfl h0 h1 ⟨hT.t 11 769 (by decide), trivial, trivial, trivial⟩ hh1
  have hS2 := pr.2.2
  have hh2 := pr.1
  have e78 : (g_252 769 a0 a1 (g_314 0 a0 a1 778 d)) 778 = (g_314 0 a0 a1 778 d) 778 := pr.2.1 778 (by decide)
  have rv := pw.2.1
  have q : QR (g_314 0 a0 a1 778 d) (g_252 769 a0 a1 (g_314 0 a0 a1 778 d)) := q_252.qr
  have c : QC d (g_314 0 a0 a1 778 d) := fun b x y z => F1 b (by omega)
  exact ⟨hS1, e70, ⟨⟨hS2, hh2, h.1.2.2.qr c q⟩, q.rp h.2 e70 (by rw [F1 769 (by decide)]) (fun b hb => F1 b (by omega))⟩, e78, rv⟩
theorem iv_16 {E : mO × tW} {d : mD} {a0 : Int} {a1 : Int} (hT : TKL E) (h : Inv2 E d) (h0 : inI a0) (h1 : inI a1) : Safe (g_315 0 a0 a1 778 d) ∧ (g_315 0 a0 a1 778 d) 770 = d 770 ∧ Inv2 E (g_253 769 a0 a1 (g_315 0 a0 a1 778 d)) ∧ (g_253 769 a0 a1 (g_315 0 a0 a1 778 d)) 778 = (g_315 0 a0 a1 778 d) 778 ∧ (0 ≤ (v_315 0 a0 a1 778 d) ∧ (v_315 0 a0 a1 778 d) ≤ 3) := by
  have hg := h.1.2.2.1.1
  have pw := p_315 (E := E) (d := d) (x0 := 0) (x1 := a0) (x2 := a1) (x3 := 778) h.1.1 rfl rfl h0 h1 ⟨hT.t 10 0 (by decide), trivial, trivial, hT.t 30 778 (by decide), trivial⟩ h.1.2.1
  have hS1 := pw.2.2.2
  have hh1 := pw.1
  have F1 := pw.2.2.1
  have e70 : (g_315 0 a0 a1 778 d) 770 = d 770 := F1 770 (by decide)
  have pr := p_253 (E := E) (d := (g_315 0 a0 a1 778 d)) (x0 := 769) (x1 := a0) (x2 := a1) hS1 rfl h0 h1 ⟨hT.t 11 769 (by decide), trivial, trivial, trivial⟩ hh1
  have hS2 := pr.2.2
  have hh2 := pr.1
  have e78 : (g_253 769 a0 a1 (g_315 0 a0 a1 778 d)) 778 = (g_315 0 a0 a1 778 d) 778 := pr.2.1 778 (by decide)
  have rv := pw.2.1
  have q : QR (g_315 0 a0 a1 778 d) (g_253 769 a0 a1 (g_315 0 a0 a1 778 d)) := q_253.qr
  have c : QC d (g_315 0 a0 a1 778 d) := fun b x y z => F1 b (by omega)
  exact ⟨hS1, e70, ⟨⟨hS2, hh2, h.1.2.2.qr c q⟩, q.rp h.2 e70 (by rw [F1 769 (by decide)]) (fun b hb => F1 b (by omega))⟩, e78, rv⟩
theorem iv_17 {E : mO × tW} {d : mD} {a0 : Int} {a1 : Int} (hT : TKL E) (h : Inv2 E d) (h0 : inI a0) (h1 : inI a1) : Safe (g_316 0 a0 a1 778 d) ∧ (g_316 0 a0 a1 778 d) 770 = d 770 ∧ Inv2 E (g_254 769 a0 a1 (g_316 0 a0 a1 778 d)) ∧ (g_254 769 a0 a1 (g_316 0 a0 a1 778 d)) 778 = (g_316 0 a0 a1 778 d) 778 ∧ (0 ≤ (v_316 0 a0 a1 778 d) ∧ (v_316 0 a0 a1 778 d) ≤ 3) := by
  have hg := h.1.2.2.1.1
  have pw := p_316 (E := E) (d := d) (x0 := 0) (x1 := a0) (x2 := a1) (x3 := 778) h.1.1 rfl rfl h0 h1 ⟨hT.t 10 0 (by decide), trivial, trivial, hT.t 30 778 (by decide), trivial⟩ h.1.2.1
  have hS1 := pw.2.2.2
  have hh1 := pw.1
  have F1 := pw.2.2.1
  have e70 : (g_316 0 a0 a1 778 d) 770 = d 770 := F1 770 (by decide)
  have pr := p_254 (E := E) (d := (g_316 0 a0 a1 778 d)) (x0 := 769) (x1 := a0) (x2 := a1) hS1 rfl h0 h1 ⟨hT.t 11 769 (by decide), trivial, trivial, trivial⟩ hh1
  have hS2 := pr.2.2.2
  have hh2 := pr.1
  have e78 : (g_254 769 a0 a1 (g_316 0 a0 a1 778 d)) 778 = (g_316 0 a0 a1 778 d) 778 := pr.2.2.1 778 (by decide)
  have rv := pw.2.1
  have q : QR (g_316 0 a0 a1 778 d) (g_254 769 a0 a1 (g_316 0 a0 a1 778 d)) := q_254.qr
  have c : QC d (g_316 0 a0 a1 778 d) := fun b x y z => F1 b (by omega)
  exact ⟨hS1, e70, ⟨⟨hS2, hh2, h.1.2.2.qr c q⟩, q.rp h.2 e70 (by rw [F1 769 (by decide)]) (fun b hb => F1 b (by omega))⟩, e78, rv⟩
theorem iv_18 {E : mO × tW} {d : mD} {a0 : Int} (hT : TKL E) (h : Inv2 E d) (h0 : inI a0) : Safe (g_317 0 a0 778 d) ∧ (g_317 0 a0 778 d) 770 = d 770 ∧ Inv2 E (g_257 769 a0 (g_317 0 a0 778 d)) ∧ (g_257 769 a0 (g_317 0 a0 778 d)) 778 = (g_317 0 a0 778 d) 778 ∧ (0 ≤ (v_317 0 a0 778 d) ∧ (v_317 0 a0 778 d) ≤ 3) := by
  have hg := h.1.2.2.1.1
  have pw := p_317 (E := E) (d := d) (x0 := 0) (x1 := a0) (x2 := 778) h.1.1 rfl rfl h0 ⟨hT.t 10 0 (by decide), trivial, hT.t 30 778 (by decide), trivial⟩ h.1.2.1
  have hS1 := pw.2.2.2
  have hh1 := pw.1
  have F1 := pw.2.2.1
  have e70 : (g_317 0 a0 778 d) 770 = d 770 := F1 770 (by decide)
  have pr := p_257 (E := E) (d := (g_317 0 a0 778 d)) (x0 := 769) (x1 := a0) hS1 rfl h0 ⟨hT.t 11 769 (by decide), trivial, trivial⟩ hh1
  have hS2 := pr.2.2
  have hh2 := pr.1
  have e78 : (g_257 769 a0 (g_317 0 a0 778 d)) 778 = (g_317 0 a0 778 d) 778 := pr.2.1 778 (by decide)
  have rv := pw.2.1
  have q : QR (g_317 0 a0 778 d) (g_257 769 a0 (g_317 0 a0 778 d)) := q_257
  have c : QC d (g_317 0 a0 778 d) := fun b x y z => F1 b (by omega)
  exact ⟨hS1, e70, ⟨⟨hS2, hh2, h.1.2.2.qr c q⟩, q.rp h.2 e70 (by rw [F1 769 (by decide)]) (fun b hb => F1 b (by omega))⟩, e78, rv⟩
theorem iv_19 {E : mO × tW} {d : mD}  (hT : TKL E) (h : Inv2 E d) : Safe d ∧ d 770 = d 770 ∧ Inv2 E (g_258 769 d) ∧ (g_258 769 d) 778 = d 778 := by
  have hg := h.1.2.2.1.1
  have hS1 := h.1.1
  have hh1 := h.1.2.1
  have e70 : d 770 = d 770 := rfl
  have pr := p_258 (E := E) (d := d) (x0 := 769) hS1 rfl ⟨hT.t 11 769 (by decide), trivial⟩ hh1
  have hS2 := pr.2.2
  have hh2 := pr.1
  have e78 : (g_258 769 d) 778 = d 778 := pr.2.1 778 (by decide)
  have q : QR d (g_258 769 d) := q_258.qr
  exact ⟨hS1, e70, ⟨⟨hS2, hh2, h.1.2.2.qr (fun _ _ _ _ => rfl) q⟩, q.rp h.2 rfl rfl (fun _ _ => rfl)⟩, e78⟩
theorem iv_20 {E : mO × tW} {d : mD}  (hT : TKL E) (h : Inv2 E d) : Safe d ∧ d 770 = d 770 ∧ Inv2 E (g_259 769 d) ∧ (g_259 769 d) 778 = d 778 := by
  have hg := h.1.2.2.1.1
  have hS1 := h.1.1
  have hh1 := h.1.2.1
  have e70 : d 770 = d 770 := rfl
  have pr := p_259 (E := E) (d := d) (x0 := 769) hS1 rfl ⟨hT.t 11 769 (by decide), trivial⟩ hh1
  have hS2 := pr.2.2
  have hh2 := pr.1
  have e78 : (g_259 769 d) 778 = d 778 := pr.2.1 778 (by decide)
  have q : QR d (g_259 769 d) := q_259.qr
  exact ⟨hS1, e70, ⟨⟨hS2, hh2, h.1.2.2.qr (fun _ _ _ _ => rfl) q⟩, q.rp h.2 rfl rfl (fun _ _ => rfl)⟩, e78⟩
theorem iv_21 {E : mO × tW} {d : mD}  (hT : TKL E) (h : Inv2 E d) : Safe (g_139 0 d) ∧ (g_139 0 d) 770 = d 770 ∧ Inv2 E (g_260 769 (g_139 0 d)) ∧ (g_260 769 (g_139 0 d)) 778 = (g_139 0 d) 778 := by
  have hg := h.1.2.2.1.1
  have pw := p_139 (E := E) (d := d) (x0 := 0) h.1.1 rfl ⟨hT.t 10 0 (by decide), trivial⟩ h.1.2.1
  have hS1 := pw.2.2
  have hh1 := pw.1
  have F1 := pw.2.1
  have e70 : (g_139 0 d) 770 = d 770 := F1 770 (by decide)
  have pr := p_260 (E := E) (d := (g_139 0 d)) (x0 := 769) hS1 rfl ⟨hT.t 11 769 (by decide), trivial⟩ hh1
  have hS2 := pr.2.2
  have hh2 := pr.1
  have e78 : (g_260 769 (g_139 0 d)) 778 = (g_139 0 d) 778 := pr.2.1 778 (by decide)
  have q : QR (g_139 0 d) (g_260 769 (g_139 0 d)) := q_260.qr
  have c : QC d (g_139 0 d) := fun b x y z => F1 b (by omega)
  exact ⟨hS1, e70, ⟨⟨hS2, hh2, h.1.2.2.qr c q⟩, q.rp h.2 e70 (by rw [F1 769 (by decide)]) (fun b hb => F1 b (by omega))⟩, e78⟩
theorem iv_22 {E : mO × tW} {d : mD}  (hT : TKL E) (h : Inv2 E d) : Safe (g_140 0 d) ∧ (g_140 0 d) 770 = d 770 ∧ Inv2 E (g_261 769 (g_140 0 d)) ∧ (g_261 769 (g_140 0 d)) 778 = (g_140 0 d) 778 := by
  have hg := h.1.2.2.1.1
  have pw := p_140 (E := E) (d := d) (x0 := 0) h.1.1 rfl ⟨hT.t 10 0 (by decide), trivial⟩ h.1.2.1
  have hS1 := pw.2.2.2
  have hh1 := pw.1
  have F1 := pw.2.2.1
  have e70 : (g_140 0 d) 770 = d 770 := F1 770 (by decide)
  have pr := p_261 (E := E) (d := (g_140 0 d)) (x0 := 769) hS1 rfl ⟨hT.t 11 769 (by decide), trivial⟩ hh1
  have hS2 := pr.2.2
  have hh2 := pr.1
  have e78 : (g_261 769 (g_140 0 d)) 778 = (g_140 0 d) 778 := pr.2.1 778 (by decide)
  have q : QR (g_140 0 d) (g_261 769 (g_140 0 d)) := q_261.qr
  have c : QC d (g_140 0 d) := fun b x y z => F1 b (by omega)
  exact ⟨hS1, e70, ⟨⟨hS2, hh2, h.1.2.2.qr c q⟩, q.rp h.2 e70 (by rw [F1 769 (by decide)]) (fun b hb => F1 b (by omega))⟩, e78⟩
theorem iv_23 {E : mO × tW} {d : mD}  (hT : TKL E) (h : Inv2 E d) : Safe d ∧ d 770 = d 770 ∧ Inv2 E (g_262 769 d) ∧ (g_262 769 d) 778 = d 778 := by
  have hg := h.1.2.2.1.1
  have hS1 := h.1.1
  have hh1 := h.1.2.1
  have e70 : d 770 = d 770 := rfl
  have pr := p_262 (E := E) (d := d) (x0 := 769) hS1 rfl ⟨hT.t 11 769 (by decide), trivial⟩ hh1
  have hS2 := pr.2.2
  have hh2 := pr.1
  have e78 : (g_262 769 d) 778 = d 778 := pr.2.1 778 (by decide)
  have q : QR d (g_262 769 d) := q_262.qr
  exact ⟨hS1, e70, ⟨⟨hS2, hh2, h.1.2.2.qr (fun _ _ _ _ => rfl) q⟩, q.rp h.2 rfl rfl (fun _ _ => rfl)⟩, e78⟩
theorem iv_24 {E : mO × tW} {d : mD} {a0 : Int} (hT : TKL E) (h : Inv2 E d) (h0 : inI a0) : Safe (g_318 0 a0 778 d) ∧ (g_318 0 a0 778 d) 770 = d 770 ∧ Inv2 E (g_264 769 a0 (g_318 0 a0 778 d)) ∧ (g_264 769 a0 (g_318 0 a0 778 d)) 778 = (g_318 0 a0 778 d) 778 ∧ (0 ≤ (v_318 0 a0 778 d) ∧ (v_318 0 a0 778 d) ≤ 3) := by
  have hg := h.1.2.2.1.1
  have pw := p_318 (E := E) (d := d) (x0 := 0) (x1 := a0) (x2 := 778) h.1.1 rfl rfl h0 ⟨hT.t 10 0 (by decide), trivial, hT.t 30 778 (by decide), trivial⟩ h.1.2.1
  have hS1 := pw.2.2.2
  have hh1 := pw.1
  have F1 := pw.2.2.1
  have e70 : (g_318 0 a0 778 d) 770 = d 770 := F1 770 (by decide)
  have pr := p_264 (E := E) (d := (g_318 0 a0 778 d)) (x0 := 769) (x1 := a0) hS1 rfl h0 (by rw [n7691, e70]; exact mpI hg) (by rw [n7691, e70]; exact h.1.2.2.1.2.2.2.1) ⟨hT.t 11 769 (by decide), trivial, trivial⟩ hh1
  have hS2 := pr.2.2
  have hh2 := pr.1
  have e78 : (g_264 769 a0 (g_318 0 a0 778 d)) 778 = (g_318 0 a0 778 d) 778 := pr.2.1 778 (by decide)
  have rv := pw.2.1
  have q : QR (g_318 0 a0 778 d) (g_264 769 a0 (g_318 0 a0 778 d)) := q_264
  have c : QC d (g_318 0 a0 778 d) := fun b x y z => F1 b (by omega)
  exact ⟨hS1, e70, ⟨⟨hS2, hh2, h.1.2.2.qr c q⟩, q.rp h.2 e70 (by rw [F1 769 (by decide)]) (fun b hb => F1 b (by omega))⟩, e78, rv⟩
theorem iv_25 {E : mO × tW} {d : mD} {a0 : Int} {a1 : Int} (hT : TKL E) (h : Inv2 E d) (h0 : inI a0) (h1 : inI a1) : Safe (g_319 0 a0 a1 778 d) ∧ (g_319 0 a0 a1 778 d) 770 = d 770 ∧ Inv2 E (g_265 769 a0 a1 (g_319 0 a0 a1 778 d)) ∧ (g_265 769 a0 a1 (g_319 0 a0 a1 778 d)) 778 = (g_319 0 a0 a1 778 d) 778 ∧ (0 ≤ (v_319 0 a0 a1 778 d) ∧ (v_319 0 a0 a1 778 d) ≤ 3) := by
  have hg := h.1.2.2.1.1
  have pw := p_319 (E := E) (d := d) (x0 := 0) (x1 := a0) (x2 := a1) (x3 := 778) h.1.1 rfl rfl h0 h1 ⟨hT.t 10 0 (by decide), trivial, trivial, hT.t 30 778 (by decide), trivial⟩ h.1.2.1
  have hS1 := pw.2.2.2
  have hh1 := pw.1
  have F1 := pw.2.2.1
  have e70 : (g_319 0 a0 a1 778 d) 770 = d 770 := F1 770 (by decide)
  have pr := p_265 (E := E) (d := (g_319 0 a0 a1 778 d)) (x0 := 769) (x1 := a0) (x2 := a1) hS1 rfl h0 h1 (by rw [n7691, e70]; exact mpI hg) (by rw [n7691, e70]; exact h.1.2.2.1.2.2.2.1) ⟨hT.t 11 769 (by decide), trivial, trivial, trivial⟩ hh1
  have hS2 := pr.2.2
  have hh2 := pr.1
  have e78 : (g_265 769 a0 a1 (g_319 0 a0 a1 778 d)) 778 = (g_319 0 a0 a1 778 d) 778 := pr.2.1 778 (by decide)
  have rv := pw.2.1
  have q : QR (g_319 0 a0 a1 778 d) (g_265 769 a0 a1 (g_319 0 a0 a1 778 d)) := q_265
  have c : QC d (g_319 0 a0 a1 778 d) := fun b x y z => F1 b (by omega)
  exact ⟨hS1, e70, ⟨⟨hS2, hh2, h.1.2.2.qr c q⟩, q.rp h.2 e70 (by rw [F1 769 (by decide)]) (fun b hb => F1 b (by omega))⟩, e78, rv⟩
theorem iv_26 {E : mO × tW} {d : mD} {a0 : Int} (hT : TKL E) (h : Inv2 E d) (h0 : inI a0) : Safe (g_320 0 a0 778 d) ∧ (g_320 0 a0 778 d) 770 = d 770 ∧ Inv2 E (g_266 769 a0 (g_320 0 a0 778 d)) ∧ (g_266 769 a0 (g_320 0 a0 778 d)) 778 = (g_320 0 a0 778 d) 778 ∧ (0 ≤ (v_320 0 a0 778 d) ∧ (v_320 0 a0 778 d) ≤ 3) := by
  have hg := h.1.2.2.1.1
  have pw := p_320 (E := E) (d := d) (x0 := 0) (x1 := a0) (x2 := 778) h.1.1 rfl rfl h0 ⟨hT.t 10 0 (by decide), trivial, hT.t 30 778 (by decide), trivial⟩ h.1.2.1
  have hS1 := pw.2.2.2
  have hh1 := pw.1
  have F1 := pw.2.2.1
  have e70 : (g_320 0 a0 778 d) 770 = d 770 := F1 770 (by decide)
  have pr := p_266 (E := E) (d := (g_320 0 a0 778 d)) (x0 := 769) (x1 := a0) hS1 rfl h0 (by rw [n7691, e70]; exact mpI hg) (by rw [n7691, e70]; exact h.1.2.2.1.2.2.2.1) ⟨hT.t 11 769 (by decide), trivial, trivial⟩ hh1
  have hS2 := pr.2.2
  have hh2 := pr.1
  have e78 : (g_266 769 a0 (g_320 0 a0 778 d)) 778 = (g_320 0 a0 778 d) 778 := pr.2.1 778 (by decide)
  have rv := pw.2.1
  have q : QR (g_320 0 a0 778 d) (g_266 769 a0 (g_320 0 a0 778 d)) := q_266
  have c : QC d (g_320 0 a0 778 d) := fun b x y z => F1 b (by omega)
  exact ⟨hS1, e70, ⟨⟨hS2, hh2, h.1.2.2.qr c q⟩, q.rp h.2 e70 (by rw [F1 769 (by decide)]) (fun b hb => F1 b (by omega))⟩, e78, rv⟩
theorem iv_27 {E : mO × tW} {d : mD} {a0 : Int} (hT : TKL E) (h : Inv2 E d) (h0 : inI a0) : Safe (g_321 0 a0 778 d) ∧ (g_321 0 a0 778 d) 770 = d 770 ∧ Inv2 E (g_268 769 a0 (g_321 0 a0 778 d)) ∧ (g_268 769 a0 (g_321 0 a0 778 d)) 778 = (g_321 0 a0 778 d) 778 ∧ (0 ≤ (v_321 0 a0 778 d) ∧ (v_321 0 a0 778 d) ≤ 3) := by
  have hg := h.1.2.2.1.1
  have pw := p_321 (E := E) (d := d) (x0 := 0) (x1 := a0) (x2 := 778) h.1.1 rfl rfl h0 ⟨hT.t 10 0 (by decide), trivial, hT.t 30 778 (by decide), trivial⟩ h.1.2.1
  have hS1 := pw.2.2.2
  have hh1 := pw.1
  have F1 := pw.2.2.1
  have e70 : (g_321 0 a0 778 d) 770 = d 770 := F1 770 (by decide)
  have pr := pq_268 (E := E) (d := (g_321 0 a0 778 d)) (x0 := 769) (x1 := a0) hS1 rfl h0 (by rw [n7691, e70]; exact mpI hg) (by rw [n7691, e70]; exact h.1.2.2.1.2.2.2.1) (by rw [n7691, e70]; exact qoI hg) (by rw [n7691, e70]; exact hg.1.2.2.1.2) ⟨hT.t 11 769 (by decide), trivial, trivial⟩ hh1
  have hS2 := pr.2.2
  have hh2 := pr.1
  have e78 : (g_268 769 a0 (g_321 0 a0 778 d)) 778 = (g_321 0 a0 778 d) 778 := pr.2.1 778 (by decide)
  have rv := pw.2.1
  have q : QR (g_321 0 a0 778 d) (g_268 769 a0 (g_321 0 a0 778 d)) := q_268
  have c : QC d (g_321 0 a0 778 d) := fun b x y z => F1 b (by omega)
  exact ⟨hS1, e70, ⟨⟨hS2, hh2, h.1.2.2.qr c q⟩, q.rp h.2 e70 (by rw [F1 769 (by decide)]) (fun b hb => F1 b (by omega))⟩, e78, rv⟩
theorem iv_28 {E : mO × tW} {d : mD}  (hT : TKL E) (h : Inv2 E d) : Safe (g_322 0 778 d) ∧ (g_322 0 778 d) 770 = d 770 ∧ Inv2 E (g_269 769 (g_322 0 778 d)) ∧ (g_269 769 (g_322 0 778 d)) 778 = (g_322 0 778 d) 778 ∧ (0 ≤ (v_322 0 778 d) ∧ (v_322 0 778 d) ≤ 3) := by
  have hg := h.1.2.2.1.1
  have pw := p_322 (E := E) (d := d) (x0 := 0) (x1 := 778) h.1.1 rfl rfl ⟨hT.t 10 0 (by decide), hT.t 30 778 (by decide), trivial⟩ h.1.2.1
  have hS1 := pw.2.2.2
  have hh1 := pw.1
  have F1 := pw.2.2.1
  have e70 : (g_322 0 778 d) 770 = d 770 := F1 770 (by decide)
  have pr := pq_269 (E := E) (d := (g_322 0 778 d)) (x0 := 769) hS1 rfl (by rw [n7691, e70]; exact mpI hg) (by rw [n7691, e70]; exact h.1.2.2.1.2.2.2.1) (by rw [n7691, e70]; exact qoI hg) (by rw [n7691, e70]; exact hg.1.2.2.1.2) ⟨hT.t 11 769 (by decide), trivial⟩ hh1
  have hS2 := pr.2.2
  have hh2 := pr.1
  have e78 : (g_269 769 (g_322 0 778 d)) 778 = (g_322 0 778 d) 778 := pr.2.1 778 (by decide)
  have rv := pw.2.1
  have q : QR (g_322 0 778 d) (g_269 769 (g_322 0 778 d)) := q_269
  have c : QC d (g_322 0 778 d) := fun b x y z => F1 b (by omega)
  exact ⟨hS1, e70, ⟨⟨hS2, hh2, h.1.2.2.qr c q⟩, q.rp h.2 e70 (by rw [F1 769 (by decide)]) (fun b hb => F1 b (by omega))⟩, e78, rv⟩
theorem iv_29 {E : mO × tW} {d : mD} {a0 : Int} {a1 : Int} (hT : TKL E) (h : Inv2 E d) (h0 : inI a0) (h1 : inI a1) : Safe (g_323 0 a0 a1 778 d) ∧ (g_323 0 a0 a1 778 d) 770 = d 770 ∧ Inv2 E (g_272 769 a0 a1 (g_323 0 a0 a1 778 d)) ∧ (g_272 769 a0 a1 (g_323 0 a0 a1 778 d)) 778 = (g_323 0 a0 a1 778 d) 778 ∧ (0 ≤ (v_323 0 a0 a1 778 d) ∧ (v_323 0 a0 a1 778 d) ≤ 3) := by
  have hg := h.1.2.2.1.1
  have pw := p_323 (E := E) (d := d) (x0 := 0) (x1 := a0) (x2 := a1) (x3 := 778) h.1.1 rfl rfl h0 h1 ⟨hT.t 10 0 (by decide), trivial, trivial, hT.t 30 778 (by decide), trivial⟩ h.1.2.1
  have hS1 := pw.2.2.2
  have hh1 := pw.1
  have F1 := pw.2.2.1
  have e70 : (g_323 0 a0 a1 778 d) 770 = d 770 := F1 770 (by decide)
  have pr := pq_272 (E := E) (d := (g_323 0 a0 a1 778 d)) (x0 := 769) (x1 := a0) (x2 := a1) hS1 rfl h0 h1 (by rw [n7691, e70]; exact mpI hg) (by rw [n7691, e70]; exact h.1.2.2.1.2.2.2.1) (by rw [n7691, e70]; exact qoI hg) ⟨hT.t 11 769 (by decide), trivial, trivial, trivial⟩ hh1
  have hS2 := pr.2.2
  have hh2 := pr.1
  have e78 : (g_272 769 a0 a1 (g_323 0 a0 a1 778 d)) 778 = (g_323 0 a0 a1 778 d) 778 := pr.2.1 778 (by decide)
  have rv := pw.2.1
  have q : QR (g_323 0 a0 a1 778 d) (g_272 769 a0 a1 (g_323 0 a0 a1 778 d)) := q_272 (cm := d) (by rw [e70]; exact h.1.2.2.1)
  have c : QC d (g_323 0 a0 a1 778 d) := fun b x y z => F1 b (by omega)
  exact ⟨hS1, e70, ⟨⟨hS2, hh2, h.1.2.2.qr c q⟩, q.rp h.2 e70 (by rw [F1 769 (by decide)]) (fun b hb => F1 b (by omega))⟩, e78, rv⟩
theorem iv_30 {E : mO × tW} {d : mD} {a0 : Int} (hT : TKL E) (h : Inv2 E d) (h0 : inI a0) : Safe (g_324 0 a0 778 d) ∧ (g_324 0 a0 778 d) 770 = d 770 ∧ Inv2 E (g_276 769 a0 (g_324 0 a0 778 d)) ∧ (g_276 769 a0 (g_324 0 a0 778 d)) 778 = (g_324 0 a0 778 d) 778 ∧ (0 ≤ (v_324 0 a0 778 d) ∧ (v_324 0 a0 778 d) ≤ 3) := by
  have hg := h.1.2.2.1.1
  have pw := p_324 (E := E) (d := d) (x0 := 0) (x1 := a0) (x2 := 778) h.1.1 rfl rfl h0 ⟨hT.t 10 0 (by decide), trivial, hT.t 30 778 (by decide), trivial⟩ h.1.2.1
  have hS1 := pw.2.2.2
  have hh1 := pw.1
  have F1 := pw.2.2.1
  have e70 : (g_324 0 a0 778 d) 770 = d 770 := F1 770 (by decide)
  have pr := p_276 (E := E) (d := (g_324 0 a0 778 d)) (x0 := 769) (x1 := a0) hS1 rfl h0 ⟨hT.t 11 769 (by decide), trivial, trivial⟩ hh1
  have hS2 := pr.2.2
  have hh2 := pr.1
  have e78 : (g_276 769 a0 (g_324 0 a0 778 d)) 778 = (g_324 0 a0 778 d) 778 := pr.2.1 778 (by decide)
  have rv := pw.2.1
  have q : QR (g_324 0 a0 778 d) (g_276 769 a0 (g_324 0 a0 778 d)) := q_276.qr
  have c : QC d (g_324 0 a0 778 d) := fun b x y z => F1 b (by omega)
  exact ⟨hS1, e70, ⟨⟨hS2, hh2, h.1.2.2.qr c q⟩, q.rp h.2 e70 (by rw [F1 769 (by decide)]) (fun b hb => F1 b (by omega))⟩, e78, rv⟩
theorem iv_31 {E : mO × tW} {d : mD} {a0 : Int} (hT : TKL E) (h : Inv2 E d) (h0 : inI a0) : Safe (g_325 0 a0 778 d) ∧ (g_325 0 a0 778 d) 770 = d 770 ∧ Inv2 E (g_277 769 a0 (g_325 0 a0 778 d)) ∧ (g_277 769 a0 (g_325 0 a0 778 d)) 778 = (g_325 0 a0 778 d) 778 ∧ (0 ≤ (v_325 0 a0 778 d) ∧ (v_325 0 a0 778 d) ≤ 3) := by
  have hg := h.1.2.2.1.1
  have pw := p_325 (E := E) (d := d) (x0 := 0) (x1 := a0) (x2 := 778) h.1.1 rfl rfl h0 ⟨hT.t 10 0 (by decide), trivial, hT.t 30 778 (by decide), trivial⟩ h.1.2.1
  have hS1 := pw.2.2.2
  have hh1 := pw.1
  have F1 := pw.2.2.1
  have e70 : (g_325 0 a0 778 d) 770 = d 770 := F1 770 (by decide)
  have pr := p_277 (E := E) (d := (g_325 0 a0 778 d)) (x0 := 769) (x1 := a0) hS1 rfl h0 ⟨hT.t 11 769 (by decide), trivial, trivial⟩ hh1
  have hS2 := pr.2.2
  have hh2 := pr.1
  have e78 : (g_277 769 a0 (g_325 0 a0 778 d)) 778 = (g_325 0 a0 778 d) 778 := pr.2.1 778 (by decide)
  have rv := pw.2.1
  have q : QR (g_325 0 a0 778 d) (g_277 769 a0 (g_325 0 a0 778 d)) := q_277.qr
  have c : QC d (g_325 0 a0 778 d) := fun b x y z => F1 b (by omega)
  exact ⟨hS1, e70, ⟨⟨hS2, hh2, h.1.2.2.qr c q⟩, q.rp h.2 e70 (by rw [F1 769 (by decide)]) (fun b hb => F1 b (by omega))⟩, e78, rv⟩
theorem iv_32 {E : mO × tW} {d : mD} {a0 : Int} {a1 : Int} (hT : TKL E) (h : Inv2 E d) (h0 : inI a0) (h1 : inI a1) : Safe (g_326 0 a0 a1 778 d) ∧ (g_326 0 a0 a1 778 d) 770 = d 770 ∧ Inv2 E (g_279 769 a0 a1 (g_326 0 a0 a1 778 d)) ∧ (g_279 769 a0 a1 (g_326 0 a0 a1 778 d)) 778 = (g_326 0 a0 a1 778 d) 778 ∧ (0 ≤ (v_326 0 a0 a1 778 d) ∧ (v_326 0 a0 a1 778 d) ≤ 3) ∧ OPR d (g_326 0 a0 a1 778 d) (g_279 769 a0 a1 (g_326 0 a0 a1 778 d)) (v_326 0 a0 a1 778 d) (v_279 769 a0 a1 (g_326 0 a0 a1 778 d)) := by
  have hg := h.1.2.2.1.1
  have pw := p_326 (E := E) (d := d) (x0 := 0) (x1 := a0) (x2 := a1) (x3 := 778) h.1.1 rfl rfl h0 h1 ⟨hT.t 10 0 (by decide), trivial, trivial, hT.t 30 778 (by decide), trivial⟩ h.1.2.1
  have hS1 := pw.2.2.2
  have hh1 := pw.1
  have F1 := pw.2.2.1
  have e70 : (g_326 0 a0 a1 778 d) 770 = d 770 := F1 770 (by decide)
  have pr := p_279 (E := E) (d := (g_326 0 a0 a1 778 d)) (x0 := 769) (x1 := a0) (x2 := a1) hS1 rfl h0 h1 ⟨hT.t 11 769 (by decide), trivial, trivial, trivial⟩ hh1
  have hS2 := pr.2.2
  have hh2 := pr.1
  have e78 : (g_279 769 a0 a1 (g_326 0 a0 a1 778 d)) 778 = (g_326 0 a0 a1 778 d) 778 := pr.2.1 778 (by decide)
  have rv := pw.2.1
  have op : OPR d (g_326 0 a0 a1 778 d) (g_279 769 a0 a1 (g_326 0 a0 a1 778 d)) (v_326 0 a0 a1 778 d) (v_279 769 a0 a1 (g_326 0 a0 a1 778 d)) := opJoin hT h.1
  exact ⟨hS1, e70, ⟨⟨hS2, hh2, op.1⟩, op.2.2.2 h.2⟩, e78, rv, op⟩
theorem iv_33 {E : mO × tW} {d : mD} {a0 : Int} (hT : TKL E) (h : Inv2 E d) (h0 : inI a0) : Safe (g_327 0 a0 778 d) ∧ (g_327 0 a0 778 d) 770 = d 770 ∧ Inv2 E (g_280 769 a0 (g_327 0 a0 778 d)) ∧ (g_280 769 a0 (g_327 0 a0 778 d)) 778 = (g_327 0 a0 778 d) 778 ∧ (0 ≤ (v_327 0 a0 778 d) ∧ (v_327 0 a0 778 d) ≤ 3) ∧ OPR d (g_327 0 a0 778 d) (g_280 769 a0 (g_327 0 a0 778 d)) (v_327 0 a0 778 d) (v_280 769 a0 (g_327 0 a0 778 d)) := by
  have hg := h.1.2.2.1.1
  have pw := p_327 (E := E) (d := d) (x0 := 0) (x1 := a0) (x2 := 778) h.1.1 rfl rfl h0 ⟨hT.t 10 0 (by decide), trivial, hT.t 30 778 (by decide), trivial⟩ h.1.2.1
  have hS1 := pw.2.2.2
  have hh1 := pw.1
  have F1 := pw.2.2.1
  have e70 : (g_327 0 a0 778 d) 770 = d 770 := F1 770 (by decide)
  have pr := p_280 (E := E) (d := (g_327 0 a0 778 d)) (x0 := 769) (x1 := a0) hS1 rfl h0 (hwqI h.1.2.2.1 e70) ⟨hT.t 11 769 (by decide), trivial, trivial⟩ hh1
  have hS2 := pr.2.2
  have hh2 := pr.1
  have e78 : (g_280 769 a0 (g_327 0 a0 778 d)) 778 = (g_327 0 a0 778 d) 778 := pr.2.1 778 (by decide)
  have rv := pw.2.1
  have op : OPR d (g_327 0 a0 778 d) (g_280 769 a0 (g_327 0 a0 778 d)) (v_327 0 a0 778 d) (v_280 769 a0 (g_327 0 a0 778 d)) := opLeave hT h.1
  exact ⟨hS1, e70, ⟨⟨hS2, hh2, op.1⟩, op.2.2.2 h.2⟩, e78, rv, op⟩
theorem iv_34 {E : mO × tW} {d : mD} {a0 : Int} (hT : TKL E) (h : Inv2 E d) (h0 : inI a0) : Safe (g_328 0 a0 778 d) ∧ (g_328 0 a0 778 d) 770 = d 770 ∧ Inv2 E (g_282 769 a0 (g_328 0 a0 778 d)) ∧ (g_282 769 a0 (g_328 0 a0 778 d)) 778 = (g_328 0 a0 778 d) 778 ∧ (0 ≤ (v_328 0 a0 778 d) ∧ (v_328 0 a0 778 d) ≤ 3) ∧ OPR d (g_328 0 a0 778 d) (g_282 769 a0 (g_328 0 a0 778 d)) (v_328 0 a0 778 d) (v_282 769 a0 (g_328 0 a0 778 d)) := by
  have hg := h.1.2.2.1.1
  have pw := p_328 (E := E) (d := d) (x0 := 0) (x1 := a0) (x2 := 778) h.1.1 rfl rfl h0 ⟨hT.t 10 0 (by decide), trivial, hT.t 30 778 (by decide), trivial⟩ h.1.2.1
  have hS1 := pw.2.2.2
  have hh1 := pw.1
  have F1 := pw.2.2.1
  have e70 : (g_328 0 a0 778 d) 770 = d 770 := F1 770 (by decide)
  have pr := p_282 (E := E) (d := (g_328 0 a0 778 d)) (x0 := 769) (x1 := a0) hS1 rfl h0 (by rw [n7691, e70]; exact mpI hg) ⟨hT.t 11 769 (by decide), trivial, trivial⟩ hh1
  have hS2 := pr.2.2
  have hh2 := pr.1
  have e78 : (g_282 769 a0 (g_328 0 a0 778 d)) 778 = (g_328 0 a0 778 d) 778 := pr.2.1 778 (by decide)
  have rv := pw.2.1
  have op : OPR d (g_328 0 a0 778 d) (g_282 769 a0 (g_328 0 a0 778 d)) (v_328 0 a0 778 d) (v_282 769 a0 (g_328 0 a0 778 d)) := opPass hT h.1
  exact ⟨hS1, e70, ⟨⟨hS2, hh2, op.1⟩, op.2.2.2 h.2⟩, e78, rv, op⟩
theorem iv_35 {E : mO × tW} {d : mD} {a0 : Int} (hT : TKL E) (h : Inv2 E d) (h0 : inI a0) : Safe (g_329 0 a0 778 d) ∧ (g_329 0 a0 778 d) 770 = d 770 ∧ Inv2 E (g_283 769 a0 (g_329 0 a0 778 d)) ∧ (g_283 769 a0 (g_329 0 a0 778 d)) 778 = (g_329 0 a0 778 d) 778 ∧ (0 ≤ (v_329 0 a0 778 d) ∧ (v_329 0 a0 778 d) ≤ 3) ∧ OPR d (g_329 0 a0 778 d) (g_283 769 a0 (g_329 0 a0 778 d)) (v_329 0 a0 778 d) (v_283 769 a0 (g_329 0 a0 778 d)) := by
  have hg := h.1.2.2.1.1
  have pw := p_329 (E := E) (d := d) (x0 := 0) (x1 := a0) (x2 := 778) h.1.1 rfl rfl h0 ⟨hT.t 10 0 (by decide), trivial, hT.t 30 778 (by decide), trivial⟩ h.1.2.1
  have hS1 := pw.2.2.2
  have hh1 := pw.1
  have F1 := pw.2.2.1
  have e70 : (g_329 0 a0 778 d) 770 = d 770 := F1 770 (by decide)
  have pr := p_283 (E := E) (d := (g_329 0 a0 778 d)) (x0 := 769) (x1 := a0) hS1 rfl h0 (by rw [n7691, e70]; exact mpI hg) (by rw [n7691, e70]; exact h.2.1.1) ⟨hT.t 11 769 (by decide), trivial, trivial⟩ hh1
  have hS2 := pr.2.2
  have hh2 := pr.1
  have e78 : (g_283 769 a0 (g_329 0 a0 778 d)) 778 = (g_329 0 a0 778 d) 778 := pr.2.1 778 (by decide)
  have rv := pw.2.1
  have op : OPR d (g_329 0 a0 778 d) (g_283 769 a0 (g_329 0 a0 778 d)) (v_329 0 a0 778 d) (v_283 769 a0 (g_329 0 a0 778 d)) := opClaim hT h.1
  exact ⟨hS1, e70, ⟨⟨hS2, hh2, op.1⟩, op.2.2.2 h.2⟩, e78, rv, op⟩
theorem iv_36 {E : mO × tW} {d : mD} {a0 : Int} {a1 : Int} (hT : TKL E) (h : Inv2 E d) (h0 : inI a0) (h1 : inI a1) : Safe (g_330 0 a0 a1 778 d) ∧ (g_330 0 a0 a1 778 d) 770 = d 770 ∧ Inv2 E (g_284 769 a0 a1 (g_330 0 a0 a1 778 d)) ∧ (g_284 769 a0 a1 (g_330 0 a0 a1 778 d)) 778 = (g_330 0 a0 a1 778 d) 778 ∧ (0 ≤ (v_330 0 a0 a1 778 d) ∧ (v_330 0 a0 a1 778 d) ≤ 3) ∧ OPR d (g_330 0 a0 a1 778 d) (g_284 769 a0 a1 (g_330 0 a0 a1 778 d)) (v_330 0 a0 a1 778 d) (v_284 769 a0 a1 (g_330 0 a0 a1 778 d)) := by
  have hg := h.1.2.2.1.1
  have pw := p_330 (E := E) (d := d) (x0 := 0) (x1 := a0) (x2 := a1) (x3 := 778) h.1.1 rfl rfl h0 h1 ⟨hT.t 10 0 (by decide), trivial, trivial, hT.t 30 778 (by decide), trivial⟩ h.1.2.1
  have hS1 := pw.2.2.2
  have hh1 := pw.1
  have F1 := pw.2.2.1
  have e70 : (g_330 0 a0 a1 778 d) 770 = d 770 := F1 770 (by decide)
  have pr := p_284 (E := E) (d := (g_330 0 a0 a1 778 d)) (x0 := 769) (x1 := a0) (x2 := a1) hS1 rfl h0 h1 (by rw [n7691, e70]; exact mpI hg) (by rw [n7691, e70]; exact h.2.1.1) ⟨hT.t 11 769 (by decide), trivial, trivial, trivial⟩ hh1
  have hS2 := pr.2.2
  have hh2 := pr.1
  have e78 : (g_284 769 a0 a1 (g_330 0 a0 a1 778 d)) 778 = (g_330 0 a0 a1 778 d) 778 := pr.2.1 778 (by decide)
  have rv := pw.2.1
  have op : OPR d (g_330 0 a0 a1 778 d) (g_284 769 a0 a1 (g_330 0 a0 a1 778 d)) (v_330 0 a0 a1 778 d) (v_284 769 a0 a1 (g_330 0 a0 a1 778 d)) := opWit hT h.1
  exact ⟨hS1, e70, ⟨⟨hS2, hh2, op.1⟩, op.2.2.2 h.2⟩, e78, rv, op⟩
theorem iv_37 {E : mO × tW} {d : mD} {a0 : Int} {a1 : Int} {a2 : Int} (hT : TKL E) (h : Inv2 E d) (h0 : inI a0) (h1 : inI a1) (h2 : inI a2) : Safe (g_331 0 a0 a1 a2 778 d) ∧ (g_331 0 a0 a1 a2 778 d) 770 = d 770 ∧ Inv2 E (g_285 769 a0 a1 a2 (g_331 0 a0 a1 a2 778 d)) ∧ (g_285 769 a0 a1 a2 (g_331 0 a0 a1 a2 778 d)) 778 = (g_331 0 a0 a1 a2 778 d) 778 ∧ (0 ≤ (v_331 0 a0 a1 a2 778 d) ∧ (v_331 0 a0 a1 a2 778 d) ≤ 3) ∧ OPR d (g_331 0 a0 a1 a2 778 d) (g_285 769 a0 a1 a2 (g_331 0 a0 a1 a2 778 d)) (v_331 0 a0 a1 a2 778 d) (v_285 769 a0 a1 a2 (g_331 0 a0 a1 a2 778 d)) := by
  have hg := h.1.2.2.1.1
  have pw := p_331 (E := E) (d := d) (x0 := 0) (x1 := a0) (x2 := a1) (x3 := a2) (x4 := 778) h.1.1 rfl rfl h0 h1 h2 ⟨hT.t 10 0 (by decide), trivial, trivial, trivial, hT.t 30 778 (by decide), trivial⟩ h.1.2.1
  have hS1 := pw.2.2.2
  have hh1 := pw.1
  have F1 := pw.2.2.1
  have e70 : (g_331 0 a0 a1 a2 778 d) 770 = d 770 := F1 770 (by decide)
  have pr := p_285 (E := E) (d := (g_331 0 a0 a1 a2 778 d)) (x0 := 769) (x1 := a0) (x2 := a1) (x3 := a2) hS1 rfl h0 h1 h2 ⟨hT.t 11 769 (by decide), trivial, trivial, trivial, trivial⟩ hh1
  have hS2 := pr.2.2
  have hh2 := pr.1
  have e78 : (g_285 769 a0 a1 a2 (g_331 0 a0 a1 a2 778 d)) 778 = (g_331 0 a0 a1 a2 778 d) 778 := pr.2.1 778 (by decide)
  have rv := pw.2.1
  have op : OPR d (g_331 0 a0 a1 a2 778 d) (g_285 769 a0 a1 a2 (g_331 0 a0 a1 a2 778 d)) (v_331 0 a0 a1 a2 778 d) (v_285 769 a0 a1 a2 (g_331 0 a0 a1 a2 778 d)) := opGive hT h.1
  exact ⟨hS1, e70, ⟨⟨hS2, hh2, op.1⟩, op.2.2.2 h.2⟩, e78, rv, op⟩
theorem iv_38 {E : mO × tW} {d : mD} {a0 : Int} {a1 : Int} (hT : TKL E) (h : Inv2 E d) (h0 : inI a0) (h1 : inI a1) : Safe (g_332 0 a0 a1 778 d) ∧ (g_332 0 a0 a1 778 d) 770 = d 770 ∧ Inv2 E (g_286 769 a0 a1 (g_332 0 a0 a1 778 d)) ∧ (g_286 769 a0 a1 (g_332 0 a0 a1 778 d)) 778 = (g_332 0 a0 a1 778 d) 778 ∧ (0 ≤ (v_332 0 a0 a1 778 d) ∧ (v_332 0 a0 a1 778 d) ≤ 3) ∧ OPR d (g_332 0 a0 a1 778 d) (g_286 769 a0 a1 (g_332 0 a0 a1 778 d)) (v_332 0 a0 a1 778 d) (v_286 769 a0 a1 (g_332 0 a0 a1 778 d)) := by
  have hg := h.1.2.2.1.1
  have pw := p_332 (E := E) (d := d) (x0 := 0) (x1 := a0) (x2 := a1) (x3 := 778) h.1.1 rfl rfl h0 h1 ⟨hT.t 10 0 (by decide), trivial, trivial, hT.t 30 778 (by decide), trivial⟩ h.1.2.1
  have hS1 := pw.2.2.2
  have hh1 := pw.1
  have F1 := pw.2.2.1
  have e70 : (g_332 0 a0 a1 778 d) 770 = d 770 := F1 770 (by decide)
  have pr := p_286 (E := E) (d := (g_332 0 a0 a1 778 d)) (x0 := 769) (x1 := a0) (x2 := a1) hS1 rfl h0 h1 (by rw [n7691, e70]; exact rkI hg) ⟨hT.t 11 769 (by decide), trivial, trivial, trivial⟩ hh1
  have hS2 := pr.2.2
  have hh2 := pr.1
  have e78 : (g_286 769 a0 a1 (g_332 0 a0 a1 778 d)) 778 = (g_332 0 a0 a1 778 d) 778 := pr.2.1 778 (by decide)
  have rv := pw.2.1
  have op : OPR d (g_332 0 a0 a1 778 d) (g_286 769 a0 a1 (g_332 0 a0 a1 778 d)) (v_332 0 a0 a1 778 d) (v_286 769 a0 a1 (g_332 0 a0 a1 778 d)) := opOffer hT h.1
  exact ⟨hS1, e70, ⟨⟨hS2, hh2, op.1⟩, op.2.2.2 h.2⟩, e78, rv, op⟩
theorem iv_39 {E : mO × tW} {d : mD} {a0 : Int} (hT : TKL E) (h : Inv2 E d) (h0 : inI a0) : Safe (g_333 0 a0 778 d) ∧ (g_333 0 a0 778 d) 770 = d 770 ∧ Inv2 E (g_287 769 a0 (g_333 0 a0 778 d)) ∧ (g_287 769 a0 (g_333 0 a0 778 d)) 778 = (g_333 0 a0 778 d) 778 ∧ (0 ≤ (v_333 0 a0 778 d) ∧ (v_333 0 a0 778 d) ≤ 3) ∧ OPR d (g_333 0 a0 778 d) (g_287 769 a0 (g_333 0 a0 778 d)) (v_333 0 a0 778 d) (v_287 769 a0 (g_333 0 a0 778 d)) := by
  have hg := h.1.2.2.1.1
  have pw := p_333 (E := E) (d := d) (x0 := 0) (x1 := a0) (x2 := 778) h.1.1 rfl rfl h0 ⟨hT.t 10 0 (by decide), trivial, hT.t 30 778 (by decide), trivial⟩ h.1.2.1
  have hS1 := pw.2.2.2
  have hh1 := pw.1
  have F1 := pw.2.2.1
  have e70 : (g_333 0 a0 778 d) 770 = d 770 := F1 770 (by decide)
  have pr := p_287 (E := E) (d := (g_333 0 a0 778 d)) (x0 := 769) (x1 := a0) hS1 rfl h0 ⟨hT.t 11 769 (by decide), trivial, trivial⟩ hh1
  have hS2 := pr.2.2
  have hh2 := pr.1
  have e78 : (g_287 769 a0 (g_333 0 a0 778 d)) 778 = (g_333 0 a0 778 d) 778 := pr.2.1 778 (by decide)
  have rv := pw.2.1
  have op : OPR d (g_333 0 a0 778 d) (g_287 769 a0 (g_333 0 a0 778 d)) (v_333 0 a0 778 d) (v_287 769 a0 (g_333 0 a0 778 d)) := opDep hT h.1
  exact ⟨hS1, e70, ⟨⟨hS2, hh2, op.1⟩, op.2.2.2 h.2⟩, e78, rv, op⟩
theorem iv_40 {E : mO × tW} {d : mD} {a0 : Int} {a1 : Int} (hT : TKL E) (h : Inv2 E d) (h0 : inI a0) (h1 : inI a1) : Safe (g_334 0 a0 a1 778 d) ∧ (g_334 0 a0 a1 778 d) 770 = d 770 ∧ Inv2 E (g_288 769 a0 a1 (g_334 0 a0 a1 778 d)) ∧ (g_288 769 a0 a1 (g_334 0 a0 a1 778 d)) 778 = (g_334 0 a0 a1 778 d) 778 ∧ (0 ≤ (v_334 0 a0 a1 778 d) ∧ (v_334 0 a0 a1 778 d) ≤ 3) ∧ OPR d (g_334 0 a0 a1 778 d) (g_288 769 a0 a1 (g_334 0 a0 a1 778 d)) (v_334 0 a0 a1 778 d) (v_288 769 a0 a1 (g_334 0 a0 a1 778 d)) := by
  have hg := h.1.2.2.1.1
  have pw := p_334 (E := E) (d := d) (x0 := 0) (x1 := a0) (x2 := a1) (x3 := 778) h.1.1 rfl rfl h0 h1 ⟨hT.t 10 0 (by decide), trivial, trivial, hT.t 30 778 (by decide), trivial⟩ h.1.2.1
  have hS1 := pw.2.2.2
  have hh1 := pw.1
  have F1 := pw.2.2.1
  have e70 : (g_334 0 a0 a1 778 d) 770 = d 770 := F1 770 (by decide)
  have pr := pq_288 (E := E) (d := (g_334 0 a0 a1 778 d)) (x0 := 769) (x1 := a0) (x2 := a1) hS1 rfl h0 h1 (by rw [n7691, e70]; exact qoI hg) ⟨hT.t 11 769 (by decide), trivial, trivial, trivial⟩ hh1
  have hS2 := pr.2.2
  have hh2 := pr.1
  have e78 : (g_288 769 a0 a1 (g_334 0 a0 a1 778 d)) 778 = (g_334 0 a0 a1 778 d) 778 := pr.2.1 778 (by decide)
  have rv := pw.2.1
  have op : OPR d (g_334 0 a0 a1 778 d) (g_288 769 a0 a1 (g_334 0 a0 a1 778 d)) (v_334 0 a0 a1 778 d) (v_288 769 a0 a1 (g_334 0 a0 a1 778 d)) := opMerge hT h.1
  exact ⟨hS1, e70, ⟨⟨hS2, hh2, op.1⟩, op.2.2.2 h.2⟩, e78, rv, op⟩
theorem iv_41 {E : mO × tW} {d : mD} {a0 : Int} (hT : TKL E) (h : Inv2 E d) (h0 : inI a0) : Safe (g_335 0 a0 778 d) ∧ (g_335 0 a0 778 d) 770 = d 770 ∧ Inv2 E (g_289 769 a0 (g_335 0 a0 778 d)) ∧ (g_289 769 a0 (g_335 0 a0 778 d)) 778 = (g_335 0 a0 778 d) 778 ∧ (0 ≤ (v_335 0 a0 778 d) ∧ (v_335 0 a0 778 d) ≤ 3) ∧ OPR d (g_335 0 a0 778 d) (g_289 769 a0 (g_335 0 a0 778 d)) (v_335 0 a0 778 d) (v_289 769 a0 (g_335 0 a0 778 d)) := by
  have hg := h.1.2.2.1.1
  have pw := p_335 (E := E) (d := d) (x0 := 0) (x1 := a0) (x2 := 778) h.1.1 rfl rfl h0 ⟨hT.t 10 0 (by decide), trivial, hT.t 30 778 (by decide), trivial⟩ h.1.2.1
  have hS1 := pw.2.2.2
  have hh1 := pw.1
  have F1 := pw.2.2.1
  have e70 : (g_335 0 a0 778 d) 770 = d 770 := F1 770 (by decide)
  have pr := p_289 (E := E) (d := (g_335 0 a0 778 d)) (x0 := 769) (x1 := a0) hS1 rfl h0 ⟨hT.t 11 769 (by decide), trivial, trivial⟩ hh1
  have hS2 := pr.2.2
  have hh2 := pr.1
  have e78 : (g_289 769 a0 (g_335 0 a0 778 d)) 778 = (g_335 0 a0 778 d) 778 := pr.2.1 778 (by decide)
  have rv := pw.2.1
  have op : OPR d (g_335 0 a0 778 d) (g_289 769 a0 (g_335 0 a0 778 d)) (v_335 0 a0 778 d) (v_289 769 a0 (g_335 0 a0 778 d)) := opOpen hT h.1
  exact ⟨hS1, e70, ⟨⟨hS2, hh2, op.1⟩, op.2.2.2 h.2⟩, e78, rv, op⟩
theorem iv_42 {E : mO × tW} {d : mD}  (hT : TKL E) (h : Inv2 E d) : Safe (g_336 0 778 d) ∧ (g_336 0 778 d) 770 = d 770 ∧ Inv2 E (g_290 769 (g_336 0 778 d)) ∧ (g_290 769 (g_336 0 778 d)) 778 = (g_336 0 778 d) 778 ∧ (0 ≤ (v_336 0 778 d) ∧ (v_336 0 778 d) ≤ 3) ∧ OPR d (g_336 0 778 d) (g_290 769 (g_336 0 778 d)) (v_336 0 778 d) (v_290 769 (g_336 0 778 d)) := by
  have hg := h.1.2.2.1.1
  have pw := p_336 (E := E) (d := d) (x0 := 0) (x1 := 778) h.1.1 rfl rfl ⟨hT.t 10 0 (by decide), hT.t 30 778 (by decide), trivial⟩ h.1.2.1
  have hS1 := pw.2.2.2
  have hh1 := pw.1
  have F1 := pw.2.2.1
  have e70 : (g_336 0 778 d) 770 = d 770 := F1 770 (by decide)
  have pr := p_290 (E := E) (d := (g_336 0 778 d)) (x0 := 769) hS1 rfl ⟨hT.t 11 769 (by decide), trivial⟩ hh1
  have hS2 := pr.2.2
  have hh2 := pr.1
  have e78 : (g_290 769 (g_336 0 778 d)) 778 = (g_336 0 778 d) 778 := pr.2.1 778 (by decide)
  have rv := pw.2.1
  have op : OPR d (g_336 0 778 d) (g_290 769 (g_336 0 778 d)) (v_336 0 778 d) (v_290 769 (g_336 0 778 d)) := opAddP h.1.2.2
  exact ⟨hS1, e70, ⟨⟨hS2, hh2, op.1⟩, op.2.2.2 h.2⟩, e78, rv, op⟩
theorem iv_43 {E : mO × tW} {d : mD} {a0 : Int} {a1 : Int} (hT : TKL E) (h : Inv2 E d) (h0 : inI a0) (h1 : inI a1) : Safe (g_337 0 a0 a1 778 d) ∧ (g_337 0 a0 a1 778 d) 770 = d 770 ∧ Inv2 E (g_293 769 a0 a1 (g_337 0 a0 a1 778 d)) ∧ (g_293 769 a0 a1 (g_337 0 a0 a1 778 d)) 778 = (g_337 0 a0 a1 778 d) 778 ∧ (0 ≤ (v_337 0 a0 a1 778 d) ∧ (v_337 0 a0 a1 778 d) ≤ 3) ∧ OPR d (g_337 0 a0 a1 778 d) (g_293 769 a0 a1 (g_337 0 a0 a1 778 d)) (v_337 0 a0 a1 778 d) (v_293 769 a0 a1 (g_337 0 a0 a1 778 d)) := by
  have hg := h.1.2.2.1.1
  have pw := p_337 (E := E) (d := d) (x0 := 0) (x1 := a0) (x2 := a1) (x3 := 778) hT.1 h.1.1 rfl rfl h0 h1 ⟨hT.t 10 0 (by decide), trivial, trivial, hT.t 30 778 (by decide), trivial⟩ h.1.2.1
  have hS1 := pw.2.2.2
  have hh1 := pw.1
  have F1 := pw.2.2.1
  have e70 : (g_337 0 a0 a1 778 d) 770 = d 770 := F1 770 (by decide)
  have pr := p_293 (E := E) (d := (g_337 0 a0 a1 778 d)) (x0 := 769) (x1 := a0) (x2 := a1) hS1 rfl h0 h1 ⟨hT.t 11 769 (by decide), trivial, trivial, trivial⟩ hh1
  have hS2 := pr.2.2
  have hh2 := pr.1
  have e78 : (g_293 769 a0 a1 (g_337 0 a0 a1 778 d)) 778 = (g_337 0 a0 a1 778 d) 778 := pr.2.1 778 (by decide)
  have rv := pw.2.1
  have op : OPR d (g_337 0 a0 a1 778 d) (g_293 769 a0 a1 (g_337 0 a0 a1 778 d)) (v_337 0 a0 a1 778 d) (v_293 769 a0 a1 (g_337 0 a0 a1 778 d)) := opSet hT h.1
  exact ⟨hS1, e70, ⟨⟨hS2, hh2, op.1⟩, op.2.2.2 h.2⟩, e78, rv, op⟩
theorem iv_44 {E : mO × tW} {d : mD}  (hT : TKL E) (h : Inv2 E d) : Safe (g_338 0 778 d) ∧ (g_338 0 778 d) 770 = d 770 ∧ Inv2 E (g_294 769 (g_338 0 778 d)) ∧ (g_294 769 (g_338 0 778 d)) 778 = (g_338 0 778 d) 778 ∧ (0 ≤ (v_338 0 778 d) ∧ (v_338 0 778 d) ≤ 3) ∧ OPR d (g_338 0 778 d) (g_294 769 (g_338 0 778 d)) (v_338 0 778 d) (v_294 769 (g_338 0 778 d)) := by
  have hg := h.1.2.2.1.1
  have pw := p_338 (E := E) (d := d) (x0 := 0) (x1 := 778) h.1.1 rfl rfl ⟨hT.t 10 0 (by decide), hT.t 30 778 (by decide), trivial⟩ h.1.2.1
  have hS1 := pw.2.2.2
  have hh1 := pw.1
  have F1 := pw.2.2.1
  have e70 : (g_338 0 778 d) 770 = d 770 := F1 770 (by decide)
  have pr := p_294 (E := E) (d := (g_338 0 778 d)) (x0 := 769) hS1 rfl ⟨hT.t 11 769 (by decide), trivial⟩ hh1
  have hS2 := pr.2.2
  have hh2 := pr.1
  have e78 : (g_294 769 (g_338 0 778 d)) 778 = (g_338 0 778 d) 778 := pr.2.1 778 (by decide)
  have rv := pw.2.1
  have op : OPR d (g_338 0 778 d) (g_294 769 (g_338 0 778 d)) (v_338 0 778 d) (v_294 769 (g_338 0 778 d)) := opUndo h.1.2.2
  exact ⟨hS1, e70, ⟨⟨hS2, hh2, op.1⟩, op.2.2.2 h.2⟩, e78, rv, op⟩
theorem iv_45 {E : mO × tW} {d : mD} {a0 : Int} (hT : TKL E) (h : Inv2 E d) (h0 : inI a0) : Safe (g_339 0 a0 d) ∧ (g_339 0 a0 d) 770 = d 770 ∧ Inv2 E (g_295 769 a0 (g_339 0 a0 d)) ∧ (g_295 769 a0 (g_339 0 a0 d)) 778 = (g_339 0 a0 d) 778 ∧ (0 ≤ (v_339 0 a0 d) ∧ (v_339 0 a0 d) ≤ 3) ∧ OPV d (g_295 769 a0 (g_339 0 a0 d)) (v_339 0 a0 d) := by
  have hg := h.1.2.2.1.1
  have pw := p_339 (E := E) (d := d) (x0 := 0) (x1 := a0) h.1.1 rfl h0 ⟨hT.t 10 0 (by decide), trivial, trivial⟩ h.1.2.1
  have hS1 := pw.2.2.2
  have hh1 := pw.1
  have F1 := pw.2.2.1
  have e70 : (g_339 0 a0 d) 770 = d 770 := F1 770 (by decide)
  have pr := p_295 (E := E) (d := (g_339 0 a0 d)) (x0 := 769) (x1 := a0) hS1 rfl h0 ⟨hT.t 11 769 (by decide), trivial, trivial⟩ hh1
  have hS2 := pr.2.2
  have hh2 := pr.1
  have e78 : (g_295 769 a0 (g_339 0 a0 d)) 778 = (g_339 0 a0 d) 778 := pr.2.1 778 (by decide)
  have rv := pw.2.1
  have op : OPV d (g_295 769 a0 (g_339 0 a0 d)) (v_339 0 a0 d) := opSave h.1.2.2
  exact ⟨hS1, e70, ⟨⟨hS2, hh2, op.1⟩, op.2.2 h.2⟩, e78, rv, op⟩
theorem iv_46 {E : mO × tW} {d : mD} {a0 : Int} (hT : TKL E) (h : Inv2 E d) (h0 : inI a0) : Safe (g_340 0 a0 d) ∧ (g_340 0 a0 d) 770 = d 770 ∧ Inv2 E (g_296 769 a0 (g_340 0 a0 d)) ∧ (g_296 769 a0 (g_340 0 a0 d)) 778 = (g_340 0 a0 d) 778 ∧ (0 ≤ (v_340 0 a0 d) ∧ (v_340 0 a0 d) ≤ 3) ∧ OPV d (g_296 769 a0 (g_340 0 a0 d)) (v_340 0 a0 d) := by
  have hg := h.1.2.2.1.1
  have pw := p_340 (E := E) (d := d) (x0 := 0) (x1 := a0) h.1.1 rfl h0 ⟨hT.t 10 0 (by decide), trivial, trivial⟩ h.1.2.1
  have hS1 := pw.2.2.2
  have hh1 := pw.1
  have F1 := pw.2.2.1
  have e70 : (g_340 0 a0 d) 770 = d 770 := F1 770 (by decide)
  have pr := p_296 (E := E) (d := (g_340 0 a0 d)) (x0 := 769) (x1 := a0) hS1 rfl h0 ⟨hT.t 11 769 (by decide), trivial, trivial⟩ hh1
  have hS2 := pr.2.2
  have hh2 := pr.1
  have e78 : (g_296 769 a0 (g_340 0 a0 d)) 778 = (g_340 0 a0 d) 778 := pr.2.1 778 (by decide)
  have rv := pw.2.1
  have op : OPV d (g_296 769 a0 (g_340 0 a0 d)) (v_340 0 a0 d) := opRest h.1.2.2
  exact ⟨hS1, e70, ⟨⟨hS2, hh2, op.1⟩, op.2.2 h.2⟩, e78, rv, op⟩
