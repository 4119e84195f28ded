/-! ===== what a change of the class leaves as it was (printed by a program of mine) ===== -/
theorem cf_0 {E : mO × tW} {d : mD} {a0 : Int} {a1 : Int} {a2 : Int} {a3 : Int} {a4 : Int} (hT : TKL E) (h : Inv2 E d) (h0 : inI a0) (h1 : inI a1) (h2 : inI a2) (h3 : inI a3) (h4 : inI a4) : (∀ b, 569 < b → ¬ b = 778 → ¬ b = 578 → ¬ b = 579 → (g_301 0 a0 a1 a2 a3 a4 778 d) b = d b) ∧ (∀ b, (b < 769 ∨ (769 < b ∧ ¬ b = 776)) → (g_186 769 a0 a1 a2 a3 a4 (g_301 0 a0 a1 a2 a3 a4 778 d)) b = (g_301 0 a0 a1 a2 a3 a4 778 d) b) ∧ Inv2 E (g_186 769 a0 a1 a2 a3 a4 (g_301 0 a0 a1 a2 a3 a4 778 d)) := by
  have hg := h.1.2.2.1.1
  have pw := p_301 (E := E) (d := d) (x0 := 0) (x1 := a0) (x2 := a1) (x3 := a2) (x4 := a3) (x5 := a4) (x6 := 778) h.1.1 rfl rfl h0 h1 h2 h3 h4 ⟨hT.t 10 0 (by decide), trivial, trivial, trivial, trivial, trivial, hT.t 30 778 (by decide), trivial⟩ h.1.2.1
  have hS1 := pw.2.2.2
  have hh1 := pw.1
  have F1 := pw.2.2.1
  have e70 : (g_301 0 a0 a1 a2 a3 a4 778 d) 770 = d 770 := F1 770 (by decide)
  have pr := p_186 (E := E) (d := (g_301 0 a0 a1 a2 a3 a4 778 d)) (x0 := 769) (x1 := a0) (x2 := a1) (x3 := a2) (x4 := a3) (x5 := a4) hS1 rfl h0 h1 h2 h3 h4 ⟨hT.t 11 769 (by decide), trivial, trivial, trivial, trivial, trivial, trivial⟩ hh1
  have hS2 := pr.2.2.2
  have hh2 := pr.1
  have e78 : (g_186 769 a0 a1 a2 a3 a4 (g_301 0 a0 a1 a2 a3 a4 778 d)) 778 = (g_301 0 a0 a1 a2 a3 a4 778 d) 778 := pr.2.2.1 778 (by decide)
  have rv := pw.2.1
  have op : OPR d (g_301 0 a0 a1 a2 a3 a4 778 d) (g_186 769 a0 a1 a2 a3 a4 (g_301 0 a0 a1 a2 a3 a4 778 d)) (v_301 0 a0 a1 a2 a3 a4 778 d) (v_186 769 a0 a1 a2 a3 a4 (g_301 0 a0 a1 a2 a3 a4 778 d)) := opApp h.1.2.2
  exact ⟨fun b x y z u => F1 b (by omega), fun b hb => pr.2.2.1 b (by omega), ⟨⟨hS2, hh2, op.1⟩, op.2.2.2 h.2⟩⟩
theorem cf_1 {E : mO × tW} {d : mD} {a0 : Int} (hT : TKL E) (h : Inv2 E d) (h0 : inI a0) : (∀ b, 569 < b → ¬ b = 778 → ¬ b = 578 → (g_302 0 a0 778 d) b = d b) ∧ (∀ b, (b < 769 ∨ (769 < b ∧ ¬ b = 776)) → (g_187 769 a0 (g_302 0 a0 778 d)) b = (g_302 0 a0 778 d) b) ∧ Inv2 E (g_187 769 a0 (g_302 0 a0 778 d)) := by
  have hg := h.1.2.2.1.1
  have pw := p_302 (E := E) (d := d) (x0 := 0) (x1 := a0) (x2 := 778) h.1.1 rfl rfl h0 ⟨hT.t 10 0 (by decide), trivial, hT.t 30 778 (by decide), trivial⟩ h.1.2.1
  have hS1 := pw.2.2.2
  have hh1 := pw.1
  have F1 := pw.2.2.1
  have e70 : (g_302 0 a0 778 d) 770 = d 770 := F1 770 (by decide)
  have pr := p_187 (E := E) (d := (g_302 0 a0 778 d)) (x0 := 769) (x1 := a0) hS1 rfl h0 ⟨hT.t 11 769 (by decide), trivial, trivial⟩ hh1
  have hS2 := pr.2.2.2
  have hh2 := pr.1
  have e78 : (g_187 769 a0 (g_302 0 a0 778 d)) 778 = (g_302 0 a0 778 d) 778 := pr.2.2.1 778 (by decide)
  have rv := pw.2.1
  have op : OPR d (g_302 0 a0 778 d) (g_187 769 a0 (g_302 0 a0 778 d)) (v_302 0 a0 778 d) (v_187 769 a0 (g_302 0 a0 778 d)) := opTrunc h.1.2.2
  exact ⟨fun b x y z => F1 b (by omega), fun b hb => pr.2.2.1 b (by omega), ⟨⟨hS2, hh2, op.1⟩, op.2.2.2 h.2⟩⟩
theorem cf_32 {E : mO × tW} {d : mD} {a0 : Int} {a1 : Int} (hT : TKL E) (h : Inv2 E d) (h0 : inI a0) (h1 : inI a1) : (∀ b, 569 < b → ¬ b = 778 → (g_326 0 a0 a1 778 d) b = d b) ∧ (∀ b, (b < 769 ∨ 771 < b) → (g_279 769 a0 a1 (g_326 0 a0 a1 778 d)) b = (g_326 0 a0 a1 778 d) b) ∧ Inv2 E (g_279 769 a0 a1 (g_326 0 a0 a1 778 d)) := by
  have hg := h.1.2.2.1.1
  have pw := p_326 (E := E) (d := d) (x0 := 0) (x1 := a0) (x2 := a1) (x3 := 778) h.1.1 rfl rfl h0 h1 ⟨hT.t 10 0 (by decide), trivial, trivial, hT.t 30 778 (by decide), trivial⟩ h.1.2.1
  have hS1 := pw.2.2.2
  have hh1 := pw.1
  have F1 := pw.2.2.1
  have e70 : (g_326 0 a0 a1 778 d) 770 = d 770 := F1 770 (by decide)
  have pr := p_279 (E := E) (d := (g_326 0 a0 a1 778 d)) (x0 := 769) (x1 := a0) (x2 := a1) hS1 rfl h0 h1 ⟨hT.t 11 769 (by decide), trivial, trivial, trivial⟩ hh1
  have hS2 := pr.2.2
  have hh2 := pr.1
  have e78 : (g_279 769 a0 a1 (g_326 0 a0 a1 778 d)) 778 = (g_326 0 a0 a1 778 d) 778 := pr.2.1 778 (by decide)
  have rv := pw.2.1
  have op : OPR d (g_326 0 a0 a1 778 d) (g_279 769 a0 a1 (g_326 0 a0 a1 778 d)) (v_326 0 a0 a1 778 d) (v_279 769 a0 a1 (g_326 0 a0 a1 778 d)) := opJoin hT h.1
  exact ⟨fun b x y => F1 b (by omega), fun b hb => pr.2.1 b (by omega), ⟨⟨hS2, hh2, op.1⟩, op.2.2.2 h.2⟩⟩
theorem cf_33 {E : mO × tW} {d : mD} {a0 : Int} (hT : TKL E) (h : Inv2 E d) (h0 : inI a0) : (∀ b, 569 < b → ¬ b = 778 → (g_327 0 a0 778 d) b = d b) ∧ (∀ b, (b < 769 ∨ 771 < b) → (g_280 769 a0 (g_327 0 a0 778 d)) b = (g_327 0 a0 778 d) b) ∧ Inv2 E (g_280 769 a0 (g_327 0 a0 778 d)) := by
  have hg := h.1.2.2.1.1
  have pw := p_327 (E := E) (d := d) (x0 := 0) (x1 := a0) (x2 := 778) h.1.1 rfl rfl h0 ⟨hT.t 10 0 (by decide), trivial, hT.t 30 778 (by decide), trivial⟩ h.1.2.1
  have hS1 := pw.2.2.2
  have hh1 := pw.1
  have F1 := pw.2.2.1
  have e70 : (g_327 0 a0 778 d) 770 = d 770 := F1 770 (by decide)
  have pr := p_280 (E := E) (d := (g_327 0 a0 778 d)) (x0 := 769) (x1 := a0) hS1 rfl h0 (hwqI h.1.2.2.1 e70) ⟨hT.t 11 769 (by decide), trivial, trivial⟩ hh1
  have hS2 := pr.2.2
  have hh2 := pr.1
  have e78 : (g_280 769 a0 (g_327 0 a0 778 d)) 778 = (g_327 0 a0 778 d) 778 := pr.2.1 778 (by decide)
  have rv := pw.2.1
  have op : OPR d (g_327 0 a0 778 d) (g_280 769 a0 (g_327 0 a0 778 d)) (v_327 0 a0 778 d) (v_280 769 a0 (g_327 0 a0 778 d)) := opLeave hT h.1
  exact ⟨fun b x y => F1 b (by omega), fun b hb => pr.2.1 b (by omega), ⟨⟨hS2, hh2, op.1⟩, op.2.2.2 h.2⟩⟩
theorem cf_34 {E : mO × tW} {d : mD} {a0 : Int} (hT : TKL E) (h : Inv2 E d) (h0 : inI a0) : (∀ b, 569 < b → ¬ b = 778 → (g_328 0 a0 778 d) b = d b) ∧ (∀ b, (b < 769 ∨ 771 < b) → (g_282 769 a0 (g_328 0 a0 778 d)) b = (g_328 0 a0 778 d) b) ∧ Inv2 E (g_282 769 a0 (g_328 0 a0 778 d)) := by
  have hg := h.1.2.2.1.1
  have pw := p_328 (E := E) (d := d) (x0 := 0) (x1 := a0) (x2 := 778) h.1.1 rfl rfl h0 ⟨hT.t 10 0 (by decide), trivial, hT.t 30 778 (by decide), trivial⟩ h.1.2.1
  have hS1 := pw.2.2.2
  have hh1 := pw.1
  have F1 := pw.2.2.1
  have e70 : (g_328 0 a0 778 d) 770 = d 770 := F1 770 (by decide)
  have pr := p_282 (E := E) (d := (g_328 0 a0 778 d)) (x0 := 769) (x1 := a0) hS1 rfl h0 (by rw [n7691, e70]; exact mpI hg) ⟨hT.t 11 769 (by decide), trivial, trivial⟩ hh1
  have hS2 := pr.2.2
  have hh2 := pr.1
  have e78 : (g_282 769 a0 (g_328 0 a0 778 d)) 778 = (g_328 0 a0 778 d) 778 := pr.2.1 778 (by decide)
  have rv := pw.2.1
  have op : OPR d (g_328 0 a0 778 d) (g_282 769 a0 (g_328 0 a0 778 d)) (v_328 0 a0 778 d) (v_282 769 a0 (g_328 0 a0 778 d)) := opPass hT h.1
  exact ⟨fun b x y => F1 b (by omega), fun b hb => pr.2.1 b (by omega), ⟨⟨hS2, hh2, op.1⟩, op.2.2.2 h.2⟩⟩
theorem cf_35 {E : mO × tW} {d : mD} {a0 : Int} (hT : TKL E) (h : Inv2 E d) (h0 : inI a0) : (∀ b, 569 < b → ¬ b = 778 → (g_329 0 a0 778 d) b = d b) ∧ (∀ b, (b < 769 ∨ 771 < b) → (g_283 769 a0 (g_329 0 a0 778 d)) b = (g_329 0 a0 778 d) b) ∧ Inv2 E (g_283 769 a0 (g_329 0 a0 778 d)) := by
  have hg := h.1.2.2.1.1
  have pw := p_329 (E := E) (d := d) (x0 := 0) (x1 := a0) (x2 := 778) h.1.1 rfl rfl h0 ⟨hT.t 10 0 (by decide), trivial, hT.t 30 778 (by decide), trivial⟩ h.1.2.1
  have hS1 := pw.2.2.2
  have hh1 := pw.1
  have F1 := pw.2.2.1
  have e70 : (g_329 0 a0 778 d) 770 = d 770 := F1 770 (by decide)
  have pr := p_283 (E := E) (d := (g_329 0 a0 778 d)) (x0 := 769) (x1 := a0) hS1 rfl h0 (by rw [n7691, e70]; exact mpI hg) (by rw [n7691, e70]; exact h.2.1.1) ⟨hT.t 11 769 (by decide), trivial, trivial⟩ hh1
  have hS2 := pr.2.2
  have hh2 := pr.1
  have e78 : (g_283 769 a0 (g_329 0 a0 778 d)) 778 = (g_329 0 a0 778 d) 778 := pr.2.1 778 (by decide)
  have rv := pw.2.1
  have op : OPR d (g_329 0 a0 778 d) (g_283 769 a0 (g_329 0 a0 778 d)) (v_329 0 a0 778 d) (v_283 769 a0 (g_329 0 a0 778 d)) := opClaim hT h.1
  exact ⟨fun b x y => F1 b (by omega), fun b hb => pr.2.1 b (by omega), ⟨⟨hS2, hh2, op.1⟩, op.2.2.2 h.2⟩⟩
theorem cf_36 {E : mO × tW} {d : mD} {a0 : Int} {a1 : Int} (hT : TKL E) (h : Inv2 E d) (h0 : inI a0) (h1 : inI a1) : (∀ b, 569 < b → ¬ b = 778 → (g_330 0 a0 a1 778 d) b = d b) ∧ (∀ b, (b < 769 ∨ 771 < b) → (g_284 769 a0 a1 (g_330 0 a0 a1 778 d)) b = (g_330 0 a0 a1 778 d) b) ∧ Inv2 E (g_284 769 a0 a1 (g_330 0 a0 a1 778 d)) := by
  have hg := h.1.2.2.1.1
  have pw := p_330 (E := E) (d := d) (x0 := 0) (x1 := a0) (x2 := a1) (x3 := 778) h.1.1 rfl rfl h0 h1 ⟨hT.t 10 0 (by decide), trivial, trivial, hT.t 30 778 (by decide), trivial⟩ h.1.2.1
  have hS1 := pw.2.2.2
  have hh1 := pw.1
  have F1 := pw.2.2.1
  have e70 : (g_330 0 a0 a1 778 d) 770 = d 770 := F1 770 (by decide)
  have pr := p_284 (E := E) (d := (g_330 0 a0 a1 778 d)) (x0 := 769) (x1 := a0) (x2 := a1) hS1 rfl h0 h1 (by rw [n7691, e70]; exact mpI hg) (by rw [n7691, e70]; exact h.2.1.1) ⟨hT.t 11 769 (by decide), trivial, trivial, trivial⟩ hh1
  have hS2 := pr.2.2
  have hh2 := pr.1
  have e78 : (g_284 769 a0 a1 (g_330 0 a0 a1 778 d)) 778 = (g_330 0 a0 a1 778 d) 778 := pr.2.1 778 (by decide)
  have rv := pw.2.1
  have op : OPR d (g_330 0 a0 a1 778 d) (g_284 769 a0 a1 (g_330 0 a0 a1 778 d)) (v_330 0 a0 a1 778 d) (v_284 769 a0 a1 (g_330 0 a0 a1 778 d)) := opWit hT h.1
  exact ⟨fun b x y => F1 b (by omega), fun b hb => pr.2.1 b (by omega), ⟨⟨hS2, hh2, op.1⟩, op.2.2.2 h.2⟩⟩
theorem cf_37 {E : mO × tW} {d : mD} {a0 : Int} {a1 : Int} {a2 : Int} (hT : TKL E) (h : Inv2 E d) (h0 : inI a0) (h1 : inI a1) (h2 : inI a2) : (∀ b, 569 < b → ¬ b = 778 → (g_331 0 a0 a1 a2 778 d) b = d b) ∧ (∀ b, (b < 769 ∨ 771 < b) → (g_285 769 a0 a1 a2 (g_331 0 a0 a1 a2 778 d)) b = (g_331 0 a0 a1 a2 778 d) b) ∧ Inv2 E (g_285 769 a0 a1 a2 (g_331 0 a0 a1 a2 778 d)) := by
  have hg := h.1.2.2.1.1
  have pw := p_331 (E := E) (d := d) (x0 := 0) (x1 := a0) (x2 := a1) (x3 := a2) (x4 := 778) h.1.1 rfl rfl h0 h1 h2 ⟨hT.t 10 0 (by decide), trivial, trivial, trivial, hT.t 30 778 (by decide), trivial⟩ h.1.2.1
  have hS1 := pw.2.2.2
  have hh1 := pw.1
  have F1 := pw.2.2.1
  have e70 : (g_331 0 a0 a1 a2 778 d) 770 = d 770 := F1 770 (by decide)
  have pr := p_285 (E := E) (d := (g_331 0 a0 a1 a2 778 d)) (x0 := 769) (x1 := a0) (x2 := a1) (x3 := a2) hS1 rfl h0 h1 h2 ⟨hT.t 11 769 (by decide), trivial, trivial, trivial, trivial⟩ hh1
  have hS2 := pr.2.2
  have hh2 := pr.1
  have e78 : (g_285 769 a0 a1 a2 (g_331 0 a0 a1 a2 778 d)) 778 = (g_331 0 a0 a1 a2 778 d) 778 := pr.2.1 778 (by decide)
  have rv := pw.2.1
  have op : OPR d (g_331 0 a0 a1 a2 778 d) (g_285 769 a0 a1 a2 (g_331 0 a0 a1 a2 778 d)) (v_331 0 a0 a1 a2 778 d) (v_285 769 a0 a1 a2 (g_331 0 a0 a1 a2 778 d)) := opGive hT h.1
  exact ⟨fun b x y => F1 b (by omega), fun b hb => pr.2.1 b (by omega), ⟨⟨hS2, hh2, op.1⟩, op.2.2.2 h.2⟩⟩
theorem cf_38 {E : mO × tW} {d : mD} {a0 : Int} {a1 : Int} (hT : TKL E) (h : Inv2 E d) (h0 : inI a0) (h1 : inI a1) : (∀ b, 569 < b → ¬ b = 778 → (g_332 0 a0 a1 778 d) b = d b) ∧ (∀ b, (b < 769 ∨ 771 < b) → (g_286 769 a0 a1 (g_332 0 a0 a1 778 d)) b = (g_332 0 a0 a1 778 d) b) ∧ Inv2 E (g_286 769 a0 a1 (g_332 0 a0 a1 778 d)) := by
  have hg := h.1.2.2.1.1
  have pw := p_332 (E := E) (d := d) (x0 := 0) (x1 := a0) (x2 := a1) (x3 := 778) h.1.1 rfl rfl h0 h1 ⟨hT.t 10 0 (by decide), trivial, trivial, hT.t 30 778 (by decide), trivial⟩ h.1.2.1
  have hS1 := pw.2.2.2
  have hh1 := pw.1
  have F1 := pw.2.2.1
  have e70 : (g_332 0 a0 a1 778 d) 770 = d 770 := F1 770 (by decide)
  have pr := p_286 (E := E) (d := (g_332 0 a0 a1 778 d)) (x0 := 769) (x1 := a0) (x2 := a1) hS1 rfl h0 h1 (by rw [n7691, e70]; exact rkI hg) ⟨hT.t 11 769 (by decide), trivial, trivial, trivial⟩ hh1
  have hS2 := pr.2.2
  have hh2 := pr.1
  have e78 : (g_286 769 a0 a1 (g_332 0 a0 a1 778 d)) 778 = (g_332 0 a0 a1 778 d) 778 := pr.2.1 778 (by decide)
  have rv := pw.2.1
  have op : OPR d (g_332 0 a0 a1 778 d) (g_286 769 a0 a1 (g_332 0 a0 a1 778 d)) (v_332 0 a0 a1 778 d) (v_286 769 a0 a1 (g_332 0 a0 a1 778 d)) := opOffer hT h.1
  exact ⟨fun b x y => F1 b (by omega), fun b hb => pr.2.1 b (by omega), ⟨⟨hS2, hh2, op.1⟩, op.2.2.2 h.2⟩⟩
theorem cf_39 {E : mO × tW} {d : mD} {a0 : Int} (hT : TKL E) (h : Inv2 E d) (h0 : inI a0) : (∀ b, 569 < b → ¬ b = 778 → (g_333 0 a0 778 d) b = d b) ∧ (∀ b, (b < 769 ∨ 771 < b) → (g_287 769 a0 (g_333 0 a0 778 d)) b = (g_333 0 a0 778 d) b) ∧ Inv2 E (g_287 769 a0 (g_333 0 a0 778 d)) := by
  have hg := h.1.2.2.1.1
  have pw := p_333 (E := E) (d := d) (x0 := 0) (x1 := a0) (x2 := 778) h.1.1 rfl rfl h0 ⟨hT.t 10 0 (by decide), trivial, hT.t 30 778 (by decide), trivial⟩ h.1.2.1
  have hS1 := pw.2.2.2
  have hh1 := pw.1
  have F1 := pw.2.2.1
  have e70 : (g_333 0 a0 778 d) 770 = d 770 := F1 770 (by decide)
  have pr := p_287 (E := E) (d := (g_333 0 a0 778 d)) (x0 := 769) (x1 := a0) hS1 rfl h0 ⟨hT.t 11 769 (by decide), trivial, trivial⟩ hh1
  have hS2 := pr.2.2
  have hh2 := pr.1
  have e78 : (g_287 769 a0 (g_333 0 a0 778 d)) 778 = (g_333 0 a0 778 d) 778 := pr.2.1 778 (by decide)
  have rv := pw.2.1
  have op : OPR d (g_333 0 a0 778 d) (g_287 769 a0 (g_333 0 a0 778 d)) (v_333 0 a0 778 d) (v_287 769 a0 (g_333 0 a0 778 d)) := opDep hT h.1
  exact ⟨fun b x y => F1 b (by omega), fun b hb => pr.2.1 b (by omega), ⟨⟨hS2, hh2, op.1⟩, op.2.2.2 h.2⟩⟩
theorem cf_40 {E : mO × tW} {d : mD} {a0 : Int} {a1 : Int} (hT : TKL E) (h : Inv2 E d) (h0 : inI a0) (h1 : inI a1) : (∀ b, 569 < b → ¬ b = 778 → (g_334 0 a0 a1 778 d) b = d b) ∧ (∀ b, (b < 769 ∨ 771 < b) → (g_288 769 a0 a1 (g_334 0 a0 a1 778 d)) b = (g_334 0 a0 a1 778 d) b) ∧ Inv2 E (g_288 769 a0 a1 (g_334 0 a0 a1 778 d)) := by
  have hg := h.1.2.2.1.1
  have pw := p_334 (E := E) (d := d) (x0 := 0) (x1 := a0) (x2 := a1) (x3 := 778) h.1.1 rfl rfl h0 h1 ⟨hT.t 10 0 (by decide), trivial, trivial, hT.t 30 778 (by decide), trivial⟩ h.1.2.1
  have hS1 := pw.2.2.2
  have hh1 := pw.1
  have F1 := pw.2.2.1
  have e70 : (g_334 0 a0 a1 778 d) 770 = d 770 := F1 770 (by decide)
  have pr := pq_288 (E := E) (d := (g_334 0 a0 a1 778 d)) (x0 := 769) (x1 := a0) (x2 := a1) hS1 rfl h0 h1 (by rw [n7691, e70]; exact qoI hg) ⟨hT.t 11 769 (by decide), trivial, trivial, trivial⟩ hh1
  have hS2 := pr.2.2
  have hh2 := pr.1
  have e78 : (g_288 769 a0 a1 (g_334 0 a0 a1 778 d)) 778 = (g_334 0 a0 a1 778 d) 778 := pr.2.1 778 (by decide)
  have rv := pw.2.1
  have op : OPR d (g_334 0 a0 a1 778 d) (g_288 769 a0 a1 (g_334 0 a0 a1 778 d)) (v_334 0 a0 a1 778 d) (v_288 769 a0 a1 (g_334 0 a0 a1 778 d)) := opMerge hT h.1
  exact ⟨fun b x y => F1 b (by omega), fun b hb => pr.2.1 b (by omega), ⟨⟨hS2, hh2, op.1⟩, op.2.2.2 h.2⟩⟩
theorem cf_41 {E : mO × tW} {d : mD} {a0 : Int} (hT : TKL E) (h : Inv2 E d) (h0 : inI a0) : (∀ b, 569 < b → ¬ b = 778 → (g_335 0 a0 778 d) b = d b) ∧ (∀ b, (b < 769 ∨ 771 < b) → (g_289 769 a0 (g_335 0 a0 778 d)) b = (g_335 0 a0 778 d) b) ∧ Inv2 E (g_289 769 a0 (g_335 0 a0 778 d)) := by
  have hg := h.1.2.2.1.1
  have pw := p_335 (E := E) (d := d) (x0 := 0) (x1 := a0) (x2 := 778) h.1.1 rfl rfl h0 ⟨hT.t 10 0 (by decide), trivial, hT.t 30 778 (by decide), trivial⟩ h.1.2.1
  have hS1 := pw.2.2.2
  have hh1 := pw.1
  have F1 := pw.2.2.1
  have e70 : (g_335 0 a0 778 d) 770 = d 770 := F1 770 (by decide)
  have pr := p_289 (E := E) (d := (g_335 0 a0 778 d)) (x0 := 769) (x1 := a0) hS1 rfl h0 ⟨hT.t 11 769 (by decide), trivial, trivial⟩ hh1
  have hS2 := pr.2.2
  have hh2 := pr.1
  have e78 : (g_289 769 a0 (g_335 0 a0 778 d)) 778 = (g_335 0 a0 778 d) 778 := pr.2.1 778 (by decide)
  have rv := pw.2.1
  have op : OPR d (g_335 0 a0 778 d) (g_289 769 a0 (g_335 0 a0 778 d)) (v_335 0 a0 778 d) (v_289 769 a0 (g_335 0 a0 778 d)) := opOpen hT h.1
  exact ⟨fun b x y => F1 b (by omega), fun b hb => pr.2.1 b (by omega), ⟨⟨hS2, hh2, op.1⟩, op.2.2.2 h.2⟩⟩
theorem cf_42 {E : mO × tW} {d : mD}  (hT : TKL E) (h : Inv2 E d) : (∀ b, 569 < b → ¬ b = 778 → ¬ b = 578 → (g_336 0 778 d) b = d b) ∧ (∀ b, (b < 769 ∨ 771 < b) → (g_290 769 (g_336 0 778 d)) b = (g_336 0 778 d) b) ∧ Inv2 E (g_290 769 (g_336 0 778 d)) := by
  have hg := h.1.2.2.1.1
  have pw := p_336 (E := E) (d := d) (x0 := 0) (x1 := 778) h.1.1 rfl rfl ⟨hT.t 10 0 (by decide), hT.t 30 778 (by decide), trivial⟩ h.1.2.1
  have hS1 := pw.2.2.2
  have hh1 := pw.1
  have F1 := pw.2.2.1
  have e70 : (g_336 0 778 d) 770 = d 770 := F1 770 (by decide)
  have pr := p_290 (E := E) (d := (g_336 0 778 d)) (x0 := 769) hS1 rfl ⟨hT.t 11 769 (by decide), trivial⟩ hh1
  have hS2 := pr.2.2
  have hh2 := pr.1
  have e78 : (g_290 769 (g_336 0 778 d)) 778 = (g_336 0 778 d) 778 := pr.2.1 778 (by decide)
  have rv := pw.2.1
  have op : OPR d (g_336 0 778 d) (g_290 769 (g_336 0 778 d)) (v_336 0 778 d) (v_290 769 (g_336 0 778 d)) := opAddP h.1.2.2
  exact ⟨fun b x y z => F1 b (by omega), fun b hb => pr.2.1 b (by omega), ⟨⟨hS2, hh2, op.1⟩, op.2.2.2 h.2⟩⟩
theorem cf_43 {E : mO × tW} {d : mD} {a0 : Int} {a1 : Int} (hT : TKL E) (h : Inv2 E d) (h0 : inI a0) (h1 : inI a1) : (∀ b, 569 < b → ¬ b = 778 → (g_337 0 a0 a1 778 d) b = d b) ∧ (∀ b, (b < 769 ∨ 771 < b) → (g_293 769 a0 a1 (g_337 0 a0 a1 778 d)) b = (g_337 0 a0 a1 778 d) b) ∧ Inv2 E (g_293 769 a0 a1 (g_337 0 a0 a1 778 d)) := by
  have hg := h.1.2.2.1.1
  have pw := p_337 (E := E) (d := d) (x0 := 0) (x1 := a0) (x2 := a1) (x3 := 778) hT.1 h.1.1 rfl rfl h0 h1 ⟨hT.t 10 0 (by decide), trivial, trivial, hT.t 30 778 (by decide), trivial⟩ h.1.2.1
  have hS1 := pw.2.2.2
  have hh1 := pw.1
  have F1 := pw.2.2.1
  have e70 : (g_337 0 a0 a1 778 d) 770 = d 770 := F1 770 (by decide)
  have pr := p_293 (E := E) (d := (g_337 0 a0 a1 778 d)) (x0 := 769) (x1 := a0) (x2 := a1) hS1 rfl h0 h1 ⟨hT.t 11 769 (by decide), trivial, trivial, trivial⟩ hh1
  have hS2 := pr.2.2
  have hh2 := pr.1
  have e78 : (g_293 769 a0 a1 (g_337 0 a0 a1 778 d)) 778 = (g_337 0 a0 a1 778 d) 778 := pr.2.1 778 (by decide)
  have rv := pw.2.1
  have op : OPR d (g_337 0 a0 a1 778 d) (g_293 769 a0 a1 (g_337 0 a0 a1 778 d)) (v_337 0 a0 a1 778 d) (v_293 769 a0 a1 (g_337 0 a0 a1 778 d)) := opSet hT h.1
  exact ⟨fun b x y => F1 b (by omega), fun b hb => pr.2.1 b (by omega), ⟨⟨hS2, hh2, op.1⟩, op.2.2.2 h.2⟩⟩
theorem cf_44 {E : mO × tW} {d : mD}  (hT : TKL E) (h : Inv2 E d) : (∀ b, 569 < b → ¬ b = 778 → (g_338 0 778 d) b = d b) ∧ (∀ b, (b < 769 ∨ 771 < b) → (g_294 769 (g_338 0 778 d)) b = (g_338 0 778 d) b) ∧ Inv2 E (g_294 769 (g_338 0 778 d)) := by
  have hg := h.1.2.2.1.1
  have pw := p_338 (E := E) (d := d) (x0 := 0) (x1 := 778) h.1.1 rfl rfl ⟨hT.t 10 0 (by decide), hT.t 30 778 (by decide), trivial⟩ h.1.2.1
  have hS1 := pw.2.2.2
  have hh1 := pw.1
  have F1 := pw.2.2.1
  have e70 : (g_338 0 778 d) 770 = d 770 := F1 770 (by decide)
  have pr := p_294 (E := E) (d := (g_338 0 778 d)) (x0 := 769) hS1 rfl ⟨hT.t 11 769 (by decide), trivial⟩ hh1
  have hS2 := pr.2.2
  have hh2 := pr.1
  have e78 : (g_294 769 (g_338 0 778 d)) 778 = (g_338 0 778 d) 778 := pr.2.1 778 (by decide)
  have rv := pw.2.1
  have op : OPR d (g_338 0 778 d) (g_294 769 (g_338 0 778 d)) (v_338 0 778 d) (v_294 769 (g_338 0 778 d)) := opUndo h.1.2.2
  exact ⟨fun b x y => F1 b (by omega), fun b hb => pr.2.1 b (by omega), ⟨⟨hS2, hh2, op.1⟩, op.2.2.2 h.2⟩⟩
