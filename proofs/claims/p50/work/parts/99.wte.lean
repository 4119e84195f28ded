/-! ===== the changes of the class, told by the reference's row ===== -/
def KH (d d2 : mD) : Prop := (¬ d 769 7 = 8 ∧ d2 769 7 = d 769 7 + 1 ∧ (∀ i, 0 ≤ i → i < 3116 → d2 771 (3116 * d 769 7 + i) = d 770 i) ∧ ∀ j, j < 3116 * d 769 7 → d2 771 j = d 771 j) ∨ (d 769 7 = 8 ∧ d2 769 7 = 8 ∧ (∀ i, 0 ≤ i → i < 3116 → d2 771 (3116 * 7 + i) = d 770 i) ∧ ∀ j, 0 ≤ j → j < 21812 → d2 771 j = d 771 (j + 3116))
def AE (d d2 : mD) : Prop := d2 770 = d 770 ∧ d2 769 7 = d 769 7 ∧ d2 771 = d 771
def AK (d d2 : mD) (W : Row) : Prop := d2 770 = W ∧ KH d d2
def E3 (d D : mD) : Prop := D 769 7 = d 769 7 ∧ D 770 = d 770 ∧ D 771 = d 771
theorem E3.of {d D : mD} (h : ∀ b, 578 < b → ¬ b = 778 → D b = d b) : E3 d D := ⟨by rw [h 769 (by decide) (by decide)], h 770 (by decide) (by decide), h 771 (by decide) (by decide)⟩
theorem acE {d D D1 : mD} {v vr c : Int} (e : E3 d D) (op : OPR d D1 (mset D 769 0 c) v vr) : v = c ∧ AE d (mset D 769 0 c) := by
  refine ⟨?_, ?_, ?_, ?_⟩
  · rw [← op.2.1]
    exact ms_e rfl rfl
  · rw [← e.2.1]
    funext j
    exact ms_a (by decide)
  · rw [ms_i (by decide)]
    exact e.1
  · rw [← e.2.2]
    funext j
    exact ms_a (by decide)
theorem acM {d D : mD} (e : E3 d D) : mset D 769 0 0 769 7 = d 769 7 ∧ mset D 769 0 0 770 = d 770 ∧ mset D 769 0 0 771 = d 771 := by
  refine ⟨?_, ?_, ?_⟩
  · rw [ms_i (by decide)]
    exact e.1
  · rw [← e.2.1]
    funext j
    exact ms_a (by decide)
  · rw [← e.2.2]
    funext j
    exact ms_a (by decide)
theorem acR {d D : mD} (e : E3 d D) : g_278 769 (mset D 769 0 0) 770 = d 770 := by
  rw [(keep278 (d := mset D 769 0 0)).1 770 (by decide) (by decide)]
  exact (acM e).2.1
theorem acK {d D D1 : mD} {W : Row} {v vr : Int} (e : E3 d D) (op : OPR d D1 (rset (g_278 769 (mset D 769 0 0)) W) v vr) : v = 0 ∧ D1 778 0 = vr ∧ AK d (rset (g_278 769 (mset D 769 0 0)) W) W := by
  obtain ⟨w1, w2, w3⟩ := keep278 (d := mset D 769 0 0)
  obtain ⟨m7, m0, m1⟩ := acM e
  have v0 : v = 0 := by
    rw [← op.2.1, rset_ne (by decide), w2 0 (by decide)]
    exact ms_e rfl rfl
  refine ⟨v0, (op.2.2.1 v0).1, rset_at _ _, ?_⟩
  rw [m7, m0, m1] at w3
  unfold KH
  rw [rset_ne (b := 769) (by decide), rset_ne (b := 771) (by decide)]
  exact w3
theorem Inv2.GG {E : mO × tW} {d : mD} (h : Inv2 E d) : GG (d 770) := h.1.2.2.1.1
theorem inI.s {x : Int} (h : 0 ≤ x ∧ x ≤ 10000) : inI x := ⟨by omega, by omega⟩
theorem ac_0 {E : mO × tW} {d : mD} {a b : Int} (hT : TKL E) (h : Inv2 E d) (ha : 0 ≤ a ∧ a < d 770 8) (hb : 0 ≤ b ∧ b < d 770 7) :
    (V_225 a b (d 770) = 0 → v_326 0 a b 778 d = 2 ∧ AE d (g_279 769 a b (g_326 0 a b 778 d))) ∧ (¬ V_225 a b (d 770) = 0 → v_326 0 a b 778 d = 0 ∧ g_326 0 a b 778 d 778 0 = V_226 a b (d 770) ∧ AK d (g_279 769 a b (g_326 0 a b 778 d)) (W_226 a b (d 770))) := by
  have n8 := h.GG.1.2.1
  have n7 := h.GG.1.1
  have e : E3 d (g_326 0 a b 778 d) := E3.of (fun i x y => (cf_32 hT h (inI.s (x := a) (by omega)) (inI.s (x := b) (by omega))).1 i (by omega) y)
  have op := opJoin (a := a) (b := b) hT h.1
  generalize g_326 0 a b 778 d = D at *
  have r1 := acR e
  have e0 := e.2.1
  refine ⟨fun c => ?_, fun c => ?_⟩
  · have x : g_279 769 a b D = mset D 769 0 2 := by
      unfold g_279
      rw [v237, e0, if_pos ha, if_neg (by decide), v236, e0, if_pos hb, if_neg (by decide), m_v_225, e0, if_pos c]
    rw [x] at op ⊢
    exact acE e op
  · have x : g_279 769 a b D = rset (g_278 769 (mset D 769 0 0)) (W_226 a b (d 770)) := by
      unfold g_279
      rw [v237, e0, if_pos ha, if_neg (by decide), v236, e0, if_pos hb, if_neg (by decide), m_v_225, e0, if_neg c, m_g_226, r1]
    have y : v_279 769 a b D = V_226 a b (d 770) := by
      unfold v_279
      rw [v237, e0, if_pos ha, if_neg (by decide), v236, e0, if_pos hb, if_neg (by decide), m_v_225, e0, if_neg c, m_v_226, r1]
    rw [x, y] at op
    rw [x]
    exact acK e op
def WLv (t : Int) (w : Row) : Row := ws (ws (W_220 (w (452 + 24 * t + 1)) (V_221 t w) w) (452 + 24 * t + 4) 2) (452 + 24 * t + 3) (w 0)
theorem ac_1 {E : mO × tW} {d : mD} {t : Int} (hT : TKL E) (h : Inv2 E d) (c1 : 0 ≤ t ∧ t < d 770 9) :
    (¬ d 770 (452 + 24 * t + 4) = 0 → v_327 0 t 778 d = 2 ∧ AE d (g_280 769 t (g_327 0 t 778 d))) ∧ (d 770 (452 + 24 * t + 4) = 0 → v_327 0 t 778 d = 0 ∧ g_327 0 t 778 d 778 0 = d 770 0 - d 770 (452 + 24 * t + 2) ∧ AK d (g_280 769 t (g_327 0 t 778 d)) (WLv t (d 770))) := by
  have hg := h.GG
  have n9 := hg.1.2.2.1
  have e : E3 d (g_327 0 t 778 d) := E3.of (fun i x y => (cf_33 hT h (inI.s (x := t) (by omega))).1 i (by omega) y)
  have op := opLeave (t := t) hT h.1
  generalize g_327 0 t 778 d = D at *
  have r1 := acR e
  have e0 := e.2.1
  refine ⟨fun c => ?_, fun c => ?_⟩
  · have x : g_280 769 t D = mset D 769 0 2 := by
      unfold g_280
      rw [v238, n7691, e0, if_pos c1, if_neg (by decide), if_neg c]
    rw [x] at op ⊢
    exact acE e op
  · have hr : Rel 1 d (d 770) := h.1.2.2.1.2.2.2.2
    have gt := hg.2.2.2.1 t c1.1 c1.2
    obtain ⟨-, p2, p3, -⟩ := placeIn hg hr c1 c
    have n7 := hg.1.1
    have go := (hg.2.1 _ gt.2.1.1 gt.2.1.2).2.2.2.2.1
    have tk := take220 (o := d 770 (452 + 24 * t + 1)) (w := d 770) p2 (by omega) (by omega)
    have x : g_280 769 t D = rset (g_278 769 (mset D 769 0 0)) (WLv t (d 770)) := by
      unfold g_280 WLv
      rw [v238, n7691, e0, if_pos c1, if_neg (by decide), if_pos c, m_v_221, m_g_220, r1]
      simp only [mset_row, rset_at, rset_rset]
      rw [show W_220 (d 770 (452 + 24 * t + 1)) (V_221 t (d 770)) (d 770) 0 = d 770 0 from tk.2.2 0 (by omega) (by omega)]
    have y : v_280 769 t D = d 770 0 - d 770 (452 + 24 * t + 2) := by
      unfold v_280
      rw [v238, n7691, e0, if_pos c1, if_neg (by decide), if_pos c, m_v_221, m_g_220, r1]
      simp only [rset_at]
      rw [show W_220 (d 770 (452 + 24 * t + 1)) (V_221 t (d 770)) (d 770) 0 = d 770 0 from tk.2.2 0 (by omega) (by omega), show W_220 (d 770 (452 + 24 * t + 1)) (V_221 t (d 770)) (d 770) (452 + 24 * t + 2) = d 770 (452 + 24 * t + 2) from tk.2.2 _ (by omega) (by omega)]
    rw [x, y] at op
    rw [x]
    exact acK e op
theorem ac_2 {E : mO × tW} {d : mD} {n : Int} (hT : TKL E) (h : Inv2 E d) (hn : 1 ≤ n ∧ n ≤ 99) :
    (999 < d 770 0 + n → v_328 0 n 778 d = 2 ∧ AE d (g_282 769 n (g_328 0 n 778 d))) ∧ (¬ 999 < d 770 0 + n → v_328 0 n 778 d = 0 ∧ g_328 0 n 778 d 778 0 = srvN (hoursW n.toNat (d 770)) - srvN (d 770) ∧ AK d (g_282 769 n (g_328 0 n 778 d)) (hoursW n.toNat (d 770))) := by
  have hg := h.GG
  have e : E3 d (g_328 0 n 778 d) := E3.of (fun i x y => (cf_34 hT h (inI.s (x := n) (by omega))).1 i (by omega) y)
  have op := opPass (n := n) hT h.1
  generalize g_328 0 n 778 d = D at *
  have r1 := acR e
  have e0 := e.2.1
  refine ⟨fun c => ?_, fun c => ?_⟩
  · have x : g_282 769 n D = mset D 769 0 2 := by
      unfold g_282 f_282
      rw [v176, if_pos hn, if_neg (by decide), n7691, e0, if_pos c]
    rw [x] at op ⊢
    exact acE e op
  · have hr : Rel 1 d (d 770) := h.1.2.2.1.2.2.2.2
    obtain ⟨-, j1, -⟩ := passHours (s := 1) (N := n) (by omega) hg hr (by omega)
    have x : f_282 769 n D = (srvN (hoursW n.toNat (d 770)) - srvN (d 770), rset (g_278 769 (mset D 769 0 0)) (hoursW n.toNat (d 770))) := by
      unfold f_282
      rw [v176, if_pos hn, if_neg (by decide), n7691, e0, if_neg c, m_lp_282_59, m_v_281, r1, show n - 0 = n by omega, lp282 n.toNat 0 _ (by omega), v281 j1.1.2.2.1, v281 hg.1.2.2.1]
      rfl
    unfold g_282 v_282 at op
    unfold g_282
    rw [x] at op
    rw [x]
    exact acK e op
theorem ac_3 {E : mO × tW} {d : mD} {t : Int} (hT : TKL E) (h : Inv2 E d) (c1 : 0 ≤ t ∧ t < d 770 9) :
    (V_227 t (d 770) = 0 → v_329 0 t 778 d = 2 ∧ AE d (g_283 769 t (g_329 0 t 778 d))) ∧ (¬ V_227 t (d 770) = 0 → v_329 0 t 778 d = 0 ∧ g_329 0 t 778 d 778 0 = V_228 t (d 770) ∧ AK d (g_283 769 t (g_329 0 t 778 d)) (W_228 t (d 770))) := by
  have n9 := h.GG.1.2.2.1
  have e : E3 d (g_329 0 t 778 d) := E3.of (fun i x y => (cf_35 hT h (inI.s (x := t) (by omega))).1 i (by omega) y)
  have op := opClaim (t := t) hT h.1
  generalize g_329 0 t 778 d = D at *
  have r1 := acR e
  have e0 := e.2.1
  refine ⟨fun c => ?_, fun c => ?_⟩
  · have x : g_283 769 t D = mset D 769 0 2 := by
      unfold g_283
      rw [v238, e0, if_pos c1, if_neg (by decide), m_v_227, e0, if_pos c]
    rw [x] at op ⊢
    exact acE e op
  · have x : g_283 769 t D = rset (g_278 769 (mset D 769 0 0)) (W_228 t (d 770)) := by
      unfold g_283
      rw [v238, e0, if_pos c1, if_neg (by decide), m_v_227, e0, if_neg c, m_g_228, r1]
    have y : v_283 769 t D = V_228 t (d 770) := by
      unfold v_283
      rw [v238, e0, if_pos c1, if_neg (by decide), m_v_227, e0, if_neg c, m_v_228, r1]
    rw [x, y] at op
    rw [x]
    exact acK e op
theorem ac_4 {E : mO × tW} {d : mD} {t p : Int} (hT : TKL E) (h : Inv2 E d) (c1 : 0 ≤ t ∧ t < d 770 9) (c2 : 0 ≤ p ∧ p < d 770 8) :
    (¬ V_234 t p (d 770) = 0 → v_330 0 t p 778 d = 2 ∧ AE d (g_284 769 t p (g_330 0 t p 778 d))) ∧ (V_234 t p (d 770) = 0 → v_330 0 t p 778 d = 0 ∧ g_330 0 t p 778 d 778 0 = V_235 t p (d 770) ∧ AK d (g_284 769 t p (g_330 0 t p 778 d)) (W_235 t p (d 770))) := by
  have n9 := h.GG.1.2.2.1
  have n8 := h.GG.1.2.1
  have e : E3 d (g_330 0 t p 778 d) := E3.of (fun i x y => (cf_36 hT h (inI.s (x := t) (by omega)) (inI.s (x := p) (by omega))).1 i (by omega) y)
  have op := opWit (t := t) (p := p) hT h.1
  generalize g_330 0 t p 778 d = D at *
  have r1 := acR e
  have e0 := e.2.1
  refine ⟨fun c => ?_, fun c => ?_⟩
  · have x : g_284 769 t p D = mset D 769 0 2 := by
      unfold g_284
      rw [v238, e0, if_pos c1, if_neg (by decide), v237, e0, if_pos c2, if_neg (by decide), m_v_234, e0, if_neg c]
    rw [x] at op ⊢
    exact acE e op
  · have x : g_284 769 t p D = rset (g_278 769 (mset D 769 0 0)) (W_235 t p (d 770)) := by
      unfold g_284
      rw [v238, e0, if_pos c1, if_neg (by decide), v237, e0, if_pos c2, if_neg (by decide), m_v_234, e0, if_pos c, m_g_235, r1]
    have y : v_284 769 t p D = V_235 t p (d 770) := by
      unfold v_284
      rw [v238, e0, if_pos c1, if_neg (by decide), v237, e0, if_pos c2, if_neg (by decide), m_v_234, e0, if_pos c, m_v_235, r1]
    rw [x, y] at op
    rw [x]
    exact acK e op
def LGv (a b n : Int) (w : Row) : Int × Row := LP_285_79 a b n (200 - 0 : Int).toNat n 0 w
theorem ac_5 {E : mO × tW} {d : mD} {a b n : Int} (hT : TKL E) (h : Inv2 E d) (c1 : 0 ≤ a ∧ a < d 770 8) (c2 : 0 ≤ b ∧ b < d 770 8) (c3 : 1 ≤ n ∧ n ≤ 200) :
    ((a = b ∨ V_245 a 0 (d 770) < n) → v_331 0 a b n 778 d = 3 ∧ AE d (g_285 769 a b n (g_331 0 a b n 778 d))) ∧ (¬ a = b → ¬ V_245 a 0 (d 770) < n → v_331 0 a b n 778 d = 0 ∧ g_331 0 a b n 778 d 778 0 = (LGv a b n (d 770)).1 ∧ AK d (g_285 769 a b n (g_331 0 a b n 778 d)) (LGv a b n (d 770)).2) := by
  have n8 := h.GG.1.2.1
  have e : E3 d (g_331 0 a b n 778 d) := E3.of (fun i x y => (cf_37 hT h (inI.s (x := a) (by omega)) (inI.s (x := b) (by omega)) (inI.s (x := n) (by omega))).1 i (by omega) y)
  have op := opGive (a := a) (b := b) (n := n) hT h.1
  generalize g_331 0 a b n 778 d = D at *
  have r1 := acR e
  have e0 := e.2.1
  refine ⟨fun c => ?_, fun c4 c5 => ?_⟩
  · have x : g_285 769 a b n D = mset D 769 0 3 := by
      unfold g_285 f_285
      rw [v237, v237, e0, if_pos c1, if_neg (by decide), if_pos c2, if_neg (by decide), v176, if_pos c3, if_neg (by decide), m_v_245, e0]
      by_cases z : a = b
      · rw [if_pos z]
      · rw [if_neg z, if_pos (by omega)]
    rw [x] at op ⊢
    exact acE e op
  · have x : f_285 769 a b n D = pr (g_278 769 (mset D 769 0 0)) (LGv a b n (d 770)) := by
      unfold f_285 LGv
      rw [v237, v237, e0, if_pos c1, if_neg (by decide), if_pos c2, if_neg (by decide), v176, if_pos c3, if_neg (by decide), if_neg c4, m_v_245, e0, if_neg c5, m_lp_285_79, r1]
    unfold g_285 v_285 at op
    unfold g_285
    rw [x, pr_1, pr_2] at op
    rw [x, pr_2]
    exact acK e op
def LOf (a n : Int) (w : Row) : Int × Row := LP_286_65 a n (200 - 0 : Int).toNat n 0 w
theorem ac_6 {E : mO × tW} {d : mD} {a n : Int} (hT : TKL E) (h : Inv2 E d) (c1 : 0 ≤ a ∧ a < d 770 8) (c3 : 1 ≤ n ∧ n ≤ 200) :
    (V_245 a 0 (d 770) < n → v_332 0 a n 778 d = 3 ∧ AE d (g_286 769 a n (g_332 0 a n 778 d))) ∧ (¬ V_245 a 0 (d 770) < n → v_332 0 a n 778 d = 0 ∧ g_332 0 a n 778 d 778 0 = (LOf a n (d 770)).1 ∧ AK d (g_286 769 a n (g_332 0 a n 778 d)) (LOf a n (d 770)).2) := by
  have n8 := h.GG.1.2.1
  have e : E3 d (g_332 0 a n 778 d) := E3.of (fun i x y => (cf_38 hT h (inI.s (x := a) (by omega)) (inI.s (x := n) (by omega))).1 i (by omega) y)
  have op := opOffer (a := a) (n := n) hT h.1
  generalize g_332 0 a n 778 d = D at *
  have r1 := acR e
  have e0 := e.2.1
  refine ⟨fun c => ?_, fun c5 => ?_⟩
  · have x : g_286 769 a n D = mset D 769 0 3 := by
      unfold g_286 f_286
      rw [v237, e0, if_pos c1, if_neg (by decide), v176, if_pos c3, if_neg (by decide), m_v_245, e0, if_pos c]
    rw [x] at op ⊢
    exact acE e op
  · have x : f_286 769 a n D = pr (g_278 769 (mset D 769 0 0)) (LOf a n (d 770)) := by
      unfold f_286 LOf
      rw [v237, e0, if_pos c1, if_neg (by decide), v176, if_pos c3, if_neg (by decide), m_v_245, e0, if_neg c5, m_lp_286_65, r1]
    unfold g_286 v_286 at op
    unfold g_286
    rw [x, pr_1, pr_2] at op
    rw [x, pr_2]
    exact acK e op
theorem ac_7 {E : mO × tW} {d : mD} {n : Int} (hT : TKL E) (h : Inv2 E d) (c1 : 1 ≤ n ∧ n ≤ 9999) (c2 : ¬ 99999 < d 770 1 + n) :
    v_333 0 n 778 d = 0 ∧ g_333 0 n 778 d 778 0 = W_219 (ws (d 770) 1 (d 770 1 + n)) 1 ∧ AK d (g_287 769 n (g_333 0 n 778 d)) (W_219 (ws (d 770) 1 (d 770 1 + n))) := by
  have e : E3 d (g_333 0 n 778 d) := E3.of (fun i x y => (cf_39 hT h (inI.s (x := n) (by omega))).1 i (by omega) y)
  have op := opDep (n := n) hT h.1
  generalize g_333 0 n 778 d = D at *
  have r1 := acR e
  have e0 := e.2.1
  have x : g_287 769 n D = rset (g_278 769 (mset D 769 0 0)) (W_219 (ws (d 770) 1 (d 770 1 + n))) := by
    unfold g_287
    rw [v176, if_pos c1, if_neg (by decide), n7691, e0, if_neg c2, mset_row, r1, m_g_219, rset_rset, rset_at]
  have y : v_287 769 n D = W_219 (ws (d 770) 1 (d 770 1 + n)) 1 := by
    unfold v_287
    rw [v176, if_pos c1, if_neg (by decide), n7691, e0, if_neg c2, mset_row, r1, m_g_219, rset_at, rset_at]
  rw [x, y] at op
  rw [x]
  exact acK e op
theorem ac_8 {E : mO × tW} {d : mD} {a b : Int} (hT : TKL E) (h : Inv2 E d) (c1 : 0 ≤ a ∧ a < d 770 7) (c2 : 0 ≤ b ∧ b < d 770 7) :
    (V_270 a b (d 770) = 0 → v_334 0 a b 778 d = 2 ∧ AE d (g_288 769 a b (g_334 0 a b 778 d))) ∧ (¬ V_270 a b (d 770) = 0 → v_334 0 a b 778 d = 0 ∧ g_334 0 a b 778 d 778 0 = W_229 a b (d 770) (12 + 68 * b + 5) ∧ AK d (g_288 769 a b (g_334 0 a b 778 d)) (W_229 a b (d 770))) := by
  have n7 := h.GG.1.1
  have e : E3 d (g_334 0 a b 778 d) := E3.of (fun i x y => (cf_40 hT h (inI.s (x := a) (by omega)) (inI.s (x := b) (by omega))).1 i (by omega) y)
  have op := opMerge (a := a) (b := b) hT h.1
  generalize g_334 0 a b 778 d = D at *
  have r1 := acR e
  have e0 := e.2.1
  refine ⟨fun c => ?_, fun c => ?_⟩
  · have x : g_288 769 a b D = mset D 769 0 2 := by
      unfold g_288
      rw [v236, v236, e0, if_pos c1, if_neg (by decide), if_pos c2, if_neg (by decide), m_v_270, e0, if_pos c]
    rw [x] at op ⊢
    exact acE e op
  · have x : g_288 769 a b D = rset (g_278 769 (mset D 769 0 0)) (W_229 a b (d 770)) := by
      unfold g_288
      rw [v236, v236, e0, if_pos c1, if_neg (by decide), if_pos c2, if_neg (by decide), m_v_270, e0, if_neg c, m_g_229, r1]
    have y : v_288 769 a b D = W_229 a b (d 770) (12 + 68 * b + 5) := by
      unfold v_288
      rw [v236, v236, e0, if_pos c1, if_neg (by decide), if_pos c2, if_neg (by decide), m_v_270, e0, if_neg c, m_g_229, r1, n7691, rset_at]
    rw [x, y] at op
    rw [x]
    exact acK e op
def LRe (o : Int) (w : Row) : Int × Row := LP_289_64 o (6 - 0 : Int).toNat 0 0 (ws w (12 + 68 * o + 4) 1)
theorem ac_9 {E : mO × tW} {d : mD} {o : Int} (hT : TKL E) (h : Inv2 E d) (c1 : 0 ≤ o ∧ o < d 770 7) :
    (¬ d 770 (12 + 68 * o + 4) = 0 → v_335 0 o 778 d = 2 ∧ AE d (g_289 769 o (g_335 0 o 778 d))) ∧ (d 770 (12 + 68 * o + 4) = 0 → v_335 0 o 778 d = 0 ∧ g_335 0 o 778 d 778 0 = (LRe o (d 770)).1 ∧ AK d (g_289 769 o (g_335 0 o 778 d)) (LRe o (d 770)).2) := by
  have n7 := h.GG.1.1
  have e : E3 d (g_335 0 o 778 d) := E3.of (fun i x y => (cf_41 hT h (inI.s (x := o) (by omega))).1 i (by omega) y)
  have op := opOpen (o := o) hT h.1
  generalize g_335 0 o 778 d = D at *
  have r1 := acR e
  have e0 := e.2.1
  refine ⟨fun c => ?_, fun c => ?_⟩
  · have x : g_289 769 o D = mset D 769 0 2 := by
      unfold g_289 f_289
      rw [v236, n7691, e0, if_pos c1, if_neg (by decide), if_neg c]
    rw [x] at op ⊢
    exact acE e op
  · have x : f_289 769 o D = pr (g_278 769 (mset D 769 0 0)) (LRe o (d 770)) := by
      unfold f_289 LRe
      rw [v236, n7691, e0, if_pos c1, if_neg (by decide), if_pos c, mset_row, r1, m_lp_289_64, rset_at, pr_rset]
    unfold g_289 v_289 at op
    unfold g_289
    rw [x, pr_1, pr_2] at op
    rw [x, pr_2]
    exact acK e op
-- the name that the text holds
theorem ac_10 {E : mO × tW} {d : mD} {c : Int} (hT : TKL E) (h : Inv2 E d) (hc : v_93 578 0 (d 578 1) d = c) (c1 : ¬ c = -1) (v83 : V_183 (nm c) (d 770) = -1) :
    (d 770 8 = 16 → v_336 0 778 d = 2 ∧ AE d (g_290 769 (g_336 0 778 d)) ∧ g_290 769 (g_336 0 778 d) 578 1 = 0) ∧ (d 770 8 < 16 → v_336 0 778 d = 0 ∧ g_336 0 778 d 778 0 = d 770 8 ∧ AK d (g_290 769 (g_336 0 778 d)) (W_182 (nm c) (d 770)) ∧ g_290 769 (g_336 0 778 d) 578 1 = 0) := by
  have n8 := h.GG.1.2.1
  have cf := cf_42 hT h
  have e : E3 d (g_336 0 778 d) := E3.of (fun i x y => cf.1 i (by omega) y (by omega))
  have op := opAddP h.1.2.2
  have tx : TextR (g_290 769 (g_336 0 778 d)) (g_290 769 (g_336 0 778 d)) := cf.2.2.1.2.2.2.2.2
  have ht' : TextR d (g_336 0 778 d) := h.1.2.2.2.2.2.fr rfl rfl (by rw [cf.1 769 (by decide) (by decide) (by decide)]) (cf.1 776 (by decide) (by decide) (by decide))
  obtain ⟨t1, t2⟩ := content ht'
  rw [hc] at t1
  clear cf
  generalize g_336 0 778 d = D at *
  have t1 : okN c ∧ v_210 769 D = nm c := by
    rcases t1 with t1 | t1
    · exact absurd t1.1 c1
    · exact t1
  have nz : ¬ nm c = 0 := by
    obtain ⟨q1, q2, q3, q4, q5, q6, q7, q8⟩ := t1.1
    unfold nm
    omega
  have e' : E3 d (mset D 769 9 0) := by
    refine ⟨?_, ?_, ?_⟩
    · rw [ms_i (by decide)]
      exact e.1
    · rw [← e.2.1]
      funext j
      exact ms_a (by decide)
    · rw [← e.2.2]
      funext j
      exact ms_a (by decide)
  have r1 := acR e'
  have e0 := e.2.1
  have e9 := e'.2.1
  refine ⟨fun z => ?_, fun z => ?_⟩
  · have x : g_290 769 D = mset (mset D 769 9 0) 769 0 2 := by
      unfold g_290
      rw [t1.2, if_neg nz, n7691, e0, if_pos z, t2]
    rw [x] at op tx ⊢
    have q := acE e' op
    refine ⟨q.1, q.2, ?_⟩
    rw [← tx.2.1, ms_i (by decide), ms_e rfl rfl]
  · have n16 : ¬ d 770 8 = 16 := by omega
    have x : g_290 769 D = rset (g_278 769 (mset (mset D 769 9 0) 769 0 0)) (W_182 (nm c) (d 770)) := by
      unfold g_290
      rw [t1.2, if_neg nz, n7691, e0, if_neg n16, t2, m_v_183, e9, if_pos v83, m_g_182, r1]
    have y : v_290 769 D = d 770 8 := by
      unfold v_290
      rw [t1.2, if_neg nz, n7691, e0, if_neg n16, t2, m_v_183, e9, if_pos v83, m_g_182, r1, rset_at]
      unfold W_182
      rw [wse rfl]
      omega
    rw [x, y] at op
    rw [x] at tx ⊢
    have q := acK e' op
    refine ⟨q.1, q.2.1, q.2.2, ?_⟩
    rw [← tx.2.1, rset_ne (by decide), (keep278 (d := mset (mset D 769 9 0) 769 0 0)).2.1 9 (by decide), ms_i (by decide), ms_e rfl rfl]
theorem ac_11 {E : mO × tW} {d : mD} {k v : Int} (hT : TKL E) (h : Inv2 E d) (c1 : 0 ≤ k ∧ k < 5) (hv : inI v) :
    (¬ (olds 0 k ≤ v ∧ v ≤ olds 1 k) → v_337 0 k v 778 d = 1 ∧ AE d (g_293 769 k v (g_337 0 k v 778 d))) ∧ ((olds 0 k ≤ v ∧ v ≤ olds 1 k) → v_337 0 k v 778 d = 0 ∧ g_337 0 k v 778 d 778 0 = d 770 (2 + k) ∧ AK d (g_293 769 k v (g_337 0 k v 778 d)) (ws (d 770) (2 + k) v)) := by
  have e : E3 d (g_337 0 k v 778 d) := E3.of (fun i x y => (cf_43 hT h (inI.s (x := k) (by omega)) hv).1 i (by omega) y)
  have op := opSet (k := k) (v := v) hT h.1
  have v04 : ∀ D, v_176 k 0 4 D = if 0 ≤ k ∧ k < 5 then 1 else 0 := fun D => by
    rw [v176]
    by_cases c : 0 ≤ k ∧ k < 5
    · rw [if_pos c, if_pos (by omega)]
    · rw [if_neg c, if_neg (by omega)]
  generalize g_337 0 k v 778 d = D at *
  have r1 := acR e
  have e0 := e.2.1
  refine ⟨fun c => ?_, fun c => ?_⟩
  · have x : g_293 769 k v D = mset D 769 0 1 := by
      unfold g_293
      rw [v04, if_pos c1, if_neg (by decide), old0 c1, old1 c1, v176, if_neg c, if_pos rfl]
    rw [x] at op ⊢
    exact acE e op
  · have x : g_293 769 k v D = rset (g_278 769 (mset D 769 0 0)) (ws (d 770) (2 + k) v) := by
      unfold g_293
      rw [v04, if_pos c1, if_neg (by decide), old0 c1, old1 c1, v176, if_pos c, if_neg (by decide), n7691, mset_row, r1]
    have y : v_293 769 k v D = d 770 (2 + k) := by
      unfold v_293
      rw [v04, if_pos c1, if_neg (by decide), old0 c1, old1 c1, v176, if_pos c, if_neg (by decide), n7691, e0]
    rw [x, y] at op
    rw [x]
    exact acK e op
theorem ac_12 {E : mO × tW} {d : mD} (hT : TKL E) (h : Inv2 E d) :
    (d 769 7 = 0 → v_338 0 778 d = 1 ∧ AE d (g_294 769 (g_338 0 778 d))) ∧ (0 < d 769 7 → v_338 0 778 d = 0 ∧ g_338 0 778 d 778 0 = d 769 7 - 1 ∧ g_294 769 (g_338 0 778 d) 769 7 = d 769 7 - 1 ∧ g_294 769 (g_338 0 778 d) 771 = d 771 ∧ ∀ i, 0 ≤ i → i < 3116 → g_294 769 (g_338 0 778 d) 770 i = d 771 (3116 * (d 769 7 - 1) + i)) := by
  have e : E3 d (g_338 0 778 d) := E3.of (fun i x y => (cf_44 hT h).1 i (by omega) y)
  have op := opUndo h.1.2.2
  generalize g_338 0 778 d = D at *
  have e7 := e.1
  have e1 := e.2.2
  refine ⟨fun c => ?_, fun c => ?_⟩
  · have x : g_294 769 D = mset D 769 0 1 := by
      unfold g_294 f_294
      rw [if_neg (by omega)]
    rw [x] at op ⊢
    exact acE e op
  · obtain ⟨v1, w1, w2, w3, w4, w5⟩ := undo294 (d := D) (by omega)
    have v0 : v_338 0 778 d = 0 := by
      rw [← op.2.1]
      exact w3
    have q := (op.2.2.1 v0).1
    refine ⟨v0, by rw [q, v1, e7], by rw [w4, e7], by rw [w1 771 (by decide) (by decide), e1], fun i x y => ?_⟩
    rw [w5 i x y, e7, e1]
