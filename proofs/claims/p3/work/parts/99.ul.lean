/-! ===== one call: class and reference ===== -/
theorem CI.q {d d2 : mD} (h : CI d) (hc : ∀ b, b < 769 → ¬ (572 ≤ b ∧ b ≤ 577) → ¬ (580 ≤ b ∧ b ≤ 642) → d2 b = d b) (h7 : ∀ j, j = 7 ∨ j = 9 → d2 769 j = d 769 j) (hr : REq (d 770) (d2 770)) (hx : ∀ b, (b = 771 ∨ b = 772 ∨ b = 775 ∨ b = 776) → d2 b = d b) : CI d2 := by
  obtain ⟨i1, i2, i3, i4⟩ := h
  refine ⟨(i1.row hr).fr (fun b x y => hc b (by omega) (by omega) (by omega)), i2.fr (fun b x y => hc b (by omega) (by omega) (by omega)) (h7 7 (Or.inl rfl)) (fun j _ _ => by rw [hx 771 (Or.inl rfl)]), i3.fr (fun b hb => ?_), i4.fr (by rw [hc 578 (by decide) (by decide) (by decide)]) (hc 579 (by decide) (by decide) (by decide)) (h7 9 (Or.inr rfl)) (hx 776 (by decide))⟩
  rcases hb with hb | hb | hb | hb
  · exact hc b (by omega) (by omega) (by omega)
  · exact hc b (by omega) (by omega) (by omega)
  · exact hx b (by omega)
  · exact hx b (by omega)
def QC (d d1 : mD) : Prop := ∀ b, ¬ (572 ≤ b ∧ b ≤ 577) → ¬ (580 ≤ b ∧ b ≤ 642) → ¬ b = 778 → d1 b = d b
theorem CI.qr {d d1 d2 : mD} (h : CI d) (hc : QC d d1) (hq : QR d1 d2) : CI d2 := by
  refine h.q (fun b x y z => ?_) (fun j hj => ?_) (fun i x y => ?_) (fun b hb => ?_)
  · rw [hq.1 b (by omega) (by omega) (by omega) (by omega), hc b y z (by omega)]
  · rw [hq.2.1 j (by omega) (by omega), hc 769 (by decide) (by decide) (by decide)]
  · rw [hq.2.2 i x y, hc 770 (by decide) (by decide) (by decide)]
  · rw [hq.1 b (by omega) (by omega) (by omega) (by omega), hc b (by omega) (by omega) (by omega)]
theorem CI.change {d c2 D r' d2 : mD} (h : CI d) (hc : ∀ b, (b < 1 ∨ 63 < b) → c2 b = g_2 64 1 d b) (hD : ∀ b, ¬ b = 778 → D b = c2 b) (hk : KeepW (mset D 769 0 0) r') (hd : ∀ b, ¬ b = 770 → d2 b = r' b) (ok : OKR 1 c2 (d2 770)) : CI d2 ∧ d2 769 0 = 0 := by
  obtain ⟨i1, i2, i3, i4⟩ := h
  obtain ⟨k1, k2, -, -⟩ := keepC i2.1 i1
  obtain ⟨w1, w2, w3⟩ := id hk
  have hn := i2.1
  have G : ∀ b, 569 < b → g_2 64 1 d b = d b := fun b hb => k2 b (by omega) (by omega)
  have Db : ∀ b, 63 < b → ¬ b = 778 → D b = g_2 64 1 d b := fun b x y => by rw [hD b y, hc b (by omega)]
  have Dc : ∀ b, 569 < b → ¬ b = 778 → D b = d b := fun b x y => by rw [Db b (by omega) y, G b x]
  have rb : ∀ b, ¬ b = 769 → ¬ b = 770 → ¬ b = 771 → d2 b = D b := fun b x y z => by
    rw [hd b y, w1 b x z]
    funext j
    exact ms_a x
  have r9 : ∀ j, ¬ j = 7 → ¬ j = 0 → d2 769 j = d 769 j := fun j x y => by rw [hd 769 (by decide), w2 j x, ms_i y, Dc 769 (by decide) (by decide)]
  refine ⟨⟨ok.fr (fun b x y => by rw [rb b (by omega) (by omega) (by omega), hD b (by omega)]), ?_, ?_, ?_⟩, ?_⟩
  · refine keepH i2 i1 (fun b x y => by rw [rb b (by omega) (by omega) (by omega), Db b (by omega) (by omega)]) hk ?_ ?_ ?_ ?_ (hd 771 (by decide))
    · rw [ms_i (by decide), Dc 769 (by decide) (by decide)]
    · rw [← Dc 770 (by decide) (by decide)]
      funext j
      exact ms_a (by decide)
    · rw [← Dc 771 (by decide) (by decide)]
      funext j
      exact ms_a (by decide)
    · rw [hd 769 (by decide)]
  · refine i3.fr (fun b hb => ?_)
    rw [rb b (by omega) (by omega) (by omega), Dc b (by omega) (by omega)]
  · refine i4.fr ?_ ?_ (r9 9 (by decide) (by decide)) ?_
    · rw [rb 578 (by decide) (by decide) (by decide), Dc 578 (by decide) (by decide)]
    · rw [rb 579 (by decide) (by decide) (by decide), Dc 579 (by decide) (by decide)]
    · rw [rb 776 (by decide) (by decide) (by decide), Dc 776 (by decide) (by decide)]
  · rw [hd 769 (by decide), w2 0 (by decide), ms_e rfl rfl]
def toks : List (Nat × Int) := [(0, 64), (2, 576), (3, 3), (4, 11), (5, 577), (6, 1), (6, 580), (7, 578), (8, 50), (9, 58), (10, 0), (11, 769), (30, 778)]
def TKL (E : mO × tW) : Prop := EOK E ∧ W55 E ∧ ∀ p, p ∈ toks → tokV E.2 (.inr p)
theorem TKL.t {E : mO × tW} (h : TKL E) (k : Nat) (a : Int) (hm : (k, a) ∈ toks) : tokV E.2 (.inr (k, a)) := h.2.2 _ hm
theorem TKL.k {E : mO × tW} (h : TKL E) : TKE E := ⟨h.2.1, h.t 2 576 (by decide), h.t 5 577 (by decide), h.t 6 580 (by decide)⟩
def Inv (E : mO × tW) (d : mD) : Prop := Safe d ∧ tSh E.2 d ∧ CI d
def inI (x : Int) : Prop := -2147483648 ≤ x ∧ x ≤ 2147483647
theorem inI.of {x : Int} (h : -100000 ≤ x ∧ x ≤ 100000) : inI x := ⟨by omega, by omega⟩
def OPR (d d1 d2 : mD) (v vr : Int) : Prop := CI d2 ∧ d2 769 0 = v ∧ (v = 0 → d1 778 0 = vr ∧ inI vr) ∧ (RP d → RP d2)
theorem OPR.fail {d : mD} {c vr : Int} (h : CI d) (hc : ¬ c = 0) : OPR d d (mset d 769 0 c) c vr := ⟨h.qr (d1 := d) (fun _ _ _ _ => rfl) QR.s0, ms_e rfl rfl, fun z => absurd z hc, fun r => QR.s0.rp r rfl rfl (fun _ _ => rfl)⟩
theorem v236 {x : Int} {d : mD} : v_236 769 x d = if 0 ≤ x ∧ x < d 770 7 then 1 else 0 := by
  unfold v_236
  rw [v176, show (769 : Int) + 1 = 770 by decide]
  by_cases c : 0 ≤ x ∧ x < d 770 7
  · rw [if_pos c, if_pos (by omega)]
  · rw [if_neg c, if_neg (by omega)]
theorem v237 {x : Int} {d : mD} : v_237 769 x d = if 0 ≤ x ∧ x < d 770 8 then 1 else 0 := by
  unfold v_237
  rw [v176, show (769 : Int) + 1 = 770 by decide]
  by_cases c : 0 ≤ x ∧ x < d 770 8
  · rw [if_pos c, if_pos (by omega)]
  · rw [if_neg c, if_neg (by omega)]
theorem v238 {x : Int} {d : mD} : v_238 769 x d = if 0 ≤ x ∧ x < d 770 9 then 1 else 0 := by
  unfold v_238
  rw [v176, show (769 : Int) + 1 = 770 by decide]
  by_cases c : 0 ≤ x ∧ x < d 770 9
  · rw [if_pos c, if_pos (by omega)]
  · rw [if_neg c, if_neg (by omega)]
-- the history's copy on the class's side
theorem Inv.keep {E : mO × tW} {d : mD} (hT : TKL E) (h : Inv E d) : Safe (g_2 64 1 d) ∧ tSh E.2 (g_2 64 1 d) ∧ OKR 1 (g_2 64 1 d) (d 770) ∧ ∀ b, (b < 64 ∨ 569 < b) → g_2 64 1 d b = d b := by
  obtain ⟨hS, hh, hi⟩ := h
  have t : d 1 2 ≤ 999 := by
    have := hi.1.2.2.2.2.1.2.1
    have := hi.1.2.2.2.1
    omega
  obtain ⟨q1, q2, q3⟩ := p_2 (E := E) (x0 := 64) (x1 := 1) hS rfl (Or.inl rfl) t ⟨hT.t 0 64 (by decide), hT.t 6 1 (by decide), trivial⟩ hh
  have f : ∀ b, (b < 64 ∨ 569 < b) → g_2 64 1 d b = d b := fun b hb => q2 b (by omega)
  exact ⟨q3, q1, hi.1.fr (fun b x y => f b (by omega)), f⟩
theorem n641 : (0 : Int) + 64 = 64 := by decide
theorem n01 : (0 : Int) + 1 = 1 := by decide
theorem s1B : stB 1 := Or.inl rfl
theorem ifR {α : Type} {a n : Int} {x y : α} : (if a < 0 then y else if a < n then x else y) = if 0 ≤ a ∧ a < n then x else y := by
  by_cases c : 0 ≤ a ∧ a < n
  · rw [if_pos c, if_neg (by omega), if_pos c.2]
  · rw [if_neg c]
    by_cases z : a < 0
    · rw [if_pos z]
    · rw [if_neg z, if_neg (by omega)]
theorem rowK {E : mO × tW} {d U : mD} (hT : TKL E) (hI : Inv E d) (hU : ∀ b, (b < 1 ∨ 63 < b) → U b = g_2 64 1 d b) (v : Int) : mset U 778 0 v 770 = d 770 ∧ g_278 769 (mset (mset U 778 0 v) 769 0 0) 770 = d 770 := by
  obtain ⟨-, -, -, kf⟩ := hI.keep hT
  have r0 : mset U 778 0 v 770 = d 770 := by
    rw [← kf 770 (by decide), ← hU 770 (by decide)]
    funext j
    exact ms_a (by decide)
  refine ⟨r0, ?_⟩
  rw [(keep278 (d := mset (mset U 778 0 v) 769 0 0)).1 770 (by decide) (by decide), ← r0]
  funext j
  exact ms_a (by decide)
theorem OPR.ok {E : mO × tW} {d U d2 : mD} {W : Row} {v vr : Int} (hI : Inv E d) (hU : ∀ b, (b < 1 ∨ 63 < b) → U b = g_2 64 1 d b) (ok : OKR 1 U W) (hm : mwP (d 770) → mwP W) (h2 : d2 = rset (g_278 769 (mset (mset U 778 0 v) 769 0 0)) W) (hv : v = vr) (hr : -100000 ≤ v ∧ v ≤ 100000) : OPR d (mset U 778 0 v) d2 0 vr := by
  have ch := hI.2.2.change (c2 := U) (D := mset U 778 0 v) (r' := g_278 769 (mset (mset U 778 0 v) 769 0 0)) (d2 := d2) hU (fun b hb => by funext j; exact ms_a hb) keep278 (fun b hb => by rw [h2]; exact rset_ne hb) (by rw [h2, rset_at]; exact ok)
  refine ⟨ch.1, ch.2, fun _ => ⟨by rw [ms_e rfl rfl]; exact hv, by rw [← hv]; exact inI.of hr⟩, fun r => ?_⟩
  obtain ⟨i1, i2, -, -⟩ := hI.2.2
  obtain ⟨-, k2, -, -⟩ := keepC i2.1 i1
  have hn := i2.1
  have hc := i2.2.1
  have hc7 := i2.2.2.1
  have Dd : ∀ b, 569 < b → ¬ b = 769 → ¬ b = 778 → mset (mset U 778 0 v) 769 0 0 b = d b := fun b x y z => by
    rw [← k2 b (by omega) (by omega), ← hU b (by omega)]
    funext j
    rw [ms_a y, ms_a z]
  have kw := keep278 (d := mset (mset U 778 0 v) 769 0 0)
  have d9 : mset (mset U 778 0 v) 769 0 0 769 7 = d 769 7 := by rw [ms_i (by decide), ms_a (by decide), hU 769 (by decide), k2 769 (by decide) (by omega)]
  have rn : ∀ b, ¬ b = 770 → d2 b = g_278 769 (mset (mset U 778 0 v) 769 0 0) b := fun b hb => by rw [h2]; exact rset_ne hb
  refine r.keep (by omega) kw d9 (Dd 770 (by decide) (by decide) (by decide)) (Dd 771 (by decide) (by decide) (by decide)) (by rw [rn 769 (by decide)]) (rn 771 (by decide)) ?_ ?_ (by rw [h2, rset_at]; exact hm r.1)
  · rw [rn 772 (by decide), kw.1 772 (by decide) (by decide), Dd 772 (by decide) (by decide) (by decide)]
  · rw [rn 775 (by decide), kw.1 775 (by decide) (by decide), Dd 775 (by decide) (by decide) (by decide)]
/-! ===== join ===== -/
theorem opJoin {E : mO × tW} {d : mD} {a b : Int} (hT : TKL E) (hI : Inv E d) : OPR d (g_326 0 a b 778 d) (g_279 769 a b (g_326 0 a b 778 d)) (v_326 0 a b 778 d) (v_279 769 a b (g_326 0 a b 778 d)) := by
  obtain ⟨hS, hh, hi⟩ := id hI
  have hk := hi.1
  obtain ⟨hg, hw, hp, ht, hr⟩ := id hk
  have o7 : d 3 0 = d 770 7 := hr.2.1.1
  have o8 : d 11 0 = d 770 8 := hr.2.2.2.1.1
  have n7 := hg.1.1
  have n8 := hg.1.2.1
  unfold v_326 g_326
  rw [n641, n01, show (1 : Int) + 10 = 11 by decide, show (1 : Int) + 2 = 3 by decide, o7, o8, ifR, ifR, ifR, ifR]
  by_cases c1 : 0 ≤ a ∧ a < d 770 8
  · rw [if_pos c1, if_pos c1]
    by_cases c2 : 0 ≤ b ∧ b < d 770 7
    · rw [if_pos c2, if_pos c2]
      obtain ⟨q1, q2, q3⟩ := canQ (p := a) hg hr c2
      rw [q1]
      by_cases c3 : V_225 a b (d 770) = 0
      · rw [if_pos c3, if_pos c3]
        have e : g_279 769 a b d = mset d 769 0 2 := by
          unfold g_279
          rw [v237, if_pos c1, if_neg (by decide), v236, if_pos c2, if_neg (by decide), m_v_225, if_pos c3]
        rw [e]
        exact OPR.fail hi (by decide)
      · rw [if_neg c3, if_neg c3]
        obtain ⟨kS, kh, kk, kf⟩ := hI.keep hT
        have cj := q3.1 (by omega)
        obtain ⟨j0, j1, j2⟩ := join hg kk.2.2.2.2 c2 c1 cj
        have xr := joinX (p := a) hg c2 cj.1
        obtain ⟨x1, x2⟩ := xr.1 hw hp
        have e49 : g_2 64 1 d (1 + 49) 0 ≤ 59 := by
          rw [kf (1 + 49) (by decide), show (1 : Int) + 49 = 50 by decide]
          have : d 50 0 = d 770 9 := hr.2.2.2.2.1.1
          have := cj.1
          omega
        have e2 : g_2 64 1 d 1 2 ≤ 999 := by
          rw [kf 1 (by decide)]
          have := hr.1.2.1
          omega
        obtain ⟨-, fv, f1, -⟩ := p_61 (E := E) (x0 := 1) (x1 := a) (x2 := b) kS s1B (by omega) (by omega) e49 e2 ⟨hT.t 6 1 (by decide), trivial, trivial, trivial⟩ kh
        have hU : ∀ k, (k < 1 ∨ 63 < k) → g_61 1 a b (g_2 64 1 d) k = g_2 64 1 d k := fun k hk => f1 k (by omega)
        obtain ⟨r0, r1⟩ := rowK hT hI hU (v_61 1 a b (g_2 64 1 d))
        refine OPR.ok hI hU (W := W_226 a b (d 770)) ⟨j1, x1, x2, by rw [xr.2]; exact ht, j2⟩ (fun m => ?_) ?_ ?_ (by omega)
        · have n9 := hg.1.2.2.1
          have go := (hg.2.1 b c2.1 c2.2).2.2.2.2.1
          have e := mw_226 (x0 := 769) (x1 := a) (x2 := b) hS rfl (by omega) n9.2 (Int.le_trans go.2 (by decide)) m
          rw [show (769 : Int) + 1 = 770 by decide] at e
          rw [m_g_226, rset_at] at e
          exact e
        · unfold g_279
          rw [v237, v236, m_v_225, r0, if_pos c1, if_neg (by decide), if_pos c2, if_neg (by decide), if_neg c3, m_g_226, r1]
        · unfold v_279
          rw [v237, v236, m_v_225, r0, if_pos c1, if_neg (by decide), if_pos c2, if_neg (by decide), if_neg c3, m_v_226, r1]
          exact j0
    · rw [if_neg c2, if_neg c2]
      have e : g_279 769 a b d = mset d 769 0 1 := by
        unfold g_279
        rw [v237, if_pos c1, if_neg (by decide), v236, if_neg c2, if_pos rfl]
      rw [e]
      exact OPR.fail hi (by decide)
  · rw [if_neg c1, if_neg c1]
    have e : g_279 769 a b d = mset d 769 0 1 := by
      unfold g_279
      rw [v237, if_neg c1, if_pos rfl]
    rw [e]
    exact OPR.fail hi (by decide)
