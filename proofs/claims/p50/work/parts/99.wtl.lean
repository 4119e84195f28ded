/-! ===== what World's and the law's own cells have to do with the class; areTickets ===== -/
theorem tifI {c s C S : Nat} {P : Prop} (h1 : c ≤ C) (h2 : s ≤ S) (p : P) : tif (Nat.ble c C && Nat.ble s S) P := by
  unfold tif
  rw [Nat.ble_eq_true_of_le h1, Nat.ble_eq_true_of_le h2]
  exact p
theorem rgOut {k : Nat} {i v : Int} (h : 900 ≤ k) : rg k i v := by
  unfold rg
  split
  all_goals first
    | trivial
    | omega
theorem Safe.out {d D : mD} (h : Safe d) (e : ∀ a, a < 900 → D a = d a) : Safe D := fun a i h0 => by
  by_cases c : a < 900
  · rw [e a c]
    exact h a i h0
  · have et : tcd a = a.toNat := by
      unfold tcd
      rw [if_neg (by omega), if_neg (by omega), if_neg (by omega), if_neg (by omega), if_neg (by omega), if_neg (by omega), if_neg (by omega)]
    rw [et]
    exact rgOut (by omega)
-- the world of the class and its ghosts alone
def CLW (E' : mO × tW) : Prop := TKL E' ∧ ∀ a, 779 ≤ a → E'.2.1 a < 0
theorem Inv2.out {E' : mO × tW} {d D : mD} (hC : CLW E') (h : Inv2 E' d) (e : ∀ a, a < 900 → D a = d a) : Inv2 E' D := by
  obtain ⟨⟨hS, hh, hi⟩, hr⟩ := h
  refine ⟨⟨hS.out e, tSh_gh hh (fun a ha => ?_), hi.q (fun b x _ _ => e b (by omega)) (fun j _ => by rw [e 769 (by decide)]) (fun i _ _ => by rw [e 770 (by decide)]) (fun b hb => e b (by omega))⟩, hr.1.q (fun i _ _ => by rw [e 770 (by decide)]) (by rw [e 769 (by decide)]) (fun b hb => e b (by omega)), hr.2.of (e 576 (by decide)) (by rw [e 769 (by decide)]) (by rw [e 769 (by decide)])⟩
  by_cases c : a < 900
  · exact e a c
  · have := hC.2 a (by omega)
    omega
def CTX (E : mO × tW) (b : Int) : Prop := (∃ z, mfr E.2 z) ∧ (∀ c, b ≤ c → c ≤ b + 27 → 0 ≤ E.2.1 c) ∧ (∀ a, 769 ≤ a → a ≤ 778 → E.2.1 a < 0) ∧ (∀ a, 0 ≤ a → a ≤ 768 → 0 ≤ E.2.1 a) ∧ 900 < b
theorem CTX.y {E : mO × tW} {b y : Int} (h : CTX E b) (hy : mreal y) (hf : mfr E.2 y) : (y < b ∨ b + 27 < y) ∧ 900 ≤ y := by
  obtain ⟨h1, h2, h3, h4, h5⟩ := h
  have hn := hf.neg
  unfold mreal at hy
  constructor
  · by_cases c : b ≤ y ∧ y ≤ b + 27
    · have := h2 y c.1 c.2
      omega
    · omega
  · by_cases c : y ≤ 768
    · have := h4 y hy.1 c
      omega
    · omega
theorem CTX.row {E : mO × tW} {b y kd n : Int} (h : CTX E b) (hy : mreal y) (hf : mfr E.2 y) (hk : 0 ≤ kd) : CTX (tRow E y kd n) b := by
  have y9 := (h.y hy hf).2
  obtain ⟨h1, h2, h3, h4, h5⟩ := h
  have e : ∀ c, (tRow E y kd n).2.1 c = if c = y then kd else E.2.1 c := fun _ => rfl
  refine ⟨hf.row hy, fun c x z => ?_, fun a x z => ?_, fun a x z => ?_, h5⟩
  · rw [e]
    split
    · exact hk
    · exact h2 c x z
  · rw [e, if_neg (by omega)]
    exact h3 a x z
  · rw [e, if_neg (by omega)]
    exact h4 a x z
def OG (M d2 : mD) : Prop := ∀ i, (i < 769 ∨ 778 < i) → M i = d2 i
theorem OG.run {E : mO × tW} {b : Int} {m pc c s : Nat} {L S : List tV} {M d2 : mD} {K : tK} (hC : CTX E b) (h : OG M d2) (k : tRun E m (pc, L, S, c, s, d2) K) : tRun E m (pc, L, S, c, s, M) K := by
  refine tRun_gh (fun a ha => ?_) k
  by_cases c : a < 769 ∨ 778 < a
  · exact (h a c).symm
  · have := hC.2.2.1 a (by omega) (by omega)
    omega
def SX (E : mO × tW) (d d' : mD) : Prop := d' 770 = d 770 ∧ d' 769 7 = d 769 7 ∧ d' 771 = d 771 ∧ ∀ a, 577 < a → (a < 769 ∨ 778 < a) → (0 ≤ E.2.1 a ∨ ¬ mreal a) → d' a = d a
theorem SX.refl {E : mO × tW} {d : mD} : SX E d d := ⟨rfl, rfl, rfl, fun _ _ _ _ => rfl⟩
theorem SX.trans {E : mO × tW} {d d1 d2 : mD} (h : SX E d d1) (g : SX E d1 d2) : SX E d d2 := ⟨g.1.trans h.1, g.2.1.trans h.2.1, g.2.2.1.trans h.2.2.1, fun a x y z => (g.2.2.2 a x y z).trans (h.2.2.2 a x y z)⟩
theorem SQ'.sx {E : mO × tW} {d d' : mD} (h : SQ' d d') : SX E d d' := ⟨h.1, h.2.1, h.2.2.1, fun a x y _ => h.2.2.2 a x y⟩
-- a row y was made, and it alone was written
theorem SX.row {E : mO × tW} {y kd n : Int} {d D d2 : mD} (hy : mreal y) (hf : mfr E.2 y) (y9 : 900 ≤ y) (e : ∀ a, ¬ a = y → D a = d a) (g : SX (tRow E y kd n) D d2) : SX E d d2 := by
  have en : ∀ c, (tRow E y kd n).2.1 c = if c = y then kd else E.2.1 c := fun _ => rfl
  have hn := hf.neg
  refine ⟨g.1.trans (e 770 (by omega)), g.2.1.trans (by rw [e 769 (by omega)]), g.2.2.1.trans (e 771 (by omega)), fun a x z w => ?_⟩
  have ay : ¬ a = y := fun q => by
    rw [q] at w
    rcases w with w | w
    · omega
    · exact w hy
  rw [g.2.2.2 a x z (by rw [en, if_neg ay]; exact w), e a ay]
theorem WR.og {b : Int} {d d2 : mD} {w : Row} (hb : 900 < b) (h : WR b d w) (s : SQ' d d2) : WR b d2 w := WM.k (fun c x y => s.2.2.2 c (by omega) (by omega)) h
-- rows that are filled place by place
def FLL (d0 D : mD) (y : Int) (due : Int → Int) (j : Int) : Prop := (∀ c, ¬ c = y → D c = d0 c) ∧ ∀ i, 0 ≤ i → i < j → D y i = due i
theorem FLL.step {d0 D : mD} {y j v : Int} {due : Int → Int} (h : FLL d0 D y due j) (hv : v = due j) : FLL d0 (mset D y j v) y due (j + 1) := by
  refine ⟨fun c hc => ?_, fun i x z => ?_⟩
  · rw [← h.1 c hc]
    funext q
    exact ms_a hc
  · by_cases c : i = j
    · rw [ms_e rfl c, c, hv]
    · rw [ms_i c]
      exact h.2 i x (by omega)
-- one ticket's row beside the class
theorem at184 {E E' : mO × tW} {K : tK} {b y t x3 : Int} {w : Row} {c s : Nat} (hX : CTX E b) (hT : CLW E') (hy : y < b ∨ b + 27 < y) (y9 : 900 ≤ y) (hc : c ≤ 261) (hs : s ≤ 1671) (ht : 0 ≤ t ∧ t < w 9) (hm : ∀ i, 0 ≤ i → i < 11 → mInR (tikF t i w)) : ∀ (n : Nat) (x5 : Int) (d : mD), 11 - x5 = (n : Int) → 0 ≤ x5 → d 770 = w → Inv2 E' d → WR b d w → (∀ i, 0 ≤ i → i < 11 → d y i = tikF t i w) → (∀ d', SQ' d d' → Inv2 E' d' → tRun E 374 (2, [.inr (10, 0), .inr (41, b), .inl (0, t + 1), .inl (0, x3), .inr (48, y), .inl (0, 11)], [], c, s, d') K) →
    tRun E 374 (184, [.inr (10, 0), .inr (41, b), .inl (0, t), .inl (0, x3), .inr (48, y), .inl (0, x5)], [], c, s, d) K := by
  intro n
  induction n with
  | zero =>
    intro x5 d hn h0 hw hI hW hv k
    have e : x5 = 11 := by omega
    subst e
    exact t_374_184 ⟨⟨m_inR (by omega) (by omega), m_inR (by omega) (by omega)⟩, fun _ => k d SQ'.refl hI, fun z => absurd z (by omega)⟩
  | succ n ih =>
    intro x5 d hn h0 hw hI hW hv k
    refine t_374_184 ⟨⟨m_inR (by omega) (by omega), m_inR (by omega) (by omega)⟩, fun z => absurd z (by omega), fun _ => tifI (by omega) (by omega) ?_⟩
    refine u_310 hT.1 hI (by rw [hw]; exact ht) ⟨h0, by omega⟩ (fun M d2 hM h2 s2 => ?_)
    rw [hw]
    refine OG.run hX hM ?_
    have ey : d2 y = d y := s2.2.2.2 y (by omega) (by omega)
    have v5 := hv x5 h0 (by omega)
    refine t_374_198 ⟨⟨h0, by omega⟩, ⟨hm x5 h0 (by omega), by rw [ey, v5]; exact hm x5 h0 (by omega)⟩, fun _ => ?_, fun z => absurd (by rw [ey, v5]) z⟩
    exact ih (x5 + 1) d2 (by omega) (by omega) (s2.1.trans hw) h2 (hW.og hX.2.2.2.2 s2) (fun i a a2 => by rw [ey]; exact hv i a a2) (fun d' s3 h3 => k d' (s2.trans s3) h3)
-- how many tokens a ticket has
theorem at15 {E : mO × tW} {K : tK} {b t : Int} {w : Row} {d : mD} {c s : Nat} {v5 : tV} (hW : WR b d w) (hg : GG w) (ht : 0 ≤ t ∧ t < 61) (k : ∀ x4, tRun E 374 (51, [.inr (10, 0), .inr (41, b), .inl (0, t), .inl (0, csum (fun k => if w (1916 + 5 * k + 1) = t then 1 else 0) (w 10).toNat), .inl (0, x4), v5], [.inl (0, 11)], c, s, d) K) : ∀ (n : Nat) (x4 x3 : Int), w 10 - x4 = (n : Int) → 0 ≤ x4 → x3 = csum (fun k => if w (1916 + 5 * k + 1) = t then 1 else 0) x4.toNat →
    tRun E 374 (15, [.inr (10, 0), .inr (41, b), .inl (0, t), .inl (0, x3), .inl (0, x4), v5], [], c, s, d) K := by
  obtain ⟨n7, n8, n9, n10, n11, n0, n1, n2, n3, n4, n5, n6⟩ := id hg.1
  obtain ⟨q0, q1, q2, q3, q4, q5, q6⟩ := hW.eq
  intro n
  induction n with
  | zero =>
    intro x4 x3 hn h0 e
    have ex : x4 = w 10 := by omega
    refine t_374_15 ⟨⟨m_inR (by omega) (by omega), hW.1.1.m (by omega) (by omega)⟩, fun _ => ?_, fun z => absurd z (by omega)⟩
    rw [e, ex]
    exact k _
  | succ n ih =>
    intro x4 x3 hn h0 e
    obtain ⟨g1, g2, g3, g4, g5⟩ := hW.2.2.2.2.2.2.2.1 x4 h0 (by omega)
    have es := csum_s (fun k => if w (1916 + 5 * k + 1) = t then 1 else 0) h0
    refine t_374_15 ⟨⟨m_inR (by omega) (by omega), hW.1.1.m (by omega) (by omega)⟩, fun z => absurd z (by omega), fun _ => ⟨⟨h0, by omega⟩, ⟨hW.1.1.m (by omega) (by omega), m_inR (by omega) (by omega)⟩, fun z => ?_, fun z => ?_⟩⟩
    · rw [g2] at z
      refine ih (x4 + 1) (x3 + 0) (by omega) (by omega) ?_
      rw [es, if_neg z, e]
    · rw [g2] at z
      refine ih (x4 + 1) (x3 + 1) (by omega) (by omega) ?_
      rw [es, if_pos z, e]
theorem v221n {t : Int} {w : Row} (hg : GG w) (ht : 0 ≤ t ∧ t < w 9) (hs : ¬ w (452 + 24 * t + 4) = 0) : V_221 t w = -1 := by
  have ho := (hg.2.2.2.1 t ht.1 ht.2).2.1
  have go := (hg.2.1 _ ho.1 ho.2).2.2.2.2.1
  have gq := hg.2.2.1 _ ho.1 ho.2
  unfold V_221
  generalize w (452 + 24 * t + 1) = o at *
  have L : ∀ (n : Nat) (x : Int), 0 ≤ x → w (12 + 68 * o + 5) - x ≤ (n : Int) → LP_221_17 t n (12 + 68 * o) x w = -1 := by
    intro n
    induction n with
    | zero =>
      intro x hx hn
      show ST_221_17 t _ _ x w = -1
      unfold ST_221_17
      rw [if_neg (by omega)]
    | succ n ih =>
      intro x hx hn
      show ST_221_17 t _ _ x w = -1
      unfold ST_221_17
      by_cases c : x < w (12 + 68 * o + 5)
      · rw [if_pos c, if_neg (fun z => by
          have g := gq x hx c
          rw [z] at g
          exact hs g.2.2.1)]
        exact ih (x + 1) (by omega) (by omega)
      · rw [if_neg c]
  exact L _ 0 (by decide) (by rw [show (((61 - 0 : Int).toNat : Nat) : Int) = 61 by decide]; omega)
theorem lostW {b t : Int} {d : mD} {w : Row} (hg : GG w) (hW : WR b d w) (ht : 0 ≤ t ∧ t < w 9) : wLost b t d = V_213 t w := by
  have e2 := hW.2.1.2.2.2.2.2.2 0 (by decide) (by decide)
  have e3 := (hW.2.2.2.2.2.1 t ht.1 ht.2).2.2.1
  unfold wLost V_213 mmax
  rw [endW hg hW ht, e2, e3]
  by_cases c : (0 : Int) < V_212 t w - w (452 + 24 * t + 2) - w (2 + 0)
  · rw [if_pos c, if_neg (by show ¬ V_212 t w - w (452 + 24 * t + 2) - w (2 + 0) < 0; omega)]
    rfl
  · rw [if_neg c]
    by_cases c2 : V_212 t w - w (452 + 24 * t + 2) - w 2 < 0
    · rw [if_pos c2]
    · rw [if_neg c2]
      have c : ¬ (0 : Int) < V_212 t w - w (452 + 24 * t + 2) - w 2 := c
      omega
-- the due row of a ticket is filled
theorem at53 {E E' : mO × tW} {K : tK} {b y t x4 : Int} {w : Row} {d0 : mD} {c s : Nat} {v5 : tV} (hX : CTX E b) (hT : CLW E') (hy : y < b ∨ b + 27 < y) (y9 : 900 ≤ y) (hc : c ≤ 261) (hs : s ≤ 1671) (hg : GG w) (hW : WR b d0 w) (ht : 0 ≤ t ∧ t < w 9) (hcb : ∃ s d, Rel s d w) {D : mD} (hD : ∀ a, ¬ a = y → D a = d0 a)
    (k : ∀ D', FLL d0 D' y (fun i => tikF t i w) 11 → (∀ i, 0 ≤ i → i < 11 → mInR (tikF t i w)) → tRun E 374 (184, [.inr (10, 0), .inr (41, b), .inl (0, t), .inl (0, csum (fun k => if w (1916 + 5 * k + 1) = t then 1 else 0) (w 10).toNat), .inr (48, y), .inl (0, 0)], [], c, s, D') K) :
    tRun E 374 (53, [.inr (10, 0), .inr (41, b), .inl (0, t), .inl (0, csum (fun k => if w (1916 + 5 * k + 1) = t then 1 else 0) (w 10).toNat), .inl (0, x4), v5], [.inr (48, y)], c, s, D) K := by
  obtain ⟨n7, n8, n9, n10, n11, n0, n1, n2, n3, n4, n5, n6⟩ := id hg.1
  have ht1 : 0 ≤ t ∧ t < 61 := by omega
  obtain ⟨u1, u2, u3, u4, u5⟩ := hW.2.2.2.2.2.1 t ht.1 ht.2
  obtain ⟨u6, u7, u8⟩ := hW.2.2.2.2.2.2.1 t ht.1 ht.2
  obtain ⟨b1, b2⟩ := hW.1.2.2 t ht1.1 ht1.2
  have m : ∀ c i, b ≤ c → c ≤ b + 27 → mInR (d0 c i) := fun c i x y => hW.1.1.m x y
  have nb : ∀ j, 0 ≤ j → j ≤ 27 → ¬ b + j = y := fun j x z => by omega
  have cnt : 0 ≤ csum (fun k => if w (1916 + 5 * k + 1) = t then 1 else 0) (w 10).toNat ∧ csum (fun k => if w (1916 + 5 * k + 1) = t then 1 else 0) (w 10).toNat ≤ 200 := by
    have := csum_rng (f := fun k => if w (1916 + 5 * k + 1) = t then 1 else 0) (n := (w 10).toNat) (B := 1) (fun i _ _ => by
      show 0 ≤ (if _ then (1 : Int) else 0) ∧ (if _ then (1 : Int) else 0) ≤ 1
      split <;> omega)
    omega
  have hL := lostW hg hW ht
  have mL : mInR (V_213 t w) := by
    obtain ⟨s1, d1, r1⟩ := hcb
    rw [← hL]
    unfold wLost mmax
    have h1 := wEnd_r (x0 := b) (x1 := t) hW.1.1
    have h2 := hW.1.1 (b + 12) t (by omega) (by omega)
    have h3 := hW.1.1 (b + 1) 0 (by omega) (by omega)
    split <;> exact m_inR (by omega) (by omega)
  have f0 : FLL d0 D y (fun i => tikF t i w) 0 := ⟨hD, fun i x z => by omega⟩
  refine t_374_53 ⟨ht1, by decide, ?_⟩
  rw [f0.1 (b + 10) (nb 10 (by decide) (by decide))]
  have f1 := f0.step (v := d0 (b + 10) t) (by rw [u1]; rfl)
  generalize mset D y 0 (d0 (b + 10) t) = D1 at *
  refine t_374_62 ⟨ht1, by decide, ?_⟩
  rw [f1.1 (b + 11) (nb 11 (by decide) (by decide))]
  have f2 := f1.step (v := d0 (b + 11) t) (by rw [u2]; rfl)
  generalize mset D1 y 1 (d0 (b + 11) t) = D2 at *
  refine t_374_71 ⟨ht1, by decide, ?_⟩
  rw [f2.1 (b + 12) (nb 12 (by decide) (by decide))]
  have f3 := f2.step (v := d0 (b + 12) t) (by rw [u3]; rfl)
  generalize mset D2 y 2 (d0 (b + 12) t) = D3 at *
  refine t_374_80 ⟨ht1, by decide, ?_⟩
  rw [f3.1 (b + 13) (nb 13 (by decide) (by decide))]
  have f4 := f3.step (v := d0 (b + 13) t) (by rw [u4]; rfl)
  generalize mset D3 y 3 (d0 (b + 13) t) = D4 at *
  refine t_374_89 ⟨ht1, by decide, ?_⟩
  rw [f4.1 (b + 14) (nb 14 (by decide) (by decide))]
  have f5 := f4.step (v := d0 (b + 14) t) (by rw [u5]; rfl)
  generalize mset D4 y 4 (d0 (b + 14) t) = D5 at *
  have e5 := f5.1 (b + 16) (nb 16 (by decide) (by decide))
  -- behind the seventh
  have rest : ∀ D7, FLL d0 D7 y (fun i => tikF t i w) 7 → tRun E 374 (133, [.inr (10, 0), .inr (41, b), .inl (0, t), .inl (0, csum (fun k => if w (1916 + 5 * k + 1) = t then 1 else 0) (w 10).toNat), .inl (0, x4), v5], [.inr (48, y)], c, s, D7) K := fun D7 f7 => by
    refine t_374_133 ⟨ht1, by decide, ?_⟩
    rw [f7.1 (b + 15) (nb 15 (by decide) (by decide))]
    have f8 := f7.step (v := d0 (b + 15) t) (by rw [u8]; rfl)
    generalize mset D7 y 7 (d0 (b + 15) t) = D8 at *
    have hW8 : WR b D8 w := WM.k (fun a x z => f8.1 a (by omega)) hW
    refine t_374_143 (tifI (by omega) (by omega) ?_)
    refine k_347 hW8.1.1 ht1 ?_
    rw [lostW hg hW8 ht]
    refine t_374_151 ⟨by decide, ?_⟩
    have f9 := f8.step (v := V_213 t w) rfl
    generalize mset D8 y 8 (V_213 t w) = D9 at *
    refine t_374_152 ⟨by decide, ?_⟩
    have f10 := f9.step (v := csum (fun k => if w (1916 + 5 * k + 1) = t then 1 else 0) (w 10).toNat) rfl
    generalize mset D9 y 9 (csum (fun k => if w (1916 + 5 * k + 1) = t then 1 else 0) (w 10).toNat) = D10 at *
    have e14 : D10 (b + 14) = d0 (b + 14) := f10.1 _ (nb 14 (by decide) (by decide))
    have hW10 : WR b D10 w := WM.k (fun a x z => f10.1 a (by omega)) hW
    have fin : ∀ D11, FLL d0 D11 y (fun i => tikF t i w) 11 → mInR (V_221 t w) → tRun E 374 (179, [.inr (10, 0), .inr (41, b), .inl (0, t), .inl (0, csum (fun k => if w (1916 + 5 * k + 1) = t then 1 else 0) (w 10).toNat), .inl (0, x4), v5], [.inr (48, y)], c, s, D11) K := fun D11 f11 mp => by
      refine t_374_179 ?_
      refine k D11 f11 (fun i i0 i1 => ?_)
      have : i = 0 ∨ i = 1 ∨ i = 2 ∨ i = 3 ∨ i = 4 ∨ i = 5 ∨ i = 6 ∨ i = 7 ∨ i = 8 ∨ i = 9 ∨ i = 10 := by omega
      rcases this with z | z | z | z | z | z | z | z | z | z | z
      · rw [z]; show mInR (w (452 + 24 * t + 0)); rw [← u1]; exact m _ _ (by omega) (by omega)
      · rw [z]; show mInR (w (452 + 24 * t + 1)); rw [← u2]; exact m _ _ (by omega) (by omega)
      · rw [z]; show mInR (w (452 + 24 * t + 2)); rw [← u3]; exact m _ _ (by omega) (by omega)
      · rw [z]; show mInR (w (452 + 24 * t + 3)); rw [← u4]; exact m _ _ (by omega) (by omega)
      · rw [z]; show mInR (w (452 + 24 * t + 4)); rw [← u5]; exact m _ _ (by omega) (by omega)
      · rw [z]; show mInR (w (452 + 24 * t + 5)); rw [← u6]; exact m _ _ (by omega) (by omega)
      · rw [z]; show mInR (w (452 + 24 * t + 6)); rw [← u7]; exact m _ _ (by omega) (by omega)
      · rw [z]; show mInR (w (452 + 24 * t + 7)); rw [← u8]; exact m _ _ (by omega) (by omega)
      · rw [z]; show mInR (V_213 t w); exact mL
      · rw [z]; show mInR (csum (fun k => if w (1916 + 5 * k + 1) = t then 1 else 0) (w 10).toNat); exact m_inR (by omega) (by omega)
      · rw [z]; show mInR (V_221 t w); exact mp
    refine t_374_157 ⟨ht1, hW10.1.1.m (by omega) (by omega), fun z => ?_, fun z => tifI (by omega) (by omega) ?_⟩
    · rw [e14, u5] at z
      have ev := v221n hg ht z
      exact ⟨by decide, fin _ (f10.step (v := -1) (by show -1 = V_221 t w; rw [ev])) (by rw [ev]; exact m_inR (by decide) (by decide))⟩
    · rw [e14, u5] at z
      have gt := hg.2.2.2.1 t ht.1 ht.2
      have go := (hg.2.1 _ gt.2.1.1 gt.2.1.2).2.2.2.2.1
      obtain ⟨s1, d1, r1⟩ := hcb
      obtain ⟨-, p2, p3, p4⟩ := placeIn hg r1 ht z
      have e11 : D10 (b + 11) t = w (452 + 24 * t + 1) := by rw [f10.1 _ (nb 11 (by decide) (by decide)), u2]
      have e5' := (hW10.2.2.1 _ gt.2.1.1 gt.2.1.2).2.2.2.2.1
      refine k_351 hW10.1.1 ht1 (by rw [e11]; omega) (by rw [e11, e5']; omega) (fun r hr => ?_)
      rw [e11, e5'] at hr
      have er : r = V_221 t w := by
        have A := hg.2.2.1 _ gt.2.1.1 gt.2.1.2
        have rQ := hW10.2.2.2.1 _ gt.2.1.1 gt.2.1.2
        rcases hr with ⟨-, no⟩ | ⟨y0, y1, y2, -⟩
        · exact absurd ((rQ _ p2 p3).trans p4) (no _ p2 p3)
        · rw [rQ r y0 y1] at y2
          by_cases c : r < V_221 t w
          · exact absurd (by rw [y2, p4]) ((A _ p2 p3).2.2.2 r y0 c).2
          · by_cases c2 : V_221 t w < r
            · exact absurd (by rw [y2, p4]) ((A _ y0 y1).2.2.2 _ p2 c2).2
            · omega
      rw [er]
      exact t_374_174 ⟨by decide, fin _ (f10.step (v := V_221 t w) rfl) (m_inR (by omega) (by omega))⟩
  -- the two truths
  refine t_374_98 ⟨ht1, by rw [e5]; exact m _ _ (by omega) (by omega), fun z => ⟨by decide, ?_⟩, fun z => ⟨by decide, ?_⟩⟩
  all_goals
    rw [e5, u6] at z
    rw [u6] at b1
  · have f6 := f5.step (v := 0) (by show 0 = w (452 + 24 * t + 5); omega)
    generalize mset D5 y 5 0 = D6 at *
    have e6 := f6.1 (b + 17) (nb 17 (by decide) (by decide))
    refine t_374_115 ⟨ht1, by rw [e6]; exact m _ _ (by omega) (by omega), fun z2 => ⟨by decide, ?_⟩, fun z2 => ⟨by decide, ?_⟩⟩
    · rw [e6, u7] at z2
      exact rest _ (f6.step (v := 0) (by show 0 = w (452 + 24 * t + 6); omega))
    · rw [e6, u7] at z2
      rw [u7] at b2
      exact rest _ (f6.step (v := 1) (by show 1 = w (452 + 24 * t + 6); omega))
  · have f6 := f5.step (v := 1) (by show 1 = w (452 + 24 * t + 5); omega)
    generalize mset D5 y 5 1 = D6 at *
    have e6 := f6.1 (b + 17) (nb 17 (by decide) (by decide))
    refine t_374_115 ⟨ht1, by rw [e6]; exact m _ _ (by omega) (by omega), fun z2 => ⟨by decide, ?_⟩, fun z2 => ⟨by decide, ?_⟩⟩
    · rw [e6, u7] at z2
      exact rest _ (f6.step (v := 0) (by show 0 = w (452 + 24 * t + 6); omega))
    · rw [e6, u7] at z2
      rw [u7] at b2
      exact rest _ (f6.step (v := 1) (by show 1 = w (452 + 24 * t + 6); omega))
theorem plF.uniq {a u v : Int} {w : Row} (hg : GG w) (h : plF a u w) (g : plF a v w) : u = v := by
  rcases h with ⟨h1, h2⟩ | ⟨h1, h2, h3⟩
  · rcases g with ⟨g1, -⟩ | ⟨g1, g2, g3⟩
    · omega
    · exact absurd g3 (h2 v g1 g2)
  · rcases g with ⟨g1, g2⟩ | ⟨g1, g2, g3⟩
    · exact absurd h3 (g2 u h1 h2)
    · by_cases c : u < v
      · exact absurd (h3.trans g3.symm) ((hg.2.2.2.2.2.2.2 v g1 g2).2.2 u h1 c)
      · by_cases c2 : v < u
        · exact absurd (g3.trans h3.symm) ((hg.2.2.2.2.2.2.2 u h1 h2).2.2 v g1 c2)
        · omega
def tknF (a p i : Int) (w : Row) : Int := if i < 4 then w (1916 + 5 * a + i) else p
theorem at235 {E : mO × tW} {K : tK} {b a : Int} {w : Row} {d : mD} {c s : Nat} {v5 : tV} (hW : WR b d w) (hg : GG w) (ha : 0 ≤ a ∧ a < 200) (k : ∀ x3 x4, plF a x3 w → tRun E 374 (269, [.inr (10, 0), .inr (41, b), .inl (0, a), .inl (0, x3), .inl (0, x4), v5], [.inl (0, 5)], c, s, d) K) : ∀ (n : Nat) (x3 x4 : Int), w 11 - x4 = (n : Int) → 0 ≤ x4 → ((x3 = -1 ∧ ∀ j, 0 ≤ j → j < x4 → ¬ w (2916 + j) = a) ∨ (0 ≤ x3 ∧ x3 < x4 ∧ w (2916 + x3) = a)) →
    tRun E 374 (235, [.inr (10, 0), .inr (41, b), .inl (0, a), .inl (0, x3), .inl (0, x4), v5], [], c, s, d) K := by
  obtain ⟨n7, n8, n9, n10, n11, n0, n1, n2, n3, n4, n5, n6⟩ := id hg.1
  obtain ⟨q0, q1, q2, q3, q4, q5, q6⟩ := hW.eq
  have rS := hW.2.2.2.2.2.2.2.2.1.2
  intro n
  induction n with
  | zero =>
    intro x3 x4 hn h0 hp
    have e : x4 = w 11 := by omega
    rw [e] at hp
    exact t_374_235 ⟨⟨m_inR (by omega) (by omega), hW.1.1.m (by omega) (by omega)⟩, fun _ => k x3 x4 hp, fun z => absurd z (by omega)⟩
  | succ n ih =>
    intro x3 x4 hn h0 hp
    have r := rS x4 h0 (by omega)
    rw [Int.zero_add] at r
    refine t_374_235 ⟨⟨m_inR (by omega) (by omega), hW.1.1.m (by omega) (by omega)⟩, fun z => absurd z (by omega), fun _ => ⟨⟨h0, by omega⟩, ⟨hW.1.1.m (by omega) (by omega), m_inR (by omega) (by omega)⟩, fun z => ?_, fun z => ?_⟩⟩
    · rw [r] at z
      refine ih x3 (x4 + 1) (by omega) (by omega) ?_
      rcases hp with ⟨p1, p2⟩ | ⟨p1, p2, p3⟩
      · refine Or.inl ⟨p1, fun j x y => ?_⟩
        by_cases c : j = x4
        · rw [c]
          exact z
        · exact p2 j x (by omega)
      · exact Or.inr ⟨p1, by omega, p3⟩
    · rw [r] at z
      exact ih x4 (x4 + 1) (by omega) (by omega) (Or.inr ⟨h0, by omega, z⟩)
theorem at316 {E E' : mO × tW} {K : tK} {b y a p x3 : Int} {w : Row} {c s : Nat} (hX : CTX E b) (hT : CLW E') (hy : y < b ∨ b + 27 < y) (y9 : 900 ≤ y) (hc : c ≤ 261) (hs : s ≤ 1671) (hg : GG w) (ha : 0 ≤ a ∧ a < w 10) (hp : plF a p w) (hm : ∀ i, 0 ≤ i → i < 5 → mInR (tknF a p i w)) : ∀ (n : Nat) (x5 : Int) (d : mD), 5 - x5 = (n : Int) → 0 ≤ x5 → d 770 = w → Inv2 E' d → WR b d w → (∀ i, 0 ≤ i → i < 5 → d y i = tknF a p i w) → (∀ d', SQ' d d' → Inv2 E' d' → tRun E 374 (222, [.inr (10, 0), .inr (41, b), .inl (0, a + 1), .inl (0, x3), .inr (14, y), .inl (0, 5)], [], c, s, d') K) →
    tRun E 374 (316, [.inr (10, 0), .inr (41, b), .inl (0, a), .inl (0, x3), .inr (14, y), .inl (0, x5)], [], c, s, d) K := by
  have n10 := hg.1.2.2.2.1
  intro n
  induction n with
  | zero =>
    intro x5 d hn h0 hw hI hW hv k
    have e : x5 = 5 := by omega
    subst e
    exact t_374_316 ⟨⟨m_inR (by omega) (by omega), m_inR (by omega) (by omega)⟩, fun _ => k d SQ'.refl hI, fun z => absurd z (by omega)⟩
  | succ n ih =>
    intro x5 d hn h0 hw hI hW hv k
    refine t_374_316 ⟨⟨m_inR (by omega) (by omega), m_inR (by omega) (by omega)⟩, fun z => absurd z (by omega), fun _ => tifI (by omega) (by omega) ?_⟩
    refine u_311 hT.1 hI (by rw [hw]; exact ha) ⟨h0, by omega⟩ (fun v w1 w2 M d2 hM h2 s2 => ?_)
    rw [hw] at w1 w2
    refine OG.run hX hM ?_
    have ey : d2 y = d y := s2.2.2.2 y (by omega) (by omega)
    have v5 := hv x5 h0 (by omega)
    have ev : v = tknF a p x5 w := by
      unfold tknF
      by_cases c4 : x5 < 4
      · rw [if_pos c4]
        exact w1 c4
      · rw [if_neg c4]
        exact (w2 (by omega)).uniq hg hp
    refine t_374_329 ⟨⟨h0, by omega⟩, ⟨by rw [ev]; exact hm x5 h0 (by omega), by rw [ey, v5]; exact hm x5 h0 (by omega)⟩, fun _ => ?_, fun z => absurd (by rw [ey, v5, ev]) z⟩
    exact ih (x5 + 1) d2 (by omega) (by omega) (s2.1.trans hw) h2 (hW.og hX.2.2.2.2 s2) (fun i a a2 => by rw [ey]; exact hv i a a2) (fun d' s3 h3 => k d' (s2.trans s3) h3)
theorem at222 {E' : mO × tW} {b : Int} {w : Row} (hT : CLW E') (hg : GG w) : ∀ (n : Nat) (E : mO × tW) (K : tK) (a : Int) (c s : Nat) (d : mD) (v3 v4 v5 : tV), CTX E b → w 10 - a = (n : Int) → 0 ≤ a → (c : Int) ≤ 60 + a → (s : Int) ≤ 660 + 5 * a → d 770 = w → Inv2 E' d → WR b d w → (∀ M d2, OG M d2 → Inv2 E' d2 → SX E d d2 → K (.inl (some (0, 1))) M) →
    tRun E 374 (222, [.inr (10, 0), .inr (41, b), .inl (0, a), v3, v4, v5], [], c, s, d) K := by
  obtain ⟨n7, n8, n9, n10, n11, n0, n1, n2, n3, n4, n5, n6⟩ := id hg.1
  intro n
  induction n with
  | zero =>
    intro E K a c s d v3 v4 v5 hX hn a0 hc hs hw hI hW hK
    obtain ⟨q0, q1, q2, q3, q4, q5, q6⟩ := hW.eq
    exact t_374_222 ⟨⟨m_inR (by omega) (by omega), hW.1.1.m (by omega) (by omega)⟩, fun _ => ⟨Or.inr rfl, hK d d (fun _ _ => rfl) hI SX.refl⟩, fun z => absurd z (by omega)⟩
  | succ n ih =>
    intro E K a c s d v3 v4 v5 hX hn a0 hc hs hw hI hW hK
    obtain ⟨q0, q1, q2, q3, q4, q5, q6⟩ := hW.eq
    have ha : 0 ≤ a ∧ a < w 10 := by omega
    have ha2 : 0 ≤ a ∧ a < 200 := by omega
    refine t_374_222 ⟨⟨m_inR (by omega) (by omega), hW.1.1.m (by omega) (by omega)⟩, fun z => absurd z (by omega), fun _ => ?_⟩
    refine at235 hW hg ha2 (fun p x4 hp => ?_) (w 11).toNat (-1) 0 (by omega) (by decide) (Or.inl ⟨rfl, fun j x z => by omega⟩)
    refine tNew (ty := .int) 14 ⟨by decide, by decide, by decide⟩ rfl hX.1 (by decide) (by decide) ⟨by show c + 1 ≤ 261; omega, by show s + 5 ≤ 1671; omega⟩ (fun y hy hf => ?_)
    obtain ⟨y1, y9⟩ := hX.y hy hf
    have hX1 := hX.row (kd := matyp .int) (n := 5) hy hf (by decide)
    obtain ⟨g1, g2, g3, g4, g5⟩ := hW.2.2.2.2.2.2.2.1 a ha.1 ha.2
    have nb : ∀ j, 0 ≤ j → j ≤ 27 → ¬ b + j = y := fun j x z => by omega
    have m : ∀ c i, b ≤ c → c ≤ b + 27 → mInR (d c i) := fun c i x y => hW.1.1.m x y
    have f0 : FLL d (mfill d y 0) y (fun i => tknF a p i w) 0 := ⟨fun a h => by
      funext j
      exact mf_n h, fun i x z => by omega⟩
    generalize mfill d y 0 = D at *
    refine t_374_271 ⟨ha2, by decide, ?_⟩
    rw [f0.1 (b + 19) (nb 19 (by decide) (by decide))]
    have f1 := f0.step (v := d (b + 19) a) (by rw [g1]; rfl)
    generalize mset D y 0 (d (b + 19) a) = D1 at *
    refine t_374_280 ⟨ha2, by decide, ?_⟩
    rw [f1.1 (b + 20) (nb 20 (by decide) (by decide))]
    have f2 := f1.step (v := d (b + 20) a) (by rw [g2]; rfl)
    generalize mset D1 y 1 (d (b + 20) a) = D2 at *
    refine t_374_289 ⟨ha2, by decide, ?_⟩
    rw [f2.1 (b + 21) (nb 21 (by decide) (by decide))]
    have f3 := f2.step (v := d (b + 21) a) (by rw [g3]; rfl)
    generalize mset D2 y 2 (d (b + 21) a) = D3 at *
    refine t_374_298 ⟨ha2, by decide, ?_⟩
    rw [f3.1 (b + 22) (nb 22 (by decide) (by decide))]
    have f4 := f3.step (v := d (b + 22) a) (by rw [g4]; rfl)
    generalize mset D3 y 3 (d (b + 22) a) = D4 at *
    refine t_374_307 ⟨by decide, ?_⟩
    have f5 := f4.step (v := p) rfl
    generalize mset D4 y 4 p = D5 at *
    refine t_374_311 ?_
    have e5 : ∀ a, a < 900 → D5 a = d a := fun a h => f5.1 a (by omega)
    have mp : mInR p := by
      rcases hp with ⟨z, -⟩ | ⟨z1, z2, -⟩
      · rw [z]; exact m_inR (by decide) (by decide)
      · exact m_inR (by omega) (by omega)
    refine at316 hX1 hT y1 y9 (by omega) (by show s + 5 ≤ 1671; omega) hg ha hp (fun i i0 i1 => ?_) 5 0 D5 (by decide) (by decide) ((e5 770 (by decide)).trans hw) (hI.out hT e5) (WM.k (fun c x z => f5.1 c (by omega)) hW) (fun i x z => f5.2 i x z) (fun d' s3 h3 => ?_)
    · have : i = 0 ∨ i = 1 ∨ i = 2 ∨ i = 3 ∨ i = 4 := by omega
      rcases this with z | z | z | z | z
      · rw [z]; show mInR (w (1916 + 5 * a + 0)); rw [← g1]; exact m _ _ (by omega) (by omega)
      · rw [z]; show mInR (w (1916 + 5 * a + 1)); rw [← g2]; exact m _ _ (by omega) (by omega)
      · rw [z]; show mInR (w (1916 + 5 * a + 2)); rw [← g3]; exact m _ _ (by omega) (by omega)
      · rw [z]; show mInR (w (1916 + 5 * a + 3)); rw [← g4]; exact m _ _ (by omega) (by omega)
      · rw [z]; exact mp
    · have hW5 : WR b D5 w := WM.k (fun c x z => f5.1 c (by omega)) hW
      refine ih _ (Kok K) (a + 1) (c + 1) (s + 5) d' _ _ _ hX1 (by omega) (by omega) (by omega) (by omega) (s3.1.trans ((e5 770 (by decide)).trans hw)) h3 (hW5.og hX.2.2.2.2 s3) (fun M d2 hM h2 g => ?_)
      exact hK M d2 hM h2 (SX.row hy hf y9 f5.1 (s3.sx.trans g))
theorem at2 {E' : mO × tW} {b : Int} {w : Row} (hT : CLW E') (hg : GG w) (hcb : ∃ s d, Rel s d w) : ∀ (n : Nat) (E : mO × tW) (K : tK) (t : Int) (c s : Nat) (d : mD) (v3 v4 v5 : tV), CTX E b → w 9 - t = (n : Int) → 0 ≤ t → (c : Int) ≤ t → (s : Int) ≤ 11 * t → d 770 = w → Inv2 E' d → WR b d w → (∀ M d2, OG M d2 → Inv2 E' d2 → SX E d d2 → K (.inl (some (0, 1))) M) →
    tRun E 374 (2, [.inr (10, 0), .inr (41, b), .inl (0, t), v3, v4, v5], [], c, s, d) K := by
  obtain ⟨n7, n8, n9, n10, n11, n0, n1, n2, n3, n4, n5, n6⟩ := id hg.1
  intro n
  induction n with
  | zero =>
    intro E K t c s d v3 v4 v5 hX hn t0 hc hs hw hI hW hK
    obtain ⟨q0, q1, q2, q3, q4, q5, q6⟩ := hW.eq
    refine t_374_2 ⟨⟨m_inR (by omega) (by omega), hW.1.1.m (by omega) (by omega)⟩, fun _ => ?_, fun z => absurd z (by omega)⟩
    exact at222 hT hg (w 10).toNat E K 0 c s d v3 v4 v5 hX (by omega) (by decide) (by omega) (by omega) hw hI hW hK
  | succ n ih =>
    intro E K t c s d v3 v4 v5 hX hn t0 hc hs hw hI hW hK
    obtain ⟨q0, q1, q2, q3, q4, q5, q6⟩ := hW.eq
    have ht : 0 ≤ t ∧ t < w 9 := by omega
    refine t_374_2 ⟨⟨m_inR (by omega) (by omega), hW.1.1.m (by omega) (by omega)⟩, fun z => absurd z (by omega), fun _ => ?_⟩
    refine at15 hW hg (by omega) (fun x4 => ?_) (w 10).toNat 0 0 (by omega) (by decide) rfl
    refine tNew (ty := .int) 48 ⟨by decide, by decide, by decide⟩ rfl hX.1 (by decide) (by decide) ⟨by show c + 1 ≤ 261; omega, by show s + 11 ≤ 1671; omega⟩ (fun y hy hf => ?_)
    obtain ⟨y1, y9⟩ := hX.y hy hf
    have hX1 := hX.row (kd := matyp .int) (n := 11) hy hf (by decide)
    refine at53 (E' := E') (d0 := d) hX1 hT y1 y9 (by omega) (by show s + 11 ≤ 1671; omega) hg hW ht hcb (fun a h => by
      funext j
      exact mf_n h) (fun D' fD mD' => ?_)
    have e5 : ∀ a, a < 900 → D' a = d a := fun a h => fD.1 a (by omega)
    have hW5 : WR b D' w := WM.k (fun c x z => fD.1 c (by omega)) hW
    refine at184 hX1 hT y1 y9 (by omega) (by show s + 11 ≤ 1671; omega) ht mD' 11 0 D' (by decide) (by decide) ((e5 770 (by decide)).trans hw) (hI.out hT e5) hW5 (fun i x z => fD.2 i x z) (fun d' s3 h3 => ?_)
    refine ih _ (Kok K) (t + 1) (c + 1) (s + 11) d' _ _ _ hX1 (by omega) (by omega) (by omega) (by omega) (s3.1.trans ((e5 770 (by decide)).trans hw)) h3 (hW5.og hX.2.2.2.2 s3) (fun M d2 hM h2 g => ?_)
    exact hK M d2 hM h2 (SX.row hy hf y9 fD.1 (s3.sx.trans g))
theorem w_374 {E E' : mO × tW} {K : tK} {b : Int} {d : mD} (hX : CTX E b) (hT : CLW E') (h : Inv2 E' d) (hW : WR b d (d 770)) (k : ∀ M d2, OG M d2 → Inv2 E' d2 → SX E d d2 → K (.inl (some (0, 1))) M) : tCall E 374 [.inr (10, 0), .inr (41, b)] d K := by
  have n9 := h.GG.1.2.2.1
  refine t_374_0 ?_
  exact at2 hT h.GG ⟨1, d, h.1.2.2.1.2.2.2.2⟩ (d 770 9).toNat E K 0 0 0 d _ _ _ hX (by omega) (by decide) (by decide) (by decide) rfl h hW k
