/-! ===== World.lostHours ===== -/
-- what a method leaves that makes rows for itself
def tExt (E : mO × tW) (d d' : mD) : Prop := ∀ a, (0 ≤ E.2.1 a ∨ ¬ mreal a) → d' a = d a
theorem tExt.refl {E : mO × tW} {d : mD} : tExt E d d := fun _ _ => rfl
theorem tExt.trans {E : mO × tW} {d d1 d2 : mD} (h : tExt E d d1) (g : tExt E d1 d2) : tExt E d d2 := fun a ha => (g a ha).trans (h a ha)
theorem tExt.gh {E : mO × tW} {m pc c s : Nat} {L S : List tV} {d d' : mD} {K : tK} (h : tExt E d d') (k : tRun E m (pc, L, S, c, s, d) K) : tRun E m (pc, L, S, c, s, d') K := tRun_gh (fun a ha => (h a (Or.inl ha)).symm) k
def LsH (w : Row) (p t x : Int) : Prop := w (452 + 24 * t + 0) = p ∧ w (452 + 24 * t + 4) = 1 ∧ w (452 + 24 * t + 2) + w 2 ≤ x ∧ x < w (452 + 24 * t + 3)
def LuH (w : Row) (p t h x : Int) : Prop := (∃ u, 0 ≤ u ∧ u < t ∧ LsH w p u x) ∨ (LsH w p t x ∧ x < h)
def LiH (b y : Int) (d0 : mD) (w : Row) (p t h many : Int) (d : mD) : Prop := (∀ a, ¬ a = y → d a = d0 a) ∧ (∀ x, 0 ≤ x → x < 1300 → (d y x = 0 ∨ d y x = 1) ∧ (¬ d y x = 0 ↔ LuH w p t h x)) ∧ many = csum (fun x => if d y x = 0 then 0 else if d0 (b + 18) (1300 * p + x) = 0 then 1 else 0) 1300
theorem LiH.step {b y : Int} {d0 d : mD} {w : Row} {p t h many z : Int} (hI : LiH b y d0 w p t h many d) (hL : LsH w p t h) (h0 : 0 ≤ h ∧ h < 1300) (hz : z = if d y h = 0 then (if d0 (b + 18) (1300 * p + h) = 0 then 1 else 0) else 0) : LiH b y d0 w p t (h + 1) (many + z) (mset d y h 1) := by
  obtain ⟨i1, i2, i3⟩ := hI
  refine ⟨fun a ha => ?_, fun x x0 x1 => ?_, ?_⟩
  · rw [← i1 a ha]
    funext j
    exact ms_a ha
  · by_cases c : x = h
    · subst c
      rw [ms_e rfl rfl]
      exact ⟨Or.inr rfl, fun _ => Or.inr ⟨hL, by omega⟩, fun _ => by decide⟩
    · rw [ms_i c]
      obtain ⟨g1, g2⟩ := i2 x x0 x1
      refine ⟨g1, g2.trans ⟨fun q => ?_, fun q => ?_⟩⟩
      · rcases q with q | ⟨q1, q2⟩
        · exact Or.inl q
        · exact Or.inr ⟨q1, by omega⟩
      · rcases q with q | ⟨q1, q2⟩
        · exact Or.inl q
        · exact Or.inr ⟨q1, by omega⟩
  · rw [csum_upd (f := fun x => if mset d y h 1 y x = 0 then 0 else if d0 (b + 18) (1300 * p + x) = 0 then 1 else 0) (g := fun x => if d y x = 0 then 0 else if d0 (b + 18) (1300 * p + x) = 0 then 1 else 0) (n := 1300) (k := h) h0.1 (by omega) (fun i a c e => by
      show (if mset d y h 1 y i = 0 then (0 : Int) else if d0 (b + 18) (1300 * p + i) = 0 then 1 else 0) = if d y i = 0 then 0 else if d0 (b + 18) (1300 * p + i) = 0 then 1 else 0
      rw [ms_i e]), ← i3, ms_e rfl rfl, hz]
    rw [if_neg (show ¬ (1 : Int) = 0 by decide)]
    by_cases c : d y h = 0
    · rw [if_pos c, if_pos c]
      omega
    · rw [if_neg c, if_neg c]
      omega
theorem LiH.next {b y : Int} {d0 d : mD} {w : Row} {p t h many : Int} (hI : LiH b y d0 w p t h many d) (t0 : 0 ≤ t) (hn : ∀ x, LsH w p t x → x < h) : LiH b y d0 w p (t + 1) (w (452 + 24 * (t + 1) + 2) + w 2) many d := by
  obtain ⟨i1, i2, i3⟩ := hI
  refine ⟨i1, fun x x0 x1 => ?_, i3⟩
  obtain ⟨g1, g2⟩ := i2 x x0 x1
  refine ⟨g1, g2.trans ⟨fun q => ?_, fun q => ?_⟩⟩
  · rcases q with ⟨u, u0, u1, u2⟩ | ⟨q1, q2⟩
    · exact Or.inl ⟨u, u0, by omega, u2⟩
    · exact Or.inl ⟨t, t0, by omega, q1⟩
  · rcases q with ⟨u, u0, u1, u2⟩ | ⟨q1, q2⟩
    · by_cases c : u = t
      · subst c
        exact Or.inr ⟨u2, hn x u2⟩
      · exact Or.inl ⟨u, u0, by omega, u2⟩
    · have := q1.2.2.1
      omega
theorem LiH.fr {b y : Int} {d0 d : mD} {w : Row} {p t h many : Int} (hI : LiH b y d0 w p t h many d) (hne : y < b ∨ b + 27 < y) {c : Int} (h0 : 0 ≤ c) (h1 : c ≤ 27) : d (b + c) = d0 (b + c) := hI.1 (b + c) (by omega)
theorem endH {w : Row} {t : Int} (hg : GG w) (ht : 0 ≤ t ∧ t < w 9) : w (452 + 24 * t + 3) ≤ 1199 ∧ 0 ≤ w (452 + 24 * t + 2) ∧ w (452 + 24 * t + 2) ≤ 1199 := by
  obtain ⟨-, -, -, -, -, n0, -⟩ := hg.1
  obtain ⟨-, -, g2, -, g3, g4⟩ := hg.2.2.2.1 t ht.1 ht.2
  refine ⟨?_, by omega, by omega⟩
  by_cases c : w (452 + 24 * t + 4) = 0
  · have := (g3 c).1
    omega
  · have := g4 c
    omega
theorem LsH.lt {w : Row} {p t x : Int} (hg : GG w) (ht : 0 ≤ t ∧ t < w 9) (h : LsH w p t x) : x < w 0 := by
  have g := (hg.2.2.2.1 t ht.1 ht.2).2.2.2.2.2 (by rw [h.2.1]; decide)
  exact Int.lt_of_lt_of_le h.2.2.2 g.2
theorem lhIn {E : mO × tW} {K : tK} {b y p t : Int} {d0 : mD} {w : Row} (hne : y < b ∨ b + 27 < y) (hW : WR b d0 w) (hg : GG w) (hp : 0 ≤ p ∧ p < 16) (ht : 0 ≤ t ∧ t < w 9) : ∀ (n : Nat) (h many : Int) (d : mD), 0 ≤ h → h ≤ 1300 → w (452 + 24 * t + 3) - h ≤ (n : Int) → w (452 + 24 * t + 2) + w 2 ≤ h → LiH b y d0 w p t h many d →
    (∀ many' d' u, LiH b y d0 w p (t + 1) (w (452 + 24 * (t + 1) + 2) + w 2) many' d' → tRun E 366 (12, [.inr (41, b), .inl (0, p), .inl (0, 1), .inr (50, y), .inl (0, many'), .inl (0, t + 1), .inl (0, u)], [], 1, 1300, d') K) → tRun E 366 (37, [.inr (41, b), .inl (0, p), .inl (0, 1), .inr (50, y), .inl (0, many), .inl (0, t), .inl (0, h)], [], 1, 1300, d) K := by
  obtain ⟨n7, n8, n9, n10, n11, n0, n1, n2, n3, n4, n5, n6⟩ := id hg.1
  obtain ⟨w0, w1, w2, w3, w4⟩ := hW.2.2.2.2.2.1 t ht.1 ht.2
  have en := (endH hg ht).1
  have hM : ∀ c i : Int, 0 ≤ c → c ≤ 27 → mInR (d0 (b + c) i) := fun c i x y => hW.1.1.m (by omega) (by omega)
  intro n
  induction n with
  | zero =>
    intro h many d h0 h9 hn hl hI kk
    have fr : ∀ c : Int, 0 ≤ c → c ≤ 27 → d (b + c) = d0 (b + c) := fun c x z => hI.fr hne x z
    have nx1 := kk many d h (hI.next ht.1 (fun x z => by have := z.2.2.2; omega))
    refine t_366_37 ⟨⟨ht.1, by omega⟩, ⟨by rw [fr 10 (by decide) (by decide)]; exact hM 10 t (by decide) (by decide), m_inR (by omega) (by omega)⟩, fun _ => nx1, fun c0 => ⟨⟨ht.1, by omega⟩, ⟨by rw [fr 14 (by decide) (by decide)]; exact hM 14 t (by decide) (by decide), m_inR (by decide) (by decide)⟩, fun _ => nx1, fun c4 => ⟨⟨ht.1, by omega⟩, ⟨m_inR (by omega) (by omega), by rw [fr 13 (by decide) (by decide)]; exact hM 13 t (by decide) (by decide)⟩, fun _ => nx1, fun c3 => ?_⟩⟩⟩
    rw [fr 13 (by decide) (by decide), w3] at c3
    omega
  | succ n ih =>
    intro h many d h0 h9 hn hl hI kk
    have fr : ∀ c : Int, 0 ≤ c → c ≤ 27 → d (b + c) = d0 (b + c) := fun c x z => hI.fr hne x z
    refine t_366_37 ⟨⟨ht.1, by omega⟩, ⟨by rw [fr 10 (by decide) (by decide)]; exact hM 10 t (by decide) (by decide), m_inR (by omega) (by omega)⟩, fun c0 => ?_, fun c0 => ⟨⟨ht.1, by omega⟩, ⟨by rw [fr 14 (by decide) (by decide)]; exact hM 14 t (by decide) (by decide), m_inR (by decide) (by decide)⟩, fun c4 => ?_, fun c4 => ⟨⟨ht.1, by omega⟩, ⟨m_inR (by omega) (by omega), by rw [fr 13 (by decide) (by decide)]; exact hM 13 t (by decide) (by decide)⟩, fun c3 => ?_, fun c3 => ?_⟩⟩⟩
    · rw [fr 10 (by decide) (by decide), w0] at c0
      exact kk many d h (hI.next ht.1 (fun x z => absurd z.1 c0))
    · rw [fr 14 (by decide) (by decide), w4] at c4
      exact kk many d h (hI.next ht.1 (fun x z => absurd z.2.1 c4))
    · rw [fr 13 (by decide) (by decide), w3] at c3
      exact kk many d h (hI.next ht.1 (fun x z => by have := z.2.2.2; omega))
    · rw [fr 10 (by decide) (by decide), w0] at c0
      rw [fr 14 (by decide) (by decide), w4] at c4
      rw [fr 13 (by decide) (by decide), w3] at c3
      have hL : LsH w p t h := ⟨c0, c4, hl, c3⟩
      have go : ∀ z, (z = if d y h = 0 then (if d0 (b + 18) (1300 * p + h) = 0 then 1 else 0) else 0) → tRun E 366 (37, [.inr (41, b), .inl (0, p), .inl (0, 1), .inr (50, y), .inl (0, many + z), .inl (0, t), .inl (0, h + 1)], [], 1, 1300, mset d y h 1) K := fun z hz => ih (h + 1) (many + z) _ (by omega) (by omega) (by omega) (by omega) (hI.step hL ⟨h0, by omega⟩ hz) kk
      have mh : mInR (d y h) := by
        rcases (hI.2.1 h h0 (by omega)).1 with z | z <;> rw [z] <;> exact m_inR (by decide) (by decide)
      refine ⟨⟨h0, by omega⟩, mh, fun c1 => ⟨⟨Or.inr rfl, h0, by omega⟩, go 0 (by rw [if_neg c1])⟩, fun c1 => ⟨m_inR (by decide) (by decide), fun z => absurd z (by decide), fun _ => ⟨⟨by omega, by omega⟩, by rw [fr 18 (by decide) (by decide)]; exact hM 18 _ (by decide) (by decide), fun c2 => ⟨⟨Or.inr rfl, h0, by omega⟩, go 1 (by rw [if_pos c1, if_pos (by rw [← fr 18 (by decide) (by decide)]; exact c2)])⟩, fun c2 => ⟨⟨Or.inr rfl, h0, by omega⟩, go 0 (by rw [if_pos c1, if_neg (by rw [← fr 18 (by decide) (by decide)]; exact c2)])⟩⟩⟩⟩
theorem lhOut {E : mO × tW} {K : tK} {b y p : Int} {d0 : mD} {w : Row} (hne : y < b ∨ b + 27 < y) (hW : WR b d0 w) (hg : GG w) (hp : 0 ≤ p ∧ p < 16) : ∀ (n : Nat) (t many : Int) (v6 : tV) (d : mD), 0 ≤ t → t ≤ w 9 → w 9 - t ≤ (n : Int) → LiH b y d0 w p t (w (452 + 24 * t + 2) + w 2) many d →
    (∀ many' d', LiH b y d0 w p (w 9) (w (452 + 24 * w 9 + 2) + w 2) many' d' → K (.inl (some (0, many'))) d') → tRun E 366 (12, [.inr (41, b), .inl (0, p), .inl (0, 1), .inr (50, y), .inl (0, many), .inl (0, t), v6], [], 1, 1300, d) K := by
  obtain ⟨n7, n8, n9, n10, n11, n0, n1, n2, n3, n4, n5, n6⟩ := id hg.1
  have a4 : d0 b 4 = w 9 := hW.2.1.2.2.2.2.1
  have e0 : d0 (b + 1) 0 = w 2 := hW.2.1.2.2.2.2.2.2 0 (by decide) (by decide)
  intro n
  induction n with
  | zero =>
    intro t many v6 d t0 t9 hn hI kk
    have f0 : d b = d0 b := hI.1 b (by omega)
    exact t_366_12 ⟨⟨m_inR (by omega) (by omega), by rw [f0, a4]; exact m_inR (by omega) (by omega)⟩, fun _ => kk many d (by rw [← show t = w 9 by omega]; exact hI), fun c => absurd c (by rw [f0, a4]; omega)⟩
  | succ n ih =>
    intro t many v6 d t0 t9 hn hI kk
    have f0 : d b = d0 b := hI.1 b (by omega)
    refine t_366_12 ⟨⟨m_inR (by omega) (by omega), by rw [f0, a4]; exact m_inR (by omega) (by omega)⟩, fun c => kk many d (by rw [f0, a4] at c; rw [← show t = w 9 by omega]; exact hI), fun c => ⟨⟨t0, by omega⟩, by decide, ?_⟩⟩
    rw [f0, a4] at c
    obtain ⟨w0, w1, w2, w3, w4⟩ := hW.2.2.2.2.2.1 t t0 c
    have en := endH hg ⟨t0, c⟩
    rw [hI.1 (b + 12) (by omega), hI.1 (b + 1) (by omega), w2, e0]
    exact lhIn hne hW hg hp ⟨t0, c⟩ (1300 : Nat) (w (452 + 24 * t + 2) + w 2) many d (by omega) (by omega) (by omega) (Int.le_refl _) hI (fun many' d' u hI' => ih (t + 1) many' _ d' (by omega) (by omega) (by omega) hI' kk)
theorem csum_tail {f : Int → Int} {n : Nat} : ∀ m : Nat, (∀ i : Int, (n : Int) ≤ i → i < (n : Int) + (m : Int) → f i = 0) → csum f (n + m) = csum f n
  | 0, _ => rfl
  | m + 1, h => by
    show csum f (n + m) + f ((n + m : Nat) : Int) = csum f n
    rw [csum_tail m (fun i a c => h i a (by omega)), h _ (by omega) (by omega)]
    omega
theorem w_366 {E : mO × tW} {K : tK} {b p : Int} {d : mD} {w : Row} (hF : ∃ z, mfr E.2 z) (hE : ∀ c, b ≤ c → c ≤ b + 27 → 0 ≤ E.2.1 c) (hW : WR b d w) (hg : GG w) (hp : 0 ≤ p ∧ p < 16) (k : ∀ d', tExt E d d' → K (.inl (some (0, V_244 p 1 w))) d') : tCall E 366 [.inr (41, b), .inl (0, p), .inl (0, 1)] d K := by
  obtain ⟨n7, n8, n9, n10, n11, n0, n1, n2, n3, n4, n5, n6⟩ := id hg.1
  refine t_366_0 ?_
  refine tNew (ty := .boolean) 50 ⟨by decide, by decide, by decide⟩ rfl hF (by decide) (by decide) (by decide) (fun nx hr hfr => ?_)
  have hn := hfr.neg
  have hne : nx < b ∨ b + 27 < nx := by
    by_cases c : b ≤ nx ∧ nx ≤ b + 27
    · have := hE nx c.1 c.2
      omega
    · omega
  refine t_366_5 ?_
  refine lhOut (d0 := d) hne hW hg hp (60 : Nat) 0 0 tu _ (by decide) n9.1 (by omega) ⟨fun a ha => ?_, fun x x0 x1 => ?_, ?_⟩ (fun many' d' hI => ?_)
  · funext j
    exact mf_n ha
  · rw [mf_e rfl]
    refine ⟨Or.inl rfl, fun z => absurd rfl z, fun z => ?_⟩
    rcases z with ⟨u, u0, u1, -⟩ | ⟨z1, z2⟩
    · omega
    · have := z1.2.2.1
      omega
  · symm
    refine csum_zero (fun i x0 x1 => ?_)
    show (if mfill d nx 0 nx i = 0 then (0 : Int) else if d (b + 18) (1300 * p + i) = 0 then 1 else 0) = 0
    rw [if_pos (mf_e rfl)]
  · show K (.inl (some (0, many'))) d'
    obtain ⟨i1, i2, i3⟩ := hI
    have ev : many' = V_244 p 1 w := by
      rw [i3, v244 hg]
      have hs : csum (fun x => if d' nx x = 0 then 0 else if d (b + 18) (1300 * p + x) = 0 then 1 else 0) ((w 0).toNat + (1300 - (w 0).toNat)) = csum (fun x => if d' nx x = 0 then 0 else if d (b + 18) (1300 * p + x) = 0 then 1 else 0) (w 0).toNat := csum_tail _ (fun i x0 x1 => by
        show (if d' nx i = 0 then (0 : Int) else if d (b + 18) (1300 * p + i) = 0 then 1 else 0) = 0
        have g2 := (i2 i (by omega) (by omega)).2
        by_cases c : d' nx i = 0
        · rw [if_pos c]
        · rcases g2.mp c with ⟨u, u0, u1, u2⟩ | ⟨z1, z2⟩
          · have := u2.lt hg ⟨u0, u1⟩
            omega
          · have := z1.2.2.1
            omega)
      rw [show (w 0).toNat + (1300 - (w 0).toNat) = 1300 by omega] at hs
      rw [hs]
      refine csum_congr (fun i x0 x1 => ?_)
      show (if d' nx i = 0 then (0 : Int) else if d (b + 18) (1300 * p + i) = 0 then 1 else 0) = fL p 1 w i
      obtain ⟨g1, g2⟩ := i2 i x0 (by omega)
      obtain ⟨h1, h2⟩ := hW.2.2.2.2.2.2.2.2.2.1 p i hp.1 hp.2 x0 (by omega)
      obtain ⟨v1, v2⟩ := v216 (p := p) (h := i) n10
      have v3 := v243 (p := p) (h := i) hg
      have el : (∃ u, 0 ≤ u ∧ u < w 9 ∧ LsH w p u i) ↔ Lw w p i := Iff.rfl
      have g3 : ¬ d' nx i = 0 ↔ Lw w p i := by
        refine g2.trans ⟨fun z => ?_, fun z => Or.inl (el.mpr z)⟩
        rcases z with z | ⟨z1, z2⟩
        · exact el.mp z
        · have := z1.2.2.1
          omega
      unfold fL
      rw [if_neg (show ¬ (1 : Int) = 0 by decide)]
      by_cases c : d' nx i = 0
      · rw [if_pos c, if_pos (v3.mpr (fun z => g3.mpr z c))]
      · rw [if_neg c, if_neg (fun z => v3.mp z (g3.mp c))]
        by_cases c2 : d (b + 18) (1300 * p + i) = 0
        · rw [if_pos c2, if_pos (v2.mpr (fun z => h2.mpr z c2))]
        · rw [if_neg c2, if_neg (fun z => v2.mp z (h2.mp c2))]
    rw [ev]
    exact k d' (fun a ha => i1 a (fun e => by rw [e] at ha; rcases ha with z | z; omega; exact z hr))
