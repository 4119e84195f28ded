/-! ===== World.merge ===== -/
def WX (E : mO × tW) (b : Int) (d d' : mD) : Prop := (∀ c, (c < b ∨ b + 27 < c) → (0 ≤ E.2.1 c ∨ ¬ mreal c) → d' c = d c) ∧ d' b 7 = d b 7
theorem WF.x {E : mO × tW} {b : Int} {d d' : mD} (h : WF b d d') : WX E b d d' := ⟨fun c hc _ => h.1 c hc, h.2⟩
def ML (κ : Int → Int) (y a o : Int) (w : Row) (d0 : mD) (i k : Int) (d : mD) : Prop := (∀ c, ¬ c = y → d c = d0 c) ∧ ((0 ≤ i ∧ i ≤ w (12 + 68 * a + 5)) ∧ 0 ≤ k ∧ k ≤ w (12 + 68 * o + 5)) ∧ incS κ (d y) (i + k) ∧ (∀ t, memS (d y) (i + k) t ↔ ((∃ x, 0 ≤ x ∧ x < k ∧ w (12 + 68 * o + 7 + x) = t) ∨ ∃ x, 0 ≤ x ∧ x < i ∧ w (12 + 68 * a + 7 + x) = t))
  ∧ ∀ z, 0 ≤ z → z < i + k → (∀ x, k ≤ x → x < w (12 + 68 * o + 5) → κ (d y z) < κ (w (12 + 68 * o + 7 + x))) ∧ ∀ x, i ≤ x → x < w (12 + 68 * a + 5) → κ (d y z) < κ (w (12 + 68 * a + 7 + x))
theorem mlAdd {κ : Int → Int} {n e : Int} {d : mD} {y : Int} (hn : 0 ≤ n) (h : incS κ (d y) n) (hl : ∀ z, 0 ≤ z → z < n → κ (d y z) < κ e) : incS κ (mset d y n e y) (n + 1) ∧ ∀ t, memS (mset d y n e y) (n + 1) t ↔ (memS (d y) n t ∨ e = t) := by
  refine ⟨fun i k i0 i1 i2 => ?_, fun t => ⟨fun ⟨k, k0, k1, k2⟩ => ?_, fun z => ?_⟩⟩
  · by_cases c : k = n
    · rw [ms_e rfl c, ms_i (show ¬ i = n by omega)]
      exact hl i i0 (by omega)
    · rw [ms_i c, ms_i (show ¬ i = n by omega)]
      exact h i k i0 i1 (by omega)
  · by_cases c : k = n
    · rw [ms_e rfl c] at k2
      exact Or.inr k2
    · rw [ms_i c] at k2
      exact Or.inl ⟨k, k0, by omega, k2⟩
  · rcases z with ⟨k, k0, k1, k2⟩ | z
    · exact ⟨k, k0, by omega, by rw [ms_i (show ¬ k = n by omega)]; exact k2⟩
    · exact ⟨n, hn, by omega, by rw [ms_e rfl rfl]; exact z⟩
theorem ML.pickB {κ : Int → Int} {y a o : Int} {w : Row} {d0 d : mD} {i k : Int} (h : ML κ y a o w d0 i k d) (hB : ∀ x z, 0 ≤ x → x < z → z < w (12 + 68 * o + 5) → κ (w (12 + 68 * o + 7 + x)) < κ (w (12 + 68 * o + 7 + z))) (hk : k < w (12 + 68 * o + 5)) (hx : ∀ x, i ≤ x → x < w (12 + 68 * a + 5) → κ (w (12 + 68 * o + 7 + k)) < κ (w (12 + 68 * a + 7 + x))) : ML κ y a o w d0 i (k + 1) (mset d y (i + k) (w (12 + 68 * o + 7 + k))) := by
  obtain ⟨h1, ⟨⟨b1, b2⟩, b3, b4⟩, h2, h3, h4⟩ := h
  obtain ⟨q1, q2⟩ := mlAdd (n := i + k) (e := w (12 + 68 * o + 7 + k)) (by omega) h2 (fun z z0 z1 => (h4 z z0 z1).1 k (Int.le_refl _) hk)
  refine ⟨fun c hc => ?_, ⟨⟨b1, b2⟩, by omega, by omega⟩, by rw [← Int.add_assoc]; exact q1, fun t => ?_, fun z z0 z1 => ?_⟩
  · rw [← h1 c hc]
    funext j
    exact ms_a hc
  · rw [← Int.add_assoc, q2 t, h3 t]
    constructor
    · rintro ((⟨x, x0, x1, x2⟩ | z) | z)
      · exact Or.inl ⟨x, x0, by omega, x2⟩
      · exact Or.inr z
      · exact Or.inl ⟨k, b3, by omega, z⟩
    · rintro (⟨x, x0, x1, x2⟩ | z)
      · by_cases c : x = k
        · subst c
          exact Or.inr x2
        · exact Or.inl (Or.inl ⟨x, x0, by omega, x2⟩)
      · exact Or.inl (Or.inr z)
  · by_cases c : z = i + k
    · rw [ms_e rfl c]
      exact ⟨fun x x0 x1 => hB k x b3 (by omega) x1, hx⟩
    · rw [ms_i c]
      obtain ⟨g1, g2⟩ := h4 z z0 (by omega)
      exact ⟨fun x x0 x1 => g1 x (by omega) x1, g2⟩
theorem ML.pickA {κ : Int → Int} {y a o : Int} {w : Row} {d0 d : mD} {i k : Int} (h : ML κ y a o w d0 i k d) (hA : ∀ x z, 0 ≤ x → x < z → z < w (12 + 68 * a + 5) → κ (w (12 + 68 * a + 7 + x)) < κ (w (12 + 68 * a + 7 + z))) (hi : i < w (12 + 68 * a + 5)) (hx : ∀ x, k ≤ x → x < w (12 + 68 * o + 5) → κ (w (12 + 68 * a + 7 + i)) < κ (w (12 + 68 * o + 7 + x))) : ML κ y a o w d0 (i + 1) k (mset d y (i + k) (w (12 + 68 * a + 7 + i))) := by
  obtain ⟨h1, ⟨⟨b1, b2⟩, b3, b4⟩, h2, h3, h4⟩ := h
  obtain ⟨q1, q2⟩ := mlAdd (n := i + k) (e := w (12 + 68 * a + 7 + i)) (by omega) h2 (fun z z0 z1 => (h4 z z0 z1).2 i (Int.le_refl _) hi)
  have ee : i + 1 + k = i + k + 1 := by omega
  refine ⟨fun c hc => ?_, ⟨⟨by omega, by omega⟩, b3, b4⟩, by rw [ee]; exact q1, fun t => ?_, fun z z0 z1 => ?_⟩
  · rw [← h1 c hc]
    funext j
    exact ms_a hc
  · rw [ee, q2 t, h3 t]
    constructor
    · rintro ((z | ⟨x, x0, x1, x2⟩) | z)
      · exact Or.inl z
      · exact Or.inr ⟨x, x0, by omega, x2⟩
      · exact Or.inr ⟨i, b1, by omega, z⟩
    · rintro (z | ⟨x, x0, x1, x2⟩)
      · exact Or.inl (Or.inl z)
      · by_cases c : x = i
        · subst c
          exact Or.inr x2
        · exact Or.inl (Or.inr ⟨x, x0, by omega, x2⟩)
  · by_cases c : z = i + k
    · rw [ms_e rfl c]
      exact ⟨hx, fun x x0 x1 => hA i x b1 (by omega) x1⟩
    · rw [ms_i c]
      obtain ⟨g1, g2⟩ := h4 z z0 (by omega)
      exact ⟨g1, fun x x0 x1 => g2 x (by omega) x1⟩
theorem mrgRun1 {E : mO × tW} {K : tK} {κ : Int → Int} {b y a o : Int} {d0 : mD} {w : Row} (hne : y < b ∨ b + 27 < y) (hW : WR b d0 w) (hg : GG w) (ha : 0 ≤ a ∧ a < w 7) (ho : 0 ≤ o ∧ o < w 7) (hκ : KapM κ a o w) (hA : ∀ x z, 0 ≤ x → x < z → z < w (12 + 68 * a + 5) → κ (w (12 + 68 * a + 7 + x)) < κ (w (12 + 68 * a + 7 + z))) (hB : ∀ x z, 0 ≤ x → x < z → z < w (12 + 68 * o + 5) → κ (w (12 + 68 * o + 7 + x)) < κ (w (12 + 68 * o + 7 + z))) : ∀ (n : Nat) (i k : Int) (v6 : tV) (d : mD), w (12 + 68 * a + 5) + w (12 + 68 * o + 5) - (i + k) ≤ (n : Int) → ML κ y a o w d0 i k d →
    (∀ d' u, ML κ y a o w d0 (w (12 + 68 * a + 5)) (w (12 + 68 * o + 5)) d' → tRun E 365 (194, [.inr (41, b), .inl (0, a), .inl (0, o), .inr (43, y), .inl (0, w (12 + 68 * a + 5)), .inl (0, w (12 + 68 * o + 5)), u, tu, tu], [.inl (0, 16)], 1, 61, mset (mset (mset d' (b + 5) a 0) (b + 8) a 0) (b + 5) o 0) K) →
    tRun E 365 (11, [.inr (41, b), .inl (0, a), .inl (0, o), .inr (43, y), .inl (0, i), .inl (0, k), v6, tu, tu], [], 1, 61, d) K := by
  obtain ⟨n7, n8, n9, n10, n11, n0, n1, n2, n3, n4, n5, n6⟩ := id hg.1
  have la := (hg.2.1 a ha.1 ha.2).2.2.2.2.1
  have lb := (hg.2.1 o ho.1 ho.2).2.2.2.2.1
  have ea : d0 (b + 5) a = w (12 + 68 * a + 5) := (hW.2.2.1 a ha.1 ha.2).2.2.2.2.1
  have eo : d0 (b + 5) o = w (12 + 68 * o + 5) := (hW.2.2.1 o ho.1 ho.2).2.2.2.2.1
  have a6 : 0 ≤ a ∧ a < 6 := by omega
  have o6 : 0 ≤ o ∧ o < 6 := by omega
  have m0 : mInR 0 := m_inR (by decide) (by decide)
  have m1 : mInR 1 := m_inR (by decide) (by decide)
  intro n
  induction n with
  | zero =>
    intro i k v6 d hn h kk
    obtain ⟨h1, ⟨⟨b1, b2⟩, b3, b4⟩, -⟩ := id h
    have f5 : d (b + 5) = d0 (b + 5) := h1 _ (by omega)
    have ei : i = w (12 + 68 * a + 5) := by omega
    have ek : k = w (12 + 68 * o + 5) := by omega
    refine t_365_11 ⟨a6, ⟨m_inR (by omega) (by omega), by rw [f5, ea]; exact m_inR (by omega) (by omega)⟩, fun c => absurd c (by rw [f5, ea]; omega), fun _ => ⟨o6, ⟨m_inR (by omega) (by omega), by rw [f5, eo]; exact m_inR (by omega) (by omega)⟩, fun _ => ⟨a6, ⟨Or.inl rfl, a6⟩, o6, ?_⟩, fun c => absurd c (by rw [f5, eo]; omega)⟩⟩
    rw [ei, ek]
    rw [ei, ek] at h
    exact kk d v6 h
  | succ n ih =>
    intro i k v6 d hn h kk
    obtain ⟨h1, ⟨⟨b1, b2⟩, b3, b4⟩, -⟩ := id h
    have f5 : d (b + 5) = d0 (b + 5) := h1 _ (by omega)
    have f9 : d (b + 9) = d0 (b + 9) := h1 _ (by omega)
    have f12 : d (b + 12) = d0 (b + 12) := h1 _ (by omega)
    have qa : ∀ x, 0 ≤ x → x < w (12 + 68 * a + 5) → d0 (b + 9) (61 * a + x) = w (12 + 68 * a + 7 + x) ∧ (0 ≤ w (12 + 68 * a + 7 + x) ∧ w (12 + 68 * a + 7 + x) < w 9) ∧ d0 (b + 12) (w (12 + 68 * a + 7 + x)) = w (452 + 24 * w (12 + 68 * a + 7 + x) + 2) := fun x x0 x1 => by
      have g := (hg.2.2.1 a ha.1 ha.2 x x0 x1).1
      exact ⟨hW.2.2.2.1 a ha.1 ha.2 x x0 x1, g, (hW.2.2.2.2.2.1 _ g.1 g.2).2.2.1⟩
    have qo : ∀ x, 0 ≤ x → x < w (12 + 68 * o + 5) → d0 (b + 9) (61 * o + x) = w (12 + 68 * o + 7 + x) ∧ (0 ≤ w (12 + 68 * o + 7 + x) ∧ w (12 + 68 * o + 7 + x) < w 9) ∧ d0 (b + 12) (w (12 + 68 * o + 7 + x)) = w (452 + 24 * w (12 + 68 * o + 7 + x) + 2) := fun x x0 x1 => by
      have g := (hg.2.2.1 o ho.1 ho.2 x x0 x1).1
      exact ⟨hW.2.2.2.1 o ho.1 ho.2 x x0 x1, g, (hW.2.2.2.2.2.1 _ g.1 g.2).2.2.1⟩
    -- which of both is first
    have ab : k < w (12 + 68 * o + 5) → i < w (12 + 68 * a + 5) → ¬ κ (w (12 + 68 * o + 7 + k)) = κ (w (12 + 68 * a + 7 + i)) ∧ (κ (w (12 + 68 * o + 7 + k)) < κ (w (12 + 68 * a + 7 + i)) ↔ w (452 + 24 * w (12 + 68 * o + 7 + k) + 2) ≤ w (452 + 24 * w (12 + 68 * a + 7 + i) + 2)) := fun x z => by
      have g := hκ (w (12 + 68 * o + 5) + i) k b3 (by omega) (by omega)
      rw [mgU_lo x, mgU_hi b1] at g
      exact g
    have goA : i < w (12 + 68 * a + 5) → (∀ x, k ≤ x → x < w (12 + 68 * o + 5) → κ (w (12 + 68 * a + 7 + i)) < κ (w (12 + 68 * o + 7 + x))) → tRun E 365 (11, [.inr (41, b), .inl (0, a), .inl (0, o), .inr (43, y), .inl (0, i + 1), .inl (0, k + 0), .inl (0, 0), tu, tu], [], 1, 61, mset d y (i + k) (d (b + 9) ((61 * a) + i))) K := fun x z => by
      rw [Int.add_zero, f9, (qa i b1 x).1]
      exact ih (i + 1) k _ _ (by omega) (h.pickA hA x z) kk
    have goB : k < w (12 + 68 * o + 5) → (∀ x, i ≤ x → x < w (12 + 68 * a + 5) → κ (w (12 + 68 * o + 7 + k)) < κ (w (12 + 68 * a + 7 + x))) → tRun E 365 (11, [.inr (41, b), .inl (0, a), .inl (0, o), .inr (43, y), .inl (0, i + 0), .inl (0, k + 1), .inl (0, 1), tu, tu], [], 1, 61, mset d y (i + k) (d (b + 9) ((61 * o) + k))) K := fun x z => by
      rw [Int.add_zero, f9, (qo k b3 x).1]
      exact ih i (k + 1) _ _ (by omega) (h.pickB hB x z) kk
    have at92 : k < w (12 + 68 * o + 5) → (∀ x, i ≤ x → x < w (12 + 68 * a + 5) → κ (w (12 + 68 * o + 7 + k)) < κ (w (12 + 68 * a + 7 + x))) → tRun E 365 (92, [.inr (41, b), .inl (0, a), .inl (0, o), .inr (43, y), .inl (0, i), .inl (0, k), v6, tu, tu], [], 1, 61, d) K := fun x z =>
      t_365_92 ⟨m1, fun z => absurd z (by decide), fun _ => ⟨⟨by omega, by omega⟩, ⟨by omega, by omega⟩, m1, fun z => absurd z (by decide), fun _ => ⟨m1, fun z => absurd z (by decide), fun _ => goB x z⟩⟩⟩
    have at33 : (i < w (12 + 68 * a + 5) ∨ k < w (12 + 68 * o + 5)) → tRun E 365 (33, [.inr (41, b), .inl (0, a), .inl (0, o), .inr (43, y), .inl (0, i), .inl (0, k), v6, tu, tu], [], 1, 61, d) K := fun hs => by
      refine t_365_33 ⟨o6, ⟨m_inR (by omega) (by omega), by rw [f5, eo]; exact m_inR (by omega) (by omega)⟩, fun c => ?_, fun c => ⟨a6, ⟨m_inR (by omega) (by omega), by rw [f5, ea]; exact m_inR (by omega) (by omega)⟩, fun c2 => ?_, fun c2 => ?_⟩⟩
      · rw [f5, eo] at c
        have hi : i < w (12 + 68 * a + 5) := by omega
        exact ⟨m0, fun _ => ⟨⟨by omega, by omega⟩, ⟨by omega, by omega⟩, m0, fun _ => ⟨m0, fun _ => goA hi (fun x x0 x1 => by omega), fun z => absurd rfl z⟩, fun z => absurd rfl z⟩, fun z => absurd rfl z⟩
      · rw [f5, eo] at c
        rw [f5, ea] at c2
        exact at92 c (fun x x0 x1 => by omega)
      · rw [f5, eo] at c
        rw [f5, ea] at c2
        have hi : i < w (12 + 68 * a + 5) := by omega
        obtain ⟨p1, p2, p3⟩ := qo k b3 c
        obtain ⟨r1, r2, r3⟩ := qa i b1 hi
        obtain ⟨g1, g2⟩ := ab c hi
        rw [f9, f12, p1, r1, p3, r3]
        have gp := (hg.2.2.2.1 _ p2.1 p2.2).2.2.1
        have gr := (hg.2.2.2.1 _ r2.1 r2.2).2.2.1
        refine ⟨⟨by omega, by omega⟩, ⟨p2.1, by omega⟩, ⟨by omega, by omega⟩, ⟨r2.1, by omega⟩, ⟨m_inR (by omega) (by omega), m_inR (by omega) (by omega)⟩, fun c3 => ?_, fun c3 => ?_⟩
        · have hl : κ (w (12 + 68 * a + 7 + i)) < κ (w (12 + 68 * o + 7 + k)) := by
            have : ¬ κ (w (12 + 68 * o + 7 + k)) < κ (w (12 + 68 * a + 7 + i)) := fun z => by
              have := g2.mp z
              omega
            omega
          have ga := goA hi (fun x x0 x1 => by
            by_cases e : x = k
            · rw [e]; exact hl
            · have := hB k x b3 (by omega) x1
              omega)
          rw [f9, r1] at ga
          exact ⟨m0, fun _ => ⟨⟨by omega, by omega⟩, ⟨by omega, by omega⟩, m0, fun _ => ⟨m0, fun _ => ga, fun z => absurd rfl z⟩, fun z => absurd rfl z⟩, fun z => absurd rfl z⟩
        · have hl := g2.mpr c3
          exact at92 c (fun x x0 x1 => by
            by_cases e : x = i
            · rw [e]; exact hl
            · have := hA i x b1 (by omega) x1
              omega)
    refine t_365_11 ⟨a6, ⟨m_inR (by omega) (by omega), by rw [f5, ea]; exact m_inR (by omega) (by omega)⟩, fun c => at33 (Or.inl (by rw [f5, ea] at c; exact c)), fun c => ⟨o6, ⟨m_inR (by omega) (by omega), by rw [f5, eo]; exact m_inR (by omega) (by omega)⟩, fun c2 => ⟨a6, ⟨Or.inl rfl, a6⟩, o6, ?_⟩, fun c2 => at33 (Or.inr (by rw [f5, eo] at c2; exact c2))⟩⟩
    rw [f5, ea] at c
    rw [f5, eo] at c2
    have ei : i = w (12 + 68 * a + 5) := by omega
    have ek : k = w (12 + 68 * o + 5) := by omega
    rw [ei, ek]
    rw [ei, ek] at h
    exact kk d v6 h
-- the second half: the tickets one behind the other; V is the row
def MM (κ p V : Int → Int) (b y y2 a o T : Int) (d0 : mD) (n m : Int) (d : mD) : Prop :=
  WB b d ∧ ((∀ c, ¬ c = y → ¬ c = y2 → ¬ c = b + 5 → ¬ c = b + 8 → ¬ c = b + 9 → ¬ c = b + 11 → ¬ c = b + 13 → ¬ c = b + 14 → d c = d0 c) ∧ d y = V)
  ∧ (0 ≤ m ∧ m ≤ n) ∧ (d (b + 5) o = m ∧ d (b + 5) a = 0 ∧ ∀ j, ¬ j = o → ¬ j = a → d (b + 5) j = d0 (b + 5) j)
  ∧ (d (b + 8) a = 0 ∧ ∀ j, ¬ j = a → d (b + 8) j = d0 (b + 8) j)
  ∧ (incS κ (fun k => d (b + 9) (61 * o + k)) m ∧ (∀ t, memS (fun k => d (b + 9) (61 * o + k)) m t ↔ bestS κ p V n t) ∧ ∀ j, (j < 61 * o ∨ 61 * o + 61 ≤ j) → d (b + 9) j = d0 (b + 9) j)
  ∧ (∀ t, (inU V n t → d (b + 11) t = o) ∧ (¬ inU V n t → d (b + 11) t = d0 (b + 11) t))
  ∧ (∀ t, ((inU V n t ∧ ¬ bestS κ p V n t) → d (b + 13) t = T ∧ d (b + 14) t = 2) ∧ (¬ (inU V n t ∧ ¬ bestS κ p V n t) → d (b + 13) t = d0 (b + 13) t ∧ d (b + 14) t = d0 (b + 14) t))
  ∧ ∀ c, 0 ≤ c → c < 16 → (d y2 c = 0 ∨ d y2 c = 1) ∧ (¬ d y2 c = 0 ↔ ∃ x, inU V n x ∧ p x = c)
theorem WB.out {b y i v : Int} {d : mD} (h : WB b d) (hne : y < b ∨ b + 27 < y) : WB b (mset d y i v) := h.k (fun c x z => by
  funext j
  exact ms_a (by omega))
theorem mmNew {κ p V : Int → Int} {b y y2 a o T n m : Int} {d0 d : mD} (hao : ¬ a = o) (hr : (0 ≤ V n ∧ V n < 60) ∧ 0 ≤ o ∧ o < 6) (hne : (y < b ∨ b + 27 < y) ∧ (y2 < b ∨ b + 27 < y2) ∧ ¬ y2 = y) (hn : 0 ≤ n ∧ n < 61) (hV : incS κ V (n + 1)) (hp : 0 ≤ p (V n) ∧ p (V n) < 16) (h : MM κ p V b y y2 a o T d0 n m d) (hz : d y2 (p (V n)) = 0) : MM κ p V b y y2 a o T d0 (n + 1) (m + 1) (mset (mset (mset (mset d (b + 11) (V n) o) (b + 9) (61 * o + m) (V n)) (b + 5) o (m + 1)) y2 (p (V n)) 1) := by
  obtain ⟨rB, ⟨h1, hy⟩, hm, ⟨h5, h5a, h5j⟩, ⟨h8, h8j⟩, ⟨q1, q2, q3⟩, h11, h13, had⟩ := h
  have hk : ∀ x, inU V n x → κ x < κ (V n) := fun x ⟨i, i0, i1, e⟩ => by
    rw [← e]
    exact hV i n i0 i1 (by omega)
  have nop : ∀ x, inU V n x → ¬ p x = p (V n) := fun x z e => ((had _ hp.1 hp.2).2.mpr ⟨x, z, e⟩) hz
  have hi : incS κ (fun k => mset (mset (mset (mset d (b + 11) (V n) o) (b + 9) (61 * o + m) (V n)) (b + 5) o (m + 1)) y2 (p (V n)) 1 (b + 9) (61 * o + k)) (m + 1) ∧ ∀ x, memS (fun k => mset (mset (mset (mset d (b + 11) (V n) o) (b + 9) (61 * o + m) (V n)) (b + 5) o (m + 1)) y2 (p (V n)) 1 (b + 9) (61 * o + k)) (m + 1) x ↔ (x = V n ∨ memS (fun k => d (b + 9) (61 * o + k)) m x) := by
    refine incS.ins (pos := m) q1 ⟨hm.1, Int.le_refl _⟩ (fun k k0 k1 => ?_) ?_ (fun k k0 k1 => by omega) (fun k k0 k1 => ?_) (fun k k0 k1 => by omega)
    · show mset (mset (mset (mset d (b + 11) (V n) o) (b + 9) (61 * o + m) (V n)) (b + 5) o (m + 1)) y2 (p (V n)) 1 (b + 9) (61 * o + k) = d (b + 9) (61 * o + k)
      rw [ms_a (by omega), ms_a (by omega), ms_i (by omega), ms_a (by omega)]
    · show mset (mset (mset (mset d (b + 11) (V n) o) (b + 9) (61 * o + m) (V n)) (b + 5) o (m + 1)) y2 (p (V n)) 1 (b + 9) (61 * o + m) = V n
      rw [ms_a (by omega), ms_a (by omega), ms_e rfl rfl]
    · exact hk _ ((q2 _).mp ⟨k, k0, k1, rfl⟩).1
  have hB : WB b (mset (mset (mset (mset d (b + 11) (V n) o) (b + 9) (61 * o + m) (V n)) (b + 5) o (m + 1)) y2 (p (V n)) 1) := (((rB.st (by omega) (by omega) (by omega) (by omega)).st (by omega) (by omega) (by omega) (by omega)).st (by omega) (by omega) (by omega) (by omega)).out hne.2.1
  obtain ⟨s1, s2⟩ := stNone hn.1 (fun x z => by have := hk x z; omega) q1 q2 hi (fun k k0 k1 => nop _ ((q2 _).mp ⟨k, k0, k1, rfl⟩).1)
  refine ⟨hB, ⟨fun c c1 c2 c3 c4 c5 c6 c7 c8 => ?_, ?_⟩, ⟨by omega, by omega⟩, ⟨?_, ?_, fun j j1 j2 => ?_⟩, ⟨?_, fun j j1 => ?_⟩, ⟨hi.1, s1, fun j hj => ?_⟩, fun t => ⟨fun z => ?_, fun z => ?_⟩, fun t => ⟨fun z => ?_, fun z => ?_⟩, fun c c0 c1 => ?_⟩
  · rw [← h1 c c1 c2 c3 c4 c5 c6 c7 c8]
    funext j
    rw [ms_a c2, ms_a c3, ms_a c5, ms_a c6]
  · rw [← hy]
    funext j
    rw [ms_a (fun e => hne.2.2 e.symm), ms_a (by omega), ms_a (by omega), ms_a (by omega)]
  · rw [ms_a (by omega), ms_e rfl rfl]
  · rw [ms_a (by omega), ms_i hao, ms_a (by omega), ms_a (by omega)]
    exact h5a
  · rw [ms_a (by omega), ms_i j1, ms_a (by omega), ms_a (by omega)]
    exact h5j j j1 j2
  · rw [ms_a (by omega), ms_a (by omega), ms_a (by omega), ms_a (by omega)]
    exact h8
  · rw [ms_a (by omega), ms_a (by omega), ms_a (by omega), ms_a (by omega)]
    exact h8j j j1
  · rw [ms_a (by omega), ms_a (by omega), ms_i (by omega), ms_a (by omega)]
    exact q3 j hj
  · rw [ms_a (by omega), ms_a (by omega), ms_a (by omega)]
    rcases (inU_succ hn.1).mp z with z | z
    · by_cases e : t = V n
      · exact ms_e rfl e
      · rw [ms_i e]
        exact (h11 t).1 z
    · exact ms_e rfl z
  · rw [ms_a (by omega), ms_a (by omega), ms_a (by omega), ms_i (fun e => z ((inU_succ hn.1).mpr (Or.inr e)))]
    exact (h11 t).2 (fun y => z ((inU_succ hn.1).mpr (Or.inl y)))
  · rw [ms_a (by omega), ms_a (by omega), ms_a (by omega), ms_a (by omega), ms_a (by omega), ms_a (by omega), ms_a (by omega), ms_a (by omega)]
    exact (h13 t).1 ((s2 t).mp z)
  · rw [ms_a (by omega), ms_a (by omega), ms_a (by omega), ms_a (by omega), ms_a (by omega), ms_a (by omega), ms_a (by omega), ms_a (by omega)]
    exact (h13 t).2 (fun y => z ((s2 t).mpr y))
  · by_cases e : c = p (V n)
    · rw [ms_e rfl e]
      exact ⟨Or.inr rfl, fun _ => ⟨V n, (inU_succ hn.1).mpr (Or.inr rfl), e.symm⟩, fun _ => by decide⟩
    · rw [ms_i e, ms_a (by omega), ms_a (by omega), ms_a (by omega)]
      obtain ⟨g1, g2⟩ := had c c0 c1
      refine ⟨g1, g2.trans ⟨fun ⟨x, x0, x1⟩ => ⟨x, (inU_succ hn.1).mpr (Or.inl x0), x1⟩, fun ⟨x, x0, x1⟩ => ?_⟩⟩
      rcases (inU_succ hn.1).mp x0 with z | z
      · exact ⟨x, z, x1⟩
      · rw [z] at x1
        exact absurd x1.symm e
theorem mmOld {κ p V : Int → Int} {b y y2 a o T n m : Int} {d0 d : mD} (hT : 0 ≤ T ∧ T ≤ 1199) (hr : (0 ≤ V n ∧ V n < 60) ∧ 0 ≤ o ∧ o < 6) (hne : (y < b ∨ b + 27 < y) ∧ (y2 < b ∨ b + 27 < y2) ∧ ¬ y2 = y) (hn : 0 ≤ n ∧ n < 61) (hV : incS κ V (n + 1)) (hp : 0 ≤ p (V n) ∧ p (V n) < 16) (h : MM κ p V b y y2 a o T d0 n m d) (hz : ¬ d y2 (p (V n)) = 0) : MM κ p V b y y2 a o T d0 (n + 1) m (mset (mset (mset (mset d (b + 11) (V n) o) (b + 14) (V n) 2) (b + 13) (V n) T) y2 (p (V n)) 1) := by
  obtain ⟨rB, ⟨h1, hy⟩, hm, ⟨h5, h5a, h5j⟩, ⟨h8, h8j⟩, ⟨q1, q2, q3⟩, h11, h13, had⟩ := h
  have hk : ∀ x, inU V n x → κ x < κ (V n) := fun x ⟨i, i0, i1, e⟩ => by
    rw [← e]
    exact hV i n i0 i1 (by omega)
  obtain ⟨x, hx, ex⟩ := (had _ hp.1 hp.2).2.mp hz
  obtain ⟨z, z1, z2, z3⟩ := bestS.ex (κ := κ) (p := p) hx
  obtain ⟨tw, tw0, tw1, tw2⟩ := (q2 z).mpr z1
  have tw2 : d (b + 9) (61 * o + tw) = z := tw2
  obtain ⟨s1, s2⟩ := stKeep (q := fun k => d (b + 9) (61 * o + k)) hn.1 (fun x z => by have := hk x z; omega) q1 q2 ⟨tw0, tw1⟩ (by show p (d (b + 9) (61 * o + tw)) = _; rw [tw2, z2, ex]) (by show κ (d (b + 9) (61 * o + tw)) < _; rw [tw2]; exact hk _ z1.1)
  have hB : WB b (mset (mset (mset (mset d (b + 11) (V n) o) (b + 14) (V n) 2) (b + 13) (V n) T) y2 (p (V n)) 1) := (((rB.st (by omega) (by omega) (by omega) (by omega)).st (by decide) (by omega) (by omega) (by omega)).st (by omega) (by omega) (by omega) (by omega)).out hne.2.1
  have e9 : (fun k => mset (mset (mset (mset d (b + 11) (V n) o) (b + 14) (V n) 2) (b + 13) (V n) T) y2 (p (V n)) 1 (b + 9) (61 * o + k)) = fun k => d (b + 9) (61 * o + k) := by
    funext k
    rw [ms_a (by omega), ms_a (by omega), ms_a (by omega), ms_a (by omega)]
  refine ⟨hB, ⟨fun c c1 c2 c3 c4 c5 c6 c7 c8 => ?_, ?_⟩, ⟨by omega, by omega⟩, ⟨?_, ?_, fun j j1 j2 => ?_⟩, ⟨?_, fun j j1 => ?_⟩, ⟨by rw [e9]; exact q1, by rw [e9]; exact s1, fun j hj => ?_⟩, fun t => ⟨fun z => ?_, fun z => ?_⟩, fun t => ⟨fun z => ?_, fun z => ?_⟩, fun c c0 c1 => ?_⟩
  · rw [← h1 c c1 c2 c3 c4 c5 c6 c7 c8]
    funext j
    rw [ms_a c2, ms_a c7, ms_a c8, ms_a c6]
  · rw [← hy]
    funext j
    rw [ms_a (fun e => hne.2.2 e.symm), ms_a (by omega), ms_a (by omega), ms_a (by omega)]
  · rw [ms_a (by omega), ms_a (by omega), ms_a (by omega), ms_a (by omega)]
    exact h5
  · rw [ms_a (by omega), ms_a (by omega), ms_a (by omega), ms_a (by omega)]
    exact h5a
  · rw [ms_a (by omega), ms_a (by omega), ms_a (by omega), ms_a (by omega)]
    exact h5j j j1 j2
  · rw [ms_a (by omega), ms_a (by omega), ms_a (by omega), ms_a (by omega)]
    exact h8
  · rw [ms_a (by omega), ms_a (by omega), ms_a (by omega), ms_a (by omega)]
    exact h8j j j1
  · rw [ms_a (by omega), ms_a (by omega), ms_a (by omega), ms_a (by omega)]
    exact q3 j hj
  · rw [ms_a (by omega), ms_a (by omega), ms_a (by omega)]
    rcases (inU_succ hn.1).mp z with z | z
    · by_cases e : t = V n
      · exact ms_e rfl e
      · rw [ms_i e]
        exact (h11 t).1 z
    · exact ms_e rfl z
  · rw [ms_a (by omega), ms_a (by omega), ms_a (by omega), ms_i (fun e => z ((inU_succ hn.1).mpr (Or.inr e)))]
    exact (h11 t).2 (fun y => z ((inU_succ hn.1).mpr (Or.inl y)))
  · rw [ms_a (show ¬ b + 13 = y2 by omega), ms_a (show ¬ b + 14 = y2 by omega), ms_a (show ¬ b + 14 = b + 13 by omega)]
    rcases (s2 t).mp z with z | z
    · by_cases e : t = V n
      · exact ⟨ms_e rfl e, ms_e rfl e⟩
      · simp (disch := omega) only [ms_a, ms_i]
        exact (h13 t).1 z
    · exact ⟨ms_e rfl z, ms_e rfl z⟩
  · have e : ¬ t = V n := fun e => z ((s2 t).mpr (Or.inr e))
    simp (disch := omega) only [ms_a, ms_i]
    exact (h13 t).2 (fun y => z ((s2 t).mpr (Or.inl y)))
  · by_cases e : c = p (V n)
    · rw [ms_e rfl e]
      exact ⟨Or.inr rfl, fun _ => ⟨V n, (inU_succ hn.1).mpr (Or.inr rfl), e.symm⟩, fun _ => by decide⟩
    · rw [ms_i e, ms_a (by omega), ms_a (by omega), ms_a (by omega)]
      obtain ⟨g1, g2⟩ := had c c0 c1
      refine ⟨g1, g2.trans ⟨fun ⟨x, x0, x1⟩ => ⟨x, (inU_succ hn.1).mpr (Or.inl x0), x1⟩, fun ⟨x, x0, x1⟩ => ?_⟩⟩
      rcases (inU_succ hn.1).mp x0 with z | z
      · exact ⟨x, z, x1⟩
      · rw [z] at x1
        exact absurd x1.symm e
theorem mrgRun2 {E : mO × tW} {K : tK} {κ p V : Int → Int} {b y y2 a o T N i k : Int} {d0 : mD} (hne : (y < b ∨ b + 27 < y) ∧ (y2 < b ∨ b + 27 < y2) ∧ ¬ y2 = y) (hN : N = i + k ∧ 0 ≤ N ∧ N ≤ 32) (hao : ¬ a = o) (hTr : 0 ≤ T ∧ T ≤ 1199) (ho : 0 ≤ o ∧ o < 6) (hV : incS κ V N) (hr : ∀ n, 0 ≤ n → n < N → (0 ≤ V n ∧ V n < 60) ∧ (0 ≤ p (V n) ∧ p (V n) < 16) ∧ d0 (b + 10) (V n) = p (V n)) (hT : d0 b 0 = T) : ∀ (f : Nat) (n m : Int) (v8 : tV) (d : mD), 0 ≤ n → n ≤ N → N - n ≤ (f : Int) → MM κ p V b y y2 a o T d0 n m d →
    (∀ d' m', MM κ p V b y y2 a o T d0 N m' d' → K (.inl none) d') → tRun E 365 (201, [.inr (41, b), .inl (0, a), .inl (0, o), .inr (43, y), .inl (0, i), .inl (0, k), .inr (49, y2), .inl (0, n), v8], [], 2, 77, d) K := by
  intro f
  induction f with
  | zero =>
    intro n m v8 d n0 n1 hf h kk
    have e : n = N := by omega
    refine t_365_201 ⟨⟨m_inR (by omega) (by omega), m_inR (by omega) (by omega)⟩, fun _ => kk d m (by rw [← e]; exact h), fun c => absurd c (by omega)⟩
  | succ f ih =>
    intro n m v8 d n0 n1 hf h kk
    obtain ⟨rB, ⟨h1, hy⟩, hm, ⟨h5, h5a, h5j⟩, ⟨h8, h8j⟩, ⟨q1, q2, q3⟩, h11, h13, had⟩ := id h
    refine t_365_201 ⟨⟨m_inR (by omega) (by omega), m_inR (by omega) (by omega)⟩, fun c => kk d m (by rw [← show n = N by omega]; exact h), fun c => ⟨⟨n0, by omega⟩, ?_⟩⟩
    obtain ⟨r1, r2, r3⟩ := hr n n0 (by omega)
    have f10 : d (b + 10) = d0 (b + 10) := h1 _ (by omega) (by omega) (by omega) (by omega) (by omega) (by omega) (by omega) (by omega)
    have f0 : d b = d0 b := h1 _ (by omega) (by omega) (by omega) (by omega) (by omega) (by omega) (by omega) (by omega)
    have hV1 : incS κ V (n + 1) := fun x z x0 x1 x2 => hV x z x0 x1 (by omega)
    simp (disch := omega) only [mz_e, mz_i, mz_a]
    rw [hy, f10, r3]
    have hh := (had _ r2.1 r2.2).1
    refine ⟨⟨r1.1, by omega⟩, ⟨r1.1, by omega⟩, r2, by rcases hh with z | z <;> rw [z] <;> exact m_inR (by decide) (by decide), fun c0 => ?_, fun c0 => ?_⟩
    · have k1 := ih (n + 1) (m + 1) (.inl (0, V n)) _ (by omega) (by omega) (by omega) (mmNew hao ⟨r1, ho⟩ hne ⟨n0, by omega⟩ hV1 r2 h c0) kk
      rw [h5]
      refine ⟨ho, ⟨by omega, by omega⟩, ho, ho, ⟨r1.1, by omega⟩, ⟨Or.inr trivial, r2⟩, ?_⟩
      exact k1
    · have k1 := ih (n + 1) m (.inl (0, V n)) _ (by omega) (by omega) (by omega) (mmOld hTr ⟨r1, ho⟩ hne ⟨n0, by omega⟩ hV1 r2 h c0) kk
      rw [f0, hT]
      refine ⟨⟨r1.1, by omega⟩, ⟨r1.1, by omega⟩, ⟨r1.1, by omega⟩, ⟨Or.inr trivial, r2⟩, ?_⟩
      exact k1
theorem mrgFin {κ V : Int → Int} {b y y2 a o m m2 N : Int} {d0 D d2 : mD} {w w' : Row} (hne : (y < b ∨ b + 27 < y) ∧ (y2 < b ∨ b + 27 < y2) ∧ ¬ y2 = y) (hW : WR b d0 w) (hg : GG w) (ha : 0 ≤ a ∧ a < w 7) (ho : 0 ≤ o ∧ o < w 7) (hao : ¬ a = o) (hM : MrgW κ a o m2 w w') (hU : ∀ t, inU V N t ↔ inU (mgU a o w) (w (12 + 68 * o + 5) + w (12 + 68 * a + 5)) t) (hV : incS κ V N)
    (hD : (∀ c, b ≤ c → c ≤ b + 27 → ¬ c = b + 5 → ¬ c = b + 8 → D c = d0 c) ∧ (∀ j, ¬ j = a → ¬ j = o → D (b + 5) j = d0 (b + 5) j) ∧ ∀ j, ¬ j = a → D (b + 8) j = d0 (b + 8) j) (h : MM κ (fun t => w (452 + 24 * t + 0)) V b y y2 a o (w 0) D N m d2) : WR b d2 w' := by
  obtain ⟨hN, hO, hQ, hT, hC, hK, hR⟩ := id hg
  obtain ⟨n7, n8, n9, n10, n11, n0, n1, n2, n3, n4, n5, n6⟩ := id hN
  obtain ⟨rB, ⟨a0, a1, a2, a3, a4, a5, a6⟩, rO, rQ, rP, r1, r2, rK, rS, rH, rD⟩ := hW
  obtain ⟨fr, f4, f5, f6, m0, i1, i2, i3, i4⟩ := hM
  obtain ⟨hB, ⟨h1, hy⟩, hm, ⟨h5, h5a, h5j⟩, ⟨h8, h8j⟩, ⟨q1, q2, q3⟩, h11, h13, had⟩ := h
  obtain ⟨D1, D2, D3⟩ := hD
  have S : ∀ i, (¬ i = 12 + 68 * a + 4 ∧ ¬ i = 12 + 68 * a + 5 ∧ ¬ i = 12 + 68 * o + 5 ∧ ¬ (12 + 68 * o + 7 ≤ i ∧ i < 12 + 68 * o + 68) ∧ ¬ (452 ≤ i ∧ i < 1892 ∧ ((i - 452) % 24 = 1 ∨ (i - 452) % 24 = 3 ∨ (i - 452) % 24 = 4))) → w' i = w i := fun i h => fr i h.1 h.2.1 h.2.2.1 h.2.2.2.1 h.2.2.2.2
  have fd : ∀ c, b ≤ c → c ≤ b + 27 → ¬ c = b + 5 → ¬ c = b + 8 → ¬ c = b + 9 → ¬ c = b + 11 → ¬ c = b + 13 → ¬ c = b + 14 → d2 c = d0 c := fun c x z c3 c4 c5 c6 c7 c8 => by
    rw [h1 c (by omega) (by omega) c3 c4 c5 c6 c7 c8]
    exact D1 c x z c3 c4
  have eb : ∀ t, bestS κ (fun t => w (452 + 24 * t + 0)) V N t ↔ bestS κ (fun t => w (452 + 24 * t + 0)) (mgU a o w) (w (12 + 68 * o + 5) + w (12 + 68 * a + 5)) t := fun t => by
    unfold bestS
    rw [hU t]
    exact ⟨fun z => ⟨z.1, fun x y => z.2 x ((hU x).mpr y)⟩, fun z => ⟨z.1, fun x y => z.2 x ((hU x).mp y)⟩⟩
  obtain ⟨em, eq⟩ := incS.ext q1 i1 (fun t => (q2 t).trans ((eb t).trans (i2 t).symm)) hm.1 m0
  have la := (hO a ha.1 ha.2).2.2.2.2.1
  have lb := (hO o ho.1 ho.2).2.2.2.2.1
  have tm : ∀ t, 0 ≤ t → t < w 9 → (d2 (b + 11) t = w' (452 + 24 * t + 1)) ∧ d2 (b + 13) t = w' (452 + 24 * t + 3) ∧ d2 (b + 14) t = w' (452 + 24 * t + 4) := fun t x z => by
    obtain ⟨g0, g1, g2, g3, g4⟩ := r1 t x z
    obtain ⟨j1, j2⟩ := i3 t x (by omega)
    obtain ⟨j3, j4⟩ := i4 t x (by omega)
    obtain ⟨k1, k2⟩ := h11 t
    obtain ⟨k3, k4⟩ := h13 t
    have e11 : D (b + 11) = d0 (b + 11) := D1 _ (by omega) (by omega) (by omega) (by omega)
    have e13 : D (b + 13) = d0 (b + 13) := D1 _ (by omega) (by omega) (by omega) (by omega)
    have e14 : D (b + 14) = d0 (b + 14) := D1 _ (by omega) (by omega) (by omega) (by omega)
    rw [e11] at k2
    rw [e13, e14] at k4
    refine ⟨?_, ?_⟩
    · by_cases c : inU V N t
      · rw [k1 c, j1 ((hU t).mp c)]
      · rw [k2 c, j2 (fun y => c ((hU t).mpr y)), g1]
    · by_cases c : inU V N t ∧ ¬ bestS κ (fun t => w (452 + 24 * t + 0)) V N t
      · obtain ⟨u1, u2⟩ := k3 c
        obtain ⟨u3, u4⟩ := j3 ⟨(hU t).mp c.1, fun y => c.2 ((eb t).mpr y)⟩
        exact ⟨u1.trans u3.symm, u2.trans u4.symm⟩
      · obtain ⟨u1, u2⟩ := k4 c
        obtain ⟨u3, u4⟩ := j4 (fun y => c ⟨(hU t).mpr y.1, fun z => y.2 ((eb t).mp z)⟩)
        exact ⟨by rw [u1, u3, g3], by rw [u2, u4, g4]⟩
  refine ⟨hB, ⟨?_, ?_, ?_, ?_, ?_, ?_, fun k x y => ?_⟩, fun o' x y => ?_, fun o' x y k u v => ?_, rP.k (fd _ (by omega) (by omega) (by omega) (by omega) (by omega) (by omega) (by omega) (by omega)) (fun i hi => S i (by omega)), fun t x y => ?_, r2.k (fun c x y => fd c (by omega) (by omega) (by omega) (by omega) (by omega) (by omega) (by omega) (by omega)) (fun i hi => S i (by omega)) n9, rK.k (fun c x y => fd c (by omega) (by omega) (by omega) (by omega) (by omega) (by omega) (by omega) (by omega)) (fun i hi => S i (by omega)) n10, rS.k (by rw [fd b (by omega) (by omega) (by omega) (by omega) (by omega) (by omega) (by omega) (by omega)]) (fd _ (by omega) (by omega) (by omega) (by omega) (by omega) (by omega) (by omega) (by omega)) (fun i hi => S i (by omega)) n11, rH.k (fd _ (by omega) (by omega) (by omega) (by omega) (by omega) (by omega) (by omega) (by omega)) (fun i hi => S i (by omega)) n9 n10 hK.of, rD.k (by rw [fd b (by omega) (by omega) (by omega) (by omega) (by omega) (by omega) (by omega) (by omega)]) (fun c x y => fd c (by omega) (by omega) (by omega) (by omega) (by omega) (by omega) (by omega) (by omega)) (fun i hi => S i (by omega)) n9⟩
  · rw [fd b (by omega) (by omega) (by omega) (by omega) (by omega) (by omega) (by omega) (by omega), S 0 (by omega)]; exact a0
  · rw [fd b (by omega) (by omega) (by omega) (by omega) (by omega) (by omega) (by omega) (by omega), S 1 (by omega)]; exact a1
  · rw [fd b (by omega) (by omega) (by omega) (by omega) (by omega) (by omega) (by omega) (by omega), S 7 (by omega)]; exact a2
  · rw [fd b (by omega) (by omega) (by omega) (by omega) (by omega) (by omega) (by omega) (by omega), S 8 (by omega)]; exact a3
  · rw [fd b (by omega) (by omega) (by omega) (by omega) (by omega) (by omega) (by omega) (by omega), S 9 (by omega)]; exact a4
  · rw [fd b (by omega) (by omega) (by omega) (by omega) (by omega) (by omega) (by omega) (by omega), S 10 (by omega)]; exact a5
  · rw [fd (b + 1) (by omega) (by omega) (by omega) (by omega) (by omega) (by omega) (by omega) (by omega), S (2 + k) (by omega)]; exact a6 k x y
  · rw [S 7 (by omega)] at y
    obtain ⟨g1, g2, g3, g4, g5, g6⟩ := rO o' x y
    rw [fd (b + 2) (by omega) (by omega) (by omega) (by omega) (by omega) (by omega) (by omega) (by omega), fd (b + 3) (by omega) (by omega) (by omega) (by omega) (by omega) (by omega) (by omega) (by omega), fd (b + 4) (by omega) (by omega) (by omega) (by omega) (by omega) (by omega) (by omega) (by omega), fd (b + 6) (by omega) (by omega) (by omega) (by omega) (by omega) (by omega) (by omega) (by omega), S (12 + 68 * o' + 1) (by omega), S (12 + 68 * o' + 2) (by omega), S (12 + 68 * o' + 3) (by omega), S (12 + 68 * o' + 6) (by omega)]
    refine ⟨g1, g2, g3, ?_, ?_, g6⟩
    · by_cases q : o' = a
      · rw [q, h8, f4]
      · rw [h8j o' q, D3 o' q, S (12 + 68 * o' + 4) (by omega)]
        exact g4
    · by_cases q : o' = a
      · rw [q, h5a, f5]
      · by_cases q' : o' = o
        · rw [q', h5, f6, em]
        · rw [h5j o' q' q, D2 o' q q', S (12 + 68 * o' + 5) (by omega)]
          exact g5
  · rw [S 7 (by omega)] at y
    by_cases q : o' = a
    · rw [q, f5] at v
      omega
    · by_cases q' : o' = o
      · rw [q', f6] at v
        rw [q']
        exact eq k u (by omega)
      · rw [S (12 + 68 * o' + 5) (by omega)] at v
        have gl' := (hO o' x y).2.2.2.2.1
        rw [q3 _ (by omega), D1 (b + 9) (by omega) (by omega) (by omega) (by omega), S (12 + 68 * o' + 7 + k) (by omega)]
        exact rQ o' x y k u v
  · rw [S 9 (by omega)] at y
    obtain ⟨g0, g1, g2, g3, g4⟩ := r1 t x y
    obtain ⟨u1, u2, u3⟩ := tm t x y
    rw [fd (b + 10) (by omega) (by omega) (by omega) (by omega) (by omega) (by omega) (by omega) (by omega), fd (b + 12) (by omega) (by omega) (by omega) (by omega) (by omega) (by omega) (by omega) (by omega), S (452 + 24 * t + 0) (by omega), S (452 + 24 * t + 2) (by omega)]
    exact ⟨g0, u1, g2, u2, u3⟩
theorem w_365 {E : mO × tW} {K : tK} {b a o : Int} {d : mD} {w : Row} (hF : ∃ z, mfr E.2 z) (hE : ∀ c, b ≤ c → c ≤ b + 27 → 0 ≤ E.2.1 c) (hW : WR b d w) (hg : GG w) (ha : 0 ≤ a ∧ a < w 7) (ho : 0 ≤ o ∧ o < w 7) (hao : ¬ a = o) (k : ∀ d', WR b d' (W_229 a o w) → WX E b d d' → K (.inl none) d') : tCall E 365 [.inr (41, b), .inl (0, a), .inl (0, o)] d K := by
  obtain ⟨n7, n8, n9, n10, n11, n0, n1, n2, n3, n4, n5, n6⟩ := id hg.1
  obtain ⟨κ, hκ⟩ := exKap hg ha ho hao
  have la := (hg.2.1 a ha.1 ha.2).2.2.2.2.1
  have lb := (hg.2.1 o ho.1 ho.2).2.2.2.2.1
  have hB : ∀ x z, 0 ≤ x → x < z → z < w (12 + 68 * o + 5) → κ (w (12 + 68 * o + 7 + x)) < κ (w (12 + 68 * o + 7 + z)) := fun x z x0 x1 x2 => (startQ hg ha ho hκ).1 x z x0 x1 x2
  have hA : ∀ x z, 0 ≤ x → x < z → z < w (12 + 68 * a + 5) → κ (w (12 + 68 * a + 7 + x)) < κ (w (12 + 68 * a + 7 + z)) := fun x z x0 x1 x2 => by
    have g := (hκ (w (12 + 68 * o + 5) + z) (w (12 + 68 * o + 5) + x) (by omega) (by omega) (by omega)).2
    rw [mgU_hi x0, mgU_hi (show 0 ≤ z by omega)] at g
    exact g.mpr ((hg.2.2.1 a ha.1 ha.2 z (by omega) x2).2.2.2 x x0 x1).1
  obtain ⟨m2, hM⟩ := mergeW hg ha ho hao hκ
  refine t_365_0 ?_
  refine tNew (ty := .int) 43 ⟨by decide, by decide, by decide⟩ rfl hF (by decide) (by decide) (by decide) (fun y hy hfr => ?_)
  have hn := hfr.neg
  have hne : y < b ∨ b + 27 < y := by
    by_cases c : b ≤ y ∧ y ≤ b + 27
    · have := hE y c.1 c.2
      omega
    · omega
  refine t_365_4 ?_
  refine mrgRun1 (d0 := d) (κ := κ) hne hW hg ha ho hκ hA hB (32 : Nat) 0 0 tu _ (by omega) ⟨fun c hc => ?_, ⟨⟨by decide, by omega⟩, by decide, by omega⟩, fun i k i0 i1 i2 => by omega, fun t => ⟨fun ⟨x, x0, x1, _⟩ => by omega, fun z => ?_⟩, fun z z0 z1 => by omega⟩ (fun d1 u hL => ?_)
  · funext j
    exact mf_n hc
  · rcases z with ⟨x, x0, x1, _⟩ | ⟨x, x0, x1, _⟩ <;> omega
  obtain ⟨l1, -, l2, l3, -⟩ := hL
  generalize hDD : mset (mset (mset d1 (b + 5) a 0) (b + 8) a 0) (b + 5) o 0 = D
  have Dc : ∀ c, ¬ c = b + 5 → ¬ c = b + 8 → D c = d1 c := fun c x z => by
    rw [← hDD]
    funext j
    rw [ms_a x, ms_a z, ms_a x]
  refine tNew (ty := .boolean) 49 ⟨by decide, by decide, by decide⟩ rfl (hfr.row hy) (by decide) (by decide) (by decide) (fun y2 hy2 hfr2 => ?_)
  have hn2 := hfr2.neg
  have ey : ∀ c, (tRow E y (matyp .int) 61).2.1 c = if c = y then matyp .int else E.2.1 c := fun _ => rfl
  have hyy : ¬ y2 = y := fun e => by
    rw [ey, if_pos e] at hn2
    exact absurd hn2 (by decide)
  rw [ey, if_neg hyy] at hn2
  have hne2 : y2 < b ∨ b + 27 < y2 := by
    by_cases c : b ≤ y2 ∧ y2 ≤ b + 27
    · have := hE y2 c.1 c.2
      omega
    · omega
  refine t_365_196 ?_
  have eV : mfill D y2 0 y = d1 y := by
    funext j
    rw [mf_n (fun e => hyy e.symm), Dc y (by omega) (by omega)]
  have uV : ∀ t, inU (d1 y) (w (12 + 68 * a + 5) + w (12 + 68 * o + 5)) t ↔ inU (mgU a o w) (w (12 + 68 * o + 5) + w (12 + 68 * a + 5)) t := fun t => by
    refine Iff.trans (l3 t) ⟨fun z => ?_, fun ⟨x, x0, x1, x2⟩ => ?_⟩
    · rcases z with ⟨x, x0, x1, x2⟩ | ⟨x, x0, x1, x2⟩
      · exact ⟨x, x0, by omega, by rw [mgU_lo x1]; exact x2⟩
      · exact ⟨w (12 + 68 * o + 5) + x, by omega, by omega, by rw [mgU_hi x0]; exact x2⟩
    · by_cases c : x < w (12 + 68 * o + 5)
      · rw [mgU_lo c] at x2
        exact Or.inl ⟨x, x0, c, x2⟩
      · have e : x = w (12 + 68 * o + 5) + (x - w (12 + 68 * o + 5)) := by omega
        rw [e, mgU_hi (by omega)] at x2
        exact Or.inr ⟨x - w (12 + 68 * o + 5), by omega, by omega, x2⟩
  have D10 : D (b + 10) = d (b + 10) := by rw [Dc _ (by omega) (by omega), l1 _ (by omega)]
  have hBD : WB b D := by
    rw [← hDD]
    have h0 : WB b d1 := hW.1.k (fun c x z => l1 c (by omega))
    exact ((h0.st (by decide) (by omega) (by omega) (by omega)).st8 (Or.inl rfl) (Or.inl rfl)).st (by decide) (by omega) (by omega) (by omega)
  refine mrgRun2 (κ := κ) (p := fun t => w (452 + 24 * t + 0)) (V := d1 y) (T := w 0) (N := w (12 + 68 * a + 5) + w (12 + 68 * o + 5)) (d0 := D) ⟨hne, hne2, hyy⟩ ⟨rfl, by omega, by omega⟩ hao n0 ⟨ho.1, by omega⟩ l2 (fun n x z => ?_) ?_ (32 : Nat) 0 0 tu _ (by decide) (by omega) (by omega) ⟨hBD.k (fun c x z => ?_), ⟨fun c c1 c2 _ _ _ _ _ _ => ?_, eV⟩, ⟨by decide, by decide⟩, ⟨?_, ?_, fun j j1 j2 => ?_⟩, ⟨?_, fun j j1 => ?_⟩, ⟨fun i k i0 i1 i2 => by omega, fun t => ⟨fun ⟨x, x0, x1, _⟩ => by omega, fun ⟨⟨x, x0, x1, _⟩, _⟩ => by omega⟩, fun j hj => ?_⟩, fun t => ⟨fun ⟨x, x0, x1, _⟩ => by omega, fun _ => ?_⟩, fun t => ⟨fun ⟨⟨x, x0, x1, _⟩, _⟩ => by omega, fun _ => ?_⟩, fun c c0 c1 => ?_⟩ (fun d2 m' hm => ?_)
  · -- the row's tickets
    have mem : inU (d1 y) (w (12 + 68 * a + 5) + w (12 + 68 * o + 5)) (d1 y n) := ⟨n, x, z, rfl⟩
    obtain ⟨q, q0, q1, q2⟩ := (uV _).mp mem
    have g := (mgU_f hg ha ho q0 q1).1
    rw [q2] at g
    have gt := hg.2.2.2.1 _ g.1 g.2
    rw [D10, (hW.2.2.2.2.2.1 _ g.1 g.2).1]
    exact ⟨⟨g.1, by omega⟩, ⟨gt.1.1, by show w (452 + 24 * d1 y n + 0) < 16; omega⟩, rfl⟩
  · rw [Dc b (by omega) (by omega), l1 b (by omega)]
    exact hW.2.1.1
  · funext j
    exact mf_n (by omega)
  · funext j
    exact mf_n c2
  · rw [mf_n (by omega), ← hDD]
    exact ms_e rfl rfl
  · rw [mf_n (by omega), ← hDD, ms_i hao, ms_a (by omega), ms_e rfl rfl]
  · rw [mf_n (by omega)]
  · rw [mf_n (by omega), ← hDD, ms_a (by omega), ms_e rfl rfl]
  · rw [mf_n (by omega)]
  · rw [mf_n (by omega)]
  · rw [mf_n (by omega)]
  · rw [mf_n (by omega), mf_n (by omega)]
    exact ⟨rfl, rfl⟩
  · rw [mf_e rfl]
    exact ⟨Or.inl rfl, fun z => absurd rfl z, fun ⟨x, ⟨q, q0, q1, _⟩, _⟩ => by omega⟩
  · show K (.inl none) d2
    have fin := mrgFin (w' := W_229 a o w) ⟨hne, hne2, hyy⟩ hW hg ha ho hao hM uV l2 ⟨fun c x z c5 c8 => by rw [Dc c c5 c8, l1 c (by omega)], fun j j1 j2 => by rw [← hDD, ms_i j2, ms_a (by omega), ms_i j1, l1 _ (by omega)], fun j j1 => by rw [← hDD, ms_a (by omega), ms_i j1, ms_a (by omega), l1 _ (by omega)]⟩ hm
    obtain ⟨-, ⟨f1, -⟩, -⟩ := hm
    refine k d2 fin ⟨fun c hc hr => ?_, ?_⟩
    · have c1 : ¬ c = y := fun e => by
        rw [e] at hr
        rcases hr with z | z
        · omega
        · exact z hy
      have c2 : ¬ c = y2 := fun e => by
        rw [e] at hr
        rcases hr with z | z
        · omega
        · exact z hy2
      rw [f1 c c1 c2 (by omega) (by omega) (by omega) (by omega) (by omega) (by omega), Dc c (by omega) (by omega), l1 c c1]
    · rw [f1 b (by omega) (by omega) (by omega) (by omega) (by omega) (by omega) (by omega) (by omega), Dc b (by omega) (by omega), l1 b (by omega)]
