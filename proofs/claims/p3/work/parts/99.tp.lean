/-! ===== the reference's numbers ===== -/
def FrR (e e' : mD) : Prop := (∀ k, ¬ k = 769 → e' k = e k) ∧ ∀ j, j < 10 ∨ 16 < j → e' 769 j = e 769 j
theorem FrR.refl {e : mD} : FrR e e := ⟨fun _ _ => rfl, fun _ _ => rfl⟩
theorem FrR.trans {a b c : mD} (h : FrR a b) (g : FrR b c) : FrR a c := ⟨fun k hk => (g.1 k hk).trans (h.1 k hk), fun j hj => (g.2 j hj).trans (h.2 j hj)⟩
theorem FrR.set {e : mD} {j v : Int} (hj : 10 ≤ j ∧ j ≤ 16) : FrR e (mset e 769 j v) := ⟨fun k hk => by funext i; exact ms_a hk, fun i hi => ms_i (by omega)⟩
-- it is bad: with this code at this place
def BadR (c p : Int) (e : mD) : Prop := e 769 13 = 1 ∧ e 769 11 = c ∧ e 769 12 = p
theorem flt188 {c p : Int} {e : mD} (h : e 769 13 = 0) : BadR c p (g_188 769 c p e) ∧ FrR e (g_188 769 c p e) := by
  unfold g_188
  rw [if_pos h]
  refine ⟨⟨?_, ?_, ?_⟩, ((FrR.set (by decide)).trans (FrR.set (by decide))).trans (FrR.set (by decide))⟩
  · rw [ms_i (by decide), ms_i (by decide), ms_e rfl rfl]
  · rw [ms_i (by decide), ms_e rfl rfl]
  · exact ms_e rfl rfl
def NumR (b : Int → Int) (L lo hi a z : Int) (e : mD) (r : Int × mD) : Prop := FrR e r.2 ∧ ((z = a ∧ r.1 = 0 ∧ BadR 1 a r.2) ∨ (5 < z - a ∧ r.1 = 0 ∧ BadR 1 a r.2) ∨ (a < z ∧ z - a ≤ 5 ∧ ¬ (lo ≤ dv b a (z - a).toNat ∧ dv b a (z - a).toNat ≤ hi) ∧ r.1 = 0 ∧ BadR 2 a r.2) ∨ (a < z ∧ z - a ≤ 5 ∧ (lo ≤ dv b a (z - a).toNat ∧ dv b a (z - a).toNat ≤ hi) ∧ r.1 = dv b a (z - a).toNat ∧ r.2 769 13 = 0 ∧ r.2 769 10 = z))
theorem l197 {b : Int → Int} {L a lo hi : Int} : ∀ (n : Nat) (x : Int) (e : mD), TX b L e → 0 ≤ x → 0 ≤ a → e 769 10 = a + x → e 769 10 ≤ L → L - e 769 10 ≤ (n : Int) → e 769 13 = 0 → e 769 15 = a → (x ≤ 5 → e 769 14 = dv b a x.toNat) → ∃ z, RU isDi b L (a + x) z ∧ NumR b L lo hi a z e (lp_197_28 769 lo hi n x e) := by
  have stop : ∀ (x : Int) (e : mD) (r : Int → mD → Int × mD), 0 ≤ x → e 769 10 = a + x → e 769 10 ≤ L → e 769 13 = 0 → e 769 15 = a → (x ≤ 5 → e 769 14 = dv b a x.toNat) → v_191 769 (e 769 10) e = 0 → (a + x < L → ¬ isDi (b (a + x))) → ∃ z, RU isDi b L (a + x) z ∧ NumR b L lo hi a z e (st_197_28 769 lo hi r x e) := fun x e r h0 ha h1 h13 h15 hv v hs => by
    refine ⟨a + x, ⟨by omega, by omega, fun j x y => by omega, hs⟩, ?_⟩
    obtain ⟨f1, f2⟩ := flt188 (c := 1) (p := a) h13
    obtain ⟨f3, f4⟩ := flt188 (c := 2) (p := a) h13
    unfold st_197_28
    rw [if_pos v, h15]
    have n1 : ¬ g_188 769 1 a e 769 13 = 0 := by rw [f1.1]; decide
    have n2 : ¬ g_188 769 2 a e 769 13 = 0 := by rw [f3.1]; decide
    by_cases c0 : x = 0
    · rw [if_pos c0, if_neg n1]
      exact ⟨f2, Or.inl ⟨by omega, rfl, f1⟩⟩
    · rw [if_neg c0]
      by_cases c5 : 5 < x
      · rw [if_pos c5, if_neg n1]
        exact ⟨f2, Or.inr (Or.inl ⟨by omega, rfl, f1⟩)⟩
      · rw [if_neg c5, v176, hv (by omega)]
        have ex : (a + x - a).toNat = x.toNat := by rw [show a + x - a = x by omega]
        by_cases q : lo ≤ dv b a x.toNat ∧ dv b a x.toNat ≤ hi
        · rw [if_pos q, if_neg (by decide), if_pos h13]
          exact ⟨FrR.refl, Or.inr (Or.inr (Or.inr ⟨by omega, by omega, by rw [ex]; exact q, by rw [ex], h13, ha⟩))⟩
        · rw [if_neg q, if_pos rfl, if_neg n2]
          exact ⟨f4, Or.inr (Or.inr (Or.inl ⟨by omega, by omega, by rw [ex]; exact q, rfl, f3⟩))⟩
  intro n
  induction n with
  | zero =>
    intro x e h h0 a0 ha h1 hn h13 h15 hv
    rcases h.di (i := e 769 10) (by omega) with ⟨v, g⟩ | ⟨v, g, -⟩
    · exact stop x e _ h0 ha h1 h13 h15 hv v (by rw [← ha]; exact g)
    · omega
  | succ n ih =>
    intro x e h h0 a0 ha h1 hn h13 h15 hv
    rcases h.di (i := e 769 10) (by omega) with ⟨v, g⟩ | ⟨v, g1, g2, g3⟩
    · exact stop x e _ h0 ha h1 h13 h15 hv v (by rw [← ha]; exact g)
    · have st : lp_197_28 769 lo hi (n + 1) x e = if x < 5 then lp_197_28 769 lo hi n (x + 1) (mset (mset e 769 14 (10 * e 769 14 + e 776 (e 769 10) - 48)) 769 10 (e 769 10 + 1)) else lp_197_28 769 lo hi n (x + 1) (mset (mset e 769 14 (e 769 14)) 769 10 (e 769 10 + 1)) := by
        show st_197_28 769 lo hi _ x e = _
        unfold st_197_28
        rw [if_neg (by omega), show (769 : Int) + 7 = 776 by decide]
      have go : ∀ v, (x + 1 ≤ 5 → v = dv b a (x + 1).toNat) → ∃ z, RU isDi b L (a + x) z ∧ NumR b L lo hi a z e (lp_197_28 769 lo hi n (x + 1) (mset (mset e 769 14 v) 769 10 (e 769 10 + 1))) := fun v hv' => by
        have e10 : mset (mset e 769 14 v) 769 10 (e 769 10 + 1) 769 10 = e 769 10 + 1 := ms_e rfl rfl
        obtain ⟨z, q1, q2, q3⟩ := ih (x + 1) (mset (mset e 769 14 v) 769 10 (e 769 10 + 1)) (h.fr (by rw [ms_i (by decide), ms_i (by decide)]) (by funext j; rw [ms_a (by decide), ms_a (by decide)])) (by omega) a0 (by omega) (by omega) (by omega) (by rw [ms_i (by decide), ms_i (by decide)]; exact h13) (by rw [ms_i (by decide), ms_i (by decide)]; exact h15) (fun y => by rw [ms_i (by decide), ms_e rfl rfl]; exact hv' y)
        refine ⟨z, ⟨by have := q1.1; omega, q1.2.1, fun j u y => ?_, q1.2.2.2⟩, ((FrR.set (by decide)).trans (FrR.set (by decide))).trans q2, q3⟩
        by_cases y2 : j = a + x
        · rw [y2, ← ha]; exact g2
        · exact q1.2.2.1 j (by omega) y
      by_cases c : x < 5
      · rw [if_pos c] at st
        rw [st]
        refine go _ (fun _ => ?_)
        rw [show (x + 1).toNat = x.toNat + 1 by omega, hv (by omega), g3]
        show _ = dv b a x.toNat * 10 + b (a + (x.toNat : Int)) - 48
        rw [show a + (x.toNat : Int) = e 769 10 by omega]
        omega
      · rw [if_neg c] at st
        rw [st]
        exact go _ (fun z => by omega)
theorem n197 {b : Int → Int} {L lo hi : Int} {e : mD} (h : TX b L e) (h0 : 0 ≤ e 769 10) (h1 : e 769 10 ≤ L) (h13 : e 769 13 = 0) : ∃ a z, BL b L (e 769 10) a ∧ RU isDi b L a z ∧ NumR b L lo hi a z e (v_197 769 lo hi e, g_197 769 lo hi e) := by
  obtain ⟨a, e1, p1, p2, p3, p4, p5⟩ := bl189 h h0 h1
  have hr := h.1
  have ha := p2.1
  have hb := p2.2.1
  have ef : f_197 769 lo hi e = lp_197_28 769 lo hi (1000 - mset (mset e1 769 15 a) 769 14 0 769 10 : Int).toNat 0 (mset (mset e1 769 15 a) 769 14 0) := by
    unfold f_197
    rw [if_pos h13, p1, p5]
  have e10 : mset (mset e1 769 15 a) 769 14 0 769 10 = a := by rw [ms_i (by decide), ms_i (by decide)]; exact p5
  obtain ⟨z, q1, q2, q3⟩ := l197 (lo := lo) (hi := hi) (a := a) (1000 - mset (mset e1 769 15 a) 769 14 0 769 10 : Int).toNat 0 (mset (mset e1 769 15 a) 769 14 0) (h.fr (by rw [ms_i (by decide), ms_i (by decide)]; exact p4 9 (by decide)) (by rw [← p3 776 (by decide)]; funext j; rw [ms_a (by decide), ms_a (by decide)])) (by omega) (by omega) (by omega) (by omega) (by omega) (by rw [ms_i (by decide), ms_i (by decide), p4 13 (by decide)]; exact h13) (by rw [ms_i (by decide), ms_e rfl rfl]) (fun _ => by rw [ms_e rfl rfl]; rfl)
  rw [show a + 0 = a by omega] at q1
  have f1 : FrR e e1 := ⟨p3, fun j hj => p4 j (by omega)⟩
  refine ⟨a, z, p2, q1, ?_⟩
  unfold v_197 g_197
  rw [ef]
  exact ⟨(f1.trans ((FrR.set (by decide)).trans (FrR.set (by decide)))).trans q2, q3⟩
