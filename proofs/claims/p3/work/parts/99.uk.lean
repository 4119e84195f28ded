/-! ===== queries of the reference that look ahead put the row back ===== -/
def RO (d d' : mD) : Prop := ∀ b, ¬ b = 770 → d' b = d b
theorem RO.refl {d : mD} : RO d d := fun _ _ => rfl
theorem RO.trans {a b c : mD} (h : RO a b) (g : RO b c) : RO a c := fun k x => (g k x).trans (h k x)
theorem RO.rs {d : mD} {w : Row} : RO d (rset d w) := fun _ hb => rset_ne hb
theorem ro223 {d : mD} : RO d (g_223 769 d) := by rw [m_g_223]; exact RO.rs
def QR (d d' : mD) : Prop := (∀ b, ¬ b = 769 → ¬ b = 770 → ¬ b = 773 → ¬ b = 777 → d' b = d b) ∧ (∀ j, ¬ j = 0 → ¬ j = 18 → d' 769 j = d 769 j) ∧ REq (d 770) (d' 770)
theorem QF.qr {d d' : mD} (h : QF d d') : QR d d' := ⟨fun b x _ _ y => h.1 b x y, h.2, fun i _ _ => by rw [h.1 770 (by decide) (by decide)]⟩
theorem QR.refl {d : mD} : QR d d := QF.refl.qr
theorem QR.trans {a b c : mD} (h : QR a b) (g : QR b c) : QR a c := ⟨fun k x y z u => (g.1 k x y z u).trans (h.1 k x y z u), fun k x y => (g.2.1 k x y).trans (h.2.1 k x y), fun i x y => (g.2.2 i x y).trans (h.2.2 i x y)⟩
theorem QR.s0 {d : mD} {v : Int} : QR d (mset d 769 0 v) := QF.s0.qr
theorem c255 {u : mD} : (∀ b, ¬ b = 773 → g_255 769 u b = u b) ∧ ∀ i, 0 ≤ i → i < 3116 → g_255 769 u 773 i = u 770 i := by
  unfold g_255 mcopy
  refine ⟨fun b hb => ?_, fun i x y => ?_⟩
  · funext j
    rw [if_neg (by omega)]
  · rw [if_pos (by omega)]
    rw [show (769 : Int) + 1 = 770 by decide, show (0 : Int) + (i - 0) = i by omega]
theorem c256 {u : mD} : (∀ b, ¬ b = 770 → g_256 769 u b = u b) ∧ ∀ i, 0 ≤ i → i < 3116 → g_256 769 u 770 i = u 773 i := by
  unfold g_256 mcopy
  refine ⟨fun b hb => ?_, fun i x y => ?_⟩
  · funext j
    rw [if_neg (by omega)]
  · rw [if_pos (by omega)]
    rw [show (769 : Int) + 4 = 773 by decide, show (0 : Int) + (i - 0) = i by omega]
theorem back {u D : mD} (h : ∀ b, ¬ b = 769 → ¬ b = 770 → D b = g_255 769 u b) (h9 : ∀ j, ¬ j = 0 → ¬ j = 18 → D 769 j = u 769 j) : QR u (g_256 769 D) := by
  obtain ⟨a1, a2⟩ := c255 (u := u)
  obtain ⟨b1, b2⟩ := c256 (u := D)
  refine ⟨fun b x y z _ => by rw [b1 b y, h b x y, a1 b z], fun j x y => by rw [b1 769 (by decide)]; exact h9 j x y, fun i x y => ?_⟩
  rw [b2 i x y, h 773 (by decide) (by decide), a2 i x y]
theorem backR {u D : mD} (h : RO (g_255 769 u) D) : QR u (g_256 769 D) := back (fun b _ y => h b y) (fun j _ _ => by rw [h 769 (by decide), (c255 (u := u)).1 769 (by decide)])
theorem l263 {x1 : Int} : ∀ (n : Nat) (x : Int) (d : mD), RO d (lp_263_2 769 x1 n x d).2 := by
  intro n
  induction n with
  | zero =>
    intro x d
    show RO d (st_263_2 769 x1 _ x d).2
    unfold st_263_2
    split
    · exact RO.refl
    · split
      · exact RO.refl
      · exact ro223
  | succ n ih =>
    intro x d
    show RO d (st_263_2 769 x1 _ x d).2
    unfold st_263_2
    split
    · exact RO.refl
    · split
      · exact RO.refl
      · exact ro223.trans (ih _ _)
theorem ro263 {x1 : Int} {d : mD} : RO d (g_263 769 x1 d) := by
  unfold g_263 f_263
  exact l263 _ _ _
theorem q_257 {x1 : Int} {d : mD} : QR d (g_257 769 x1 d) := by
  unfold g_257
  split
  · exact QR.s0
  · split
    · have h : RO (g_255 769 (mset d 769 0 0)) (g_218 769 x1 (g_255 769 (mset d 769 0 0))) := by
        rw [m_g_218]
        exact RO.rs
      exact QR.s0.trans (backR h)
    · exact QR.s0
theorem q_264 {x1 : Int} {d : mD} : QR d (g_264 769 x1 d) := by
  unfold g_264
  split
  · exact QR.s0
  · split
    · exact (QR.s0.trans (backR ro263)).trans QR.s0
    · exact (QR.s0.trans (backR ro263)).trans QR.s0
theorem l265 {x1 x2 : Int} {u : mD} : ∀ (n : Nat) (x : Int) (d : mD), x2 - x ≤ (n : Int) → RO (g_255 769 u) d → QR u (lp_265_48 769 x1 x2 n x d).2 := by
  intro n
  induction n with
  | zero =>
    intro x d hn h
    show QR u (st_265_48 769 x1 x2 _ x d).2
    unfold st_265_48
    rw [if_neg (by omega)]
    exact backR h
  | succ n ih =>
    intro x d hn h
    show QR u (st_265_48 769 x1 x2 _ x d).2
    unfold st_265_48
    split
    · exact ih _ _ (by omega) (h.trans ro223)
    · exact backR h
theorem q_265 {x1 x2 : Int} {d : mD} : QR d (g_265 769 x1 x2 d) := by
  unfold g_265 f_265
  split
  · exact QR.s0
  · split
    · exact QR.s0
    · exact QR.s0.trans (l265 _ _ _ (by omega) RO.refl)
theorem l266 {x1 : Int} {u : mD} : ∀ (n : Nat) (x : Int) (d : mD), x1 - x ≤ (n : Int) → RO (g_255 769 u) d → QR u (lp_266_36 769 x1 n x d).2 := by
  intro n
  induction n with
  | zero =>
    intro x d hn h
    show QR u (st_266_36 769 x1 _ x d).2
    unfold st_266_36
    rw [if_neg (by omega)]
    exact backR h
  | succ n ih =>
    intro x d hn h
    show QR u (st_266_36 769 x1 _ x d).2
    unfold st_266_36
    split
    · exact ih _ _ (by omega) (h.trans ro223)
    · exact backR h
theorem q_266 {x1 : Int} {d : mD} : QR d (g_266 769 x1 d) := by
  unfold g_266 f_266
  split
  · exact QR.s0
  · exact QR.s0.trans (l266 _ _ _ (by omega) RO.refl)
theorem q_267 {x1 : Int} {d : mD} : QR d (g_267 769 x1 d) := by
  unfold g_267
  split
  · exact QR.refl
  · refine backR (RO.trans ?_ ro263)
    rw [m_g_224]
    exact RO.rs
theorem q_268 {x1 : Int} {d : mD} : QR d (g_268 769 x1 d) := by
  unfold g_268
  split
  · exact QR.s0
  · split
    · exact (QR.s0.trans q_267).trans QR.s0
    · exact (QR.s0.trans q_267).trans QR.s0
theorem l269 : ∀ (n : Nat) (a b x : Int) (d : mD), QR d (lp_269_8 769 n a b x d).2 := by
  intro n
  induction n with
  | zero =>
    intro a b x d
    show QR d (st_269_8 769 _ a b x d).2
    unfold st_269_8
    repeat' split
    all_goals first
      | exact q_267
      | exact QR.s0
  | succ n ih =>
    intro a b x d
    show QR d (st_269_8 769 _ a b x d).2
    unfold st_269_8
    repeat' split
    all_goals first
      | exact q_267.trans (ih _ _ _ _)
      | exact QR.s0
theorem q_269 {d : mD} : QR d (g_269 769 d) := by
  unfold g_269 f_269
  exact l269 _ _ _ _ _
theorem back0 {u D : mD} {c : Int} (h : RO (g_255 769 u) D) : QR u (g_256 769 (mset D 769 0 c)) := back (fun b x y => by rw [← h b y]; funext j; exact ms_a x) (fun j x _ => by rw [ms_i x, h 769 (by decide), (c255 (u := u)).1 769 (by decide)])
theorem l272a {x1 x2 : Int} {u : mD} : ∀ (n : Nat) (a b x : Int) (d : mD), d 770 9 - x ≤ (n : Int) → RO (g_255 769 u) d → QR u (lp_272_89 769 x1 x2 n a b x d).2 := by
  intro n
  induction n with
  | zero =>
    intro a b x d hn h
    show QR u (st_272_89 769 x1 x2 _ a b x d).2
    unfold st_272_89
    rw [show (769 : Int) + 1 = 770 by decide, if_neg (by omega)]
    split
    · exact back0 h
    · exact back0 h
  | succ n ih =>
    intro a b x d hn h
    show QR u (st_272_89 769 x1 x2 _ a b x d).2
    unfold st_272_89
    repeat' split
    all_goals first
      | exact ih _ _ _ _ (by omega) h
      | exact back0 h
theorem l272 {x1 x2 : Int} {u : mD} : ∀ (n : Nat) (x : Int) (d cm : mD), 200 - x ≤ (n : Int) → x ≤ 200 → GG (d 770) → Rel 1 cm (d 770) → d 770 0 + (200 - x) ≤ 1199 → RO (g_255 769 u) d → QR u (lp_272_59 769 x1 x2 n x d).2 := by
  have last : ∀ (x : Int) (d : mD), GG (d 770) → RO (g_255 769 u) d → QR u (lp_272_89 769 x1 x2 (61 - 0 : Int).toNat x 0 0 d).2 := fun x d hg h => by
    have := hg.1.2.2.1
    exact l272a _ _ _ _ _ (by omega) h
  intro n
  induction n with
  | zero =>
    intro x d cm hn hx hg hr ht h
    show QR u (st_272_59 769 x1 x2 _ x d).2
    unfold st_272_59
    rw [if_neg (by omega)]
    exact last _ _ hg h
  | succ n ih =>
    intro x d cm hn hx hg hr ht h
    show QR u (st_272_59 769 x1 x2 _ x d).2
    unfold st_272_59
    by_cases c : x < 200
    · rw [if_pos c]
      split
      · obtain ⟨-, p2, p3, p4, -⟩ := passLoop (s := 1) (N := 1) 1 0 0 cm (d 770) hg hr (by decide) (by omega)
        have e : g_223 769 d 770 = hoursW 1 (d 770) := by
          rw [m_g_223, rset_at]
          rfl
        refine ih (x + 1) (g_223 769 d) _ (by omega) (by omega) (by rw [e]; exact p2) (by rw [e]; exact p3) ?_ (h.trans ro223)
        rw [e, p4]
        omega
      · exact last _ _ hg h
    · rw [if_neg c]
      exact last _ _ hg h
theorem q_272 {x1 x2 : Int} {d cm : mD} (hk : OKR 1 cm (d 770)) : QR d (g_272 769 x1 x2 d) := by
  unfold g_272 f_272
  by_cases c1 : v_236 769 x1 d = 0
  · rw [if_pos c1]; exact QR.s0
  · rw [if_neg c1]
    by_cases c2 : v_236 769 x2 d = 0
    · rw [if_pos c2]; exact QR.s0
    · rw [if_neg c2]
      by_cases c3 : v_270 769 x1 x2 d = 0
      · rw [if_pos c3]; exact QR.s0
      · rw [if_neg c3]
        unfold v_236 at c1 c2
        rw [v176, show (769 : Int) + 1 = 770 by decide] at c1 c2
        have h1 : 0 ≤ x1 ∧ x1 < d 770 7 := by
          by_cases z : 0 ≤ x1 ∧ x1 ≤ d 770 7 - 1
          · omega
          · rw [if_neg z] at c1
            exact absurd rfl c1
        have h2 : 0 ≤ x2 ∧ x2 < d 770 7 := by
          by_cases z : 0 ≤ x2 ∧ x2 ≤ d 770 7 - 1
          · omega
          · rw [if_neg z] at c2
            exact absurd rfl c2
        unfold v_270 at c3
        rw [show (769 : Int) + 1 = 770 by decide] at c3
        have h3 : ¬ x1 = x2 := fun z => by rw [if_pos z] at c3; exact absurd rfl c3
        rw [if_neg h3] at c3
        have h4 : ¬ d 770 (12 + 68 * x1 + 4) = 0 := fun z => by rw [if_pos z] at c3; exact absurd rfl c3
        rw [if_neg h4] at c3
        have h5 : ¬ d 770 (12 + 68 * x2 + 4) = 0 := fun z => by rw [if_pos z] at c3; exact absurd rfl c3
        have hg := hk.1
        have o1 : d 770 (12 + 68 * x2 + 4) = 1 := by
          rcases (hg.2.1 x2 h2.1 h2.2).2.2.2.1 with z | z
          · exact absurd z h5
          · exact z
        obtain ⟨m1, m2, m3⟩ := merge hg hk.2.2.2.2 h1 h2 h3 o1
        generalize hu : mset d 769 0 0 = u
        have e0 : g_255 769 u 770 = d 770 := by
          rw [(c255 (u := u)).1 770 (by decide), ← hu]
          funext j
          exact ms_a (by decide)
        have e1 : g_229 769 x1 x2 (g_255 769 u) 770 = W_229 x1 x2 (d 770) := by rw [m_g_229, rset_at, e0]
        have tm : d 770 0 ≤ 999 := hk.2.2.2.1
        have q : QR u (lp_272_59 769 x1 x2 (200 - 0 : Int).toNat 0 (g_229 769 x1 x2 (g_255 769 u))).2 := by
          refine l272 _ 0 _ _ (by omega) (by decide) (by rw [e1]; exact m1) (by rw [e1]; exact m2) ?_ (by rw [m_g_229]; exact RO.rs)
          rw [e1, m3 0 (by decide) (by decide)]
          omega
        have q0 : QR d u := by rw [← hu]; exact QR.s0
        exact q0.trans q
