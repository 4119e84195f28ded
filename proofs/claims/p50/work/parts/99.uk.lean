/-! ===== queries of the reference that look ahead put the row back ===== -/
def RO (d d' : mD) : Prop := ∀ b, ¬ b = 770 → d' b = d b
theorem RO.refl {d : mD} : RO d d := fun _ _ => rfl
theorem RO.trans {a b c : mD} (h : RO a b) (g : RO b c) : RO a c := fun k x => (g k x).trans (h k x)
theorem RO.rs {d : mD} {w : Row} : RO d (rset d w) := fun _ hb => rset_ne hb
theorem ro223 {d : mD} : RO d (g_223 769 d) := by rw [m_g_223]; exact RO.rs
def QR (d d' : mD) : Prop := (∀ b, ¬ b = 769 → ¬ b = 770 → ¬ b = 773 → ¬ b = 777 → d' b = d b) ∧ (∀ j, ¬ j = 0 → ¬ j = 18 → d' 769 j = d 769 j) ∧ REq (d 770) (d' 770)
theorem QF.qr {d d' : mD} (h : QF d d') : QR d d' := ⟨fun b x _ _ y => h.1 b x y, h.2, fun i _ _ => by rw [h.1 770 (by decide) (by decide)]⟩
theorem QR.refl {d : mD} : QR d d := QF.refl.qr
theorem QR.trans {a b c : mD} (h : QR a b) (g : QR b c) : QR a c := ⟨fun k x y z u => (g.1 k x y z u).trans (h.1 k x y z u), fun k x y => (g.2.1 k x y).trans (h.2.1 k x y), fun i x y => (g.2.2 i x y).trans (h.2.2 i x y)⟩
theorem QR.s0 {d : mD} {v : Int} : QR d (mset d 769 0 v) := QF.s0.qr
theorem c255 {u : mD} : (∀ b, ¬ b = 773 → g_255 769 u b = u b) ∧ ∀ i, 0 ≤ i → i < 3116 → g_255 769 u 773 i = u 770 i := by
  unfold g_255 mcopy
  refine ⟨fun b hb => ?_, fun i x y => ?_⟩
  · funext j
    rw [if_neg (by omega)]
  · rw [if_pos (by omega)]
    rw [show (769 : Int) + 1 = 770 by decide, show (0 : Int) + (i - 0) = i by omega]
theorem c256 {u : mD} : (∀ b, ¬ b = 770 → g_256 769 u b = u b) ∧ ∀ i, 0 ≤ i → i < 3116 → g_256 769 u 770 i = u 773 i := by
  unfold g_256 mcopy
  refine ⟨fun b hb => ?_, fun i x y => ?_⟩
  · funext j
    rw [if_neg (by omega)]
  · rw [if_pos (by omega)]
    rw [show (769 : Int) + 4 = 773 by decide, show (0 : Int) + (i - 0) = i by omega]
theorem back {u D : mD} (h : ∀ b, ¬ b = 769 → ¬ b = 770 → D b = g_255 769 u b) (h9 : ∀ j, ¬ j = 0 → ¬ j = 18 → D 769 j = u 769 j) : QR u (g_256 769 D) := by
  obtain ⟨a1, a2⟩ := c255 (u := u)
  obtain ⟨b1, b2⟩ := c256 (u := D)
  refine ⟨fun b x y z _ => by rw [b1 b y, h b x y, a1 b z], fun j x y => by rw [b1 769 (by decide)]; exact h9 j x y, fun i x y => ?_⟩
  rw [b2 i x y, h 773 (by decide) (by decide), a2 i x y]
theorem backR {u D : mD} (h : RO (g_255 769 u) D) : QR u (g_256 769 D) := back (fun b _ y => h b y) (fun j _ _ => by rw [h 769 (by decide), (c255 (u := u)).1 769 (by decide)])
theorem l263 {x1 : Int} : ∀ (n : Nat) (x : Int) (d : mD), RO d (lp_263_2 769 x1 n x d).2 := by
  intro n
  induction n with
  | zero =>
    intro x d
    show RO d (st_263_2 769 x1 _ x d).2
    unfold st_263_2
    split
    · exact RO.refl
    · split
      · exact RO.refl
      · exact ro223
  | succ n ih =>
    intro x d
    show RO d (st_263_2 769 x1 _ x d).2
    unfold st_263_2
    split
    · exact RO.refl
    · split
      · exact RO.refl
      · exact ro223.trans (ih _ _)
theorem ro263 {x1 : Int} {d : mD} : RO d (g_263 769 x1 d) := by
  unfold g_263 f_263
  exact l263 _ _ _
theorem q_257 {x1 : Int} {d : mD} : QR d (g_257 769 x1 d) := by
  unfold g_257
  split
  · exact QR.s0
  · split
    · have h : RO (g_255 769 (mset d 769 0 0)) (g_218 769 x1 (g_255 769 (mset d 769 0 0))) := by
        rw [m_g_218]
        exact RO.rs
      exact QR.s0.trans (backR h)
    · exact QR.s0
theorem q_264 {x1 : Int} {d : mD} : QR d (g_264 769 x1 d) := by
  unfold g_264
  split
  · exact QR.s0
  · split
    · exact (QR.s0.trans (backR ro263)).trans QR.s0
    · exact (QR.s0.trans (backR ro263)).trans QR.s0
theorem l265 {x1 x2 : Int} {u : mD} : ∀ (n : Nat) (x : Int) (d : mD), x2 - x ≤ (n : Int) → RO (g_255 769 u) d → QR u (lp_265_48 769 x1 x2 n x d).2 := by
  intro n
  induction n with
  | zero =>
    intro x d hn h
    show QR u (st_265_48 769 x1 x2 _ x d).2
    unfold st_265_48
    rw [if_neg (by omega)]
    exact backR h
  | succ n ih =>
    intro x d hn h
    show QR u (st_265_48 769 x1 x2 _ x d).2
    unfold st_265_48
    split
    · exact ih _ _ (by omega) (h.trans ro223)
    · exact backR h
theorem q_265 {x1 x2 : Int} {d : mD} : QR d (g_265 769 x1 x2 d) := by
  unfold g_265 f_265
  split
  · exact QR.s0
  · split
    · exact QR.s0
    · exact QR.s0.trans (l265 _ _ _ (by omega) RO.refl)
theorem l266 {x1 : Int} {u : mD} : ∀ (n : Nat) (x : Int) (d : mD), x1 - x ≤ (n : Int) → RO (g_255 769 u) d → QR u (lp_266_36 769 x1 n x d).2 := by
  intro n
  induction n with
  | zero =>
    intro x d hn h
    show QR u (st_266_36 769 x1 _ x d).2
    unfold st_266_36
    rw [if_neg (by omega)]
    exact backR h
  | succ n ih =>
    intro x d hn h
    show QR u (st_266_36 769 x1 _ x d).2
    unfold st_266_36
    split
    · exact ih _ _ (by omega) (h.trans ro223)
    · exact backR h
theorem q_266 {x1 : Int} {d : mD} : QR d (g_266 769 x1 d) := by
  unfold g_266 f_266
  split
  · exact QR.s0
  · exact QR.s0.trans (l266 _ _ _ (by omega) RO.refl)
theorem q_267 {x1 : Int} {d : mD} : QR d (g_267 769 x1 d) := by
  unfold g_267
  split
  · exact QR.refl
  · refine backR (RO.trans ?_ ro263)
    rw [m_g_224]
    exact RO.rs
theorem q_268 {x1 : Int} {d : mD} : QR d (g_268 769 x1 d) := by
  unfold g_268
  split
  · exact QR.s0
  · split
    · exact (QR.s0.trans q_267).trans QR.s0
    · exact (QR.s0.trans q_267).trans QR.s0
theorem l269 : ∀ (n : Nat) (a b x : Int) (d : mD), QR d (lp_269_8 769 n a b x d).2 := by
  intro n
  induction n with
  | zero =>
    intro a b x d
    show QR d (st_269_8 769 _ a b x d).2
    unfold st_269_8
    repeat' split
    all_goals first
      | exact q_267
      | exact QR.s0
  | succ n ih =>
    intro a b x d
    show QR d (st_269_8 769 _ a b x d).2
    unfold st_269_8
    repeat' split
    all_goals first
      | exact q_267.trans (ih _ _ _ _)
      | exact QR.s0
theorem q_269 {d : mD} : QR d (g_269 769 d) := by
  unfold g_269 f_269
  exact l269 _ _ _ _ _
theorem back0 {u D : mD} {c : Int} (h : RO (g_255 769 u) D) : QR u (g_256 769 (mset D 769 0 c)) := back (fun b x y => by rw [← h b y]; funext j; exact ms_a x) (fun j x _ => by rw [ms_i x, h 769 (by decide), (c255 (u := u)).1 769 (by decide)])
theorem l272a {x1 x2 : Int} {u : mD} : ∀ (n : Nat) (a b x : Int) (d : mD), d 770 9 - x ≤ (n : Int) → RO (g_255 769 u) d → QR u (lp_272_89 769 x1 x2 n a b x d).2 := by
  intro n
  induction n with
  | zero =>
    intro a b x d hn h
    show QR u (st_272_89 769 x1 x2 _ a b x d).2
    unfold st_272_89
    rw [show (769 : Int) + 1 = 770 by decide, if_neg (by omega)]
    split
    · exact back0 h
    · exact back0 h
  | succ n ih =>
    intro a b x d hn h
    show QR u (st_272_89 769 x1 x2 _ a b x d).2
    unfold st_272_89
    repeat' split
    all_goals first
      | exact ih _ _ _ _ (by omega) h
      | exact back0 h
theorem l272 {x1 x2 : Int} {u : mD} : ∀ (n : Nat) (x : Int) (d cm : mD), 200 - x ≤ (n : Int) → x ≤ 200 → GG (d 770) → Rel 1 cm (d 770) → d 770 0 + (200 - x) ≤ 1199 → RO (g_255 769 u) d → QR u (lp_272_59 769 x1 x2 n x d).2 := by
  have last : ∀ (x : Int) (d : mD), GG (d 770) → RO (g_255 769 u) d → QR u (lp_272_89 769 x1 x2 (61 - 0 : Int).toNat x 0 0 d).2 := fun x d hg h => by
    have := hg.1.2.2.1
    exact l272a _ _ _ _ _ (by omega) h
  intro n
  induction n with
  | zero =>
    intro x d cm hn hx hg hr ht h
    show QR u (st_272_59 769 x1 x2 _ x d).2
    unfold st_272_59
    rw [if_neg (by omega)]
    exact last _ _ hg h
  | succ n ih =>
    intro x d cm hn hx hg hr ht h
    show QR u (st_272_59 769 x1 x2 _ x d).2
    unfold st_272_59
    by_cases c : x < 200
    · rw [if_pos c]
      split
      · obtain ⟨-, p2, p3, p4, -⟩ := passLoop (s := 1) (N := 1) 1 0 0 cm (d 770) hg hr (by decide) (by omega)
        have e : g_223 769 d 770 = hoursW 1 (d 770) := by
          rw [m_g_223, rset_at]
          rfl
        refine ih (x + 1) (g_223 769 d) _ (by omega) (by omega) (by rw [e]; exact p2) (by rw [e]; exact p3) ?_ (h.trans ro223)
        rw [e, p4]
        omega
      · exact last _ _ hg h
    · rw [if_neg c]
      exact last _ _ hg h
theorem q_272 {x1 x2 : Int} {d cm : mD} (hk : OKR 1 cm (d 770)) : QR d (g_272 769 x1 x2 d) := by
  unfold g_272 f_272
  by_cases c1 : v_236 769 x1 d = 0
  · rw [if_pos c1]; exact QR.s0
  · rw [if_neg c1]
    by_cases c2 : v_236 769 x2 d = 0
    · rw [if_pos c2]; exact QR.s0
    · rw [if_neg c2]
      by_cases c3 : v_270 769 x1 x2 d = 0
      · rw [if_pos c3]; exact QR.s0
      · rw [if_neg c3]
        unfold v_236 at c1 c2
        rw [v176, show (769 : Int) + 1 = 770 by decide] at c1 c2
        have h1 : 0 ≤ x1 ∧ x1 < d 770 7 := by
          by_cases z : 0 ≤ x1 ∧ x1 ≤ d 770 7 - 1
          · omega
          · rw [if_neg z] at c1
            exact absurd rfl c1
        have h2 : 0 ≤ x2 ∧ x2 < d 770 7 := by
          by_cases z : 0 ≤ x2 ∧ x2 ≤ d 770 7 - 1
          · omega
          · rw [if_neg z] at c2
            exact absurd rfl c2
        unfold v_270 at c3
        rw [show (769 : Int) + 1 = 770 by decide] at c3
        have h3 : ¬ x1 = x2 := fun z => by rw [if_pos z] at c3; exact absurd rfl c3
        rw [if_neg h3] at c3
        have h4 : ¬ d 770 (12 + 68 * x1 + 4) = 0 := fun z => by rw [if_pos z] at c3; exact absurd rfl c3
        rw [if_neg h4] at c3
        have h5 : ¬ d 770 (12 + 68 * x2 + 4) = 0 := fun z => by rw [if_pos z] at c3; exact absurd rfl c3
        have hg := hk.1
        have o1 : d 770 (12 + 68 * x2 + 4) = 1 := by
          rcases (hg.2.1 x2 h2.1 h2.2).2.2.2.1 with z | z
          · exact absurd z h5
          · exact z
        obtain ⟨m1, m2, m3⟩ := merge hg hk.2.2.2.2 h1 h2 h3 o1
        generalize hu : mset d 769 0 0 = u
        have e0 : g_255 769 u 770 = d 770 := by
          rw [(c255 (u := u)).1 770 (by decide), ← hu]
          funext j
          exact ms_a (by decide)
        have e1 : g_229 769 x1 x2 (g_255 769 u) 770 = W_229 x1 x2 (d 770) := by rw [m_g_229, rset_at, e0]
        have tm : d 770 0 ≤ 999 := hk.2.2.2.1
        have q : QR u (lp_272_59 769 x1 x2 (200 - 0 : Int).toNat 0 (g_229 769 x1 x2 (g_255 769 u))).2 := by
          refine l272 _ 0 _ _ (by omega) (by decide) (by rw [e1]; exact m1) (by rw [e1]; exact m2) ?_ (by rw [m_g_229]; exact RO.rs)
          rw [e1, m3 0 (by decide) (by decide)]
          omega
        have q0 : QR d u := by rw [← hu]; exact QR.s0
        exact q0.trans q
/-! ===== what the reference's rows keep: two witnesses at most where none is valid ===== -/
def RW (d : mD) : Prop := mwP (d 770) ∧ (∀ k, 0 ≤ k → k < d 769 7 → mwP (fun i => d 771 (3116 * k + i))) ∧ ∀ j, (j = 0 ∨ j = 1) → ¬ d 775 j = 0 → mwP (fun i => d 772 (3116 * j + i))
theorem mwP.row {w w' : Row} (e : REq w w') (h : mwP w) : mwP w' := fun t t0 t1 => by
  rw [e (452 + 24 * t + 6) (by omega) (by omega), e (452 + 24 * t + 7) (by omega) (by omega)]
  exact h t t0 t1
theorem mwP.fr {w w' : Row} (e : ∀ t, 0 ≤ t → t ≤ 60 → w' (452 + 24 * t + 6) = w (452 + 24 * t + 6) ∧ w' (452 + 24 * t + 7) = w (452 + 24 * t + 7)) (h : mwP w) : mwP w' := fun t t0 t1 => by
  rw [(e t t0 t1).1, (e t t0 t1).2]
  exact h t t0 t1
theorem RW.q {d d2 : mD} (h : RW d) (hr : REq (d 770) (d2 770)) (h7 : d2 769 7 = d 769 7) (hx : ∀ b, (b = 771 ∨ b = 772 ∨ b = 775) → d2 b = d b) : RW d2 := by
  obtain ⟨h1, h2, h3⟩ := h
  refine ⟨h1.row hr, fun k a b => ?_, fun j hj hn => ?_⟩
  · rw [hx 771 (by decide)]
    exact h2 k a (by omega)
  · rw [hx 775 (by decide)] at hn
    rw [hx 772 (by decide)]
    exact h3 j hj hn
theorem RW.keep {d d2 r r' : mD} (h : RW d) (b7 : 0 ≤ d 769 7 ∧ d 769 7 ≤ 8) (hr : KeepW r r') (r7 : r 769 7 = d 769 7) (r0 : r 770 = d 770) (r1 : r 771 = d 771) (e7 : d2 769 7 = r' 769 7) (e1 : d2 771 = r' 771) (e2 : d2 772 = d 772) (e5 : d2 775 = d 775) (hw : mwP (d2 770)) : RW d2 := by
  obtain ⟨h1, h2, h3⟩ := h
  obtain ⟨-, -, k3⟩ := hr
  refine ⟨hw, fun k a b => ?_, fun j hj hn => ?_⟩
  · rw [e1]
    rw [e7] at b
    rw [r7, r0, r1] at k3
    rcases k3 with ⟨q1, q2, q3, q4⟩ | ⟨q1, q2, q3, q4⟩
    · by_cases c : k = d 769 7
      · refine h1.row (fun i x y => ?_)
        rw [c]
        exact q3 i x y
      · refine (h2 k a (by omega)).row (fun i x y => ?_)
        exact q4 _ (by omega)
    · by_cases c : k = 7
      · refine h1.row (fun i x y => ?_)
        rw [c]
        exact q3 i x y
      · refine (h2 (k + 1) (by omega) (by omega)).row (fun i x y => ?_)
        have := q4 (3116 * k + i) (by omega) (by omega)
        rw [this, show 3116 * k + i + 3116 = 3116 * (k + 1) + i by omega]
  · rw [e5] at hn
    rw [e2]
    exact h3 j hj hn
theorem RW.undo {d d2 r r' : mD} (h : RW d) (b7 : 0 < d 769 7) (hr : UndoW r r') (r7 : r 769 7 = d 769 7) (r1 : r 771 = d 771) (e7 : d2 769 7 = r' 769 7) (e0 : d2 770 = r' 770) (e1 : d2 771 = d 771) (e2 : d2 772 = d 772) (e5 : d2 775 = d 775) : RW d2 := by
  obtain ⟨h1, h2, h3⟩ := h
  obtain ⟨-, -, -, k4, k5⟩ := hr
  refine ⟨?_, fun k a b => ?_, fun j hj hn => ?_⟩
  · rw [e0]
    refine (h2 (d 769 7 - 1) (by omega) (by omega)).row (fun i x y => ?_)
    rw [k5 i x y, r7, r1]
  · rw [e1]
    exact h2 k a (by omega)
  · rw [e5] at hn
    rw [e2]
    exact h3 j hj hn
theorem RW.save {a : Int} {d d2 r r' : mD} (h : RW d) (ha : a = 0 ∨ a = 1) (hr : SaveW a r r') (r0 : r 770 = d 770) (r2 : r 772 = d 772) (r5 : r 775 = d 775) (e0 : d2 770 = d 770) (e7 : d2 769 7 = d 769 7) (e1 : d2 771 = d 771) (e2 : d2 772 = r' 772) (e5 : d2 775 = r' 775) : RW d2 := by
  obtain ⟨h1, h2, h3⟩ := h
  obtain ⟨-, k2, k3, k4, k5⟩ := hr
  refine ⟨by rw [e0]; exact h1, fun k x y => ?_, fun j hj hn => ?_⟩
  · rw [e1]
    exact h2 k x (by omega)
  · rw [e2]
    by_cases c : j = a
    · refine h1.row (fun i x y => ?_)
      rw [c, ← r0]
      exact k4 i x y
    · rw [e5, k3 j c, r5] at hn
      refine (h3 j hj hn).row (fun i x y => ?_)
      rw [k5 _ (by omega), r2]
theorem RW.rest {a : Int} {d d2 r r' : mD} (h : RW d) (ha : a = 0 ∨ a = 1) (hv : ¬ d 775 a = 0) (hr : RestW a r r') (r2 : r 772 = d 772) (e7 : d2 769 7 = r' 769 7) (e0 : d2 770 = r' 770) (e2 : d2 772 = d 772) (e5 : d2 775 = d 775) : RW d2 := by
  obtain ⟨h1, h2, h3⟩ := h
  obtain ⟨-, k2, -, k4⟩ := hr
  refine ⟨?_, fun k x y => by omega, fun j hj hn => ?_⟩
  · rw [e0]
    refine (h3 a ha hv).row (fun i x y => ?_)
    rw [k4 i x y, r2]
  · rw [e5] at hn
    rw [e2]
    exact h3 j hj hn
theorem RW.new {d2 : mD} (hw : mwP (d2 770)) (h7 : d2 769 7 = 0) (h0 : d2 775 0 = 0) (h1 : d2 775 1 = 0) : RW d2 := by
  refine ⟨hw, fun k x y => by omega, fun j hj hn => ?_⟩
  rcases hj with hj | hj
  · rw [hj] at hn
    exact absurd h0 hn
  · rw [hj] at hn
    exact absurd h1 hn
def RP (d : mD) : Prop := RW d ∧ ER d
theorem ER.of {d d2 : mD} (h : ER d) (e6 : d2 576 = d 576) (e1 : d2 769 11 = d 769 11) (e2 : d2 769 12 = d 769 12) : ER d2 := by
  unfold ER
  rw [e6, e1, e2]
  exact h
theorem QR.rp {d d1 d2 : mD} (h : RP d) (h70 : d1 770 = d 770) (h69 : d1 769 = d 769) (hx : ∀ b, (b = 576 ∨ b = 771 ∨ b = 772 ∨ b = 775) → d1 b = d b) (q : QR d1 d2) : RP d2 := by
  refine ⟨h.1.q (fun i x y => ?_) ?_ (fun b hb => ?_), h.2.of ?_ ?_ ?_⟩
  · rw [q.2.2 i x y, h70]
  · rw [q.2.1 7 (by decide) (by decide), h69]
  · rw [q.1 b (by omega) (by omega) (by omega) (by omega), hx b (Or.inr hb)]
  · rw [q.1 576 (by decide) (by decide) (by decide) (by decide), hx 576 (Or.inl rfl)]
  · rw [q.2.1 11 (by decide) (by decide), h69]
  · rw [q.2.1 12 (by decide) (by decide), h69]
/-! ===== one call: class and reference ===== -/
theorem CI.q {d d2 : mD} (h : CI d) (hc : ∀ b, b < 769 → ¬ (572 ≤ b ∧ b ≤ 577) → ¬ (580 ≤ b ∧ b ≤ 642) → d2 b = d b) (h7 : ∀ j, j = 7 ∨ j = 9 → d2 769 j = d 769 j) (hr : REq (d 770) (d2 770)) (hx : ∀ b, (b = 771 ∨ b = 772 ∨ b = 775 ∨ b = 776) → d2 b = d b) : CI d2 := by
  obtain ⟨i1, i2, i3, i4⟩ := h
  refine ⟨(i1.row hr).fr (fun b x y => hc b (by omega) (by omega) (by omega)), i2.fr (fun b x y => hc b (by omega) (by omega) (by omega)) (h7 7 (Or.inl rfl)) (fun j _ _ => by rw [hx 771 (Or.inl rfl)]), i3.fr (fun b hb => ?_), i4.fr (by rw [hc 578 (by decide) (by decide) (by decide)]) (hc 579 (by decide) (by decide) (by decide)) (h7 9 (Or.inr rfl)) (hx 776 (by decide))⟩
  rcases hb with hb | hb | hb | hb
  · exact hc b (by omega) (by omega) (by omega)
  · exact hc b (by omega) (by omega) (by omega)
  · exact hx b (by omega)
  · exact hx b (by omega)
def QC (d d1 : mD) : Prop := ∀ b, ¬ (572 ≤ b ∧ b ≤ 577) → ¬ (580 ≤ b ∧ b ≤ 642) → ¬ b = 778 → d1 b = d b
theorem CI.qr {d d1 d2 : mD} (h : CI d) (hc : QC d d1) (hq : QR d1 d2) : CI d2 := by
  refine h.q (fun b x y z => ?_) (fun j hj => ?_) (fun i x y => ?_) (fun b hb => ?_)
  · rw [hq.1 b (by omega) (by omega) (by omega) (by omega), hc b y z (by omega)]
  · rw [hq.2.1 j (by omega) (by omega), hc 769 (by decide) (by decide) (by decide)]
  · rw [hq.2.2 i x y, hc 770 (by decide) (by decide) (by decide)]
  · rw [hq.1 b (by omega) (by omega) (by omega) (by omega), hc b (by omega) (by omega) (by omega)]
theorem CI.change {d c2 D r' d2 : mD} (h : CI d) (hc : ∀ b, (b < 1 ∨ 63 < b) → c2 b = g_2 64 1 d b) (hD : ∀ b, ¬ b = 778 → D b = c2 b) (hk : KeepW (mset D 769 0 0) r') (hd : ∀ b, ¬ b = 770 → d2 b = r' b) (ok : OKR 1 c2 (d2 770)) : CI d2 ∧ d2 769 0 = 0 := by
  obtain ⟨i1, i2, i3, i4⟩ := h
  obtain ⟨k1, k2, -, -⟩ := keepC i2.1 i1
  obtain ⟨w1, w2, w3⟩ := id hk
  have hn := i2.1
  have G : ∀ b, 569 < b → g_2 64 1 d b = d b := fun b hb => k2 b (by omega) (by omega)
  have Db : ∀ b, 63 < b → ¬ b = 778 → D b = g_2 64 1 d b := fun b x y => by rw [hD b y, hc b (by omega)]
  have Dc : ∀ b, 569 < b → ¬ b = 778 → D b = d b := fun b x y => by rw [Db b (by omega) y, G b x]
  have rb : ∀ b, ¬ b = 769 → ¬ b = 770 → ¬ b = 771 → d2 b = D b := fun b x y z => by
    rw [hd b y, w1 b x z]
    funext j
    exact ms_a x
  have r9 : ∀ j, ¬ j = 7 → ¬ j = 0 → d2 769 j = d 769 j := fun j x y => by rw [hd 769 (by decide), w2 j x, ms_i y, Dc 769 (by decide) (by decide)]
  refine ⟨⟨ok.fr (fun b x y => by rw [rb b (by omega) (by omega) (by omega), hD b (by omega)]), ?_, ?_, ?_⟩, ?_⟩
  · refine keepH i2 i1 (fun b x y => by rw [rb b (by omega) (by omega) (by omega), Db b (by omega) (by omega)]) hk ?_ ?_ ?_ ?_ (hd 771 (by decide))
    · rw [ms_i (by decide), Dc 769 (by decide) (by decide)]
    · rw [← Dc 770 (by decide) (by decide)]
      funext j
      exact ms_a (by decide)
    · rw [← Dc 771 (by decide) (by decide)]
      funext j
      exact ms_a (by decide)
    · rw [hd 769 (by decide)]
  · refine i3.fr (fun b hb => ?_)
    rw [rb b (by omega) (by omega) (by omega), Dc b (by omega) (by omega)]
  · refine i4.fr ?_ ?_ (r9 9 (by decide) (by decide)) ?_
    · rw [rb 578 (by decide) (by decide) (by decide), Dc 578 (by decide) (by decide)]
    · rw [rb 579 (by decide) (by decide) (by decide), Dc 579 (by decide) (by decide)]
    · rw [rb 776 (by decide) (by decide) (by decide), Dc 776 (by decide) (by decide)]
  · rw [hd 769 (by decide), w2 0 (by decide), ms_e rfl rfl]
def toks : List (Nat × Int) := [(0, 64), (2, 576), (3, 3), (4, 11), (5, 577), (6, 1), (6, 580), (7, 578), (8, 50), (9, 58), (10, 0), (11, 769), (30, 778)]
def TKL (E : mO × tW) : Prop := EOK E ∧ W55 E ∧ ∀ p, p ∈ toks → tokV E.2 (.inr p)
theorem TKL.t {E : mO × tW} (h : TKL E) (k : Nat) (a : Int) (hm : (k, a) ∈ toks) : tokV E.2 (.inr (k, a)) := h.2.2 _ hm
theorem TKL.k {E : mO × tW} (h : TKL E) : TKE E := ⟨h.2.1, h.t 2 576 (by decide), h.t 5 577 (by decide), h.t 6 580 (by decide)⟩
def Inv (E : mO × tW) (d : mD) : Prop := Safe d ∧ tSh E.2 d ∧ CI d
def inI (x : Int) : Prop := -2147483648 ≤ x ∧ x ≤ 2147483647
theorem inI.of {x : Int} (h : -100000 ≤ x ∧ x ≤ 100000) : inI x := ⟨by omega, by omega⟩
def OPR (d d1 d2 : mD) (v vr : Int) : Prop := CI d2 ∧ d2 769 0 = v ∧ (v = 0 → d1 778 0 = vr ∧ inI vr) ∧ (RP d → RP d2)
theorem OPR.fail {d : mD} {c vr : Int} (h : CI d) (hc : ¬ c = 0) : OPR d d (mset d 769 0 c) c vr := ⟨h.qr (d1 := d) (fun _ _ _ _ => rfl) QR.s0, ms_e rfl rfl, fun z => absurd z hc, fun r => QR.s0.rp r rfl rfl (fun _ _ => rfl)⟩
theorem v236 {x : Int} {d : mD} : v_236 769 x d = if 0 ≤ x ∧ x < d 770 7 then 1 else 0 := by
  unfold v_236
  rw [v176, show (769 : Int) + 1 = 770 by decide]
  by_cases c : 0 ≤ x ∧ x < d 770 7
  · rw [if_pos c, if_pos (by omega)]
  · rw [if_neg c, if_neg (by omega)]
theorem v237 {x : Int} {d : mD} : v_237 769 x d = if 0 ≤ x ∧ x < d 770 8 then 1 else 0 := by
  unfold v_237
  rw [v176, show (769 : Int) + 1 = 770 by decide]
  by_cases c : 0 ≤ x ∧ x < d 770 8
  · rw [if_pos c, if_pos (by omega)]
  · rw [if_neg c, if_neg (by omega)]
theorem v238 {x : Int} {d : mD} : v_238 769 x d = if 0 ≤ x ∧ x < d 770 9 then 1 else 0 := by
  unfold v_238
  rw [v176, show (769 : Int) + 1 = 770 by decide]
  by_cases c : 0 ≤ x ∧ x < d 770 9
  · rw [if_pos c, if_pos (by omega)]
  · rw [if_neg c, if_neg (by omega)]
-- the history's copy on the class's side
theorem Inv.keep {E : mO × tW} {d : mD} (hT : TKL E) (h : Inv E d) : Safe (g_2 64 1 d) ∧ tSh E.2 (g_2 64 1 d) ∧ OKR 1 (g_2 64 1 d) (d 770) ∧ ∀ b, (b < 64 ∨ 569 < b) → g_2 64 1 d b = d b := by
  obtain ⟨hS, hh, hi⟩ := h
  have t : d 1 2 ≤ 999 := by
    have := hi.1.2.2.2.2.1.2.1
    have := hi.1.2.2.2.1
    omega
  obtain ⟨q1, q2, q3⟩ := p_2 (E := E) (x0 := 64) (x1 := 1) hS rfl (Or.inl rfl) t ⟨hT.t 0 64 (by decide), hT.t 6 1 (by decide), trivial⟩ hh
  have f : ∀ b, (b < 64 ∨ 569 < b) → g_2 64 1 d b = d b := fun b hb => q2 b (by omega)
  exact ⟨q3, q1, hi.1.fr (fun b x y => f b (by omega)), f⟩
theorem n641 : (0 : Int) + 64 = 64 := by decide
theorem n01 : (0 : Int) + 1 = 1 := by decide
theorem s1B : stB 1 := Or.inl rfl
theorem ifR {α : Type} {a n : Int} {x y : α} : (if a < 0 then y else if a < n then x else y) = if 0 ≤ a ∧ a < n then x else y := by
  by_cases c : 0 ≤ a ∧ a < n
  · rw [if_pos c, if_neg (by omega), if_pos c.2]
  · rw [if_neg c]
    by_cases z : a < 0
    · rw [if_pos z]
    · rw [if_neg z, if_neg (by omega)]
theorem rowK {E : mO × tW} {d U : mD} (hT : TKL E) (hI : Inv E d) (hU : ∀ b, (b < 1 ∨ 63 < b) → U b = g_2 64 1 d b) (v : Int) : mset U 778 0 v 770 = d 770 ∧ g_278 769 (mset (mset U 778 0 v) 769 0 0) 770 = d 770 := by
  obtain ⟨-, -, -, kf⟩ := hI.keep hT
  have r0 : mset U 778 0 v 770 = d 770 := by
    rw [← kf 770 (by decide), ← hU 770 (by decide)]
    funext j
    exact ms_a (by decide)
  refine ⟨r0, ?_⟩
  rw [(keep278 (d := mset (mset U 778 0 v) 769 0 0)).1 770 (by decide) (by decide), ← r0]
  funext j
  exact ms_a (by decide)
theorem OPR.ok {E : mO × tW} {d U d2 : mD} {W : Row} {v vr : Int} (hI : Inv E d) (hU : ∀ b, (b < 1 ∨ 63 < b) → U b = g_2 64 1 d b) (ok : OKR 1 U W) (hm : mwP (d 770) → mwP W) (h2 : d2 = rset (g_278 769 (mset (mset U 778 0 v) 769 0 0)) W) (hv : v = vr) (hr : -100000 ≤ v ∧ v ≤ 100000) : OPR d (mset U 778 0 v) d2 0 vr := by
  have ch := hI.2.2.change (c2 := U) (D := mset U 778 0 v) (r' := g_278 769 (mset (mset U 778 0 v) 769 0 0)) (d2 := d2) hU (fun b hb => by funext j; exact ms_a hb) keep278 (fun b hb => by rw [h2]; exact rset_ne hb) (by rw [h2, rset_at]; exact ok)
  refine ⟨ch.1, ch.2, fun _ => ⟨by rw [ms_e rfl rfl]; exact hv, by rw [← hv]; exact inI.of hr⟩, fun r => ?_⟩
  obtain ⟨i1, i2, -, -⟩ := hI.2.2
  obtain ⟨-, k2, -, -⟩ := keepC i2.1 i1
  have hn := i2.1
  have hc := i2.2.1
  have hc7 := i2.2.2.1
  have Dd : ∀ b, 569 < b → ¬ b = 769 → ¬ b = 778 → mset (mset U 778 0 v) 769 0 0 b = d b := fun b x y z => by
    rw [← k2 b (by omega) (by omega), ← hU b (by omega)]
    funext j
    rw [ms_a y, ms_a z]
  have kw := keep278 (d := mset (mset U 778 0 v) 769 0 0)
  have d9 : mset (mset U 778 0 v) 769 0 0 769 7 = d 769 7 := by rw [ms_i (by decide), ms_a (by decide), hU 769 (by decide), k2 769 (by decide) (by omega)]
  have rn : ∀ b, ¬ b = 770 → d2 b = g_278 769 (mset (mset U 778 0 v) 769 0 0) b := fun b hb => by rw [h2]; exact rset_ne hb
  have e9 : ∀ j, ¬ j = 0 → ¬ j = 7 → d2 769 j = d 769 j := fun j x y => by rw [rn 769 (by decide), kw.2.1 j y, ms_i x, ms_a (by decide), hU 769 (by decide), k2 769 (by decide) (by omega)]
  refine ⟨r.1.keep (by omega) kw d9 (Dd 770 (by decide) (by decide) (by decide)) (Dd 771 (by decide) (by decide) (by decide)) (by rw [rn 769 (by decide)]) (rn 771 (by decide)) ?_ ?_ (by rw [h2, rset_at]; exact hm r.1.1), r.2.of ?_ (e9 11 (by decide) (by decide)) (e9 12 (by decide) (by decide))⟩
  · rw [rn 772 (by decide), kw.1 772 (by decide) (by decide), Dd 772 (by decide) (by decide) (by decide)]
  · rw [rn 775 (by decide), kw.1 775 (by decide) (by decide), Dd 775 (by decide) (by decide) (by decide)]
  · rw [rn 576 (by decide), kw.1 576 (by decide) (by decide), Dd 576 (by decide) (by decide) (by decide)]
/-! ===== join ===== -/
theorem opJoin {E : mO × tW} {d : mD} {a b : Int} (hT : TKL E) (hI : Inv E d) : OPR d (g_326 0 a b 778 d) (g_279 769 a b (g_326 0 a b 778 d)) (v_326 0 a b 778 d) (v_279 769 a b (g_326 0 a b 778 d)) := by
  obtain ⟨hS, hh, hi⟩ := id hI
  have hk := hi.1
  obtain ⟨hg, hw, hp, ht, hr⟩ := id hk
  have o7 : d 3 0 = d 770 7 := hr.2.1.1
  have o8 : d 11 0 = d 770 8 := hr.2.2.2.1.1
  have n7 := hg.1.1
  have n8 := hg.1.2.1
  unfold v_326 g_326
  rw [n641, n01, show (1 : Int) + 10 = 11 by decide, show (1 : Int) + 2 = 3 by decide, o7, o8, ifR, ifR, ifR, ifR]
  by_cases c1 : 0 ≤ a ∧ a < d 770 8
  · rw [if_pos c1, if_pos c1]
    by_cases c2 : 0 ≤ b ∧ b < d 770 7
    · rw [if_pos c2, if_pos c2]
      obtain ⟨q1, q2, q3⟩ := canQ (p := a) hg hr c2
      rw [q1]
      by_cases c3 : V_225 a b (d 770) = 0
      · rw [if_pos c3, if_pos c3]
        have e : g_279 769 a b d = mset d 769 0 2 := by
          unfold g_279
          rw [v237, if_pos c1, if_neg (by decide), v236, if_pos c2, if_neg (by decide), m_v_225, if_pos c3]
        rw [e]
        exact OPR.fail hi (by decide)
      · rw [if_neg c3, if_neg c3]
        obtain ⟨kS, kh, kk, kf⟩ := hI.keep hT
        have cj := q3.1 (by omega)
        obtain ⟨j0, j1, j2⟩ := join hg kk.2.2.2.2 c2 c1 cj
        have xr := joinX (p := a) hg c2 cj.1
        obtain ⟨x1, x2⟩ := xr.1 hw hp
        have e49 : g_2 64 1 d (1 + 49) 0 ≤ 59 := by
          rw [kf (1 + 49) (by decide), show (1 : Int) + 49 = 50 by decide]
          have : d 50 0 = d 770 9 := hr.2.2.2.2.1.1
          have := cj.1
          omega
        have e2 : g_2 64 1 d 1 2 ≤ 999 := by
          rw [kf 1 (by decide)]
          have := hr.1.2.1
          omega
        obtain ⟨-, fv, f1, -⟩ := p_61 (E := E) (x0 := 1) (x1 := a) (x2 := b) kS s1B (by omega) (by omega) e49 e2 ⟨hT.t 6 1 (by decide), trivial, trivial, trivial⟩ kh
        have hU : ∀ k, (k < 1 ∨ 63 < k) → g_61 1 a b (g_2 64 1 d) k = g_2 64 1 d k := fun k hk => f1 k (by omega)
        obtain ⟨r0, r1⟩ := rowK hT hI hU (v_61 1 a b (g_2 64 1 d))
        refine OPR.ok hI hU (W := W_226 a b (d 770)) ⟨j1, x1, x2, by rw [xr.2]; exact ht, j2⟩ (fun m => ?_) ?_ ?_ (by omega)
        · have n9 := hg.1.2.2.1
          have go := (hg.2.1 b c2.1 c2.2).2.2.2.2.1
          have e := mw_226 (x0 := 769) (x1 := a) (x2 := b) hS rfl (by omega) n9.2 (Int.le_trans go.2 (by decide)) m
          rw [show (769 : Int) + 1 = 770 by decide] at e
          rw [m_g_226, rset_at] at e
          exact e
        · unfold g_279
          rw [v237, v236, m_v_225, r0, if_pos c1, if_neg (by decide), if_pos c2, if_neg (by decide), if_neg c3, m_g_226, r1]
        · unfold v_279
          rw [v237, v236, m_v_225, r0, if_pos c1, if_neg (by decide), if_pos c2, if_neg (by decide), if_neg c3, m_v_226, r1]
          exact j0
    · rw [if_neg c2, if_neg c2]
      have e : g_279 769 a b d = mset d 769 0 1 := by
        unfold g_279
        rw [v237, if_pos c1, if_neg (by decide), v236, if_neg c2, if_pos rfl]
      rw [e]
      exact OPR.fail hi (by decide)
  · rw [if_neg c1, if_neg c1]
    have e : g_279 769 a b d = mset d 769 0 1 := by
      unfold g_279
      rw [v237, if_neg c1, if_pos rfl]
    rw [e]
    exact OPR.fail hi (by decide)
/-! ===== leave ===== -/
theorem mpI {w : Row} (hg : GG w) : mpP w := fun o a b => (hg.2.1 o a b).2.1.1
theorem n49 : (1 : Int) + 49 = 50 := by decide
theorem opLeave {E : mO × tW} {d : mD} {t : Int} (hT : TKL E) (hI : Inv E d) : OPR d (g_327 0 t 778 d) (g_280 769 t (g_327 0 t 778 d)) (v_327 0 t 778 d) (v_280 769 t (g_327 0 t 778 d)) := by
  obtain ⟨hS, hh, hi⟩ := id hI
  have hk := hi.1
  obtain ⟨hg, hw, hp, ht, hr⟩ := id hk
  have o9 : d 50 0 = d 770 9 := hr.2.2.2.2.1.1
  have n9 := hg.1.2.2.1
  unfold v_327 g_327
  rw [n641, n01, n49, show (50 : Int) + 5 = 55 by decide, show (1 : Int) + 2 = 3 by decide, show (50 : Int) + 2 = 52 by decide, show (50 : Int) + 3 = 53 by decide, o9, ifR, ifR]
  by_cases c1 : 0 ≤ t ∧ t < d 770 9
  · rw [if_pos c1, if_pos c1]
    obtain ⟨u1, u2, u3, u4, u5⟩ := hr.2.2.2.2.1.2 t c1.1 c1.2
    have u5 : d 55 t = d 770 (452 + 24 * t + 4) := u5
    have u2 : d 52 t = d 770 (452 + 24 * t + 1) := u2
    have u3 : d 53 t = d 770 (452 + 24 * t + 2) := u3
    rw [u5, u2, u3]
    by_cases c2 : d 770 (452 + 24 * t + 4) = 0
    · rw [if_pos c2, if_pos c2]
      obtain ⟨kS, kh, kk, kf⟩ := hI.keep hT
      have gt := hg.2.2.2.1 t c1.1 c1.2
      obtain ⟨p1, p2, p3, p4⟩ := placeIn hg kk.2.2.2.2 c1 c2
      have p1 : v_39 3 (d 770 (452 + 24 * t + 1)) t (g_2 64 1 d) = V_221 t (d 770) := p1
      obtain ⟨j1, j2⟩ := leave hg kk.2.2.2.2 c1 c2
      have j2 : Rel 1 (mset (mset (g_41 3 (d 770 (452 + 24 * t + 1)) (V_221 t (d 770)) (g_2 64 1 d)) 55 t 2) 54 t (d 770 0)) _ := j2
      have go := hg.2.1 _ gt.2.1.1 gt.2.1.2
      have xr := leaveX (p := V_221 t (d 770)) hg c1 ⟨p2, by omega⟩
      obtain ⟨x1, x2⟩ := xr.1 hw hp
      have tm : d 1 2 = d 770 0 := hr.1.2.1
      have n7 := hg.1.1
      have tk := take220 (o := d 770 (452 + 24 * t + 1)) (w := d 770) p2 (by omega) (by omega)
      obtain ⟨-, f1, -⟩ := p_41 (E := E) (x0 := 3) (x1 := d 770 (452 + 24 * t + 1)) (x2 := V_221 t (d 770)) kS s1B (by omega) (by omega) ⟨hT.t 3 3 (by decide), trivial, trivial, trivial⟩ kh
      have eU : g_97 50 t 2 (d 1 2) (g_41 3 (d 770 (452 + 24 * t + 1)) (v_39 3 (d 770 (452 + 24 * t + 1)) t (g_2 64 1 d)) (g_2 64 1 d)) = mset (mset (g_41 3 (d 770 (452 + 24 * t + 1)) (V_221 t (d 770)) (g_2 64 1 d)) 55 t 2) 54 t (d 770 0) := by
        rw [p1, tm]
        rfl
      rw [eU]
      have hU : ∀ k, (k < 1 ∨ 63 < k) → mset (mset (g_41 3 (d 770 (452 + 24 * t + 1)) (V_221 t (d 770)) (g_2 64 1 d)) 55 t 2) 54 t (d 770 0) k = g_2 64 1 d k := fun k hk => by
        rw [← f1 k (by omega)]
        funext j
        rw [ms_a (by omega), ms_a (by omega)]
      obtain ⟨r0, r1⟩ := rowK hT hI hU (d 1 2 - d 770 (452 + 24 * t + 2))
      have n0 := hg.1.2.2.2.2.2.1
      refine OPR.ok hI hU ⟨j1, x1, x2, by rw [xr.2]; exact ht, j2⟩ (fun m => ?_) ?_ ?_ (by have := gt.2.2.1; omega)
      · refine m.fr (fun u u0 u1 => ?_)
        have t1 := tk.2.2 (452 + 24 * u + 6) (by omega) (by omega)
        have t2 := tk.2.2 (452 + 24 * u + 7) (by omega) (by omega)
        exact ⟨by rw [wsn (by omega), wsn (by omega), t1], by rw [wsn (by omega), wsn (by omega), t2]⟩
      · unfold g_280
        rw [v238, show (769 : Int) + 1 = 770 by decide, r0, if_pos c1, if_neg (by decide), if_pos c2, m_v_221, m_g_220, r1]
        simp only [mset_row, rset_at, rset_rset]
        rw [show W_220 (d 770 (452 + 24 * t + 1)) (V_221 t (d 770)) (d 770) 0 = d 770 0 from tk.2.2 0 (by omega) (by omega)]
      · unfold v_280
        rw [v238, show (769 : Int) + 1 = 770 by decide, r0, if_pos c1, if_neg (by decide), if_pos c2, m_v_221, m_g_220, r1]
        simp only [rset_at]
        rw [show W_220 (d 770 (452 + 24 * t + 1)) (V_221 t (d 770)) (d 770) 0 = d 770 0 from tk.2.2 0 (by omega) (by omega), show W_220 (d 770 (452 + 24 * t + 1)) (V_221 t (d 770)) (d 770) (452 + 24 * t + 2) = d 770 (452 + 24 * t + 2) from tk.2.2 _ (by omega) (by omega), tm]
    · rw [if_neg c2, if_neg c2]
      have e : g_280 769 t d = mset d 769 0 2 := by
        unfold g_280
        rw [v238, show (769 : Int) + 1 = 770 by decide, if_pos c1, if_neg (by decide), if_neg c2]
      rw [e]
      exact OPR.fail hi (by decide)
  · rw [if_neg c1, if_neg c1]
    have e : g_280 769 t d = mset d 769 0 1 := by
      unfold g_280
      rw [v238, if_neg c1, if_pos rfl]
    rw [e]
    exact OPR.fail hi (by decide)
/-! ===== claim ===== -/
theorem opClaim {E : mO × tW} {d : mD} {t : Int} (hT : TKL E) (hI : Inv E d) : OPR d (g_329 0 t 778 d) (g_283 769 t (g_329 0 t 778 d)) (v_329 0 t 778 d) (v_283 769 t (g_329 0 t 778 d)) := by
  obtain ⟨hS, hh, hi⟩ := id hI
  have hk := hi.1
  obtain ⟨hg, hw, hp, ht, hr⟩ := id hk
  have o9 : d 50 0 = d 770 9 := hr.2.2.2.2.1.1
  have n9 := hg.1.2.2.1
  unfold v_329 g_329
  rw [n641, n01, n49, o9, ifR, ifR]
  by_cases c1 : 0 ≤ t ∧ t < d 770 9
  · rw [if_pos c1, if_pos c1]
    obtain ⟨q1, q2, q3⟩ := canClaim hg hr c1
    rw [q1]
    by_cases c2 : V_227 t (d 770) = 0
    · rw [if_pos c2, if_pos c2]
      have e : g_283 769 t d = mset d 769 0 2 := by
        unfold g_283
        rw [v238, if_pos c1, if_neg (by decide), m_v_227, if_pos c2]
      rw [e]
      exact OPR.fail hi (by decide)
    · rw [if_neg c2, if_neg c2]
      obtain ⟨kS, kh, kk, kf⟩ := hI.keep hT
      have cj := q3.1 (by omega)
      obtain ⟨j0, j1, j2, -⟩ := claim hg kk.2.2.2.2 c1 cj.1 cj.2 ht
      have xr := claimX hg c1
      obtain ⟨x1, x2⟩ := xr.1 hw hp
      obtain ⟨-, fv, f1, -⟩ := p_74 (E := E) (x0 := 1) (x1 := t) kS s1B (by omega) ⟨hT.t 6 1 (by decide), trivial, trivial⟩ kh
      have hU : ∀ k, (k < 1 ∨ 63 < k) → g_74 1 t (g_2 64 1 d) k = g_2 64 1 d k := fun k hk => f1 k (by omega)
      obtain ⟨r0, r1⟩ := rowK hT hI hU (v_74 1 t (g_2 64 1 d))
      refine OPR.ok hI hU (W := W_228 t (d 770)) ⟨j1, x1, x2, by rw [xr.2]; exact ht, j2⟩ (fun m => ?_) ?_ ?_ (by omega)
      · have e := (p_228 (E := E) (x0 := 769) (x1 := t) hS rfl (by omega) (mpI hg) m ⟨hT.t 11 769 (by decide), trivial, trivial⟩ hh).2.2.2.2.2.1
        rw [m_g_228, show (769 : Int) + 1 = 770 by decide, rset_at] at e
        exact e
      · unfold g_283
        rw [v238, m_v_227, r0, if_pos c1, if_neg (by decide), if_neg c2, m_g_228, r1]
      · unfold v_283
        rw [v238, m_v_227, r0, if_pos c1, if_neg (by decide), if_neg c2, m_v_228, r1]
        exact j0
  · rw [if_neg c1, if_neg c1]
    have e : g_283 769 t d = mset d 769 0 1 := by
      unfold g_283
      rw [v238, if_neg c1, if_pos rfl]
    rw [e]
    exact OPR.fail hi (by decide)
/-! ===== witness ===== -/
theorem opWit {E : mO × tW} {d : mD} {t p : Int} (hT : TKL E) (hI : Inv E d) : OPR d (g_330 0 t p 778 d) (g_284 769 t p (g_330 0 t p 778 d)) (v_330 0 t p 778 d) (v_284 769 t p (g_330 0 t p 778 d)) := by
  obtain ⟨hS, hh, hi⟩ := id hI
  have hk := hi.1
  obtain ⟨hg, hw, hp, ht, hr⟩ := id hk
  have o9 : d 50 0 = d 770 9 := hr.2.2.2.2.1.1
  have o8 : d 11 0 = d 770 8 := hr.2.2.2.1.1
  have n9 := hg.1.2.2.1
  have n8 := hg.1.2.1
  unfold v_330 g_330
  rw [n641, n01, n49, show (1 : Int) + 10 = 11 by decide, o9, o8, ifR, ifR, ifR, ifR]
  by_cases c1 : 0 ≤ t ∧ t < d 770 9
  · rw [if_pos c1, if_pos c1]
    by_cases c2 : 0 ≤ p ∧ p < d 770 8
    · rw [if_pos c2, if_pos c2]
      obtain ⟨q1, q2⟩ := hinder hg hr c1 c2
      rw [q1]
      by_cases c3 : V_234 t p (d 770) = 0
      · rw [if_pos c3, if_pos c3]
        have q4 := q2 c3
        obtain ⟨kS, kh, kk, kf⟩ := hI.keep hT
        obtain ⟨j0, j1, j2, -⟩ := attest hg kk.2.2.2.2 c1 c2 c3 ht
        have xr := attestX (p := p) hg c1 c2
        obtain ⟨x1, x2⟩ := xr.1 hw hp
        have w2 : g_2 64 1 d (1 + 10 + 4) p ≤ 2 := by
          rw [kf (1 + 10 + 4) (by decide)]
          rcases (p_77 (E := E) (x0 := 1) (x1 := t) (x2 := p) hS s1B (by omega) (by omega) ⟨hT.t 6 1 (by decide), trivial, trivial, trivial⟩ hh).2.2 with z | z
          · exact absurd (q1.trans c3) z
          · exact z
        obtain ⟨-, fv, f1, -⟩ := p_75 (E := E) (x0 := 1) (x1 := t) (x2 := p) kS s1B (by omega) (by omega) w2 ⟨hT.t 6 1 (by decide), trivial, trivial, trivial⟩ kh
        have hU : ∀ k, (k < 1 ∨ 63 < k) → g_75 1 t p (g_2 64 1 d) k = g_2 64 1 d k := fun k hk => f1 k (by omega)
        obtain ⟨r0, r1⟩ := rowK hT hI hU (v_75 1 t p (g_2 64 1 d))
        refine OPR.ok hI hU (W := W_235 t p (d 770)) ⟨j1, x1, x2, by rw [xr.2]; exact ht, j2⟩ (fun m => ?_) ?_ ?_ (by omega)
        · have e := (p_235 (E := E) (x0 := 769) (x1 := t) (x2 := p) hS rfl (by omega) (by omega) (mpI hg) m q4.2.1 ⟨hT.t 11 769 (by decide), trivial, trivial, trivial⟩ hh).2.2.2.2.2.1
          rw [m_g_235, show (769 : Int) + 1 = 770 by decide, rset_at] at e
          exact e
        · unfold g_284
          rw [v238, v237, m_v_234, r0, if_pos c1, if_neg (by decide), if_pos c2, if_neg (by decide), if_pos c3, m_g_235, r1]
        · unfold v_284
          rw [v238, v237, m_v_234, r0, if_pos c1, if_neg (by decide), if_pos c2, if_neg (by decide), if_pos c3, m_v_235, r1]
          exact j0
      · rw [if_neg c3, if_neg c3]
        have e : g_284 769 t p d = mset d 769 0 2 := by
          unfold g_284
          rw [v238, v237, m_v_234, if_pos c1, if_neg (by decide), if_pos c2, if_neg (by decide), if_neg c3]
        rw [e]
        exact OPR.fail hi (by decide)
    · rw [if_neg c2, if_neg c2]
      have e : g_284 769 t p d = mset d 769 0 1 := by
        unfold g_284
        rw [v238, v237, if_pos c1, if_neg (by decide), if_neg c2, if_pos rfl]
      rw [e]
      exact OPR.fail hi (by decide)
  · rw [if_neg c1, if_neg c1]
    have e : g_284 769 t p d = mset d 769 0 1 := by
      unfold g_284
      rw [v238, if_neg c1, if_pos rfl]
    rw [e]
    exact OPR.fail hi (by decide)
/-! ===== pass ===== -/
theorem v281 {w : Row} (h9 : 0 ≤ w 9 ∧ w 9 ≤ 60) : V_281 w = srvN w := by
  unfold V_281 srvN
  refine cnt0 (L := fun n a k => LP_281_4 n a k w) h9.1 (by omega) (fun n a k h => ?_) (fun n a k x y => ?_)
  · cases n with
    | zero =>
      show ST_281_4 _ a k w = a
      unfold ST_281_4
      rw [if_neg (by omega)]
    | succ n =>
      show ST_281_4 _ a k w = a
      unfold ST_281_4
      rw [if_neg (by omega)]
  · show ST_281_4 _ a k w = _
    unfold ST_281_4
    rw [if_pos y]
    split
    · rfl
    · rfl
theorem lp282 {x a : Int} : ∀ (n : Nat) (k : Int) (w : Row), x - k = (n : Int) → LP_282_59 x n a k w = (V_281 (hoursW n w) - a, hoursW n w) := by
  intro n
  induction n with
  | zero =>
    intro k w h
    show ST_282_59 x _ a k w = _
    unfold ST_282_59
    rw [if_neg (by omega)]
    rfl
  | succ n ih =>
    intro k w h
    show ST_282_59 x _ a k w = _
    unfold ST_282_59
    rw [if_pos (by omega), ih (k + 1) _ (by omega)]
    rfl
theorem if12 {α : Type} {n N : Int} {x y : α} : (if n < 1 then y else if N < n then y else x) = if 1 ≤ n ∧ n ≤ N then x else y := by
  by_cases c : 1 ≤ n ∧ n ≤ N
  · rw [if_pos c, if_neg (by omega), if_neg (by omega)]
  · rw [if_neg c]
    by_cases z : n < 1
    · rw [if_pos z]
    · rw [if_neg z, if_pos (by omega)]
theorem opPass {E : mO × tW} {d : mD} {n : Int} (hT : TKL E) (hI : Inv E d) : OPR d (g_328 0 n 778 d) (g_282 769 n (g_328 0 n 778 d)) (v_328 0 n 778 d) (v_282 769 n (g_328 0 n 778 d)) := by
  obtain ⟨hS, hh, hi⟩ := id hI
  have hk := hi.1
  obtain ⟨hg, hw, hp, ht, hr⟩ := id hk
  have tm : d 1 2 = d 770 0 := hr.1.2.1
  have n0 := hg.1.2.2.2.2.2.1
  unfold v_328 g_328
  rw [n641, n01, if12, if12]
  by_cases c1 : 1 ≤ n ∧ n ≤ 99
  · rw [if_pos c1, if_pos c1]
    have vc : v_67 1 n d = if (999 : Int) < d 770 0 + n then 0 else 1 := by
      unfold v_67
      rw [tm]
    by_cases c2 : (999 : Int) < d 770 0 + n
    · rw [if_pos c2] at vc
      rw [if_pos vc, if_pos vc]
      have e : g_282 769 n d = mset d 769 0 2 := by
        unfold g_282 f_282
        rw [v176, if_pos c1, if_neg (by decide), show (769 : Int) + 1 = 770 by decide, if_pos c2]
      rw [e]
      exact OPR.fail hi (by decide)
    · rw [if_neg c2] at vc
      have vc : ¬ v_67 1 n d = 0 := by omega
      rw [if_neg vc, if_neg vc]
      obtain ⟨kS, kh, kk, kf⟩ := hI.keep hT
      obtain ⟨j0, j1, j2, j3, j4, j5⟩ := passHours (s := 1) (N := n) (by omega) hg kk.2.2.2.2 (by omega)
      obtain ⟨x1, x2⟩ := j5 hw hp
      have tk : g_2 64 1 d 1 2 = d 770 0 := by rw [kf 1 (by decide), tm]
      obtain ⟨-, fv, f1, -⟩ := p_68 (E := E) (x0 := 1) (x1 := n) kS s1B (by omega) (by omega) (Or.inr (by omega)) ⟨hT.t 6 1 (by decide), trivial, trivial⟩ kh
      have hU : ∀ k, (k < 1 ∨ 63 < k) → g_68 1 n (g_2 64 1 d) k = g_2 64 1 d k := fun k hk => f1 k (by omega)
      obtain ⟨r0, r1⟩ := rowK hT hI hU (v_68 1 n (g_2 64 1 d))
      have e : f_282 769 n (mset (g_68 1 n (g_2 64 1 d)) 778 0 (v_68 1 n (g_2 64 1 d))) = (srvN (hoursW n.toNat (d 770)) - srvN (d 770), rset (g_278 769 (mset (mset (g_68 1 n (g_2 64 1 d)) 778 0 (v_68 1 n (g_2 64 1 d))) 769 0 0)) (hoursW n.toNat (d 770))) := by
        unfold f_282
        rw [v176, if_pos c1, if_neg (by decide), show (769 : Int) + 1 = 770 by decide, r0, if_neg c2, m_lp_282_59, m_v_281, r1, show n - 0 = n by omega, lp282 n.toNat 0 _ (by omega), v281 j1.1.2.2.1, v281 hg.1.2.2.1]
        rfl
      refine OPR.ok hI hU (W := hoursW n.toNat (d 770)) ⟨j1, x1, x2, by omega, j2⟩ (fun m => m.fr (fun u u0 u1 => ⟨j4 _ (Or.inr ⟨by omega, by omega, by omega⟩), j4 _ (Or.inr ⟨by omega, by omega, by omega⟩)⟩)) ?_ ?_ (by omega)
      · unfold g_282
        rw [e]
      · unfold v_282
        rw [e]
        exact j0
  · rw [if_neg c1, if_neg c1]
    have e : g_282 769 n d = mset d 769 0 1 := by
      unfold g_282 f_282
      rw [v176, if_neg c1, if_pos rfl]
    rw [e]
    exact OPR.fail hi (by decide)
/-! ===== give, offer ===== -/
theorem n57 : (1 : Int) + 57 = 58 := by decide
theorem lp285f {p o m0 : Int} : ∀ (n : Nat) (m k : Int) (w : Row), 0 ≤ k → ∀ i, i < 1916 → (LP_285_79 p o m0 n m k w).2 i = w i := by
  intro n
  induction n with
  | zero =>
    intro m k w h0 i hi
    show (ST_285_79 p o m0 _ m k w).2 i = w i
    unfold ST_285_79
    repeat' split
    all_goals first
      | rfl
      | exact wsn (by omega)
  | succ n ih =>
    intro m k w h0 i hi
    show (ST_285_79 p o m0 _ m k w).2 i = w i
    unfold ST_285_79
    repeat' split
    all_goals first
      | rfl
      | exact ih _ _ _ (by omega) i hi
      | exact (ih _ _ _ (by omega) i hi).trans (wsn (by omega))
theorem opGive {E : mO × tW} {d : mD} {a b n : Int} (hT : TKL E) (hI : Inv E d) : OPR d (g_331 0 a b n 778 d) (g_285 769 a b n (g_331 0 a b n 778 d)) (v_331 0 a b n 778 d) (v_285 769 a b n (g_331 0 a b n 778 d)) := by
  obtain ⟨hS, hh, hi⟩ := id hI
  have hk := hi.1
  obtain ⟨hg, hw, hp, ht, hr⟩ := id hk
  have o8 : d 11 0 = d 770 8 := hr.2.2.2.1.1
  have n8 := hg.1.2.1
  have n10 := hg.1.2.2.2.1
  unfold v_331 g_331
  rw [n641, n01, n57, show (1 : Int) + 10 = 11 by decide, o8, ifR, ifR, ifR, ifR, if12, if12]
  by_cases c1 : 0 ≤ a ∧ a < d 770 8
  · rw [if_pos c1, if_pos c1]
    by_cases c2 : 0 ≤ b ∧ b < d 770 8
    · rw [if_pos c2, if_pos c2]
      by_cases c3 : 1 ≤ n ∧ n ≤ 200
      · rw [if_pos c3, if_pos c3]
        by_cases c4 : a = b
        · rw [if_pos c4, if_pos c4]
          have e : g_285 769 a b n d = mset d 769 0 3 := by
            unfold g_285 f_285
            rw [v237, v237, v176, if_pos c1, if_neg (by decide), if_pos c2, if_neg (by decide), if_pos c3, if_neg (by decide), if_pos c4]
          rw [e]
          exact OPR.fail hi (by decide)
        · rw [if_neg c4, if_neg c4]
          have ow : v_111 58 a 0 d = V_245 a 0 (d 770) := owned hg hr
          rw [ow]
          by_cases c5 : V_245 a 0 (d 770) < n
          · rw [if_pos c5, if_pos c5]
            have e : g_285 769 a b n d = mset d 769 0 3 := by
              unfold g_285 f_285
              rw [v237, v237, v176, if_pos c1, if_neg (by decide), if_pos c2, if_neg (by decide), if_pos c3, if_neg (by decide), if_neg c4, m_v_245, if_pos c5]
            rw [e]
            exact OPR.fail hi (by decide)
          · rw [if_neg c5, if_neg c5]
            obtain ⟨kS, kh, kk, kf⟩ := hI.keep hT
            obtain ⟨w', j0, j1, j2, xr⟩ := giveLoop (s := 1) (p := a) (o := b) (m0 := n) (200 - 0 : Int).toNat (200 - 0 : Int).toNat n 0 (g_2 64 1 d) (d 770) (by decide) hg kk.2.2.2.2 c2 (by omega) (by omega)
            rw [n57] at j2
            have j2 : Rel 1 (g_114 58 a b n (g_2 64 1 d)) w' := j2
            obtain ⟨x1, x2⟩ := xr.1 hw hp
            obtain ⟨fh, f1, fS⟩ := p_114 (E := E) (x0 := 58) (x1 := a) (x2 := b) (x3 := n) kS s1B (by omega) (by omega) (by omega) ⟨hT.t 9 58 (by decide), trivial, trivial, trivial, trivial⟩ kh
            have hU : ∀ k, (k < 1 ∨ 63 < k) → g_114 58 a b n (g_2 64 1 d) k = g_2 64 1 d k := fun k hk => f1 k (by omega)
            obtain ⟨r0, r1⟩ := rowK hT hI hU (v_111 58 b 0 (g_114 58 a b n (g_2 64 1 d)))
            have ow2 : v_111 58 b 0 (g_114 58 a b n (g_2 64 1 d)) = V_245 b 0 w' := owned j1 j2
            have e : f_285 769 a b n (mset (g_114 58 a b n (g_2 64 1 d)) 778 0 (v_111 58 b 0 (g_114 58 a b n (g_2 64 1 d)))) = (V_245 b 0 w', rset (g_278 769 (mset (mset (g_114 58 a b n (g_2 64 1 d)) 778 0 (v_111 58 b 0 (g_114 58 a b n (g_2 64 1 d)))) 769 0 0)) w') := by
              unfold f_285
              rw [v237, v237, v176, r0, if_pos c1, if_neg (by decide), if_pos c2, if_neg (by decide), if_pos c3, if_neg (by decide), if_neg c4, m_v_245, r0, if_neg c5, m_lp_285_79, r1, j0]
              rfl
            refine OPR.ok hI hU (W := w') ⟨j1, x1, x2, by rw [xr.2]; exact ht, j2⟩ (fun m => m.fr (fun u u0 u1 => ?_)) ?_ ?_ (by have := (p_111 (E := E) (x0 := 58) (x1 := b) (x2 := 0) fS s1B ⟨by omega, by omega⟩ (by decide) ⟨hT.t 9 58 (by decide), trivial, trivial, trivial⟩ fh).2; omega)
            · have e := lp285f (p := a) (o := b) (m0 := n) (200 - 0 : Int).toNat n 0 (d 770) (by decide)
              rw [j0] at e
              exact ⟨e _ (by omega), e _ (by omega)⟩
            · unfold g_285
              rw [e]
            · unfold v_285
              rw [e]
              exact ow2
      · rw [if_neg c3, if_neg c3]
        have e : g_285 769 a b n d = mset d 769 0 2 := by
          unfold g_285 f_285
          rw [v237, v237, v176, if_pos c1, if_neg (by decide), if_pos c2, if_neg (by decide), if_neg c3, if_pos rfl]
        rw [e]
        exact OPR.fail hi (by decide)
    · rw [if_neg c2, if_neg c2]
      have e : g_285 769 a b n d = mset d 769 0 1 := by
        unfold g_285 f_285
        rw [v237, v237, if_pos c1, if_neg (by decide), if_neg c2, if_pos rfl]
      rw [e]
      exact OPR.fail hi (by decide)
  · rw [if_neg c1, if_neg c1]
    have e : g_285 769 a b n d = mset d 769 0 1 := by
      unfold g_285 f_285
      rw [v237, if_neg c1, if_pos rfl]
    rw [e]
    exact OPR.fail hi (by decide)
theorem offLoop2 {s p m0 : Int} : ∀ (nc nr : Nat) (m k : Int) (d : mD) (w : Row), 0 ≤ k → GG w → Rel s d w → w 10 - k ≤ (nc : Int) → w 10 - k ≤ (nr : Int) →
    ∃ w', LP_286_65 p m0 nr m k w = (V_219 w', W_219 w') ∧ GG w' ∧ Rel s (lp_115_5 (s + 57) p m0 nc m k d) w' ∧ XR w w' ∧ ∀ i, ¬ i = 11 → i < 1916 → w' i = w i := by
  intro nc
  induction nc with
  | zero =>
    intro nr m k d w h0 hg h h1 h2
    have k1 := h.2.2.2.2.2.2.1.1
    have e : lp_115_5 (s + 57) p m0 0 m k d = d := by
      show st_115_5 (s + 57) p m0 _ m k d = d
      unfold st_115_5
      rw [if_neg (by omega)]
    refine ⟨w, ?_, hg, by rw [e]; exact h, XR.refl, fun _ _ _ => rfl⟩
    cases nr with
    | zero =>
      show ST_286_65 p m0 _ m k w = _
      unfold ST_286_65
      rw [if_neg (by omega)]
    | succ nr =>
      show ST_286_65 p m0 _ m k w = _
      unfold ST_286_65
      rw [if_neg (by omega)]
  | succ nc ih =>
    intro nr m k d w h0 hg h h1 h2
    obtain ⟨k1, k2⟩ := h.2.2.2.2.2.2.1
    have r1 := h.2.2.2.2.2.2.2.1.1
    by_cases c1 : k < w 10
    · cases nr with
      | zero => omega
      | succ nr =>
        have g := k2 k h0 c1
        by_cases c2 : 0 < m
        · by_cases c5 : w 11 < 200
          · by_cases c3 : w (1916 + 5 * k + 0) = p
            · by_cases c4 : w (1916 + 5 * k + 3) = 0
              · obtain ⟨-, g', r'⟩ := offStep hg h ⟨h0, c1⟩ c4
                have e : lp_115_5 (s + 57) p m0 (nc + 1) m k d = lp_115_5 (s + 57) p m0 nc (m + -1) (k + 1) (mset (mset (mset d (s + 61) k 1) (s + 62) (w 11) k) (s + 57) 5 (w 11 + 1)) := by
                  show st_115_5 (s + 57) p m0 _ m k d = _
                  unfold st_115_5
                  rw [if_pos (by omega), if_pos c2, if_pos (by rw [r1]; exact c5), show s + 57 + 1 = s + 58 by omega, show s + 57 + 4 = s + 61 by omega, show s + 57 + 5 = s + 62 by omega, if_pos (by rw [g.1]; exact c3), if_pos (by rw [g.2.2.2]; exact c4), r1]
                have e2 : LP_286_65 p m0 (nr + 1) m k w = LP_286_65 p m0 nr (m + -1) (k + 1) (ws (ws (ws w ((1916 + (5 * k)) + 3) 1) (2916 + (w 11)) k) 11 ((w 11) + 1)) := by
                  show ST_286_65 p m0 _ m k w = _
                  unfold ST_286_65
                  rw [if_pos c1, if_pos c2, if_pos c3, if_pos c4]
                rw [e, e2]
                have n11 := hg.1.2.2.2.2.1
                have e10 : (ws (ws (ws w ((1916 + (5 * k)) + 3) 1) (2916 + (w 11)) k) 11 ((w 11) + 1)) 10 = w 10 := by
                  simp (disch := omega) only [wsn]
                obtain ⟨w', q1, q2, q3, q4, q5⟩ := ih nr (m + -1) (k + 1) _ _ (by omega) g' r' (by rw [e10]; omega) (by rw [e10]; omega)
                refine ⟨w', q1, q2, q3, XR.trans ?_ q4, fun i a b => (q5 i a b).trans (by simp (disch := omega) only [wsn])⟩
                have n8 := hg.1.2.1
                have n9 := hg.1.2.2.1
                have n10 := hg.1.2.2.2.1
                generalize hu : (ws (ws (ws w ((1916 + (5 * k)) + 3) 1) (2916 + (w 11)) k) 11 ((w 11) + 1)) = u at *
                have ue : ∀ i, ¬ i = 11 → ¬ i = 1916 + 5 * k + 3 → ¬ i = 2916 + w 11 → u i = w i := fun i a b c => by
                  rw [← hu]
                  simp (disch := omega) only [wsn]
                have u3 : u (1916 + 5 * k + 3) = 1 := by
                  rw [← hu]
                  simp (disch := omega) only [wsn, wse]
                refine ⟨GXI.keep hg.1.2.1 (ue 8 (by omega) (by omega) (by omega)) (ue 9 (by omega) (by omega) (by omega)) (fun t q a b x y => ue _ (by omega) (by omega) (by omega)) (fun p a b => ue _ (by omega) (by omega) (by omega)) (Int.le_of_eq (C2_of e10 (fun j a b => ?_)).symm), ue 0 (by omega) (by omega) (by omega)⟩
                by_cases z : j = k
                · rw [z, u3, c4]
                  exact ⟨fun y => absurd y (by decide), fun y => absurd y (by decide)⟩
                · rw [ue _ (by omega) (by omega) (by omega)]
              · have e : lp_115_5 (s + 57) p m0 (nc + 1) m k d = lp_115_5 (s + 57) p m0 nc m (k + 1) d := by
                  show st_115_5 (s + 57) p m0 _ m k d = _
                  unfold st_115_5
                  rw [if_pos (by omega), if_pos c2, if_pos (by rw [r1]; exact c5), show s + 57 + 1 = s + 58 by omega, show s + 57 + 4 = s + 61 by omega, if_pos (by rw [g.1]; exact c3), if_neg (by rw [g.2.2.2]; exact c4)]
                have e2 : LP_286_65 p m0 (nr + 1) m k w = LP_286_65 p m0 nr m (k + 1) w := by
                  show ST_286_65 p m0 _ m k w = _
                  unfold ST_286_65
                  rw [if_pos c1, if_pos c2, if_pos c3, if_neg c4]
                rw [e, e2]
                exact ih nr m (k + 1) d w (by omega) hg h (by omega) (by omega)
            · have e : lp_115_5 (s + 57) p m0 (nc + 1) m k d = lp_115_5 (s + 57) p m0 nc m (k + 1) d := by
                show st_115_5 (s + 57) p m0 _ m k d = _
                unfold st_115_5
                rw [if_pos (by omega), if_pos c2, if_pos (by rw [r1]; exact c5), show s + 57 + 1 = s + 58 by omega, if_neg (by rw [g.1]; exact c3)]
              have e2 : LP_286_65 p m0 (nr + 1) m k w = LP_286_65 p m0 nr m (k + 1) w := by
                show ST_286_65 p m0 _ m k w = _
                unfold ST_286_65
                rw [if_pos c1, if_pos c2, if_neg c3]
              rw [e, e2]
              exact ih nr m (k + 1) d w (by omega) hg h (by omega) (by omega)
          · have e : lp_115_5 (s + 57) p m0 (nc + 1) m k d = d := by
              show st_115_5 (s + 57) p m0 _ m k d = d
              unfold st_115_5
              rw [if_pos (by omega), if_pos c2, if_neg (by rw [r1]; exact c5)]
            refine ⟨w, offIdle (nr + 1) m k w (by omega) h0 (fun j a b z => ?_), hg, by rw [e]; exact h, XR.refl, fun _ _ _ => rfl⟩
            exact absurd (offStep hg h ⟨a, b⟩ z).1 c5
        · have e : lp_115_5 (s + 57) p m0 (nc + 1) m k d = d := by
            show st_115_5 (s + 57) p m0 _ m k d = d
            unfold st_115_5
            rw [if_pos (by omega), if_neg c2]
          refine ⟨w, ?_, hg, by rw [e]; exact h, XR.refl, fun _ _ _ => rfl⟩
          show ST_286_65 p m0 _ m k w = _
          unfold ST_286_65
          rw [if_pos c1, if_neg c2]
    · have e : lp_115_5 (s + 57) p m0 (nc + 1) m k d = d := by
        show st_115_5 (s + 57) p m0 _ m k d = d
        unfold st_115_5
        rw [if_neg (by omega)]
      refine ⟨w, ?_, hg, by rw [e]; exact h, XR.refl, fun _ _ _ => rfl⟩
      cases nr with
      | zero =>
        show ST_286_65 p m0 _ m k w = _
        unfold ST_286_65
        rw [if_neg (by omega)]
      | succ nr =>
        show ST_286_65 p m0 _ m k w = _
        unfold ST_286_65
        rw [if_neg (by omega)]
theorem opOffer {E : mO × tW} {d : mD} {a n : Int} (hT : TKL E) (hI : Inv E d) : OPR d (g_332 0 a n 778 d) (g_286 769 a n (g_332 0 a n 778 d)) (v_332 0 a n 778 d) (v_286 769 a n (g_332 0 a n 778 d)) := by
  obtain ⟨hS, hh, hi⟩ := id hI
  have hk := hi.1
  obtain ⟨hg, hw, hp, ht, hr⟩ := id hk
  have o8 : d 11 0 = d 770 8 := hr.2.2.2.1.1
  have n8 := hg.1.2.1
  have n10 := hg.1.2.2.2.1
  unfold v_332 g_332
  rw [n641, n01, n57, show (1 : Int) + 10 = 11 by decide, o8, ifR, ifR, if12, if12]
  by_cases c1 : 0 ≤ a ∧ a < d 770 8
  · rw [if_pos c1, if_pos c1]
    by_cases c3 : 1 ≤ n ∧ n ≤ 200
    · rw [if_pos c3, if_pos c3]
      have ow : v_111 58 a 0 d = V_245 a 0 (d 770) := owned hg hr
      rw [ow]
      by_cases c5 : V_245 a 0 (d 770) < n
      · rw [if_pos c5, if_pos c5]
        have e : g_286 769 a n d = mset d 769 0 3 := by
          unfold g_286 f_286
          rw [v237, v176, if_pos c1, if_neg (by decide), if_pos c3, if_neg (by decide), m_v_245, if_pos c5]
        rw [e]
        exact OPR.fail hi (by decide)
      · rw [if_neg c5, if_neg c5]
        obtain ⟨kS, kh, kk, kf⟩ := hI.keep hT
        obtain ⟨w', j0, j1, j2, xr, j6⟩ := offLoop2 (s := 1) (p := a) (m0 := n) (200 - 0 : Int).toNat (200 - 0 : Int).toNat n 0 (g_2 64 1 d) (d 770) (by decide) hg kk.2.2.2.2 (by omega) (by omega)
        rw [n57] at j2
        have j2 : Rel 1 (g_115 58 a n (g_2 64 1 d)) w' := j2
        obtain ⟨x1, x2⟩ := xr.1 hw hp
        obtain ⟨s0, s1, s2, s3⟩ := settle j1 j2
        have xr2 := settleX j1 j2
        obtain ⟨y1, y2⟩ := xr2.1 x1 x2
        obtain ⟨fh, f1, fS⟩ := p_115 (E := E) (x0 := 58) (x1 := a) (x2 := n) kS s1B (by omega) (by omega) ⟨hT.t 9 58 (by decide), trivial, trivial, trivial⟩ kh
        obtain ⟨-, fv, f2, -⟩ := p_82 (E := E) (x0 := 1) fS s1B ⟨hT.t 6 1 (by decide), trivial⟩ fh
        have hU : ∀ k, (k < 1 ∨ 63 < k) → g_82 1 (g_115 58 a n (g_2 64 1 d)) k = g_2 64 1 d k := fun k hk => by rw [f2 k (by omega), f1 k (by omega)]
        obtain ⟨r0, r1⟩ := rowK hT hI hU (v_82 1 (g_115 58 a n (g_2 64 1 d)))
        have e : f_286 769 a n (mset (g_82 1 (g_115 58 a n (g_2 64 1 d))) 778 0 (v_82 1 (g_115 58 a n (g_2 64 1 d)))) = (V_219 w', rset (g_278 769 (mset (mset (g_82 1 (g_115 58 a n (g_2 64 1 d))) 778 0 (v_82 1 (g_115 58 a n (g_2 64 1 d)))) 769 0 0)) (W_219 w')) := by
          unfold f_286
          rw [v237, v176, r0, if_pos c1, if_neg (by decide), if_pos c3, if_neg (by decide), m_v_245, r0, if_neg c5, m_lp_286_65, r1, j0]
          rfl
        refine OPR.ok hI hU (W := W_219 w') ⟨s1, y1, y2, by rw [xr2.2, xr.2]; exact ht, s2⟩ (fun m => ?_) ?_ ?_ (by omega)
        · exact m.fr (fun u u0 u1 => ⟨by rw [s3 _ (by omega) (by omega) (by omega) (by omega), j6 _ (by omega) (by omega)], by rw [s3 _ (by omega) (by omega) (by omega) (by omega), j6 _ (by omega) (by omega)]⟩)
        · unfold g_286
          rw [e]
        · unfold v_286
          rw [e]
          exact s0
    · rw [if_neg c3, if_neg c3]
      have e : g_286 769 a n d = mset d 769 0 2 := by
        unfold g_286 f_286
        rw [v237, v176, if_pos c1, if_neg (by decide), if_neg c3, if_pos rfl]
      rw [e]
      exact OPR.fail hi (by decide)
  · rw [if_neg c1, if_neg c1]
    have e : g_286 769 a n d = mset d 769 0 1 := by
      unfold g_286 f_286
      rw [v237, if_neg c1, if_pos rfl]
    rw [e]
    exact OPR.fail hi (by decide)
/-! ===== deposit ===== -/
theorem fr116 {m : Int} : ∀ (n : Nat) (x : Int) (d : mD) (b : Int), ¬ b = 58 → ¬ b = 63 → lp_116_2 58 m n x d b = d b := by
  intro n
  induction n with
  | zero =>
    intro x d b h1 h2
    show st_116_2 58 m _ x d b = d b
    unfold st_116_2
    split
    · funext j
      exact ms_a (by omega)
    · funext j
      exact ms_a h1
  | succ n ih =>
    intro x d b h1 h2
    show st_116_2 58 m _ x d b = d b
    unfold st_116_2
    split
    · rw [ih _ _ b h1 h2]
      funext j
      exact ms_a (by omega)
    · funext j
      exact ms_a h1
theorem fr82l : ∀ (n : Nat) (m y : Int) (d : mD) (b : Int), (b < 1 ∨ 63 < b) → (lp_82_9 1 n m y d).2 b = d b := by
  have g116 : ∀ (m : Int) (d : mD) (b : Int), (b < 1 ∨ 63 < b) → g_116 (1 + 57) m d b = d b := fun m d b hb => by
    rw [n57]
    exact fr116 _ _ _ b (by omega) (by omega)
  intro n
  induction n with
  | zero =>
    intro m y d b hb
    show (st_82_9 1 _ m y d).2 b = d b
    unfold st_82_9
    split
    · split
      · exact g116 _ _ b hb
      · funext j
        show mset _ _ _ _ b j = d b j
        rw [ms_a (by omega), ms_a (by omega), ms_a (by omega)]
    · exact g116 _ _ b hb
  | succ n ih =>
    intro m y d b hb
    show (st_82_9 1 _ m y d).2 b = d b
    unfold st_82_9
    split
    · split
      · exact g116 _ _ b hb
      · rw [ih _ _ _ b hb]
        funext j
        rw [ms_a (by omega), ms_a (by omega), ms_a (by omega)]
    · exact g116 _ _ b hb
theorem fr82 {d : mD} : ∀ b, (b < 1 ∨ 63 < b) → g_82 1 d b = d b := fun b hb => by
  unfold g_82 f_82
  exact fr82l _ _ _ _ b hb
theorem opDep {E : mO × tW} {d : mD} {n : Int} (hT : TKL E) (hI : Inv E d) : OPR d (g_333 0 n 778 d) (g_287 769 n (g_333 0 n 778 d)) (v_333 0 n 778 d) (v_287 769 n (g_333 0 n 778 d)) := by
  obtain ⟨hS, hh, hi⟩ := id hI
  have hk := hi.1
  obtain ⟨hg, hw, hp, ht, hr⟩ := id hk
  have fu : d 1 1 = d 770 1 := hr.1.1
  have n1 := hg.1.2.2.2.2.2.2.1
  unfold v_333 g_333
  rw [n641, n01, if12, if12, fu]
  by_cases c1 : 1 ≤ n ∧ n ≤ 9999
  · rw [if_pos c1, if_pos c1]
    by_cases c2 : (99999 : Int) < d 770 1 + n
    · rw [if_pos c2, if_pos c2]
      have e : g_287 769 n d = mset d 769 0 2 := by
        unfold g_287
        rw [v176, if_pos c1, if_neg (by decide), show (769 : Int) + 1 = 770 by decide, if_pos c2]
      rw [e]
      exact OPR.fail hi (by decide)
    · rw [if_neg c2, if_neg c2]
      obtain ⟨kS, kh, kk, kf⟩ := hI.keep hT
      obtain ⟨a1, a2⟩ := setFund (v := d 770 1 + n) hg kk.2.2.2.2 (by omega)
      have xa := wsX (i := 1) (v := d 770 1 + n) hg.1 (Or.inl (by decide))
      obtain ⟨w1, w2⟩ := xa.1 hw hp
      obtain ⟨s0, s1, s2, s3⟩ := settle a1 a2
      have xr := settleX a1 a2
      obtain ⟨y1, y2⟩ := xr.1 w1 w2
      have f2 : ∀ b, (b < 1 ∨ 63 < b) → g_82 1 (mset (g_2 64 1 d) 1 1 (d 770 1 + n)) b = mset (g_2 64 1 d) 1 1 (d 770 1 + n) b := fr82
      have hU : ∀ k, (k < 1 ∨ 63 < k) → g_82 1 (mset (g_2 64 1 d) 1 1 (d 770 1 + n)) k = g_2 64 1 d k := fun k hk => by
        rw [f2 k hk]
        funext j
        exact ms_a (by omega)
      obtain ⟨r0, r1⟩ := rowK hT hI hU (g_82 1 (mset (g_2 64 1 d) 1 1 (d 770 1 + n)) 1 1)
      refine OPR.ok hI hU (W := W_219 (ws (d 770) 1 (d 770 1 + n))) ⟨s1, y1, y2, by rw [xr.2, xa.2]; exact ht, s2⟩ (fun m => m.fr (fun u u0 u1 => ⟨by rw [s3 _ (by omega) (by omega) (by omega) (by omega), wsn (by omega)], by rw [s3 _ (by omega) (by omega) (by omega) (by omega), wsn (by omega)]⟩)) ?_ ?_ (by have a := s2.1.1; have b := s1.1.2.2.2.2.2.2.1; rw [a]; omega)
      · unfold g_287
        rw [v176, if_pos c1, if_neg (by decide), show (769 : Int) + 1 = 770 by decide, r0, if_neg c2, mset_row, r1, m_g_219, rset_rset, rset_at]
      · unfold v_287
        rw [v176, if_pos c1, if_neg (by decide), show (769 : Int) + 1 = 770 by decide, r0, if_neg c2, mset_row, r1, m_g_219, rset_at, rset_at]
        exact s2.1.1
  · rw [if_neg c1, if_neg c1]
    have e : g_287 769 n d = mset d 769 0 1 := by
      unfold g_287
      rw [v176, if_neg c1, if_pos rfl]
    rw [e]
    exact OPR.fail hi (by decide)
/-! ===== merge ===== -/
theorem pairLe {x y : Int} (a : x = y) (e : 0 ≤ y ∧ y ≤ 16) : -100000 ≤ x ∧ x ≤ 100000 := by omega
theorem opMerge {E : mO × tW} {d : mD} {a b : Int} (hT : TKL E) (hI : Inv E d) : OPR d (g_334 0 a b 778 d) (g_288 769 a b (g_334 0 a b 778 d)) (v_334 0 a b 778 d) (v_288 769 a b (g_334 0 a b 778 d)) := by
  obtain ⟨hS, hh, hi⟩ := id hI
  have hk := hi.1
  obtain ⟨hg, hw, hp, ht, hr⟩ := id hk
  have o7 : d 3 0 = d 770 7 := hr.2.1.1
  have n7 := hg.1.1
  unfold v_334 g_334
  rw [n641, n01, show (1 : Int) + 2 = 3 by decide, show (3 : Int) + 5 = 8 by decide, show (3 : Int) + 6 = 9 by decide, o7, ifR, ifR, ifR, ifR]
  by_cases c1 : 0 ≤ a ∧ a < d 770 7
  · rw [if_pos c1, if_pos c1]
    by_cases c2 : 0 ≤ b ∧ b < d 770 7
    · rw [if_pos c2, if_pos c2]
      have oa : d 8 a = d 770 (12 + 68 * a + 4) := (hr.2.1.2 a c1.1 c1.2).2.2.2.2.1
      have ob : d 8 b = d 770 (12 + 68 * b + 4) := (hr.2.1.2 b c2.1 c2.2).2.2.2.2.1
      rw [oa, ob]
      have v270 : ∀ D : mD, D 770 = d 770 → v_270 769 a b D = if a = b then 0 else if d 770 (12 + 68 * a + 4) = 0 then 0 else if d 770 (12 + 68 * b + 4) = 0 then 0 else 1 := fun D hD => by
        unfold v_270
        rw [show (769 : Int) + 1 = 770 by decide, hD]
      by_cases c3 : ¬ a = b ∧ ¬ d 770 (12 + 68 * a + 4) = 0 ∧ ¬ d 770 (12 + 68 * b + 4) = 0
      · obtain ⟨c3, c4, c5⟩ := c3
        rw [if_neg c3, if_neg c4, if_neg c5, if_neg c3, if_neg c4, if_neg c5]
        obtain ⟨kS, kh, kk, kf⟩ := hI.keep hT
        have oo : d 770 (12 + 68 * b + 4) = 1 := by
          rcases (hg.2.1 b c2.1 c2.2).2.2.2.1 with z | z
          · exact absurd z c5
          · exact z
        obtain ⟨j1, j2, j3⟩ := merge hg kk.2.2.2.2 c1 c2 c3 oo
        have xr := mergeX hg j3
        obtain ⟨x1, x2⟩ := xr.1 hw hp
        obtain ⟨-, f1, -⟩ := p_63 (E := E) (x0 := 1) (x1 := a) (x2 := b) kS s1B (by omega) (by omega) ⟨hT.t 6 1 (by decide), trivial, trivial, trivial⟩ kh
        have hU : ∀ k, (k < 1 ∨ 63 < k) → g_63 1 a b (g_2 64 1 d) k = g_2 64 1 d k := fun k hk => f1 k (by omega)
        obtain ⟨r0, r1⟩ := rowK hT hI hU (g_63 1 a b (g_2 64 1 d) 9 b)
        have w7 : W_229 a b (d 770) 7 = d 770 7 := j3 7 (by decide) (by decide)
        refine OPR.ok hI hU (W := W_229 a b (d 770)) ⟨j1, x1, x2, by rw [xr.2]; exact ht, j2⟩ (fun m => m.fr (fun u u0 u1 => ⟨j3 _ (by omega) (by omega), j3 _ (by omega) (by omega)⟩)) ?_ ?_ (by have a := (j2.2.1.2 b c2.1 (by omega)).2.2.2.2.2; have e := (j1.2.1 b c2.1 (by omega)).2.2.2.2.1; exact pairLe a e)
        · unfold g_288
          rw [v236, v236, v270 _ r0, r0, if_pos c1, if_neg (by decide), if_pos c2, if_neg (by decide), if_neg c3, if_neg c4, if_neg c5, if_neg (by decide), m_g_229, r1]
        · unfold v_288
          rw [v236, v236, v270 _ r0, r0, if_pos c1, if_neg (by decide), if_pos c2, if_neg (by decide), if_neg c3, if_neg c4, if_neg c5, if_neg (by decide), m_g_229, r1, show (769 : Int) + 1 = 770 by decide, rset_at]
          exact (j2.2.1.2 b c2.1 (by omega)).2.2.2.2.2
      · have ev : (if a = b then (2 : Int) else if d 770 (12 + 68 * a + 4) = 0 then 2 else if d 770 (12 + 68 * b + 4) = 0 then 2 else 0) = 2 := by
          by_cases z : a = b
          · rw [if_pos z]
          · rw [if_neg z]
            by_cases z2 : d 770 (12 + 68 * a + 4) = 0
            · rw [if_pos z2]
            · rw [if_neg z2]
              by_cases z3 : d 770 (12 + 68 * b + 4) = 0
              · rw [if_pos z3]
              · exact absurd ⟨z, z2, z3⟩ c3
        have eg : ∀ u : mD, (if a = b then d else if d 770 (12 + 68 * a + 4) = 0 then d else if d 770 (12 + 68 * b + 4) = 0 then d else u) = d := fun u => by
          by_cases z : a = b
          · rw [if_pos z]
          · rw [if_neg z]
            by_cases z2 : d 770 (12 + 68 * a + 4) = 0
            · rw [if_pos z2]
            · rw [if_neg z2]
              by_cases z3 : d 770 (12 + 68 * b + 4) = 0
              · rw [if_pos z3]
              · exact absurd ⟨z, z2, z3⟩ c3
        have er : (if a = b then (0 : Int) else if d 770 (12 + 68 * a + 4) = 0 then 0 else if d 770 (12 + 68 * b + 4) = 0 then 0 else 1) = 0 := by
          by_cases z : a = b
          · rw [if_pos z]
          · rw [if_neg z]
            by_cases z2 : d 770 (12 + 68 * a + 4) = 0
            · rw [if_pos z2]
            · rw [if_neg z2]
              by_cases z3 : d 770 (12 + 68 * b + 4) = 0
              · rw [if_pos z3]
              · exact absurd ⟨z, z2, z3⟩ c3
        rw [ev, eg]
        have e : g_288 769 a b d = mset d 769 0 2 := by
          unfold g_288
          rw [v236, v236, v270 d rfl, if_pos c1, if_neg (by decide), if_pos c2, if_neg (by decide), er, if_pos rfl]
        rw [e]
        exact OPR.fail hi (by decide)
    · rw [if_neg c2, if_neg c2]
      have e : g_288 769 a b d = mset d 769 0 1 := by
        unfold g_288
        rw [v236, v236, if_pos c1, if_neg (by decide), if_neg c2, if_pos rfl]
      rw [e]
      exact OPR.fail hi (by decide)
  · rw [if_neg c1, if_neg c1]
    have e : g_288 769 a b d = mset d 769 0 1 := by
      unfold g_288
      rw [v236, if_neg c1, if_pos rfl]
    rw [e]
    exact OPR.fail hi (by decide)
/-! ===== reopen ===== -/
theorem openCnt {d : mD} {w : Row} {x1 : Int} (hg : GG w) (h : Rel 1 d w) : ∀ (n : Nat) (a x : Int), 0 ≤ x → w 7 - x ≤ (n : Int) → (LP_289_64 x1 n a x w) = (lp_37_4 3 n a x d, w) := by
  have o7 : d 3 0 = w 7 := h.2.1.1
  intro n
  induction n with
  | zero =>
    intro a x h0 hn
    show ST_289_64 x1 _ a x w = (st_37_4 3 _ a x d, w)
    unfold ST_289_64 st_37_4
    rw [o7, if_neg (by omega), if_neg (by omega)]
  | succ n ih =>
    intro a x h0 hn
    show ST_289_64 x1 _ a x w = (st_37_4 3 _ a x d, w)
    unfold ST_289_64 st_37_4
    rw [o7, show (3 : Int) + 5 = 8 by decide]
    by_cases c : x < w 7
    · rw [if_pos c, if_pos c]
      have oa : d 8 x = w (12 + 68 * x + 4) := (h.2.1.2 x h0 c).2.2.2.2.1
      rw [oa]
      rcases (hg.2.1 x h0 c).2.2.2.1 with z | z
      · rw [z, if_pos rfl]
        exact ih _ _ (by omega) (by omega)
      · rw [z, if_neg (by decide)]
        exact ih _ _ (by omega) (by omega)
    · rw [if_neg c, if_neg c]
theorem b37 {d : mD} : ∀ (n : Nat) (a x : Int), 0 ≤ a → 0 ≤ lp_37_4 3 n a x d ∧ lp_37_4 3 n a x d ≤ a + n := by
  intro n
  induction n with
  | zero =>
    intro a x h
    show 0 ≤ st_37_4 3 _ a x d ∧ st_37_4 3 _ a x d ≤ _
    unfold st_37_4
    repeat' split
    · show 0 ≤ (0 : Int) ∧ (0 : Int) ≤ _
      omega
    · show 0 ≤ (0 : Int) ∧ (0 : Int) ≤ _
      omega
    · omega
  | succ n ih =>
    intro a x h
    show 0 ≤ st_37_4 3 _ a x d ∧ st_37_4 3 _ a x d ≤ _
    unfold st_37_4
    split
    · split
      · have := ih (a + 0) (x + 1) (by omega)
        omega
      · have := ih (a + 1) (x + 1) (by omega)
        omega
    · omega
theorem opOpen {E : mO × tW} {d : mD} {o : Int} (hT : TKL E) (hI : Inv E d) : OPR d (g_335 0 o 778 d) (g_289 769 o (g_335 0 o 778 d)) (v_335 0 o 778 d) (v_289 769 o (g_335 0 o 778 d)) := by
  obtain ⟨hS, hh, hi⟩ := id hI
  have hk := hi.1
  obtain ⟨hg, hw, hp, ht, hr⟩ := id hk
  have o7 : d 3 0 = d 770 7 := hr.2.1.1
  have n7 := hg.1.1
  unfold v_335 g_335
  rw [n641, n01, show (1 : Int) + 2 = 3 by decide, show (3 : Int) + 5 = 8 by decide, o7, ifR, ifR]
  by_cases c1 : 0 ≤ o ∧ o < d 770 7
  · rw [if_pos c1, if_pos c1]
    have oa : d 8 o = d 770 (12 + 68 * o + 4) := (hr.2.1.2 o c1.1 c1.2).2.2.2.2.1
    rw [oa]
    by_cases c2 : d 770 (12 + 68 * o + 4) = 0
    · rw [if_pos c2, if_pos c2]
      obtain ⟨kS, kh, kk, kf⟩ := hI.keep hT
      obtain ⟨j1, j2⟩ := setOpen hg kk.2.2.2.2 c1
      have j2 : Rel 1 (mset (g_2 64 1 d) 8 o 1) (ws (d 770) (12 + 68 * o + 4) 1) := j2
      have xr := wsX (i := 12 + 68 * o + 4) (v := 1) hg.1 (Or.inr (Or.inl (by omega)))
      obtain ⟨x1, x2⟩ := xr.1 hw hp
      have hU : ∀ k, (k < 1 ∨ 63 < k) → mset (g_2 64 1 d) 8 o 1 k = g_2 64 1 d k := fun k hk => by
        funext j
        exact ms_a (by omega)
      obtain ⟨r0, r1⟩ := rowK hT hI hU (v_37 3 (mset (g_2 64 1 d) 8 o 1))
      have n7' := j1.1.1
      have oc := openCnt (x1 := o) j1 j2 (6 - 0 : Int).toNat 0 0 (by decide) (by omega)
      have e : f_289 769 o (mset (mset (g_2 64 1 d) 8 o 1) 778 0 (v_37 3 (mset (g_2 64 1 d) 8 o 1))) = (v_37 3 (mset (g_2 64 1 d) 8 o 1), rset (g_278 769 (mset (mset (mset (g_2 64 1 d) 8 o 1) 778 0 (v_37 3 (mset (g_2 64 1 d) 8 o 1))) 769 0 0)) (ws (d 770) (12 + 68 * o + 4) 1)) := by
        unfold f_289
        rw [v236, show (769 : Int) + 1 = 770 by decide, r0, if_pos c1, if_neg (by decide), if_pos c2, mset_row, r1, m_lp_289_64, rset_at, oc]
        unfold pr
        rw [rset_rset]
        rfl
      refine OPR.ok hI hU (W := ws (d 770) (12 + 68 * o + 4) 1) ⟨j1, x1, x2, by rw [xr.2]; exact ht, j2⟩ (fun m => m.fr (fun u u0 u1 => ⟨wsn (by omega), wsn (by omega)⟩)) ?_ ?_ (by have := b37 (d := mset (g_2 64 1 d) 8 o 1) (6 - 0 : Int).toNat 0 0 (by decide); unfold v_37; omega)
      · unfold g_289
        rw [e]
      · unfold v_289
        rw [e]
    · rw [if_neg c2, if_neg c2]
      have e : g_289 769 o d = mset d 769 0 2 := by
        unfold g_289 f_289
        rw [v236, show (769 : Int) + 1 = 770 by decide, if_pos c1, if_neg (by decide), if_neg c2]
      rw [e]
      exact OPR.fail hi (by decide)
  · rw [if_neg c1, if_neg c1]
    have e : g_289 769 o d = mset d 769 0 1 := by
      unfold g_289 f_289
      rw [v236, if_neg c1, if_pos rfl]
    rw [e]
    exact OPR.fail hi (by decide)
/-! ===== set ===== -/
theorem olds_r {k : Int} (h : 0 ≤ k ∧ k < 5) : (k = 0 ∧ olds 0 k = 0 ∧ olds 1 k = 9) ∨ (k = 1 ∧ olds 0 k = 0 ∧ olds 1 k = 3) ∨ (k = 2 ∧ olds 0 k = 1 ∧ olds 1 k = 9) ∨ (k = 3 ∧ olds 0 k = 1 ∧ olds 1 k = 20) ∨ (k = 4 ∧ olds 0 k = 1 ∧ olds 1 k = 99) := by
  have : k = 0 ∨ k = 1 ∨ k = 2 ∨ k = 3 ∨ k = 4 := by omega
  rcases this with h | h | h | h | h <;> subst h <;> decide
theorem GN.set {w : Row} {k v : Int} (hg : GN w) (hk : 0 ≤ k ∧ k < 5) (hv : olds 0 k ≤ v ∧ v ≤ olds 1 k) : GN (ws w (2 + k) v) := by
  unfold GN at hg ⊢
  obtain ⟨h1, h2, h3, h4, h5, h6, h7, h8, h9, h10, h11, h12, h13⟩ := hg
  unfold ws
  rcases olds_r hk with ⟨z, a, b⟩ | ⟨z, a, b⟩ | ⟨z, a, b⟩ | ⟨z, a, b⟩ | ⟨z, a, b⟩ <;> subst z <;> rw [a, b] at hv <;> simp <;> omega
theorem oldB {d : mD} {w : Row} {k : Int} (hg : GG w) (h : Rel 1 d w) (hk : 0 ≤ k ∧ k < 5) : -100000 ≤ d 2 k ∧ d 2 k ≤ 100000 := by
  have e : d 2 k = w (2 + k) := h.1.2.2 k hk.1 hk.2
  obtain ⟨-, -, -, -, -, -, -, g2, g3, g4, g5, g6, g7⟩ := hg.1
  have : k = 0 ∨ k = 1 ∨ k = 2 ∨ k = 3 ∨ k = 4 := by omega
  rcases this with z | z | z | z | z
  · subst z
    have e : d 2 0 = w 2 := e
    omega
  · subst z
    have e : d 2 1 = w 3 := e
    omega
  · subst z
    have e : d 2 2 = w 4 := e
    omega
  · subst z
    have e : d 2 3 = w 5 := e
    omega
  · subst z
    have e : d 2 4 = w 6 := e
    omega
theorem opSet {E : mO × tW} {d : mD} {k v : Int} (hT : TKL E) (hI : Inv E d) : OPR d (g_337 0 k v 778 d) (g_293 769 k v (g_337 0 k v 778 d)) (v_337 0 k v 778 d) (v_293 769 k v (g_337 0 k v 778 d)) := by
  obtain ⟨hS, hh, hi⟩ := id hI
  have hk := hi.1
  obtain ⟨hg, hw, hp, ht, hr⟩ := id hk
  unfold v_337 g_337
  rw [n641, n01, show (1 : Int) + 1 = 2 by decide, ifR, ifR]
  have v04 : ∀ D, v_176 k 0 4 D = if 0 ≤ k ∧ k < 5 then 1 else 0 := fun D => by
    rw [v176]
    by_cases c : 0 ≤ k ∧ k < 5
    · rw [if_pos c, if_pos (by omega)]
    · rw [if_neg c, if_neg (by omega)]
  by_cases c1 : 0 ≤ k ∧ k < 5
  · rw [if_pos c1, if_pos c1]
    by_cases c2 : olds 0 k ≤ v ∧ v ≤ olds 1 k
    · rw [if_neg (by omega), if_neg (by omega), if_neg (by omega), if_neg (by omega)]
      obtain ⟨kS, kh, kk, kf⟩ := hI.keep hT
      obtain ⟨j1, j2⟩ := setSet hg kk.2.2.2.2 c1 (hg.1.set c1 c2)
      have j2 : Rel 1 (mset (g_2 64 1 d) 2 k v) (ws (d 770) (2 + k) v) := j2
      have xr := wsX (i := 2 + k) (v := v) hg.1 (Or.inl (by omega))
      obtain ⟨x1, x2⟩ := xr.1 hw hp
      have hU : ∀ i, (i < 1 ∨ 63 < i) → mset (g_2 64 1 d) 2 k v i = g_2 64 1 d i := fun i hi => by
        funext j
        exact ms_a (by omega)
      obtain ⟨r0, r1⟩ := rowK hT hI hU (d 2 k)
      refine OPR.ok hI hU (W := ws (d 770) (2 + k) v) ⟨j1, x1, x2, by rw [xr.2]; exact ht, j2⟩ (fun m => m.fr (fun u u0 u1 => ⟨wsn (by omega), wsn (by omega)⟩)) ?_ ?_ (oldB hg hr c1)
      · unfold g_293
        rw [v04, if_pos c1, if_neg (by decide), old0 c1, old1 c1, v176, if_pos c2, if_neg (by decide), show (769 : Int) + 1 = 770 by decide, mset_row, r1]
      · unfold v_293
        rw [v04, if_pos c1, if_neg (by decide), old0 c1, old1 c1, v176, if_pos c2, if_neg (by decide), show (769 : Int) + 1 = 770 by decide, r0]
        exact hr.1.2.2 k c1.1 c1.2
    · have ev : (if v < olds 0 k then (1 : Int) else if olds 1 k < v then 1 else 0) = 1 := by
        by_cases z : v < olds 0 k
        · rw [if_pos z]
        · rw [if_neg z, if_pos (by omega)]
      have eg : ∀ u : mD, (if v < olds 0 k then d else if olds 1 k < v then d else u) = d := fun u => by
        by_cases z : v < olds 0 k
        · rw [if_pos z]
        · rw [if_neg z, if_pos (by omega)]
      rw [ev, eg]
      have e : g_293 769 k v d = mset d 769 0 1 := by
        unfold g_293
        rw [v04, if_pos c1, if_neg (by decide), old0 c1, old1 c1, v176, if_neg c2, if_pos rfl]
      rw [e]
      exact OPR.fail hi (by decide)
  · rw [if_neg c1, if_neg c1]
    have e : g_293 769 k v d = mset d 769 0 1 := by
      unfold g_293
      rw [v04, if_neg c1, if_pos rfl]
    rw [e]
    exact OPR.fail hi (by decide)
/-! ===== undo, save, restore ===== -/
def OPV (d d2 : mD) (v : Int) : Prop := CI d2 ∧ d2 769 0 = v ∧ (RP d → RP d2)
theorem opUndo {d : mD} (hi : CI d) : OPR d (g_338 0 778 d) (g_294 769 (g_338 0 778 d)) (v_338 0 778 d) (v_294 769 (g_338 0 778 d)) := by
  obtain ⟨i1, i2, i3, i4⟩ := id hi
  have h7 := i2.2.2.1
  have hn := i2.1
  have hc := i2.2.1
  unfold v_338 g_338
  rw [n641, n01]
  by_cases c : d 64 2 = 0
  · rw [if_pos c, if_pos c]
    have e : g_294 769 d = mset d 769 0 1 := by
      unfold g_294 f_294
      rw [if_neg (by omega)]
    rw [e]
    exact OPR.fail hi (by decide)
  · rw [if_neg c, if_neg c]
    have hk := i2.2.2.2 (d 64 2 - 1) (by omega) (by omega)
    have ek : ksl (d 64 1) (d 64 2) (d 64 2 - 1) = 66 + 63 * ((d 64 1 + 8 - 1) % 8) := by
      unfold ksl
      rw [show d 64 1 + 8 - d 64 2 + (d 64 2 - 1) = d 64 1 + 8 - 1 by omega]
    rw [ek] at hk
    obtain ⟨u1, u2, u3, u4⟩ := undoC hn hk
    generalize hD : mset (g_3 64 1 d) 778 0 (g_3 64 1 d 64 2) = D
    have Db : ∀ b, ¬ b = 778 → D b = g_3 64 1 d b := fun b hb => by
      rw [← hD]
      funext j
      exact ms_a hb
    have Dd : ∀ b, 64 < b → ¬ b = 778 → D b = d b := fun b x y => by rw [Db b y, u2 b (by omega) (by omega)]
    have D0 : D 778 0 = d 64 2 - 1 := by rw [← hD, ms_e rfl rfl, u4]
    have D7 : D 769 7 = d 64 2 := by rw [Dd 769 (by decide) (by decide), h7]
    obtain ⟨v1, v2⟩ := undo294 (d := D) (by omega)
    obtain ⟨w1, w2, w3, w4, w5⟩ := id v2
    obtain ⟨x1, x2⟩ := undoH (d' := g_294 769 D) i2 (by omega) (fun b x y => by rw [w1 b (by omega) (by omega), Db b (by omega)]) v2 (by rw [D7, h7]) (Dd 771 (by decide) (by decide)) rfl rfl rfl
    refine ⟨⟨x2, x1, i3.fr (fun b hb => by rw [w1 b (by omega) (by omega), Dd b (by omega) (by omega)]), i4.fr ?_ ?_ ?_ ?_⟩, w3, fun _ => ⟨by rw [v1, D0, D7], by rw [v1, D7]; exact inI.of (by omega)⟩, fun r => ⟨r.1.undo (by omega) v2 (by rw [D7, h7]) (Dd 771 (by decide) (by decide)) rfl rfl (by rw [w1 771 (by decide) (by decide), Dd 771 (by decide) (by decide)]) (by rw [w1 772 (by decide) (by decide), Dd 772 (by decide) (by decide)]) (by rw [w1 775 (by decide) (by decide), Dd 775 (by decide) (by decide)]), r.2.of (by rw [w1 576 (by decide) (by decide), Dd 576 (by decide) (by decide)]) (by rw [w2 11 (by decide) (by decide), Dd 769 (by decide) (by decide)]) (by rw [w2 12 (by decide) (by decide), Dd 769 (by decide) (by decide)])⟩⟩
    · rw [w1 578 (by decide) (by decide), Dd 578 (by decide) (by decide)]
    · rw [w1 579 (by decide) (by decide), Dd 579 (by decide) (by decide)]
    · rw [w2 9 (by decide) (by decide), Dd 769 (by decide) (by decide)]
    · rw [w1 776 (by decide) (by decide), Dd 776 (by decide) (by decide)]
theorem opSave {d : mD} {a : Int} (hi : CI d) : OPV d (g_295 769 a (g_339 0 a d)) (v_339 0 a d) := by
  obtain ⟨i1, i2, i3, i4⟩ := id hi
  unfold v_339 g_339
  rw [n01, show (0 : Int) + 570 = 570 by decide, show (0 : Int) + 571 = 571 by decide, ifR, ifR]
  have v01 : ∀ D, v_176 a 0 1 D = if 0 ≤ a ∧ a < 2 then 1 else 0 := fun D => by
    rw [v176]
    by_cases c : 0 ≤ a ∧ a < 2
    · rw [if_pos c, if_pos (by omega)]
    · rw [if_neg c, if_neg (by omega)]
  by_cases c : 0 ≤ a ∧ a < 2
  · rw [if_pos c, if_pos c, show 570 + (73 + 63 * a) = 643 + 63 * a by omega]
    obtain ⟨-, cf⟩ := i1.copy (a := 643 + 63 * a) (by omega)
    generalize hD : mset (g_59 (643 + 63 * a) 1 d) 571 a 1 = D
    have Dd : ∀ b, ¬ b = 571 → ¬ (643 ≤ b ∧ b ≤ 768) → D b = d b := fun b x y => by
      rw [← hD, ← cf b (by omega)]
      funext j
      exact ms_a x
    have er : g_295 769 a D = lp_295_29 769 a (3116 - 0 : Int).toNat 0 (mset D 769 0 0) := by
      unfold g_295
      rw [v01, if_pos c, if_neg (by decide)]
    have sw := save295 (a := a) (d := mset D 769 0 0)
    rw [← er] at sw
    obtain ⟨w1, w2, w3, w4, w5⟩ := id sw
    have m9 : ∀ b, ¬ b = 769 → mset D 769 0 0 b = D b := fun b hb => by
      funext j
      exact ms_a hb
    have sr := saveH (a := a) (d' := g_295 769 a D) (by omega) i3 i1 (fun b x y => by rw [w1 b (by omega) (by omega), m9 b (by omega), hD]) sw (by rw [m9 770 (by decide), Dd 770 (by decide) (by decide)]) (by rw [m9 772 (by decide), Dd 772 (by decide) (by decide)]) (by rw [m9 775 (by decide), Dd 775 (by decide) (by decide)]) rfl rfl
    have gd : ∀ b, ¬ b = 571 → ¬ (643 ≤ b ∧ b ≤ 768) → ¬ b = 769 → ¬ b = 772 → ¬ b = 775 → g_295 769 a D b = d b := fun b x y z u t => by rw [w1 b u t, m9 b z, Dd b x y]
    have g9 : ∀ j, ¬ j = 0 → g_295 769 a D 769 j = d 769 j := fun j hj => by rw [w1 769 (by decide) (by decide), ms_i hj, Dd 769 (by decide) (by decide)]
    have g70 : g_295 769 a D 770 = d 770 := gd 770 (by decide) (by decide) (by decide) (by decide) (by decide)
    refine ⟨⟨?_, i2.fr (fun b x y => gd b (by omega) (by omega) (by omega) (by omega) (by omega)) (g9 7 (by decide)) (fun j _ _ => by rw [gd 771 (by decide) (by decide) (by decide) (by decide) (by decide)]), sr, i4.fr ?_ ?_ (g9 9 (by decide)) ?_⟩, ?_, fun r => ⟨r.1.save (a := a) (by omega) sw (by rw [m9 770 (by decide), Dd 770 (by decide) (by decide)]) (by rw [m9 772 (by decide), Dd 772 (by decide) (by decide)]) (by rw [m9 775 (by decide), Dd 775 (by decide) (by decide)]) g70 (g9 7 (by decide)) (gd 771 (by decide) (by decide) (by decide) (by decide) (by decide)) rfl rfl, r.2.of (gd 576 (by decide) (by decide) (by decide) (by decide) (by decide)) (g9 11 (by decide)) (g9 12 (by decide))⟩⟩
    · rw [g70]
      exact i1.fr (fun b x y => gd b (by omega) (by omega) (by omega) (by omega) (by omega))
    · rw [gd 578 (by decide) (by decide) (by decide) (by decide) (by decide)]
    · rw [gd 579 (by decide) (by decide) (by decide) (by decide) (by decide)]
    · rw [gd 776 (by decide) (by decide) (by decide) (by decide) (by decide)]
    · rw [w1 769 (by decide) (by decide), ms_e rfl rfl]
  · rw [if_neg c, if_neg c]
    have e : g_295 769 a d = mset d 769 0 1 := by
      unfold g_295
      rw [v01, if_neg c, if_pos rfl]
    rw [e]
    exact ⟨hi.qr (d1 := d) (fun _ _ _ _ => rfl) QR.s0, ms_e rfl rfl, fun r => QR.s0.rp r rfl rfl (fun _ _ => rfl)⟩
theorem opRest {d : mD} {a : Int} (hi : CI d) : OPV d (g_296 769 a (g_340 0 a d)) (v_340 0 a d) := by
  obtain ⟨i1, i2, i3, i4⟩ := id hi
  unfold v_340 g_340
  rw [n641, n01, show (0 : Int) + 570 = 570 by decide, show (0 : Int) + 571 = 571 by decide, ifR, ifR]
  have v01 : ∀ D, v_176 a 0 1 D = if 0 ≤ a ∧ a < 2 then 1 else 0 := fun D => by
    rw [v176]
    by_cases c : 0 ≤ a ∧ a < 2
    · rw [if_pos c, if_pos (by omega)]
    · rw [if_neg c, if_neg (by omega)]
  by_cases c : 0 ≤ a ∧ a < 2
  · rw [if_pos c, if_pos c, show 570 + (73 + 63 * a) = 643 + 63 * a by omega]
    obtain ⟨s1, s2⟩ := i3 a (by omega)
    rw [s1]
    by_cases c2 : d 775 a = 0
    · rw [if_pos c2, if_pos c2]
      have e : g_296 769 a d = mset d 769 0 2 := by
        unfold g_296
        rw [v01, if_pos c, if_neg (by decide), show (769 : Int) + 6 = 775 by decide, if_pos c2]
      rw [e]
      exact ⟨hi.qr (d1 := d) (fun _ _ _ _ => rfl) QR.s0, ms_e rfl rfl, fun r => QR.s0.rp r rfl rfl (fun _ _ => rfl)⟩
    · rw [if_neg c2, if_neg c2]
      obtain ⟨-, cf⟩ := (s2 c2).copy (a := 1) (by omega)
      generalize hD : g_4 64 (g_59 1 (643 + 63 * a) d) = D
      have Dd : ∀ b, 64 < b → D b = d b := fun b x => by
        rw [← hD, ← cf b (by omega)]
        unfold g_4
        funext j
        exact ms_a (by omega)
      have er : g_296 769 a D = lp_296_42 769 a (3116 - 0 : Int).toNat 0 (mset D 769 0 0) := by
        unfold g_296
        rw [v01, if_pos c, if_neg (by decide), show (769 : Int) + 6 = 775 by decide, Dd 775 (by decide), if_neg c2]
      have sw := rest296 (a := a) (d := mset D 769 0 0)
      rw [← er] at sw
      obtain ⟨w1, w2, w3, w4⟩ := id sw
      have m9 : ∀ b, ¬ b = 769 → mset D 769 0 0 b = D b := fun b hb => by
        funext j
        exact ms_a hb
      obtain ⟨x1, x2⟩ := restH (a := a) (d' := g_296 769 a D) (by omega) i3 c2 i2.1 (fun b x y => by rw [w1 b (by omega) (by omega), m9 b (by omega), hD]) sw (by rw [m9 772 (by decide), Dd 772 (by decide)]) rfl rfl
      have gd : ∀ b, 64 < b → ¬ b = 769 → ¬ b = 770 → g_296 769 a D b = d b := fun b x y z => by rw [w1 b y z, m9 b y, Dd b x]
      refine ⟨⟨x2, x1, i3.fr (fun b hb => gd b (by omega) (by omega) (by omega)), i4.fr ?_ ?_ ?_ ?_⟩, ?_, fun r => ⟨r.1.rest (a := a) (by omega) c2 sw (by rw [m9 772 (by decide), Dd 772 (by decide)]) rfl rfl (gd 772 (by decide) (by decide) (by decide)) (gd 775 (by decide) (by decide) (by decide)), r.2.of (gd 576 (by decide) (by decide) (by decide)) (by rw [w3 11 (by decide), ms_i (by decide), Dd 769 (by decide)]) (by rw [w3 12 (by decide), ms_i (by decide), Dd 769 (by decide)])⟩⟩
      · rw [gd 578 (by decide) (by decide) (by decide)]
      · rw [gd 579 (by decide) (by decide) (by decide)]
      · rw [w3 9 (by decide), ms_i (by decide), Dd 769 (by decide)]
      · rw [gd 776 (by decide) (by decide) (by decide)]
      · rw [w3 0 (by decide), ms_e rfl rfl]
  · rw [if_neg c, if_neg c]
    have e : g_296 769 a d = mset d 769 0 1 := by
      unfold g_296
      rw [v01, if_neg c, if_pos rfl]
    rw [e]
    exact ⟨hi.qr (d1 := d) (fun _ _ _ _ => rfl) QR.s0, ms_e rfl rfl, fun r => QR.s0.rp r rfl rfl (fun _ _ => rfl)⟩
/-! ===== append, truncate, find, addPerson ===== -/
theorem f185n {x1 x2 x3 x4 x5 : Int} {e : mD} : (∀ b, ¬ b = 769 → ¬ b = 776 → g_185 769 x5 (g_185 769 x4 (g_185 769 x3 (g_185 769 x2 (g_185 769 x1 e)))) b = e b) ∧ ∀ j, ¬ j = 9 → g_185 769 x5 (g_185 769 x4 (g_185 769 x3 (g_185 769 x2 (g_185 769 x1 e)))) 769 j = e 769 j := ⟨fun b x y => by rw [f185.1 b x y, f185.1 b x y, f185.1 b x y, f185.1 b x y, f185.1 b x y], fun j x => by rw [f185.2 j x, f185.2 j x, f185.2 j x, f185.2 j x, f185.2 j x]⟩
theorem opApp {d : mD} {x1 x2 x3 x4 x5 : Int} (hi : CI d) : OPR d (g_301 0 x1 x2 x3 x4 x5 778 d) (g_186 769 x1 x2 x3 x4 x5 (g_301 0 x1 x2 x3 x4 x5 778 d)) (v_301 0 x1 x2 x3 x4 x5 778 d) (v_186 769 x1 x2 x3 x4 x5 (g_301 0 x1 x2 x3 x4 x5 778 d)) := by
  obtain ⟨i1, i2, i3, i4⟩ := id hi
  have e9 := i4.2.1
  unfold v_301 g_301
  rw [show (0 : Int) + 578 = 578 by decide]
  by_cases c : (1000 : Int) < d 578 1 + 20
  · rw [if_pos c, if_pos c]
    have e : g_186 769 x1 x2 x3 x4 x5 d = mset d 769 0 1 := by
      unfold g_186
      rw [e9, if_pos c]
    rw [e]
    exact OPR.fail hi (by decide)
  · rw [if_neg c, if_neg c]
    have f87 := (i4.app (a := x1) (b := x2) (c := x3) (x := x4) (y := x5) (by omega)).2.2
    have a2 := (i4.app (a := x1) (b := x2) (c := x3) (x := x4) (y := x5) (by omega)).2.1
    generalize hT : g_87 578 x5 (g_87 578 x4 (g_87 578 x3 (g_87 578 x2 (g_87 578 x1 d)))) = T at *
    generalize hD : mset T 778 0 (T 578 1) = D
    have Db : ∀ b, ¬ b = 778 → D b = T b := fun b hb => by
      rw [← hD]
      funext j
      exact ms_a hb
    have Dd : ∀ b, ¬ b = 578 → ¬ b = 579 → ¬ b = 778 → D b = d b := fun b x y z => by rw [Db b z, f87 b x y]
    have D0 : D 778 0 = T 578 1 := by rw [← hD, ms_e rfl rfl]
    have m9 : ∀ b, ¬ b = 769 → mset D 769 0 0 b = D b := fun b hb => by
      funext j
      exact ms_a hb
    have ht : TextR d (mset D 769 0 0) := i4.fr rfl rfl (by rw [ms_i (by decide), Dd 769 (by decide) (by decide) (by decide)]) (by rw [m9 776 (by decide), Dd 776 (by decide) (by decide) (by decide)])
    have ap := (ht.app (a := x1) (b := x2) (c := x3) (x := x4) (y := x5) (by omega)).1
    rw [hT] at ap
    obtain ⟨f1, f2⟩ := f185n (x1 := x1) (x2 := x2) (x3 := x3) (x4 := x4) (x5 := x5) (e := mset D 769 0 0)
    have D9 : D 769 9 = d 578 1 := by rw [Dd 769 (by decide) (by decide) (by decide), e9]
    have eg : g_186 769 x1 x2 x3 x4 x5 D = g_185 769 x5 (g_185 769 x4 (g_185 769 x3 (g_185 769 x2 (g_185 769 x1 (mset D 769 0 0))))) := by
      unfold g_186
      rw [D9, if_neg c]
    have ev : v_186 769 x1 x2 x3 x4 x5 D = g_185 769 x5 (g_185 769 x4 (g_185 769 x3 (g_185 769 x2 (g_185 769 x1 (mset D 769 0 0))))) 769 9 := by
      unfold v_186
      rw [D9, if_neg c]
    rw [eg, ev]
    generalize g_185 769 x5 (g_185 769 x4 (g_185 769 x3 (g_185 769 x2 (g_185 769 x1 (mset D 769 0 0))))) = Z at *
    have Zd : ∀ b, ¬ b = 578 → ¬ b = 579 → ¬ b = 778 → ¬ b = 769 → ¬ b = 776 → Z b = d b := fun b x y z u t => by rw [f1 b u t, m9 b u, Dd b x y z]
    have ZT : ∀ b, ¬ b = 769 → ¬ b = 776 → ¬ b = 778 → Z b = T b := fun b x y z => by rw [f1 b x y, m9 b x, Db b z]
    refine ⟨⟨?_, i2.fr (fun b x y => Zd b (by omega) (by omega) (by omega) (by omega) (by omega)) ?_ (fun j _ _ => by rw [Zd 771 (by decide) (by decide) (by decide) (by decide) (by decide)]), i3.fr (fun b hb => Zd b (by omega) (by omega) (by omega) (by omega) (by omega)), ap.fr ?_ ?_ rfl rfl⟩, ?_, fun _ => ⟨?_, inI.of (by have := ap.2.1; have := ap.1; omega)⟩, fun r => ⟨r.1.q (fun i _ _ => by rw [Zd 770 (by decide) (by decide) (by decide) (by decide) (by decide)]) (by rw [f2 7 (by decide), ms_i (by decide), Dd 769 (by decide) (by decide) (by decide)]) (fun b hb => Zd b (by omega) (by omega) (by omega) (by omega) (by omega)), r.2.of (Zd 576 (by decide) (by decide) (by decide) (by decide) (by decide)) (by rw [f2 11 (by decide), ms_i (by decide), Dd 769 (by decide) (by decide) (by decide)]) (by rw [f2 12 (by decide), ms_i (by decide), Dd 769 (by decide) (by decide) (by decide)])⟩⟩
    · rw [Zd 770 (by decide) (by decide) (by decide) (by decide) (by decide)]
      exact i1.fr (fun b x y => Zd b (by omega) (by omega) (by omega) (by omega) (by omega))
    · rw [f2 7 (by decide), ms_i (by decide), Dd 769 (by decide) (by decide) (by decide)]
    · rw [ZT 578 (by decide) (by decide) (by decide)]
    · rw [ZT 579 (by decide) (by decide) (by decide)]
    · rw [f2 0 (by decide), ms_e rfl rfl]
    · rw [D0]
      exact ap.2.1.symm
theorem opTrunc {d : mD} {n : Int} (hi : CI d) : OPR d (g_302 0 n 778 d) (g_187 769 n (g_302 0 n 778 d)) (v_302 0 n 778 d) (v_187 769 n (g_302 0 n 778 d)) := by
  obtain ⟨i1, i2, i3, i4⟩ := id hi
  have e9 := i4.2.1
  have hl := i4.1
  unfold v_302 g_302
  rw [show (0 : Int) + 578 = 578 by decide]
  by_cases c : 0 ≤ n ∧ n ≤ d 578 1
  · rw [if_neg (show ¬ n < 0 by omega), if_neg (show ¬ n < 0 by omega), if_neg (show ¬ d 578 1 < n by omega), if_neg (show ¬ d 578 1 < n by omega)]
    generalize hD : mset (mset d 578 1 n) 778 0 n = D
    have Dd : ∀ b, ¬ b = 578 → ¬ b = 778 → D b = d b := fun b x y => by
      rw [← hD]
      funext j
      rw [ms_a y, ms_a x]
    have D0 : D 778 0 = n := by rw [← hD, ms_e rfl rfl]
    have D8 : D 578 1 = n := by rw [← hD, ms_a (by decide), ms_e rfl rfl]
    have D9 : D 769 9 = d 578 1 := by rw [Dd 769 (by decide) (by decide), e9]
    have eg : g_187 769 n D = mset (mset D 769 0 0) 769 9 n := by
      unfold g_187
      rw [v176, D9, if_pos c, if_neg (by decide)]
    have ev : v_187 769 n D = n := by
      unfold v_187
      rw [v176, D9, if_pos c, if_neg (by decide)]
    rw [eg, ev]
    have Zd : ∀ b, ¬ b = 578 → ¬ b = 778 → ¬ b = 769 → mset (mset D 769 0 0) 769 9 n b = d b := fun b x y z => by
      rw [← Dd b x y]
      funext j
      rw [ms_a z, ms_a z]
    refine ⟨⟨?_, i2.fr (fun b x y => Zd b (by omega) (by omega) (by omega)) ?_ (fun j _ _ => by rw [Zd 771 (by decide) (by decide) (by decide)]), i3.fr (fun b hb => Zd b (by omega) (by omega) (by omega)), ?_⟩, ?_, fun _ => ⟨D0, inI.of (by omega)⟩, fun r => ⟨r.1.q (fun i _ _ => by rw [Zd 770 (by decide) (by decide) (by decide)]) (by rw [ms_i (by decide), ms_i (by decide), Dd 769 (by decide) (by decide)]) (fun b hb => Zd b (by omega) (by omega) (by omega)), r.2.of (Zd 576 (by decide) (by decide) (by decide)) (by rw [ms_i (by decide), ms_i (by decide), Dd 769 (by decide) (by decide)]) (by rw [ms_i (by decide), ms_i (by decide), Dd 769 (by decide) (by decide)])⟩⟩
    · rw [Zd 770 (by decide) (by decide) (by decide)]
      exact i1.fr (fun b x y => Zd b (by omega) (by omega) (by omega))
    · rw [ms_i (by decide), ms_i (by decide), Dd 769 (by decide) (by decide)]
    · have z8 : mset (mset D 769 0 0) 769 9 n 578 1 = n := by rw [ms_a (by decide), ms_a (by decide), D8]
      refine ⟨by omega, by rw [z8, ms_e rfl rfl], fun i x y => ?_⟩
      rw [Zd 579 (by decide) (by decide) (by decide), Zd 776 (by decide) (by decide) (by decide)]
      exact i4.2.2 i x (by omega)
    · rw [ms_i (by decide), ms_e rfl rfl]
  · have ev : (if n < 0 then (1 : Int) else if d 578 1 < n then 1 else 0) = 1 := by
      by_cases z : n < 0
      · rw [if_pos z]
      · rw [if_neg z, if_pos (by omega)]
    have eg : ∀ u : mD, (if n < 0 then d else if d 578 1 < n then d else u) = d := fun u => by
      by_cases z : n < 0
      · rw [if_pos z]
      · rw [if_neg z, if_pos (by omega)]
    rw [ev, eg]
    have e : g_187 769 n d = mset d 769 0 1 := by
      unfold g_187
      rw [v176, e9, if_neg c, if_pos rfl]
    rw [e]
    exact OPR.fail hi (by decide)
-- the text goes
theorem CI.noText {d D d2 : mD} (h : CI d) (hD : ∀ b, ¬ b = 578 → ¬ b = 769 → ¬ b = 778 → d2 b = d b) (h8 : d2 578 1 = 0) (h9 : d2 769 9 = 0) (h7 : d2 769 7 = d 769 7) : CI d2 := by
  obtain ⟨i1, i2, i3, i4⟩ := h
  refine ⟨?_, i2.fr (fun b x y => hD b (by omega) (by omega) (by omega)) h7 (fun j _ _ => by rw [hD 771 (by decide) (by decide) (by decide)]), i3.fr (fun b hb => hD b (by omega) (by omega) (by omega)), by omega, by omega, fun i x y => by omega⟩
  rw [hD 770 (by decide) (by decide) (by decide)]
  exact i1.fr (fun b x y => hD b (by omega) (by omega) (by omega))
theorem nameEq {d D : mD} (hi : CI d) (hD : ∀ b, ¬ b = 578 → ¬ b = 778 → D b = d b) : ((v_93 578 0 (d 578 1) d ≤ 0 ∧ v_210 769 D = 0) ∨ (okN (v_93 578 0 (d 578 1) d) ∧ v_210 769 D = nm (v_93 578 0 (d 578 1) d))) ∧ (v_93 578 0 (d 578 1) d ≤ 0 → v_93 578 0 (d 578 1) d = -1) ∧ g_210 769 D = mset D 769 9 0 ∧ v_48 11 (v_93 578 0 (d 578 1) d) (mset d 578 1 0) = V_183 (v_210 769 D) (d 770) ∧ v_36 3 (v_93 578 0 (d 578 1) d) (mset d 578 1 0) = V_184 (v_210 769 D) (d 770) := by
  obtain ⟨i1, i2, i3, i4⟩ := hi
  have ht : TextR d D := i4.fr rfl rfl (by rw [hD 769 (by decide) (by decide)]) (by rw [hD 776 (by decide) (by decide)])
  obtain ⟨c1, c2⟩ := content ht
  have hr : Rel 1 (mset d 578 1 0) (d 770) := (i1.fr (fun b x y => by funext j; exact ms_a (by omega))).2.2.2.2
  have hP := hr.2.2.2.1
  have hO := hr.2.1
  rcases c1 with ⟨c1, c3⟩ | ⟨c1, c3⟩
  · refine ⟨Or.inl ⟨by omega, c3⟩, fun _ => c1, c2, ?_, ?_⟩
    · exact noP (s := 1) hP (by omega) (by omega)
    · exact noO (s := 1) hO (by omega) (by omega)
  · refine ⟨Or.inr ⟨c1, c3⟩, fun z => absurd c1.1 (by omega), c2, ?_, ?_⟩
    · rw [c3]
      exact findP (s := 1) hP c1
    · rw [c3]
      exact findO (s := 1) hO c1
theorem opFind {d : mD} {k : Int} (hi : CI d) : OPR d (g_304 0 k 778 d) (g_211 769 k (g_304 0 k 778 d)) (v_304 0 k 778 d) (v_211 769 k (g_304 0 k 778 d)) := by
  have fin : ∀ (D : mD) (c v vr : Int), (∀ b, ¬ b = 578 → ¬ b = 778 → D b = d b) → D 578 1 = 0 → (c = 0 → D 778 0 = vr ∧ inI vr) → OPR d D (mset (mset D 769 9 0) 769 0 c) c vr := fun D c v vr h1 h2 h3 => by
    refine ⟨hi.noText (D := D) (fun b x y z => ?_) ?_ ?_ ?_, ms_e rfl rfl, h3, fun r => ⟨r.1.q (fun i _ _ => ?_) ?_ (fun b hb => ?_), r.2.of ?_ ?_ ?_⟩⟩
    · rw [← h1 b x z]
      funext j
      rw [ms_a y, ms_a y]
    · rw [ms_a (by decide), ms_a (by decide), h2]
    · rw [ms_i (by decide), ms_e rfl rfl]
    · rw [ms_i (by decide), ms_i (by decide), h1 769 (by decide) (by decide)]
    · rw [ms_a (by decide), ms_a (by decide), h1 770 (by decide) (by decide)]
    · rw [ms_i (by decide), ms_i (by decide), h1 769 (by decide) (by decide)]
    · rw [← h1 b (by omega) (by omega)]
      funext j
      rw [ms_a (by omega), ms_a (by omega)]
    · rw [← h1 576 (by decide) (by decide)]
      funext j
      rw [ms_a (by decide), ms_a (by decide)]
    · rw [ms_i (by decide), ms_i (by decide), h1 769 (by decide) (by decide)]
    · rw [ms_i (by decide), ms_i (by decide), h1 769 (by decide) (by decide)]
  unfold v_304 g_304
  rw [show (0 : Int) + 578 = 578 by decide, n01, show (1 : Int) + 10 = 11 by decide, show (1 : Int) + 2 = 3 by decide]
  have d0 : ∀ b, ¬ b = 578 → ¬ b = 778 → mset d 578 1 0 b = d b := fun b x _ => by
    funext j
    exact ms_a x
  have d1 : ∀ v b, ¬ b = 578 → ¬ b = 778 → mset (mset d 578 1 0) 778 0 v b = d b := fun v b x y => by
    funext j
    rw [ms_a y, ms_a x]
  have key : ∀ D, (∀ b, ¬ b = 578 → ¬ b = 778 → D b = d b) → v_48 11 (v_93 578 0 (d 578 1) d) (mset d 578 1 0) = v_183 769 (v_210 769 D) (g_210 769 D) ∧ v_36 3 (v_93 578 0 (d 578 1) d) (mset d 578 1 0) = v_184 769 (v_210 769 D) (g_210 769 D) ∧ g_210 769 D = mset D 769 9 0 := fun D hD => by
    obtain ⟨-, -, n3, n4, n5⟩ := nameEq hi hD
    have r : g_210 769 D 770 = d 770 := by
      rw [n3, ← hD 770 (by decide) (by decide)]
      funext j
      exact ms_a (by decide)
    rw [m_v_183, m_v_184, r]
    exact ⟨n4, n5, n3⟩
  by_cases ck : k = 0
  · rw [if_pos ck, if_pos ck]
    by_cases c : v_48 11 (v_93 578 0 (d 578 1) d) (mset d 578 1 0) = -1
    · rw [if_pos c, if_pos c]
      obtain ⟨k1, -, k3⟩ := key _ d0
      have e : g_211 769 k (mset d 578 1 0) = mset (mset (mset d 578 1 0) 769 9 0) 769 0 1 := by
        unfold g_211
        rw [if_pos ck, ← k1, if_pos c, k3]
      rw [e]
      exact fin _ 1 0 _ d0 (ms_e rfl rfl) (fun z => absurd z (by decide))
    · rw [if_neg c, if_neg c]
      obtain ⟨k1, -, k3⟩ := key _ (d1 (v_48 11 (v_93 578 0 (d 578 1) d) (mset d 578 1 0)))
      have rg : -100000 ≤ v_48 11 (v_93 578 0 (d 578 1) d) (mset d 578 1 0) ∧ v_48 11 (v_93 578 0 (d 578 1) d) (mset d 578 1 0) ≤ 100000 := by
        have n8 := hi.1.1.1.2.1
        rcases V183_rng (m := v_210 769 (mset d 578 1 0)) n8 with z | z
        · rw [(nameEq hi d0).2.2.2.1, z]; decide
        · rw [(nameEq hi d0).2.2.2.1]; omega
      generalize hv : v_48 11 (v_93 578 0 (d 578 1) d) (mset d 578 1 0) = v at *
      have e : g_211 769 k (mset (mset d 578 1 0) 778 0 v) = mset (mset (mset (mset d 578 1 0) 778 0 v) 769 9 0) 769 0 0 ∧ v_211 769 k (mset (mset d 578 1 0) 778 0 v) = v := by
        unfold g_211 v_211
        rw [if_pos ck, if_pos ck, ← k1, if_neg c, if_neg c, k3]
        exact ⟨rfl, rfl⟩
      rw [e.1, e.2]
      exact fin _ 0 0 _ (d1 v) (by rw [ms_a (by decide), ms_e rfl rfl]) (fun _ => ⟨ms_e rfl rfl, inI.of rg⟩)
  · rw [if_neg ck, if_neg ck]
    by_cases c : v_36 3 (v_93 578 0 (d 578 1) d) (mset d 578 1 0) = -1
    · rw [if_pos c, if_pos c]
      obtain ⟨-, k1, k3⟩ := key _ d0
      have e : g_211 769 k (mset d 578 1 0) = mset (mset (mset d 578 1 0) 769 9 0) 769 0 1 := by
        unfold g_211
        rw [if_neg ck, ← k1, if_pos c, k3]
      rw [e]
      exact fin _ 1 0 _ d0 (ms_e rfl rfl) (fun z => absurd z (by decide))
    · rw [if_neg c, if_neg c]
      obtain ⟨-, k1, k3⟩ := key _ (d1 (v_36 3 (v_93 578 0 (d 578 1) d) (mset d 578 1 0)))
      have rg : -100000 ≤ v_36 3 (v_93 578 0 (d 578 1) d) (mset d 578 1 0) ∧ v_36 3 (v_93 578 0 (d 578 1) d) (mset d 578 1 0) ≤ 100000 := by
        have n7 := hi.1.1.1.1
        rcases V184_rng (m := v_210 769 (mset d 578 1 0)) n7 with z | z
        · rw [(nameEq hi d0).2.2.2.2, z]; decide
        · rw [(nameEq hi d0).2.2.2.2]; omega
      generalize hv : v_36 3 (v_93 578 0 (d 578 1) d) (mset d 578 1 0) = v at *
      have e : g_211 769 k (mset (mset d 578 1 0) 778 0 v) = mset (mset (mset (mset d 578 1 0) 778 0 v) 769 9 0) 769 0 0 ∧ v_211 769 k (mset (mset d 578 1 0) 778 0 v) = v := by
        unfold g_211 v_211
        rw [if_neg ck, if_neg ck, ← k1, if_neg c, if_neg c, k3]
        exact ⟨rfl, rfl⟩
      rw [e.1, e.2]
      exact fin _ 0 0 _ (d1 v) (by rw [ms_a (by decide), ms_e rfl rfl]) (fun _ => ⟨ms_e rfl rfl, inI.of rg⟩)
/-! ===== addPerson ===== -/
theorem f47a {c : Int} {d : mD} (h0 : 0 ≤ d 11 0) : ∀ b, (b < 11 ∨ 63 < b) → g_47 11 c d b = d b := fun b hb => by
  unfold g_47
  split
  · have eh : g_8 (11 + 6 + (1 + 2 * d 11 0)) = fun e => mfl e (19 + 2 * d 11 0) 0 16 := by
      funext e
      unfold g_8 g_300
      rw [show 11 + 6 + (1 + 2 * d 11 0) + 1 = 19 + 2 * d 11 0 by omega]
    rw [eh]
    funext j
    simp (disch := omega) only [ms_a, fl_n]
  · rfl
theorem f47n {c : Int} {d : mD} (h0 : 0 ≤ d 11 0 ∧ d 11 0 < 16) : g_47 11 c d 11 0 = d 11 0 + 1 := by
  unfold g_47
  rw [if_pos h0.2]
  exact ms_e rfl rfl
theorem opAddP {d : mD} (hi : CI d) : OPR d (g_336 0 778 d) (g_290 769 (g_336 0 778 d)) (v_336 0 778 d) (v_290 769 (g_336 0 778 d)) := by
  obtain ⟨i1, i2, i3, i4⟩ := id hi
  obtain ⟨hg, hw, hp, ht, hr⟩ := id i1
  have o8 : d 11 0 = d 770 8 := hr.2.2.2.1.1
  have n8 := hg.1.2.1
  have fin : ∀ (D : mD) (c vr : Int), (∀ b, ¬ b = 578 → ¬ b = 778 → D b = d b) → D 578 1 = 0 → ¬ c = 0 → OPR d D (mset (mset D 769 9 0) 769 0 c) c vr := fun D c vr h1 h2 h3 => by
    refine ⟨hi.noText (D := D) (fun b x y z => ?_) ?_ ?_ ?_, ms_e rfl rfl, fun z => absurd z h3, fun r => ⟨r.1.q (fun i _ _ => ?_) ?_ (fun b hb => ?_), r.2.of ?_ ?_ ?_⟩⟩
    · rw [← h1 b x z]
      funext j
      rw [ms_a y, ms_a y]
    · rw [ms_a (by decide), ms_a (by decide), h2]
    · rw [ms_i (by decide), ms_e rfl rfl]
    · rw [ms_i (by decide), ms_i (by decide), h1 769 (by decide) (by decide)]
    · rw [ms_a (by decide), ms_a (by decide), h1 770 (by decide) (by decide)]
    · rw [ms_i (by decide), ms_i (by decide), h1 769 (by decide) (by decide)]
    · rw [← h1 b (by omega) (by omega)]
      funext j
      rw [ms_a (by omega), ms_a (by omega)]
    · rw [← h1 576 (by decide) (by decide)]
      funext j
      rw [ms_a (by decide), ms_a (by decide)]
    · rw [ms_i (by decide), ms_i (by decide), h1 769 (by decide) (by decide)]
    · rw [ms_i (by decide), ms_i (by decide), h1 769 (by decide) (by decide)]
  have d0 : ∀ b, ¬ b = 578 → ¬ b = 778 → mset d 578 1 0 b = d b := fun b x _ => by
    funext j
    exact ms_a x
  have key : ∀ D : mD, (∀ b, ¬ b = 578 → ¬ b = 778 → D b = d b) → v_183 769 (v_210 769 D) (g_210 769 D) = v_48 11 (v_93 578 0 (d 578 1) d) (mset d 578 1 0) ∧ g_210 769 D = mset D 769 9 0 ∧ ((v_93 578 0 (d 578 1) d = -1 ∧ v_210 769 D = 0) ∨ (okN (v_93 578 0 (d 578 1) d) ∧ v_210 769 D = nm (v_93 578 0 (d 578 1) d) ∧ ¬ v_210 769 D = 0)) := fun D hD => by
    obtain ⟨n1, n2, n3, n4, -⟩ := nameEq hi hD
    have r : g_210 769 D 770 = d 770 := by
      rw [n3, ← hD 770 (by decide) (by decide)]
      funext j
      exact ms_a (by decide)
    refine ⟨by rw [m_v_183, r, n4], n3, ?_⟩
    rcases n1 with ⟨a, b⟩ | ⟨a, b⟩
    · exact Or.inl ⟨n2 a, b⟩
    · refine Or.inr ⟨a, b, ?_⟩
      rw [b]
      obtain ⟨q1, q2, q3, q4, q5, q6, q7, q8⟩ := a
      unfold nm
      omega
  unfold v_336 g_336
  rw [show (0 : Int) + 578 = 578 by decide, n01, n641, show (1 : Int) + 10 = 11 by decide, o8]
  obtain ⟨k1, k2, k3⟩ := key _ d0
  by_cases c1 : v_93 578 0 (d 578 1) d = -1
  · rw [if_pos c1, if_pos c1]
    have z : v_210 769 (mset d 578 1 0) = 0 := by
      rcases k3 with k3 | k3
      · exact k3.2
      · exact absurd k3.1.1 (by omega)
    have e : g_290 769 (mset d 578 1 0) = mset (mset (mset d 578 1 0) 769 9 0) 769 0 1 := by
      unfold g_290
      rw [if_pos z, k2]
    rw [e]
    exact fin _ 1 _ d0 (ms_e rfl rfl) (by decide)
  · rw [if_neg c1, if_neg c1]
    have z : ¬ v_210 769 (mset d 578 1 0) = 0 := by
      rcases k3 with k3 | k3
      · exact absurd k3.1 c1
      · exact k3.2.2
    have e8 : mset d 578 1 0 770 8 = d 770 8 := ms_a (by decide)
    by_cases c2 : d 770 8 < 16
    · rw [if_pos c2, if_pos c2]
      by_cases c3 : v_48 11 (v_93 578 0 (d 578 1) d) (mset d 578 1 0) = -1
      · rw [if_pos c3, if_pos c3]
        clear k1 k2 k3 z e8
        generalize hc : v_93 578 0 (d 578 1) d = c at *
        generalize hdc : mset d 578 1 0 = dc at *
        have ok : OKR 1 dc (d 770) := i1.fr (fun b x y => d0 b (by omega) (by omega))
        have hn : 0 ≤ dc 64 1 ∧ dc 64 1 < 8 := by
          rw [d0 64 (by decide) (by decide)]
          exact i2.1
        obtain ⟨kk, kf, -, -⟩ := keepC hn ok
        have kO : OKR 1 (g_2 64 1 dc) (d 770) := ok.fr (fun b x y => kf b (by omega) (by omega))
        have k11 : g_2 64 1 dc 11 0 = d 770 8 := by rw [kf 11 (by decide) (by omega), d0 11 (by decide) (by decide), o8]
        have f47 := f47a (c := c) (d := g_2 64 1 dc) (by omega)
        have f47v := f47n (c := c) (d := g_2 64 1 dc) (by omega)
        rw [f47v, k11]
        generalize hU : g_47 11 c (g_2 64 1 dc) = U at *
        generalize hDD : mset U 778 0 (d 770 8 + 1 - 1) = D
        have DU : ∀ b, ¬ b = 778 → D b = U b := fun b hb => by
          rw [← hDD]
          funext j
          exact ms_a hb
        have D0 : D 778 0 = d 770 8 := by
          rw [← hDD, ms_e rfl rfl]
          omega
        have Dc : ∀ b, 63 < b → ¬ b = 778 → D b = g_2 64 1 dc b := fun b x y => by rw [DU b y, f47 b (by omega)]
        have Dd : ∀ b, 569 < b → ¬ b = 578 → ¬ b = 778 → D b = d b := fun b x y z => by rw [Dc b (by omega) z, kf b (by omega) (by omega), d0 b y z]
        have D8 : D 578 1 = 0 := by rw [Dc 578 (by decide) (by decide), kf 578 (by decide) (by omega), ← hdc, ms_e rfl rfl]
        -- the reference's text is that of d
        have ht' : TextR d D := i4.fr rfl rfl (by rw [Dd 769 (by decide) (by decide) (by decide)]) (by rw [Dd 776 (by decide) (by decide) (by decide)])
        obtain ⟨t1, t2⟩ := content ht'
        rw [hc] at t1
        have t1 : okN c ∧ v_210 769 D = nm c := by
          rcases t1 with t1 | t1
          · exact absurd t1.1 c1
          · exact t1
        have nz : ¬ nm c = 0 := by
          obtain ⟨q1, q2, q3, q4, q5, q6, q7, q8⟩ := t1.1
          unfold nm
          omega
        have g70 : mset D 769 9 0 770 = d 770 := by
          rw [← Dd 770 (by decide) (by decide) (by decide)]
          funext j
          exact ms_a (by decide)
        have v83 : V_183 (nm c) (d 770) = -1 := by
          rw [← findP (s := 1) ok.2.2.2.2.2.2.2.1 t1.1]
          exact c3
        have kw := keep278 (d := mset (mset D 769 9 0) 769 0 0)
        obtain ⟨w1, w2, w3⟩ := id kw
        have m9 : ∀ b, ¬ b = 769 → mset (mset D 769 9 0) 769 0 0 b = D b := fun b hb => by
          funext j
          rw [ms_a hb, ms_a hb]
        have r70 : g_278 769 (mset (mset D 769 9 0) 769 0 0) 770 = d 770 := by rw [w1 770 (by decide) (by decide), m9 770 (by decide), Dd 770 (by decide) (by decide) (by decide)]
        obtain ⟨a1, a2, a3, a4, a5⟩ := addP (s := 1) (c := c) hg hw kO.2.2.2.2 c2 t1.1
        have gp := addPX (c := nm c) hg c2 hp
        have a3 : Rel 1 U (W_182 (nm c) (d 770)) := by rw [← hU]; exact a3
        have n16 : ¬ d 770 8 = 16 := by omega
        have e : g_290 769 D = rset (g_278 769 (mset (mset D 769 9 0) 769 0 0)) (W_182 (nm c) (d 770)) ∧ v_290 769 D = d 770 8 := by
          unfold g_290 v_290
          rw [t1.2, if_neg nz, if_neg nz, show (769 : Int) + 1 = 770 by decide, Dd 770 (by decide) (by decide) (by decide), if_neg n16, if_neg n16, t2, m_v_183, g70, if_pos v83, if_pos v83, m_g_182, r70, rset_at, a4]
          exact ⟨rfl, by omega⟩
        rw [e.1, e.2]
        generalize hR : g_278 769 (mset (mset D 769 9 0) 769 0 0) = R at *
        have rn : ∀ b, ¬ b = 770 → rset R (W_182 (nm c) (d 770)) b = R b := fun b hb => rset_ne hb
        have rb : ∀ b, ¬ b = 769 → ¬ b = 770 → ¬ b = 771 → rset R (W_182 (nm c) (d 770)) b = D b := fun b x y z => by rw [rn b y, w1 b x z, m9 b x]
        have hHd : HistRel dc := i2.fr (fun b x y => d0 b (by omega) (by omega)) (by rw [d0 769 (by decide) (by decide)]) (fun j _ _ => by rw [d0 771 (by decide) (by decide)])
        have h70 : dc 770 = d 770 := d0 770 (by decide) (by decide)
        refine ⟨⟨?_, ?_, i3.fr (fun b hb => by rw [rb b (by omega) (by omega) (by omega), Dd b (by omega) (by omega) (by omega)]), ?_⟩, ?_, fun _ => ⟨D0, inI.of (by omega)⟩, fun r => ⟨r.1.keep (by have := i2.2.1; have := i2.2.2.1; omega) kw (by rw [ms_i (by decide), ms_i (by decide), Dd 769 (by decide) (by decide) (by decide)]) (by rw [m9 770 (by decide), Dd 770 (by decide) (by decide) (by decide)]) (by rw [m9 771 (by decide), Dd 771 (by decide) (by decide) (by decide)]) (by rw [rn 769 (by decide)]) (rn 771 (by decide)) (by rw [rb 772 (by decide) (by decide) (by decide), Dd 772 (by decide) (by decide) (by decide)]) (by rw [rb 775 (by decide) (by decide) (by decide), Dd 775 (by decide) (by decide) (by decide)]) (by rw [rset_at]; exact r.1.1.fr (fun u u0 u1 => ⟨a5 _ (by omega) (by omega), a5 _ (by omega) (by omega)⟩)), r.2.of (by rw [rb 576 (by decide) (by decide) (by decide), Dd 576 (by decide) (by decide) (by decide)]) (by rw [rn 769 (by decide), w2 11 (by decide), ms_i (by decide), ms_i (by decide), Dd 769 (by decide) (by decide) (by decide)]) (by rw [rn 769 (by decide), w2 12 (by decide), ms_i (by decide), ms_i (by decide), Dd 769 (by decide) (by decide) (by decide)])⟩⟩
        · rw [rset_at]
          have : OKR 1 U (W_182 (nm c) (d 770)) := ⟨a1, a2, gp, by rw [a5 0 (by decide) (by decide)]; exact ht, a3⟩
          exact this.fr (fun b x y => by rw [rb b (by omega) (by omega) (by omega), DU b (by omega)])
        · refine keepH hHd (by rw [h70]; exact ok) (fun b x y => by rw [rb b (by omega) (by omega) (by omega), Dc b (by omega) (by omega)]) kw ?_ ?_ ?_ ?_ ?_
          · rw [ms_i (by decide), ms_i (by decide), Dd 769 (by decide) (by decide) (by decide), d0 769 (by decide) (by decide)]
          · rw [m9 770 (by decide), Dd 770 (by decide) (by decide) (by decide), h70]
          · rw [m9 771 (by decide), Dd 771 (by decide) (by decide) (by decide), d0 771 (by decide) (by decide)]
          · rw [rn 769 (by decide)]
          · rw [rn 771 (by decide)]
        · have z1 : rset R (W_182 (nm c) (d 770)) 578 1 = 0 := by rw [rb 578 (by decide) (by decide) (by decide), D8]
          have z2 : rset R (W_182 (nm c) (d 770)) 769 9 = 0 := by rw [rn 769 (by decide), w2 9 (by decide), ms_i (by decide), ms_e rfl rfl]
          exact ⟨by omega, by omega, fun i x y => by omega⟩
        · rw [rn 769 (by decide), w2 0 (by decide), ms_e rfl rfl]
      · rw [if_neg c3, if_neg c3]
        have e : g_290 769 (mset d 578 1 0) = mset (mset (mset d 578 1 0) 769 9 0) 769 0 2 := by
          unfold g_290
          rw [if_neg z, show (769 : Int) + 1 = 770 by decide, e8, if_neg (by omega), k1, if_neg c3, k2]
        rw [e]
        exact fin _ 2 _ d0 (ms_e rfl rfl) (by decide)
    · rw [if_neg c2, if_neg c2]
      have e : g_290 769 (mset d 578 1 0) = mset (mset (mset d 578 1 0) 769 9 0) 769 0 2 := by
        unfold g_290
        rw [if_neg z, show (769 : Int) + 1 = 770 by decide, e8, if_pos (by omega), k2]
      rw [e]
      exact fin _ 2 _ d0 (ms_e rfl rfl) (by decide)
/-! ===== contracts once more, with the queues of living offices alone: printed by a program of mine ===== -/
def qoP (f : Int → Int) : Prop := ∀ o, 0 ≤ o → o ≤ 5 → o < f 7 → f (12 + 68 * o + 5) ≤ 30
theorem qoP.of {f g : Int → Int} (Q : ∀ i : Int, i = 7 ∨ (12 ≤ i ∧ i < 420 ∧ (i - 12) % 68 = 5) → f i = g i) (h : qoP g) : qoP f := by
  intro o h0 h1 h2
  rw [Q 7 (by omega)] at h2
  rw [Q _ (by omega)]
  exact h o h0 h1 h2
theorem kq_267 {E : mO × tW} {K : tK} {d : mD} {x0 x1 : Int} (hS : Safe d) (hx0 : mdB x0) (p1 : 0 ≤ x1 ∧ x1 ≤ 5) (hmp : mpP (d (x0 + 1))) (ht : d (x0 + 1) 0 ≤ 999) (hqq : qoP (d (x0 + 1))) (hn : d (x0 + 1) 9 ≤ 60) (h7 : x1 < d (x0 + 1) 7) (h : (0 ≤ (v_267 x0 x1 d) ∧ (v_267 x0 x1 d) ≤ 201) → (∀ b : Int, (b < x0 + 1 ∨ x0 + 1 < b) ∧ (b < x0 + 4 ∨ x0 + 4 < b) → (g_267 x0 x1 d) b = d b) → (∀ i : Int, 0 ≤ i ∧ i < 3116 → (g_267 x0 x1 d) (x0 + 1) i = d (x0 + 1) i) → Safe (g_267 x0 x1 d) → K (.inl (some (0, (v_267 x0 x1 d)))) (g_267 x0 x1 d)) : tCall E 267 [.inr (11, x0), .inl (0, x1)] d K := by
  refine t_267_0 ?_
  have w0 := mh_0 hS hx0 _ rfl
  have w7 := mh_7 hS hx0 _ rfl
  have w8 := mh_8 hS hx0 _ rfl
  have w9 := mh_9 hS hx0 _ rfl
  have w10 := mh_10 hS hx0 _ rfl
  have w11 := mh_11 hS hx0 _ rfl
  have w1 := hqq x1 (by omega) (by omega) (by omega)
  refine k_177 hS ?_
  refine t_267_8 ?_
  have q1 := mo_4 hS hx0 x1 ((12 + (68 * x1)) + 4) (by omega) (by omega)
  refine ⟨by omega, m_inR (by omega) (by omega), fun c0 => ?_, fun c0 => ?_⟩
  · refine k_255 hS hx0 (fun F1 K1_0 hS1 => ?_)
    refine t_267_22 ?_
    have q2 : (g_255 x0 d) (x0 + 1) 9 = d (x0 + 1) 9 := congrFun (F1 (x0 + 1) (by omega)) 9
    have q3 : (g_255 x0 d) (x0 + 1) (12 + 68 * x1 + 5) = d (x0 + 1) (12 + 68 * x1 + 5) := congrFun (F1 (x0 + 1) (by omega)) (12 + 68 * x1 + 5)
    refine k_224 hS1 hx0 (by omega) (by omega) (by omega) (by omega) (fun e1 F2 Q2 hS2 => ?_)
    refine t_267_29 ?_
    have q4 : (g_224 x0 0 x1 (g_255 x0 d)) (x0 + 1) 0 = d (x0 + 1) 0 := (Q2 0 (by omega)).trans (congrFun (F1 (x0 + 1) (by omega)) 0)
    refine k_263 hS2 hx0 (by omega) (mpP.of (mh_7 hS hx0 _ rfl) (show ∀ i : Int, i = 7 ∨ (12 ≤ i ∧ i < 420 ∧ (i - 12) % 68 = 2) → (g_224 x0 0 x1 (g_255 x0 d)) (x0 + 1) i = d (x0 + 1) i from fun i hi => (Q2 i (by omega)).trans (congrFun (F1 (x0 + 1) (by omega)) i)) hmp) (by omega) (fun e2 F3 Q3 hS3 => ?_)
    refine t_267_32 ?_
    refine k_256 hS3 hx0 (fun F4 K4_0 hS4 => ?_)
    refine t_267_37 ?_
    have y0 : v_267 x0 x1 d = v_263 x0 (v_224 x0 0 x1 (g_255 x0 d)) (g_224 x0 0 x1 (g_255 x0 d)) := by simp only [v_267, if_neg (show ¬ d (x0 + 1) ((12 + (68 * x1)) + 4) = 0 from c0)]
    have y1 : g_267 x0 x1 d = g_256 x0 (g_263 x0 (v_224 x0 0 x1 (g_255 x0 d)) (g_224 x0 0 x1 (g_255 x0 d))) := by simp only [g_267, if_neg (show ¬ d (x0 + 1) ((12 + (68 * x1)) + 4) = 0 from c0)]
    rw [y0] at h
    rw [y1] at h
    exact h (show 0 ≤ (v_263 x0 (v_224 x0 0 x1 (g_255 x0 d)) (g_224 x0 0 x1 (g_255 x0 d))) ∧ (v_263 x0 (v_224 x0 0 x1 (g_255 x0 d)) (g_224 x0 0 x1 (g_255 x0 d))) ≤ 201 from (by omega)) (show ∀ b : Int, (b < x0 + 1 ∨ x0 + 1 < b) ∧ (b < x0 + 4 ∨ x0 + 4 < b) → (g_256 x0 (g_263 x0 (v_224 x0 0 x1 (g_255 x0 d)) (g_224 x0 0 x1 (g_255 x0 d)))) b = d b from fun b hb => (F4 b (by omega)).trans ((F3 b (by omega)).trans ((F2 b (by omega)).trans (F1 b (by omega))))) (show ∀ i : Int, 0 ≤ i ∧ i < 3116 → (g_256 x0 (g_263 x0 (v_224 x0 0 x1 (g_255 x0 d)) (g_224 x0 0 x1 (g_255 x0 d)))) (x0 + 1) i = d (x0 + 1) i from fun i hi => (((K4_0 i (by omega) (by omega)).trans (congrFun (F3 (x0 + 4) (by omega)) i)).trans (congrFun (F2 (x0 + 4) (by omega)) i)).trans (K1_0 i (by omega) (by omega))) hS4
  · have y0 : v_267 x0 x1 d = 201 := by simp only [v_267, if_pos (show d (x0 + 1) ((12 + (68 * x1)) + 4) = 0 from c0)]
    have y1 : g_267 x0 x1 d = d := by simp only [g_267, if_pos (show d (x0 + 1) ((12 + (68 * x1)) + 4) = 0 from c0)]
    rw [y0] at h
    rw [y1] at h
    exact h (show 0 ≤ ((201 : Int)) ∧ ((201 : Int)) ≤ 201 from (by omega)) (show ∀ b : Int, (b < x0 + 1 ∨ x0 + 1 < b) ∧ (b < x0 + 4 ∨ x0 + 4 < b) → d b = d b from fun _ _ => rfl) (show ∀ i : Int, 0 ≤ i ∧ i < 3116 → d (x0 + 1) i = d (x0 + 1) i from fun _ _ => rfl) hS
theorem kq_268 {E : mO × tW} {K : tK} {d : mD} {x0 x1 : Int} (hS : Safe d) (hx0 : mdB x0) (p1 : -2147483648 ≤ x1 ∧ x1 ≤ 2147483647) (hmp : mpP (d (x0 + 1))) (ht : d (x0 + 1) 0 ≤ 999) (hqq : qoP (d (x0 + 1))) (hn : d (x0 + 1) 9 ≤ 60) (h : (∀ b : Int, (b < x0 ∨ x0 + 1 < b) ∧ (b < x0 + 4 ∨ x0 + 4 < b) → (g_268 x0 x1 d) b = d b) → Safe (g_268 x0 x1 d) → K (.inl (some (0, (v_268 x0 x1 d)))) (g_268 x0 x1 d)) : tCall E 268 [.inr (11, x0), .inl (0, x1)] d K := by
  refine t_268_0 ?_
  have w0 := mh_0 hS hx0 _ rfl
  have w7 := mh_7 hS hx0 _ rfl
  have w8 := mh_8 hS hx0 _ rfl
  have w9 := mh_9 hS hx0 _ rfl
  have w10 := mh_10 hS hx0 _ rfl
  have w11 := mh_11 hS hx0 _ rfl
  refine k_236 hS hx0 (m_inR (by omega) (by omega)) (fun e1 => ?_)
  refine t_268_6 ?_
  refine ⟨m_inR (by omega) (by omega), fun c0 => ?_, fun c0 => ?_⟩
  · have hS1 : Safe (mset d x0 0 1) := s_11_f0 hS hx0 (by omega)
    rw [mset_eq (d := d) (a := x0) (i := (0 : Int)) (v := (1 : Int))]
    refine ⟨m_inR (by omega) (by omega), fun c1 => ?_, fun c1 => ?_⟩
    · exact (show False by omega).elim
    · have y0 : v_268 x0 x1 d = 0 := by simp only [v_268, if_pos (show v_236 x0 x1 d = 0 from c0), if_pos (show (0 : Int) < 1 from c1)]
      have y1 : g_268 x0 x1 d = mset d x0 0 1 := by simp only [g_268, if_pos (show v_236 x0 x1 d = 0 from c0), if_pos (show (0 : Int) < 1 from c1)]
      rw [y0] at h
      rw [y1] at h
      exact h (show ∀ b : Int, (b < x0 ∨ x0 + 1 < b) ∧ (b < x0 + 4 ∨ x0 + 4 < b) → (mset d x0 0 1) b = d b from fun b hb => mset_ne (by omega)) hS1
  · have hS2 : Safe (mset d x0 0 0) := s_11_f0 hS hx0 (by omega)
    rw [mset_eq (d := d) (a := x0) (i := (0 : Int)) (v := (0 : Int))]
    refine ⟨m_inR (by omega) (by omega), fun c1 => ?_, fun c1 => ?_⟩
    · have q1 : (mset d x0 0 0) (x0 + 1) 0 = d (x0 + 1) 0 := congrFun (mset_ne (by omega)) 0
      have q2 : (mset d x0 0 0) (x0 + 1) 9 = d (x0 + 1) 9 := congrFun (mset_ne (by omega)) 9
      have q3 : (mset d x0 0 0) (x0 + 1) 7 = d (x0 + 1) 7 := congrFun (mset_ne (by omega)) 7
      refine kq_267 hS2 hx0 (by omega) (mpP.of (mh_7 hS hx0 _ rfl) (show ∀ i : Int, i = 7 ∨ (12 ≤ i ∧ i < 420 ∧ (i - 12) % 68 = 2) → (mset d x0 0 0) (x0 + 1) i = d (x0 + 1) i from fun i hi => congrFun (mset_ne (by omega)) i) hmp) (by omega) (qoP.of (show ∀ i : Int, i = 7 ∨ (12 ≤ i ∧ i < 420 ∧ (i - 12) % 68 = 5) → (mset d x0 0 0) (x0 + 1) i = d (x0 + 1) i from fun i hi => congrFun (mset_ne (by omega)) i) hqq) (by omega) (by omega) (fun e2 F1 Q1 hS3 => ?_)
      refine t_268_31 ?_
      refine ⟨⟨m_inR (by omega) (by omega), m_inR (by omega) (by omega)⟩, fun c2 => ?_, fun c2 => ?_⟩
      · have hS4 : Safe (mset (g_267 x0 x1 (mset d x0 0 0)) x0 0 0) := s_11_f0 hS3 hx0 (by omega)
        rw [mset_eq (d := g_267 x0 x1 (mset d x0 0 0)) (a := x0) (i := (0 : Int)) (v := (0 : Int))]
        refine ⟨m_inR (by omega) (by omega), fun c3 => ?_, fun c3 => ?_⟩
        · have y0 : v_268 x0 x1 d = v_267 x0 x1 (mset d x0 0 0) := by simp only [v_268, if_neg (show ¬ v_236 x0 x1 d = 0 from c0), if_neg (show ¬ (0 : Int) < 0 from Int.not_lt.mpr c1), if_neg (show ¬ (200 : Int) < v_267 x0 x1 (mset d x0 0 0) from Int.not_lt.mpr c2), if_neg (show ¬ (0 : Int) < 0 from Int.not_lt.mpr c3)]
          have y1 : g_268 x0 x1 d = mset (g_267 x0 x1 (mset d x0 0 0)) x0 0 0 := by simp only [g_268, if_neg (show ¬ v_236 x0 x1 d = 0 from c0), if_neg (show ¬ (0 : Int) < 0 from Int.not_lt.mpr c1), if_neg (show ¬ (200 : Int) < v_267 x0 x1 (mset d x0 0 0) from Int.not_lt.mpr c2), if_neg (show ¬ (0 : Int) < 0 from Int.not_lt.mpr c3)]
          rw [y0] at h
          rw [y1] at h
          exact h (show ∀ b : Int, (b < x0 ∨ x0 + 1 < b) ∧ (b < x0 + 4 ∨ x0 + 4 < b) → (mset (g_267 x0 x1 (mset d x0 0 0)) x0 0 0) b = d b from fun b hb => (mset_ne (by omega)).trans ((F1 b (by omega)).trans (mset_ne (by omega)))) hS4
        · exact (show False by omega).elim
      · have hS5 : Safe (mset (g_267 x0 x1 (mset d x0 0 0)) x0 0 2) := s_11_f0 hS3 hx0 (by omega)
        rw [mset_eq (d := g_267 x0 x1 (mset d x0 0 0)) (a := x0) (i := (0 : Int)) (v := (2 : Int))]
        refine ⟨m_inR (by omega) (by omega), fun c3 => ?_, fun c3 => ?_⟩
        · exact (show False by omega).elim
        · have y0 : v_268 x0 x1 d = 0 := by simp only [v_268, if_neg (show ¬ v_236 x0 x1 d = 0 from c0), if_neg (show ¬ (0 : Int) < 0 from Int.not_lt.mpr c1), if_pos (show (200 : Int) < v_267 x0 x1 (mset d x0 0 0) from c2), if_pos (show (0 : Int) < 2 from c3)]
          have y1 : g_268 x0 x1 d = mset (g_267 x0 x1 (mset d x0 0 0)) x0 0 2 := by simp only [g_268, if_neg (show ¬ v_236 x0 x1 d = 0 from c0), if_neg (show ¬ (0 : Int) < 0 from Int.not_lt.mpr c1), if_pos (show (200 : Int) < v_267 x0 x1 (mset d x0 0 0) from c2), if_pos (show (0 : Int) < 2 from c3)]
          rw [y0] at h
          rw [y1] at h
          exact h (show ∀ b : Int, (b < x0 ∨ x0 + 1 < b) ∧ (b < x0 + 4 ∨ x0 + 4 < b) → (mset (g_267 x0 x1 (mset d x0 0 0)) x0 0 2) b = d b from fun b hb => (mset_ne (by omega)).trans ((F1 b (by omega)).trans (mset_ne (by omega)))) hS5
    · exact (show False by omega).elim
theorem lsq_269_8 {E : mO × tW} {K : tK} {x0 : Int} (hx0 : mdB x0) (N8 : Int) (r8 : Int → Int → Int → mD → Int × mD) (ih8 : ∀ (x1 x2 x3 : Int) (v4 : tV) (d : mD), Safe d → (0 ≤ x3 ∧ x3 ≤ 6) → (-1 ≤ x1 ∧ x1 ≤ 5) → (0 ≤ x2 ∧ x2 ≤ 201) → (mpP (d (x0 + 1))) → (d (x0 + 1) 0 ≤ 999) → (qoP (d (x0 + 1))) → (d (x0 + 1) 9 ≤ 60) → 0 ≤ 6 - x3 → 6 - x3 < N8 → ((∀ b : Int, (b < x0 ∨ x0 + 1 < b) ∧ (b < x0 + 4 ∨ x0 + 4 < b) → (r8 x1 x2 x3 d).2 b = d b) → Safe (r8 x1 x2 x3 d).2 → K (.inl (some (0, (r8 x1 x2 x3 d).1))) (r8 x1 x2 x3 d).2) → tRun E 269 (8, [.inr (11, x0), .inl (0, x1), .inl (0, x2), .inl (0, x3), v4], [], 0, 0, d) K) (x1 x2 x3 : Int) (v4 : tV) (d : mD) (hS : Safe d) (i0 : 0 ≤ x3 ∧ x3 ≤ 6) (i1 : -1 ≤ x1 ∧ x1 ≤ 5) (i2 : 0 ≤ x2 ∧ x2 ≤ 201) (hmp : mpP (d (x0 + 1))) (i4 : d (x0 + 1) 0 ≤ 999) (hqq : qoP (d (x0 + 1))) (i6 : d (x0 + 1) 9 ≤ 60) (hm : 6 - x3 ≤ N8) (h : (∀ b : Int, (b < x0 ∨ x0 + 1 < b) ∧ (b < x0 + 4 ∨ x0 + 4 < b) → (st_269_8 x0 r8 x1 x2 x3 d).2 b = d b) → Safe (st_269_8 x0 r8 x1 x2 x3 d).2 → K (.inl (some (0, (st_269_8 x0 r8 x1 x2 x3 d).1))) (st_269_8 x0 r8 x1 x2 x3 d).2) : tRun E 269 (8, [.inr (11, x0), .inl (0, x1), .inl (0, x2), .inl (0, x3), v4], [], 0, 0, d) K := by
  refine t_269_8 ?_
  have q1 := mh_7 hS hx0 _ rfl
  refine ⟨by omega, ⟨m_inR (by omega) (by omega), m_inR (by omega) (by omega)⟩, fun c0 => ?_, fun c0 => ?_⟩
  · refine ⟨⟨m_inR (by omega) (by omega), m_inR (by omega) (by omega)⟩, fun c1 => ?_, fun c1 => ?_⟩
    · have hS1 : Safe (mset d x0 0 0) := s_11_f0 hS hx0 (by omega)
      rw [mset_eq (d := d) (a := x0) (i := (0 : Int)) (v := (0 : Int))]
      refine ⟨m_inR (by omega) (by omega), fun c2 => ?_, fun c2 => ?_⟩
      · have y0 : st_269_8 x0 r8 x1 x2 x3 d = (x1, mset d x0 0 0) := by simp only [st_269_8, if_neg (show ¬ x3 < d (x0 + 1) 7 from Int.not_lt.mpr c0), if_neg (show ¬ x1 = (-1) from c1), if_neg (show ¬ (0 : Int) < 0 from Int.not_lt.mpr c2)]
        rw [y0] at h
        exact h (show ∀ b : Int, (b < x0 ∨ x0 + 1 < b) ∧ (b < x0 + 4 ∨ x0 + 4 < b) → (mset d x0 0 0) b = d b from fun b hb => mset_ne (by omega)) hS1
      · exact (show False by omega).elim
    · have hS2 : Safe (mset d x0 0 1) := s_11_f0 hS hx0 (by omega)
      rw [mset_eq (d := d) (a := x0) (i := (0 : Int)) (v := (1 : Int))]
      refine ⟨m_inR (by omega) (by omega), fun c2 => ?_, fun c2 => ?_⟩
      · exact (show False by omega).elim
      · have y0 : st_269_8 x0 r8 x1 x2 x3 d = (0, mset d x0 0 1) := by simp only [st_269_8, if_neg (show ¬ x3 < d (x0 + 1) 7 from Int.not_lt.mpr c0), if_pos (show x1 = (-1) from c1), if_pos (show (0 : Int) < 1 from c2)]
        rw [y0] at h
        exact h (show ∀ b : Int, (b < x0 ∨ x0 + 1 < b) ∧ (b < x0 + 4 ∨ x0 + 4 < b) → (mset d x0 0 1) b = d b from fun b hb => mset_ne (by omega)) hS2
  · refine kq_267 hS hx0 (by omega) hmp (by omega) hqq (by omega) (by omega) (fun e1 F1 Q1 hS3 => ?_)
    refine t_269_24 ?_
    refine ⟨⟨m_inR (by omega) (by omega), m_inR (by omega) (by omega)⟩, fun c1 => ?_, fun c1 => ?_⟩
    · refine ⟨⟨m_inR (by omega) (by omega), m_inR (by omega) (by omega)⟩, fun c2 => ?_, fun c2 => ?_⟩
      · have q2 : (g_267 x0 x3 d) (x0 + 1) 0 = d (x0 + 1) 0 := Q1 0 (by omega)
        have q3 : (g_267 x0 x3 d) (x0 + 1) 9 = d (x0 + 1) 9 := Q1 9 (by omega)
        refine ih8 x1 x2 (x3 + 1) (.inl (0, v_267 x0 x3 d)) (g_267 x0 x3 d) hS3 (by omega) (by omega) (by omega) (mpP.of (mh_7 hS hx0 _ rfl) (show ∀ i : Int, i = 7 ∨ (12 ≤ i ∧ i < 420 ∧ (i - 12) % 68 = 2) → (g_267 x0 x3 d) (x0 + 1) i = d (x0 + 1) i from fun i hi => Q1 i (by omega)) hmp) (by omega) (qoP.of (show ∀ i : Int, i = 7 ∨ (12 ≤ i ∧ i < 420 ∧ (i - 12) % 68 = 5) → (g_267 x0 x3 d) (x0 + 1) i = d (x0 + 1) i from fun i hi => Q1 i (by omega)) hqq) (by omega) (by omega) (by omega) ?_
        intro F hS_
        have y0 : st_269_8 x0 r8 x1 x2 x3 d = r8 x1 x2 (x3 + 1) (g_267 x0 x3 d) := by simp only [st_269_8, if_pos (show x3 < d (x0 + 1) 7 from c0), if_neg (show ¬ v_267 x0 x3 d < x2 from Int.not_lt.mpr c1), if_neg (show ¬ v_267 x0 x3 d < x2 from Int.not_lt.mpr c2)]
        rw [y0] at h
        exact h (fun b hb => (F b hb).trans ((show ∀ b : Int, (b < x0 ∨ x0 + 1 < b) ∧ (b < x0 + 4 ∨ x0 + 4 < b) → (g_267 x0 x3 d) b = d b from fun b hb => F1 b (by omega)) b hb)) hS_
      · exact (show False by omega).elim
    · refine ⟨⟨m_inR (by omega) (by omega), m_inR (by omega) (by omega)⟩, fun c2 => ?_, fun c2 => ?_⟩
      · exact (show False by omega).elim
      · have q4 : (g_267 x0 x3 d) (x0 + 1) 0 = d (x0 + 1) 0 := Q1 0 (by omega)
        have q5 : (g_267 x0 x3 d) (x0 + 1) 9 = d (x0 + 1) 9 := Q1 9 (by omega)
        refine ih8 x3 (v_267 x0 x3 d) (x3 + 1) (.inl (0, v_267 x0 x3 d)) (g_267 x0 x3 d) hS3 (by omega) (by omega) (by omega) (mpP.of (mh_7 hS hx0 _ rfl) (show ∀ i : Int, i = 7 ∨ (12 ≤ i ∧ i < 420 ∧ (i - 12) % 68 = 2) → (g_267 x0 x3 d) (x0 + 1) i = d (x0 + 1) i from fun i hi => Q1 i (by omega)) hmp) (by omega) (qoP.of (show ∀ i : Int, i = 7 ∨ (12 ≤ i ∧ i < 420 ∧ (i - 12) % 68 = 5) → (g_267 x0 x3 d) (x0 + 1) i = d (x0 + 1) i from fun i hi => Q1 i (by omega)) hqq) (by omega) (by omega) (by omega) ?_
        intro F hS_
        have y0 : st_269_8 x0 r8 x1 x2 x3 d = r8 x3 (v_267 x0 x3 d) (x3 + 1) (g_267 x0 x3 d) := by simp only [st_269_8, if_pos (show x3 < d (x0 + 1) 7 from c0), if_pos (show v_267 x0 x3 d < x2 from c1), if_pos (show v_267 x0 x3 d < x2 from c2)]
        rw [y0] at h
        exact h (fun b hb => (F b hb).trans ((show ∀ b : Int, (b < x0 ∨ x0 + 1 < b) ∧ (b < x0 + 4 ∨ x0 + 4 < b) → (g_267 x0 x3 d) b = d b from fun b hb => F1 b (by omega)) b hb)) hS_
theorem lq_269_8 {E : mO × tW} {K : tK} {x0 : Int} (hx0 : mdB x0) : ∀ (n : Nat) (x1 x2 x3 : Int) (v4 : tV) (d : mD), Safe d → (0 ≤ x3 ∧ x3 ≤ 6) → (-1 ≤ x1 ∧ x1 ≤ 5) → (0 ≤ x2 ∧ x2 ≤ 201) → (mpP (d (x0 + 1))) → (d (x0 + 1) 0 ≤ 999) → (qoP (d (x0 + 1))) → (d (x0 + 1) 9 ≤ 60) → 6 - x3 ≤ (n : Int) → ((∀ b : Int, (b < x0 ∨ x0 + 1 < b) ∧ (b < x0 + 4 ∨ x0 + 4 < b) → (lp_269_8 x0 n x1 x2 x3 d).2 b = d b) → Safe (lp_269_8 x0 n x1 x2 x3 d).2 → K (.inl (some (0, (lp_269_8 x0 n x1 x2 x3 d).1))) (lp_269_8 x0 n x1 x2 x3 d).2) → tRun E 269 (8, [.inr (11, x0), .inl (0, x1), .inl (0, x2), .inl (0, x3), v4], [], 0, 0, d) K := by
  intro n
  induction n with
  | zero =>
    intro x1 x2 x3 v4 d hS i0 i1 i2 hmp i4 hqq i6 hm  h
    exact lsq_269_8 hx0 0 _ (fun _ _ _ _ _ _ _ _ _ _ _ _ _ m0 m1 _ => absurd m1 (by omega)) x1 x2 x3 v4 d hS i0 i1 i2 hmp i4 hqq i6 hm  h
  | succ n ih =>
    intro x1 x2 x3 v4 d hS i0 i1 i2 hmp i4 hqq i6 hm  h
    exact lsq_269_8 hx0 ((n + 1 : Nat) : Int) _ (fun x1 x2 x3 v4 d hS i0 i1 i2 hmp i4 hqq i6  m0 m1 h => ih x1 x2 x3 v4 d hS i0 i1 i2 hmp i4 hqq i6 (by omega)  h) x1 x2 x3 v4 d hS i0 i1 i2 hmp i4 hqq i6 hm  h
theorem kq_269 {E : mO × tW} {K : tK} {d : mD} {x0 : Int} (hS : Safe d) (hx0 : mdB x0) (hmp : mpP (d (x0 + 1))) (ht : d (x0 + 1) 0 ≤ 999) (hqq : qoP (d (x0 + 1))) (hn : d (x0 + 1) 9 ≤ 60) (h : (∀ b : Int, (b < x0 ∨ x0 + 1 < b) ∧ (b < x0 + 4 ∨ x0 + 4 < b) → (g_269 x0 d) b = d b) → Safe (g_269 x0 d) → K (.inl (some (0, (v_269 x0 d)))) (g_269 x0 d)) : tCall E 269 [.inr (11, x0)] d K := by
  simp only [v_269, g_269] at h
  refine t_269_0 ?_
  have w0 := mh_0 hS hx0 _ rfl
  have w7 := mh_7 hS hx0 _ rfl
  have w8 := mh_8 hS hx0 _ rfl
  have w9 := mh_9 hS hx0 _ rfl
  have w10 := mh_10 hS hx0 _ rfl
  have w11 := mh_11 hS hx0 _ rfl
  refine lq_269_8 hx0 (6 - 0 : Int).toNat ((-1)) 201 0 tu d hS (by omega) (by omega) (by omega) hmp (by omega) hqq (by omega) (by omega) ?_
  intro F hS_
  have y0 : f_269 x0 d = lp_269_8 x0 (6 - 0 : Int).toNat ((-1)) 201 0 d := by simp only [f_269]
  rw [y0] at h
  exact h F hS_
theorem lsq_272_89 {E : mO × tW} {K : tK} {x0 x1 x2 : Int} (hx0 : mdB x0) (p1 : -2147483648 ≤ x1 ∧ x1 ≤ 2147483647) (p2 : -2147483648 ≤ x2 ∧ x2 ≤ 2147483647) (N89 : Int) (r89 : Int → Int → Int → mD → Int × mD) (ih89 : ∀ (x3 x4 x5 : Int) (v6 v7 : tV) (d : mD), Safe d → (0 ≤ x5 ∧ x5 ≤ 61) → (0 ≤ x4 ∧ x4 ≤ 1300) → 0 ≤ 61 - x5 → 61 - x5 < N89 → ((∀ b : Int, (b < x0 ∨ x0 + 1 < b) ∧ (b < x0 + 4 ∨ x0 + 4 < b) → (r89 x3 x4 x5 d).2 b = d b) → Safe (r89 x3 x4 x5 d).2 → K (.inl (some (0, (r89 x3 x4 x5 d).1))) (r89 x3 x4 x5 d).2) → tRun E 272 (89, [.inr (11, x0), .inl (0, x1), .inl (0, x2), .inl (0, x3), .inl (0, x4), .inl (0, x5), v6, v7], [], 0, 0, d) K) (x3 x4 x5 : Int) (v6 v7 : tV) (d : mD) (hS : Safe d) (i0 : 0 ≤ x5 ∧ x5 ≤ 61) (i1 : 0 ≤ x4 ∧ x4 ≤ 1300) (hm : 61 - x5 ≤ N89) (h : (∀ b : Int, (b < x0 ∨ x0 + 1 < b) ∧ (b < x0 + 4 ∨ x0 + 4 < b) → (st_272_89 x0 x1 x2 r89 x3 x4 x5 d).2 b = d b) → Safe (st_272_89 x0 x1 x2 r89 x3 x4 x5 d).2 → K (.inl (some (0, (st_272_89 x0 x1 x2 r89 x3 x4 x5 d).1))) (st_272_89 x0 x1 x2 r89 x3 x4 x5 d).2) : tRun E 272 (89, [.inr (11, x0), .inl (0, x1), .inl (0, x2), .inl (0, x3), .inl (0, x4), .inl (0, x5), v6, v7], [], 0, 0, d) K := by
  refine t_272_89 ?_
  have w9 := as4 hS hx0 x5
  have q1 := mh_9 hS hx0 _ rfl
  refine ⟨by omega, ⟨m_inR (by omega) (by omega), m_inR (by omega) (by omega)⟩, fun c0 => ?_, fun c0 => ?_⟩
  · refine k_271 hS hx0 (fun e1 => ?_)
    refine t_272_206 ?_
    refine ⟨m_inR (by omega) (by omega), fun c1 => ?_, fun c1 => ?_⟩
    · have hS1 : Safe (mset d x0 0 0) := s_11_f0 hS hx0 (by omega)
      refine k_256 hS1 hx0 (fun F1 K1_0 hS2 => ?_)
      refine t_272_221 ?_
      rw [F1 x0 (by omega)]
      rw [mset_eq (d := d) (a := x0) (i := (0 : Int)) (v := (0 : Int))]
      refine ⟨m_inR (by omega) (by omega), fun c2 => ?_, fun c2 => ?_⟩
      · have y0 : st_272_89 x0 x1 x2 r89 x3 x4 x5 d = (x4, g_256 x0 (mset d x0 0 0)) := by simp only [st_272_89, if_neg (show ¬ x5 < d (x0 + 1) 9 from Int.not_lt.mpr c0), if_neg (show ¬ (0 : Int) < v_271 x0 d from Int.not_lt.mpr c1), if_neg (show ¬ (0 : Int) < 0 from Int.not_lt.mpr c2)]
        rw [y0] at h
        exact h (show ∀ b : Int, (b < x0 ∨ x0 + 1 < b) ∧ (b < x0 + 4 ∨ x0 + 4 < b) → (g_256 x0 (mset d x0 0 0)) b = d b from fun b hb => (F1 b (by omega)).trans (mset_ne (by omega))) hS2
      · exact (show False by omega).elim
    · have hS3 : Safe (mset d x0 0 3) := s_11_f0 hS hx0 (by omega)
      refine k_256 hS3 hx0 (fun F2 K2_0 hS4 => ?_)
      refine t_272_221 ?_
      rw [F2 x0 (by omega)]
      rw [mset_eq (d := d) (a := x0) (i := (0 : Int)) (v := (3 : Int))]
      refine ⟨m_inR (by omega) (by omega), fun c2 => ?_, fun c2 => ?_⟩
      · exact (show False by omega).elim
      · have y0 : st_272_89 x0 x1 x2 r89 x3 x4 x5 d = (0, g_256 x0 (mset d x0 0 3)) := by simp only [st_272_89, if_neg (show ¬ x5 < d (x0 + 1) 9 from Int.not_lt.mpr c0), if_pos (show (0 : Int) < v_271 x0 d from c1), if_pos (show (0 : Int) < 3 from c2)]
        rw [y0] at h
        exact h (show ∀ b : Int, (b < x0 ∨ x0 + 1 < b) ∧ (b < x0 + 4 ∨ x0 + 4 < b) → (g_256 x0 (mset d x0 0 3)) b = d b from fun b hb => (F2 b (by omega)).trans (mset_ne (by omega))) hS4
  · refine k_179 hS ?_
    refine t_272_106 ?_
    refine ⟨by omega, m_inR (by omega) (by omega), fun c1 => ?_, fun c1 => ?_⟩
    · refine ⟨m_inR (by omega) (by omega), fun c2 => ?_, fun c2 => ?_⟩
      · refine ih89 x3 x4 (x5 + 1) (.inl (0, 452 + (24 * x5))) (.inl (0, 0)) d hS (by omega) (by omega) (by omega) (by omega) ?_
        intro F hS_
        have y0 : st_272_89 x0 x1 x2 r89 x3 x4 x5 d = r89 x3 x4 (x5 + 1) d := by simp only [st_272_89, if_pos (show x5 < d (x0 + 1) 9 from c0), if_neg (show ¬ d (x0 + 4) ((452 + (24 * x5)) + 4) = 0 from c1), if_pos (show (0 : Int) = 0 from c2)]
        rw [y0] at h
        exact h F hS_
      · exact (show False by omega).elim
    · have q2 := mt_4 hS hx0 x5 ((452 + (24 * x5)) + 4) (by omega) (by omega)
      refine ⟨by omega, ⟨m_inR (by omega) (by omega), m_inR (by omega) (by omega)⟩, fun c2 => ?_, fun c2 => ?_⟩
      · refine ⟨m_inR (by omega) (by omega), fun c3 => ?_, fun c3 => ?_⟩
        · refine ih89 x3 x4 (x5 + 1) (.inl (0, 452 + (24 * x5))) (.inl (0, 0)) d hS (by omega) (by omega) (by omega) (by omega) ?_
          intro F hS_
          have y0 : st_272_89 x0 x1 x2 r89 x3 x4 x5 d = r89 x3 x4 (x5 + 1) d := by simp only [st_272_89, if_pos (show x5 < d (x0 + 1) 9 from c0), if_pos (show d (x0 + 4) ((452 + (24 * x5)) + 4) = 0 from c1), if_neg (show ¬ d (x0 + 1) ((452 + (24 * x5)) + 4) = 1 from c2), if_pos (show (0 : Int) = 0 from c3)]
          rw [y0] at h
          exact h F hS_
        · exact (show False by omega).elim
      · refine ⟨m_inR (by omega) (by omega), fun c3 => ?_, fun c3 => ?_⟩
        · exact (show False by omega).elim
        · have q3 := mt_3 hS hx0 x5 ((452 + (24 * x5)) + 3) (by omega) (by omega)
          have q4 := mt_2 hS hx0 x5 ((452 + (24 * x5)) + 2) (by omega) (by omega)
          refine ⟨by omega, by omega, ⟨m_inR (by omega) (by omega), m_inR (by omega) (by omega)⟩, fun c4 => ?_, fun c4 => ?_⟩
          · refine ih89 x3 x4 (x5 + 1) (.inl (0, 452 + (24 * x5))) (.inl (0, 1)) d hS (by omega) (by omega) (by omega) (by omega) ?_
            intro F hS_
            have y0 : st_272_89 x0 x1 x2 r89 x3 x4 x5 d = r89 x3 x4 (x5 + 1) d := by simp only [st_272_89, if_pos (show x5 < d (x0 + 1) 9 from c0), if_pos (show d (x0 + 4) ((452 + (24 * x5)) + 4) = 0 from c1), if_pos (show d (x0 + 1) ((452 + (24 * x5)) + 4) = 1 from c2), if_neg (show ¬ (1 : Int) = 0 from c3), if_neg (show ¬ x4 < (d (x0 + 1) ((452 + (24 * x5)) + 3)) - (d (x0 + 1) ((452 + (24 * x5)) + 2)) from Int.not_lt.mpr c4)]
            rw [y0] at h
            exact h F hS_
          · refine ⟨by omega, by omega, ?_⟩
            refine ih89 x3 ((d (x0 + 1) ((452 + (24 * x5)) + 3)) - (d (x0 + 1) ((452 + (24 * x5)) + 2))) (x5 + 1) (.inl (0, 452 + (24 * x5))) (.inl (0, 1)) d hS (by omega) (by omega) (by omega) (by omega) ?_
            intro F hS_
            have y0 : st_272_89 x0 x1 x2 r89 x3 x4 x5 d = r89 x3 ((d (x0 + 1) ((452 + (24 * x5)) + 3)) - (d (x0 + 1) ((452 + (24 * x5)) + 2))) (x5 + 1) d := by simp only [st_272_89, if_pos (show x5 < d (x0 + 1) 9 from c0), if_pos (show d (x0 + 4) ((452 + (24 * x5)) + 4) = 0 from c1), if_pos (show d (x0 + 1) ((452 + (24 * x5)) + 4) = 1 from c2), if_neg (show ¬ (1 : Int) = 0 from c3), if_pos (show x4 < (d (x0 + 1) ((452 + (24 * x5)) + 3)) - (d (x0 + 1) ((452 + (24 * x5)) + 2)) from c4)]
            rw [y0] at h
            exact h F hS_
theorem lq_272_89 {E : mO × tW} {K : tK} {x0 x1 x2 : Int} (hx0 : mdB x0) (p1 : -2147483648 ≤ x1 ∧ x1 ≤ 2147483647) (p2 : -2147483648 ≤ x2 ∧ x2 ≤ 2147483647) : ∀ (n : Nat) (x3 x4 x5 : Int) (v6 v7 : tV) (d : mD), Safe d → (0 ≤ x5 ∧ x5 ≤ 61) → (0 ≤ x4 ∧ x4 ≤ 1300) → 61 - x5 ≤ (n : Int) → ((∀ b : Int, (b < x0 ∨ x0 + 1 < b) ∧ (b < x0 + 4 ∨ x0 + 4 < b) → (lp_272_89 x0 x1 x2 n x3 x4 x5 d).2 b = d b) → Safe (lp_272_89 x0 x1 x2 n x3 x4 x5 d).2 → K (.inl (some (0, (lp_272_89 x0 x1 x2 n x3 x4 x5 d).1))) (lp_272_89 x0 x1 x2 n x3 x4 x5 d).2) → tRun E 272 (89, [.inr (11, x0), .inl (0, x1), .inl (0, x2), .inl (0, x3), .inl (0, x4), .inl (0, x5), v6, v7], [], 0, 0, d) K := by
  intro n
  induction n with
  | zero =>
    intro x3 x4 x5 v6 v7 d hS i0 i1 hm  h
    exact lsq_272_89 hx0 p1 p2 0 _ (fun _ _ _ _ _ _ _ _ _ m0 m1 _ => absurd m1 (by omega)) x3 x4 x5 v6 v7 d hS i0 i1 hm  h
  | succ n ih =>
    intro x3 x4 x5 v6 v7 d hS i0 i1 hm  h
    exact lsq_272_89 hx0 p1 p2 ((n + 1 : Nat) : Int) _ (fun x3 x4 x5 v6 v7 d hS i0 i1  m0 m1 h => ih x3 x4 x5 v6 v7 d hS i0 i1 (by omega)  h) x3 x4 x5 v6 v7 d hS i0 i1 hm  h
theorem lsq_272_59 {E : mO × tW} {K : tK} {x0 x1 x2 : Int} (hx0 : mdB x0) (p1 : -2147483648 ≤ x1 ∧ x1 ≤ 2147483647) (p2 : -2147483648 ≤ x2 ∧ x2 ≤ 2147483647) (N59 : Int) (r59 : Int → mD → Int × mD) (ih59 : ∀ (x3 : Int) (d : mD), Safe d → (0 ≤ x3 ∧ x3 ≤ 200) → (d (x0 + 1) 0 + (200 - x3) ≤ 1200) → (mpP (d (x0 + 1))) → 0 ≤ 200 - x3 → 200 - x3 < N59 → ((∀ b : Int, (b < x0 ∨ x0 + 1 < b) ∧ (b < x0 + 4 ∨ x0 + 4 < b) → (r59 x3 d).2 b = d b) → Safe (r59 x3 d).2 → K (.inl (some (0, (r59 x3 d).1))) (r59 x3 d).2) → tRun E 272 (59, [.inr (11, x0), .inl (0, x1), .inl (0, x2), .inl (0, x3), tu, tu, tu, tu], [], 0, 0, d) K) (x3 : Int) (d : mD) (hS : Safe d) (i0 : 0 ≤ x3 ∧ x3 ≤ 200) (i1 : d (x0 + 1) 0 + (200 - x3) ≤ 1200) (hmp : mpP (d (x0 + 1))) (hm : 200 - x3 ≤ N59) (h : (∀ b : Int, (b < x0 ∨ x0 + 1 < b) ∧ (b < x0 + 4 ∨ x0 + 4 < b) → (st_272_59 x0 x1 x2 r59 x3 d).2 b = d b) → Safe (st_272_59 x0 x1 x2 r59 x3 d).2 → K (.inl (some (0, (st_272_59 x0 x1 x2 r59 x3 d).1))) (st_272_59 x0 x1 x2 r59 x3 d).2) : tRun E 272 (59, [.inr (11, x0), .inl (0, x1), .inl (0, x2), .inl (0, x3), tu, tu, tu, tu], [], 0, 0, d) K := by
  refine t_272_59 ?_
  refine ⟨⟨m_inR (by omega) (by omega), m_inR (by omega) (by omega)⟩, fun c0 => ?_, fun c0 => ?_⟩
  · refine lq_272_89 hx0 p1 p2 (61 - 0 : Int).toNat x3 0 0 tu tu d hS (by omega) (by omega) (by omega) ?_
    intro F hS_
    have y0 : st_272_59 x0 x1 x2 r59 x3 d = lp_272_89 x0 x1 x2 (61 - 0 : Int).toNat x3 0 0 d := by simp only [st_272_59, if_neg (show ¬ x3 < 200 from Int.not_lt.mpr c0)]
    rw [y0] at h
    exact h F hS_
  · refine k_271 hS hx0 (fun e2 => ?_)
    refine t_272_70 ?_
    refine ⟨m_inR (by omega) (by omega), fun c1 => ?_, fun c1 => ?_⟩
    · refine lq_272_89 hx0 p1 p2 (61 - 0 : Int).toNat x3 0 0 tu tu d hS (by omega) (by omega) (by omega) ?_
      intro F hS_
      have y0 : st_272_59 x0 x1 x2 r59 x3 d = lp_272_89 x0 x1 x2 (61 - 0 : Int).toNat x3 0 0 d := by simp only [st_272_59, if_pos (show x3 < 200 from c0), if_neg (show ¬ (0 : Int) < v_271 x0 d from Int.not_lt.mpr c1)]
      rw [y0] at h
      exact h F hS_
    · refine k_223 hS hx0 hmp (by omega) (fun F3 Q3 n3_0 hS5 => ?_)
      refine t_272_77 ?_
      refine ih59 (x3 + 1)  (g_223 x0 d) hS5 (by omega) (by omega) (mpP.of (mh_7 hS hx0 _ rfl) (show ∀ i : Int, i = 7 ∨ (12 ≤ i ∧ i < 420 ∧ (i - 12) % 68 = 2) → (g_223 x0 d) (x0 + 1) i = d (x0 + 1) i from fun i hi => Q3 i (by omega)) hmp) (by omega) (by omega) ?_
      intro F hS_
      have y0 : st_272_59 x0 x1 x2 r59 x3 d = r59 (x3 + 1) (g_223 x0 d) := by simp only [st_272_59, if_pos (show x3 < 200 from c0), if_pos (show (0 : Int) < v_271 x0 d from c1)]
      rw [y0] at h
      exact h (fun b hb => (F b hb).trans ((show ∀ b : Int, (b < x0 ∨ x0 + 1 < b) ∧ (b < x0 + 4 ∨ x0 + 4 < b) → (g_223 x0 d) b = d b from fun b hb => F3 b (by omega)) b hb)) hS_
theorem lq_272_59 {E : mO × tW} {K : tK} {x0 x1 x2 : Int} (hx0 : mdB x0) (p1 : -2147483648 ≤ x1 ∧ x1 ≤ 2147483647) (p2 : -2147483648 ≤ x2 ∧ x2 ≤ 2147483647) : ∀ (n : Nat) (x3 : Int) (d : mD), Safe d → (0 ≤ x3 ∧ x3 ≤ 200) → (d (x0 + 1) 0 + (200 - x3) ≤ 1200) → (mpP (d (x0 + 1))) → 200 - x3 ≤ (n : Int) → ((∀ b : Int, (b < x0 ∨ x0 + 1 < b) ∧ (b < x0 + 4 ∨ x0 + 4 < b) → (lp_272_59 x0 x1 x2 n x3 d).2 b = d b) → Safe (lp_272_59 x0 x1 x2 n x3 d).2 → K (.inl (some (0, (lp_272_59 x0 x1 x2 n x3 d).1))) (lp_272_59 x0 x1 x2 n x3 d).2) → tRun E 272 (59, [.inr (11, x0), .inl (0, x1), .inl (0, x2), .inl (0, x3), tu, tu, tu, tu], [], 0, 0, d) K := by
  intro n
  induction n with
  | zero =>
    intro x3  d hS i0 i1 hmp hm  h
    exact lsq_272_59 hx0 p1 p2 0 _ (fun _  _ _ _ _ _ m0 m1 _ => absurd m1 (by omega)) x3  d hS i0 i1 hmp hm  h
  | succ n ih =>
    intro x3  d hS i0 i1 hmp hm  h
    exact lsq_272_59 hx0 p1 p2 ((n + 1 : Nat) : Int) _ (fun x3  d hS i0 i1 hmp  m0 m1 h => ih x3  d hS i0 i1 hmp (by omega)  h) x3  d hS i0 i1 hmp hm  h
theorem kq_272 {E : mO × tW} {K : tK} {d : mD} {x0 x1 x2 : Int} (hS : Safe d) (hx0 : mdB x0) (p1 : -2147483648 ≤ x1 ∧ x1 ≤ 2147483647) (p2 : -2147483648 ≤ x2 ∧ x2 ≤ 2147483647) (hmp : mpP (d (x0 + 1))) (ht : d (x0 + 1) 0 ≤ 999) (hqq : qoP (d (x0 + 1))) (h : (∀ b : Int, (b < x0 ∨ x0 + 1 < b) ∧ (b < x0 + 4 ∨ x0 + 4 < b) → (g_272 x0 x1 x2 d) b = d b) → Safe (g_272 x0 x1 x2 d) → K (.inl (some (0, (v_272 x0 x1 x2 d)))) (g_272 x0 x1 x2 d)) : tCall E 272 [.inr (11, x0), .inl (0, x1), .inl (0, x2)] d K := by
  simp only [v_272, g_272] at h
  refine t_272_0 ?_
  have w0 := mh_0 hS hx0 _ rfl
  have w7 := mh_7 hS hx0 _ rfl
  have w8 := mh_8 hS hx0 _ rfl
  have w9 := mh_9 hS hx0 _ rfl
  have w10 := mh_10 hS hx0 _ rfl
  have w11 := mh_11 hS hx0 _ rfl
  refine k_236 hS hx0 (m_inR (by omega) (by omega)) (fun e3 => ?_)
  refine t_272_6 ?_
  refine ⟨m_inR (by omega) (by omega), fun c0 => ?_, fun c0 => ?_⟩
  · have hS6 : Safe (mset d x0 0 1) := s_11_f0 hS hx0 (by omega)
    rw [mset_eq (d := d) (a := x0) (i := (0 : Int)) (v := (1 : Int))]
    refine ⟨m_inR (by omega) (by omega), fun c1 => ?_, fun c1 => ?_⟩
    · exact (show False by omega).elim
    · have y0 : f_272 x0 x1 x2 d = (0, mset d x0 0 1) := by simp only [f_272, if_pos (show v_236 x0 x1 d = 0 from c0), if_pos (show (0 : Int) < 1 from c1)]
      rw [y0] at h
      exact h (show ∀ b : Int, (b < x0 ∨ x0 + 1 < b) ∧ (b < x0 + 4 ∨ x0 + 4 < b) → (mset d x0 0 1) b = d b from fun b hb => mset_ne (by omega)) hS6
  · refine k_236 hS hx0 (m_inR (by omega) (by omega)) (fun e4 => ?_)
    refine t_272_14 ?_
    refine ⟨m_inR (by omega) (by omega), fun c1 => ?_, fun c1 => ?_⟩
    · refine k_270 hS hx0 (by omega) (by omega) (fun e5 => ?_)
      refine t_272_27 ?_
      refine ⟨m_inR (by omega) (by omega), fun c2 => ?_, fun c2 => ?_⟩
      · have hS7 : Safe (mset d x0 0 2) := s_11_f0 hS hx0 (by omega)
        rw [mset_eq (d := d) (a := x0) (i := (0 : Int)) (v := (2 : Int))]
        refine ⟨m_inR (by omega) (by omega), fun c3 => ?_, fun c3 => ?_⟩
        · exact (show False by omega).elim
        · have y0 : f_272 x0 x1 x2 d = (0, mset d x0 0 2) := by simp only [f_272, if_neg (show ¬ v_236 x0 x1 d = 0 from c0), if_neg (show ¬ v_236 x0 x2 d = 0 from c1), if_pos (show v_270 x0 x1 x2 d = 0 from c2), if_pos (show (0 : Int) < 2 from c3)]
          rw [y0] at h
          exact h (show ∀ b : Int, (b < x0 ∨ x0 + 1 < b) ∧ (b < x0 + 4 ∨ x0 + 4 < b) → (mset d x0 0 2) b = d b from fun b hb => mset_ne (by omega)) hS7
      · have hS8 : Safe (mset d x0 0 0) := s_11_f0 hS hx0 (by omega)
        rw [mset_eq (d := d) (a := x0) (i := (0 : Int)) (v := (0 : Int))]
        refine ⟨m_inR (by omega) (by omega), fun c3 => ?_, fun c3 => ?_⟩
        · refine k_255 hS8 hx0 (fun F4 K4_0 hS9 => ?_)
          refine t_272_51 ?_
          have q5 : (g_255 x0 (mset d x0 0 0)) (x0 + 1) (12 + 68 * x1 + 5) = d (x0 + 1) (12 + 68 * x1 + 5) := (congrFun (F4 (x0 + 1) (by omega)) (12 + 68 * x1 + 5)).trans (congrFun (mset_ne (by omega)) (12 + 68 * x1 + 5))
          have q6 : (g_255 x0 (mset d x0 0 0)) (x0 + 1) (12 + 68 * x2 + 5) = d (x0 + 1) (12 + 68 * x2 + 5) := (congrFun (F4 (x0 + 1) (by omega)) (12 + 68 * x2 + 5)).trans (congrFun (mset_ne (by omega)) (12 + 68 * x2 + 5))
          refine k_229 hS9 hx0 (by omega) (by omega) (by have u1 := hqq x1 (by omega) (by omega) (by omega); have u2 := hqq x2 (by omega) (by omega) (by omega); omega) (by omega) (fun F5 Q5 hS10 => ?_)
          refine t_272_57 ?_
          have q7 : (g_229 x0 x1 x2 (g_255 x0 (mset d x0 0 0))) (x0 + 1) 0 = d (x0 + 1) 0 := ((Q5 0 (by omega)).trans (congrFun (F4 (x0 + 1) (by omega)) 0)).trans (congrFun (mset_ne (by omega)) 0)
          refine lq_272_59 hx0 p1 p2 (200 - 0 : Int).toNat 0  (g_229 x0 x1 x2 (g_255 x0 (mset d x0 0 0))) hS10 (by omega) (by omega) (mpP.of (mh_7 hS hx0 _ rfl) (show ∀ i : Int, i = 7 ∨ (12 ≤ i ∧ i < 420 ∧ (i - 12) % 68 = 2) → (g_229 x0 x1 x2 (g_255 x0 (mset d x0 0 0))) (x0 + 1) i = d (x0 + 1) i from fun i hi => ((Q5 i (by omega)).trans (congrFun (F4 (x0 + 1) (by omega)) i)).trans (congrFun (mset_ne (by omega)) i)) hmp) (by omega) ?_
          intro F hS_
          have y0 : f_272 x0 x1 x2 d = lp_272_59 x0 x1 x2 (200 - 0 : Int).toNat 0 (g_229 x0 x1 x2 (g_255 x0 (mset d x0 0 0))) := by simp only [f_272, if_neg (show ¬ v_236 x0 x1 d = 0 from c0), if_neg (show ¬ v_236 x0 x2 d = 0 from c1), if_neg (show ¬ v_270 x0 x1 x2 d = 0 from c2), if_neg (show ¬ (0 : Int) < 0 from Int.not_lt.mpr c3)]
          rw [y0] at h
          exact h (fun b hb => (F b hb).trans ((show ∀ b : Int, (b < x0 ∨ x0 + 1 < b) ∧ (b < x0 + 4 ∨ x0 + 4 < b) → (g_229 x0 x1 x2 (g_255 x0 (mset d x0 0 0))) b = d b from fun b hb => (F5 b (by omega)).trans ((F4 b (by omega)).trans (mset_ne (by omega)))) b hb)) hS_
        · exact (show False by omega).elim
    · have hS11 : Safe (mset d x0 0 1) := s_11_f0 hS hx0 (by omega)
      rw [mset_eq (d := d) (a := x0) (i := (0 : Int)) (v := (1 : Int))]
      refine ⟨m_inR (by omega) (by omega), fun c2 => ?_, fun c2 => ?_⟩
      · exact (show False by omega).elim
      · have y0 : f_272 x0 x1 x2 d = (0, mset d x0 0 1) := by simp only [f_272, if_neg (show ¬ v_236 x0 x1 d = 0 from c0), if_pos (show v_236 x0 x2 d = 0 from c1), if_pos (show (0 : Int) < 1 from c2)]
        rw [y0] at h
        exact h (show ∀ b : Int, (b < x0 ∨ x0 + 1 < b) ∧ (b < x0 + 4 ∨ x0 + 4 < b) → (mset d x0 0 1) b = d b from fun b hb => mset_ne (by omega)) hS11
theorem kq_288 {E : mO × tW} {K : tK} {d : mD} {x0 x1 x2 : Int} (hS : Safe d) (hx0 : mdB x0) (p1 : -2147483648 ≤ x1 ∧ x1 ≤ 2147483647) (p2 : -2147483648 ≤ x2 ∧ x2 ≤ 2147483647) (hqq : qoP (d (x0 + 1))) (h : (∀ b : Int, (b < x0 ∨ x0 + 2 < b) → (g_288 x0 x1 x2 d) b = d b) → Safe (g_288 x0 x1 x2 d) → K (.inl (some (0, (v_288 x0 x1 x2 d)))) (g_288 x0 x1 x2 d)) : tCall E 288 [.inr (11, x0), .inl (0, x1), .inl (0, x2)] d K := by
  refine t_288_0 ?_
  have w0 := mh_0 hS hx0 _ rfl
  have w7 := mh_7 hS hx0 _ rfl
  have w8 := mh_8 hS hx0 _ rfl
  have w9 := mh_9 hS hx0 _ rfl
  have w10 := mh_10 hS hx0 _ rfl
  have w11 := mh_11 hS hx0 _ rfl
  refine k_236 hS hx0 (m_inR (by omega) (by omega)) (fun e1 => ?_)
  refine t_288_6 ?_
  refine ⟨m_inR (by omega) (by omega), fun c0 => ?_, fun c0 => ?_⟩
  · have hS1 : Safe (mset d x0 0 1) := s_11_f0 hS hx0 (by omega)
    rw [mset_eq (d := d) (a := x0) (i := (0 : Int)) (v := (1 : Int))]
    refine ⟨m_inR (by omega) (by omega), fun c1 => ?_, fun c1 => ?_⟩
    · exact (show False by omega).elim
    · have y0 : v_288 x0 x1 x2 d = 0 := by simp only [v_288, if_pos (show v_236 x0 x1 d = 0 from c0), if_pos (show (0 : Int) < 1 from c1)]
      have y1 : g_288 x0 x1 x2 d = mset d x0 0 1 := by simp only [g_288, if_pos (show v_236 x0 x1 d = 0 from c0), if_pos (show (0 : Int) < 1 from c1)]
      rw [y0] at h
      rw [y1] at h
      exact h (show ∀ b : Int, (b < x0 ∨ x0 + 2 < b) → (mset d x0 0 1) b = d b from fun b hb => mset_ne (by omega)) hS1
  · refine k_236 hS hx0 (m_inR (by omega) (by omega)) (fun e2 => ?_)
    refine t_288_14 ?_
    refine ⟨m_inR (by omega) (by omega), fun c1 => ?_, fun c1 => ?_⟩
    · refine k_270 hS hx0 (by omega) (by omega) (fun e3 => ?_)
      refine t_288_27 ?_
      refine ⟨m_inR (by omega) (by omega), fun c2 => ?_, fun c2 => ?_⟩
      · have hS2 : Safe (mset d x0 0 2) := s_11_f0 hS hx0 (by omega)
        rw [mset_eq (d := d) (a := x0) (i := (0 : Int)) (v := (2 : Int))]
        refine ⟨m_inR (by omega) (by omega), fun c3 => ?_, fun c3 => ?_⟩
        · exact (show False by omega).elim
        · have y0 : v_288 x0 x1 x2 d = 0 := by simp only [v_288, if_neg (show ¬ v_236 x0 x1 d = 0 from c0), if_neg (show ¬ v_236 x0 x2 d = 0 from c1), if_pos (show v_270 x0 x1 x2 d = 0 from c2), if_pos (show (0 : Int) < 2 from c3)]
          have y1 : g_288 x0 x1 x2 d = mset d x0 0 2 := by simp only [g_288, if_neg (show ¬ v_236 x0 x1 d = 0 from c0), if_neg (show ¬ v_236 x0 x2 d = 0 from c1), if_pos (show v_270 x0 x1 x2 d = 0 from c2), if_pos (show (0 : Int) < 2 from c3)]
          rw [y0] at h
          rw [y1] at h
          exact h (show ∀ b : Int, (b < x0 ∨ x0 + 2 < b) → (mset d x0 0 2) b = d b from fun b hb => mset_ne (by omega)) hS2
      · have hS3 : Safe (mset d x0 0 0) := s_11_f0 hS hx0 (by omega)
        rw [mset_eq (d := d) (a := x0) (i := (0 : Int)) (v := (0 : Int))]
        refine ⟨m_inR (by omega) (by omega), fun c3 => ?_, fun c3 => ?_⟩
        · refine k_278 hS3 hx0 (fun F1 hS4 => ?_)
          refine t_288_51 ?_
          have q1 : (g_278 x0 (mset d x0 0 0)) (x0 + 1) (12 + 68 * x1 + 5) = d (x0 + 1) (12 + 68 * x1 + 5) := (congrFun (F1 (x0 + 1) (by omega)) (12 + 68 * x1 + 5)).trans (congrFun (mset_ne (by omega)) (12 + 68 * x1 + 5))
          have q2 : (g_278 x0 (mset d x0 0 0)) (x0 + 1) (12 + 68 * x2 + 5) = d (x0 + 1) (12 + 68 * x2 + 5) := (congrFun (F1 (x0 + 1) (by omega)) (12 + 68 * x2 + 5)).trans (congrFun (mset_ne (by omega)) (12 + 68 * x2 + 5))
          refine k_229 hS4 hx0 (by omega) (by omega) (by have u1 := hqq x1 (by omega) (by omega) (by omega); have u2 := hqq x2 (by omega) (by omega) (by omega); omega) (by omega) (fun F2 Q2 hS5 => ?_)
          refine t_288_57 ?_
          refine k_177 hS5 ?_
          refine t_288_65 ?_
          have q3 := mo_5 hS5 hx0 x2 ((12 + (68 * x2)) + 5) (by omega) (by omega)
          refine ⟨by omega, ?_⟩
          have y0 : v_288 x0 x1 x2 d = (g_229 x0 x1 x2 (g_278 x0 (mset d x0 0 0))) (x0 + 1) ((12 + (68 * x2)) + 5) := by simp only [v_288, if_neg (show ¬ v_236 x0 x1 d = 0 from c0), if_neg (show ¬ v_236 x0 x2 d = 0 from c1), if_neg (show ¬ v_270 x0 x1 x2 d = 0 from c2), if_neg (show ¬ (0 : Int) < 0 from Int.not_lt.mpr c3)]
          have y1 : g_288 x0 x1 x2 d = g_229 x0 x1 x2 (g_278 x0 (mset d x0 0 0)) := by simp only [g_288, if_neg (show ¬ v_236 x0 x1 d = 0 from c0), if_neg (show ¬ v_236 x0 x2 d = 0 from c1), if_neg (show ¬ v_270 x0 x1 x2 d = 0 from c2), if_neg (show ¬ (0 : Int) < 0 from Int.not_lt.mpr c3)]
          rw [y0] at h
          rw [y1] at h
          exact h (show ∀ b : Int, (b < x0 ∨ x0 + 2 < b) → (g_229 x0 x1 x2 (g_278 x0 (mset d x0 0 0))) b = d b from fun b hb => (F2 b (by omega)).trans ((F1 b (by omega)).trans (mset_ne (by omega)))) hS5
        · exact (show False by omega).elim
    · have hS6 : Safe (mset d x0 0 1) := s_11_f0 hS hx0 (by omega)
      rw [mset_eq (d := d) (a := x0) (i := (0 : Int)) (v := (1 : Int))]
      refine ⟨m_inR (by omega) (by omega), fun c2 => ?_, fun c2 => ?_⟩
      · exact (show False by omega).elim
      · have y0 : v_288 x0 x1 x2 d = 0 := by simp only [v_288, if_neg (show ¬ v_236 x0 x1 d = 0 from c0), if_pos (show v_236 x0 x2 d = 0 from c1), if_pos (show (0 : Int) < 1 from c2)]
        have y1 : g_288 x0 x1 x2 d = mset d x0 0 1 := by simp only [g_288, if_neg (show ¬ v_236 x0 x1 d = 0 from c0), if_pos (show v_236 x0 x2 d = 0 from c1), if_pos (show (0 : Int) < 1 from c2)]
        rw [y0] at h
        rw [y1] at h
        exact h (show ∀ b : Int, (b < x0 ∨ x0 + 2 < b) → (mset d x0 0 1) b = d b from fun b hb => mset_ne (by omega)) hS6
/-! ===== load keeps the rows' two witnesses ===== -/
theorem safe207 {E : mO × tW} {d e2 : mD} (hT : TKL E) (hS : Safe d) (hh : tSh E.2 d) (a1 : ∀ b, ¬ b = 769 → ¬ b = 774 → e2 b = d b) (a2 : ∀ j, ¬ j = 11 → ¬ j = 12 → e2 769 j = d 769 j) (a3 : e2 769 11 = 0 ∧ e2 769 12 = -1) (a4 : ∀ i, 0 ≤ i → i < 3116 → e2 774 i = d 770 i) (a5 : ∀ i, 3116 ≤ i → e2 774 i = d 774 i) : Safe e2 ∧ tSh E.2 e2 := by
  have hS1 : Safe (mset (mset d 769 11 0) 769 12 (-1)) := s_11_f12 (s_11_f11 hS rfl (by decide)) rfl (by decide)
  have k11 : E.2.1 769 = ((715 / 64 : Nat) : Int) := tobj (hT.t 11 769 (by decide)) (by decide)
  have hh1 : tSh E.2 (mset (mset d 769 11 0) 769 12 (-1)) := (hh.setF (g := 715) (v := 0) k11 (by decide) (by decide)).setF (g := 716) (v := -1) k11 (by decide) (by decide)
  have e9 : e2 769 = mset (mset d 769 11 0) 769 12 (-1) 769 := by
    funext j
    by_cases c : j = 12
    · rw [ms_e rfl c, c]
      exact a3.2
    · rw [ms_i c]
      by_cases c2 : j = 11
      · rw [ms_e rfl c2, c2]
        exact a3.1
      · rw [ms_i c2]
        exact a2 j c2 c
  have eo : ∀ b, b ≠ 774 → e2 b = mset (mset d 769 11 0) 769 12 (-1) b := fun b hb => by
    by_cases c : b = 769
    · rw [c]; exact e9
    · rw [a1 b c hb]
      funext j
      rw [ms_a c, ms_a c]
  generalize mset (mset d 769 11 0) 769 12 (-1) = u at *
  refine ⟨fun a i h0 => ?_, ?_⟩
  · by_cases c : a = 774
    · rw [c]
      by_cases q : i < 3116
      · rw [a4 i h0 q]
        have := hS 770 i h0
        exact this
      · rw [a5 i (by omega)]
        exact hS 774 i h0
    · rw [eo a c]
      exact hS1 a i h0
  · obtain ⟨p1, p2⟩ := hh.1 769 709 (by decide) (by decide) k11 (by decide)
    have p2 : tokV E.2 (.inr (25, 774)) := p2
    exact hh1.oth (t := 25) p2.2.1 (by decide) (by decide) eo
theorem rpLoad {E : mO × tW} {d : mD} (hT : TKL E) (hI : Inv E d) (hS1 : Safe (g_303 0 778 d)) (hh1 : tSh E.2 (g_303 0 778 d)) (hf : ∀ b, 642 < b → ¬ b = 778 → g_303 0 778 d b = d b) (r : RP d) (he : ER (g_207 769 (g_303 0 778 d))) : RP (g_207 769 (g_303 0 778 d)) := by
  refine ⟨?_, he⟩
  clear he
  obtain ⟨hS, hh, hi⟩ := hI
  have h70 := hf 770 (by decide) (by decide)
  have h71 := hf 771 (by decide) (by decide)
  have h72 := hf 772 (by decide) (by decide)
  have h75 := hf 775 (by decide) (by decide)
  have h69 := hf 769 (by decide) (by decide)
  have h76 := hf 776 (by decide) (by decide)
  generalize g_303 0 778 d = D at *
  obtain ⟨e2, a1, a2, a3, a4, a6, a5⟩ := f207 (d := D)
  obtain ⟨s1, s2⟩ := safe207 hT hS1 hh1 a1 a2 a3 a4 a6
  have ht : TextR d e2 := hi.2.2.2.fr rfl rfl (by rw [a2 9 (by decide) (by decide), h69]) (by rw [a1 776 (by decide) (by decide), h76])
  obtain ⟨p1, p2, p3, p4, p5, p6, p7⟩ := p_206 (E := E) (x0 := 769) s1 rfl ⟨hT.t 11 769 (by decide), trivial⟩ s2
  unfold g_207
  rw [a5]
  by_cases c : g_206 769 e2 769 13 = 0
  · rw [if_pos c]
    dsimp only
    refine RW.new ?_ ?_ ?_ ?_
    · have e : mset (mset (mset (mset (mset (g_206 769 e2) 769 9 0) 769 0 0) 769 7 0) 775 0 0) 775 1 0 770 = g_206 769 e2 770 := by
        funext j
        rw [ms_a (by decide), ms_a (by decide), ms_a (by decide), ms_a (by decide), ms_a (by decide)]
      rw [e]
      exact p5
    · rw [ms_a (by decide), ms_a (by decide), ms_e rfl rfl]
    · rw [ms_i (by decide), ms_e rfl rfl]
    · exact ms_e rfl rfl
  · rw [if_neg c]
    obtain ⟨Z, b1, b2, b3⟩ := back207 (d := mset (mset (g_206 769 e2) 769 9 0) 769 0 1)
    rw [b1]
    dsimp only
    have z : ∀ b, ¬ b = 769 → ¬ b = 770 → Z b = g_206 769 e2 b := fun b x y => by
      rw [b2 b y]
      funext j
      rw [ms_a x, ms_a x]
    have q7 : g_206 769 e2 769 7 = d 769 7 := by
      obtain ⟨D', l1, -⟩ := loadAll hT.1 hT.k (y := 778) ht hS hh
      rw [l1.2.2 7 (by decide), a2 7 (by decide) (by decide), h69]
    refine r.1.q (fun i x y => ?_) ?_ (fun b hb => ?_)
    · rw [b3 i x y, ms_a (by decide), ms_a (by decide), p2 774 (by decide), a4 i x y, h70]
    · rw [b2 769 (by decide), ms_i (by decide), ms_i (by decide), q7]
    · rw [z b (by omega) (by omega), p2 b (by omega), a1 b (by omega) (by omega)]
      rcases hb with hb | hb | hb
      · rw [hb]; exact h71
      · rw [hb]; exact h72
      · rw [hb]; exact h75
/-! ===== after each call: in step again (the pieces printed by a program of mine) ===== -/
theorem pq_268 {E : mO × tW} {d : mD} {x0 x1 : Int} (hS : Safe d) (hx0 : mdB x0) (p1 : -2147483648 ≤ x1 ∧ x1 ≤ 2147483647) (hmp : mpP (d (x0 + 1))) (ht : d (x0 + 1) 0 ≤ 999) (hqq : qoP (d (x0 + 1))) (hn : d (x0 + 1) 9 ≤ 60) (ha : tokL E.2 [.inr (11, x0), .inl (0, x1)]) (hh : tSh E.2 d) : tSh E.2 (g_268 x0 x1 d) ∧ ((∀ b : Int, (b < x0 ∨ x0 + 1 < b) ∧ (b < x0 + 4 ∨ x0 + 4 < b) → (g_268 x0 x1 d) b = d b)) ∧ (Safe (g_268 x0 x1 d)) :=
  tAdq (E := E) ha hh (kq_268 hS hx0 p1 hmp ht hqq hn (fun z0 z1 => fun hsh => ⟨hsh, z0, z1⟩))
theorem pq_269 {E : mO × tW} {d : mD} {x0 : Int} (hS : Safe d) (hx0 : mdB x0) (hmp : mpP (d (x0 + 1))) (ht : d (x0 + 1) 0 ≤ 999) (hqq : qoP (d (x0 + 1))) (hn : d (x0 + 1) 9 ≤ 60) (ha : tokL E.2 [.inr (11, x0)]) (hh : tSh E.2 d) : tSh E.2 (g_269 x0 d) ∧ ((∀ b : Int, (b < x0 ∨ x0 + 1 < b) ∧ (b < x0 + 4 ∨ x0 + 4 < b) → (g_269 x0 d) b = d b)) ∧ (Safe (g_269 x0 d)) :=
  tAdq (E := E) ha hh (kq_269 hS hx0 hmp ht hqq hn (fun z0 z1 => fun hsh => ⟨hsh, z0, z1⟩))
theorem pq_272 {E : mO × tW} {d : mD} {x0 x1 x2 : Int} (hS : Safe d) (hx0 : mdB x0) (p1 : -2147483648 ≤ x1 ∧ x1 ≤ 2147483647) (p2 : -2147483648 ≤ x2 ∧ x2 ≤ 2147483647) (hmp : mpP (d (x0 + 1))) (ht : d (x0 + 1) 0 ≤ 999) (hqq : qoP (d (x0 + 1))) (ha : tokL E.2 [.inr (11, x0), .inl (0, x1), .inl (0, x2)]) (hh : tSh E.2 d) : tSh E.2 (g_272 x0 x1 x2 d) ∧ ((∀ b : Int, (b < x0 ∨ x0 + 1 < b) ∧ (b < x0 + 4 ∨ x0 + 4 < b) → (g_272 x0 x1 x2 d) b = d b)) ∧ (Safe (g_272 x0 x1 x2 d)) :=
  tAdq (E := E) ha hh (kq_272 hS hx0 p1 p2 hmp ht hqq (fun z0 z1 => fun hsh => ⟨hsh, z0, z1⟩))
theorem pq_288 {E : mO × tW} {d : mD} {x0 x1 x2 : Int} (hS : Safe d) (hx0 : mdB x0) (p1 : -2147483648 ≤ x1 ∧ x1 ≤ 2147483647) (p2 : -2147483648 ≤ x2 ∧ x2 ≤ 2147483647) (hqq : qoP (d (x0 + 1))) (ha : tokL E.2 [.inr (11, x0), .inl (0, x1), .inl (0, x2)]) (hh : tSh E.2 d) : tSh E.2 (g_288 x0 x1 x2 d) ∧ ((∀ b : Int, (b < x0 ∨ x0 + 2 < b) → (g_288 x0 x1 x2 d) b = d b)) ∧ (Safe (g_288 x0 x1 x2 d)) :=
  tAdq (E := E) ha hh (kq_288 hS hx0 p1 p2 hqq (fun z0 z1 => fun hsh => ⟨hsh, z0, z1⟩))
def Inv2 (E : mO × tW) (d : mD) : Prop := Inv E d ∧ RP d
theorem n7691 : (769 : Int) + 1 = 770 := by decide
theorem qoI {w : Row} (hg : GG w) : qoP w := fun o a _ c => Int.le_trans (hg.2.1 o a c).2.2.2.2.1.2 (by decide)
theorem rkI {w : Row} (hg : GG w) : rkP w := Int.le_of_eq hg.2.2.2.2.2.2.1
theorem puI {d : mD} {p : Int} (h : OKR 1 d (d 770)) : puR 0 p d := by
  by_cases c : 0 ≤ p ∧ p < d 770 8
  · have := purse h.1 h.2.2.1 h.2.2.2.2 c.1 c.2
    have : 0 ≤ d 13 p ∧ d 13 p ≤ 19800 := this
    refine Or.inr (Or.inr ?_)
    rw [n01, show (1 : Int) + 10 = 11 by decide, show (11 : Int) + 2 = 13 by decide]
    omega
  · have o8 : d 11 0 = d 770 8 := h.2.2.2.2.2.2.2.1.1
    unfold puR
    rw [n01, show (1 : Int) + 10 = 11 by decide, o8]
    omega
theorem hwqI {d D : mD} {t : Int} (h : OKR 1 d (d 770)) (e : D 770 = d 770) : t < 0 ∨ D (769 + 1) 9 ≤ t ∨ ¬ D (769 + 1) (452 + 24 * t + 4) = 0 ∨ (0 ≤ v_221 769 t D ∧ 1 ≤ D (769 + 1) (12 + 68 * D (769 + 1) (452 + 24 * t + 1) + 5)) := by
  rw [n7691, m_v_221, e]
  by_cases c : 0 ≤ t ∧ t < d 770 9
  · by_cases c2 : d 770 (452 + 24 * t + 4) = 0
    · obtain ⟨-, p2, p3, -⟩ := placeIn h.1 h.2.2.2.2 c c2
      exact Or.inr (Or.inr (Or.inr ⟨p2, by omega⟩))
    · exact Or.inr (Or.inr (Or.inl c2))
  · omega
theorem opLoad {E : mO × tW} {d : mD} (hT : TKL E) (hI : Inv E d) : OPR d (g_303 0 778 d) (g_207 769 (g_303 0 778 d)) (v_303 0 778 d) (v_207 769 (g_303 0 778 d)) := by
  obtain ⟨hS, hh, hi⟩ := id hI
  obtain ⟨p1, p2, p3, p4⟩ := p_303 (E := E) (x0 := 0) (x1 := 778) hT.1 hT.2.1 hS rfl rfl ⟨hT.t 10 0 (by decide), hT.t 30 778 (by decide), trivial⟩ hh
  have hf : ∀ b, 642 < b → ¬ b = 778 → g_303 0 778 d b = d b := fun b x y => p3 b (by omega)
  obtain ⟨q1, q2, -, q4⟩ := load303 hT.1 hT.k hi hS hh hf hi.2.1.1
  refine ⟨q2, ?_, fun z => ?_, fun r => rpLoad hT hI p4 p1 hf r q4⟩
  · rcases q1 with ⟨a, b, c, e⟩ | ⟨a, b⟩
    · omega
    · omega
  · rcases q1 with ⟨a, b, c, e⟩ | ⟨a, b⟩
    · exact ⟨b.symm, inI.of (by omega)⟩
    · omega
theorem iv_0 {E : mO × tW} {d : mD} {a0 : Int} {a1 : Int} {a2 : Int} {a3 : Int} {a4 : Int} (hT : TKL E) (h : Inv2 E d) (h0 : inI a0) (h1 : inI a1) (h2 : inI a2) (h3 : inI a3) (h4 : inI a4) : Safe (g_301 0 a0 a1 a2 a3 a4 778 d) ∧ (g_301 0 a0 a1 a2 a3 a4 778 d) 770 = d 770 ∧ Inv2 E (g_186 769 a0 a1 a2 a3 a4 (g_301 0 a0 a1 a2 a3 a4 778 d)) ∧ (g_186 769 a0 a1 a2 a3 a4 (g_301 0 a0 a1 a2 a3 a4 778 d)) 778 = (g_301 0 a0 a1 a2 a3 a4 778 d) 778 ∧ (0 ≤ (v_301 0 a0 a1 a2 a3 a4 778 d) ∧ (v_301 0 a0 a1 a2 a3 a4 778 d) ≤ 3) ∧ OPR d (g_301 0 a0 a1 a2 a3 a4 778 d) (g_186 769 a0 a1 a2 a3 a4 (g_301 0 a0 a1 a2 a3 a4 778 d)) (v_301 0 a0 a1 a2 a3 a4 778 d) (v_186 769 a0 a1 a2 a3 a4 (g_301 0 a0 a1 a2 a3 a4 778 d)) := by
  have hg := h.1.2.2.1.1
  have pw := p_301 (E := E) (d := d) (x0 := 0) (x1 := a0) (x2 := a1) (x3 := a2) (x4 := a3) (x5 := a4) (x6 := 778) h.1.1 rfl rfl h0 h1 h2 h3 h4 ⟨hT.t 10 0 (by decide), trivial, trivial, trivial, trivial, trivial, hT.t 30 778 (by decide), trivial⟩ h.1.2.1
  have hS1 := pw.2.2.2
  have hh1 := pw.1
  have F1 := pw.2.2.1
  have e70 : (g_301 0 a0 a1 a2 a3 a4 778 d) 770 = d 770 := F1 770 (by decide)
  have pr := p_186 (E := E) (d := (g_301 0 a0 a1 a2 a3 a4 778 d)) (x0 := 769) (x1 := a0) (x2 := a1) (x3 := a2) (x4 := a3) (x5 := a4) hS1 rfl h0 h1 h2 h3 h4 ⟨hT.t 11 769 (by decide), trivial, trivial, trivial, trivial, trivial, trivial⟩ hh1
  have hS2 := pr.2.2.2
  have hh2 := pr.1
  have e78 : (g_186 769 a0 a1 a2 a3 a4 (g_301 0 a0 a1 a2 a3 a4 778 d)) 778 = (g_301 0 a0 a1 a2 a3 a4 778 d) 778 := pr.2.2.1 778 (by decide)
  have rv := pw.2.1
  have op : OPR d (g_301 0 a0 a1 a2 a3 a4 778 d) (g_186 769 a0 a1 a2 a3 a4 (g_301 0 a0 a1 a2 a3 a4 778 d)) (v_301 0 a0 a1 a2 a3 a4 778 d) (v_186 769 a0 a1 a2 a3 a4 (g_301 0 a0 a1 a2 a3 a4 778 d)) := opApp h.1.2.2
  exact ⟨hS1, e70, ⟨⟨hS2, hh2, op.1⟩, op.2.2.2 h.2⟩, e78, rv, op⟩
theorem iv_1 {E : mO × tW} {d : mD} {a0 : Int} (hT : TKL E) (h : Inv2 E d) (h0 : inI a0) : Safe (g_302 0 a0 778 d) ∧ (g_302 0 a0 778 d) 770 = d 770 ∧ Inv2 E (g_187 769 a0 (g_302 0 a0 778 d)) ∧ (g_187 769 a0 (g_302 0 a0 778 d)) 778 = (g_302 0 a0 778 d) 778 ∧ (0 ≤ (v_302 0 a0 778 d) ∧ (v_302 0 a0 778 d) ≤ 3) ∧ OPR d (g_302 0 a0 778 d) (g_187 769 a0 (g_302 0 a0 778 d)) (v_302 0 a0 778 d) (v_187 769 a0 (g_302 0 a0 778 d)) := by
  have hg := h.1.2.2.1.1
  have pw := p_302 (E := E) (d := d) (x0 := 0) (x1 := a0) (x2 := 778) h.1.1 rfl rfl h0 ⟨hT.t 10 0 (by decide), trivial, hT.t 30 778 (by decide), trivial⟩ h.1.2.1
  have hS1 := pw.2.2.2
  have hh1 := pw.1
  have F1 := pw.2.2.1
  have e70 : (g_302 0 a0 778 d) 770 = d 770 := F1 770 (by decide)
  have pr := p_187 (E := E) (d := (g_302 0 a0 778 d)) (x0 := 769) (x1 := a0) hS1 rfl h0 ⟨hT.t 11 769 (by decide), trivial, trivial⟩ hh1
  have hS2 := pr.2.2.2
  have hh2 := pr.1
  have e78 : (g_187 769 a0 (g_302 0 a0 778 d)) 778 = (g_302 0 a0 778 d) 778 := pr.2.2.1 778 (by decide)
  have rv := pw.2.1
  have op : OPR d (g_302 0 a0 778 d) (g_187 769 a0 (g_302 0 a0 778 d)) (v_302 0 a0 778 d) (v_187 769 a0 (g_302 0 a0 778 d)) := opTrunc h.1.2.2
  exact ⟨hS1, e70, ⟨⟨hS2, hh2, op.1⟩, op.2.2.2 h.2⟩, e78, rv, op⟩
theorem iv_2 {E : mO × tW} {d : mD}  (hT : TKL E) (h : Inv2 E d) : Safe (g_303 0 778 d) ∧ (g_303 0 778 d) 770 = d 770 ∧ Inv2 E (g_207 769 (g_303 0 778 d)) ∧ (g_207 769 (g_303 0 778 d)) 778 = (g_303 0 778 d) 778 ∧ (0 ≤ (v_303 0 778 d) ∧ (v_303 0 778 d) ≤ 3) ∧ OPR d (g_303 0 778 d) (g_207 769 (g_303 0 778 d)) (v_303 0 778 d) (v_207 769 (g_303 0 778 d)) := by
  have hg := h.1.2.2.1.1
  have pw := p_303 (E := E) (d := d) (x0 := 0) (x1 := 778) hT.1 hT.2.1 h.1.1 rfl rfl ⟨hT.t 10 0 (by decide), hT.t 30 778 (by decide), trivial⟩ h.1.2.1
  have hS1 := pw.2.2.2
  have hh1 := pw.1
  have F1 := pw.2.2.1
  have e70 : (g_303 0 778 d) 770 = d 770 := F1 770 (by decide)
  have pr := p_207 (E := E) (d := (g_303 0 778 d)) (x0 := 769) hS1 rfl ⟨hT.t 11 769 (by decide), trivial⟩ hh1
  have hS2 := pr.2.2
  have hh2 := pr.1
  have e78 : (g_207 769 (g_303 0 778 d)) 778 = (g_303 0 778 d) 778 := pr.2.1 778 (by decide)
  have rv := pw.2.1
  have op : OPR d (g_303 0 778 d) (g_207 769 (g_303 0 778 d)) (v_303 0 778 d) (v_207 769 (g_303 0 778 d)) := opLoad hT h.1
  exact ⟨hS1, e70, ⟨⟨hS2, hh2, op.1⟩, op.2.2.2 h.2⟩, e78, rv, op⟩
theorem iv_3 {E : mO × tW} {d : mD}  (hT : TKL E) (h : Inv2 E d) : Safe d ∧ d 770 = d 770 ∧ Inv2 E (g_208 769 d) ∧ (g_208 769 d) 778 = d 778 := by
  have hg := h.1.2.2.1.1
  have hS1 := h.1.1
  have hh1 := h.1.2.1
  have e70 : d 770 = d 770 := rfl
  have pr := p_208 (E := E) (d := d) (x0 := 769) hS1 rfl ⟨hT.t 11 769 (by decide), trivial⟩ hh1
  have hS2 := pr.2.2
  have hh2 := pr.1
  have e78 : (g_208 769 d) 778 = d 778 := pr.2.1 778 (by decide)
  have q : QR d (g_208 769 d) := q_208.qr
  exact ⟨hS1, e70, ⟨⟨hS2, hh2, h.1.2.2.qr (fun _ _ _ _ => rfl) q⟩, q.rp h.2 rfl rfl (fun _ _ => rfl)⟩, e78⟩
theorem iv_4 {E : mO × tW} {d : mD}  (hT : TKL E) (h : Inv2 E d) : Safe d ∧ d 770 = d 770 ∧ Inv2 E (g_209 769 d) ∧ (g_209 769 d) 778 = d 778 := by
  have hg := h.1.2.2.1.1
  have hS1 := h.1.1
  have hh1 := h.1.2.1
  have e70 : d 770 = d 770 := rfl
  have pr := p_209 (E := E) (d := d) (x0 := 769) hS1 rfl ⟨hT.t 11 769 (by decide), trivial⟩ hh1
  have hS2 := pr.2.2
  have hh2 := pr.1
  have e78 : (g_209 769 d) 778 = d 778 := pr.2.1 778 (by decide)
  have q : QR d (g_209 769 d) := q_209.qr
  exact ⟨hS1, e70, ⟨⟨hS2, hh2, h.1.2.2.qr (fun _ _ _ _ => rfl) q⟩, q.rp h.2 rfl rfl (fun _ _ => rfl)⟩, e78⟩
theorem iv_5 {E : mO × tW} {d : mD} {a0 : Int} (hT : TKL E) (h : Inv2 E d) (h0 : 0 ≤ a0 ∧ a0 ≤ 1) : Safe (g_304 0 a0 778 d) ∧ (g_304 0 a0 778 d) 770 = d 770 ∧ Inv2 E (g_211 769 a0 (g_304 0 a0 778 d)) ∧ (g_211 769 a0 (g_304 0 a0 778 d)) 778 = (g_304 0 a0 778 d) 778 ∧ (0 ≤ (v_304 0 a0 778 d) ∧ (v_304 0 a0 778 d) ≤ 3) ∧ OPR d (g_304 0 a0 778 d) (g_211 769 a0 (g_304 0 a0 778 d)) (v_304 0 a0 778 d) (v_211 769 a0 (g_304 0 a0 778 d)) := by
  have hg := h.1.2.2.1.1
  have pw := p_304 (E := E) (d := d) (x0 := 0) (x1 := a0) (x2 := 778) h.1.1 rfl rfl ⟨by omega, by omega⟩ ⟨hT.t 10 0 (by decide), trivial, hT.t 30 778 (by decide), trivial⟩ h.1.2.1
  have hS1 := pw.2.2.2
  have hh1 := pw.1
  have F1 := pw.2.2.1
  have e70 : (g_304 0 a0 778 d) 770 = d 770 := F1 770 (by decide)
  have pr := p_211 (E := E) (d := (g_304 0 a0 778 d)) (x0 := 769) (x1 := a0) hS1 rfl h0 ⟨hT.t 11 769 (by decide), trivial, trivial⟩ hh1
  have hS2 := pr.2.2
  have hh2 := pr.1
  have e78 : (g_211 769 a0 (g_304 0 a0 778 d)) 778 = (g_304 0 a0 778 d) 778 := pr.2.1 778 (by decide)
  have rv := pw.2.1
  have op : OPR d (g_304 0 a0 778 d) (g_211 769 a0 (g_304 0 a0 778 d)) (v_304 0 a0 778 d) (v_211 769 a0 (g_304 0 a0 778 d)) := opFind h.1.2.2
  exact ⟨hS1, e70, ⟨⟨hS2, hh2, op.1⟩, op.2.2.2 h.2⟩, e78, rv, op⟩
theorem iv_6 {E : mO × tW} {d : mD} {a0 : Int} (hT : TKL E) (h : Inv2 E d) (h0 : inI a0) : Safe (g_305 0 a0 778 d) ∧ (g_305 0 a0 778 d) 770 = d 770 ∧ Inv2 E (g_239 769 a0 (g_305 0 a0 778 d)) ∧ (g_239 769 a0 (g_305 0 a0 778 d)) 778 = (g_305 0 a0 778 d) 778 ∧ (0 ≤ (v_305 0 a0 778 d) ∧ (v_305 0 a0 778 d) ≤ 3) := by
  have hg := h.1.2.2.1.1
  have pw := p_305 (E := E) (d := d) (x0 := 0) (x1 := a0) (x2 := 778) h.1.1 rfl rfl h0 ⟨hT.t 10 0 (by decide), trivial, hT.t 30 778 (by decide), trivial⟩ h.1.2.1
  have hS1 := pw.2.2.2
  have hh1 := pw.1
  have F1 := pw.2.2.1
  have e70 : (g_305 0 a0 778 d) 770 = d 770 := F1 770 (by decide)
  have pr := p_239 (E := E) (d := (g_305 0 a0 778 d)) (x0 := 769) (x1 := a0) hS1 rfl h0 ⟨hT.t 11 769 (by decide), trivial, trivial⟩ hh1
  have hS2 := pr.2.2
  have hh2 := pr.1
  have e78 : (g_239 769 a0 (g_305 0 a0 778 d)) 778 = (g_305 0 a0 778 d) 778 := pr.2.1 778 (by decide)
  have rv := pw.2.1
  have q : QR (g_305 0 a0 778 d) (g_239 769 a0 (g_305 0 a0 778 d)) := q_239.qr
  have c : QC d (g_305 0 a0 778 d) := fun b x y z => F1 b (by omega)
  exact ⟨hS1, e70, ⟨⟨hS2, hh2, h.1.2.2.qr c q⟩, q.rp h.2 e70 (by rw [F1 769 (by decide)]) (fun b hb => F1 b (by omega))⟩, e78, rv⟩
theorem iv_7 {E : mO × tW} {d : mD} {a0 : Int} (hT : TKL E) (h : Inv2 E d) (h0 : inI a0) : Safe (g_306 0 a0 778 d) ∧ (g_306 0 a0 778 d) 770 = d 770 ∧ Inv2 E (g_240 769 a0 (g_306 0 a0 778 d)) ∧ (g_240 769 a0 (g_306 0 a0 778 d)) 778 = (g_306 0 a0 778 d) 778 ∧ (0 ≤ (v_306 0 a0 778 d) ∧ (v_306 0 a0 778 d) ≤ 3) := by
  have hg := h.1.2.2.1.1
  have pw := p_306 (E := E) (d := d) (x0 := 0) (x1 := a0) (x2 := 778) h.1.1 rfl rfl h0 ⟨hT.t 10 0 (by decide), trivial, hT.t 30 778 (by decide), trivial⟩ h.1.2.1
  have hS1 := pw.2.2.2
  have hh1 := pw.1
  have F1 := pw.2.2.1
  have e70 : (g_306 0 a0 778 d) 770 = d 770 := F1 770 (by decide)
  have pr := p_240 (E := E) (d := (g_306 0 a0 778 d)) (x0 := 769) (x1 := a0) hS1 rfl h0 ⟨hT.t 11 769 (by decide), trivial, trivial⟩ hh1
  have hS2 := pr.2.2
  have hh2 := pr.1
  have e78 : (g_240 769 a0 (g_306 0 a0 778 d)) 778 = (g_306 0 a0 778 d) 778 := pr.2.1 778 (by decide)
  have rv := pw.2.1
  have q : QR (g_306 0 a0 778 d) (g_240 769 a0 (g_306 0 a0 778 d)) := q_240.qr
  have c : QC d (g_306 0 a0 778 d) := fun b x y z => F1 b (by omega)
  exact ⟨hS1, e70, ⟨⟨hS2, hh2, h.1.2.2.qr c q⟩, q.rp h.2 e70 (by rw [F1 769 (by decide)]) (fun b hb => F1 b (by omega))⟩, e78, rv⟩
theorem iv_8 {E : mO × tW} {d : mD} {a0 : Int} {a1 : Int} (hT : TKL E) (h : Inv2 E d) (h0 : inI a0) (h1 : inI a1) : Safe (g_307 0 a0 a1 778 d) ∧ (g_307 0 a0 a1 778 d) 770 = d 770 ∧ Inv2 E (g_241 769 a0 a1 (g_307 0 a0 a1 778 d)) ∧ (g_241 769 a0 a1 (g_307 0 a0 a1 778 d)) 778 = (g_307 0 a0 a1 778 d) 778 ∧ (0 ≤ (v_307 0 a0 a1 778 d) ∧ (v_307 0 a0 a1 778 d) ≤ 3) := by
  have hg := h.1.2.2.1.1
  have pw := p_307 (E := E) (d := d) (x0 := 0) (x1 := a0) (x2 := a1) (x3 := 778) h.1.1 rfl rfl h0 h1 ⟨hT.t 10 0 (by decide), trivial, trivial, hT.t 30 778 (by decide), trivial⟩ h.1.2.1
  have hS1 := pw.2.2.2
  have hh1 := pw.1
  have F1 := pw.2.2.1
  have e70 : (g_307 0 a0 a1 778 d) 770 = d 770 := F1 770 (by decide)
  have pr := p_241 (E := E) (d := (g_307 0 a0 a1 778 d)) (x0 := 769) (x1 := a0) (x2 := a1) hS1 rfl h0 h1 ⟨hT.t 11 769 (by decide), trivial, trivial, trivial⟩ hh1
  have hS2 := pr.2.2
  have hh2 := pr.1
  have e78 : (g_241 769 a0 a1 (g_307 0 a0 a1 778 d)) 778 = (g_307 0 a0 a1 778 d) 778 := pr.2.1 778 (by decide)
  have rv := pw.2.1
  have q : QR (g_307 0 a0 a1 778 d) (g_241 769 a0 a1 (g_307 0 a0 a1 778 d)) := q_241.qr
  have c : QC d (g_307 0 a0 a1 778 d) := fun b x y z => F1 b (by omega)
  exact ⟨hS1, e70, ⟨⟨hS2, hh2, h.1.2.2.qr c q⟩, q.rp h.2 e70 (by rw [F1 769 (by decide)]) (fun b hb => F1 b (by omega))⟩, e78, rv⟩
theorem iv_9 {E : mO × tW} {d : mD} {a0 : Int} {a1 : Int} (hT : TKL E) (h : Inv2 E d) (h0 : inI a0) (h1 : inI a1) : Safe (g_308 0 a0 a1 778 d) ∧ (g_308 0 a0 a1 778 d) 770 = d 770 ∧ Inv2 E (g_242 769 a0 a1 (g_308 0 a0 a1 778 d)) ∧ (g_242 769 a0 a1 (g_308 0 a0 a1 778 d)) 778 = (g_308 0 a0 a1 778 d) 778 ∧ (0 ≤ (v_308 0 a0 a1 778 d) ∧ (v_308 0 a0 a1 778 d) ≤ 3) := by
  have hg := h.1.2.2.1.1
  have pw := p_308 (E := E) (d := d) (x0 := 0) (x1 := a0) (x2 := a1) (x3 := 778) h.1.1 rfl rfl h0 h1 ⟨hT.t 10 0 (by decide), trivial, trivial, hT.t 30 778 (by decide), trivial⟩ h.1.2.1
  have hS1 := pw.2.2.2
  have hh1 := pw.1
  have F1 := pw.2.2.1
  have e70 : (g_308 0 a0 a1 778 d) 770 = d 770 := F1 770 (by decide)
  have pr := p_242 (E := E) (d := (g_308 0 a0 a1 778 d)) (x0 := 769) (x1 := a0) (x2 := a1) hS1 rfl h0 h1 ⟨hT.t 11 769 (by decide), trivial, trivial, trivial⟩ hh1
  have hS2 := pr.2.2
  have hh2 := pr.1
  have e78 : (g_242 769 a0 a1 (g_308 0 a0 a1 778 d)) 778 = (g_308 0 a0 a1 778 d) 778 := pr.2.1 778 (by decide)
  have rv := pw.2.1
  have q : QR (g_308 0 a0 a1 778 d) (g_242 769 a0 a1 (g_308 0 a0 a1 778 d)) := q_242.qr
  have c : QC d (g_308 0 a0 a1 778 d) := fun b x y z => F1 b (by omega)
  exact ⟨hS1, e70, ⟨⟨hS2, hh2, h.1.2.2.qr c q⟩, q.rp h.2 e70 (by rw [F1 769 (by decide)]) (fun b hb => F1 b (by omega))⟩, e78, rv⟩
theorem iv_10 {E : mO × tW} {d : mD} {a0 : Int} {a1 : Int} (hT : TKL E) (h : Inv2 E d) (h0 : inI a0) (h1 : inI a1) : Safe (g_309 0 a0 a1 778 d) ∧ (g_309 0 a0 a1 778 d) 770 = d 770 ∧ Inv2 E (g_246 769 a0 a1 (g_309 0 a0 a1 778 d)) ∧ (g_246 769 a0 a1 (g_309 0 a0 a1 778 d)) 778 = (g_309 0 a0 a1 778 d) 778 ∧ (0 ≤ (v_309 0 a0 a1 778 d) ∧ (v_309 0 a0 a1 778 d) ≤ 3) := by
  have hg := h.1.2.2.1.1
  have pw := p_309 (E := E) (d := d) (x0 := 0) (x1 := a0) (x2 := a1) (x3 := 778) h.1.1 rfl rfl h0 h1 (puI h.1.2.2.1) ⟨hT.t 10 0 (by decide), trivial, trivial, hT.t 30 778 (by decide), trivial⟩ h.1.2.1
  have hS1 := pw.2.2.2
  have hh1 := pw.1
  have F1 := pw.2.2.1
  have e70 : (g_309 0 a0 a1 778 d) 770 = d 770 := F1 770 (by decide)
  have pr := p_246 (E := E) (d := (g_309 0 a0 a1 778 d)) (x0 := 769) (x1 := a0) (x2 := a1) hS1 rfl h0 h1 ⟨hT.t 11 769 (by decide), trivial, trivial, trivial⟩ hh1
  have hS2 := pr.2.2
  have hh2 := pr.1
  have e78 : (g_246 769 a0 a1 (g_309 0 a0 a1 778 d)) 778 = (g_309 0 a0 a1 778 d) 778 := pr.2.1 778 (by decide)
  have rv := pw.2.1
  have q : QR (g_309 0 a0 a1 778 d) (g_246 769 a0 a1 (g_309 0 a0 a1 778 d)) := q_246.qr
  have c : QC d (g_309 0 a0 a1 778 d) := fun b x y z => F1 b (by omega)
  exact ⟨hS1, e70, ⟨⟨hS2, hh2, h.1.2.2.qr c q⟩, q.rp h.2 e70 (by rw [F1 769 (by decide)]) (fun b hb => F1 b (by omega))⟩, e78, rv⟩
theorem iv_11 {E : mO × tW} {d : mD} {a0 : Int} {a1 : Int} (hT : TKL E) (h : Inv2 E d) (h0 : inI a0) (h1 : inI a1) : Safe (g_310 0 a0 a1 778 d) ∧ (g_310 0 a0 a1 778 d) 770 = d 770 ∧ Inv2 E (g_247 769 a0 a1 (g_310 0 a0 a1 778 d)) ∧ (g_247 769 a0 a1 (g_310 0 a0 a1 778 d)) 778 = (g_310 0 a0 a1 778 d) 778 ∧ (0 ≤ (v_310 0 a0 a1 778 d) ∧ (v_310 0 a0 a1 778 d) ≤ 3) := by
  have hg := h.1.2.2.1.1
  have pw := p_310 (E := E) (d := d) (x0 := 0) (x1 := a0) (x2 := a1) (x3 := 778) h.1.1 rfl rfl h0 h1 ⟨hT.t 10 0 (by decide), trivial, trivial, hT.t 30 778 (by decide), trivial⟩ h.1.2.1
  have hS1 := pw.2.2.2
  have hh1 := pw.1
  have F1 := pw.2.2.1
  have e70 : (g_310 0 a0 a1 778 d) 770 = d 770 := F1 770 (by decide)
  have pr := p_247 (E := E) (d := (g_310 0 a0 a1 778 d)) (x0 := 769) (x1 := a0) (x2 := a1) hS1 rfl h0 h1 ⟨hT.t 11 769 (by decide), trivial, trivial, trivial⟩ hh1
  have hS2 := pr.2.2
  have hh2 := pr.1
  have e78 : (g_247 769 a0 a1 (g_310 0 a0 a1 778 d)) 778 = (g_310 0 a0 a1 778 d) 778 := pr.2.1 778 (by decide)
  have rv := pw.2.1
  have q : QR (g_310 0 a0 a1 778 d) (g_247 769 a0 a1 (g_310 0 a0 a1 778 d)) := q_247.qr
  have c : QC d (g_310 0 a0 a1 778 d) := fun b x y z => F1 b (by omega)
  exact ⟨hS1, e70, ⟨⟨hS2, hh2, h.1.2.2.qr c q⟩, q.rp h.2 e70 (by rw [F1 769 (by decide)]) (fun b hb => F1 b (by omega))⟩, e78, rv⟩
theorem iv_12 {E : mO × tW} {d : mD} {a0 : Int} {a1 : Int} (hT : TKL E) (h : Inv2 E d) (h0 : inI a0) (h1 : inI a1) : Safe (g_311 0 a0 a1 778 d) ∧ (g_311 0 a0 a1 778 d) 770 = d 770 ∧ Inv2 E (g_248 769 a0 a1 (g_311 0 a0 a1 778 d)) ∧ (g_248 769 a0 a1 (g_311 0 a0 a1 778 d)) 778 = (g_311 0 a0 a1 778 d) 778 ∧ (0 ≤ (v_311 0 a0 a1 778 d) ∧ (v_311 0 a0 a1 778 d) ≤ 3) := by
  have hg := h.1.2.2.1.1
  have pw := p_311 (E := E) (d := d) (x0 := 0) (x1 := a0) (x2 := a1) (x3 := 778) h.1.1 rfl rfl h0 h1 ⟨hT.t 10 0 (by decide), trivial, trivial, hT.t 30 778 (by decide), trivial⟩ h.1.2.1
  have hS1 := pw.2.2.2
  have hh1 := pw.1
  have F1 := pw.2.2.1
  have e70 : (g_311 0 a0 a1 778 d) 770 = d 770 := F1 770 (by decide)
  have pr := p_248 (E := E) (d := (g_311 0 a0 a1 778 d)) (x0 := 769) (x1 := a0) (x2 := a1) hS1 rfl h0 h1 ⟨hT.t 11 769 (by decide), trivial, trivial, trivial⟩ hh1
  have hS2 := pr.2.2
  have hh2 := pr.1
  have e78 : (g_248 769 a0 a1 (g_311 0 a0 a1 778 d)) 778 = (g_311 0 a0 a1 778 d) 778 := pr.2.1 778 (by decide)
  have rv := pw.2.1
  have q : QR (g_311 0 a0 a1 778 d) (g_248 769 a0 a1 (g_311 0 a0 a1 778 d)) := q_248.qr
  have c : QC d (g_311 0 a0 a1 778 d) := fun b x y z => F1 b (by omega)
  exact ⟨hS1, e70, ⟨⟨hS2, hh2, h.1.2.2.qr c q⟩, q.rp h.2 e70 (by rw [F1 769 (by decide)]) (fun b hb => F1 b (by omega))⟩, e78, rv⟩
theorem iv_13 {E : mO × tW} {d : mD} {a0 : Int} {a1 : Int} (hT : TKL E) (h : Inv2 E d) (h0 : inI a0) (h1 : inI a1) : Safe (g_312 0 a0 a1 778 d) ∧ (g_312 0 a0 a1 778 d) 770 = d 770 ∧ Inv2 E (g_249 769 a0 a1 (g_312 0 a0 a1 778 d)) ∧ (g_249 769 a0 a1 (g_312 0 a0 a1 778 d)) 778 = (g_312 0 a0 a1 778 d) 778 ∧ (0 ≤ (v_312 0 a0 a1 778 d) ∧ (v_312 0 a0 a1 778 d) ≤ 3) := by
  have hg := h.1.2.2.1.1
  have pw := p_312 (E := E) (d := d) (x0 := 0) (x1 := a0) (x2 := a1) (x3 := 778) h.1.1 rfl rfl h0 h1 ⟨hT.t 10 0 (by decide), trivial, trivial, hT.t 30 778 (by decide), trivial⟩ h.1.2.1
  have hS1 := pw.2.2.2
  have hh1 := pw.1
  have F1 := pw.2.2.1
  have e70 : (g_312 0 a0 a1 778 d) 770 = d 770 := F1 770 (by decide)
  have pr := p_249 (E := E) (d := (g_312 0 a0 a1 778 d)) (x0 := 769) (x1 := a0) (x2 := a1) hS1 rfl h0 h1 ⟨hT.t 11 769 (by decide), trivial, trivial, trivial⟩ hh1
  have hS2 := pr.2.2.2
  have hh2 := pr.1
  have e78 : (g_249 769 a0 a1 (g_312 0 a0 a1 778 d)) 778 = (g_312 0 a0 a1 778 d) 778 := pr.2.2.1 778 (by decide)
  have rv := pw.2.1
  have q : QR (g_312 0 a0 a1 778 d) (g_249 769 a0 a1 (g_312 0 a0 a1 778 d)) := q_249.qr
  have c : QC d (g_312 0 a0 a1 778 d) := fun b x y z => F1 b (by omega)
  exact ⟨hS1, e70, ⟨⟨hS2, hh2, h.1.2.2.qr c q⟩, q.rp h.2 e70 (by rw [F1 769 (by decide)]) (fun b hb => F1 b (by omega))⟩, e78, rv⟩
theorem iv_14 {E : mO × tW} {d : mD} {a0 : Int} {a1 : Int} (hT : TKL E) (h : Inv2 E d) (h0 : inI a0) (h1 : inI a1) : Safe (g_313 0 a0 a1 778 d) ∧ (g_313 0 a0 a1 778 d) 770 = d 770 ∧ Inv2 E (g_251 769 a0 a1 (g_313 0 a0 a1 778 d)) ∧ (g_251 769 a0 a1 (g_313 0 a0 a1 778 d)) 778 = (g_313 0 a0 a1 778 d) 778 ∧ (0 ≤ (v_313 0 a0 a1 778 d) ∧ (v_313 0 a0 a1 778 d) ≤ 3) := by
  have hg := h.1.2.2.1.1
  have pw := p_313 (E := E) (d := d) (x0 := 0) (x1 := a0) (x2 := a1) (x3 := 778) h.1.1 rfl rfl h0 h1 ⟨hT.t 10 0 (by decide), trivial, trivial, hT.t 30 778 (by decide), trivial⟩ h.1.2.1
  have hS1 := pw.2.2.2
  have hh1 := pw.1
  have F1 := pw.2.2.1
  have e70 : (g_313 0 a0 a1 778 d) 770 = d 770 := F1 770 (by decide)
  have pr := p_251 (E := E) (d := (g_313 0 a0 a1 778 d)) (x0 := 769) (x1 := a0) (x2 := a1) hS1 rfl h0 h1 ⟨hT.t 11 769 (by decide), trivial, trivial, trivial⟩ hh1
  have hS2 := pr.2.2
  have hh2 := pr.1
  have e78 : (g_251 769 a0 a1 (g_313 0 a0 a1 778 d)) 778 = (g_313 0 a0 a1 778 d) 778 := pr.2.1 778 (by decide)
  have rv := pw.2.1
  have q : QR (g_313 0 a0 a1 778 d) (g_251 769 a0 a1 (g_313 0 a0 a1 778 d)) := q_251.qr
  have c : QC d (g_313 0 a0 a1 778 d) := fun b x y z => F1 b (by omega)
  exact ⟨hS1, e70, ⟨⟨hS2, hh2, h.1.2.2.qr c q⟩, q.rp h.2 e70 (by rw [F1 769 (by decide)]) (fun b hb => F1 b (by omega))⟩, e78, rv⟩
theorem iv_15 {E : mO × tW} {d : mD} {a0 : Int} {a1 : Int} (hT : TKL E) (h : Inv2 E d) (h0 : inI a0) (h1 : inI a1) : Safe (g_314 0 a0 a1 778 d) ∧ (g_314 0 a0 a1 778 d) 770 = d 770 ∧ Inv2 E (g_252 769 a0 a1 (g_314 0 a0 a1 778 d)) ∧ (g_252 769 a0 a1 (g_314 0 a0 a1 778 d)) 778 = (g_314 0 a0 a1 778 d) 778 ∧ (0 ≤ (v_314 0 a0 a1 778 d) ∧ (v_314 0 a0 a1 778 d) ≤ 3) := by
  have hg := h.1.2.2.1.1
  have pw := p_314 (E := E) (d := d) (x0 := 0) (x1 := a0) (x2 := a1) (x3 := 778) h.1.1 rfl rfl h0 h1 ⟨hT.t 10 0 (by decide), trivial, trivial, hT.t 30 778 (by decide), trivial⟩ h.1.2.1
  have hS1 := pw.2.2.2
  have hh1 := pw.1
  have F1 := pw.2.2.1
  have e70 : (g_314 0 a0 a1 778 d) 770 = d 770 := F1 770 (by decide)
  have pr := p_252 (E := E) (d := (g_314 0 a0 a1 778 d)) (x0 := 769) (x1 := a0) (x2 := a1) hS1 rfl h0 h1 ⟨hT.t 11 769 (by decide), trivial, trivial, trivial⟩ hh1
  have hS2 := pr.2.2
  have hh2 := pr.1
  have e78 : (g_252 769 a0 a1 (g_314 0 a0 a1 778 d)) 778 = (g_314 0 a0 a1 778 d) 778 := pr.2.1 778 (by decide)
  have rv := pw.2.1
  have q : QR (g_314 0 a0 a1 778 d) (g_252 769 a0 a1 (g_314 0 a0 a1 778 d)) := q_252.qr
  have c : QC d (g_314 0 a0 a1 778 d) := fun b x y z => F1 b (by omega)
  exact ⟨hS1, e70, ⟨⟨hS2, hh2, h.1.2.2.qr c q⟩, q.rp h.2 e70 (by rw [F1 769 (by decide)]) (fun b hb => F1 b (by omega))⟩, e78, rv⟩
theorem iv_16 {E : mO × tW} {d : mD} {a0 : Int} {a1 : Int} (hT : TKL E) (h : Inv2 E d) (h0 : inI a0) (h1 : inI a1) : Safe (g_315 0 a0 a1 778 d) ∧ (g_315 0 a0 a1 778 d) 770 = d 770 ∧ Inv2 E (g_253 769 a0 a1 (g_315 0 a0 a1 778 d)) ∧ (g_253 769 a0 a1 (g_315 0 a0 a1 778 d)) 778 = (g_315 0 a0 a1 778 d) 778 ∧ (0 ≤ (v_315 0 a0 a1 778 d) ∧ (v_315 0 a0 a1 778 d) ≤ 3) := by
  have hg := h.1.2.2.1.1
  have pw := p_315 (E := E) (d := d) (x0 := 0) (x1 := a0) (x2 := a1) (x3 := 778) h.1.1 rfl rfl h0 h1 ⟨hT.t 10 0 (by decide), trivial, trivial, hT.t 30 778 (by decide), trivial⟩ h.1.2.1
  have hS1 := pw.2.2.2
  have hh1 := pw.1
  have F1 := pw.2.2.1
  have e70 : (g_315 0 a0 a1 778 d) 770 = d 770 := F1 770 (by decide)
  have pr := p_253 (E := E) (d := (g_315 0 a0 a1 778 d)) (x0 := 769) (x1 := a0) (x2 := a1) hS1 rfl h0 h1 ⟨hT.t 11 769 (by decide), trivial, trivial, trivial⟩ hh1
  have hS2 := pr.2.2
  have hh2 := pr.1
  have e78 : (g_253 769 a0 a1 (g_315 0 a0 a1 778 d)) 778 = (g_315 0 a0 a1 778 d) 778 := pr.2.1 778 (by decide)
  have rv := pw.2.1
  have q : QR (g_315 0 a0 a1 778 d) (g_253 769 a0 a1 (g_315 0 a0 a1 778 d)) := q_253.qr
  have c : QC d (g_315 0 a0 a1 778 d) := fun b x y z => F1 b (by omega)
  exact ⟨hS1, e70, ⟨⟨hS2, hh2, h.1.2.2.qr c q⟩, q.rp h.2 e70 (by rw [F1 769 (by decide)]) (fun b hb => F1 b (by omega))⟩, e78, rv⟩
theorem iv_17 {E : mO × tW} {d : mD} {a0 : Int} {a1 : Int} (hT : TKL E) (h : Inv2 E d) (h0 : inI a0) (h1 : inI a1) : Safe (g_316 0 a0 a1 778 d) ∧ (g_316 0 a0 a1 778 d) 770 = d 770 ∧ Inv2 E (g_254 769 a0 a1 (g_316 0 a0 a1 778 d)) ∧ (g_254 769 a0 a1 (g_316 0 a0 a1 778 d)) 778 = (g_316 0 a0 a1 778 d) 778 ∧ (0 ≤ (v_316 0 a0 a1 778 d) ∧ (v_316 0 a0 a1 778 d) ≤ 3) := by
  have hg := h.1.2.2.1.1
  have pw := p_316 (E := E) (d := d) (x0 := 0) (x1 := a0) (x2 := a1) (x3 := 778) h.1.1 rfl rfl h0 h1 ⟨hT.t 10 0 (by decide), trivial, trivial, hT.t 30 778 (by decide), trivial⟩ h.1.2.1
  have hS1 := pw.2.2.2
  have hh1 := pw.1
  have F1 := pw.2.2.1
  have e70 : (g_316 0 a0 a1 778 d) 770 = d 770 := F1 770 (by decide)
  have pr := p_254 (E := E) (d := (g_316 0 a0 a1 778 d)) (x0 := 769) (x1 := a0) (x2 := a1) hS1 rfl h0 h1 ⟨hT.t 11 769 (by decide), trivial, trivial, trivial⟩ hh1
  have hS2 := pr.2.2.2
  have hh2 := pr.1
  have e78 : (g_254 769 a0 a1 (g_316 0 a0 a1 778 d)) 778 = (g_316 0 a0 a1 778 d) 778 := pr.2.2.1 778 (by decide)
  have rv := pw.2.1
  have q : QR (g_316 0 a0 a1 778 d) (g_254 769 a0 a1 (g_316 0 a0 a1 778 d)) := q_254.qr
  have c : QC d (g_316 0 a0 a1 778 d) := fun b x y z => F1 b (by omega)
  exact ⟨hS1, e70, ⟨⟨hS2, hh2, h.1.2.2.qr c q⟩, q.rp h.2 e70 (by rw [F1 769 (by decide)]) (fun b hb => F1 b (by omega))⟩, e78, rv⟩
theorem iv_18 {E : mO × tW} {d : mD} {a0 : Int} (hT : TKL E) (h : Inv2 E d) (h0 : inI a0) : Safe (g_317 0 a0 778 d) ∧ (g_317 0 a0 778 d) 770 = d 770 ∧ Inv2 E (g_257 769 a0 (g_317 0 a0 778 d)) ∧ (g_257 769 a0 (g_317 0 a0 778 d)) 778 = (g_317 0 a0 778 d) 778 ∧ (0 ≤ (v_317 0 a0 778 d) ∧ (v_317 0 a0 778 d) ≤ 3) := by
  have hg := h.1.2.2.1.1
  have pw := p_317 (E := E) (d := d) (x0 := 0) (x1 := a0) (x2 := 778) h.1.1 rfl rfl h0 ⟨hT.t 10 0 (by decide), trivial, hT.t 30 778 (by decide), trivial⟩ h.1.2.1
  have hS1 := pw.2.2.2
  have hh1 := pw.1
  have F1 := pw.2.2.1
  have e70 : (g_317 0 a0 778 d) 770 = d 770 := F1 770 (by decide)
  have pr := p_257 (E := E) (d := (g_317 0 a0 778 d)) (x0 := 769) (x1 := a0) hS1 rfl h0 ⟨hT.t 11 769 (by decide), trivial, trivial⟩ hh1
  have hS2 := pr.2.2
  have hh2 := pr.1
  have e78 : (g_257 769 a0 (g_317 0 a0 778 d)) 778 = (g_317 0 a0 778 d) 778 := pr.2.1 778 (by decide)
  have rv := pw.2.1
  have q : QR (g_317 0 a0 778 d) (g_257 769 a0 (g_317 0 a0 778 d)) := q_257
  have c : QC d (g_317 0 a0 778 d) := fun b x y z => F1 b (by omega)
  exact ⟨hS1, e70, ⟨⟨hS2, hh2, h.1.2.2.qr c q⟩, q.rp h.2 e70 (by rw [F1 769 (by decide)]) (fun b hb => F1 b (by omega))⟩, e78, rv⟩
theorem iv_19 {E : mO × tW} {d : mD}  (hT : TKL E) (h : Inv2 E d) : Safe d ∧ d 770 = d 770 ∧ Inv2 E (g_258 769 d) ∧ (g_258 769 d) 778 = d 778 := by
  have hg := h.1.2.2.1.1
  have hS1 := h.1.1
  have hh1 := h.1.2.1
  have e70 : d 770 = d 770 := rfl
  have pr := p_258 (E := E) (d := d) (x0 := 769) hS1 rfl ⟨hT.t 11 769 (by decide), trivial⟩ hh1
  have hS2 := pr.2.2
  have hh2 := pr.1
  have e78 : (g_258 769 d) 778 = d 778 := pr.2.1 778 (by decide)
  have q : QR d (g_258 769 d) := q_258.qr
  exact ⟨hS1, e70, ⟨⟨hS2, hh2, h.1.2.2.qr (fun _ _ _ _ => rfl) q⟩, q.rp h.2 rfl rfl (fun _ _ => rfl)⟩, e78⟩
theorem iv_20 {E : mO × tW} {d : mD}  (hT : TKL E) (h : Inv2 E d) : Safe d ∧ d 770 = d 770 ∧ Inv2 E (g_259 769 d) ∧ (g_259 769 d) 778 = d 778 := by
  have hg := h.1.2.2.1.1
  have hS1 := h.1.1
  have hh1 := h.1.2.1
  have e70 : d 770 = d 770 := rfl
  have pr := p_259 (E := E) (d := d) (x0 := 769) hS1 rfl ⟨hT.t 11 769 (by decide), trivial⟩ hh1
  have hS2 := pr.2.2
  have hh2 := pr.1
  have e78 : (g_259 769 d) 778 = d 778 := pr.2.1 778 (by decide)
  have q : QR d (g_259 769 d) := q_259.qr
  exact ⟨hS1, e70, ⟨⟨hS2, hh2, h.1.2.2.qr (fun _ _ _ _ => rfl) q⟩, q.rp h.2 rfl rfl (fun _ _ => rfl)⟩, e78⟩
theorem iv_21 {E : mO × tW} {d : mD}  (hT : TKL E) (h : Inv2 E d) : Safe (g_139 0 d) ∧ (g_139 0 d) 770 = d 770 ∧ Inv2 E (g_260 769 (g_139 0 d)) ∧ (g_260 769 (g_139 0 d)) 778 = (g_139 0 d) 778 := by
  have hg := h.1.2.2.1.1
  have pw := p_139 (E := E) (d := d) (x0 := 0) h.1.1 rfl ⟨hT.t 10 0 (by decide), trivial⟩ h.1.2.1
  have hS1 := pw.2.2
  have hh1 := pw.1
  have F1 := pw.2.1
  have e70 : (g_139 0 d) 770 = d 770 := F1 770 (by decide)
  have pr := p_260 (E := E) (d := (g_139 0 d)) (x0 := 769) hS1 rfl ⟨hT.t 11 769 (by decide), trivial⟩ hh1
  have hS2 := pr.2.2
  have hh2 := pr.1
  have e78 : (g_260 769 (g_139 0 d)) 778 = (g_139 0 d) 778 := pr.2.1 778 (by decide)
  have q : QR (g_139 0 d) (g_260 769 (g_139 0 d)) := q_260.qr
  have c : QC d (g_139 0 d) := fun b x y z => F1 b (by omega)
  exact ⟨hS1, e70, ⟨⟨hS2, hh2, h.1.2.2.qr c q⟩, q.rp h.2 e70 (by rw [F1 769 (by decide)]) (fun b hb => F1 b (by omega))⟩, e78⟩
theorem iv_22 {E : mO × tW} {d : mD}  (hT : TKL E) (h : Inv2 E d) : Safe (g_140 0 d) ∧ (g_140 0 d) 770 = d 770 ∧ Inv2 E (g_261 769 (g_140 0 d)) ∧ (g_261 769 (g_140 0 d)) 778 = (g_140 0 d) 778 := by
  have hg := h.1.2.2.1.1
  have pw := p_140 (E := E) (d := d) (x0 := 0) h.1.1 rfl ⟨hT.t 10 0 (by decide), trivial⟩ h.1.2.1
  have hS1 := pw.2.2.2
  have hh1 := pw.1
  have F1 := pw.2.2.1
  have e70 : (g_140 0 d) 770 = d 770 := F1 770 (by decide)
  have pr := p_261 (E := E) (d := (g_140 0 d)) (x0 := 769) hS1 rfl ⟨hT.t 11 769 (by decide), trivial⟩ hh1
  have hS2 := pr.2.2
  have hh2 := pr.1
  have e78 : (g_261 769 (g_140 0 d)) 778 = (g_140 0 d) 778 := pr.2.1 778 (by decide)
  have q : QR (g_140 0 d) (g_261 769 (g_140 0 d)) := q_261.qr
  have c : QC d (g_140 0 d) := fun b x y z => F1 b (by omega)
  exact ⟨hS1, e70, ⟨⟨hS2, hh2, h.1.2.2.qr c q⟩, q.rp h.2 e70 (by rw [F1 769 (by decide)]) (fun b hb => F1 b (by omega))⟩, e78⟩
theorem iv_23 {E : mO × tW} {d : mD}  (hT : TKL E) (h : Inv2 E d) : Safe d ∧ d 770 = d 770 ∧ Inv2 E (g_262 769 d) ∧ (g_262 769 d) 778 = d 778 := by
  have hg := h.1.2.2.1.1
  have hS1 := h.1.1
  have hh1 := h.1.2.1
  have e70 : d 770 = d 770 := rfl
  have pr := p_262 (E := E) (d := d) (x0 := 769) hS1 rfl ⟨hT.t 11 769 (by decide), trivial⟩ hh1
  have hS2 := pr.2.2
  have hh2 := pr.1
  have e78 : (g_262 769 d) 778 = d 778 := pr.2.1 778 (by decide)
  have q : QR d (g_262 769 d) := q_262.qr
  exact ⟨hS1, e70, ⟨⟨hS2, hh2, h.1.2.2.qr (fun _ _ _ _ => rfl) q⟩, q.rp h.2 rfl rfl (fun _ _ => rfl)⟩, e78⟩
theorem iv_24 {E : mO × tW} {d : mD} {a0 : Int} (hT : TKL E) (h : Inv2 E d) (h0 : inI a0) : Safe (g_318 0 a0 778 d) ∧ (g_318 0 a0 778 d) 770 = d 770 ∧ Inv2 E (g_264 769 a0 (g_318 0 a0 778 d)) ∧ (g_264 769 a0 (g_318 0 a0 778 d)) 778 = (g_318 0 a0 778 d) 778 ∧ (0 ≤ (v_318 0 a0 778 d) ∧ (v_318 0 a0 778 d) ≤ 3) := by
  have hg := h.1.2.2.1.1
  have pw := p_318 (E := E) (d := d) (x0 := 0) (x1 := a0) (x2 := 778) h.1.1 rfl rfl h0 ⟨hT.t 10 0 (by decide), trivial, hT.t 30 778 (by decide), trivial⟩ h.1.2.1
  have hS1 := pw.2.2.2
  have hh1 := pw.1
  have F1 := pw.2.2.1
  have e70 : (g_318 0 a0 778 d) 770 = d 770 := F1 770 (by decide)
  have pr := p_264 (E := E) (d := (g_318 0 a0 778 d)) (x0 := 769) (x1 := a0) hS1 rfl h0 (by rw [n7691, e70]; exact mpI hg) (by rw [n7691, e70]; exact h.1.2.2.1.2.2.2.1) ⟨hT.t 11 769 (by decide), trivial, trivial⟩ hh1
  have hS2 := pr.2.2
  have hh2 := pr.1
  have e78 : (g_264 769 a0 (g_318 0 a0 778 d)) 778 = (g_318 0 a0 778 d) 778 := pr.2.1 778 (by decide)
  have rv := pw.2.1
  have q : QR (g_318 0 a0 778 d) (g_264 769 a0 (g_318 0 a0 778 d)) := q_264
  have c : QC d (g_318 0 a0 778 d) := fun b x y z => F1 b (by omega)
  exact ⟨hS1, e70, ⟨⟨hS2, hh2, h.1.2.2.qr c q⟩, q.rp h.2 e70 (by rw [F1 769 (by decide)]) (fun b hb => F1 b (by omega))⟩, e78, rv⟩
theorem iv_25 {E : mO × tW} {d : mD} {a0 : Int} {a1 : Int} (hT : TKL E) (h : Inv2 E d) (h0 : inI a0) (h1 : inI a1) : Safe (g_319 0 a0 a1 778 d) ∧ (g_319 0 a0 a1 778 d) 770 = d 770 ∧ Inv2 E (g_265 769 a0 a1 (g_319 0 a0 a1 778 d)) ∧ (g_265 769 a0 a1 (g_319 0 a0 a1 778 d)) 778 = (g_319 0 a0 a1 778 d) 778 ∧ (0 ≤ (v_319 0 a0 a1 778 d) ∧ (v_319 0 a0 a1 778 d) ≤ 3) := by
  have hg := h.1.2.2.1.1
  have pw := p_319 (E := E) (d := d) (x0 := 0) (x1 := a0) (x2 := a1) (x3 := 778) h.1.1 rfl rfl h0 h1 ⟨hT.t 10 0 (by decide), trivial, trivial, hT.t 30 778 (by decide), trivial⟩ h.1.2.1
  have hS1 := pw.2.2.2
  have hh1 := pw.1
  have F1 := pw.2.2.1
  have e70 : (g_319 0 a0 a1 778 d) 770 = d 770 := F1 770 (by decide)
  have pr := p_265 (E := E) (d := (g_319 0 a0 a1 778 d)) (x0 := 769) (x1 := a0) (x2 := a1) hS1 rfl h0 h1 (by rw [n7691, e70]; exact mpI hg) (by rw [n7691, e70]; exact h.1.2.2.1.2.2.2.1) ⟨hT.t 11 769 (by decide), trivial, trivial, trivial⟩ hh1
  have hS2 := pr.2.2
  have hh2 := pr.1
  have e78 : (g_265 769 a0 a1 (g_319 0 a0 a1 778 d)) 778 = (g_319 0 a0 a1 778 d) 778 := pr.2.1 778 (by decide)
  have rv := pw.2.1
  have q : QR (g_319 0 a0 a1 778 d) (g_265 769 a0 a1 (g_319 0 a0 a1 778 d)) := q_265
  have c : QC d (g_319 0 a0 a1 778 d) := fun b x y z => F1 b (by omega)
  exact ⟨hS1, e70, ⟨⟨hS2, hh2, h.1.2.2.qr c q⟩, q.rp h.2 e70 (by rw [F1 769 (by decide)]) (fun b hb => F1 b (by omega))⟩, e78, rv⟩
theorem iv_26 {E : mO × tW} {d : mD} {a0 : Int} (hT : TKL E) (h : Inv2 E d) (h0 : inI a0) : Safe (g_320 0 a0 778 d) ∧ (g_320 0 a0 778 d) 770 = d 770 ∧ Inv2 E (g_266 769 a0 (g_320 0 a0 778 d)) ∧ (g_266 769 a0 (g_320 0 a0 778 d)) 778 = (g_320 0 a0 778 d) 778 ∧ (0 ≤ (v_320 0 a0 778 d) ∧ (v_320 0 a0 778 d) ≤ 3) := by
  have hg := h.1.2.2.1.1
  have pw := p_320 (E := E) (d := d) (x0 := 0) (x1 := a0) (x2 := 778) h.1.1 rfl rfl h0 ⟨hT.t 10 0 (by decide), trivial, hT.t 30 778 (by decide), trivial⟩ h.1.2.1
  have hS1 := pw.2.2.2
  have hh1 := pw.1
  have F1 := pw.2.2.1
  have e70 : (g_320 0 a0 778 d) 770 = d 770 := F1 770 (by decide)
  have pr := p_266 (E := E) (d := (g_320 0 a0 778 d)) (x0 := 769) (x1 := a0) hS1 rfl h0 (by rw [n7691, e70]; exact mpI hg) (by rw [n7691, e70]; exact h.1.2.2.1.2.2.2.1) ⟨hT.t 11 769 (by decide), trivial, trivial⟩ hh1
  have hS2 := pr.2.2
  have hh2 := pr.1
  have e78 : (g_266 769 a0 (g_320 0 a0 778 d)) 778 = (g_320 0 a0 778 d) 778 := pr.2.1 778 (by decide)
  have rv := pw.2.1
  have q : QR (g_320 0 a0 778 d) (g_266 769 a0 (g_320 0 a0 778 d)) := q_266
  have c : QC d (g_320 0 a0 778 d) := fun b x y z => F1 b (by omega)
  exact ⟨hS1, e70, ⟨⟨hS2, hh2, h.1.2.2.qr c q⟩, q.rp h.2 e70 (by rw [F1 769 (by decide)]) (fun b hb => F1 b (by omega))⟩, e78, rv⟩
theorem iv_27 {E : mO × tW} {d : mD} {a0 : Int} (hT : TKL E) (h : Inv2 E d) (h0 : inI a0) : Safe (g_321 0 a0 778 d) ∧ (g_321 0 a0 778 d) 770 = d 770 ∧ Inv2 E (g_268 769 a0 (g_321 0 a0 778 d)) ∧ (g_268 769 a0 (g_321 0 a0 778 d)) 778 = (g_321 0 a0 778 d) 778 ∧ (0 ≤ (v_321 0 a0 778 d) ∧ (v_321 0 a0 778 d) ≤ 3) := by
  have hg := h.1.2.2.1.1
  have pw := p_321 (E := E) (d := d) (x0 := 0) (x1 := a0) (x2 := 778) h.1.1 rfl rfl h0 ⟨hT.t 10 0 (by decide), trivial, hT.t 30 778 (by decide), trivial⟩ h.1.2.1
  have hS1 := pw.2.2.2
  have hh1 := pw.1
  have F1 := pw.2.2.1
  have e70 : (g_321 0 a0 778 d) 770 = d 770 := F1 770 (by decide)
  have pr := pq_268 (E := E) (d := (g_321 0 a0 778 d)) (x0 := 769) (x1 := a0) hS1 rfl h0 (by rw [n7691, e70]; exact mpI hg) (by rw [n7691, e70]; exact h.1.2.2.1.2.2.2.1) (by rw [n7691, e70]; exact qoI hg) (by rw [n7691, e70]; exact hg.1.2.2.1.2) ⟨hT.t 11 769 (by decide), trivial, trivial⟩ hh1
  have hS2 := pr.2.2
  have hh2 := pr.1
  have e78 : (g_268 769 a0 (g_321 0 a0 778 d)) 778 = (g_321 0 a0 778 d) 778 := pr.2.1 778 (by decide)
  have rv := pw.2.1
  have q : QR (g_321 0 a0 778 d) (g_268 769 a0 (g_321 0 a0 778 d)) := q_268
  have c : QC d (g_321 0 a0 778 d) := fun b x y z => F1 b (by omega)
  exact ⟨hS1, e70, ⟨⟨hS2, hh2, h.1.2.2.qr c q⟩, q.rp h.2 e70 (by rw [F1 769 (by decide)]) (fun b hb => F1 b (by omega))⟩, e78, rv⟩
theorem iv_28 {E : mO × tW} {d : mD}  (hT : TKL E) (h : Inv2 E d) : Safe (g_322 0 778 d) ∧ (g_322 0 778 d) 770 = d 770 ∧ Inv2 E (g_269 769 (g_322 0 778 d)) ∧ (g_269 769 (g_322 0 778 d)) 778 = (g_322 0 778 d) 778 ∧ (0 ≤ (v_322 0 778 d) ∧ (v_322 0 778 d) ≤ 3) := by
  have hg := h.1.2.2.1.1
  have pw := p_322 (E := E) (d := d) (x0 := 0) (x1 := 778) h.1.1 rfl rfl ⟨hT.t 10 0 (by decide), hT.t 30 778 (by decide), trivial⟩ h.1.2.1
  have hS1 := pw.2.2.2
  have hh1 := pw.1
  have F1 := pw.2.2.1
  have e70 : (g_322 0 778 d) 770 = d 770 := F1 770 (by decide)
  have pr := pq_269 (E := E) (d := (g_322 0 778 d)) (x0 := 769) hS1 rfl (by rw [n7691, e70]; exact mpI hg) (by rw [n7691, e70]; exact h.1.2.2.1.2.2.2.1) (by rw [n7691, e70]; exact qoI hg) (by rw [n7691, e70]; exact hg.1.2.2.1.2) ⟨hT.t 11 769 (by decide), trivial⟩ hh1
  have hS2 := pr.2.2
  have hh2 := pr.1
  have e78 : (g_269 769 (g_322 0 778 d)) 778 = (g_322 0 778 d) 778 := pr.2.1 778 (by decide)
  have rv := pw.2.1
  have q : QR (g_322 0 778 d) (g_269 769 (g_322 0 778 d)) := q_269
  have c : QC d (g_322 0 778 d) := fun b x y z => F1 b (by omega)
  exact ⟨hS1, e70, ⟨⟨hS2, hh2, h.1.2.2.qr c q⟩, q.rp h.2 e70 (by rw [F1 769 (by decide)]) (fun b hb => F1 b (by omega))⟩, e78, rv⟩
theorem iv_29 {E : mO × tW} {d : mD} {a0 : Int} {a1 : Int} (hT : TKL E) (h : Inv2 E d) (h0 : inI a0) (h1 : inI a1) : Safe (g_323 0 a0 a1 778 d) ∧ (g_323 0 a0 a1 778 d) 770 = d 770 ∧ Inv2 E (g_272 769 a0 a1 (g_323 0 a0 a1 778 d)) ∧ (g_272 769 a0 a1 (g_323 0 a0 a1 778 d)) 778 = (g_323 0 a0 a1 778 d) 778 ∧ (0 ≤ (v_323 0 a0 a1 778 d) ∧ (v_323 0 a0 a1 778 d) ≤ 3) := by
  have hg := h.1.2.2.1.1
  have pw := p_323 (E := E) (d := d) (x0 := 0) (x1 := a0) (x2 := a1) (x3 := 778) h.1.1 rfl rfl h0 h1 ⟨hT.t 10 0 (by decide), trivial, trivial, hT.t 30 778 (by decide), trivial⟩ h.1.2.1
  have hS1 := pw.2.2.2
  have hh1 := pw.1
  have F1 := pw.2.2.1
  have e70 : (g_323 0 a0 a1 778 d) 770 = d 770 := F1 770 (by decide)
  have pr := pq_272 (E := E) (d := (g_323 0 a0 a1 778 d)) (x0 := 769) (x1 := a0) (x2 := a1) hS1 rfl h0 h1 (by rw [n7691, e70]; exact mpI hg) (by rw [n7691, e70]; exact h.1.2.2.1.2.2.2.1) (by rw [n7691, e70]; exact qoI hg) ⟨hT.t 11 769 (by decide), trivial, trivial, trivial⟩ hh1
  have hS2 := pr.2.2
  have hh2 := pr.1
  have e78 : (g_272 769 a0 a1 (g_323 0 a0 a1 778 d)) 778 = (g_323 0 a0 a1 778 d) 778 := pr.2.1 778 (by decide)
  have rv := pw.2.1
  have q : QR (g_323 0 a0 a1 778 d) (g_272 769 a0 a1 (g_323 0 a0 a1 778 d)) := q_272 (cm := d) (by rw [e70]; exact h.1.2.2.1)
  have c : QC d (g_323 0 a0 a1 778 d) := fun b x y z => F1 b (by omega)
  exact ⟨hS1, e70, ⟨⟨hS2, hh2, h.1.2.2.qr c q⟩, q.rp h.2 e70 (by rw [F1 769 (by decide)]) (fun b hb => F1 b (by omega))⟩, e78, rv⟩
theorem iv_30 {E : mO × tW} {d : mD} {a0 : Int} (hT : TKL E) (h : Inv2 E d) (h0 : inI a0) : Safe (g_324 0 a0 778 d) ∧ (g_324 0 a0 778 d) 770 = d 770 ∧ Inv2 E (g_276 769 a0 (g_324 0 a0 778 d)) ∧ (g_276 769 a0 (g_324 0 a0 778 d)) 778 = (g_324 0 a0 778 d) 778 ∧ (0 ≤ (v_324 0 a0 778 d) ∧ (v_324 0 a0 778 d) ≤ 3) := by
  have hg := h.1.2.2.1.1
  have pw := p_324 (E := E) (d := d) (x0 := 0) (x1 := a0) (x2 := 778) h.1.1 rfl rfl h0 ⟨hT.t 10 0 (by decide), trivial, hT.t 30 778 (by decide), trivial⟩ h.1.2.1
  have hS1 := pw.2.2.2
  have hh1 := pw.1
  have F1 := pw.2.2.1
  have e70 : (g_324 0 a0 778 d) 770 = d 770 := F1 770 (by decide)
  have pr := p_276 (E := E) (d := (g_324 0 a0 778 d)) (x0 := 769) (x1 := a0) hS1 rfl h0 ⟨hT.t 11 769 (by decide), trivial, trivial⟩ hh1
  have hS2 := pr.2.2
  have hh2 := pr.1
  have e78 : (g_276 769 a0 (g_324 0 a0 778 d)) 778 = (g_324 0 a0 778 d) 778 := pr.2.1 778 (by decide)
  have rv := pw.2.1
  have q : QR (g_324 0 a0 778 d) (g_276 769 a0 (g_324 0 a0 778 d)) := q_276.qr
  have c : QC d (g_324 0 a0 778 d) := fun b x y z => F1 b (by omega)
  exact ⟨hS1, e70, ⟨⟨hS2, hh2, h.1.2.2.qr c q⟩, q.rp h.2 e70 (by rw [F1 769 (by decide)]) (fun b hb => F1 b (by omega))⟩, e78, rv⟩
theorem iv_31 {E : mO × tW} {d : mD} {a0 : Int} (hT : TKL E) (h : Inv2 E d) (h0 : inI a0) : Safe (g_325 0 a0 778 d) ∧ (g_325 0 a0 778 d) 770 = d 770 ∧ Inv2 E (g_277 769 a0 (g_325 0 a0 778 d)) ∧ (g_277 769 a0 (g_325 0 a0 778 d)) 778 = (g_325 0 a0 778 d) 778 ∧ (0 ≤ (v_325 0 a0 778 d) ∧ (v_325 0 a0 778 d) ≤ 3) := by
  have hg := h.1.2.2.1.1
  have pw := p_325 (E := E) (d := d) (x0 := 0) (x1 := a0) (x2 := 778) h.1.1 rfl rfl h0 ⟨hT.t 10 0 (by decide), trivial, hT.t 30 778 (by decide), trivial⟩ h.1.2.1
  have hS1 := pw.2.2.2
  have hh1 := pw.1
  have F1 := pw.2.2.1
  have e70 : (g_325 0 a0 778 d) 770 = d 770 := F1 770 (by decide)
  have pr := p_277 (E := E) (d := (g_325 0 a0 778 d)) (x0 := 769) (x1 := a0) hS1 rfl h0 ⟨hT.t 11 769 (by decide), trivial, trivial⟩ hh1
  have hS2 := pr.2.2
  have hh2 := pr.1
  have e78 : (g_277 769 a0 (g_325 0 a0 778 d)) 778 = (g_325 0 a0 778 d) 778 := pr.2.1 778 (by decide)
  have rv := pw.2.1
  have q : QR (g_325 0 a0 778 d) (g_277 769 a0 (g_325 0 a0 778 d)) := q_277.qr
  have c : QC d (g_325 0 a0 778 d) := fun b x y z => F1 b (by omega)
  exact ⟨hS1, e70, ⟨⟨hS2, hh2, h.1.2.2.qr c q⟩, q.rp h.2 e70 (by rw [F1 769 (by decide)]) (fun b hb => F1 b (by omega))⟩, e78, rv⟩
theorem iv_32 {E : mO × tW} {d : mD} {a0 : Int} {a1 : Int} (hT : TKL E) (h : Inv2 E d) (h0 : inI a0) (h1 : inI a1) : Safe (g_326 0 a0 a1 778 d) ∧ (g_326 0 a0 a1 778 d) 770 = d 770 ∧ Inv2 E (g_279 769 a0 a1 (g_326 0 a0 a1 778 d)) ∧ (g_279 769 a0 a1 (g_326 0 a0 a1 778 d)) 778 = (g_326 0 a0 a1 778 d) 778 ∧ (0 ≤ (v_326 0 a0 a1 778 d) ∧ (v_326 0 a0 a1 778 d) ≤ 3) ∧ OPR d (g_326 0 a0 a1 778 d) (g_279 769 a0 a1 (g_326 0 a0 a1 778 d)) (v_326 0 a0 a1 778 d) (v_279 769 a0 a1 (g_326 0 a0 a1 778 d)) := by
  have hg := h.1.2.2.1.1
  have pw := p_326 (E := E) (d := d) (x0 := 0) (x1 := a0) (x2 := a1) (x3 := 778) h.1.1 rfl rfl h0 h1 ⟨hT.t 10 0 (by decide), trivial, trivial, hT.t 30 778 (by decide), trivial⟩ h.1.2.1
  have hS1 := pw.2.2.2
  have hh1 := pw.1
  have F1 := pw.2.2.1
  have e70 : (g_326 0 a0 a1 778 d) 770 = d 770 := F1 770 (by decide)
  have pr := p_279 (E := E) (d := (g_326 0 a0 a1 778 d)) (x0 := 769) (x1 := a0) (x2 := a1) hS1 rfl h0 h1 ⟨hT.t 11 769 (by decide), trivial, trivial, trivial⟩ hh1
  have hS2 := pr.2.2
  have hh2 := pr.1
  have e78 : (g_279 769 a0 a1 (g_326 0 a0 a1 778 d)) 778 = (g_326 0 a0 a1 778 d) 778 := pr.2.1 778 (by decide)
  have rv := pw.2.1
  have op : OPR d (g_326 0 a0 a1 778 d) (g_279 769 a0 a1 (g_326 0 a0 a1 778 d)) (v_326 0 a0 a1 778 d) (v_279 769 a0 a1 (g_326 0 a0 a1 778 d)) := opJoin hT h.1
  exact ⟨hS1, e70, ⟨⟨hS2, hh2, op.1⟩, op.2.2.2 h.2⟩, e78, rv, op⟩
theorem iv_33 {E : mO × tW} {d : mD} {a0 : Int} (hT : TKL E) (h : Inv2 E d) (h0 : inI a0) : Safe (g_327 0 a0 778 d) ∧ (g_327 0 a0 778 d) 770 = d 770 ∧ Inv2 E (g_280 769 a0 (g_327 0 a0 778 d)) ∧ (g_280 769 a0 (g_327 0 a0 778 d)) 778 = (g_327 0 a0 778 d) 778 ∧ (0 ≤ (v_327 0 a0 778 d) ∧ (v_327 0 a0 778 d) ≤ 3) ∧ OPR d (g_327 0 a0 778 d) (g_280 769 a0 (g_327 0 a0 778 d)) (v_327 0 a0 778 d) (v_280 769 a0 (g_327 0 a0 778 d)) := by
  have hg := h.1.2.2.1.1
  have pw := p_327 (E := E) (d := d) (x0 := 0) (x1 := a0) (x2 := 778) h.1.1 rfl rfl h0 ⟨hT.t 10 0 (by decide), trivial, hT.t 30 778 (by decide), trivial⟩ h.1.2.1
  have hS1 := pw.2.2.2
  have hh1 := pw.1
  have F1 := pw.2.2.1
  have e70 : (g_327 0 a0 778 d) 770 = d 770 := F1 770 (by decide)
  have pr := p_280 (E := E) (d := (g_327 0 a0 778 d)) (x0 := 769) (x1 := a0) hS1 rfl h0 (hwqI h.1.2.2.1 e70) ⟨hT.t 11 769 (by decide), trivial, trivial⟩ hh1
  have hS2 := pr.2.2
  have hh2 := pr.1
  have e78 : (g_280 769 a0 (g_327 0 a0 778 d)) 778 = (g_327 0 a0 778 d) 778 := pr.2.1 778 (by decide)
  have rv := pw.2.1
  have op : OPR d (g_327 0 a0 778 d) (g_280 769 a0 (g_327 0 a0 778 d)) (v_327 0 a0 778 d) (v_280 769 a0 (g_327 0 a0 778 d)) := opLeave hT h.1
  exact ⟨hS1, e70, ⟨⟨hS2, hh2, op.1⟩, op.2.2.2 h.2⟩, e78, rv, op⟩
theorem iv_34 {E : mO × tW} {d : mD} {a0 : Int} (hT : TKL E) (h : Inv2 E d) (h0 : inI a0) : Safe (g_328 0 a0 778 d) ∧ (g_328 0 a0 778 d) 770 = d 770 ∧ Inv2 E (g_282 769 a0 (g_328 0 a0 778 d)) ∧ (g_282 769 a0 (g_328 0 a0 778 d)) 778 = (g_328 0 a0 778 d) 778 ∧ (0 ≤ (v_328 0 a0 778 d) ∧ (v_328 0 a0 778 d) ≤ 3) ∧ OPR d (g_328 0 a0 778 d) (g_282 769 a0 (g_328 0 a0 778 d)) (v_328 0 a0 778 d) (v_282 769 a0 (g_328 0 a0 778 d)) := by
  have hg := h.1.2.2.1.1
  have pw := p_328 (E := E) (d := d) (x0 := 0) (x1 := a0) (x2 := 778) h.1.1 rfl rfl h0 ⟨hT.t 10 0 (by decide), trivial, hT.t 30 778 (by decide), trivial⟩ h.1.2.1
  have hS1 := pw.2.2.2
  have hh1 := pw.1
  have F1 := pw.2.2.1
  have e70 : (g_328 0 a0 778 d) 770 = d 770 := F1 770 (by decide)
  have pr := p_282 (E := E) (d := (g_328 0 a0 778 d)) (x0 := 769) (x1 := a0) hS1 rfl h0 (by rw [n7691, e70]; exact mpI hg) ⟨hT.t 11 769 (by decide), trivial, trivial⟩ hh1
  have hS2 := pr.2.2
  have hh2 := pr.1
  have e78 : (g_282 769 a0 (g_328 0 a0 778 d)) 778 = (g_328 0 a0 778 d) 778 := pr.2.1 778 (by decide)
  have rv := pw.2.1
  have op : OPR d (g_328 0 a0 778 d) (g_282 769 a0 (g_328 0 a0 778 d)) (v_328 0 a0 778 d) (v_282 769 a0 (g_328 0 a0 778 d)) := opPass hT h.1
  exact ⟨hS1, e70, ⟨⟨hS2, hh2, op.1⟩, op.2.2.2 h.2⟩, e78, rv, op⟩
theorem iv_35 {E : mO × tW} {d : mD} {a0 : Int} (hT : TKL E) (h : Inv2 E d) (h0 : inI a0) : Safe (g_329 0 a0 778 d) ∧ (g_329 0 a0 778 d) 770 = d 770 ∧ Inv2 E (g_283 769 a0 (g_329 0 a0 778 d)) ∧ (g_283 769 a0 (g_329 0 a0 778 d)) 778 = (g_329 0 a0 778 d) 778 ∧ (0 ≤ (v_329 0 a0 778 d) ∧ (v_329 0 a0 778 d) ≤ 3) ∧ OPR d (g_329 0 a0 778 d) (g_283 769 a0 (g_329 0 a0 778 d)) (v_329 0 a0 778 d) (v_283 769 a0 (g_329 0 a0 778 d)) := by
  have hg := h.1.2.2.1.1
  have pw := p_329 (E := E) (d := d) (x0 := 0) (x1 := a0) (x2 := 778) h.1.1 rfl rfl h0 ⟨hT.t 10 0 (by decide), trivial, hT.t 30 778 (by decide), trivial⟩ h.1.2.1
  have hS1 := pw.2.2.2
  have hh1 := pw.1
  have F1 := pw.2.2.1
  have e70 : (g_329 0 a0 778 d) 770 = d 770 := F1 770 (by decide)
  have pr := p_283 (E := E) (d := (g_329 0 a0 778 d)) (x0 := 769) (x1 := a0) hS1 rfl h0 (by rw [n7691, e70]; exact mpI hg) (by rw [n7691, e70]; exact h.2.1.1) ⟨hT.t 11 769 (by decide), trivial, trivial⟩ hh1
  have hS2 := pr.2.2
  have hh2 := pr.1
  have e78 : (g_283 769 a0 (g_329 0 a0 778 d)) 778 = (g_329 0 a0 778 d) 778 := pr.2.1 778 (by decide)
  have rv := pw.2.1
  have op : OPR d (g_329 0 a0 778 d) (g_283 769 a0 (g_329 0 a0 778 d)) (v_329 0 a0 778 d) (v_283 769 a0 (g_329 0 a0 778 d)) := opClaim hT h.1
  exact ⟨hS1, e70, ⟨⟨hS2, hh2, op.1⟩, op.2.2.2 h.2⟩, e78, rv, op⟩
theorem iv_36 {E : mO × tW} {d : mD} {a0 : Int} {a1 : Int} (hT : TKL E) (h : Inv2 E d) (h0 : inI a0) (h1 : inI a1) : Safe (g_330 0 a0 a1 778 d) ∧ (g_330 0 a0 a1 778 d) 770 = d 770 ∧ Inv2 E (g_284 769 a0 a1 (g_330 0 a0 a1 778 d)) ∧ (g_284 769 a0 a1 (g_330 0 a0 a1 778 d)) 778 = (g_330 0 a0 a1 778 d) 778 ∧ (0 ≤ (v_330 0 a0 a1 778 d) ∧ (v_330 0 a0 a1 778 d) ≤ 3) ∧ OPR d (g_330 0 a0 a1 778 d) (g_284 769 a0 a1 (g_330 0 a0 a1 778 d)) (v_330 0 a0 a1 778 d) (v_284 769 a0 a1 (g_330 0 a0 a1 778 d)) := by
  have hg := h.1.2.2.1.1
  have pw := p_330 (E := E) (d := d) (x0 := 0) (x1 := a0) (x2 := a1) (x3 := 778) h.1.1 rfl rfl h0 h1 ⟨hT.t 10 0 (by decide), trivial, trivial, hT.t 30 778 (by decide), trivial⟩ h.1.2.1
  have hS1 := pw.2.2.2
  have hh1 := pw.1
  have F1 := pw.2.2.1
  have e70 : (g_330 0 a0 a1 778 d) 770 = d 770 := F1 770 (by decide)
  have pr := p_284 (E := E) (d := (g_330 0 a0 a1 778 d)) (x0 := 769) (x1 := a0) (x2 := a1) hS1 rfl h0 h1 (by rw [n7691, e70]; exact mpI hg) (by rw [n7691, e70]; exact h.2.1.1) ⟨hT.t 11 769 (by decide), trivial, trivial, trivial⟩ hh1
  have hS2 := pr.2.2
  have hh2 := pr.1
  have e78 : (g_284 769 a0 a1 (g_330 0 a0 a1 778 d)) 778 = (g_330 0 a0 a1 778 d) 778 := pr.2.1 778 (by decide)
  have rv := pw.2.1
  have op : OPR d (g_330 0 a0 a1 778 d) (g_284 769 a0 a1 (g_330 0 a0 a1 778 d)) (v_330 0 a0 a1 778 d) (v_284 769 a0 a1 (g_330 0 a0 a1 778 d)) := opWit hT h.1
  exact ⟨hS1, e70, ⟨⟨hS2, hh2, op.1⟩, op.2.2.2 h.2⟩, e78, rv, op⟩
theorem iv_37 {E : mO × tW} {d : mD} {a0 : Int} {a1 : Int} {a2 : Int} (hT : TKL E) (h : Inv2 E d) (h0 : inI a0) (h1 : inI a1) (h2 : inI a2) : Safe (g_331 0 a0 a1 a2 778 d) ∧ (g_331 0 a0 a1 a2 778 d) 770 = d 770 ∧ Inv2 E (g_285 769 a0 a1 a2 (g_331 0 a0 a1 a2 778 d)) ∧ (g_285 769 a0 a1 a2 (g_331 0 a0 a1 a2 778 d)) 778 = (g_331 0 a0 a1 a2 778 d) 778 ∧ (0 ≤ (v_331 0 a0 a1 a2 778 d) ∧ (v_331 0 a0 a1 a2 778 d) ≤ 3) ∧ OPR d (g_331 0 a0 a1 a2 778 d) (g_285 769 a0 a1 a2 (g_331 0 a0 a1 a2 778 d)) (v_331 0 a0 a1 a2 778 d) (v_285 769 a0 a1 a2 (g_331 0 a0 a1 a2 778 d)) := by
  have hg := h.1.2.2.1.1
  have pw := p_331 (E := E) (d := d) (x0 := 0) (x1 := a0) (x2 := a1) (x3 := a2) (x4 := 778) h.1.1 rfl rfl h0 h1 h2 ⟨hT.t 10 0 (by decide), trivial, trivial, trivial, hT.t 30 778 (by decide), trivial⟩ h.1.2.1
  have hS1 := pw.2.2.2
  have hh1 := pw.1
  have F1 := pw.2.2.1
  have e70 : (g_331 0 a0 a1 a2 778 d) 770 = d 770 := F1 770 (by decide)
  have pr := p_285 (E := E) (d := (g_331 0 a0 a1 a2 778 d)) (x0 := 769) (x1 := a0) (x2 := a1) (x3 := a2) hS1 rfl h0 h1 h2 ⟨hT.t 11 769 (by decide), trivial, trivial, trivial, trivial⟩ hh1
  have hS2 := pr.2.2
  have hh2 := pr.1
  have e78 : (g_285 769 a0 a1 a2 (g_331 0 a0 a1 a2 778 d)) 778 = (g_331 0 a0 a1 a2 778 d) 778 := pr.2.1 778 (by decide)
  have rv := pw.2.1
  have op : OPR d (g_331 0 a0 a1 a2 778 d) (g_285 769 a0 a1 a2 (g_331 0 a0 a1 a2 778 d)) (v_331 0 a0 a1 a2 778 d) (v_285 769 a0 a1 a2 (g_331 0 a0 a1 a2 778 d)) := opGive hT h.1
  exact ⟨hS1, e70, ⟨⟨hS2, hh2, op.1⟩, op.2.2.2 h.2⟩, e78, rv, op⟩
theorem iv_38 {E : mO × tW} {d : mD} {a0 : Int} {a1 : Int} (hT : TKL E) (h : Inv2 E d) (h0 : inI a0) (h1 : inI a1) : Safe (g_332 0 a0 a1 778 d) ∧ (g_332 0 a0 a1 778 d) 770 = d 770 ∧ Inv2 E (g_286 769 a0 a1 (g_332 0 a0 a1 778 d)) ∧ (g_286 769 a0 a1 (g_332 0 a0 a1 778 d)) 778 = (g_332 0 a0 a1 778 d) 778 ∧ (0 ≤ (v_332 0 a0 a1 778 d) ∧ (v_332 0 a0 a1 778 d) ≤ 3) ∧ OPR d (g_332 0 a0 a1 778 d) (g_286 769 a0 a1 (g_332 0 a0 a1 778 d)) (v_332 0 a0 a1 778 d) (v_286 769 a0 a1 (g_332 0 a0 a1 778 d)) := by
  have hg := h.1.2.2.1.1
  have pw := p_332 (E := E) (d := d) (x0 := 0) (x1 := a0) (x2 := a1) (x3 := 778) h.1.1 rfl rfl h0 h1 ⟨hT.t 10 0 (by decide), trivial, trivial, hT.t 30 778 (by decide), trivial⟩ h.1.2.1
  have hS1 := pw.2.2.2
  have hh1 := pw.1
  have F1 := pw.2.2.1
  have e70 : (g_332 0 a0 a1 778 d) 770 = d 770 := F1 770 (by decide)
  have pr := p_286 (E := E) (d := (g_332 0 a0 a1 778 d)) (x0 := 769) (x1 := a0) (x2 := a1) hS1 rfl h0 h1 (by rw [n7691, e70]; exact rkI hg) ⟨hT.t 11 769 (by decide), trivial, trivial, trivial⟩ hh1
  have hS2 := pr.2.2
  have hh2 := pr.1
  have e78 : (g_286 769 a0 a1 (g_332 0 a0 a1 778 d)) 778 = (g_332 0 a0 a1 778 d) 778 := pr.2.1 778 (by decide)
  have rv := pw.2.1
  have op : OPR d (g_332 0 a0 a1 778 d) (g_286 769 a0 a1 (g_332 0 a0 a1 778 d)) (v_332 0 a0 a1 778 d) (v_286 769 a0 a1 (g_332 0 a0 a1 778 d)) := opOffer hT h.1
  exact ⟨hS1, e70, ⟨⟨hS2, hh2, op.1⟩, op.2.2.2 h.2⟩, e78, rv, op⟩
theorem iv_39 {E : mO × tW} {d : mD} {a0 : Int} (hT : TKL E) (h : Inv2 E d) (h0 : inI a0) : Safe (g_333 0 a0 778 d) ∧ (g_333 0 a0 778 d) 770 = d 770 ∧ Inv2 E (g_287 769 a0 (g_333 0 a0 778 d)) ∧ (g_287 769 a0 (g_333 0 a0 778 d)) 778 = (g_333 0 a0 778 d) 778 ∧ (0 ≤ (v_333 0 a0 778 d) ∧ (v_333 0 a0 778 d) ≤ 3) ∧ OPR d (g_333 0 a0 778 d) (g_287 769 a0 (g_333 0 a0 778 d)) (v_333 0 a0 778 d) (v_287 769 a0 (g_333 0 a0 778 d)) := by
  have hg := h.1.2.2.1.1
  have pw := p_333 (E := E) (d := d) (x0 := 0) (x1 := a0) (x2 := 778) h.1.1 rfl rfl h0 ⟨hT.t 10 0 (by decide), trivial, hT.t 30 778 (by decide), trivial⟩ h.1.2.1
  have hS1 := pw.2.2.2
  have hh1 := pw.1
  have F1 := pw.2.2.1
  have e70 : (g_333 0 a0 778 d) 770 = d 770 := F1 770 (by decide)
  have pr := p_287 (E := E) (d := (g_333 0 a0 778 d)) (x0 := 769) (x1 := a0) hS1 rfl h0 ⟨hT.t 11 769 (by decide), trivial, trivial⟩ hh1
  have hS2 := pr.2.2
  have hh2 := pr.1
  have e78 : (g_287 769 a0 (g_333 0 a0 778 d)) 778 = (g_333 0 a0 778 d) 778 := pr.2.1 778 (by decide)
  have rv := pw.2.1
  have op : OPR d (g_333 0 a0 778 d) (g_287 769 a0 (g_333 0 a0 778 d)) (v_333 0 a0 778 d) (v_287 769 a0 (g_333 0 a0 778 d)) := opDep hT h.1
  exact ⟨hS1, e70, ⟨⟨hS2, hh2, op.1⟩, op.2.2.2 h.2⟩, e78, rv, op⟩
theorem iv_40 {E : mO × tW} {d : mD} {a0 : Int} {a1 : Int} (hT : TKL E) (h : Inv2 E d) (h0 : inI a0) (h1 : inI a1) : Safe (g_334 0 a0 a1 778 d) ∧ (g_334 0 a0 a1 778 d) 770 = d 770 ∧ Inv2 E (g_288 769 a0 a1 (g_334 0 a0 a1 778 d)) ∧ (g_288 769 a0 a1 (g_334 0 a0 a1 778 d)) 778 = (g_334 0 a0 a1 778 d) 778 ∧ (0 ≤ (v_334 0 a0 a1 778 d) ∧ (v_334 0 a0 a1 778 d) ≤ 3) ∧ OPR d (g_334 0 a0 a1 778 d) (g_288 769 a0 a1 (g_334 0 a0 a1 778 d)) (v_334 0 a0 a1 778 d) (v_288 769 a0 a1 (g_334 0 a0 a1 778 d)) := by
  have hg := h.1.2.2.1.1
  have pw := p_334 (E := E) (d := d) (x0 := 0) (x1 := a0) (x2 := a1) (x3 := 778) h.1.1 rfl rfl h0 h1 ⟨hT.t 10 0 (by decide), trivial, trivial, hT.t 30 778 (by decide), trivial⟩ h.1.2.1
  have hS1 := pw.2.2.2
  have hh1 := pw.1
  have F1 := pw.2.2.1
  have e70 : (g_334 0 a0 a1 778 d) 770 = d 770 := F1 770 (by decide)
  have pr := pq_288 (E := E) (d := (g_334 0 a0 a1 778 d)) (x0 := 769) (x1 := a0) (x2 := a1) hS1 rfl h0 h1 (by rw [n7691, e70]; exact qoI hg) ⟨hT.t 11 769 (by decide), trivial, trivial, trivial⟩ hh1
  have hS2 := pr.2.2
  have hh2 := pr.1
  have e78 : (g_288 769 a0 a1 (g_334 0 a0 a1 778 d)) 778 = (g_334 0 a0 a1 778 d) 778 := pr.2.1 778 (by decide)
  have rv := pw.2.1
  have op : OPR d (g_334 0 a0 a1 778 d) (g_288 769 a0 a1 (g_334 0 a0 a1 778 d)) (v_334 0 a0 a1 778 d) (v_288 769 a0 a1 (g_334 0 a0 a1 778 d)) := opMerge hT h.1
  exact ⟨hS1, e70, ⟨⟨hS2, hh2, op.1⟩, op.2.2.2 h.2⟩, e78, rv, op⟩
theorem iv_41 {E : mO × tW} {d : mD} {a0 : Int} (hT : TKL E) (h : Inv2 E d) (h0 : inI a0) : Safe (g_335 0 a0 778 d) ∧ (g_335 0 a0 778 d) 770 = d 770 ∧ Inv2 E (g_289 769 a0 (g_335 0 a0 778 d)) ∧ (g_289 769 a0 (g_335 0 a0 778 d)) 778 = (g_335 0 a0 778 d) 778 ∧ (0 ≤ (v_335 0 a0 778 d) ∧ (v_335 0 a0 778 d) ≤ 3) ∧ OPR d (g_335 0 a0 778 d) (g_289 769 a0 (g_335 0 a0 778 d)) (v_335 0 a0 778 d) (v_289 769 a0 (g_335 0 a0 778 d)) := by
  have hg := h.1.2.2.1.1
  have pw := p_335 (E := E) (d := d) (x0 := 0) (x1 := a0) (x2 := 778) h.1.1 rfl rfl h0 ⟨hT.t 10 0 (by decide), trivial, hT.t 30 778 (by decide), trivial⟩ h.1.2.1
  have hS1 := pw.2.2.2
  have hh1 := pw.1
  have F1 := pw.2.2.1
  have e70 : (g_335 0 a0 778 d) 770 = d 770 := F1 770 (by decide)
  have pr := p_289 (E := E) (d := (g_335 0 a0 778 d)) (x0 := 769) (x1 := a0) hS1 rfl h0 ⟨hT.t 11 769 (by decide), trivial, trivial⟩ hh1
  have hS2 := pr.2.2
  have hh2 := pr.1
  have e78 : (g_289 769 a0 (g_335 0 a0 778 d)) 778 = (g_335 0 a0 778 d) 778 := pr.2.1 778 (by decide)
  have rv := pw.2.1
  have op : OPR d (g_335 0 a0 778 d) (g_289 769 a0 (g_335 0 a0 778 d)) (v_335 0 a0 778 d) (v_289 769 a0 (g_335 0 a0 778 d)) := opOpen hT h.1
  exact ⟨hS1, e70, ⟨⟨hS2, hh2, op.1⟩, op.2.2.2 h.2⟩, e78, rv, op⟩
theorem iv_42 {E : mO × tW} {d : mD}  (hT : TKL E) (h : Inv2 E d) : Safe (g_336 0 778 d) ∧ (g_336 0 778 d) 770 = d 770 ∧ Inv2 E (g_290 769 (g_336 0 778 d)) ∧ (g_290 769 (g_336 0 778 d)) 778 = (g_336 0 778 d) 778 ∧ (0 ≤ (v_336 0 778 d) ∧ (v_336 0 778 d) ≤ 3) ∧ OPR d (g_336 0 778 d) (g_290 769 (g_336 0 778 d)) (v_336 0 778 d) (v_290 769 (g_336 0 778 d)) := by
  have hg := h.1.2.2.1.1
  have pw := p_336 (E := E) (d := d) (x0 := 0) (x1 := 778) h.1.1 rfl rfl ⟨hT.t 10 0 (by decide), hT.t 30 778 (by decide), trivial⟩ h.1.2.1
  have hS1 := pw.2.2.2
  have hh1 := pw.1
  have F1 := pw.2.2.1
  have e70 : (g_336 0 778 d) 770 = d 770 := F1 770 (by decide)
  have pr := p_290 (E := E) (d := (g_336 0 778 d)) (x0 := 769) hS1 rfl ⟨hT.t 11 769 (by decide), trivial⟩ hh1
  have hS2 := pr.2.2
  have hh2 := pr.1
  have e78 : (g_290 769 (g_336 0 778 d)) 778 = (g_336 0 778 d) 778 := pr.2.1 778 (by decide)
  have rv := pw.2.1
  have op : OPR d (g_336 0 778 d) (g_290 769 (g_336 0 778 d)) (v_336 0 778 d) (v_290 769 (g_336 0 778 d)) := opAddP h.1.2.2
  exact ⟨hS1, e70, ⟨⟨hS2, hh2, op.1⟩, op.2.2.2 h.2⟩, e78, rv, op⟩
theorem iv_43 {E : mO × tW} {d : mD} {a0 : Int} {a1 : Int} (hT : TKL E) (h : Inv2 E d) (h0 : inI a0) (h1 : inI a1) : Safe (g_337 0 a0 a1 778 d) ∧ (g_337 0 a0 a1 778 d) 770 = d 770 ∧ Inv2 E (g_293 769 a0 a1 (g_337 0 a0 a1 778 d)) ∧ (g_293 769 a0 a1 (g_337 0 a0 a1 778 d)) 778 = (g_337 0 a0 a1 778 d) 778 ∧ (0 ≤ (v_337 0 a0 a1 778 d) ∧ (v_337 0 a0 a1 778 d) ≤ 3) ∧ OPR d (g_337 0 a0 a1 778 d) (g_293 769 a0 a1 (g_337 0 a0 a1 778 d)) (v_337 0 a0 a1 778 d) (v_293 769 a0 a1 (g_337 0 a0 a1 778 d)) := by
  have hg := h.1.2.2.1.1
  have pw := p_337 (E := E) (d := d) (x0 := 0) (x1 := a0) (x2 := a1) (x3 := 778) hT.1 h.1.1 rfl rfl h0 h1 ⟨hT.t 10 0 (by decide), trivial, trivial, hT.t 30 778 (by decide), trivial⟩ h.1.2.1
  have hS1 := pw.2.2.2
  have hh1 := pw.1
  have F1 := pw.2.2.1
  have e70 : (g_337 0 a0 a1 778 d) 770 = d 770 := F1 770 (by decide)
  have pr := p_293 (E := E) (d := (g_337 0 a0 a1 778 d)) (x0 := 769) (x1 := a0) (x2 := a1) hS1 rfl h0 h1 ⟨hT.t 11 769 (by decide), trivial, trivial, trivial⟩ hh1
  have hS2 := pr.2.2
  have hh2 := pr.1
  have e78 : (g_293 769 a0 a1 (g_337 0 a0 a1 778 d)) 778 = (g_337 0 a0 a1 778 d) 778 := pr.2.1 778 (by decide)
  have rv := pw.2.1
  have op : OPR d (g_337 0 a0 a1 778 d) (g_293 769 a0 a1 (g_337 0 a0 a1 778 d)) (v_337 0 a0 a1 778 d) (v_293 769 a0 a1 (g_337 0 a0 a1 778 d)) := opSet hT h.1
  exact ⟨hS1, e70, ⟨⟨hS2, hh2, op.1⟩, op.2.2.2 h.2⟩, e78, rv, op⟩
theorem iv_44 {E : mO × tW} {d : mD}  (hT : TKL E) (h : Inv2 E d) : Safe (g_338 0 778 d) ∧ (g_338 0 778 d) 770 = d 770 ∧ Inv2 E (g_294 769 (g_338 0 778 d)) ∧ (g_294 769 (g_338 0 778 d)) 778 = (g_338 0 778 d) 778 ∧ (0 ≤ (v_338 0 778 d) ∧ (v_338 0 778 d) ≤ 3) ∧ OPR d (g_338 0 778 d) (g_294 769 (g_338 0 778 d)) (v_338 0 778 d) (v_294 769 (g_338 0 778 d)) := by
  have hg := h.1.2.2.1.1
  have pw := p_338 (E := E) (d := d) (x0 := 0) (x1 := 778) h.1.1 rfl rfl ⟨hT.t 10 0 (by decide), hT.t 30 778 (by decide), trivial⟩ h.1.2.1
  have hS1 := pw.2.2.2
  have hh1 := pw.1
  have F1 := pw.2.2.1
  have e70 : (g_338 0 778 d) 770 = d 770 := F1 770 (by decide)
  have pr := p_294 (E := E) (d := (g_338 0 778 d)) (x0 := 769) hS1 rfl ⟨hT.t 11 769 (by decide), trivial⟩ hh1
  have hS2 := pr.2.2
  have hh2 := pr.1
  have e78 : (g_294 769 (g_338 0 778 d)) 778 = (g_338 0 778 d) 778 := pr.2.1 778 (by decide)
  have rv := pw.2.1
  have op : OPR d (g_338 0 778 d) (g_294 769 (g_338 0 778 d)) (v_338 0 778 d) (v_294 769 (g_338 0 778 d)) := opUndo h.1.2.2
  exact ⟨hS1, e70, ⟨⟨hS2, hh2, op.1⟩, op.2.2.2 h.2⟩, e78, rv, op⟩
theorem iv_45 {E : mO × tW} {d : mD} {a0 : Int} (hT : TKL E) (h : Inv2 E d) (h0 : inI a0) : Safe (g_339 0 a0 d) ∧ (g_339 0 a0 d) 770 = d 770 ∧ Inv2 E (g_295 769 a0 (g_339 0 a0 d)) ∧ (g_295 769 a0 (g_339 0 a0 d)) 778 = (g_339 0 a0 d) 778 ∧ (0 ≤ (v_339 0 a0 d) ∧ (v_339 0 a0 d) ≤ 3) ∧ OPV d (g_295 769 a0 (g_339 0 a0 d)) (v_339 0 a0 d) := by
  have hg := h.1.2.2.1.1
  have pw := p_339 (E := E) (d := d) (x0 := 0) (x1 := a0) h.1.1 rfl h0 ⟨hT.t 10 0 (by decide), trivial, trivial⟩ h.1.2.1
  have hS1 := pw.2.2.2
  have hh1 := pw.1
  have F1 := pw.2.2.1
  have e70 : (g_339 0 a0 d) 770 = d 770 := F1 770 (by decide)
  have pr := p_295 (E := E) (d := (g_339 0 a0 d)) (x0 := 769) (x1 := a0) hS1 rfl h0 ⟨hT.t 11 769 (by decide), trivial, trivial⟩ hh1
  have hS2 := pr.2.2
  have hh2 := pr.1
  have e78 : (g_295 769 a0 (g_339 0 a0 d)) 778 = (g_339 0 a0 d) 778 := pr.2.1 778 (by decide)
  have rv := pw.2.1
  have op : OPV d (g_295 769 a0 (g_339 0 a0 d)) (v_339 0 a0 d) := opSave h.1.2.2
  exact ⟨hS1, e70, ⟨⟨hS2, hh2, op.1⟩, op.2.2 h.2⟩, e78, rv, op⟩
theorem iv_46 {E : mO × tW} {d : mD} {a0 : Int} (hT : TKL E) (h : Inv2 E d) (h0 : inI a0) : Safe (g_340 0 a0 d) ∧ (g_340 0 a0 d) 770 = d 770 ∧ Inv2 E (g_296 769 a0 (g_340 0 a0 d)) ∧ (g_296 769 a0 (g_340 0 a0 d)) 778 = (g_340 0 a0 d) 778 ∧ (0 ≤ (v_340 0 a0 d) ∧ (v_340 0 a0 d) ≤ 3) ∧ OPV d (g_296 769 a0 (g_340 0 a0 d)) (v_340 0 a0 d) := by
  have hg := h.1.2.2.1.1
  have pw := p_340 (E := E) (d := d) (x0 := 0) (x1 := a0) h.1.1 rfl h0 ⟨hT.t 10 0 (by decide), trivial, trivial⟩ h.1.2.1
  have hS1 := pw.2.2.2
  have hh1 := pw.1
  have F1 := pw.2.2.1
  have e70 : (g_340 0 a0 d) 770 = d 770 := F1 770 (by decide)
  have pr := p_296 (E := E) (d := (g_340 0 a0 d)) (x0 := 769) (x1 := a0) hS1 rfl h0 ⟨hT.t 11 769 (by decide), trivial, trivial⟩ hh1
  have hS2 := pr.2.2
  have hh2 := pr.1
  have e78 : (g_296 769 a0 (g_340 0 a0 d)) 778 = (g_340 0 a0 d) 778 := pr.2.1 778 (by decide)
  have rv := pw.2.1
  have op : OPV d (g_296 769 a0 (g_340 0 a0 d)) (v_340 0 a0 d) := opRest h.1.2.2
  exact ⟨hS1, e70, ⟨⟨hS2, hh2, op.1⟩, op.2.2 h.2⟩, e78, rv, op⟩
/-! ===== behind the constructors class and reference are in step ===== -/
noncomputable def ckc (a i : Nat) (c : Int) : Bool := (Nat.blt a 779 && !(Nat.beq (acell aM1 a).1 999)) && (Nat.beq (aget (acell aM1 a) i).1 0 && decide ((aget (acell aM1 a) i).2 = c))
theorem cell {ρ : Nat → Int} {kn : Bool} {G : mG} {d : mD} (hM : gM ρ aM1 779 kn G d) {a i : Nat} {c : Int} (h : ckc a i c = true) : d (a : Int) (i : Int) = c := by
  unfold ckc at h
  simp only [Bool.and_eq_true] at h
  obtain ⟨⟨h1, h2⟩, h3, h4⟩ := h
  have h9 : (acell aM1 a).1 ≠ 999 := fun e => by
    rw [e] at h2
    cases h2
  obtain ⟨-, -, g⟩ := hM.2 a (Nat.blt_eq.mp h1) h9
  have g := g i
  have e : aget (acell aM1 a) i = (0, c) := Prod.ext (Nat.eq_of_beq_eq_true h3) (of_decide_eq_true h4)
  rw [e] at g
  exact g
noncomputable def tokC (p : Nat × Int) : Bool := (decide (0 ≤ p.2) && Nat.blt p.2.toNat 779) && (Nat.beq (acell aM1 p.2.toNat).1 (tk p.1) && !(Nat.beq (acell aM1 p.2.toNat).1 999)) && (Nat.blt p.1 12 || decide (((acell aM1 p.2.toNat).2.1 : Int) = tl p.1))
theorem toks_ok : toks.all tokC = true := by decide +kernel
theorem tok_start {ρ : Nat → Int} {kn : Bool} {G : mG} {d : mD} (hM : gM ρ aM1 779 kn G d) : ∀ p, p ∈ toks → tokV (G.1, G.2.1) (.inr p) := fun p hp => by
  have h := List.all_eq_true.mp toks_ok p hp
  unfold tokC at h
  simp only [Bool.and_eq_true, Bool.or_eq_true] at h
  obtain ⟨⟨⟨h1, h2⟩, h3, h4⟩, h5⟩ := h
  have h1 := of_decide_eq_true h1
  have h2 := Nat.blt_eq.mp h2
  have h9 : (acell aM1 p.2.toNat).1 ≠ 999 := fun e => by
    rw [e] at h4
    cases h4
  obtain ⟨g1, g2, -⟩ := hM.2 p.2.toNat h2 h9
  have e : ((p.2.toNat : Nat) : Int) = p.2 := by omega
  rw [e] at g1 g2
  refine ⟨⟨h1, by omega⟩, ?_, fun h12 => ?_⟩
  · show G.1 p.2 = _
    rw [g1, Nat.eq_of_beq_eq_true h3]
  · show G.2.1 p.2 = _
    rw [g2]
    rcases h5 with h5 | h5
    · have := Nat.blt_eq.mp h5
      omega
    · exact of_decide_eq_true h5
theorem row0a : (List.range 12).all (fun i => ckc 770 i (if i = 1 then 20 else if i = 2 then 1 else if i = 3 then 1 else if i = 4 then 2 else if i = 5 then 5 else if i = 6 then 3 else if i = 7 then 2 else if i = 8 then 3 else 0)) = true := by decide +kernel
theorem row0t : (List.range 61).all (fun t => ckc 770 (452 + 24 * t + 7) 0) = true := by decide +kernel
theorem row0h : (List.range 3).all (fun p => (List.range 16).all (fun i => ckc (19 + 2 * p) i 0)) = true := by decide +kernel
theorem ci_start {ρ : Nat → Int} {kn : Bool} {G : mG} {d : mD} (hM : gM ρ aM1 779 kn G d) : CI d ∧ RP d := by
  have w0 : d 770 0 = 0 := cell hM (a := 770) (i := 0) (by decide +kernel)
  have w1 : d 770 1 = 20 := cell hM (a := 770) (i := 1) (by decide +kernel)
  have w2 : d 770 2 = 1 := cell hM (a := 770) (i := 2) (by decide +kernel)
  have w3 : d 770 3 = 1 := cell hM (a := 770) (i := 3) (by decide +kernel)
  have w4 : d 770 4 = 2 := cell hM (a := 770) (i := 4) (by decide +kernel)
  have w5 : d 770 5 = 5 := cell hM (a := 770) (i := 5) (by decide +kernel)
  have w6 : d 770 6 = 3 := cell hM (a := 770) (i := 6) (by decide +kernel)
  have w7 : d 770 7 = 2 := cell hM (a := 770) (i := 7) (by decide +kernel)
  have w8 : d 770 8 = 3 := cell hM (a := 770) (i := 8) (by decide +kernel)
  have w9 : d 770 9 = 0 := cell hM (a := 770) (i := 9) (by decide +kernel)
  have w10 : d 770 10 = 0 := cell hM (a := 770) (i := 10) (by decide +kernel)
  have w11 : d 770 11 = 0 := cell hM (a := 770) (i := 11) (by decide +kernel)
  have o0 : d 770 12 = 1 ∧ d 770 13 = 1 ∧ d 770 14 = 2 ∧ d 770 15 = 6 ∧ d 770 16 = 1 ∧ d 770 17 = 0 := ⟨cell hM (a := 770) (i := 12) (by decide +kernel), cell hM (a := 770) (i := 13) (by decide +kernel), cell hM (a := 770) (i := 14) (by decide +kernel), cell hM (a := 770) (i := 15) (by decide +kernel), cell hM (a := 770) (i := 16) (by decide +kernel), cell hM (a := 770) (i := 17) (by decide +kernel)⟩
  have o1 : d 770 80 = 2 ∧ d 770 81 = 1 ∧ d 770 82 = 1 ∧ d 770 83 = 4 ∧ d 770 84 = 1 ∧ d 770 85 = 0 := ⟨cell hM (a := 770) (i := 80) (by decide +kernel), cell hM (a := 770) (i := 81) (by decide +kernel), cell hM (a := 770) (i := 82) (by decide +kernel), cell hM (a := 770) (i := 83) (by decide +kernel), cell hM (a := 770) (i := 84) (by decide +kernel), cell hM (a := 770) (i := 85) (by decide +kernel)⟩
  have o18 : d 770 18 = 0 := cell hM (a := 770) (i := 18) (by decide +kernel)
  have o86 : d 770 86 = 0 := cell hM (a := 770) (i := 86) (by decide +kernel)
  have c0 : d 4 0 = 1 ∧ d 5 0 = 1 ∧ d 6 0 = 2 ∧ d 7 0 = 6 ∧ d 8 0 = 1 ∧ d 9 0 = 0 := ⟨cell hM (a := 4) (i := 0) (by decide +kernel), cell hM (a := 5) (i := 0) (by decide +kernel), cell hM (a := 6) (i := 0) (by decide +kernel), cell hM (a := 7) (i := 0) (by decide +kernel), cell hM (a := 8) (i := 0) (by decide +kernel), cell hM (a := 9) (i := 0) (by decide +kernel)⟩
  have c1 : d 4 1 = 2 ∧ d 5 1 = 1 ∧ d 6 1 = 1 ∧ d 7 1 = 4 ∧ d 8 1 = 1 ∧ d 9 1 = 0 := ⟨cell hM (a := 4) (i := 1) (by decide +kernel), cell hM (a := 5) (i := 1) (by decide +kernel), cell hM (a := 6) (i := 1) (by decide +kernel), cell hM (a := 7) (i := 1) (by decide +kernel), cell hM (a := 8) (i := 1) (by decide +kernel), cell hM (a := 9) (i := 1) (by decide +kernel)⟩
  have p0 : d 770 420 = 24 ∧ d 770 421 = 0 ∧ d 770 422 = 25 ∧ d 770 423 = 0 ∧ d 770 424 = 26 ∧ d 770 425 = 0 := ⟨cell hM (a := 770) (i := 420) (by decide +kernel), cell hM (a := 770) (i := 421) (by decide +kernel), cell hM (a := 770) (i := 422) (by decide +kernel), cell hM (a := 770) (i := 423) (by decide +kernel), cell hM (a := 770) (i := 424) (by decide +kernel), cell hM (a := 770) (i := 425) (by decide +kernel)⟩
  have q0 : d 12 0 = 24 ∧ d 12 1 = 25 ∧ d 12 2 = 26 ∧ d 13 0 = 0 ∧ d 13 1 = 0 ∧ d 13 2 = 0 := ⟨cell hM (a := 12) (i := 0) (by decide +kernel), cell hM (a := 12) (i := 1) (by decide +kernel), cell hM (a := 12) (i := 2) (by decide +kernel), cell hM (a := 13) (i := 0) (by decide +kernel), cell hM (a := 13) (i := 1) (by decide +kernel), cell hM (a := 13) (i := 2) (by decide +kernel)⟩
  have q1 : d 14 0 = 0 ∧ d 14 1 = 0 ∧ d 14 2 = 0 ∧ d 15 0 = 0 ∧ d 15 1 = 0 ∧ d 15 2 = 0 ∧ d 16 0 = 0 ∧ d 16 1 = 0 ∧ d 16 2 = 0 := ⟨cell hM (a := 14) (i := 0) (by decide +kernel), cell hM (a := 14) (i := 1) (by decide +kernel), cell hM (a := 14) (i := 2) (by decide +kernel), cell hM (a := 15) (i := 0) (by decide +kernel), cell hM (a := 15) (i := 1) (by decide +kernel), cell hM (a := 15) (i := 2) (by decide +kernel), cell hM (a := 16) (i := 0) (by decide +kernel), cell hM (a := 16) (i := 1) (by decide +kernel), cell hM (a := 16) (i := 2) (by decide +kernel)⟩
  have s0 : d 1 1 = 20 ∧ d 1 2 = 0 := ⟨cell hM (a := 1) (i := 1) (by decide +kernel), cell hM (a := 1) (i := 2) (by decide +kernel)⟩
  have s1 : d 2 0 = 1 ∧ d 2 1 = 1 ∧ d 2 2 = 2 ∧ d 2 3 = 5 ∧ d 2 4 = 3 := ⟨cell hM (a := 2) (i := 0) (by decide +kernel), cell hM (a := 2) (i := 1) (by decide +kernel), cell hM (a := 2) (i := 2) (by decide +kernel), cell hM (a := 2) (i := 3) (by decide +kernel), cell hM (a := 2) (i := 4) (by decide +kernel)⟩
  have z1 : d 3 0 = 2 ∧ d 11 0 = 3 ∧ d 50 0 = 0 ∧ d 58 0 = 0 ∧ d 58 5 = 0 := ⟨cell hM (a := 3) (i := 0) (by decide +kernel), cell hM (a := 11) (i := 0) (by decide +kernel), cell hM (a := 50) (i := 0) (by decide +kernel), cell hM (a := 58) (i := 0) (by decide +kernel), cell hM (a := 58) (i := 5) (by decide +kernel)⟩
  have z2 : d 64 1 = 0 ∧ d 64 2 = 0 ∧ d 769 7 = 0 ∧ d 769 9 = 0 ∧ d 578 1 = 0 := ⟨cell hM (a := 64) (i := 1) (by decide +kernel), cell hM (a := 64) (i := 2) (by decide +kernel), cell hM (a := 769) (i := 7) (by decide +kernel), cell hM (a := 769) (i := 9) (by decide +kernel), cell hM (a := 578) (i := 1) (by decide +kernel)⟩
  have z3 : d 571 0 = 0 ∧ d 571 1 = 0 ∧ d 775 0 = 0 ∧ d 775 1 = 0 := ⟨cell hM (a := 571) (i := 0) (by decide +kernel), cell hM (a := 571) (i := 1) (by decide +kernel), cell hM (a := 775) (i := 0) (by decide +kernel), cell hM (a := 775) (i := 1) (by decide +kernel)⟩
  have t0 : ∀ t : Int, 0 ≤ t → t ≤ 60 → d 770 (452 + 24 * t + 7) = 0 := fun t a b => by
    obtain ⟨n, rfl⟩ := Int.eq_ofNat_of_zero_le a
    have := cell hM (List.all_eq_true.mp row0t n (List.mem_range.mpr (by omega)))
    rw [show (452 + 24 * (n : Int) + 7) = ((452 + 24 * n + 7 : Nat) : Int) by omega]
    exact this
  have h0 : ∀ p i : Int, 0 ≤ p → p < 3 → 0 ≤ i → i < 16 → d (19 + 2 * p) i = 0 := fun p i a b x y => by
    obtain ⟨n, rfl⟩ := Int.eq_ofNat_of_zero_le a
    obtain ⟨m, rfl⟩ := Int.eq_ofNat_of_zero_le x
    have := cell hM (List.all_eq_true.mp (List.all_eq_true.mp row0h n (List.mem_range.mpr (by omega))) m (List.mem_range.mpr (by omega)))
    rw [show (19 + 2 * (n : Int)) = ((19 + 2 * n : Nat) : Int) by omega]
    exact this
  have two : ∀ o : Int, 0 ≤ o → o < 2 → o = 0 ∨ o = 1 := fun o a b => by omega
  have thr : ∀ p : Int, 0 ≤ p → p < 3 → p = 0 ∨ p = 1 ∨ p = 2 := fun p a b => by omega
  have ib0 : ∀ q : Nat, ib 0 q = true → False := fun q h => by
    rw [ib_zero] at h
    cases h
  have lb0 : ∀ q : Nat, lb 0 q = true → False := fun q h => by
    rw [lb_zero] at h
    cases h
  refine ⟨⟨⟨⟨⟨by omega, by omega, by omega, by omega, by omega, by omega, by omega, by omega, by omega, by omega, by omega, by omega⟩, ?_, ?_, fun t a b => by omega, fun t a b => by omega, fun k a b => by omega, ?_, fun k a b => by omega⟩, fun t a b => by omega, ?_, by omega, ?_⟩, noneH (by omega) z2.2.1 z2.2.2.1, ?_, by omega, by omega, fun i a b => by omega⟩, ?_⟩
  · intro o a b
    rw [w7] at b
    rcases two o a b with h | h
    · subst h
      show (1 ≤ d 770 13 ∧ d 770 13 ≤ 4) ∧ (1 ≤ d 770 14 ∧ d 770 14 ≤ 6) ∧ (1 ≤ d 770 15 ∧ d 770 15 ≤ 20) ∧ (d 770 16 = 0 ∨ d 770 16 = 1) ∧ (0 ≤ d 770 17 ∧ d 770 17 ≤ 16) ∧ (d 770 16 = 0 → d 770 17 = 0) ∧ d 770 18 = csum (fun t => if d 770 (452 + 24 * t + 4) = 1 ∧ d 770 (452 + 24 * t + 1) = 0 then 1 else 0) (d 770 9).toNat
      have e : csum (fun t => if d 770 (452 + 24 * t + 4) = 1 ∧ d 770 (452 + 24 * t + 1) = 0 then 1 else 0) (d 770 9).toNat = 0 := by rw [w9]; rfl
      rw [e]
      omega
    · subst h
      show (1 ≤ d 770 81 ∧ d 770 81 ≤ 4) ∧ (1 ≤ d 770 82 ∧ d 770 82 ≤ 6) ∧ (1 ≤ d 770 83 ∧ d 770 83 ≤ 20) ∧ (d 770 84 = 0 ∨ d 770 84 = 1) ∧ (0 ≤ d 770 85 ∧ d 770 85 ≤ 16) ∧ (d 770 84 = 0 → d 770 85 = 0) ∧ d 770 86 = csum (fun t => if d 770 (452 + 24 * t + 4) = 1 ∧ d 770 (452 + 24 * t + 1) = 1 then 1 else 0) (d 770 9).toNat
      have e : csum (fun t => if d 770 (452 + 24 * t + 4) = 1 ∧ d 770 (452 + 24 * t + 1) = 1 then 1 else 0) (d 770 9).toNat = 0 := by rw [w9]; rfl
      rw [e]
      omega
  · intro o a b k x y
    rw [w7] at b
    rcases two o a b with h | h
    · subst h
      have y : k < d 770 17 := y
      omega
    · subst h
      have y : k < d 770 85 := y
      omega
  · rw [w10, w11]
    rfl
  · intro p a b
    rw [w8] at b
    have e : C2 (d 770) = 0 := by
      unfold C2
      rw [w10]
      rfl
    rw [e]
    rcases thr p a b with h | h | h
    · subst h
      show 0 ≤ d 770 421 ∧ d 770 421 ≤ 99 * 0
      omega
    · subst h
      show 0 ≤ d 770 423 ∧ d 770 423 ≤ 99 * 0
      omega
    · subst h
      show 0 ≤ d 770 425 ∧ d 770 425 ≤ 99 * 0
      omega
  · refine ⟨⟨?_, ?_, ?_⟩, ⟨?_, ?_⟩, ?_, ⟨?_, ?_⟩, ⟨?_, fun t a b => by omega⟩, fun t a b => by omega, ⟨?_, fun k a b => by omega⟩, ⟨?_, fun k a b => by omega⟩, ?_, ?_⟩
    · rw [s0.1, w1]
    · rw [s0.2, w0]
    · intro k a b
      have hk : k = 0 ∨ k = 1 ∨ k = 2 ∨ k = 3 ∨ k = 4 := by omega
      rcases hk with h | h | h | h | h
      · subst h
        show d 2 0 = d 770 2
        omega
      · subst h
        show d 2 1 = d 770 3
        omega
      · subst h
        show d 2 2 = d 770 4
        omega
      · subst h
        show d 2 3 = d 770 5
        omega
      · subst h
        show d 2 4 = d 770 6
        omega
    · show d 3 0 = d 770 7
      omega
    · intro o a b
      rw [w7] at b
      rcases two o a b with h | h
      · subst h
        show (okN (d 4 0) ∧ nm (d 4 0) = d 770 12) ∧ d 5 0 = d 770 13 ∧ d 6 0 = d 770 14 ∧ d 7 0 = d 770 15 ∧ d 8 0 = d 770 16 ∧ d 9 0 = d 770 17
        rw [c0.1, o0.1]
        exact ⟨⟨by unfold okN; decide, by decide⟩, by omega, by omega, by omega, by omega, by omega⟩
      · subst h
        show (okN (d 4 1) ∧ nm (d 4 1) = d 770 80) ∧ d 5 1 = d 770 81 ∧ d 6 1 = d 770 82 ∧ d 7 1 = d 770 83 ∧ d 8 1 = d 770 84 ∧ d 9 1 = d 770 85
        rw [c1.1, o1.1]
        exact ⟨⟨by unfold okN; decide, by decide⟩, by omega, by omega, by omega, by omega, by omega⟩
    · intro o a b k x y
      rw [w7] at b
      rcases two o a b with h | h
      · subst h
        have y : k < d 770 17 := y
        omega
      · subst h
        have y : k < d 770 85 := y
        omega
    · show d 11 0 = d 770 8
      omega
    · intro p a b
      rw [w8] at b
      rcases thr p a b with h | h | h
      · subst h
        show (okN (d 12 0) ∧ nm (d 12 0) = d 770 420) ∧ d 13 0 = d 770 421
        rw [q0.1, p0.1]
        exact ⟨⟨by unfold okN; decide, by decide⟩, by omega⟩
      · subst h
        show (okN (d 12 1) ∧ nm (d 12 1) = d 770 422) ∧ d 13 1 = d 770 423
        rw [q0.2.1, p0.2.2.1]
        exact ⟨⟨by unfold okN; decide, by decide⟩, by omega⟩
      · subst h
        show (okN (d 12 2) ∧ nm (d 12 2) = d 770 424) ∧ d 13 2 = d 770 425
        rw [q0.2.2.1, p0.2.2.2.2.1]
        exact ⟨⟨by unfold okN; decide, by decide⟩, by omega⟩
    · show d 50 0 = d 770 9
      omega
    · show d 58 0 = d 770 10
      omega
    · show d 58 5 = d 770 11
      omega
    · intro p a b
      rw [w8] at b
      have e1 : madeR (d 770) p = 0 := by
        unfold madeR
        rw [w10]
        rfl
      have e2 : attR (d 770) p = 0 := by
        unfold attR
        rw [w9]
        rfl
      rw [e1, e2]
      have e3 : d (1 + 13) p = 0 ∧ d (1 + 14) p = 0 ∧ d (1 + 15) p = 0 := by
        show d 14 p = 0 ∧ d 15 p = 0 ∧ d 16 p = 0
        rcases thr p a b with h | h | h
        · subst h; omega
        · subst h; omega
        · subst h; omega
      refine ⟨e3.1, e3.2.1, fun q x y => ?_⟩
      rw [e3.2.2]
      exact ⟨fun h => (ib0 _ h).elim, fun ⟨t, u, v, _⟩ => by omega⟩
    · intro p a b h x y
      rw [w8] at b
      have e : d (1 + 18 + 2 * p) (h / 64) = 0 := by
        rw [show (1 : Int) + 18 = 19 by decide]
        exact h0 p (h / 64) a b (by omega) (by omega)
      rw [e]
      exact ⟨fun h => (lb0 _ h).elim, fun ⟨t, u, v, _⟩ => by omega⟩
  · intro j hj
    rcases hj with h | h
    · subst h
      exact ⟨by omega, fun h => absurd z3.2.2.1 h⟩
    · subst h
      exact ⟨by omega, fun h => absurd z3.2.2.2 h⟩
  · have r1 : d 576 2 = 0 := cell hM (a := 576) (i := 2) (by decide +kernel)
    have r2 : d 576 3 = -1 := cell hM (a := 576) (i := 3) (by decide +kernel)
    have r3 : d 769 11 = 0 := cell hM (a := 769) (i := 11) (by decide +kernel)
    have r4 : d 769 12 = -1 := cell hM (a := 769) (i := 12) (by decide +kernel)
    exact ⟨RW.new (fun t a b => Or.inr (by rw [t0 t a b]; decide)) z2.2.2.1 z3.2.2.1 z3.2.2.2, by omega, by omega⟩
/-! ===== queries: setting, office, queued ===== -/
def QP (d1 d2 : mD) (v vr : Int) : Prop := d2 769 0 = v ∧ (v = 0 → d1 778 0 = vr ∧ inI vr)
theorem QP.fail {d : mD} {c vr : Int} (hc : ¬ c = 0) : QP d (mset d 769 0 c) c vr := ⟨ms_e rfl rfl, fun z => absurd z hc⟩
theorem QP.ok {d : mD} {x vr : Int} (h : x = vr) (hr : -100000 ≤ x ∧ x ≤ 100000) : QP (mset d 778 0 x) (mset (mset d 778 0 x) 769 0 0) 0 vr := ⟨ms_e rfl rfl, fun _ => ⟨by rw [ms_e rfl rfl]; exact h, by rw [← h]; exact inI.of hr⟩⟩
theorem o778 {d : mD} {x : Int} {b : Int} (h : ¬ b = 778) : mset d 778 0 x b = d b := by
  funext j
  exact ms_a h
theorem o769 {d : mD} {x : Int} {b : Int} (h : ¬ b = 769) : mset d 769 0 x b = d b := by
  funext j
  exact ms_a h
theorem v176n {a n : Int} {d : mD} (h : ∃ m, n = m - 1) : v_176 a 0 n d = if 0 ≤ a ∧ a < n + 1 then 1 else 0 := by
  rw [v176]
  by_cases c : 0 ≤ a ∧ a < n + 1
  · rw [if_pos c, if_pos (by omega)]
  · rw [if_neg c, if_neg (by omega)]
theorem qpSetting {d : mD} {a : Int} (hk : OKR 1 d (d 770)) : QP (g_306 0 a 778 d) (g_240 769 a (g_306 0 a 778 d)) (v_306 0 a 778 d) (v_240 769 a (g_306 0 a 778 d)) := by
  unfold v_306 g_306
  rw [n01, show (1 : Int) + 1 = 2 by decide, ifR, ifR]
  have v04 : ∀ D, v_176 a 0 4 D = if 0 ≤ a ∧ a < 5 then 1 else 0 := fun D => by
    rw [v176]
    by_cases c : 0 ≤ a ∧ a < 5
    · rw [if_pos c, if_pos (by omega)]
    · rw [if_neg c, if_neg (by omega)]
  by_cases c : 0 ≤ a ∧ a < 5
  · rw [if_pos c, if_pos c]
    have e : g_240 769 a (mset d 778 0 (d 2 a)) = mset (mset d 778 0 (d 2 a)) 769 0 0 ∧ v_240 769 a (mset d 778 0 (d 2 a)) = d 770 (2 + a) := by
      unfold g_240 v_240
      rw [v04, if_pos c, if_neg (by decide), if_neg (by decide), n7691, ms_a (by decide)]
      exact ⟨rfl, rfl⟩
    rw [e.1, e.2]
    exact QP.ok (hk.2.2.2.2.1.2.2 a c.1 c.2) (oldB hk.1 hk.2.2.2.2 c)
  · rw [if_neg c, if_neg c]
    have e : g_240 769 a d = mset d 769 0 1 := by
      unfold g_240
      rw [v04, if_neg c, if_pos rfl]
    rw [e]
    exact QP.fail (by decide)
theorem v103 {d : mD} {w : Row} {o : Int} (hg : GG w) (h : Rel 1 d w) : v_103 50 o d = csum (fun t => if w (452 + 24 * t + 4) = 1 ∧ w (452 + 24 * t + 1) = o then 1 else 0) (w 9).toNat := by
  obtain ⟨r1, r2⟩ := h.2.2.2.2.1
  have n9 := hg.1.2.2.1
  have r1 : d 50 0 = w 9 := r1
  unfold v_103
  refine cnt0 (L := fun n a k => lp_103_4 50 o n a k d) n9.1 (by omega) (fun n a k hk => ?_) (fun n a k x y => ?_)
  · cases n with
    | zero =>
      show st_103_4 50 o _ a k d = a
      unfold st_103_4
      rw [if_neg (by omega)]
    | succ n =>
      show st_103_4 50 o _ a k d = a
      unfold st_103_4
      rw [if_neg (by omega)]
  · obtain ⟨t1, t2, t3, t4, t5⟩ := r2 k x y
    have t5 : d 55 k = w (452 + 24 * k + 4) := t5
    have t2 : d 52 k = w (452 + 24 * k + 1) := t2
    show st_103_4 50 o _ a k d = _
    unfold st_103_4
    rw [if_pos (by omega), show (50 : Int) + 5 = 55 by decide, show (50 : Int) + 2 = 52 by decide, t5, t2]
    by_cases c1 : w (452 + 24 * k + 4) = 1
    · by_cases c2 : w (452 + 24 * k + 1) = o
      · rw [if_pos c1, if_pos c2, if_pos ⟨c1, c2⟩]
      · rw [if_pos c1, if_neg c2, if_neg (fun z => c2 z.2)]
    · rw [if_neg c1, if_neg (fun z => c1 z.1)]
theorem qpOffice {d : mD} {a b : Int} (hk : OKR 1 d (d 770)) : QP (g_307 0 a b 778 d) (g_241 769 a b (g_307 0 a b 778 d)) (v_307 0 a b 778 d) (v_241 769 a b (g_307 0 a b 778 d)) := by
  obtain ⟨hg, -, -, -, hr⟩ := id hk
  have o7 : d 3 0 = d 770 7 := hr.2.1.1
  unfold v_307 g_307
  rw [n01, n49, show (1 : Int) + 2 = 3 by decide, show (3 : Int) + 2 = 5 by decide, show (3 : Int) + 3 = 6 by decide, show (3 : Int) + 4 = 7 by decide, show (3 : Int) + 5 = 8 by decide, show (3 : Int) + 6 = 9 by decide, o7, ifR, ifR]
  by_cases c : 0 ≤ a ∧ a < d 770 7
  · rw [if_pos c, if_pos c]
    obtain ⟨t0, t1, t2, t3, t4, t5⟩ := hr.2.1.2 a c.1 c.2
    have t1 : d 5 a = d 770 (12 + 68 * a + 1) := t1
    have t2 : d 6 a = d 770 (12 + 68 * a + 2) := t2
    have t3 : d 7 a = d 770 (12 + 68 * a + 3) := t3
    have t4 : d 8 a = d 770 (12 + 68 * a + 4) := t4
    have t5 : d 9 a = d 770 (12 + 68 * a + 5) := t5
    obtain ⟨u1, u2, u3, u4, u5, u6, u7⟩ := hg.2.1 a c.1 c.2
    have e : ∀ x, 0 ≤ b ∧ b ≤ 5 → g_241 769 a b (mset d 778 0 x) = mset (mset d 778 0 x) 769 0 0 ∧ v_241 769 a b (mset d 778 0 x) = d 770 (12 + 68 * a + 1 + b) := fun x hb => by
      unfold g_241 v_241
      rw [v236, o778 (by decide), if_pos c, v176, if_pos hb, if_neg (by decide), if_neg (by decide), if_neg (by decide), if_neg (by decide), n7691, o778 (by decide)]
      exact ⟨rfl, rfl⟩
    by_cases b0 : b = 0
    · subst b0
      rw [if_pos rfl, if_pos rfl, (e _ (by decide)).1, (e _ (by decide)).2]
      refine QP.ok ?_ (by omega)
      rw [t1, Int.add_zero]
    rw [if_neg b0, if_neg b0]
    by_cases b1 : b = 1
    · subst b1
      rw [if_pos rfl, if_pos rfl, (e _ (by decide)).1, (e _ (by decide)).2]
      refine QP.ok ?_ (by omega)
      rw [t2, show 12 + 68 * a + 1 + 1 = 12 + 68 * a + 2 by omega]
    rw [if_neg b1, if_neg b1]
    by_cases b2 : b = 2
    · subst b2
      rw [if_pos rfl, if_pos rfl, (e _ (by decide)).1, (e _ (by decide)).2]
      refine QP.ok ?_ (by omega)
      rw [t3, show 12 + 68 * a + 1 + 2 = 12 + 68 * a + 3 by omega]
    rw [if_neg b2, if_neg b2]
    by_cases b3 : b = 3
    · subst b3
      rw [if_pos rfl, if_pos rfl]
      have e3 : 12 + 68 * a + 1 + 3 = 12 + 68 * a + 4 := by omega
      by_cases z : d 8 a = 0
      · rw [if_pos z, (e _ (by decide)).1, (e _ (by decide)).2]
        refine QP.ok ?_ (by decide)
        rw [e3, ← t4, z]
      · rw [if_neg z, (e _ (by decide)).1, (e _ (by decide)).2]
        refine QP.ok ?_ (by decide)
        rw [e3]
        omega
    rw [if_neg b3, if_neg b3]
    by_cases b4 : b = 4
    · subst b4
      rw [if_pos rfl, if_pos rfl, (e _ (by decide)).1, (e _ (by decide)).2]
      refine QP.ok ?_ (by omega)
      rw [t5, show 12 + 68 * a + 1 + 4 = 12 + 68 * a + 5 by omega]
    rw [if_neg b4, if_neg b4]
    by_cases b5 : b = 5
    · subst b5
      rw [if_pos rfl, if_pos rfl, (e _ (by decide)).1, (e _ (by decide)).2]
      have sv := v103 (o := a) hg hr
      have r := csum_rng (f := fun t => if d 770 (452 + 24 * t + 4) = 1 ∧ d 770 (452 + 24 * t + 1) = a then 1 else 0) (n := (d 770 9).toNat) (B := 1) (fun i x y => by split <;> omega)
      have n9 := hg.1.2.2.1
      refine QP.ok ?_ ?_
      · rw [sv, show 12 + 68 * a + 1 + 5 = 12 + 68 * a + 6 by omega, u7]
      · rw [sv]
        omega
    rw [if_neg b5, if_neg b5]
    have e6 : g_241 769 a b d = mset d 769 0 2 := by
      unfold g_241
      have nb : ¬ (0 ≤ b ∧ b ≤ 5) := by omega
      have n1 : ¬ (1 : Int) = 0 := by decide
      rw [v236, if_pos c, if_neg n1, v176, if_neg nb, if_pos rfl]
    rw [e6]
    exact QP.fail (by decide)
  · rw [if_neg c, if_neg c]
    have e : g_241 769 a b d = mset d 769 0 1 := by
      unfold g_241
      rw [v236, if_neg c, if_pos rfl]
    rw [e]
    exact QP.fail (by decide)
theorem qpQueued {d : mD} {a b : Int} (hk : OKR 1 d (d 770)) : QP (g_308 0 a b 778 d) (g_242 769 a b (g_308 0 a b 778 d)) (v_308 0 a b 778 d) (v_242 769 a b (g_308 0 a b 778 d)) := by
  obtain ⟨hg, -, -, -, hr⟩ := id hk
  have o7 : d 3 0 = d 770 7 := hr.2.1.1
  have n7 := hg.1.1
  have n9 := hg.1.2.2.1
  unfold v_308 g_308
  rw [n01, show (1 : Int) + 2 = 3 by decide, show (3 : Int) + 6 = 9 by decide, o7, ifR, ifR, ifR, ifR]
  by_cases c : 0 ≤ a ∧ a < d 770 7
  · rw [if_pos c, if_pos c]
    have t5 : d 9 a = d 770 (12 + 68 * a + 5) := (hr.2.1.2 a c.1 c.2).2.2.2.2.2
    have u5 := (hg.2.1 a c.1 c.2).2.2.2.2.1
    rw [t5]
    have vb : ∀ D : mD, v_176 b 0 (d 770 (12 + 68 * a + 5) - 1) D = if 0 ≤ b ∧ b < d 770 (12 + 68 * a + 5) then 1 else 0 := fun D => by
      rw [v176]
      by_cases z : 0 ≤ b ∧ b < d 770 (12 + 68 * a + 5)
      · rw [if_pos z, if_pos (by omega)]
      · rw [if_neg z, if_neg (by omega)]
    by_cases c2 : 0 ≤ b ∧ b < d 770 (12 + 68 * a + 5)
    · rw [if_pos c2, if_pos c2]
      have q : d 10 (a * 16 + b) = d 770 (12 + 68 * a + 7 + b) := hr.2.2.1 a c.1 c.2 b c2.1 c2.2
      have q2 := (hg.2.2.1 a c.1 c.2 b c2.1 c2.2).1
      have e38 : v_38 3 a b d = d 10 (a * 16 + b) := by
        unfold v_38
        rw [show (3 : Int) + 7 = 10 by decide]
      have e : g_242 769 a b (mset d 778 0 (v_38 3 a b d)) = mset (mset d 778 0 (v_38 3 a b d)) 769 0 0 ∧ v_242 769 a b (mset d 778 0 (v_38 3 a b d)) = d 770 (12 + 68 * a + 7 + b) := by
        unfold g_242 v_242
        rw [v236, n7691, o778 (by decide), if_pos c, vb, if_pos c2, if_neg (by decide), if_neg (by decide), if_neg (by decide), if_neg (by decide)]
        exact ⟨rfl, rfl⟩
      rw [e.1, e.2]
      refine QP.ok ?_ ?_
      · rw [e38, q]
      · rw [e38, q]
        omega
    · rw [if_neg c2, if_neg c2]
      have e : g_242 769 a b d = mset d 769 0 1 := by
        unfold g_242
        rw [v236, n7691, if_pos c, vb, if_neg c2, if_neg (by decide), if_pos rfl]
      rw [e]
      exact QP.fail (by decide)
  · rw [if_neg c, if_neg c]
    have e : g_242 769 a b d = mset d 769 0 1 := by
      unfold g_242
      rw [v236, if_neg c, if_pos rfl]
    rw [e]
    exact QP.fail (by decide)
/-! ===== queries: count ===== -/
theorem v101 {d : mD} {w : Row} {q : Int} (hg : GG w) (h : Rel 1 d w) : v_101 50 q d = csum (fun t => if w (452 + 24 * t + 4) = q then 1 else 0) (w 9).toNat := by
  obtain ⟨r1, r2⟩ := h.2.2.2.2.1
  have n9 := hg.1.2.2.1
  have r1 : d 50 0 = w 9 := r1
  unfold v_101
  refine cnt0 (L := fun n a k => lp_101_4 50 q n a k d) n9.1 (by omega) (fun n a k hk => ?_) (fun n a k x y => ?_)
  · cases n with
    | zero =>
      show st_101_4 50 q _ a k d = a
      unfold st_101_4
      rw [if_neg (by omega)]
    | succ n =>
      show st_101_4 50 q _ a k d = a
      unfold st_101_4
      rw [if_neg (by omega)]
  · obtain ⟨t1, t2, t3, t4, t5⟩ := r2 k x y
    have t5 : d 55 k = w (452 + 24 * k + 4) := t5
    show st_101_4 50 q _ a k d = _
    unfold st_101_4
    rw [if_pos (by omega), show (50 : Int) + 5 = 55 by decide, t5]
    by_cases c1 : w (452 + 24 * k + 4) = q
    · rw [if_pos c1, if_pos c1]
    · rw [if_neg c1, if_neg c1]
theorem v102 {d : mD} {w : Row} {q : Int} (hg : GG w) (h : Rel 1 d w) : v_102 50 q d = csum (fun t => if w (452 + 24 * t + 5) + w (452 + 24 * t + 6) = q then 1 else 0) (w 9).toNat := by
  obtain ⟨r1, -⟩ := h.2.2.2.2.1
  have r2 := h.2.2.2.2.2.1
  have n9 := hg.1.2.2.1
  have r1 : d 50 0 = w 9 := r1
  unfold v_102
  refine cnt0 (L := fun n a k => lp_102_4 50 q n a k d) n9.1 (by omega) (fun n a k hk => ?_) (fun n a k x y => ?_)
  · cases n with
    | zero =>
      show st_102_4 50 q _ a k d = a
      unfold st_102_4
      rw [if_neg (by omega)]
    | succ n =>
      show st_102_4 50 q _ a k d = a
      unfold st_102_4
      rw [if_neg (by omega)]
  · have t5 : d 56 k = w (452 + 24 * k + 5) + w (452 + 24 * k + 6) := (r2 k x y).1
    show st_102_4 50 q _ a k d = _
    unfold st_102_4
    rw [if_pos (by omega), show (50 : Int) + 6 = 56 by decide, t5]
    by_cases c1 : w (452 + 24 * k + 5) + w (452 + 24 * k + 6) = q
    · rw [if_pos c1, if_pos c1]
    · rw [if_neg c1, if_neg c1]
theorem v110 {d : mD} {w : Row} {q : Int} (hg : GG w) (h : Rel 1 d w) : v_110 58 q d = csum (fun k => if w (1916 + 5 * k + 3) = q then 1 else 0) (w 10).toNat := by
  obtain ⟨r1, r2⟩ := h.2.2.2.2.2.2.1
  have n9 := hg.1.2.2.2.1
  have r1 : d 58 0 = w 10 := r1
  unfold v_110
  refine cnt0 (L := fun n a k => lp_110_4 58 q n a k d) n9.1 (by omega) (fun n a k hk => ?_) (fun n a k x y => ?_)
  · cases n with
    | zero =>
      show st_110_4 58 q _ a k d = a
      unfold st_110_4
      rw [if_neg (by omega)]
    | succ n =>
      show st_110_4 58 q _ a k d = a
      unfold st_110_4
      rw [if_neg (by omega)]
  · have t5 : d 62 k = w (1916 + 5 * k + 3) := (r2 k x y).2.2.2
    show st_110_4 58 q _ a k d = _
    unfold st_110_4
    rw [if_pos (by omega), show (58 : Int) + 4 = 62 by decide, t5]
    by_cases c1 : w (1916 + 5 * k + 3) = q
    · rw [if_pos c1, if_pos c1]
    · rw [if_neg c1, if_neg c1]
theorem fstI {c : Prop} [Decidable c] {a b : Int × mD} {x y : Int} (h1 : a.1 = x) (h2 : b.1 = y) : (if c then a else b).1 = if c then x else y := by
  split
  · exact h1
  · exact h2
theorem sndI {c : Prop} [Decidable c] {a b : Int × mD} {x : mD} (h1 : a.2 = x) (h2 : b.2 = x) : (if c then a else b).2 = x := by
  split
  · exact h1
  · exact h2
def cA (w : Row) (t : Int) : Int := if w (452 + 24 * t + 4) = 0 then 1 else 0
def cB (w : Row) (t : Int) : Int := if w (452 + 24 * t + 5) = 0 then 0 else if w (452 + 24 * t + 6) = 0 then 1 else 0
def cC (w : Row) (t : Int) : Int := w (452 + 24 * t + 6)
def cE (w : Row) (k : Int) : Int := if w (1916 + 5 * k + 3) = 2 then 1 else 0
def fin239 (x1 a b c e : Int) (D : mD) : Int := if x1 = 0 then D 770 7 else if x1 = 1 then D 770 8 else if x1 = 2 then D 770 9 else if x1 = 3 then D 770 0 else if x1 = 4 then 20 - (D 770 0) % 20 else if x1 = 5 then a else if x1 = 6 then b else if x1 = 7 then c else if x1 = 8 then D 770 10 else if x1 = 9 then D 770 11 else if x1 = 10 then e else if x1 = 11 then D 770 1 else D 769 7
theorem l239b {x1 a b c : Int} {D : mD} : ∀ (n : Nat) (e k : Int), 0 ≤ k → k ≤ D 770 10 → D 770 10 - k ≤ (n : Int) → (lp_239_139 769 x1 n a b c e k D).1 = fin239 x1 a b c (e + (csum (cE (D 770)) (D 770 10).toNat - csum (cE (D 770)) k.toNat)) D := by
  have last : ∀ (r : Int → Int → Int → Int → Int → mD → Int × mD) (e k : Int), k = D 770 10 → (st_239_139 769 x1 r a b c e k D).1 = fin239 x1 a b c (e + (csum (cE (D 770)) (D 770 10).toNat - csum (cE (D 770)) k.toNat)) D := fun r e k hk => by
    unfold st_239_139 fin239
    rw [n7691, if_neg (by omega), hk, Int.sub_self, Int.add_zero]
    repeat' apply fstI
    all_goals rfl
  intro n
  induction n with
  | zero =>
    intro e k h0 h1 h2
    exact last _ e k (by omega)
  | succ n ih =>
    intro e k h0 h1 h2
    by_cases q : k < D 770 10
    · have st : lp_239_139 769 x1 (n + 1) a b c e k D = lp_239_139 769 x1 n a b c (e + cE (D 770) k) (k + 1) D := by
        show st_239_139 769 x1 _ a b _ e k D = _
        unfold st_239_139 cE
        rw [n7691, if_pos q]
        by_cases z : D 770 (1916 + 5 * k + 3) = 2
        · rw [if_pos z, if_pos z]
        · rw [if_neg z, if_neg z]
      rw [st, ih _ _ (by omega) (by omega) (by omega), csum_s _ h0, show e + cE (D 770) k + (csum (cE (D 770)) (D 770 10).toNat - (csum (cE (D 770)) k.toNat + cE (D 770) k)) = e + (csum (cE (D 770)) (D 770 10).toNat - csum (cE (D 770)) k.toNat) by omega]
    · exact last _ e k (by omega)
theorem l239 {x1 : Int} {D : mD} (h10 : 0 ≤ D 770 10 ∧ D 770 10 ≤ 200) : ∀ (n : Nat) (a b c k : Int), 0 ≤ k → k ≤ D 770 9 → D 770 9 - k ≤ (n : Int) → (lp_239_40 769 x1 n a b c k D).1 = fin239 x1 (a + (csum (cA (D 770)) (D 770 9).toNat - csum (cA (D 770)) k.toNat)) (b + (csum (cB (D 770)) (D 770 9).toNat - csum (cB (D 770)) k.toNat)) (c + (csum (cC (D 770)) (D 770 9).toNat - csum (cC (D 770)) k.toNat)) (csum (cE (D 770)) (D 770 10).toNat) D := by
  have last : ∀ (r : Int → Int → Int → Int → mD → Int × mD) (a b c k : Int), k = D 770 9 → (st_239_40 769 x1 r a b c k D).1 = fin239 x1 (a + (csum (cA (D 770)) (D 770 9).toNat - csum (cA (D 770)) k.toNat)) (b + (csum (cB (D 770)) (D 770 9).toNat - csum (cB (D 770)) k.toNat)) (c + (csum (cC (D 770)) (D 770 9).toNat - csum (cC (D 770)) k.toNat)) (csum (cE (D 770)) (D 770 10).toNat) D := fun r a b c k hk => by
    unfold st_239_40
    have nk : ¬ k < D 770 9 := by omega
    rw [n7691, if_neg nk, l239b (200 - 0 : Int).toNat 0 0 (by decide) h10.1 (by omega), hk]
    rw [Int.sub_self, Int.sub_self, Int.sub_self, Int.add_zero, Int.add_zero, Int.add_zero, Int.zero_add, show csum (cE (D 770)) (0 : Int).toNat = 0 from rfl, Int.sub_zero]
  intro n
  induction n with
  | zero =>
    intro a b c k h0 h1 h2
    exact last _ a b c k (by omega)
  | succ n ih =>
    intro a b c k h0 h1 h2
    by_cases q : k < D 770 9
    · have st : lp_239_40 769 x1 (n + 1) a b c k D = lp_239_40 769 x1 n (a + cA (D 770) k) (b + cB (D 770) k) (c + cC (D 770) k) (k + 1) D := by
        show st_239_40 769 x1 _ a b c k D = _
        unfold st_239_40 cA cB cC
        rw [n7691, if_pos q]
        by_cases z4 : D 770 (452 + 24 * k + 4) = 0
        · rw [if_pos z4, if_pos z4]
          by_cases z5 : D 770 (452 + 24 * k + 5) = 0
          · rw [if_pos z5, if_pos z5]
          · rw [if_neg z5, if_neg z5]
            by_cases z6 : D 770 (452 + 24 * k + 6) = 0
            · rw [if_pos z6, if_pos z6]
            · rw [if_neg z6, if_neg z6]
        · rw [if_neg z4, if_neg z4]
          by_cases z5 : D 770 (452 + 24 * k + 5) = 0
          · rw [if_pos z5, if_pos z5]
          · rw [if_neg z5, if_neg z5]
            by_cases z6 : D 770 (452 + 24 * k + 6) = 0
            · rw [if_pos z6, if_pos z6]
            · rw [if_neg z6, if_neg z6]
      rw [st, ih _ _ _ _ (by omega) (by omega) (by omega), csum_s _ h0, csum_s _ h0, csum_s _ h0]
      congr 1 <;> omega
    · exact last _ a b c k (by omega)
theorem g239b {x1 a b c : Int} {D : mD} : ∀ (n : Nat) (e k : Int), (lp_239_139 769 x1 n a b c e k D).2 = D := by
  intro n
  induction n with
  | zero =>
    intro e k
    show (st_239_139 769 x1 _ a b c e k D).2 = D
    unfold st_239_139
    repeat' apply sndI
    all_goals rfl
  | succ n ih =>
    intro e k
    show (st_239_139 769 x1 _ a b c e k D).2 = D
    unfold st_239_139
    refine sndI (sndI (ih _ _) (ih _ _)) ?_
    repeat' apply sndI
    all_goals rfl
theorem g239 {x1 : Int} {D : mD} : ∀ (n : Nat) (a b c k : Int), (lp_239_40 769 x1 n a b c k D).2 = D := by
  have st : ∀ (r : Int → Int → Int → Int → mD → Int × mD) (a b c k : Int), (∀ a b c k, (r a b c k D).2 = D) → (st_239_40 769 x1 r a b c k D).2 = D := fun r a b c k hr => by
    unfold st_239_40
    exact sndI (sndI (sndI (hr _ _ _ _) (sndI (hr _ _ _ _) (hr _ _ _ _))) (sndI (hr _ _ _ _) (sndI (hr _ _ _ _) (hr _ _ _ _)))) (g239b _ _ _)
  intro n
  induction n with
  | zero =>
    intro a b c k
    exact st _ a b c k (fun _ _ _ _ => rfl)
  | succ n ih =>
    intro a b c k
    exact st _ a b c k ih
theorem qpCount {d : mD} {a : Int} (hk : OKR 1 d (d 770)) (hh : HistRel d) : QP (g_305 0 a 778 d) (g_239 769 a (g_305 0 a 778 d)) (v_305 0 a 778 d) (v_239 769 a (g_305 0 a 778 d)) := by
  obtain ⟨hg, -, -, ht, hr⟩ := id hk
  obtain ⟨n7, n8, n9, n10, n11, n0, n1, -⟩ := id hg.1
  have f7 : d 3 0 = d 770 7 := hr.2.1.1
  have f8 : d 11 0 = d 770 8 := hr.2.2.2.1.1
  have f9 : d 50 0 = d 770 9 := hr.2.2.2.2.1.1
  have f0 : d 1 2 = d 770 0 := hr.1.2.1
  have f1 : d 1 1 = d 770 1 := hr.1.1
  have f10 : d 58 0 = d 770 10 := hr.2.2.2.2.2.2.1.1
  have fA : v_101 50 0 d = csum (cA (d 770)) (d 770 9).toNat := v101 hg hr
  have fB : v_102 50 1 d = csum (cB (d 770)) (d 770 9).toNat := by
    rw [v102 hg hr]
    refine csum_congr (fun t x y => ?_)
    have g := hg.2.2.2.2.1 t x (by omega)
    unfold cB
    obtain ⟨g1, g2, g3, -⟩ := g
    by_cases z5 : d 770 (452 + 24 * t + 5) = 0
    · rw [if_pos z5, if_neg (by omega)]
    · rw [if_neg z5]
      by_cases z6 : d 770 (452 + 24 * t + 6) = 0
      · rw [if_pos z6, if_pos (by omega)]
      · rw [if_neg z6, if_neg (by omega)]
  have fC : v_102 50 2 d = csum (cC (d 770)) (d 770 9).toNat := by
    rw [v102 hg hr]
    refine csum_congr (fun t x y => ?_)
    obtain ⟨g1, g2, g3, -⟩ := hg.2.2.2.2.1 t x (by omega)
    unfold cC
    by_cases z6 : d 770 (452 + 24 * t + 6) = 0
    · rw [if_neg (by omega), z6]
    · rw [if_pos (by omega)]
      omega
  have fE : v_110 58 2 d = csum (cE (d 770)) (d 770 10).toNat := v110 hg hr
  have fR : v_110 58 1 d = d 770 11 := by
    rw [v110 hg hr]
    exact hg.2.2.2.2.2.2.1.symm
  have fH : d 64 2 = d 769 7 := hh.2.2.1.symm
  have rA := csum_rng (f := cA (d 770)) (n := (d 770 9).toNat) (B := 1) (fun t x y => by unfold cA; split <;> omega)
  have rB := csum_rng (f := cB (d 770)) (n := (d 770 9).toNat) (B := 1) (fun t x y => by unfold cB; repeat' split <;> omega)
  have rC := csum_rng (f := cC (d 770)) (n := (d 770 9).toNat) (B := 1) (fun t x y => by
    obtain ⟨g1, g2, g3, -⟩ := hg.2.2.2.2.1 t x (by omega)
    unfold cC
    omega)
  have rE := csum_rng (f := cE (d 770)) (n := (d 770 10).toNat) (B := 1) (fun t x y => by unfold cE; split <;> omega)
  have e : ∀ x, 0 ≤ a ∧ a ≤ 12 → g_239 769 a (mset d 778 0 x) = mset (mset d 778 0 x) 769 0 0 ∧ v_239 769 a (mset d 778 0 x) = fin239 a (csum (cA (d 770)) (d 770 9).toNat) (csum (cB (d 770)) (d 770 9).toNat) (csum (cC (d 770)) (d 770 9).toNat) (csum (cE (d 770)) (d 770 10).toNat) (mset (mset d 778 0 x) 769 0 0) := fun x ha => by
    have h70 : mset (mset d 778 0 x) 769 0 0 770 = d 770 := by rw [o769 (by decide), o778 (by decide)]
    have l := l239 (x1 := a) (D := mset (mset d 778 0 x) 769 0 0) (by rw [h70]; exact n10) (61 - 0 : Int).toNat 0 0 0 0 (by decide) (by rw [h70]; exact n9.1) (by rw [h70]; omega)
    rw [h70, show csum (cA (d 770)) (0 : Int).toNat = 0 from rfl, show csum (cB (d 770)) (0 : Int).toNat = 0 from rfl, show csum (cC (d 770)) (0 : Int).toNat = 0 from rfl, Int.sub_zero, Int.sub_zero, Int.sub_zero, Int.sub_zero, Int.zero_add, Int.zero_add, Int.zero_add] at l
    have gq := g239 (x1 := a) (D := mset (mset d 778 0 x) 769 0 0) (61 - 0 : Int).toNat 0 0 0 0
    have n1 : ¬ (1 : Int) = 0 := by decide
    constructor
    · unfold g_239 f_239
      rw [v176, if_pos ha, if_neg n1]
      exact gq
    · unfold v_239 f_239
      rw [v176, if_pos ha, if_neg n1]
      exact l
  unfold v_305 g_305
  rw [n01, n49, n57, n641, show (1 : Int) + 2 = 3 by decide, show (1 : Int) + 10 = 11 by decide]
  have h7 : ∀ x, mset (mset d 778 0 x) 769 0 0 769 7 = d 769 7 := fun x => by rw [ms_i (by decide), o778 (by decide)]
  have hD : ∀ x, mset (mset d 778 0 x) 769 0 0 770 = d 770 := fun x => by rw [o769 (by decide), o778 (by decide)]
  have h27 := hh.2.1
  by_cases b0 : a = 0
  · subst b0
    rw [if_pos rfl, if_pos rfl, (e _ (by decide)).1, (e _ (by decide)).2]
    exact QP.ok (by rw [f7]; unfold fin239; rw [hD]; rfl) (by omega)
  rw [if_neg b0, if_neg b0]
  by_cases b1 : a = 1
  · subst b1
    rw [if_pos rfl, if_pos rfl, (e _ (by decide)).1, (e _ (by decide)).2]
    exact QP.ok (by rw [f8]; unfold fin239; rw [hD]; rfl) (by omega)
  rw [if_neg b1, if_neg b1]
  by_cases b2 : a = 2
  · subst b2
    rw [if_pos rfl, if_pos rfl, (e _ (by decide)).1, (e _ (by decide)).2]
    exact QP.ok (by rw [f9]; unfold fin239; rw [hD]; rfl) (by omega)
  rw [if_neg b2, if_neg b2]
  by_cases b3 : a = 3
  · subst b3
    rw [if_pos rfl, if_pos rfl, (e _ (by decide)).1, (e _ (by decide)).2]
    exact QP.ok (by rw [f0]; unfold fin239; rw [hD]; rfl) (by omega)
  rw [if_neg b3, if_neg b3]
  by_cases b4 : a = 4
  · subst b4
    rw [if_pos rfl, if_pos rfl, (e _ (by decide)).1, (e _ (by decide)).2]
    exact QP.ok (by rw [f0]; unfold fin239; rw [hD]; rfl) (by omega)
  rw [if_neg b4, if_neg b4]
  by_cases b5 : a = 5
  · subst b5
    rw [if_pos rfl, if_pos rfl, (e _ (by decide)).1, (e _ (by decide)).2]
    exact QP.ok (by rw [fA]; unfold fin239; rfl) (by rw [fA]; omega)
  rw [if_neg b5, if_neg b5]
  by_cases b6 : a = 6
  · subst b6
    rw [if_pos rfl, if_pos rfl, (e _ (by decide)).1, (e _ (by decide)).2]
    exact QP.ok (by rw [fB]; unfold fin239; rfl) (by rw [fB]; omega)
  rw [if_neg b6, if_neg b6]
  by_cases b7 : a = 7
  · subst b7
    rw [if_pos rfl, if_pos rfl, (e _ (by decide)).1, (e _ (by decide)).2]
    exact QP.ok (by rw [fC]; unfold fin239; rfl) (by rw [fC]; omega)
  rw [if_neg b7, if_neg b7]
  by_cases b8 : a = 8
  · subst b8
    rw [if_pos rfl, if_pos rfl, (e _ (by decide)).1, (e _ (by decide)).2]
    exact QP.ok (by rw [f10]; unfold fin239; rw [hD]; rfl) (by omega)
  rw [if_neg b8, if_neg b8]
  by_cases b9 : a = 9
  · subst b9
    rw [if_pos rfl, if_pos rfl, (e _ (by decide)).1, (e _ (by decide)).2]
    exact QP.ok (by rw [fR]; unfold fin239; rw [hD]; rfl) (by omega)
  rw [if_neg b9, if_neg b9]
  by_cases b10 : a = 10
  · subst b10
    rw [if_pos rfl, if_pos rfl, (e _ (by decide)).1, (e _ (by decide)).2]
    exact QP.ok (by rw [fE]; unfold fin239; rfl) (by rw [fE]; omega)
  rw [if_neg b10, if_neg b10]
  by_cases b11 : a = 11
  · subst b11
    rw [if_pos rfl, if_pos rfl, (e _ (by decide)).1, (e _ (by decide)).2]
    exact QP.ok (by rw [f1]; unfold fin239; rw [hD]; rfl) (by omega)
  rw [if_neg b11, if_neg b11]
  by_cases b12 : a = 12
  · subst b12
    rw [if_pos rfl, if_pos rfl, (e _ (by decide)).1, (e _ (by decide)).2]
    exact QP.ok (by rw [fH]; unfold fin239; rw [h7]; rfl) (by omega)
  rw [if_neg b12, if_neg b12]
  have e6 : g_239 769 a d = mset d 769 0 1 := by
    unfold g_239 f_239
    have nb : ¬ (0 ≤ a ∧ a ≤ 12) := by omega
    rw [v176, if_neg nb, if_pos rfl]
  rw [e6]
  exact QP.fail (by decide)
/-! ===== queries: token, isPaidFor, ticket ===== -/
theorem qpPaid {d : mD} {a b : Int} (hk : OKR 1 d (d 770)) : QP (g_312 0 a b 778 d) (g_249 769 a b (g_312 0 a b 778 d)) (v_312 0 a b 778 d) (v_249 769 a b (g_312 0 a b 778 d)) := by
  obtain ⟨hg, -, -, -, hr⟩ := id hk
  have o8 : d 11 0 = d 770 8 := hr.2.2.2.1.1
  have n10 := hg.1.2.2.2.1
  unfold v_312 g_312
  rw [n01, show (1 : Int) + 10 = 11 by decide, o8, ifR, ifR]
  have n1 : ¬ (1 : Int) = 0 := by decide
  by_cases c : 0 ≤ a ∧ a < d 770 8
  · rw [if_pos c, if_pos c]
    by_cases c2 : 0 ≤ b ∧ b ≤ 999
    · rw [if_neg (show ¬ b < 0 by omega), if_neg (show ¬ (999 : Int) < b by omega), if_neg (show ¬ b < 0 by omega), if_neg (show ¬ (999 : Int) < b by omega)]
      have hh : v_6 (11 + 6 + (1 + 2 * a)) b d = V_216 a b (d 770) := RelH.has hr.2.2.2.2.2.2.2.2.2 n10 c.1 c.2 c2.1 c2.2
      have e : ∀ x, g_249 769 a b (mset d 778 0 x) = mset (mset d 778 0 x) 769 0 0 ∧ v_249 769 a b (mset d 778 0 x) = if V_216 a b (d 770) = 0 then 0 else 1 := fun x => by
        unfold g_249 v_249
        rw [v237, o778 (by decide), if_pos c, v176, if_pos c2, if_neg n1, if_neg n1, if_neg n1, if_neg n1, m_v_216, o769 (by decide), o778 (by decide)]
        exact ⟨rfl, rfl⟩
      rw [hh]
      by_cases z : V_216 a b (d 770) = 0
      · rw [if_pos z, (e _).1, (e _).2, if_pos z]
        exact QP.ok rfl (by decide)
      · rw [if_neg z, (e _).1, (e _).2, if_neg z]
        exact QP.ok rfl (by decide)
    · have ev : (if b < 0 then (2 : Int) else if (999 : Int) < b then 2 else 0) = 2 := by
        by_cases z : b < 0
        · rw [if_pos z]
        · rw [if_neg z, if_pos (by omega)]
      have eg : ∀ u : mD, (if b < 0 then d else if (999 : Int) < b then d else u) = d := fun u => by
        by_cases z : b < 0
        · rw [if_pos z]
        · rw [if_neg z, if_pos (by omega)]
      rw [ev, eg]
      have e : g_249 769 a b d = mset d 769 0 2 := by
        unfold g_249
        rw [v237, if_pos c, if_neg n1, v176, if_neg c2, if_pos rfl]
      rw [e]
      exact QP.fail (by decide)
  · rw [if_neg c, if_neg c]
    have e : g_249 769 a b d = mset d 769 0 1 := by
      unfold g_249
      rw [v237, if_neg c, if_pos rfl]
    rw [e]
    exact QP.fail (by decide)
-- the place in the row of offered tokens
theorem row113 {a : Int} {d : mD} {w : Row} (hr : Rel 1 d w) : ∀ (n : Nat) (k : Int), 0 ≤ k → w 11 - k ≤ (n : Int) → (lp_113_2 58 a n k d = -1 ∧ ∀ j, k ≤ j → j < w 11 → ¬ w (2916 + j) = a) ∨ (k ≤ lp_113_2 58 a n k d ∧ lp_113_2 58 a n k d < w 11 ∧ w (2916 + lp_113_2 58 a n k d) = a) := by
  obtain ⟨r1, r2⟩ := hr.2.2.2.2.2.2.2.1
  have r1 : d 58 5 = w 11 := r1
  intro n
  induction n with
  | zero =>
    intro k h0 hn
    left
    refine ⟨?_, fun j x y => by omega⟩
    show st_113_2 58 a _ k d = -1
    unfold st_113_2
    rw [if_neg (by omega)]
  | succ n ih =>
    intro k h0 hn
    by_cases c : k < w 11
    · have e : d 63 k = w (2916 + k) := r2 k h0 c
      by_cases z : w (2916 + k) = a
      · have st : lp_113_2 58 a (n + 1) k d = k := by
          show st_113_2 58 a _ k d = _
          unfold st_113_2
          rw [if_pos (by omega), show (58 : Int) + 5 = 63 by decide, e, if_pos z]
        rw [st]
        exact Or.inr ⟨by omega, c, z⟩
      · have st : lp_113_2 58 a (n + 1) k d = lp_113_2 58 a n (k + 1) d := by
          show st_113_2 58 a _ k d = _
          unfold st_113_2
          rw [if_pos (by omega), show (58 : Int) + 5 = 63 by decide, e, if_neg z]
        rw [st]
        rcases ih (k + 1) (by omega) (by omega) with ⟨q1, q2⟩ | ⟨q1, q2, q3⟩
        · left
          refine ⟨q1, fun j x y => ?_⟩
          by_cases v : j = k
          · rw [v]; exact z
          · exact q2 j (by omega) y
        · exact Or.inr ⟨by omega, q2, q3⟩
    · left
      refine ⟨?_, fun j x y => by omega⟩
      show st_113_2 58 a _ k d = -1
      unfold st_113_2
      rw [if_neg (by omega)]
theorem row248 {a b : Int} {D : mD} : ∀ (n : Nat) (p k : Int), 0 ≤ k → D 770 11 - k ≤ (n : Int) → (lp_248_75 769 a b n p k D).2 = D ∧ (((lp_248_75 769 a b n p k D).1 = p ∧ ∀ j, k ≤ j → j < D 770 11 → ¬ D 770 (2916 + j) = a) ∨ (k ≤ (lp_248_75 769 a b n p k D).1 ∧ (lp_248_75 769 a b n p k D).1 < D 770 11 ∧ D 770 (2916 + (lp_248_75 769 a b n p k D).1) = a)) := by
  intro n
  induction n with
  | zero =>
    intro p k h0 hn
    have st : lp_248_75 769 a b 0 p k D = (p, D) := by
      show st_248_75 769 a b _ p k D = _
      unfold st_248_75
      rw [n7691, if_neg (by omega)]
    rw [st]
    exact ⟨rfl, Or.inl ⟨rfl, fun j x y => by omega⟩⟩
  | succ n ih =>
    intro p k h0 hn
    by_cases c : k < D 770 11
    · by_cases z : D 770 (2916 + k) = a
      · have st : lp_248_75 769 a b (n + 1) p k D = lp_248_75 769 a b n k (k + 1) D := by
          show st_248_75 769 a b _ p k D = _
          unfold st_248_75
          rw [n7691, if_pos c, if_pos z]
        rw [st]
        obtain ⟨q0, q⟩ := ih k (k + 1) (by omega) (by omega)
        refine ⟨q0, Or.inr ?_⟩
        rcases q with ⟨q1, q2⟩ | ⟨q1, q2, q3⟩
        · rw [q1]
          exact ⟨by omega, c, z⟩
        · exact ⟨by omega, q2, q3⟩
      · have st : lp_248_75 769 a b (n + 1) p k D = lp_248_75 769 a b n p (k + 1) D := by
          show st_248_75 769 a b _ p k D = _
          unfold st_248_75
          rw [n7691, if_pos c, if_neg z]
        rw [st]
        obtain ⟨q0, q⟩ := ih p (k + 1) (by omega) (by omega)
        refine ⟨q0, ?_⟩
        rcases q with ⟨q1, q2⟩ | ⟨q1, q2, q3⟩
        · refine Or.inl ⟨q1, fun j x y => ?_⟩
          by_cases v : j = k
          · rw [v]; exact z
          · exact q2 j (by omega) y
        · exact Or.inr ⟨by omega, q2, q3⟩
    · have st : lp_248_75 769 a b (n + 1) p k D = (p, D) := by
        show st_248_75 769 a b _ p k D = _
        unfold st_248_75
        rw [n7691, if_neg c]
      rw [st]
      exact ⟨rfl, Or.inl ⟨rfl, fun j x y => by omega⟩⟩
theorem qpToken {d : mD} {a b : Int} (hk : OKR 1 d (d 770)) : QP (g_311 0 a b 778 d) (g_248 769 a b (g_311 0 a b 778 d)) (v_311 0 a b 778 d) (v_248 769 a b (g_311 0 a b 778 d)) := by
  obtain ⟨hg, -, -, ht, hr⟩ := id hk
  obtain ⟨n7, n8, n9, n10, n11, n0, -⟩ := id hg.1
  have o10 : d 58 0 = d 770 10 := hr.2.2.2.2.2.2.1.1
  unfold v_311 g_311
  rw [n01, n57, show (58 : Int) + 1 = 59 by decide, show (58 : Int) + 2 = 60 by decide, show (58 : Int) + 3 = 61 by decide, show (58 : Int) + 4 = 62 by decide, o10, ifR, ifR]
  have n1 : ¬ (1 : Int) = 0 := by decide
  have va : ∀ D : mD, v_176 a 0 (d 770 10 - 1) D = if 0 ≤ a ∧ a < d 770 10 then 1 else 0 := fun D => by
    rw [v176]
    by_cases z : 0 ≤ a ∧ a < d 770 10
    · rw [if_pos z, if_pos (by omega)]
    · rw [if_neg z, if_neg (by omega)]
  by_cases c : 0 ≤ a ∧ a < d 770 10
  · rw [if_pos c, if_pos c]
    obtain ⟨t1, t2, t3, t4⟩ := hr.2.2.2.2.2.2.1.2 a c.1 c.2
    have t1 : d 59 a = d 770 (1916 + 5 * a + 0) := t1
    have t2 : d 60 a = d 770 (1916 + 5 * a + 1) := t2
    have t3 : d 61 a = d 770 (1916 + 5 * a + 2) := t3
    have t4 : d 62 a = d 770 (1916 + 5 * a + 3) := t4
    obtain ⟨u1, u2, u3, u4, u5, -⟩ := hg.2.2.2.2.2.1 a c.1 c.2
    have e : ∀ x, 0 ≤ b ∧ b ≤ 3 → f_248 769 a b (mset d 778 0 x) = (d 770 (1916 + 5 * a + b), mset (mset d 778 0 x) 769 0 0) := fun x hb => by
      unfold f_248
      rw [n7691, o778 (by decide), va, if_pos c, v176, if_pos (show 0 ≤ b ∧ b ≤ 4 by omega), if_neg n1, if_neg n1, if_pos (by omega)]
    have eg : ∀ x, 0 ≤ b ∧ b ≤ 3 → g_248 769 a b (mset d 778 0 x) = mset (mset d 778 0 x) 769 0 0 := fun x hb => by
      unfold g_248
      rw [e x hb]
    have ev : ∀ x, 0 ≤ b ∧ b ≤ 3 → v_248 769 a b (mset d 778 0 x) = d 770 (1916 + 5 * a + b) := fun x hb => by
      unfold v_248
      rw [e x hb]
    by_cases b0 : b = 0
    · subst b0
      rw [if_pos rfl, if_pos rfl, eg _ (by decide), ev _ (by decide)]
      exact QP.ok t1 (by omega)
    rw [if_neg b0, if_neg b0]
    by_cases b1 : b = 1
    · subst b1
      rw [if_pos rfl, if_pos rfl, eg _ (by decide), ev _ (by decide)]
      exact QP.ok t2 (by omega)
    rw [if_neg b1, if_neg b1]
    by_cases b2 : b = 2
    · subst b2
      rw [if_pos rfl, if_pos rfl, eg _ (by decide), ev _ (by decide)]
      exact QP.ok t3 (by omega)
    rw [if_neg b2, if_neg b2]
    by_cases b3 : b = 3
    · subst b3
      rw [if_pos rfl, if_pos rfl, eg _ (by decide), ev _ (by decide)]
      exact QP.ok t4 (by omega)
    rw [if_neg b3, if_neg b3]
    by_cases b4 : b = 4
    · subst b4
      rw [if_pos rfl, if_pos rfl]
      have q1 := row113 (a := a) hr (200 - 0 : Int).toNat 0 (by decide) (by omega)
      generalize hx : v_113 58 a d = x
      have hx' : lp_113_2 58 a (200 - 0 : Int).toNat 0 d = x := hx
      rw [hx'] at q1
      have h70 : mset (mset d 778 0 x) 769 0 0 770 = d 770 := by rw [o769 (by decide), o778 (by decide)]
      obtain ⟨q0, q2⟩ := row248 (a := a) (b := 4) (D := mset (mset d 778 0 x) 769 0 0) (200 - 0 : Int).toNat (-1) 0 (by decide) (by rw [h70]; omega)
      rw [h70] at q2
      have e4 : f_248 769 a 4 (mset d 778 0 x) = lp_248_75 769 a 4 (200 - 0 : Int).toNat (-1) 0 (mset (mset d 778 0 x) 769 0 0) := by
        unfold f_248
        have h44 : (0 : Int) ≤ 4 ∧ (4 : Int) ≤ 4 := by decide
        have h4n : ¬ (4 : Int) < 4 := by decide
        rw [n7691, o778 (by decide), va, if_pos c, if_neg n1, v176, if_pos h44, if_neg n1, if_neg h4n]
      unfold g_248 v_248
      rw [e4, q0]
      generalize (lp_248_75 769 a 4 (200 - 0 : Int).toNat (-1) 0 (mset (mset d 778 0 x) 769 0 0)).1 = y at *
      have un := hg.2.2.2.2.2.2.2
      refine QP.ok ?_ (by omega)
      rcases q1 with ⟨a1, a2⟩ | ⟨a1, a2, a3⟩
      · rcases q2 with ⟨b1, b2⟩ | ⟨b1, b2, b3⟩
        · rw [a1, b1]
        · exact absurd b3 (a2 y b1 b2)
      · rcases q2 with ⟨b1, b2⟩ | ⟨b1, b2, b3⟩
        · exact absurd a3 (b2 x a1 a2)
        · by_cases z1 : x < y
          · exact absurd (a3.trans b3.symm) ((un y b1 b2).2.2 x a1 z1)
          · by_cases z2 : y < x
            · exact absurd (b3.trans a3.symm) ((un x a1 a2).2.2 y b1 z2)
            · omega
    rw [if_neg b4, if_neg b4]
    have e6 : g_248 769 a b d = mset d 769 0 2 := by
      unfold g_248 f_248
      have nb : ¬ (0 ≤ b ∧ b ≤ 4) := by omega
      rw [n7691, va, if_pos c, if_neg n1, v176, if_neg nb, if_pos rfl]
    rw [e6]
    exact QP.fail (by decide)
  · rw [if_neg c, if_neg c]
    have e : g_248 769 a b d = mset d 769 0 1 := by
      unfold g_248 f_248
      rw [n7691, va, if_neg c, if_pos rfl]
    rw [e]
    exact QP.fail (by decide)
-- how many tokens a ticket gave
theorem v112 {d : mD} {w : Row} {t : Int} (hg : GG w) (h : Rel 1 d w) : v_112 58 t d = csum (fun k => if w (1916 + 5 * k + 1) = t then 1 else 0) (w 10).toNat := by
  obtain ⟨r1, r2⟩ := h.2.2.2.2.2.2.1
  have n9 := hg.1.2.2.2.1
  have r1 : d 58 0 = w 10 := r1
  unfold v_112
  refine cnt0 (L := fun n a k => lp_112_4 58 t n a k d) n9.1 (by omega) (fun n a k hk => ?_) (fun n a k x y => ?_)
  · cases n with
    | zero =>
      show st_112_4 58 t _ a k d = a
      unfold st_112_4
      rw [if_neg (by omega)]
    | succ n =>
      show st_112_4 58 t _ a k d = a
      unfold st_112_4
      rw [if_neg (by omega)]
  · have t5 : d 60 k = w (1916 + 5 * k + 1) := (r2 k x y).2.1
    show st_112_4 58 t _ a k d = _
    unfold st_112_4
    rw [if_pos (by omega), show (58 : Int) + 2 = 60 by decide, t5]
    by_cases c1 : w (1916 + 5 * k + 1) = t
    · rw [if_pos c1, if_pos c1]
    · rw [if_neg c1, if_neg c1]
def fin247 (t b c : Int) (D : mD) : Int := if b = 8 then v_213 769 t D else if b = 9 then c else v_221 769 t D
theorem l247 {t b : Int} {D : mD} : ∀ (n : Nat) (c k : Int), 0 ≤ k → k ≤ D 770 10 → D 770 10 - k ≤ (n : Int) → lp_247_65 769 t b n c k D = (fin247 t b (c + (csum (fun k => if D 770 (1916 + 5 * k + 1) = t then 1 else 0) (D 770 10).toNat - csum (fun k => if D 770 (1916 + 5 * k + 1) = t then 1 else 0) k.toNat)) D, D) := by
  have last : ∀ (r : Int → Int → mD → Int × mD) (c k : Int), k = D 770 10 → st_247_65 769 t b r c k D = (fin247 t b (c + (csum (fun k => if D 770 (1916 + 5 * k + 1) = t then 1 else 0) (D 770 10).toNat - csum (fun k => if D 770 (1916 + 5 * k + 1) = t then 1 else 0) k.toNat)) D, D) := fun r c k hk => by
    unfold st_247_65 fin247
    rw [n7691, if_neg (by omega), hk, Int.sub_self, Int.add_zero]
    by_cases b8 : b = 8
    · rw [if_pos b8, if_pos b8]
    · rw [if_neg b8, if_neg b8]
      by_cases b9 : b = 9
      · rw [if_pos b9, if_pos b9]
      · rw [if_neg b9, if_neg b9]
  intro n
  induction n with
  | zero =>
    intro c k h0 h1 h2
    exact last _ c k (by omega)
  | succ n ih =>
    intro c k h0 h1 h2
    by_cases q : k < D 770 10
    · have st : lp_247_65 769 t b (n + 1) c k D = lp_247_65 769 t b n (c + (if D 770 (1916 + 5 * k + 1) = t then 1 else 0)) (k + 1) D := by
        show st_247_65 769 t b _ c k D = _
        unfold st_247_65
        rw [n7691, if_pos q]
        by_cases z : D 770 (1916 + 5 * k + 1) = t
        · rw [if_pos z, if_pos z]
        · rw [if_neg z, if_neg z]
      rw [st, ih _ _ (by omega) (by omega) (by omega), csum_s _ h0]
      congr 2
      generalize (if D 770 (1916 + 5 * k + 1) = t then (1 : Int) else 0) = z
      omega
    · exact last _ c k (by omega)
theorem waitEq {d : mD} {w : Row} {t : Int} (hg : GG w) (h : Rel 1 d w) (ht : 0 ≤ t ∧ t < w 9) : v_71 1 t d = V_213 t w ∧ -100000 ≤ v_71 1 t d ∧ v_71 1 t d ≤ 100000 := by
  have u := untilEq h ht
  have u : v_98 50 t (d 1 2) d = V_212 t w := u
  have s0 : d 2 0 = w 2 := h.1.2.2 0 (by decide) (by decide)
  obtain ⟨t1, t2, t3, t4, t5⟩ := h.2.2.2.2.1.2 t ht.1 ht.2
  have t3 : d 53 t = w (452 + 24 * t + 2) := t3
  obtain ⟨g1, g2, g3, g4, g5, g6⟩ := hg.2.2.2.1 t ht.1 ht.2
  obtain ⟨n7, n8, n9, n10, n11, n0, n1, n2, -⟩ := id hg.1
  have rg : -1 ≤ V_212 t w ∧ V_212 t w ≤ 1199 := by
    unfold V_212
    by_cases z : w (452 + 24 * t + 3) = -1
    · rw [if_pos z]
      omega
    · rw [if_neg z]
      by_cases z2 : w (452 + 24 * t + 4) = 0
      · exact absurd (g5 z2).1 z
      · have := g6 z2
        omega
  unfold v_71 V_213 mmax
  rw [n49, show (1 : Int) + 1 = 2 by decide, show (50 : Int) + 3 = 53 by decide, u, t3, s0]
  generalize V_212 t w = x at *
  refine ⟨?_, ?_, ?_⟩
  · by_cases z : x - w (452 + 24 * t + 2) - w 2 < 0
    · rw [if_pos z, if_neg (by omega)]
    · rw [if_neg z]
      by_cases y : (0 : Int) < x - (w (452 + 24 * t + 2) + w 2)
      · rw [if_pos y]
        omega
      · rw [if_neg y]
        omega
  · split <;> omega
  · split <;> omega
/-! ===== queries: ticket ===== -/
theorem qpTicket {d : mD} {a b : Int} (hk : OKR 1 d (d 770)) : QP (g_310 0 a b 778 d) (g_247 769 a b (g_310 0 a b 778 d)) (v_310 0 a b 778 d) (v_247 769 a b (g_310 0 a b 778 d)) := by
  obtain ⟨hg, -, -, ht, hr⟩ := id hk
  obtain ⟨n7, n8, n9, n10, n11, n0, -⟩ := id hg.1
  have o9 : d 50 0 = d 770 9 := hr.2.2.2.2.1.1
  unfold v_310 g_310
  rw [n01, n49, n57, show (1 : Int) + 2 = 3 by decide, show (50 : Int) + 1 = 51 by decide, show (50 : Int) + 2 = 52 by decide, show (50 : Int) + 3 = 53 by decide, show (50 : Int) + 4 = 54 by decide, show (50 : Int) + 5 = 55 by decide, show (50 : Int) + 6 = 56 by decide, show (50 : Int) + 7 = 57 by decide, o9, ifR, ifR]
  have n1 : ¬ (1 : Int) = 0 := by decide
  by_cases c : 0 ≤ a ∧ a < d 770 9
  · rw [if_pos c, if_pos c]
    obtain ⟨t1, t2, t3, t4, t5⟩ := hr.2.2.2.2.1.2 a c.1 c.2
    have t1 : d 51 a = d 770 (452 + 24 * a + 0) := t1
    have t2 : d 52 a = d 770 (452 + 24 * a + 1) := t2
    have t3 : d 53 a = d 770 (452 + 24 * a + 2) := t3
    have t4 : d 54 a = d 770 (452 + 24 * a + 3) := t4
    have t5 : d 55 a = d 770 (452 + 24 * a + 4) := t5
    have t6 : d 56 a = d 770 (452 + 24 * a + 5) + d 770 (452 + 24 * a + 6) := (hr.2.2.2.2.2.1 a c.1 c.2).1
    obtain ⟨g1, g2, g3, g4, g5, g6⟩ := hg.2.2.2.1 a c.1 c.2
    obtain ⟨k1, k2, k3, -⟩ := hg.2.2.2.2.1 a c.1 c.2
    have wc7 : v_298 (d 57 a) d = d 770 (452 + 24 * a + 7) := by
      have := witCount (s := 1) (d2 := d) hr c
      rw [show (1 : Int) + 56 = 57 by decide] at this
      exact this
    have rc7 : 0 ≤ d 770 (452 + 24 * a + 7) ∧ d 770 (452 + 24 * a + 7) ≤ 16 := by
      have e := (hr.2.2.2.2.2.1 a c.1 c.2).2.1
      have r := csum_rng (f := fun p => if d 770 (452 + 24 * a + 8 + p) = 0 then 0 else 1) (n := 16) (B := 1) (fun p x y => by split <;> omega)
      rw [e]
      omega
    have end3 : -1 ≤ d 770 (452 + 24 * a + 3) ∧ d 770 (452 + 24 * a + 3) ≤ 999 := by
      by_cases z : d 770 (452 + 24 * a + 4) = 0
      · have := (g5 z).1
        omega
      · have := g6 z
        omega
    have e : ∀ x, 0 ≤ b ∧ b ≤ 7 → g_247 769 a b (mset d 778 0 x) = mset (mset d 778 0 x) 769 0 0 ∧ v_247 769 a b (mset d 778 0 x) = d 770 (452 + 24 * a + b) := fun x hb => by
      have e : f_247 769 a b (mset d 778 0 x) = (d 770 (452 + 24 * a + b), mset (mset d 778 0 x) 769 0 0) := by
        unfold f_247
        have hb2 : 0 ≤ b ∧ b ≤ 10 := by omega
        have hb3 : b < 8 := by omega
        rw [v238, n7691, o778 (by decide), if_pos c, if_neg n1, v176, if_pos hb2, if_neg n1, if_pos hb3]
      unfold g_247 v_247
      rw [e]
      exact ⟨rfl, rfl⟩
    have e8 : ∀ x, 8 ≤ b ∧ b ≤ 10 → g_247 769 a b (mset d 778 0 x) = mset (mset d 778 0 x) 769 0 0 ∧ v_247 769 a b (mset d 778 0 x) = if b = 8 then V_213 a (d 770) else if b = 9 then csum (fun k => if d 770 (1916 + 5 * k + 1) = a then 1 else 0) (d 770 10).toNat else V_221 a (d 770) := fun x hb => by
      have h70 : mset (mset d 778 0 x) 769 0 0 770 = d 770 := by rw [o769 (by decide), o778 (by decide)]
      have l := l247 (t := a) (b := b) (D := mset (mset d 778 0 x) 769 0 0) (200 - 0 : Int).toNat 0 0 (by decide) (by rw [h70]; exact n10.1) (by rw [h70]; omega)
      have e : f_247 769 a b (mset d 778 0 x) = (fin247 a b (csum (fun k => if d 770 (1916 + 5 * k + 1) = a then 1 else 0) (d 770 10).toNat) (mset (mset d 778 0 x) 769 0 0), mset (mset d 778 0 x) 769 0 0) := by
        unfold f_247
        have hb2 : 0 ≤ b ∧ b ≤ 10 := by omega
        have hb3 : ¬ b < 8 := by omega
        rw [v238, n7691, o778 (by decide), if_pos c, if_neg n1, v176, if_pos hb2, if_neg n1, if_neg hb3, l, h70, Int.zero_add, show csum (fun k => if d 770 (1916 + 5 * k + 1) = a then 1 else 0) (0 : Int).toNat = 0 from rfl, Int.sub_zero]
      unfold g_247 v_247
      rw [e]
      refine ⟨rfl, ?_⟩
      show fin247 a b _ _ = _
      unfold fin247
      rw [m_v_213, m_v_221, h70]
    by_cases b0 : b = 0
    · subst b0
      rw [if_pos rfl, if_pos rfl, (e _ (by decide)).1, (e _ (by decide)).2]
      exact QP.ok t1 (by omega)
    rw [if_neg b0, if_neg b0]
    by_cases b1 : b = 1
    · subst b1
      rw [if_pos rfl, if_pos rfl, (e _ (by decide)).1, (e _ (by decide)).2]
      exact QP.ok t2 (by omega)
    rw [if_neg b1, if_neg b1]
    by_cases b2 : b = 2
    · subst b2
      rw [if_pos rfl, if_pos rfl, (e _ (by decide)).1, (e _ (by decide)).2]
      exact QP.ok t3 (by omega)
    rw [if_neg b2, if_neg b2]
    by_cases b3 : b = 3
    · subst b3
      rw [if_pos rfl, if_pos rfl, (e _ (by decide)).1, (e _ (by decide)).2]
      exact QP.ok t4 (by omega)
    rw [if_neg b3, if_neg b3]
    by_cases b4 : b = 4
    · subst b4
      rw [if_pos rfl, if_pos rfl, (e _ (by decide)).1, (e _ (by decide)).2]
      exact QP.ok t5 (by omega)
    rw [if_neg b4, if_neg b4]
    by_cases b5 : b = 5
    · subst b5
      rw [if_pos rfl, if_pos rfl]
      by_cases z : d 56 a = 0
      · rw [if_pos z, (e _ (by decide)).1, (e _ (by decide)).2]
        exact QP.ok (by omega) (by decide)
      · rw [if_neg z, (e _ (by decide)).1, (e _ (by decide)).2]
        exact QP.ok (by omega) (by decide)
    rw [if_neg b5, if_neg b5]
    by_cases b6 : b = 6
    · subst b6
      rw [if_pos rfl, if_pos rfl]
      by_cases z : d 56 a = 2
      · rw [if_pos z, (e _ (by decide)).1, (e _ (by decide)).2]
        exact QP.ok (by omega) (by decide)
      · rw [if_neg z, (e _ (by decide)).1, (e _ (by decide)).2]
        exact QP.ok (by omega) (by decide)
    rw [if_neg b6, if_neg b6]
    by_cases b7 : b = 7
    · subst b7
      rw [if_pos rfl, if_pos rfl, (e _ (by decide)).1, (e _ (by decide)).2]
      exact QP.ok wc7 (by rw [wc7]; omega)
    rw [if_neg b7, if_neg b7]
    by_cases b8 : b = 8
    · subst b8
      obtain ⟨q1, q2, q3⟩ := waitEq hg hr c
      rw [if_pos rfl, if_pos rfl, (e8 _ (by decide)).1, (e8 _ (by decide)).2, if_pos rfl]
      exact QP.ok q1 ⟨q2, q3⟩
    rw [if_neg b8, if_neg b8]
    by_cases b9 : b = 9
    · subst b9
      have q := v112 (t := a) hg hr
      have r := csum_rng (f := fun k => if d 770 (1916 + 5 * k + 1) = a then 1 else 0) (n := (d 770 10).toNat) (B := 1) (fun p x y => by split <;> omega)
      rw [if_pos rfl, if_pos rfl, (e8 _ (by decide)).1, (e8 _ (by decide)).2, if_neg (by decide), if_pos rfl]
      exact QP.ok q (by rw [q]; omega)
    rw [if_neg b9, if_neg b9]
    by_cases b10 : b = 10
    · subst b10
      obtain ⟨q1, q2⟩ := placeEq hg hr c
      have q1 : v_39 3 (d 770 (452 + 24 * a + 1)) a d = V_221 a (d 770) := q1
      have go := hg.2.1 _ g2.1 g2.2
      rw [if_pos rfl, if_pos rfl, (e8 _ (by decide)).1, (e8 _ (by decide)).2, if_neg (by decide), if_neg (by decide), t2]
      refine QP.ok q1 ?_
      rw [q1]
      rcases q2 with q2 | q2
      · omega
      · omega
    rw [if_neg b10, if_neg b10]
    have e6 : g_247 769 a b d = mset d 769 0 2 := by
      unfold g_247 f_247
      have nb : ¬ (0 ≤ b ∧ b ≤ 10) := by omega
      rw [v238, if_pos c, if_neg n1, v176, if_neg nb, if_pos rfl]
    rw [e6]
    exact QP.fail (by decide)
  · rw [if_neg c, if_neg c]
    have e : g_247 769 a b d = mset d 769 0 1 := by
      unfold g_247 f_247
      rw [v238, if_neg c, if_pos rfl]
    rw [e]
    exact QP.fail (by decide)
/-! ===== queries: whyNot, common, isWitness, witnessFor ===== -/
theorem v250 {a b : Int} {d : mD} : v_250 769 a b d = if 0 ≤ a ∧ a < d 770 9 then (if 0 ≤ b ∧ b < d 770 8 then 1 else 0) else 0 := by
  unfold v_250
  rw [v238, v237]
  have n1 : ¬ (1 : Int) = 0 := by decide
  by_cases c : 0 ≤ a ∧ a < d 770 9
  · rw [if_pos c, if_pos c, if_neg n1]
    by_cases c2 : 0 ≤ b ∧ b < d 770 8
    · rw [if_pos c2, if_neg n1]
    · rw [if_neg c2, if_pos rfl]
  · rw [if_neg c, if_neg c, if_pos rfl]
theorem g250 {a b : Int} {d : mD} : g_250 769 a b d = if 0 ≤ a ∧ a < d 770 9 then (if 0 ≤ b ∧ b < d 770 8 then mset d 769 0 0 else mset d 769 0 1) else mset d 769 0 1 := by
  unfold g_250
  rw [v238, v237]
  have n1 : ¬ (1 : Int) = 0 := by decide
  by_cases c : 0 ≤ a ∧ a < d 770 9
  · rw [if_pos c, if_pos c, if_neg n1]
    by_cases c2 : 0 ≤ b ∧ b < d 770 8
    · rw [if_pos c2, if_pos c2, if_neg n1]
    · rw [if_neg c2, if_neg c2, if_pos rfl]
  · rw [if_neg c, if_neg c, if_pos rfl]
theorem qp250 {d : mD} {a b x vr : Int} (hk : OKR 1 d (d 770)) {v : Int} {d1 d2 : mD} (hv : v = if 0 ≤ a ∧ a < d 770 9 then (if 0 ≤ b ∧ b < d 770 8 then 0 else 1) else 1) (h1 : d1 = if 0 ≤ a ∧ a < d 770 9 then (if 0 ≤ b ∧ b < d 770 8 then mset d 778 0 x else d) else d) (h2 : d2 = g_250 769 a b d1) (hx : (0 ≤ a ∧ a < d 770 9) → (0 ≤ b ∧ b < d 770 8) → x = vr ∧ -100000 ≤ x ∧ x ≤ 100000) : QP d1 d2 v vr := by
  rw [h2, hv, h1]
  by_cases c : 0 ≤ a ∧ a < d 770 9
  · rw [if_pos c, if_pos c]
    by_cases c2 : 0 ≤ b ∧ b < d 770 8
    · rw [if_pos c2, if_pos c2, g250, o778 (by decide), if_pos c, if_pos c2]
      exact QP.ok (hx c c2).1 (hx c c2).2
    · rw [if_neg c2, if_neg c2, g250, if_pos c, if_neg c2]
      exact QP.fail (by decide)
  · rw [if_neg c, if_neg c, g250, if_neg c]
    exact QP.fail (by decide)
theorem qpWhyNot {E : mO × tW} {d : mD} {a b : Int} (hT : TKL E) (hI : Inv E d) : QP (g_313 0 a b 778 d) (g_251 769 a b (g_313 0 a b 778 d)) (v_313 0 a b 778 d) (v_251 769 a b (g_313 0 a b 778 d)) := by
  obtain ⟨hS, hh, hi⟩ := hI
  have hk := hi.1
  obtain ⟨hg, -, -, -, hr⟩ := id hk
  have n8 := hg.1.2.1
  have n9 := hg.1.2.2.1
  have o9 : d 50 0 = d 770 9 := hr.2.2.2.2.1.1
  have o8 : d 11 0 = d 770 8 := hr.2.2.2.1.1
  refine qp250 (a := a) (b := b) (x := v_77 1 a b d) hk ?_ ?_ rfl (fun c c2 => ?_)
  · unfold v_313
    rw [n01, n49, show (1 : Int) + 10 = 11 by decide, o9, o8, ifR, ifR]
  · unfold g_313
    rw [n01, n49, show (1 : Int) + 10 = 11 by decide, o9, o8, ifR, ifR]
  · have r := (p_77 (E := E) (x0 := 1) (x1 := a) (x2 := b) hS s1B (by omega) (by omega) ⟨hT.t 6 1 (by decide), trivial, trivial, trivial⟩ hh).2.1
    have e : g_313 0 a b 778 d = mset d 778 0 (v_77 1 a b d) := by
      unfold g_313
      rw [n01, n49, show (1 : Int) + 10 = 11 by decide, o9, o8, ifR, ifR, if_pos c, if_pos c2]
    refine ⟨?_, by omega, by omega⟩
    have n1 : ¬ (1 : Int) = 0 := by decide
    unfold v_251
    rw [e, v250, o778 (by decide), if_pos c, if_pos c2, if_neg n1, g250, o778 (by decide), if_pos c, if_pos c2, m_v_234, o769 (by decide), o778 (by decide)]
    exact (hinder hg hr c c2).1
theorem qpCommon {E : mO × tW} {d : mD} {a b : Int} (hT : TKL E) (hI : Inv E d) : QP (g_314 0 a b 778 d) (g_252 769 a b (g_314 0 a b 778 d)) (v_314 0 a b 778 d) (v_252 769 a b (g_314 0 a b 778 d)) := by
  obtain ⟨hS, hh, hi⟩ := hI
  have hk := hi.1
  obtain ⟨hg, -, -, -, hr⟩ := id hk
  have n8 := hg.1.2.1
  have n9 := hg.1.2.2.1
  have o9 : d 50 0 = d 770 9 := hr.2.2.2.2.1.1
  have o8 : d 11 0 = d 770 8 := hr.2.2.2.1.1
  refine qp250 (a := a) (b := b) (x := v_78 1 a b d) hk ?_ ?_ rfl (fun c c2 => ?_)
  · unfold v_314
    rw [n01, n49, show (1 : Int) + 10 = 11 by decide, o9, o8, ifR, ifR]
  · unfold g_314
    rw [n01, n49, show (1 : Int) + 10 = 11 by decide, o9, o8, ifR, ifR]
  · have r := (p_78 (E := E) (x0 := 1) (x1 := a) (x2 := b) hS s1B (by omega) (by omega) ⟨hT.t 6 1 (by decide), trivial, trivial, trivial⟩ hh).2
    have e : g_314 0 a b 778 d = mset d 778 0 (v_78 1 a b d) := by
      unfold g_314
      rw [n01, n49, show (1 : Int) + 10 = 11 by decide, o9, o8, ifR, ifR, if_pos c, if_pos c2]
    refine ⟨?_, by omega, by omega⟩
    have n1 : ¬ (1 : Int) = 0 := by decide
    unfold v_252
    rw [e, v250, o778 (by decide), if_pos c, if_pos c2, if_neg n1, g250, o778 (by decide), if_pos c, if_pos c2, m_v_231, o769 (by decide), o778 (by decide)]
    exact common hg hr c
theorem qpIsWit {d : mD} {a b : Int} (hk : OKR 1 d (d 770)) : QP (g_316 0 a b 778 d) (g_254 769 a b (g_316 0 a b 778 d)) (v_316 0 a b 778 d) (v_254 769 a b (g_316 0 a b 778 d)) := by
  obtain ⟨hg, -, -, -, hr⟩ := id hk
  have n8 := hg.1.2.1
  have o9 : d 50 0 = d 770 9 := hr.2.2.2.2.1.1
  have o8 : d 11 0 = d 770 8 := hr.2.2.2.1.1
  refine qp250 (a := a) (b := b) (x := if v_99 50 a b d = 0 then 0 else 1) hk ?_ ?_ rfl (fun c c2 => ?_)
  · unfold v_316
    rw [n01, n49, show (1 : Int) + 10 = 11 by decide, o9, o8, ifR, ifR]
  · unfold g_316
    rw [n01, n49, show (1 : Int) + 10 = 11 by decide, o9, o8, ifR, ifR]
    split
    · split
      · split
        · rfl
        · rfl
      · rfl
    · rfl
  · have e : g_316 0 a b 778 d = mset d 778 0 (if v_99 50 a b d = 0 then 0 else 1) := by
      unfold g_316
      rw [n01, n49, show (1 : Int) + 10 = 11 by decide, o9, o8, ifR, ifR, if_pos c, if_pos c2]
      split
      · rfl
      · rfl
    have n1 : ¬ (1 : Int) = 0 := by decide
    refine ⟨?_, by split <;> decide⟩
    unfold v_254
    rw [e, v250, o778 (by decide), if_pos c, if_pos c2, if_neg n1, n7691, o778 (by decide)]
    have rb := (hr.2.2.2.2.2.1 a c.1 c.2).2.2.1 b c2.1 (by omega)
    have rb : ib (d 57 a) b.toNat = true ↔ ¬ d 770 (452 + 24 * a + 8 + b) = 0 := rb
    have e9 : v_99 50 a b d = if ib (d 57 a) b.toNat = true then 1 else 0 := by
      unfold v_99
      rw [show (50 : Int) + 7 = 57 by decide, ibit c2.1 (by omega)]
      by_cases z : ib (d 57 a) b.toNat = true
      · rw [if_pos z, if_neg n1]
      · rw [if_neg z, if_pos rfl]
    rw [e9]
    by_cases z : d 770 (452 + 24 * a + 8 + b) = 0
    · have y : ¬ ib (d 57 a) b.toNat = true := fun q => rb.1 q z
      rw [if_neg y, if_pos rfl, if_pos z]
    · rw [if_pos (rb.2 z), if_neg n1, if_neg z]
theorem witLoop {d D : mD} {a x2 : Int} (hk : OKR 1 d (d 770)) (h70 : D 770 = d 770) (ha : 0 ≤ a ∧ a < d 770 9) (h2 : 0 ≤ x2) : ∀ (n : Nat) (m k : Int), 0 ≤ k → 0 ≤ m → d 770 8 - k ≤ (n : Int) → (lp_134_10 0 a x2 n m k d = -103 ∧ lp_253_31 769 a x2 n (x2 - m) k D = (0, mset D 769 0 2)) ∨ (0 ≤ lp_134_10 0 a x2 n m k d ∧ lp_134_10 0 a x2 n m k d < d 770 8 ∧ lp_253_31 769 a x2 n (x2 - m) k D = (lp_134_10 0 a x2 n m k d, D)) := by
  obtain ⟨hg, -, -, -, hr⟩ := id hk
  have o8 : d 11 0 = d 770 8 := hr.2.2.2.1.1
  have last : ∀ (r : Int → Int → mD → Int) (r' : Int → Int → mD → Int × mD) (m k : Int), ¬ k < d 770 8 → st_134_10 0 a x2 r m k d = -103 ∧ st_253_31 769 a x2 r' (x2 - m) k D = (0, mset D 769 0 2) := fun r r' m k hk => by
    unfold st_134_10 st_253_31
    rw [n01, show (1 : Int) + 10 = 11 by decide, o8, if_neg hk, n7691, h70, if_neg hk]
    exact ⟨rfl, rfl⟩
  intro n
  induction n with
  | zero =>
    intro m k h0 hm hn
    exact Or.inl (last _ _ m k (by omega))
  | succ n ih =>
    intro m k h0 hm hn
    by_cases c : k < d 770 8
    · have hv : v_77 1 a k d = V_234 a k (d 770) := (hinder hg hr ha ⟨h0, c⟩).1
      have nx : ¬ x2 < 0 := by omega
      by_cases z : V_234 a k (d 770) = 0
      · by_cases y : m = x2
        · have s1 : lp_134_10 0 a x2 (n + 1) m k d = k := by
            show st_134_10 0 a x2 _ m k d = _
            unfold st_134_10
            rw [n01, show (1 : Int) + 10 = 11 by decide, o8, if_pos c, hv, if_pos z, if_pos y]
          have s2 : lp_253_31 769 a x2 (n + 1) (x2 - m) k D = (k, D) := by
            show st_253_31 769 a x2 _ (x2 - m) k D = _
            unfold st_253_31
            rw [n7691, h70, if_pos c, if_neg nx, m_v_234, h70, if_pos z, if_pos (by omega)]
          rw [s1, s2]
          exact Or.inr ⟨h0, c, rfl⟩
        · have s1 : lp_134_10 0 a x2 (n + 1) m k d = lp_134_10 0 a x2 n (m + 1) (k + 1) d := by
            show st_134_10 0 a x2 _ m k d = _
            unfold st_134_10
            rw [n01, show (1 : Int) + 10 = 11 by decide, o8, if_pos c, hv, if_pos z, if_neg y]
          have s2 : lp_253_31 769 a x2 (n + 1) (x2 - m) k D = lp_253_31 769 a x2 n (x2 - (m + 1)) (k + 1) D := by
            show st_253_31 769 a x2 _ (x2 - m) k D = _
            unfold st_253_31
            rw [n7691, h70, if_pos c, if_neg nx, m_v_234, h70, if_pos z, if_neg (by omega), show x2 - m + -1 = x2 - (m + 1) by omega]
          rw [s1, s2]
          exact ih (m + 1) (k + 1) (by omega) (by omega) (by omega)
      · have s1 : lp_134_10 0 a x2 (n + 1) m k d = lp_134_10 0 a x2 n m (k + 1) d := by
          show st_134_10 0 a x2 _ m k d = _
          unfold st_134_10
          rw [n01, show (1 : Int) + 10 = 11 by decide, o8, if_pos c, hv, if_neg z]
        have s2 : lp_253_31 769 a x2 (n + 1) (x2 - m) k D = lp_253_31 769 a x2 n (x2 - m) (k + 1) D := by
          show st_253_31 769 a x2 _ (x2 - m) k D = _
          unfold st_253_31
          rw [n7691, h70, if_pos c, if_neg nx, m_v_234, h70, if_neg z]
        rw [s1, s2]
        exact ih m (k + 1) (by omega) hm (by omega)
    · exact Or.inl (last _ _ m k c)
theorem witNeg {d D : mD} {a x2 : Int} (h2 : x2 < 0) : ∀ (n : Nat) (m k : Int), 0 ≤ m → 0 ≤ k → d 11 0 - k ≤ (n : Int) → lp_134_10 0 a x2 n m k d = -103 := by
  intro n
  induction n with
  | zero =>
    intro m k hm hk hn
    show st_134_10 0 a x2 _ m k d = _
    unfold st_134_10
    rw [n01, show (1 : Int) + 10 = 11 by decide, if_neg (by omega)]
  | succ n ih =>
    intro m k hm hk hn
    show st_134_10 0 a x2 _ m k d = _
    unfold st_134_10
    rw [n01, show (1 : Int) + 10 = 11 by decide]
    split
    · split
      · rw [if_neg (by omega)]
        exact ih _ _ (by omega) (by omega) (by omega)
      · exact ih _ _ (by omega) (by omega) (by omega)
    · rfl
theorem ref253n {D : mD} {a x2 y k : Int} {n : Nat} (h2 : x2 < 0) : lp_253_31 769 a x2 n y k D = (0, mset D 769 0 2) := by
  have st : ∀ r : Int → Int → mD → Int × mD, st_253_31 769 a x2 r y k D = (0, mset D 769 0 2) := fun r => by
    unfold st_253_31
    rw [if_pos h2]
    split <;> rfl
  cases n with
  | zero => exact st _
  | succ n => exact st _
theorem qpWitFor {d : mD} {a b : Int} (hk : OKR 1 d (d 770)) : QP (g_315 0 a b 778 d) (g_253 769 a b (g_315 0 a b 778 d)) (v_315 0 a b 778 d) (v_253 769 a b (g_315 0 a b 778 d)) := by
  obtain ⟨hg, -, -, -, hr⟩ := id hk
  have n8 := hg.1.2.1
  have o9 : d 50 0 = d 770 9 := hr.2.2.2.2.1.1
  have o8 : d 11 0 = d 770 8 := hr.2.2.2.1.1
  have n1 : ¬ (1 : Int) = 0 := by decide
  unfold v_315 g_315
  rw [n01, n49, o9, ifR, ifR]
  have h22 : ∀ D : mD, mset (mset D 769 0 0) 769 0 2 = mset D 769 0 2 := fun D => by
    funext b j
    by_cases e1 : b = 769
    · by_cases e2 : j = 0
      · rw [ms_e e1 e2, ms_e e1 e2]
      · rw [ms_i e2, ms_i e2, ms_i e2]
    · rw [ms_a e1, ms_a e1, ms_a e1]
  by_cases c : 0 ≤ a ∧ a < d 770 9
  · rw [if_pos c, if_pos c]
    have fail : lp_134_10 0 a b (16 - 0 : Int).toNat 0 0 d = -103 → f_253 769 a b d = (0, mset d 769 0 2) → QP (if lp_134_10 0 a b (16 - 0 : Int).toNat 0 0 d < 0 then d else mset d 778 0 (lp_134_10 0 a b (16 - 0 : Int).toNat 0 0 d)) (g_253 769 a b (if lp_134_10 0 a b (16 - 0 : Int).toNat 0 0 d < 0 then d else mset d 778 0 (lp_134_10 0 a b (16 - 0 : Int).toNat 0 0 d))) (if lp_134_10 0 a b (16 - 0 : Int).toNat 0 0 d < 0 then 2 else 0) (v_253 769 a b (if lp_134_10 0 a b (16 - 0 : Int).toNat 0 0 d < 0 then d else mset d 778 0 (lp_134_10 0 a b (16 - 0 : Int).toNat 0 0 d))) := fun e1 e2 => by
      have m103 : (-103 : Int) < 0 := by decide
      rw [e1, if_pos m103, if_pos m103]
      unfold g_253
      rw [e2]
      exact QP.fail (by decide)
    by_cases b0 : 0 ≤ b
    · have l := fun (x : Int) => witLoop (D := mset (mset d 778 0 x) 769 0 0) (x2 := b) hk (by rw [o769 (by decide), o778 (by decide)]) c b0 (16 - 0 : Int).toNat 0 0 (by decide) (by decide) (by omega)
      have l0 := witLoop (D := mset d 769 0 0) (x2 := b) hk (by rw [o769 (by decide)]) c b0 (16 - 0 : Int).toNat 0 0 (by decide) (by decide) (by omega)
      have eb : b - 0 = b := by omega
      rw [eb] at l0
      rcases l0 with ⟨l1, l2⟩ | ⟨l1, l2, l3⟩
      · refine fail l1 ?_
        unfold f_253
        rw [v238, if_pos c, if_neg n1]
        exact l2.trans (by rw [h22])
      · generalize hx : lp_134_10 0 a b (16 - 0 : Int).toNat 0 0 d = x at *
        rw [if_neg (by omega), if_neg (by omega)]
        have lx := l x
        have e : f_253 769 a b (mset d 778 0 x) = (x, mset (mset d 778 0 x) 769 0 0) := by
          unfold f_253
          rw [v238, o778 (by decide), if_pos c, if_neg n1]
          rcases lx with ⟨q1, -⟩ | ⟨-, -, q3⟩
          · omega
          · rw [eb] at q3
            exact q3
        unfold g_253 v_253
        rw [e]
        exact QP.ok rfl (by omega)
    · refine fail (witNeg (D := d) (by omega) _ 0 0 (by decide) (by decide) (by omega)) ?_
      unfold f_253
      rw [v238, if_pos c, if_neg n1, ref253n (by omega), h22]
  · rw [if_neg c, if_neg c]
    have e : g_253 769 a b d = mset d 769 0 1 := by
      unfold g_253 f_253
      rw [v238, if_neg c, if_pos rfl]
    rw [e]
    exact QP.fail (by decide)
