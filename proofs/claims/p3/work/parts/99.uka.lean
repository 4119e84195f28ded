/-! ===== what the reference's rows keep: two witnesses at most where none is valid ===== -/
def RP (d : mD) : Prop := mwP (d 770) ∧ (∀ k, 0 ≤ k → k < d 769 7 → mwP (fun i => d 771 (3116 * k + i))) ∧ ∀ j, (j = 0 ∨ j = 1) → ¬ d 775 j = 0 → mwP (fun i => d 772 (3116 * j + i))
theorem mwP.row {w w' : Row} (e : REq w w') (h : mwP w) : mwP w' := fun t t0 t1 => by
  rw [e (452 + 24 * t + 6) (by omega) (by omega), e (452 + 24 * t + 7) (by omega) (by omega)]
  exact h t t0 t1
theorem mwP.fr {w w' : Row} (e : ∀ t, 0 ≤ t → t ≤ 60 → w' (452 + 24 * t + 6) = w (452 + 24 * t + 6) ∧ w' (452 + 24 * t + 7) = w (452 + 24 * t + 7)) (h : mwP w) : mwP w' := fun t t0 t1 => by
  rw [(e t t0 t1).1, (e t t0 t1).2]
  exact h t t0 t1
theorem RP.q {d d2 : mD} (h : RP d) (hr : REq (d 770) (d2 770)) (h7 : d2 769 7 = d 769 7) (hx : ∀ b, (b = 771 ∨ b = 772 ∨ b = 775) → d2 b = d b) : RP d2 := by
  obtain ⟨h1, h2, h3⟩ := h
  refine ⟨h1.row hr, fun k a b => ?_, fun j hj hn => ?_⟩
  · rw [hx 771 (by decide)]
    exact h2 k a (by omega)
  · rw [hx 775 (by decide)] at hn
    rw [hx 772 (by decide)]
    exact h3 j hj hn
theorem RP.keep {d d2 r r' : mD} (h : RP d) (b7 : 0 ≤ d 769 7 ∧ d 769 7 ≤ 8) (hr : KeepW r r') (r7 : r 769 7 = d 769 7) (r0 : r 770 = d 770) (r1 : r 771 = d 771) (e7 : d2 769 7 = r' 769 7) (e1 : d2 771 = r' 771) (e2 : d2 772 = d 772) (e5 : d2 775 = d 775) (hw : mwP (d2 770)) : RP d2 := by
  obtain ⟨h1, h2, h3⟩ := h
  obtain ⟨-, -, k3⟩ := hr
  refine ⟨hw, fun k a b => ?_, fun j hj hn => ?_⟩
  · rw [e1]
    rw [e7] at b
    rw [r7, r0, r1] at k3
    rcases k3 with ⟨q1, q2, q3, q4⟩ | ⟨q1, q2, q3, q4⟩
    · by_cases c : k = d 769 7
      · refine h1.row (fun i x y => ?_)
        rw [c]
        exact q3 i x y
      · refine (h2 k a (by omega)).row (fun i x y => ?_)
        exact q4 _ (by omega)
    · by_cases c : k = 7
      · refine h1.row (fun i x y => ?_)
        rw [c]
        exact q3 i x y
      · refine (h2 (k + 1) (by omega) (by omega)).row (fun i x y => ?_)
        have := q4 (3116 * k + i) (by omega) (by omega)
        rw [this, show 3116 * k + i + 3116 = 3116 * (k + 1) + i by omega]
  · rw [e5] at hn
    rw [e2]
    exact h3 j hj hn
theorem RP.undo {d d2 r r' : mD} (h : RP d) (b7 : 0 < d 769 7) (hr : UndoW r r') (r7 : r 769 7 = d 769 7) (r1 : r 771 = d 771) (e7 : d2 769 7 = r' 769 7) (e0 : d2 770 = r' 770) (e1 : d2 771 = d 771) (e2 : d2 772 = d 772) (e5 : d2 775 = d 775) : RP d2 := by
  obtain ⟨h1, h2, h3⟩ := h
  obtain ⟨-, -, -, k4, k5⟩ := hr
  refine ⟨?_, fun k a b => ?_, fun j hj hn => ?_⟩
  · rw [e0]
    refine (h2 (d 769 7 - 1) (by omega) (by omega)).row (fun i x y => ?_)
    rw [k5 i x y, r7, r1]
  · rw [e1]
    exact h2 k a (by omega)
  · rw [e5] at hn
    rw [e2]
    exact h3 j hj hn
theorem RP.save {a : Int} {d d2 r r' : mD} (h : RP d) (ha : a = 0 ∨ a = 1) (hr : SaveW a r r') (r0 : r 770 = d 770) (r2 : r 772 = d 772) (r5 : r 775 = d 775) (e0 : d2 770 = d 770) (e7 : d2 769 7 = d 769 7) (e1 : d2 771 = d 771) (e2 : d2 772 = r' 772) (e5 : d2 775 = r' 775) : RP d2 := by
  obtain ⟨h1, h2, h3⟩ := h
  obtain ⟨-, k2, k3, k4, k5⟩ := hr
  refine ⟨by rw [e0]; exact h1, fun k x y => ?_, fun j hj hn => ?_⟩
  · rw [e1]
    exact h2 k x (by omega)
  · rw [e2]
    by_cases c : j = a
    · refine h1.row (fun i x y => ?_)
      rw [c, ← r0]
      exact k4 i x y
    · rw [e5, k3 j c, r5] at hn
      refine (h3 j hj hn).row (fun i x y => ?_)
      rw [k5 _ (by omega), r2]
theorem RP.rest {a : Int} {d d2 r r' : mD} (h : RP d) (ha : a = 0 ∨ a = 1) (hv : ¬ d 775 a = 0) (hr : RestW a r r') (r2 : r 772 = d 772) (e7 : d2 769 7 = r' 769 7) (e0 : d2 770 = r' 770) (e2 : d2 772 = d 772) (e5 : d2 775 = d 775) : RP d2 := by
  obtain ⟨h1, h2, h3⟩ := h
  obtain ⟨-, k2, -, k4⟩ := hr
  refine ⟨?_, fun k x y => by omega, fun j hj hn => ?_⟩
  · rw [e0]
    refine (h3 a ha hv).row (fun i x y => ?_)
    rw [k4 i x y, r2]
  · rw [e5] at hn
    rw [e2]
    exact h3 j hj hn
theorem RP.new {d2 : mD} (hw : mwP (d2 770)) (h7 : d2 769 7 = 0) (h0 : d2 775 0 = 0) (h1 : d2 775 1 = 0) : RP d2 := by
  refine ⟨hw, fun k x y => by omega, fun j hj hn => ?_⟩
  rcases hj with hj | hj
  · rw [hj] at hn
    exact absurd h0 hn
  · rw [hj] at hn
    exact absurd h1 hn
theorem QR.rp {d d1 d2 : mD} (h : RP d) (h70 : d1 770 = d 770) (h69 : d1 769 7 = d 769 7) (hx : ∀ b, (b = 771 ∨ b = 772 ∨ b = 775) → d1 b = d b) (q : QR d1 d2) : RP d2 := by
  refine h.q (fun i x y => ?_) ?_ (fun b hb => ?_)
  · rw [q.2.2 i x y, h70]
  · rw [q.2.1 7 (by decide) (by decide), h69]
  · rw [q.1 b (by omega) (by omega) (by omega) (by omega), hx b hb]
