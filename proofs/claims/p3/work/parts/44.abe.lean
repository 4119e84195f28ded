/-! ===== abstract states that are the same ===== -/
noncomputable def anEq (a b : aN) : Bool := Nat.beq a.1 b.1 && zeq a.2 b.2
noncomputable def lEq {α : Type} (e : α → α → Bool) : List α → List α → Bool
  | [], [] => true
  | a :: l, b :: r => e a b && lEq e l r
  | _, _ => false
theorem lEq_ok {α : Type} {e : α → α → Bool} (he : ∀ a b, e a b = true → a = b) : ∀ (l r : List α), lEq e l r = true → l = r
  | [], [], _ => rfl
  | a :: l, b :: r, h => by
    simp only [lEq, Bool.and_eq_true] at h
    rw [he a b h.1, lEq_ok he l r h.2]
  | [], _ :: _, h => by cases h
  | _ :: _, [], h => by cases h
theorem anEq_ok (a b : aN) (h : anEq a b = true) : a = b := by
  simp only [anEq, Bool.and_eq_true] at h
  exact Prod.ext (Nat.eq_of_beq_eq_true h.1) (of_decide_eq_true h.2)
noncomputable def avEq (a b : aV) : Bool := Nat.beq a.1 b.1 && anEq a.2 b.2
theorem avEq_ok (a b : aV) (h : avEq a b = true) : a = b := by
  simp only [avEq, Bool.and_eq_true] at h
  exact Prod.ext (Nat.eq_of_beq_eq_true h.1) (anEq_ok _ _ h.2)
noncomputable def acEq (a b : aC) : Bool := Nat.beq a.1 b.1 && Nat.beq a.2.1 b.2.1 && anEq a.2.2.1 b.2.2.1 && lEq (lEq anEq) a.2.2.2 b.2.2.2
theorem acEq_ok (a b : aC) (h : acEq a b = true) : a = b := by
  simp only [acEq, Bool.and_eq_true] at h
  exact Prod.ext (Nat.eq_of_beq_eq_true h.1.1.1) (Prod.ext (Nat.eq_of_beq_eq_true h.1.1.2) (Prod.ext (anEq_ok _ _ h.1.2) (lEq_ok (lEq_ok anEq_ok) _ _ h.2)))
noncomputable def asEq (a b : aSt) : Bool := Nat.beq a.1 b.1 && lEq avEq a.2.1 b.2.1 && lEq avEq a.2.2.1 b.2.2.1 && Nat.beq a.2.2.2.1 b.2.2.2.1 && Nat.beq a.2.2.2.2.1 b.2.2.2.2.1 && lEq (lEq acEq) a.2.2.2.2.2.1 b.2.2.2.2.2.1 && Nat.beq a.2.2.2.2.2.2.1 b.2.2.2.2.2.2.1 && (a.2.2.2.2.2.2.2 == b.2.2.2.2.2.2.2)
theorem asEq_ok (a b : aSt) (h : asEq a b = true) : a = b := by
  simp only [asEq, Bool.and_eq_true, beq_iff_eq] at h
  obtain ⟨⟨⟨⟨⟨⟨⟨h1, h2⟩, h3⟩, h4⟩, h5⟩, h6⟩, h7⟩, h8⟩ := h
  exact Prod.ext (Nat.eq_of_beq_eq_true h1) (Prod.ext (lEq_ok avEq_ok _ _ h2) (Prod.ext (lEq_ok avEq_ok _ _ h3) (Prod.ext (Nat.eq_of_beq_eq_true h4) (Prod.ext (Nat.eq_of_beq_eq_true h5) (Prod.ext (lEq_ok (lEq_ok acEq_ok) _ _ h6) (Prod.ext (Nat.eq_of_beq_eq_true h7) h8))))))
