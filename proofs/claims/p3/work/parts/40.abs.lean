/-! ===== an abstract run of the small machine: numbers that are known, a symbol and a distance, or nothing known ===== -/
noncomputable def frcN {α : Type} (n : Nat) (k : Nat → α) : α := match n with
  | 0 => k 0
  | m + 1 => k (Nat.succ m)
noncomputable def frcZ {α : Type} (x : Int) (k : Int → α) : α := match x with
  | .ofNat n => frcN n (fun n => k (.ofNat n))
  | .negSucc n => frcN n (fun n => k (.negSucc n))
theorem frcN_eq {α : Type} (n : Nat) (k : Nat → α) : frcN n k = k n := by cases n <;> rfl
theorem frcZ_eq {α : Type} (x : Int) (k : Int → α) : frcZ x k = k x := by
  cases x with
  | ofNat n => exact frcN_eq n (fun n => k (.ofNat n))
  | negSucc n => exact frcN_eq n (fun n => k (.negSucc n))
-- (0, c): c; (1, 0): any; (1, -1): any byte; (k + 2, c): symbol k and c
abbrev aN : Type := Nat × Int
abbrev aV : Type := Nat × aN
-- kind, length, what lies where nothing was written, rows of 32
abbrev aC : Type := Nat × Nat × aN × List (List aN)
abbrev aM : Type := List (List aC)
-- pc, locals, stack, cells and slots made, cells, their number, whether the next is known
abbrev aSt : Type := Nat × List aV × List aV × Nat × Nat × aM × Nat × Bool
abbrev aRes : Type := (Option aV ⊕ Nat) × aM × Nat × Bool
-- the next state; a call; an end; a symbol to be split: up to this number, and above
abbrev aNx : Type := aSt ⊕ ((Nat × List aV × aSt) ⊕ (aRes ⊕ (Nat × Int)))
-- what is known of the script: its length; bounds of its numbers, and (6) of its first number's last six bits
abbrev aI : Type := Nat × List (Int × Int)
noncomputable def lupd {α : Type} (z : α) (f : α → α) : List α → Nat → List α
  | [], 0 => [f z]
  | [], i + 1 => z :: lupd z f [] i
  | a :: l, 0 => f a :: l
  | a :: l, i + 1 => a :: lupd z f l i
noncomputable def lget {α : Type} (z : α) (l : List α) : Nat → α := List.rec (motive := fun _ => Nat → α) (fun _ => z) (fun a _ ih i => Nat.rec (motive := fun _ => α) a (fun j _ => ih j) i) l
theorem lget_nil {α : Type} (z : α) (i : Nat) : lget z [] i = z := rfl
theorem lget_0 {α : Type} (z a : α) (l : List α) : lget z (a :: l) 0 = a := rfl
theorem lget_s {α : Type} (z a : α) (l : List α) (i : Nat) : lget z (a :: l) (i + 1) = lget z l i := rfl
theorem lget_upd {α : Type} (z : α) (f : α → α) : ∀ (l : List α) (i j : Nat), lget z (lupd z f l i) j = if j = i then f (lget z l i) else lget z l j
  | [], 0, 0 => by simp [lupd, lget_nil, lget_0, lget_s]
  | [], 0, j + 1 => by simp [lupd, lget_nil, lget_0, lget_s]
  | [], i + 1, 0 => by simp [lupd, lget_nil, lget_0, lget_s]
  | [], i + 1, j + 1 => by
    have ih := lget_upd z f [] i j
    simp only [lupd, lget_nil, lget_0, lget_s] at ih ⊢
    rw [ih]
    by_cases h : j = i <;> simp [h, lget_nil, lget_0, lget_s]
  | a :: l, 0, 0 => by simp [lupd, lget_nil, lget_0, lget_s]
  | a :: l, 0, j + 1 => by simp [lupd, lget_nil, lget_0, lget_s]
  | a :: l, i + 1, 0 => by simp [lupd, lget_nil, lget_0, lget_s]
  | a :: l, i + 1, j + 1 => by
    have ih := lget_upd z f l i j
    simp only [lupd, lget_nil, lget_0, lget_s] at ih ⊢
    rw [ih]
    by_cases h : j = i <;> simp [h]
noncomputable def aget (c : aC) (i : Nat) : aN := lget c.2.2.1 (lget [] c.2.2.2 (i / 32)) (i % 32)
noncomputable def aset (c : aC) (i : Nat) (v : aN) : aC := (c.1, c.2.1, c.2.2.1, lupd [] (fun r => lupd c.2.2.1 (fun _ => v) r (i % 32)) c.2.2.2 (i / 32))
theorem aget_set (c : aC) (i j : Nat) (v : aN) : aget (aset c i v) j = if j = i then v else aget c j := by
  unfold aget aset
  simp only [lget_upd]
  by_cases h1 : j / 32 = i / 32
  · rw [if_pos h1, lget_upd]
    by_cases h2 : j % 32 = i % 32
    · have h3 : j = i := by omega
      rw [if_pos h2, if_pos h3]
    · have h3 : ¬ j = i := fun h => h2 (by rw [h])
      rw [if_neg h2, if_neg h3, h1]
  · have h3 : ¬ j = i := fun h => h1 (by rw [h])
    rw [if_neg h1, if_neg h3]
noncomputable def aC0 : aC := (999, 0, (1, 0), [])
noncomputable def acell (M : aM) (a : Nat) : aC := lget aC0 (lget [] M (a / 32)) (a % 32)
noncomputable def aput (M : aM) (a : Nat) (c : aC) : aM := lupd [] (fun r => lupd aC0 (fun _ => c) r (a % 32)) M (a / 32)
theorem acell_put (M : aM) (a b : Nat) (c : aC) : acell (aput M a c) b = if b = a then c else acell M b := by
  unfold acell aput
  simp only [lget_upd]
  by_cases h1 : b / 32 = a / 32
  · rw [if_pos h1, lget_upd]
    by_cases h2 : b % 32 = a % 32
    · have h3 : b = a := by omega
      rw [if_pos h2, if_pos h3]
    · have h3 : ¬ b = a := fun h => h2 (by rw [h])
      rw [if_neg h2, if_neg h3, h1]
  · have h3 : ¬ b = a := fun h => h1 (by rw [h])
    rw [if_neg h1, if_neg h3]
-- what they mean
noncomputable def gN (ρ : Nat → Int) (n : aN) (x : Int) : Prop := match n with
  | (0, c) => x = c
  | (1, .ofNat _) => True
  | (1, .negSucc _) => -128 ≤ x ∧ x ≤ 127
  | (k + 2, c) => x = ρ k + c
noncomputable def gV (ρ : Nat → Int) (v : aV) (w : mV) : Prop := v.1 = w.1 ∧ gN ρ v.2 w.2
noncomputable def gL (ρ : Nat → Int) : List aV → List mV → Prop
  | [], [] => True
  | v :: vs, w :: ws => gV ρ v w ∧ gL ρ vs ws
  | _, _ => False
noncomputable def gM (ρ : Nat → Int) (M : aM) (n : Nat) (kn : Bool) (G : mG) (d : mD) : Prop :=
  (kn = true → G.2.2 = (n : Int)) ∧ ∀ a : Nat, a < n → (acell M a).1 ≠ 999 → G.1 (a : Int) = ((acell M a).1 : Int) ∧ G.2.1 (a : Int) = ((acell M a).2.1 : Int) ∧ ∀ i : Nat, gN ρ (aget (acell M a) i) (d (a : Int) (i : Int))
noncomputable def gS (ρ : Nat → Int) (st : aSt) (w : mSt) : Prop := st.1 = w.1 ∧ gL ρ st.2.1 w.2.1 ∧ gL ρ st.2.2.1 w.2.2.1 ∧ st.2.2.2.1 = w.2.2.2.1 ∧ st.2.2.2.2.1 = w.2.2.2.2.1 ∧ gM ρ st.2.2.2.2.2.1 st.2.2.2.2.2.2.1 st.2.2.2.2.2.2.2 w.2.2.2.2.2.1 w.2.2.2.2.2.2
noncomputable def gR (ρ : Nat → Int) (r : aRes) (q : mRes) (G : mG) (d : mD) : Prop := gM ρ r.2.1 r.2.2.1 r.2.2.2 G d ∧ match r.1, q with
  | .inl (some v), .inl (some w) => gV ρ v w
  | .inl none, .inl none => True
  | .inr e, .inr e' => e = e'
  | _, _ => False
noncomputable def gI (ρ : Nat → Int) (I : aI) (O : mO) : Prop := (I.1 ≠ 0 → O.1 2 = (I.1 : Int)) ∧ miand (ρ 0) 63 = ρ 6 ∧ (∀ i : Nat, i < I.1 → O.2 2 (i : Int) = ρ i) ∧ (∀ i : Nat, i < I.2.length → (lget (0, 0) I.2 i).1 ≤ ρ i ∧ ρ i ≤ (lget (0, 0) I.2 i).2)
  ∧ (∀ k : Nat, k < 2 → O.1 (k : Int) = 5 ∧ ∀ i : Nat, O.2 (k : Int) (i : Int) = mStv k i)
-- bounds of a number
noncomputable def arng (I : aI) (n : aN) : Option (Int × Int) := match n with
  | (0, c) => some (c, c)
  | (1, .ofNat _) => none
  | (1, .negSucc _) => some (-128, 127)
  | (k + 2, c) => bif Nat.blt k I.2.length then some ((lget (0, 0) I.2 k).1 + c, (lget (0, 0) I.2 k).2 + c) else none
theorem arng_ok {ρ : Nat → Int} {I : aI} {O : mO} (hI : gI ρ I O) {n : aN} {x : Int} (h : gN ρ n x) {p : Int × Int} (hp : arng I n = some p) : p.1 ≤ x ∧ x ≤ p.2 := by
  obtain ⟨t, c⟩ := n
  match t with
  | 0 =>
    cases hp
    have h : x = c := h
    exact ⟨by omega, by omega⟩
  | 1 =>
    cases c with
    | ofNat _ => cases hp
    | negSucc _ =>
      cases hp
      exact h
  | k + 2 =>
    have h : x = ρ k + c := h
    unfold arng at hp
    cases hc : Nat.blt k I.2.length with
    | false => simp only [hc] at hp; cases hp
    | true =>
      simp only [hc] at hp
      cases hp
      have h1 := hI.2.2.2.1 k (by simpa only [Nat.blt_eq] using hc)
      exact ⟨by show _ + c ≤ x; omega, by show x ≤ _ + c; omega⟩
noncomputable def zlt (x y : Int) : Bool := decide (x < y)
noncomputable def zle (x y : Int) : Bool := decide (x ≤ y)
noncomputable def zeq (x y : Int) : Bool := decide (x = y)
-- x < y; x = y: known or not
noncomputable def alt (I : aI) (x y : aN) : Option Bool := bif Nat.beq x.1 y.1 && !Nat.beq x.1 1 then some (zlt x.2 y.2) else match arng I x, arng I y with
  | some p, some q => bif zlt p.2 q.1 then some true else bif zle q.2 p.1 then some false else none
  | _, _ => none
noncomputable def aeq (I : aI) (x y : aN) : Option Bool := bif Nat.beq x.1 y.1 && !Nat.beq x.1 1 then some (zeq x.2 y.2) else match arng I x, arng I y with
  | some p, some q => bif zlt p.2 q.1 || zlt q.2 p.1 then some false else bif zeq p.1 p.2 && zeq q.1 q.2 && zeq p.1 q.1 then some true else none
  | _, _ => none
theorem gN_same {ρ : Nat → Int} {x y : aN} {a b : Int} (h : (Nat.beq x.1 y.1 && !Nat.beq x.1 1) = true) (hx : gN ρ x a) (hy : gN ρ y b) : a - b = x.2 - y.2 := by
  obtain ⟨t, c⟩ := x
  obtain ⟨u, e⟩ := y
  simp only [Bool.and_eq_true, Bool.not_eq_true'] at h
  have h1 : t = u := Nat.eq_of_beq_eq_true h.1
  subst h1
  match t, h with
  | 0, _ =>
    have hx : a = c := hx
    have hy : b = e := hy
    show a - b = c - e
    omega
  | 1, h => exact absurd h.2 (by decide)
  | k + 2, _ =>
    have hx : a = ρ k + c := hx
    have hy : b = ρ k + e := hy
    show a - b = c - e
    omega
theorem alt_ok {ρ : Nat → Int} {I : aI} {O : mO} (hI : gI ρ I O) {x y : aN} {a b : Int} (hx : gN ρ x a) (hy : gN ρ y b) {r : Bool} (h : alt I x y = some r) : (r = true → a < b) ∧ (r = false → b ≤ a) := by
  unfold alt at h
  cases hc : (Nat.beq x.1 y.1 && !Nat.beq x.1 1) with
  | true =>
    have h9 := gN_same hc hx hy
    rw [hc] at h
    cases h
    unfold zlt
    exact ⟨fun h => by have := of_decide_eq_true h; omega, fun h => by have := of_decide_eq_false h; omega⟩
  | false =>
    rw [hc] at h
    dsimp only [cond] at h
    split at h
    · rename_i p q hp hq
      have h1 := arng_ok hI hx hp
      have h2 := arng_ok hI hy hq
      cases h3 : zlt p.2 q.1 with
      | true =>
        rw [h3] at h
        cases h
        have := of_decide_eq_true h3
        exact ⟨fun _ => by omega, fun h => by cases h⟩
      | false =>
        rw [h3] at h
        dsimp only [cond] at h
        cases h4 : zle q.2 p.1 with
        | true =>
          rw [h4] at h
          cases h
          have := of_decide_eq_true h4
          exact ⟨fun h => (by cases h), fun _ => by omega⟩
        | false => rw [h4] at h; cases h
    · cases h
theorem aeq_ok {ρ : Nat → Int} {I : aI} {O : mO} (hI : gI ρ I O) {x y : aN} {a b : Int} (hx : gN ρ x a) (hy : gN ρ y b) {r : Bool} (h : aeq I x y = some r) : (r = true → a = b) ∧ (r = false → ¬ a = b) := by
  unfold aeq at h
  cases hc : (Nat.beq x.1 y.1 && !Nat.beq x.1 1) with
  | true =>
    have h9 := gN_same hc hx hy
    rw [hc] at h
    cases h
    unfold zeq
    exact ⟨fun h => by have := of_decide_eq_true h; omega, fun h => by have := of_decide_eq_false h; omega⟩
  | false =>
    rw [hc] at h
    dsimp only [cond] at h
    split at h
    · rename_i p q hp hq
      have h1 := arng_ok hI hx hp
      have h2 := arng_ok hI hy hq
      cases h3 : (zlt p.2 q.1 || zlt q.2 p.1) with
      | true =>
        rw [h3] at h
        cases h
        rw [Bool.or_eq_true] at h3
        refine ⟨fun h => (by cases h), fun _ => ?_⟩
        rcases h3 with h3 | h3
        · have := of_decide_eq_true h3; omega
        · have := of_decide_eq_true h3; omega
      | false =>
        rw [h3] at h
        dsimp only [cond] at h
        cases h4 : (zeq p.1 p.2 && zeq q.1 q.2 && zeq p.1 q.1) with
        | false => rw [h4] at h; cases h
        | true =>
          rw [h4] at h
          cases h
          simp only [Bool.and_eq_true] at h4
          have g1 : p.1 = p.2 := of_decide_eq_true h4.1.1
          have g2 : q.1 = q.2 := of_decide_eq_true h4.1.2
          have g3 : p.1 = q.1 := of_decide_eq_true h4.2
          exact ⟨fun _ => by omega, fun h => (by cases h)⟩
    · cases h
noncomputable def ainR (I : aI) (x : aN) : Bool := match arng I x with
  | some p => zle (-2147483648) p.1 && zle p.2 2147483647
  | none => false
noncomputable def ainL (I : aI) (x : aN) : Bool := match arng I x with
  | some p => zle (-9223372036854775808) p.1 && zle p.2 9223372036854775807
  | none => false
theorem ainR_ok {ρ : Nat → Int} {I : aI} {O : mO} (hI : gI ρ I O) {x : aN} {a : Int} (hx : gN ρ x a) (h : ainR I x = true) : mInR a := by
  unfold ainR at h
  split at h
  · rename_i p hp
    have h1 := arng_ok hI hx hp
    simp only [Bool.and_eq_true] at h
    have h2 := of_decide_eq_true h.1
    have h3 := of_decide_eq_true h.2
    exact ⟨by omega, by omega⟩
  · cases h
theorem ainL_ok {ρ : Nat → Int} {I : aI} {O : mO} (hI : gI ρ I O) {x : aN} {a : Int} (hx : gN ρ x a) (h : ainL I x = true) : mInL a := by
  unfold ainL at h
  split at h
  · rename_i p hp
    have h1 := arng_ok hI hx hp
    simp only [Bool.and_eq_true] at h
    have h2 := of_decide_eq_true h.1
    have h3 := of_decide_eq_true h.2
    exact ⟨by omega, by omega⟩
  · cases h
noncomputable def acond (I : aI) (o : ClassFile.Cond) (x y : aN) : Option Bool := match o with
  | .eq => aeq I x y
  | .ne => (aeq I x y).map (!·)
  | .lt => alt I x y
  | .ge => (alt I x y).map (!·)
  | .gt => alt I y x
  | .le => (alt I y x).map (!·)
theorem acond_ok {ρ : Nat → Int} {I : aI} {O : mO} (hI : gI ρ I O) {o : ClassFile.Cond} {x y : aN} {a b : Int} (hx : gN ρ x a) (hy : gN ρ y b) {r : Bool} (h : acond I o x y = some r) : (r = false → ¬ mcond o a b) ∧ (r = true → ¬ mncond o a b) := by
  cases o with
  | eq =>
    have h1 := aeq_ok hI hx hy (r := r) h
    exact ⟨fun e => h1.2 e, fun e z => z (h1.1 e)⟩
  | ne =>
    obtain ⟨q, hq, rfl⟩ := Option.map_eq_some_iff.mp h
    have h1 := aeq_ok hI hx hy hq
    exact ⟨fun e z => z (h1.1 (by cases q <;> simp_all)), fun e => h1.2 (by cases q <;> simp_all)⟩
  | lt =>
    have h1 := alt_ok hI hx hy (r := r) h
    exact ⟨fun e z => by have := h1.2 e; have z : a < b := z; omega, fun e z => by have := h1.1 e; have z : b ≤ a := z; omega⟩
  | ge =>
    obtain ⟨q, hq, rfl⟩ := Option.map_eq_some_iff.mp h
    have h1 := alt_ok hI hx hy hq
    exact ⟨fun e z => by have := h1.1 (by cases q <;> simp_all); have z : b ≤ a := z; omega, fun e z => by have := h1.2 (by cases q <;> simp_all); have z : a < b := z; omega⟩
  | gt =>
    have h1 := alt_ok hI hy hx (r := r) h
    exact ⟨fun e z => by have := h1.2 e; have z : b < a := z; omega, fun e z => by have := h1.1 e; have z : a ≤ b := z; omega⟩
  | le =>
    obtain ⟨q, hq, rfl⟩ := Option.map_eq_some_iff.mp h
    have h1 := alt_ok hI hy hx hq
    exact ⟨fun e z => by have := h1.1 (by cases q <;> simp_all); have z : a ≤ b := z; omega, fun e z => by have := h1.2 (by cases q <;> simp_all); have z : b < a := z; omega⟩
