/-! ===== what else stands in a row: nobody witnesses before he is there, and a purse holds what was paid into it ===== -/
def GWt (w : Row) : Prop := ∀ t, 0 ≤ t → t < w 9 → ∀ q, w 8 ≤ q → q < 16 → w (452 + 24 * t + 8 + q) = 0
def C2 (w : Row) : Int := csum (fun k => if w (1916 + 5 * k + 3) = 2 then 1 else 0) (w 10).toNat
def GP (w : Row) : Prop := ∀ p, 0 ≤ p → p < w 8 → 0 ≤ w (420 + 2 * p + 1) ∧ w (420 + 2 * p + 1) ≤ 99 * C2 w
def GXI (w w' : Row) : Prop := GWt w → GP w → GWt w' ∧ GP w'
def XR (w w' : Row) : Prop := GXI w w' ∧ w' 0 = w 0
theorem GXI.trans {a b c : Row} (h : GXI a b) (g : GXI b c) : GXI a c := fun x y => g (h x y).1 (h x y).2
theorem XR.refl {w : Row} : XR w w := ⟨fun a b => ⟨a, b⟩, rfl⟩
theorem XR.trans {a b c : Row} (h : XR a b) (g : XR b c) : XR a c := ⟨h.1.trans g.1, g.2.trans h.2⟩
theorem C2_of {w w' : Row} (e10 : w' 10 = w 10) (e : ∀ k, 0 ≤ k → k < w 10 → (w' (1916 + 5 * k + 3) = 2 ↔ w (1916 + 5 * k + 3) = 2)) : C2 w' = C2 w := by
  unfold C2
  rw [e10]
  refine csum_congr (fun k a b => ?_)
  have z := e k a (by omega)
  by_cases q : w (1916 + 5 * k + 3) = 2
  · rw [if_pos q, if_pos (z.2 q)]
  · rw [if_neg q, if_neg (fun y => q (z.1 y))]
theorem GXI.keep {w w' : Row} (p8 : 0 ≤ w 8 ∧ w 8 ≤ 16) (e8 : w' 8 = w 8) (e9 : w' 9 = w 9) (ew : ∀ t q, 0 ≤ t → t < w 9 → w 8 ≤ q → q < 16 → w' (452 + 24 * t + 8 + q) = w (452 + 24 * t + 8 + q)) (ep : ∀ p, 0 ≤ p → p < 16 → w' (420 + 2 * p + 1) = w (420 + 2 * p + 1)) (ec : C2 w ≤ C2 w') : GXI w w' := by
  intro a b
  refine ⟨fun t x y q u v => ?_, fun p x y => ?_⟩
  · rw [e9] at y
    rw [e8] at u
    rw [ew t q x y u v]
    exact a t x y q u v
  · rw [e8] at y
    rw [ep p x (by omega)]
    have := b p x y
    omega
theorem stlX {s : Int} : ∀ (n : Nat) (m y : Int) (d : mD) (w : Row), 0 ≤ m → GG w → RelS m s d w → w 11 ≤ (n : Int) → XR w (LP_219_2 n y w).2 := by
  intro n
  induction n with
  | zero =>
    intro m y d w hm hg h hn
    show XR w (ST_219_2 _ y w).2
    unfold ST_219_2
    rw [if_neg (by omega)]
    exact XR.refl
  | succ n ih =>
    intro m y d w hm hg h hn
    by_cases c : 0 < w 11 ∧ ¬ w 1 < w 6
    · obtain ⟨hN, hO, hQ, hT, hC, hK, hR⟩ := id hg
      obtain ⟨n7, n8, n9, n10, n11, n0, n1, n2, n3, n4, n5, n6⟩ := id hN
      have gr := hR.2 0 (by omega) c.1
      simp only [Int.add_zero] at gr
      have gow := (hK (w 2916) gr.1.1 gr.1.2).1
      obtain ⟨w', e1, hS⟩ := st219 (n := n) (y := y) c.1 n11.2 (by omega) (by omega) (by omega)
      obtain ⟨g', h'⟩ := stlStep hm hg h c.1 (by omega) hS
      rw [e1]
      refine XR.trans ?_ (ih (m + 1) (y + 1) _ w' (by omega) g' h' (by have := hS.2.1; omega))
      obtain ⟨s1, s2, s3, s4, s5, s6⟩ := hS
      have e8 : w' 8 = w 8 := s6 8 (by omega) (by omega) (by omega) (by omega) (by omega)
      have e9 : w' 9 = w 9 := s6 9 (by omega) (by omega) (by omega) (by omega) (by omega)
      have e10 : w' 10 = w 10 := s6 10 (by omega) (by omega) (by omega) (by omega) (by omega)
      have ec : C2 w' = C2 w + 1 := by
        unfold C2
        rw [e10]
        have := csum_upd (f := fun k => if w' (1916 + 5 * k + 3) = 2 then (1 : Int) else 0) (g := fun k => if w (1916 + 5 * k + 3) = 2 then 1 else 0) (n := (w 10).toNat) (k := w 2916) gr.1.1 (by omega) (fun i a b c => by
          show (if w' (1916 + 5 * i + 3) = 2 then (1 : Int) else 0) = if w (1916 + 5 * i + 3) = 2 then 1 else 0
          rw [s6 _ (by omega) (by omega) (by omega) (by omega) (by omega)])
        rw [this]
        show _ + ((if w' (1916 + 5 * w 2916 + 3) = 2 then (1 : Int) else 0) - if w (1916 + 5 * w 2916 + 3) = 2 then 1 else 0) = _
        rw [s4, if_pos rfl, gr.2.1, if_neg (by decide)]
        omega
      refine ⟨fun a b => ⟨fun t x z q u v => ?_, fun p x z => ?_⟩, s6 0 (by omega) (by omega) (by omega) (by omega) (by omega)⟩
      · rw [e9] at z
        rw [e8] at u
        rw [s6 _ (by omega) (by omega) (by omega) (by omega) (by omega)]
        exact a t x z q u v
      · rw [e8] at z
        rw [ec]
        have := b p x z
        by_cases q : p = w (1916 + 5 * w 2916 + 0)
        · rw [q] at this ⊢
          rw [s3]
          omega
        · rw [s6 _ (by omega) (by omega) (by omega) (by omega) (by omega)]
          omega
    · have e : (LP_219_2 (n + 1) y w).2 = w := by
        show (ST_219_2 _ y w).2 = w
        unfold ST_219_2
        by_cases c1 : 0 < w 11
        · have c2 : w 1 < w 6 := by omega
          rw [if_pos c1, if_pos c2]
        · rw [if_neg c1]
      rw [e]
      exact XR.refl
theorem settleX {s : Int} {d : mD} {w : Row} (hg : GG w) (h : Rel s d w) : XR w (W_219 w) := by
  have n11 := hg.1.2.2.2.2.1
  obtain ⟨rA, rO, rQ, rP, rT, rC, rK, ⟨r1, r2⟩, rB, rH⟩ := h
  have hS : RelS 0 s d w := ⟨rA, rO, rQ, rP, rT, rC, rK, ⟨by rw [r1]; omega, fun k x y => by rw [Int.zero_add]; exact r2 k x y⟩, rB, rH⟩
  unfold W_219 F_219
  exact stlX (w 11).toNat 0 0 d w (by omega) hg hS (by omega)
