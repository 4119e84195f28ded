theorem makesX0 {t p : Int} : ∀ (n : Nat) (m y h : Int) (w : Row), (0 ≤ w 8 ∧ w 8 ≤ 16) → (0 ≤ w 9 ∧ w 9 ≤ 60) → (0 ≤ w 10 ∧ w 10 ≤ 200) → XR w (LP_218_41 t n p m y h w).2 := by
  intro n
  have st : ∀ (r : Int → Int → Int → Int → Row → Int × Row) (m y h : Int) (w : Row), (0 ≤ w 8 ∧ w 8 ≤ 16) → (0 ≤ w 9 ∧ w 9 ≤ 60) → (0 ≤ w 10 ∧ w 10 ≤ 200) → (∀ m y h w, (0 ≤ w 8 ∧ w 8 ≤ 16) → (0 ≤ w 9 ∧ w 9 ≤ 60) → (0 ≤ w 10 ∧ w 10 ≤ 200) → XR w (r p m y h w).2) → XR w (ST_218_41 t r p m y h w).2 := fun r m y h w h8 h9 h10 hr => by
    unfold ST_218_41
    by_cases c1 : h < w (452 + 24 * t + 3)
    · rw [if_pos c1]
      by_cases c2 : m < w 5
      · rw [if_pos c2]
        by_cases c3 : w 10 < 200
        · rw [if_pos c3]
          by_cases c4 : V_216 p h w = 0
          · rw [if_pos c4]
            have hk := tokW (p := p) (t := t) (h := h) h10
            generalize (ws (ws (ws (ws (ws (ws w ((1916 + (5 * (w 10))) + 0) p) ((1916 + (5 * (w 10))) + 1) t) ((1916 + (5 * (w 10))) + 2) h) ((1916 + (5 * (w 10))) + 3) 0) ((1916 + (5 * (w 10))) + 4) (w 0)) 10 ((w 10) + 1)) = u at *
            obtain ⟨k1, k2, k3, k4, k5, k6, k7⟩ := hk
            have e8 : u 8 = w 8 := k7 8 (by omega) (by omega)
            have e9 : u 9 = w 9 := k7 9 (by omega) (by omega)
            refine XR.trans ⟨GXI.keep h8 e8 e9 (fun t q a b c d => k7 _ (by omega) (by omega)) (fun p a b => k7 _ (by omega) (by omega)) ?_, k7 0 (by omega) (by omega)⟩ (hr _ _ _ u (by omega) (by omega) (by omega))
            unfold C2
            rw [k1, csum_s _ h10.1, k5, if_neg (by decide), Int.add_zero]
            have e : csum (fun k => if u (1916 + 5 * k + 3) = 2 then (1 : Int) else 0) (w 10).toNat = csum (fun k => if w (1916 + 5 * k + 3) = 2 then 1 else 0) (w 10).toNat := csum_congr (fun k a b => by
              show (if u (1916 + 5 * k + 3) = 2 then (1 : Int) else 0) = if w (1916 + 5 * k + 3) = 2 then 1 else 0
              rw [k7 _ (by omega) (by omega)])
            rw [e]
            omega
          · rw [if_neg c4]; exact hr _ _ _ w h8 h9 h10
        · rw [if_neg c3]; exact hr _ _ _ w h8 h9 h10
      · rw [if_neg c2]; exact hr _ _ _ w h8 h9 h10
    · rw [if_neg c1]; exact XR.refl
  induction n with
  | zero => intro m y h w h8 h9 h10; exact st _ m y h w h8 h9 h10 (fun _ _ _ _ _ _ _ => XR.refl)
  | succ n ih => intro m y h w h8 h9 h10; exact st _ m y h w h8 h9 h10 ih
theorem makesX {t : Int} {w : Row} (h8 : 0 ≤ w 8 ∧ w 8 ≤ 16) (h9 : 0 ≤ w 9 ∧ w 9 ≤ 60) (h10 : 0 ≤ w 10 ∧ w 10 ≤ 200) : XR w (W_218 t w) := by
  unfold W_218 F_218
  exact makesX0 _ _ _ _ w h8 h9 h10
