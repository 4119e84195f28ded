/-! ===== a deed of the reference's text ===== -/
def nx (r : Int → mD → mD) (x : Int) (E : mD) : mD := if E 769 13 = 0 then r (miand x 1) E else r (miand x 0) E
theorem nxI {P : Prop} [Decidable P] {r : Int → mD → mD} {x : Int} {E F : mD} (h : F 769 13 = E 769 13) : (if P then (if E 769 13 = 0 then r (miand x 1) E else r (miand x 0) E) else if E 769 13 = 0 then r (miand x 1) F else r (miand x 0) F) = nx r x (if P then E else F) := by
  unfold nx
  by_cases c : P
  · rw [if_pos c, if_pos c]
  · rw [if_neg c, if_neg c, h]
theorem nxH {P : Prop} [Decidable P] {r : Int → mD → mD} {x : Int} {E F G : mD} (h : G = nx r x F) : (if P then (if E 769 13 = 0 then r (miand x 1) E else r (miand x 0) E) else G) = nx r x (if P then E else F) := by
  rw [h]
  by_cases c : P
  · rw [if_pos c, if_pos c]
    rfl
  · rw [if_neg c, if_neg c]
theorem lp205h {r : Int → mD → mD} {x N : Int} : ∀ (n : Nat) (k : Int) (E : mD), 0 ≤ N - k → N - k ≤ (n : Int) → lp_205_123 769 r n x N k E = nx r x (rset E (hoursW (N - k).toNat (E 770))) := by
  have stop : ∀ (k : Int) (E : mD), N - k = 0 → nx r x E = nx r x (rset E (hoursW (N - k).toNat (E 770))) := fun k E h => by
    rw [show (N - k).toNat = 0 by omega]
    show _ = nx r x (rset E (E 770))
    rw [rset_self]
  intro n
  induction n with
  | zero =>
    intro k E h0 h1
    rw [← stop k E (by omega)]
    show st_205_123 769 r _ x N k E = _
    unfold st_205_123
    rw [if_neg (by omega)]
    rfl
  | succ n ih =>
    intro k E h0 h1
    by_cases c : k < N
    · have e : lp_205_123 769 r (n + 1) x N k E = lp_205_123 769 r n x N (k + 1) (g_223 769 E) := by
        show st_205_123 769 r _ x N k E = _
        unfold st_205_123
        rw [if_pos c]
      rw [e, ih (k + 1) _ (by omega) (by omega), m_g_223, rset_rset, rset_at, show (N - k).toNat = (N - (k + 1)).toNat + 1 by omega]
      rfl
    · rw [← stop k E (by omega)]
      show st_205_123 769 r _ x N k E = _
      unfold st_205_123
      rw [if_neg c]
      rfl
theorem k13 {E : mD} {u : Row} : rset E u 769 13 = E 769 13 := by rw [rset_ne (by decide)]
theorem st205j {r : Int → mD → mD} {x : Int} {d : mD} (hx : ¬ x = 0) (h3 : ¬ v_194 769 208022 d = 0) : st_205_13 769 r x d = nx r x (rJoin (g_194 769 208022 d)) := by
  unfold st_205_13
  rw [if_neg hx, if_neg h3]
  generalize g_194 769 208022 d = A
  have k : ∀ p o (E : mD), g_226 769 p o E 769 13 = E 769 13 := fun p o E => by rw [m_g_226, k13]
  unfold rJoin rJoinX
  by_cases c1 : g_200 769 (g_199 769 0 A) 769 13 = 0
  · simp only [if_pos c1]
    by_cases c2 : v_225 769 (v_199 769 0 A) (v_200 769 (g_199 769 0 A)) (g_200 769 (g_199 769 0 A)) = 0
    · simp only [if_pos c2]
      exact nxI (k _ _ _)
    · simp only [if_neg c2]
      exact nxI (k _ _ _)
  · simp only [if_neg c1]
    exact nxI (k _ _ _)
theorem st205p {r : Int → mD → mD} {x : Int} {d B : mD} (hx : ¬ x = 0) (h3 : v_194 769 208022 d = 0) (h4 : ¬ v_194 769 316189 (g_194 769 208022 d) = 0) (hB : g_194 769 316189 (g_194 769 208022 d) = B) (hp : g_197 769 1 99 B 770 0 = d 770 0) (hv : 0 ≤ v_197 769 1 99 B) : st_205_13 769 r x d = nx r x (rPass B) := by
  unfold st_205_13
  rw [if_neg hx, if_pos h3, if_neg h4, hB, show (769 : Int) + 1 = 770 by decide, ← hp]
  unfold rPass rPassX
  have k : ∀ (D : mD), lp_205_123 769 r (v_197 769 1 99 B - 0 : Int).toNat x (v_197 769 1 99 B) 0 D = nx r x (rset D (hoursW (v_197 769 1 99 B).toNat (D 770))) := fun D => by
    rw [lp205h _ _ _ (by omega) (by omega), show v_197 769 1 99 B - 0 = v_197 769 1 99 B by omega]
  by_cases c1 : (999 : Int) < g_197 769 1 99 B 770 0 + v_197 769 1 99 B
  · simp only [if_pos c1]
    exact nxH (k _)
  · simp only [if_neg c1]
    exact nxH (k _)
theorem st205c {r : Int → mD → mD} {x : Int} {d C : mD} (hx : ¬ x = 0) (h3 : v_194 769 208022 d = 0) (h4 : v_194 769 316189 (g_194 769 208022 d) = 0) (h5 : ¬ v_194 769 1831504 (g_194 769 316189 (g_194 769 208022 d)) = 0) (hC : g_194 769 1831504 (g_194 769 316189 (g_194 769 208022 d)) = C) : st_205_13 769 r x d = nx r x (rClaim C) := by
  unfold st_205_13
  rw [if_neg hx, if_pos h3, if_pos h4, if_neg h5, hC]
  have k : ∀ p (E : mD), g_228 769 p E 769 13 = E 769 13 := fun p E => by rw [m_g_228, k13]
  unfold rClaim rClaimX
  by_cases c1 : g_199 769 1 C 769 13 = 0
  · simp only [if_pos c1]
    by_cases c2 : v_227 769 (v_201 769 (v_199 769 1 C) (g_199 769 1 C)) (g_199 769 1 C) = 0
    · simp only [if_pos c2]
      exact nxI (k _ _)
    · simp only [if_neg c2]
      exact nxI (k _ _)
  · simp only [if_neg c1]
    exact nxI (k _ _)
theorem st205w {r : Int → mD → mD} {x : Int} {d D : mD} (hx : ¬ x = 0) (h3 : v_194 769 208022 d = 0) (h4 : v_194 769 316189 (g_194 769 208022 d) = 0) (h5 : v_194 769 1831504 (g_194 769 316189 (g_194 769 208022 d)) = 0) (h6 : ¬ v_194 769 9050719969 (g_194 769 1831504 (g_194 769 316189 (g_194 769 208022 d))) = 0) (hD : g_194 769 9050719969 (g_194 769 1831504 (g_194 769 316189 (g_194 769 208022 d))) = D) : st_205_13 769 r x d = nx r x (rWit D) := by
  unfold st_205_13
  rw [if_neg hx, if_pos h3, if_pos h4, if_pos h5, if_neg h6, hD]
  have k : ∀ p q (E : mD), g_235 769 p q E 769 13 = E 769 13 := fun p q E => by rw [m_g_235, k13]
  unfold rWit rWitX rWitE
  by_cases c1 : g_199 769 1 (g_199 769 0 D) 769 13 = 0
  · simp only [if_pos c1]
    by_cases c2 : v_234 769 (v_201 769 (v_199 769 1 (g_199 769 0 D)) (g_199 769 1 (g_199 769 0 D))) (v_199 769 0 D) (g_199 769 1 (g_199 769 0 D)) = 0
    · simp only [if_pos c2]
      exact nxI (k _ _ _)
    · simp only [if_neg c2]
      exact nxI (k _ _ _)
  · simp only [if_neg c1]
    exact nxI (k _ _ _)
theorem st205u {r : Int → mD → mD} {x : Int} {d D : mD} (hx : ¬ x = 0) (h3 : v_194 769 208022 d = 0) (h4 : v_194 769 316189 (g_194 769 208022 d) = 0) (h5 : v_194 769 1831504 (g_194 769 316189 (g_194 769 208022 d)) = 0) (h6 : v_194 769 9050719969 (g_194 769 1831504 (g_194 769 316189 (g_194 769 208022 d))) = 0) (hD : g_194 769 9050719969 (g_194 769 1831504 (g_194 769 316189 (g_194 769 208022 d))) = D) : st_205_13 769 r x d = r 0 D := by
  unfold st_205_13
  rw [if_neg hx, if_pos h3, if_pos h4, if_pos h5, if_pos h6, hD, ma01, ma00]
  split <;> rfl
