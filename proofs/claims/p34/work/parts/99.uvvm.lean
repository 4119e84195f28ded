/-! ===== queries: tokens in some hours ===== -/
theorem lp266 {x : Int} : ∀ (n : Nat) (k : Int) (E : mD), 0 ≤ x - k → x - k ≤ (n : Int) → lp_266_36 769 x n k E = (hoursW (x - k).toNat (E 770) 10, g_256 769 (rset E (hoursW (x - k).toNat (E 770)))) := by
  have stop : ∀ (r : Int → mD → Int × mD) (k : Int) (E : mD), x - k = 0 → st_266_36 769 x r k E = (hoursW (x - k).toNat (E 770) 10, g_256 769 (rset E (hoursW (x - k).toNat (E 770)))) := fun r k E h => by
    rw [show (x - k).toNat = 0 by omega]
    show _ = (E 770 10, g_256 769 (rset E (E 770)))
    rw [rset_self]
    unfold st_266_36
    rw [if_neg (by omega), n7691]
  intro n
  induction n with
  | zero => exact fun k E h0 h1 => stop _ k E (by omega)
  | succ n ih =>
    intro k E h0 h1
    by_cases c : k < x
    · have e : lp_266_36 769 x (n + 1) k E = lp_266_36 769 x n (k + 1) (g_223 769 E) := by
        show st_266_36 769 x _ k E = _
        unfold st_266_36
        rw [if_pos c]
      rw [e, ih (k + 1) _ (by omega) (by omega), m_g_223, rset_rset, rset_at, show (x - k).toNat = (x - (k + 1)).toNat + 1 by omega]
      rfl
    · exact stop _ k E (by omega)
theorem qpTokIn {d : mD} {a : Int} (hk : OKR 1 d (d 770)) (h70 : g_320 0 a 778 d 770 = d 770) : QP (g_320 0 a 778 d) (g_266 769 a (g_320 0 a 778 d)) (v_320 0 a 778 d) (v_266 769 a (g_320 0 a 778 d)) := by
  obtain ⟨hg, -, -, ht, hr⟩ := id hk
  unfold g_320 at h70
  unfold v_320 g_320
  have v0 : ∀ D, v_176 a 0 200 D = if 0 ≤ a ∧ a ≤ 200 then 1 else 0 := fun D => v176
  have bad : ¬ (0 ≤ a ∧ a ≤ 200) → QP d (g_266 769 a d) 1 (v_266 769 a d) := fun c => by
    have e : g_266 769 a d = mset d 769 0 1 := by
      unfold g_266 f_266
      rw [v0, if_neg c, if_pos rfl]
    rw [e]
    exact QP.fail (by decide)
  by_cases c1 : a < 0
  · rw [if_pos c1, if_pos c1]
    exact bad (by omega)
  by_cases c2 : 200 < a
  · rw [if_neg c1, if_neg c1, if_pos c2, if_pos c2]
    exact bad (by omega)
  rw [if_neg c1, if_neg c1, if_neg c2, if_neg c2, show (0 : Int) + 580 = 580 by decide, n01, show (580 : Int) + 57 = 637 by decide]
  obtain ⟨k5, cf⟩ := hk.copy (a := 580) (by decide)
  have n0 := hg.1.2.2.2.2.2.1
  obtain ⟨-, p2, p3, -⟩ := passHours (s := 580) (N := a) (by omega) hg k5.2.2.2.2 (by omega)
  have t : g_68 580 a (g_59 580 1 d) 637 0 = hoursW a.toNat (d 770) 10 := p3.2.2.2.2.2.2.1.1
  have n10 := p2.1.2.2.2.1
  rw [if_neg c1, if_neg c2, show (0 : Int) + 580 = 580 by decide, n01, o778 (by decide)] at h70
  generalize hX : g_68 580 a (g_59 580 1 d) = X at *
  have X7 : X 770 = d 770 := h70
  have f : f_266 769 a (mset X 778 0 (X 637 0)) = (hoursW a.toNat (d 770) 10, g_256 769 (rset (g_255 769 (mset (mset X 778 0 (X 637 0)) 769 0 0)) (hoursW a.toNat (d 770)))) := by
    have r := lp266 (x := a) (a - 0 : Int).toNat 0 (g_255 769 (mset (mset X 778 0 (X 637 0)) 769 0 0)) (by omega) (by omega)
    have e7 : g_255 769 (mset (mset X 778 0 (X 637 0)) 769 0 0) 770 = d 770 := by rw [c255.1 770 (by decide), o769 (by decide), o778 (by decide), X7]
    rw [e7, Int.sub_zero] at r
    unfold f_266
    rw [v0, if_pos (show 0 ≤ a ∧ a ≤ 200 by omega), if_neg (show ¬ (1 : Int) = 0 by decide)]
    rw [Int.sub_zero]
    exact r
  have g0 : g_266 769 a (mset X 778 0 (X 637 0)) 769 0 = 0 := by
    unfold g_266
    rw [f]
    show g_256 769 (rset (g_255 769 (mset (mset X 778 0 (X 637 0)) 769 0 0)) (hoursW a.toNat (d 770))) 769 0 = 0
    rw [c256.1 769 (by decide), rset_ne (by decide), c255.1 769 (by decide), ms_e rfl rfl]
  have gv : v_266 769 a (mset X 778 0 (X 637 0)) = hoursW a.toNat (d 770) 10 := by
    unfold v_266
    rw [f]
  refine ⟨g0, fun _ => ⟨?_, ?_⟩⟩
  · rw [ms_e rfl rfl, gv, t]
  · rw [gv]
    exact inI.of (by omega)
/-! ===== rows: an office serves, whatever else stands in the row ===== -/
def SrvV (o r : Int) (w w' : Row) : Prop := w' (12 + 68 * o + 5) = w (12 + 68 * o + 5) - r ∧ (∀ k, 0 ≤ k → k < w (12 + 68 * o + 5) - r → w' (12 + 68 * o + 7 + k) = w (12 + 68 * o + 7 + k + r)) ∧ (∀ k, 0 ≤ k → k < r → w' (452 + 24 * w (12 + 68 * o + 7 + k) + 4) = 1 ∧ w' (452 + 24 * w (12 + 68 * o + 7 + k) + 3) = w 0)
  ∧ ∀ i, (∀ k, 0 ≤ k → k < r → ¬ i = 452 + 24 * w (12 + 68 * o + 7 + k) + 4 ∧ ¬ i = 452 + 24 * w (12 + 68 * o + 7 + k) + 3) → ¬ (12 + 68 * o + 5 ≤ i ∧ i < 12 + 68 * o + 7 + w (12 + 68 * o + 5)) → w' i = w i
theorem SrvV.refl {o : Int} {w : Row} : SrvV o 0 w w := ⟨by omega, fun k _ _ => by rw [Int.add_zero], fun k a b => by omega, fun _ _ _ => rfl⟩
theorem srvL {o : Int} (ho : 0 ≤ o ∧ o ≤ 5) : ∀ (n : Nat) (x : Int) (w : Row), 0 ≤ w (12 + 68 * o + 5) → w (12 + 68 * o + 5) ≤ 61 → (∀ k, 0 ≤ k → k < w (12 + 68 * o + 5) → 0 ≤ w (12 + 68 * o + 7 + k) ∧ w (12 + 68 * o + 7 + k) ≤ 60) → x ≤ w (12 + 68 * o + 1) → w (12 + 68 * o + 1) - x ≤ (n : Int) → SrvV o (min (w (12 + 68 * o + 1) - x) (w (12 + 68 * o + 5))) w (LP_222_7 o n (12 + 68 * o) x w) := by
  have stop : ∀ (r : Int → Int → Row → Row) (x : Int) (w : Row), 0 ≤ w (12 + 68 * o + 5) → x ≤ w (12 + 68 * o + 1) → (¬ x < w (12 + 68 * o + 1) ∨ w (12 + 68 * o + 5) = 0) → SrvV o (min (w (12 + 68 * o + 1) - x) (w (12 + 68 * o + 5))) w (ST_222_7 o r (12 + 68 * o) x w) := fun r x w h0 hx hc => by
    have e : ST_222_7 o r (12 + 68 * o) x w = w := by
      unfold ST_222_7
      by_cases c : x < w (12 + 68 * o + 1)
      · rw [if_pos c, if_neg (by omega)]
      · rw [if_neg c]
    rw [e, show min (w (12 + 68 * o + 1) - x) (w (12 + 68 * o + 5)) = 0 by omega]
    exact SrvV.refl
  intro n
  induction n with
  | zero => exact fun x w h0 h1 hq hx hn => stop _ x w h0 hx (Or.inl (by omega))
  | succ n ih =>
    intro x w h0 h1 hq hx hn
    by_cases c : x < w (12 + 68 * o + 1)
    · by_cases c2 : 0 < w (12 + 68 * o + 5)
      · have q0 := hq 0 (by decide) c2
        rw [Int.add_zero] at q0
        have s := stepV ho h1 q0
        have e : LP_222_7 o (n + 1) (12 + 68 * o) x w = LP_222_7 o n (12 + 68 * o) (x + 1) (W_220 o 0 (ws (ws (ws w ((452 + (24 * (w ((12 + (68 * o)) + 7)))) + 4) 1) ((452 + (24 * (w ((12 + (68 * o)) + 7)))) + 3) (w 0)) ((12 + (68 * o)) + 6) ((w ((12 + (68 * o)) + 6)) + 1))) := by
          show ST_222_7 o _ (12 + 68 * o) x w = _
          unfold ST_222_7
          rw [if_pos c, if_pos c2]
        rw [e]
        generalize W_220 o 0 (ws (ws (ws w ((452 + (24 * (w ((12 + (68 * o)) + 7)))) + 4) 1) ((452 + (24 * (w ((12 + (68 * o)) + 7)))) + 3) (w 0)) ((12 + (68 * o)) + 6) ((w ((12 + (68 * o)) + 6)) + 1)) = u at *
        obtain ⟨s1, s2, s3, s4, s5, s6⟩ := s
        have u1 : u (12 + 68 * o + 1) = w (12 + 68 * o + 1) := s6 _ (by omega) (by omega) (by omega) (by omega) (by omega)
        have u0 : u 0 = w 0 := s6 _ (by omega) (by omega) (by omega) (by omega) (by omega)
        obtain ⟨i1, i2, i3, i4⟩ := ih (x + 1) u (by omega) (by omega) (fun k a b => by rw [s5 k a (by omega), show 12 + 68 * o + 7 + k + 1 = 12 + 68 * o + 7 + (k + 1) by omega]; exact hq _ (by omega) (by omega)) (by omega) (by omega)
        rw [u1, s1] at i1 i2 i3 i4
        have er : min (w (12 + 68 * o + 1) - x) (w (12 + 68 * o + 5)) = min (w (12 + 68 * o + 1) - (x + 1)) (w (12 + 68 * o + 5) - 1) + 1 := by omega
        have rl : min (w (12 + 68 * o + 1) - (x + 1)) (w (12 + 68 * o + 5) - 1) ≤ w (12 + 68 * o + 5) - 1 := Int.min_le_right _ _
        have r0 : 0 ≤ min (w (12 + 68 * o + 1) - (x + 1)) (w (12 + 68 * o + 5) - 1) := by omega
        rw [er]
        generalize min (w (12 + 68 * o + 1) - (x + 1)) (w (12 + 68 * o + 5) - 1) = r at *
        generalize LP_222_7 o n (12 + 68 * o) (x + 1) u = v at *
        have us : ∀ k, 0 ≤ k → k < r → u (12 + 68 * o + 7 + k) = w (12 + 68 * o + 7 + (k + 1)) := fun k a b => by rw [s5 k a (by omega), show 12 + 68 * o + 7 + k + 1 = 12 + 68 * o + 7 + (k + 1) by omega]
        -- what is set stays set
        have keep : ∀ f, f = 4 ∨ f = 3 → v (452 + 24 * w (12 + 68 * o + 7) + f) = if f = 4 then 1 else w 0 := fun f hf => by
          by_cases z : ∃ k, 0 ≤ k ∧ k < r ∧ u (12 + 68 * o + 7 + k) = w (12 + 68 * o + 7)
          · obtain ⟨k, a, b, z⟩ := z
            have := i3 k a b
            rw [z, u0] at this
            rcases hf with hf | hf
            · subst hf; rw [if_pos rfl]; exact this.1
            · subst hf; rw [if_neg (by decide)]; exact this.2
          · have ni : ∀ k, 0 ≤ k → k < r → ¬ 452 + 24 * w (12 + 68 * o + 7) + f = 452 + 24 * u (12 + 68 * o + 7 + k) + 4 ∧ ¬ 452 + 24 * w (12 + 68 * o + 7) + f = 452 + 24 * u (12 + 68 * o + 7 + k) + 3 := fun k a b => by
              have : ¬ u (12 + 68 * o + 7 + k) = w (12 + 68 * o + 7) := fun y => z ⟨k, a, b, y⟩
              omega
            rw [i4 _ ni (by omega)]
            rcases hf with hf | hf
            · subst hf; rw [if_pos rfl]; exact s3
            · subst hf; rw [if_neg (by decide)]; exact s4
        refine ⟨by omega, fun k a b => ?_, fun k a b => ?_, fun i hi hni => ?_⟩
        · rw [i2 k a (by omega), show 12 + 68 * o + 7 + k + r = 12 + 68 * o + 7 + (k + r) by omega, s5 (k + r) (by omega) (by omega)]
          congr 1
          omega
        · by_cases z : k = 0
          · subst z
            rw [Int.add_zero]
            exact ⟨keep 4 (Or.inl rfl), keep 3 (Or.inr rfl)⟩
          · have := i3 (k - 1) (by omega) (by omega)
            rw [us (k - 1) (by omega) (by omega), show k - 1 + 1 = k by omega, u0] at this
            exact this
        · have h0' := hi 0 (by decide) (by omega)
          rw [Int.add_zero] at h0'
          rw [i4 i (fun k a b => by rw [us k a b]; exact hi (k + 1) (by omega) (by omega)) (by omega)]
          exact s6 i (by omega) (by omega) h0'.1 h0'.2 (by omega)
      · exact stop _ x w h0 hx (Or.inr (by omega))
    · exact stop _ x w h0 hx (Or.inl c)
theorem srv222 {o : Int} {w : Row} (ho : 0 ≤ o ∧ o ≤ 5) (h0 : 0 ≤ w (12 + 68 * o + 5) ∧ w (12 + 68 * o + 5) ≤ 61) (hq : ∀ k, 0 ≤ k → k < w (12 + 68 * o + 5) → 0 ≤ w (12 + 68 * o + 7 + k) ∧ w (12 + 68 * o + 7 + k) ≤ 60) (hd : 0 ≤ w (12 + 68 * o + 1) ∧ w (12 + 68 * o + 1) ≤ 4) : SrvV o (min (w (12 + 68 * o + 1)) (w (12 + 68 * o + 5))) w (W_222 o w) := by
  have h := srvL ho (4 - 0 : Int).toNat 0 w h0.1 h0.2 hq hd.1 (by omega)
  rw [Int.sub_zero] at h
  exact h
/-! ===== rows: a week's end leaves offices and tickets ===== -/
def CE (w w' : Row) : Prop := ∀ i, (i = 0 ∨ (2 ≤ i ∧ i ≤ 9) ∨ (12 ≤ i ∧ i < 420) ∨ (452 ≤ i ∧ i < 1916)) → w' i = w i
theorem CE.refl {w : Row} : CE w w := fun _ _ => rfl
theorem CE.trans {a b c : Row} (h : CE a b) (g : CE b c) : CE a c := fun i x => (g i x).trans (h i x)
theorem CE.s {a b : Row} {i v : Int} (h : CE a b) (hi : i = 1 ∨ i = 10 ∨ i = 11 ∨ (420 ≤ i ∧ i < 452) ∨ 1916 ≤ i) : CE a (ws b i v) := fun j x => by rw [wsn (by omega)]; exact h j x
def RT (w : Row) : Prop := (0 ≤ w 9 ∧ w 9 ≤ 61) ∧ (0 ≤ w 10 ∧ w 10 ≤ 200) ∧ (0 ≤ w 11 ∧ w 11 ≤ 200) ∧ (∀ k, 0 ≤ k → k < w 10 → 0 ≤ w (1916 + 5 * k + 0) ∧ w (1916 + 5 * k + 0) ≤ 15) ∧ (∀ j, 0 ≤ j → j < w 11 → 0 ≤ w (2916 + j) ∧ w (2916 + j) < w 10) ∧ ∀ t, 0 ≤ t → t < w 9 → 0 ≤ w (452 + 24 * t + 0) ∧ w (452 + 24 * t + 0) ≤ 15
theorem GG.rt {w : Row} (hg : GG w) : RT w := by
  obtain ⟨hN, -, -, hT, -, hK, hR⟩ := hg
  obtain ⟨-, n8, n9, n10, n11, -⟩ := hN
  refine ⟨by omega, n10, n11, fun k a b => ?_, fun j a b => (hR.2 j a b).1, fun t a b => ?_⟩
  · have := (hK k a b).1
    omega
  · have := (hT t a b).1
    omega
def WKP (w w' : Row) : Prop := RT w → CE w w' ∧ RT w'
theorem wk218l {t p : Int} (hp : 0 ≤ p ∧ p ≤ 15) : ∀ (n : Nat) (a b x : Int) (w : Row), WKP w (LP_218_41 t n p a b x w).2 := by
  have st : ∀ (r : Int → Int → Int → Int → Row → Int × Row) (a b x : Int) (w : Row), (∀ a b x w, WKP w (r p a b x w).2) → WKP w (ST_218_41 t r p a b x w).2 := fun r a b x w hr h => by
    unfold ST_218_41
    by_cases c1 : x < w (452 + 24 * t + 3)
    · rw [if_pos c1]
      by_cases c2 : a < w 5
      · rw [if_pos c2]
        by_cases c3 : w 10 < 200
        · rw [if_pos c3]
          by_cases c4 : V_216 p x w = 0
          · rw [if_pos c4]
            obtain ⟨h9, h10, h11, hk, hj, ht⟩ := id h
            have s := tokW (p := p) (t := t) (h := x) (w := w) h10
            generalize (ws (ws (ws (ws (ws (ws w ((1916 + (5 * (w 10))) + 0) p) ((1916 + (5 * (w 10))) + 1) t) ((1916 + (5 * (w 10))) + 2) x) ((1916 + (5 * (w 10))) + 3) 0) ((1916 + (5 * (w 10))) + 4) (w 0)) 10 ((w 10) + 1)) = u at *
            obtain ⟨s1, s2, s3, s4, s5, s6, s7⟩ := s
            have cu : CE w u := fun i hi => s7 i (by omega) (by omega)
            have ru : RT u := by
              refine ⟨by rw [cu 9 (by omega)]; exact h9, by omega, by rw [s7 11 (by omega) (by omega)]; exact h11, fun k x y => ?_, fun j x y => ?_, fun t' x y => ?_⟩
              · by_cases z : k = w 10
                · rw [z, s2]; exact hp
                · rw [s7 _ (by omega) (by omega)]
                  exact hk k x (by omega)
              · rw [s7 11 (by omega) (by omega)] at y
                rw [s7 (2916 + j) (by omega) (by omega)]
                have := hj j x y
                omega
              · rw [cu 9 (by omega)] at y
                rw [cu _ (by omega)]
                exact ht t' x y
            obtain ⟨q1, q2⟩ := hr (a + 1) (b + 1) (x + 1) u ru
            exact ⟨cu.trans q1, q2⟩
          · rw [if_neg c4]
            exact hr _ _ _ _ h
        · rw [if_neg c3]
          exact hr _ _ _ _ h
      · rw [if_neg c2]
        exact hr _ _ _ _ h
    · rw [if_neg c1]
      exact ⟨CE.refl, h⟩
  intro n
  induction n with
  | zero => exact fun a b x w => st _ a b x w (fun _ _ _ w h => ⟨CE.refl, h⟩)
  | succ n ih => exact fun a b x w => st _ a b x w ih
theorem wk218 {t : Int} {w : Row} (h : RT w) (ht : 0 ≤ t ∧ t < w 9) : CE w (W_218 t w) ∧ RT (W_218 t w) := wk218l (h.2.2.2.2.2 t ht.1 ht.2) _ _ _ _ w h
-- the shift of the offered tokens
theorem wk219a {q : Int → Row → Int × Row} {L : Int} (hL : 0 ≤ L ∧ L ≤ 199) : ∀ (n : Nat) (a b x : Int) (w : Row), w 11 = L → 0 ≤ x → L - x ≤ (n : Int) → ∃ u, LP_219_106 q n a b x w = q (a + 1) u ∧ (∀ i, ¬ (2916 + x ≤ i ∧ i < 2916 + L) → u i = w i) ∧ ∀ j, x ≤ j → j < L → u (2916 + j) = w (2916 + j + 1) := by
  have stop : ∀ (r : Int → Int → Int → Row → Int × Row) (a b x : Int) (w : Row), w 11 = L → ¬ x < L → ∃ u, ST_219_106 q r a b x w = q (a + 1) u ∧ (∀ i, ¬ (2916 + x ≤ i ∧ i < 2916 + L) → u i = w i) ∧ ∀ j, x ≤ j → j < L → u (2916 + j) = w (2916 + j + 1) := fun r a b x w h hx => by
    refine ⟨w, ?_, fun _ _ => rfl, fun j u v => by omega⟩
    unfold ST_219_106
    rw [if_neg (by omega)]
  intro n
  induction n with
  | zero => exact fun a b x w h h0 h1 => stop _ a b x w h (by omega)
  | succ n ih =>
    intro a b x w h h0 h1
    by_cases c : x < L
    · obtain ⟨u, q1, q2, q3⟩ := ih a b (x + 1) (ws w (2916 + x) (w (2916 + x + 1))) (by rw [wsn (by omega)]; exact h) (by omega) (by omega)
      refine ⟨u, ?_, fun i hi => ?_, fun j y z => ?_⟩
      · show ST_219_106 q _ a b x w = _
        unfold ST_219_106
        rw [if_pos (by omega)]
        exact q1
      · rw [q2 i (by omega), wsn (by omega)]
      · by_cases e : j = x
        · rw [e, q2 _ (by omega), wse rfl]
        · rw [q3 j (by omega) z, wsn (by omega)]
    · exact stop _ a b x w h c
theorem wk219l : ∀ (n : Nat) (x : Int) (w : Row), WKP w (LP_219_2 n x w).2 := by
  have st : ∀ (r : Int → Row → Int × Row) (x : Int) (w : Row), (∀ x w, WKP w (r x w).2) → WKP w (ST_219_2 r x w).2 := fun r x w hr h => by
    unfold ST_219_2
    by_cases c1 : 0 < w 11
    · rw [if_pos c1]
      by_cases c2 : w 1 < w 6
      · rw [if_pos c2]
        exact ⟨CE.refl, h⟩
      · rw [if_neg c2]
        obtain ⟨h9, h10, h11, hk, hj, ht⟩ := id h
        have j0 := hj 0 (by decide) c1
        rw [show (2916 : Int) + 0 = 2916 by decide] at j0
        have o0 := hk _ j0.1 j0.2
        have a1 : ∀ v, ws w 1 v 11 = w 11 := fun v => wsn (by decide)
        generalize hz : (ws (ws (ws (ws w 1 ((w 1) - (w 6))) ((420 + (2 * (w ((1916 + (5 * (w 2916))) + 0)))) + 1) ((w ((420 + (2 * (w ((1916 + (5 * (w 2916))) + 0)))) + 1)) + (w 6))) ((1916 + (5 * (w 2916))) + 3) 2) 11 ((w 11) - 1)) = z
        have z11 : z 11 = w 11 - 1 := by rw [← hz, wse rfl]
        have zo : ∀ i, ¬ i = 1 → ¬ i = 420 + 2 * w (1916 + 5 * w 2916 + 0) + 1 → ¬ i = 1916 + 5 * w 2916 + 3 → ¬ i = 11 → z i = w i := fun i y1 y2 y3 y4 => by rw [← hz, wsn y4, wsn y3, wsn y2, wsn y1]
        obtain ⟨u, q1, q2, q3⟩ := wk219a (q := r) (L := w 11 - 1) (by omega) (200 - 0 : Int).toNat x (1916 + (5 * (w 2916))) 0 z z11 (by decide) (by omega)
        rw [q1]
        have cu : CE w u := fun i hi => by rw [q2 i (by omega), zo i (by omega) (by omega) (by omega) (by omega)]
        have u10 : u 10 = w 10 := by rw [q2 10 (by omega), zo 10 (by omega) (by omega) (by omega) (by omega)]
        have u11 : u 11 = w 11 - 1 := by rw [q2 11 (by omega), z11]
        have ru : RT u := by
          refine ⟨by rw [cu 9 (by omega)]; exact h9, by rw [u10]; exact h10, by omega, fun k y1 y2 => ?_, fun j y1 y2 => ?_, fun t y1 y2 => ?_⟩
          · rw [q2 _ (by omega), zo _ (by omega) (by omega) (by omega) (by omega)]
            exact hk k y1 (by omega)
          · rw [q3 j y1 (by omega), zo _ (by omega) (by omega) (by omega) (by omega), u10, show 2916 + j + 1 = 2916 + (j + 1) by omega]
            exact hj (j + 1) (by omega) (by omega)
          · rw [cu 9 (by omega)] at y2
            rw [cu _ (by omega)]
            exact ht t y1 y2
        obtain ⟨p1, p2⟩ := hr (x + 1) u ru
        exact ⟨cu.trans p1, p2⟩
    · rw [if_neg c1]
      exact ⟨CE.refl, h⟩
  intro n
  induction n with
  | zero => exact fun x w => st _ x w (fun _ w h => ⟨CE.refl, h⟩)
  | succ n ih => exact fun x w => st _ x w ih
theorem wk223 : ∀ (n : Nat) (x : Int) (w : Row), 0 ≤ x → WKP w (LP_223_71 n x w) := by
  have fin : ∀ w : Row, WKP w (W_219 w) := fun w => wk219l _ _ w
  have st : ∀ (r : Int → Row → Row) (x : Int) (w : Row), 0 ≤ x → (∀ w, WKP w (r (x + 1) w)) → WKP w (ST_223_71 r x w) := fun r x w hx hr h => by
    unfold ST_223_71
    by_cases c1 : x < w 9
    · rw [if_pos c1]
      by_cases c2 : w 0 % 20 = 0
      · rw [if_pos c2]
        by_cases c3 : w (452 + 24 * x + 6) = 0
        · rw [if_pos c3]
          exact hr w h
        · rw [if_neg c3]
          obtain ⟨q1, q2⟩ := wk218 h ⟨hx, c1⟩
          obtain ⟨q3, q4⟩ := hr _ q2
          exact ⟨q1.trans q3, q4⟩
      · rw [if_neg c2]
        exact fin w h
    · rw [if_neg c1]
      exact fin w h
  intro n
  induction n with
  | zero => exact fun x w hx => st _ x w hx (fun w h => ⟨CE.refl, h⟩)
  | succ n ih => exact fun x w hx => st _ x w hx (fun w => ih (x + 1) w (by omega))
/-! ===== rows: the queues hour by hour ===== -/
def QK (u : Row) : Prop := (0 ≤ u 7 ∧ u 7 ≤ 6) ∧ (∀ o, 0 ≤ o → o < u 7 → (0 ≤ u (12 + 68 * o + 5) ∧ u (12 + 68 * o + 5) ≤ 61) ∧ (0 ≤ u (12 + 68 * o + 1) ∧ u (12 + 68 * o + 1) ≤ 4) ∧ 1 ≤ u (12 + 68 * o + 2) ∧ ∀ k, 0 ≤ k → k < u (12 + 68 * o + 5) → 0 ≤ u (12 + 68 * o + 7 + k) ∧ u (12 + 68 * o + 7 + k) ≤ 60)
  ∧ ∀ o k o' k', 0 ≤ o → o < u 7 → 0 ≤ k → k < u (12 + 68 * o + 5) → 0 ≤ o' → o' < u 7 → 0 ≤ k' → k' < u (12 + 68 * o' + 5) → u (12 + 68 * o + 7 + k) = u (12 + 68 * o' + 7 + k') → o = o' ∧ k = k'
def SQ (u : Row) (dn : Int → Int → Int) (hr : Int) (m : Int → Int) (w : Row) : Prop := w 0 = hr ∧ (∀ i, 2 ≤ i → i ≤ 9 → w i = u i) ∧ (∀ o j, 0 ≤ o → o < u 7 → 0 ≤ j → j ≤ 4 → w (12 + 68 * o + j) = u (12 + 68 * o + j)) ∧ RT w
  ∧ (∀ o, 0 ≤ o → o < u 7 → (w (12 + 68 * o + 5) = if m o < u (12 + 68 * o + 5) then u (12 + 68 * o + 5) - m o else 0) ∧ ∀ k, 0 ≤ k → k < u (12 + 68 * o + 5) - m o → w (12 + 68 * o + 7 + k) = u (12 + 68 * o + 7 + (k + m o)))
  ∧ (∀ t f, 0 ≤ t → t ≤ 60 → 0 ≤ f → f ≤ 2 → w (452 + 24 * t + f) = u (452 + 24 * t + f))
  ∧ (∀ o k, 0 ≤ o → o < u 7 → 0 ≤ k → k < u (12 + 68 * o + 5) → (k < m o → w (452 + 24 * u (12 + 68 * o + 7 + k) + 4) = 1 ∧ w (452 + 24 * u (12 + 68 * o + 7 + k) + 3) = dn o k) ∧ (m o ≤ k → w (452 + 24 * u (12 + 68 * o + 7 + k) + 4) = u (452 + 24 * u (12 + 68 * o + 7 + k) + 4) ∧ w (452 + 24 * u (12 + 68 * o + 7 + k) + 3) = u (452 + 24 * u (12 + 68 * o + 7 + k) + 3)))
  ∧ ∀ t, 0 ≤ t → t ≤ 60 → (∀ o k, 0 ≤ o → o < u 7 → 0 ≤ k → k < u (12 + 68 * o + 5) → ¬ u (12 + 68 * o + 7 + k) = t) → w (452 + 24 * t + 4) = u (452 + 24 * t + 4) ∧ w (452 + 24 * t + 3) = u (452 + 24 * t + 3)
theorem SQ.serve {u w : Row} {dn : Int → Int → Int} {hr x : Int} {m : Int → Int} (hu : QK u) (h : SQ u dn hr m w) (x0 : 0 ≤ x) (x1 : x < u 7) (hM : ∀ o, 0 ≤ m o) (hd : ∀ k, m x ≤ k → k < m x + u (12 + 68 * x + 1) → dn x k = hr) : SQ u dn hr (fun o => if o = x then m x + u (12 + 68 * x + 1) else m o) (W_222 x w) := by
  have hm := hM x
  obtain ⟨⟨n0, n1⟩, uo, ud⟩ := hu
  obtain ⟨a0, a1, a2, a3, a4, a5, a6, a7⟩ := h
  obtain ⟨⟨l0, l1⟩, ⟨d0, d1⟩, -, sl⟩ := uo x x0 x1
  obtain ⟨b1, b2⟩ := a4 x x0 x1
  have wd : w (12 + 68 * x + 1) = u (12 + 68 * x + 1) := a2 x 1 x0 x1 (by decide) (by decide)
  have wl : 0 ≤ w (12 + 68 * x + 5) ∧ w (12 + 68 * x + 5) ≤ 61 := by
    rw [b1]
    split <;> omega
  have wk : ∀ k, 0 ≤ k → k < w (12 + 68 * x + 5) → k + m x < u (12 + 68 * x + 5) ∧ w (12 + 68 * x + 7 + k) = u (12 + 68 * x + 7 + (k + m x)) := fun k p q => by
    rw [b1] at q
    by_cases c : m x < u (12 + 68 * x + 5)
    · rw [if_pos c] at q
      exact ⟨by omega, b2 k p (by omega)⟩
    · rw [if_neg c] at q
      omega
  have s := srv222 (o := x) (w := w) ⟨x0, by omega⟩ wl (fun k p q => by rw [(wk k p q).2]; exact sl _ (by omega) (wk k p q).1) (by rw [wd]; exact ⟨d0, d1⟩)
  rw [wd] at s
  have rl : min (u (12 + 68 * x + 1)) (w (12 + 68 * x + 5)) ≤ w (12 + 68 * x + 5) := Int.min_le_right _ _
  have rd : min (u (12 + 68 * x + 1)) (w (12 + 68 * x + 5)) ≤ u (12 + 68 * x + 1) := Int.min_le_left _ _
  have r0 : 0 ≤ min (u (12 + 68 * x + 1)) (w (12 + 68 * x + 5)) := by omega
  have rc : min (u (12 + 68 * x + 1)) (w (12 + 68 * x + 5)) = u (12 + 68 * x + 1) ∨ min (u (12 + 68 * x + 1)) (w (12 + 68 * x + 5)) = w (12 + 68 * x + 5) := by omega
  generalize min (u (12 + 68 * x + 1)) (w (12 + 68 * x + 5)) = r at *
  generalize W_222 x w = v at *
  obtain ⟨s1, s2, s3, s4⟩ := s
  -- what lies outside
  have out : ∀ i, i < 452 → ¬ (12 + 68 * x + 5 ≤ i ∧ i < 12 + 68 * x + 68) → v i = w i := fun i hi hn => s4 i (fun k p q => by have := wk k p (by omega); have := sl (k + m x) (by omega) this.1; omega) (by omega)
  have tick : ∀ t f, 0 ≤ t → t ≤ 60 → 0 ≤ f → f < 24 → (∀ k, 0 ≤ k → k < r → ¬ u (12 + 68 * x + 7 + (k + m x)) = t) ∨ (¬ f = 4 ∧ ¬ f = 3) → v (452 + 24 * t + f) = w (452 + 24 * t + f) := fun t f t0 t1 f0 f1 hn => s4 _ (fun k p q => by
    have e := (wk k p (by omega)).2
    rw [e]
    rcases hn with hn | hn
    · have := hn k p q
      omega
    · omega) (by omega)
  have now : ∀ k, m x ≤ k → k < u (12 + 68 * x + 5) → k < m x + u (12 + 68 * x + 1) → v (452 + 24 * u (12 + 68 * x + 7 + k) + 4) = 1 ∧ v (452 + 24 * u (12 + 68 * x + 7 + k) + 3) = dn x k := fun k p q z => by
    have c : m x < u (12 + 68 * x + 5) := by omega
    rw [if_pos c] at b1
    have := s3 (k - m x) (by omega) (by omega)
    rw [(wk (k - m x) (by omega) (by omega)).2, show k - m x + m x = k by omega, a0] at this
    rw [hd k p z]
    exact this
  refine ⟨by rw [out 0 (by omega) (by omega)]; exact a0, fun i p q => by rw [out i (by omega) (by omega)]; exact a1 i p q, fun o j p q y z => by rw [out _ (by omega) (by omega)]; exact a2 o j p q y z, ?_, fun o p q => ⟨?_, fun k y z => ?_⟩, fun t f p q y z => by rw [tick t f p q y (by omega) (Or.inr ⟨by omega, by omega⟩)]; exact a5 t f p q y z, fun o k p q y z => ⟨fun hk => ?_, fun hk => ?_⟩, fun t p q hn => ?_⟩
  · obtain ⟨h9, h10, h11, hk, hj, ht⟩ := a3
    have hi : ∀ i, 1916 ≤ i → v i = w i := fun i hi => s4 i (fun k p q => by have := wk k p (by omega); have := sl (k + m x) (by omega) this.1; omega) (by omega)
    have o9 := out 9 (by omega) (by omega)
    have o10 := out 10 (by omega) (by omega)
    have o11 := out 11 (by omega) (by omega)
    refine ⟨by rw [o9]; exact h9, by rw [o10]; exact h10, by rw [o11]; exact h11, fun k p q => by rw [hi _ (by omega)]; exact hk k p (by omega), fun j p q => by rw [hi _ (by omega), o10]; exact hj j p (by omega), fun t p q => ?_⟩
    rw [tick t 0 p (by omega) (by decide) (by decide) (Or.inr ⟨by decide, by decide⟩)]
    exact ht t p (by omega)
  · by_cases e : o = x
    · subst e
      show v (12 + 68 * o + 5) = if (if o = o then m o + u (12 + 68 * o + 1) else m o) < u (12 + 68 * o + 5) then u (12 + 68 * o + 5) - (if o = o then m o + u (12 + 68 * o + 1) else m o) else 0
      rw [if_pos rfl, s1, b1]
      rw [b1] at rl rc
      by_cases c : m o < u (12 + 68 * o + 5)
      · rw [if_pos c] at rl rc ⊢
        by_cases c2 : m o + u (12 + 68 * o + 1) < u (12 + 68 * o + 5)
        · rw [if_pos c2]; omega
        · rw [if_neg c2]; omega
      · rw [if_neg c] at rl rc ⊢
        rw [if_neg (by omega)]
        omega
    · show v (12 + 68 * o + 5) = if (if o = x then m x + u (12 + 68 * x + 1) else m o) < u (12 + 68 * o + 5) then u (12 + 68 * o + 5) - (if o = x then m x + u (12 + 68 * x + 1) else m o) else 0
      rw [if_neg e, out _ (by omega) (by omega)]
      exact (a4 o p q).1
  · have zz : k < u (12 + 68 * o + 5) - (if o = x then m x + u (12 + 68 * x + 1) else m o) := z
    show v (12 + 68 * o + 7 + k) = u (12 + 68 * o + 7 + (k + (if o = x then m x + u (12 + 68 * x + 1) else m o)))
    by_cases e : o = x
    · subst e
      rw [if_pos rfl] at zz ⊢
      rw [if_pos (by omega)] at b1
      rw [s2 k y (by omega), show 12 + 68 * o + 7 + k + r = 12 + 68 * o + 7 + (k + r) by omega, b2 (k + r) (by omega) (by omega)]
      congr 1
      omega
    · rw [if_neg e] at zz ⊢
      have l := (uo o p q).1.2
      have := hM o
      rw [out _ (by omega) (by omega)]
      exact (a4 o p q).2 k y zz
  · have hk : k < (if o = x then m x + u (12 + 68 * x + 1) else m o) := hk
    have st := (uo o p q).2.2.2 k y z
    by_cases c : o = x ∧ m x ≤ k
    · obtain ⟨e, c⟩ := c
      subst e
      rw [if_pos rfl] at hk
      exact now k c z hk
    · have hk' : k < m o := by
        by_cases e : o = x
        · subst e; omega
        · rw [if_neg e] at hk; exact hk
      have nn : ∀ j, 0 ≤ j → j < r → ¬ u (12 + 68 * x + 7 + (j + m x)) = u (12 + 68 * o + 7 + k) := fun j y1 y2 e => by
        have := ud x (j + m x) o k x0 x1 (by omega) (wk j y1 (by omega)).1 p q y z e
        obtain ⟨e1, e2⟩ := this
        subst e1
        omega
      rw [tick _ 4 st.1 st.2 (by decide) (by decide) (Or.inl nn), tick _ 3 st.1 st.2 (by decide) (by decide) (Or.inl nn)]
      exact (a6 o k p q y z).1 hk'
  · have hk : (if o = x then m x + u (12 + 68 * x + 1) else m o) ≤ k := hk
    have st := (uo o p q).2.2.2 k y z
    have hk' : m o ≤ k := by
      by_cases e : o = x
      · subst e; rw [if_pos rfl] at hk; omega
      · rw [if_neg e] at hk; exact hk
    have nn : ∀ j, 0 ≤ j → j < r → ¬ u (12 + 68 * x + 7 + (j + m x)) = u (12 + 68 * o + 7 + k) := fun j y1 y2 e => by
      have := ud x (j + m x) o k x0 x1 (by omega) (wk j y1 (by omega)).1 p q y z e
      obtain ⟨e1, e2⟩ := this
      subst e1
      rw [if_pos rfl] at hk
      omega
    rw [tick _ 4 st.1 st.2 (by decide) (by decide) (Or.inl nn), tick _ 3 st.1 st.2 (by decide) (by decide) (Or.inl nn)]
    exact (a6 o k p q y z).2 hk'
  · have nn : ∀ j, 0 ≤ j → j < r → ¬ u (12 + 68 * x + 7 + (j + m x)) = t := fun j y1 y2 => hn x (j + m x) x0 x1 (by omega) (wk j y1 (by omega)).1
    rw [tick _ 4 p q (by decide) (by decide) (Or.inl nn), tick _ 3 p q (by decide) (by decide) (Or.inl nn)]
    exact a7 t p q hn
/-! ===== rows: an hour, and many ===== -/
theorem SQ.cong {u w : Row} {dn : Int → Int → Int} {hr : Int} {m m' : Int → Int} (h : SQ u dn hr m w) (e : ∀ o, 0 ≤ o → o < u 7 → m' o = m o) : SQ u dn hr m' w := by
  obtain ⟨a0, a1, a2, a3, a4, a5, a6, a7⟩ := h
  refine ⟨a0, a1, a2, a3, fun o p q => ?_, a5, fun o k p q => ?_, a7⟩
  · rw [e o p q]
    exact a4 o p q
  · rw [e o p q]
    exact a6 o k p q
theorem SQ.ce {u w w' : Row} {dn : Int → Int → Int} {hr : Int} {m : Int → Int} (hu : QK u) (hm : ∀ o, 0 ≤ m o) (h : SQ u dn hr m w) (e : CE w w') (r : RT w') : SQ u dn hr m w' := by
  obtain ⟨⟨n0, n1⟩, uo, ud⟩ := hu
  obtain ⟨a0, a1, a2, a3, a4, a5, a6, a7⟩ := h
  refine ⟨by rw [e 0 (by omega)]; exact a0, fun i p q => by rw [e i (by omega)]; exact a1 i p q, fun o j p q y z => by rw [e _ (by omega)]; exact a2 o j p q y z, r, fun o p q => ⟨?_, fun k y z => ?_⟩, fun t f p q y z => by rw [e _ (by omega)]; exact a5 t f p q y z, fun o k p q y z => ?_, fun t p q hn => ?_⟩
  · rw [e _ (by omega)]
    exact (a4 o p q).1
  · have := (uo o p q).1.2
    have := hm o
    rw [e _ (by omega)]
    exact (a4 o p q).2 k y z
  · have st := (uo o p q).2.2.2 k y z
    rw [e (452 + 24 * u (12 + 68 * o + 7 + k) + 4) (by omega), e (452 + 24 * u (12 + 68 * o + 7 + k) + 3) (by omega)]
    exact a6 o k p q y z
  · rw [e (452 + 24 * t + 4) (by omega), e (452 + 24 * t + 3) (by omega)]
    exact a7 t p q hn
def upM (u : Row) (hr x : Int) (m : Int → Int) (o : Int) : Int := if x ≤ o ∧ ¬ u (12 + 68 * o + 4) = 0 ∧ hr % u (12 + 68 * o + 2) = 0 then m o + u (12 + 68 * o + 1) else m o
theorem SQ.offices {u : Row} {dn : Int → Int → Int} {hr : Int} (hu : QK u) : ∀ (n : Nat) (x : Int) (m : Int → Int) (w : Row), SQ u dn hr m w → 0 ≤ x → x ≤ u 7 → u 7 - x ≤ (n : Int) → (∀ o, 0 ≤ m o) → (∀ o k, x ≤ o → o < u 7 → ¬ u (12 + 68 * o + 4) = 0 → hr % u (12 + 68 * o + 2) = 0 → m o ≤ k → k < m o + u (12 + 68 * o + 1) → dn o k = hr) → (∀ o, 0 ≤ o → o < u 7 → 0 ≤ u (12 + 68 * o + 1)) → SQ u dn hr (upM u hr x m) (LP_223_12 n x w) := by
  have stop : ∀ (r : Int → Row → Row) (x : Int) (m : Int → Int) (w : Row), SQ u dn hr m w → x = u 7 → (∀ o, 0 ≤ m o) → SQ u dn hr (upM u hr x m) (ST_223_12 r x w) := fun r x m w h hx hm => by
    have w7 := h.2.1 7 (by decide) (by decide)
    unfold ST_223_12
    rw [if_neg (by omega)]
    obtain ⟨q1, q2⟩ := wk223 (61 - 0 : Int).toNat 0 w (by decide) h.2.2.2.1
    refine (h.ce hu hm q1 q2).cong (fun o p q => ?_)
    unfold upM
    rw [if_neg (by omega)]
  intro n
  induction n with
  | zero => exact fun x m w h h0 h1 h2 hm hd hD => stop _ x m w h (by omega) hm
  | succ n ih =>
    intro x m w h h0 h1 h2 hm hd hD
    by_cases c : x < u 7
    · have w7 := h.2.1 7 (by decide) (by decide)
      have w4 := h.2.2.1 x 4 h0 c (by decide) (by decide)
      have w2 := h.2.2.1 x 2 h0 c (by decide) (by decide)
      have w0 := h.1
      by_cases c4 : u (12 + 68 * x + 4) = 0
      · have e : LP_223_12 (n + 1) x w = LP_223_12 n (x + 1) w := by
          show ST_223_12 _ x w = _
          unfold ST_223_12
          rw [w7, if_pos c, w4, if_pos c4]
        rw [e]
        refine (ih (x + 1) m w h (by omega) (by omega) (by omega) hm (fun o k a => hd o k (by omega)) hD).cong (fun o p q => ?_)
        unfold upM
        by_cases z : o = x
        · subst z
          rw [if_neg (fun y => y.2.1 c4), if_neg (by omega)]
        · by_cases y : x ≤ o ∧ ¬ u (12 + 68 * o + 4) = 0 ∧ hr % u (12 + 68 * o + 2) = 0
          · rw [if_pos y, if_pos ⟨by omega, y.2⟩]
          · rw [if_neg y, if_neg (fun b => y ⟨by omega, b.2⟩)]
      · by_cases c2 : hr % u (12 + 68 * x + 2) = 0
        · have e : LP_223_12 (n + 1) x w = LP_223_12 n (x + 1) (W_222 x w) := by
            show ST_223_12 _ x w = _
            unfold ST_223_12
            rw [w7, if_pos c, w4, if_neg c4, w0, w2, if_pos c2]
          rw [e]
          have hs := h.serve hu h0 c hm (fun k p q => hd x k (Int.le_refl _) c c4 c2 p q)
          refine (ih (x + 1) _ _ hs (by omega) (by omega) (by omega) (fun o => ?_) (fun o k a b p q => ?_) hD).cong (fun o p q => ?_)
          · show 0 ≤ if o = x then m x + u (12 + 68 * x + 1) else m o
            have := hD x h0 c
            have := hm x
            have := hm o
            split <;> omega
          · show (if o = x then m x + u (12 + 68 * x + 1) else m o) ≤ k → k < (if o = x then m x + u (12 + 68 * x + 1) else m o) + u (12 + 68 * o + 1) → dn o k = hr
            rw [if_neg (by omega)]
            exact hd o k (by omega) b p q
          · unfold upM
            by_cases z : o = x
            · subst z
              rw [if_pos ⟨Int.le_refl _, c4, c2⟩, if_neg (by omega)]
              show _ = if o = o then m o + u (12 + 68 * o + 1) else m o
              rw [if_pos rfl]
            · show (if x ≤ o ∧ ¬ u (12 + 68 * o + 4) = 0 ∧ hr % u (12 + 68 * o + 2) = 0 then m o + u (12 + 68 * o + 1) else m o) = if x + 1 ≤ o ∧ ¬ u (12 + 68 * o + 4) = 0 ∧ hr % u (12 + 68 * o + 2) = 0 then (if o = x then m x + u (12 + 68 * x + 1) else m o) + u (12 + 68 * o + 1) else (if o = x then m x + u (12 + 68 * x + 1) else m o)
              rw [if_neg z]
              by_cases y : x ≤ o ∧ ¬ u (12 + 68 * o + 4) = 0 ∧ hr % u (12 + 68 * o + 2) = 0
              · rw [if_pos y, if_pos ⟨by omega, y.2⟩]
              · rw [if_neg y, if_neg (fun b => y ⟨by omega, b.2⟩)]
        · have e : LP_223_12 (n + 1) x w = LP_223_12 n (x + 1) w := by
            show ST_223_12 _ x w = _
            unfold ST_223_12
            rw [w7, if_pos c, w4, if_neg c4, w0, w2, if_neg c2]
          rw [e]
          refine (ih (x + 1) m w h (by omega) (by omega) (by omega) hm (fun o k a => hd o k (by omega)) hD).cong (fun o p q => ?_)
          unfold upM
          by_cases z : o = x
          · subst z
            rw [if_neg (fun y => c2 y.2.2), if_neg (by omega)]
          · by_cases y : x ≤ o ∧ ¬ u (12 + 68 * o + 4) = 0 ∧ hr % u (12 + 68 * o + 2) = 0
            · rw [if_pos y, if_pos ⟨by omega, y.2⟩]
            · rw [if_neg y, if_neg (fun b => y ⟨by omega, b.2⟩)]
    · exact stop _ x m w h (by omega) hm
theorem SQ.hour {u w : Row} {dn : Int → Int → Int} {hr : Int} {m : Int → Int} (hu : QK u) (h : SQ u dn hr m w) (hm : ∀ o, 0 ≤ m o) (hd : ∀ o k, 0 ≤ o → o < u 7 → ¬ u (12 + 68 * o + 4) = 0 → (hr + 1) % u (12 + 68 * o + 2) = 0 → m o ≤ k → k < m o + u (12 + 68 * o + 1) → dn o k = hr + 1) : SQ u dn (hr + 1) (upM u (hr + 1) 0 m) (W_223 w) := by
  have n7 := hu.1
  have h1 : SQ u dn (hr + 1) m (ws w 0 (w 0 + 1)) := by
    obtain ⟨a0, a1, a2, a3, a4, a5, a6, a7⟩ := h
    have e : ∀ i, ¬ i = 0 → ws w 0 (w 0 + 1) i = w i := fun i hi => wsn hi
    refine ⟨by rw [wse rfl, a0], fun i p q => by rw [e i (by omega)]; exact a1 i p q, fun o j p q y z => by rw [e _ (by omega)]; exact a2 o j p q y z, ?_, fun o p q => ⟨?_, fun k y z => ?_⟩, fun t f p q y z => by rw [e _ (by omega)]; exact a5 t f p q y z, fun o k p q y z => ?_, fun t p q hn => ?_⟩
    · obtain ⟨h9, h10, h11, hk, hj, ht⟩ := a3
      exact ⟨by rw [e 9 (by omega)]; exact h9, by rw [e 10 (by omega)]; exact h10, by rw [e 11 (by omega)]; exact h11, fun k p q => by rw [e _ (by omega)]; exact hk k p (by rw [e 10 (by omega)] at q; exact q), fun j p q => by rw [e _ (by omega), e 10 (by omega)]; exact hj j p (by rw [e 11 (by omega)] at q; exact q), fun t p q => by rw [e _ (by omega)]; exact ht t p (by rw [e 9 (by omega)] at q; exact q)⟩
    · rw [e _ (by omega)]
      exact (a4 o p q).1
    · rw [e _ (by omega)]
      exact (a4 o p q).2 k y z
    · have st := (hu.2.1 o p q).2.2.2 k y z
      rw [e (452 + 24 * u (12 + 68 * o + 7 + k) + 4) (by omega), e (452 + 24 * u (12 + 68 * o + 7 + k) + 3) (by omega)]
      exact a6 o k p q y z
    · rw [e (452 + 24 * t + 4) (by omega), e (452 + 24 * t + 3) (by omega)]
      exact a7 t p q hn
  exact SQ.offices hu (6 - 0 : Int).toNat 0 m _ h1 (by decide) n7.1 (by omega) hm (fun o k a => hd o k a) (fun o p q => (hu.2.1 o p q).2.1.1)
theorem hoursW_s : ∀ (n : Nat) (w : Row), hoursW (n + 1) w = W_223 (hoursW n w)
  | 0, _ => rfl
  | n + 1, w => hoursW_s n (W_223 w)
theorem divS {x P : Int} (hP : 1 ≤ P) : (x + 1) / P = if (x + 1) % P = 0 then x / P + 1 else x / P := by
  have a := Int.mul_ediv_add_emod x P
  have b0 := Int.emod_nonneg x (show P ≠ 0 by omega)
  have b1 := Int.emod_lt_of_pos x (show 0 < P by omega)
  generalize x / P = q at *
  generalize x % P = r at *
  by_cases c : r + 1 = P
  · have := (Int.ediv_emod_unique (show 0 < P by omega) (a := x + 1) (q := q + 1) (r := 0)).mpr ⟨by rw [Int.mul_add, Int.mul_one]; omega, by omega, by omega⟩
    rw [this.2, if_pos rfl]
    exact this.1
  · have := (Int.ediv_emod_unique (show 0 < P by omega) (a := x + 1) (q := q) (r := r + 1)).mpr ⟨by omega, by omega, by omega⟩
    rw [this.2, if_neg (by omega)]
    exact this.1
def cM (u : Row) (n o : Int) : Int := if 0 ≤ o ∧ o < u 7 ∧ ¬ u (12 + 68 * o + 4) = 0 then u (12 + 68 * o + 1) * ((u 0 + n) / u (12 + 68 * o + 2) - u 0 / u (12 + 68 * o + 2)) else 0
def dN (u : Row) (o k : Int) : Int := (u 0 / u (12 + 68 * o + 2) + k / u (12 + 68 * o + 1) + 1) * u (12 + 68 * o + 2)
theorem cM_nn {u : Row} (hu : QK u) {n : Int} (hn : 0 ≤ n) (o : Int) : 0 ≤ cM u n o := by
  unfold cM
  by_cases c : 0 ≤ o ∧ o < u 7 ∧ ¬ u (12 + 68 * o + 4) = 0
  · rw [if_pos c]
    obtain ⟨-, d, p, -⟩ := hu.2.1 o c.1 c.2.1
    refine Int.mul_nonneg d.1 ?_
    have := Int.ediv_le_ediv (show 0 < u (12 + 68 * o + 2) by omega) (show u 0 ≤ u 0 + n by omega)
    omega
  · rw [if_neg c]
    exact Int.le_refl _
theorem SQ.hours {u : Row} (hu : QK u) (hr : RT u) : ∀ n : Nat, SQ u (dN u) (u 0 + (n : Int)) (cM u (n : Int)) (hoursW n u) := by
  intro n
  induction n with
  | zero =>
    have z : ∀ o, cM u ((0 : Nat) : Int) o = 0 := fun o => by
      unfold cM
      split
      · rw [show u 0 + ((0 : Nat) : Int) = u 0 by omega, Int.sub_self, Int.mul_zero]
      · rfl
    refine ⟨by show u 0 = _; omega, fun _ _ _ => rfl, fun _ _ _ _ _ _ => rfl, hr, fun o p q => ⟨?_, fun k _ _ => ?_⟩, fun _ _ _ _ _ _ => rfl, fun o k p q y _ => ⟨fun h => ?_, fun _ => ⟨rfl, rfl⟩⟩, fun _ _ _ _ => ⟨rfl, rfl⟩⟩
    · show u (12 + 68 * o + 5) = _
      have := (hu.2.1 o p q).1
      rw [z]
      split <;> omega
    · show u (12 + 68 * o + 7 + k) = _
      rw [z, Int.add_zero]
    · rw [z] at h
      omega
  | succ n ih =>
    have nn := cM_nn hu (show (0 : Int) ≤ (n : Int) by omega)
    have e1 : ∀ o, 0 ≤ o → o < u 7 → ¬ u (12 + 68 * o + 4) = 0 → cM u (n : Int) o = u (12 + 68 * o + 1) * ((u 0 + (n : Int)) / u (12 + 68 * o + 2) - u 0 / u (12 + 68 * o + 2)) := fun o p q y => by
      unfold cM
      rw [if_pos ⟨p, q, y⟩]
    have step := ih.hour hu nn (fun o k p q y hdv k0 k1 => by
      obtain ⟨-, d, pp, -⟩ := hu.2.1 o p q
      have dv := divS (x := u 0 + (n : Int)) pp
      rw [if_pos hdv] at dv
      rw [e1 o p q y] at k0 k1
      have em := Int.mul_ediv_add_emod (u 0 + (n : Int) + 1) (u (12 + 68 * o + 2))
      rw [hdv, dv, Int.add_zero] at em
      unfold dN
      generalize (u 0 + (n : Int)) / u (12 + 68 * o + 2) = a at *
      generalize u 0 / u (12 + 68 * o + 2) = b at *
      generalize u (12 + 68 * o + 1) = D at *
      generalize u (12 + 68 * o + 2) = P at *
      have ek : k / D = a - b := ((Int.ediv_emod_unique (show 0 < D by omega) (a := k) (q := a - b) (r := k - D * (a - b))).mpr ⟨by omega, by omega, by omega⟩).1
      rw [ek, show b + (a - b) + 1 = a + 1 by omega, Int.mul_comm]
      exact em)
    rw [hoursW_s]
    have : u 0 + ((n + 1 : Nat) : Int) = u 0 + (n : Int) + 1 := by omega
    rw [this]
    refine step.cong (fun o p q => ?_)
    unfold upM
    by_cases y : u (12 + 68 * o + 4) = 0
    · rw [if_neg (fun z => z.2.1 y)]
      unfold cM
      rw [if_neg (fun z => z.2.2 y), if_neg (fun z => z.2.2 y)]
    · have pp := (hu.2.1 o p q).2.2.1
      have dv := divS (x := u 0 + (n : Int)) pp
      rw [e1 o p q y]
      unfold cM
      rw [if_pos ⟨p, q, y⟩, this, dv]
      by_cases c : (u 0 + (n : Int) + 1) % u (12 + 68 * o + 2) = 0
      · rw [if_pos c, if_pos ⟨p, y, c⟩, show (u 0 + (n : Int)) / u (12 + 68 * o + 2) + 1 - u 0 / u (12 + 68 * o + 2) = ((u 0 + (n : Int)) / u (12 + 68 * o + 2) - u 0 / u (12 + 68 * o + 2)) + 1 by omega, Int.mul_add, Int.mul_one]
      · rw [if_neg c, if_neg (fun z => c z.2.2)]
/-! ===== queries: served in, queue in ===== -/
theorem GG.qk {w : Row} (hg : GG w) : QK w := by
  obtain ⟨hN, hO, hQ, hT, -⟩ := hg
  obtain ⟨n7, n8, n9, -⟩ := hN
  refine ⟨n7, fun o p q => ?_, fun o k o' k' p q y z p' q' y' z' e => ?_⟩
  · obtain ⟨u1, u2, u3, u4, u5, u6, u7⟩ := hO o p q
    exact ⟨by omega, by omega, u2.1, fun k y z => by have := (hQ o p q k y z).1; omega⟩
  · obtain ⟨a1, a2, a3, a4⟩ := hQ o p q k y z
    obtain ⟨b1, b2, b3, b4⟩ := hQ o' p' q' k' y' z'
    have eo : o = o' := by
      rw [e, b2] at a2
      exact a2.symm
    subst eo
    refine ⟨rfl, ?_⟩
    rcases Int.lt_trichotomy k k' with c | c | c
    · exact absurd (by rw [e]) (b4 k y c).2
    · exact c
    · exact absurd (by rw [e]) (a4 k' y' c).2
theorem lq263 {t : Int} {u : Row} {v : Int} (h1 : ∀ x : Nat, (x : Int) < v → (x : Int) ≤ 200 → ¬ hoursW x u (452 + 24 * t + 4) = 1) (h2 : v ≤ 200 → hoursW v.toNat u (452 + 24 * t + 4) = 1) (hv : 0 ≤ v ∧ v ≤ 201) : ∀ (n : Nat) (x : Nat) (E : mD), E 770 = hoursW x u → (x : Int) ≤ v → x + n = 201 → (lp_263_2 769 t n (x : Int) E).1 = v := by
  have stop : ∀ (r : Int → mD → Int × mD) (x : Nat) (E : mD), E 770 = hoursW x u → (x : Int) = v → (st_263_2 769 t r (x : Int) E).1 = v := fun r x E hE hx => by
    unfold st_263_2
    by_cases c : 200 < (x : Int)
    · rw [if_pos c]; exact hx
    · have := h2 (by omega)
      rw [show v.toNat = x by omega] at this
      rw [if_neg c, n7691, hE, if_pos this]
      exact hx
  intro n
  induction n with
  | zero => exact fun x E hE hx hn => stop _ x E hE (by omega)
  | succ n ih =>
    intro x E hE hx hn
    by_cases c : (x : Int) = v
    · exact stop _ x E hE c
    · have e : lp_263_2 769 t (n + 1) (x : Int) E = lp_263_2 769 t n ((x : Int) + 1) (g_223 769 E) := by
        show st_263_2 769 t _ (x : Int) E = _
        unfold st_263_2
        rw [if_neg (by omega), n7691, hE, if_neg (h1 x (by omega) (by omega))]
      rw [e]
      exact ih (x + 1) (g_223 769 E) (by rw [m_g_223, rset_at, hE, hoursW_s]) (by omega) (by omega)
theorem v263 {t : Int} {u : Row} {v : Int} {E : mD} (hE : E 770 = u) (h1 : ∀ x : Nat, (x : Int) < v → (x : Int) ≤ 200 → ¬ hoursW x u (452 + 24 * t + 4) = 1) (h2 : v ≤ 200 → hoursW v.toNat u (452 + 24 * t + 4) = 1) (hv : 0 ≤ v ∧ v ≤ 201) : v_263 769 t E = v := lq263 h1 h2 hv (201 - 0 : Int).toNat 0 E hE hv.1 (by decide)
theorem mmax1 {x : Int} (h : 1 ≤ x) : mmax 1 x = x := by
  rcases mmax_r 1 x with a | a
  · omega
  · exact a.1
-- when the place is served
theorem servedAt {u : Row} (hu : QK u) {o k : Int} (o0 : 0 ≤ o) (o1 : o < u 7) (ho : ¬ u (12 + 68 * o + 4) = 0) (hd : 1 ≤ u (12 + 68 * o + 1)) (x : Int) : k < cM u x o ↔ dN u o k - u 0 ≤ x := by
  obtain ⟨-, d, p, -⟩ := hu.2.1 o o0 o1
  unfold cM dN
  rw [if_pos ⟨o0, o1, ho⟩]
  generalize u (12 + 68 * o + 1) = D at *
  generalize u (12 + 68 * o + 2) = P at *
  generalize u 0 = h at *
  rw [Int.mul_comm D, ← Int.ediv_lt_iff_lt_mul (show 0 < D by omega)]
  have b := Int.le_ediv_iff_mul_le (a := h / P + k / D + 1) (b := h + x) (show 0 < P by omega)
  constructor
  · intro y
    have := b.mp (by omega)
    omega
  · intro y
    have := b.mpr (by omega)
    omega
theorem qpServed {d : mD} {a : Int} (hk : OKR 1 d (d 770)) : QP (g_318 0 a 778 d) (g_264 769 a (g_318 0 a 778 d)) (v_318 0 a 778 d) (v_264 769 a (g_318 0 a 778 d)) := by
  obtain ⟨hg, -, -, ht, hr⟩ := id hk
  have o9 : d 50 0 = d 770 9 := hr.2.2.2.2.1.1
  have hh : d 1 2 = d 770 0 := hr.1.2.1
  have n0 := hg.1.2.2.2.2.2.1
  have hu := hg.qk
  unfold v_318 g_318
  rw [n01, n49, show (50 : Int) + 5 = 55 by decide, show (50 : Int) + 2 = 52 by decide, show (1 : Int) + 2 = 3 by decide, o9, hh, ifR, ifR]
  by_cases c : 0 ≤ a ∧ a < d 770 9
  · rw [if_pos c, if_pos c]
    obtain ⟨t1, t2, t3, t4, t5⟩ := hr.2.2.2.2.1.2 a c.1 c.2
    have t2 : d 52 a = d 770 (452 + 24 * a + 1) := t2
    have t5 : d 55 a = d 770 (452 + 24 * a + 4) := t5
    obtain ⟨g1, g2, g3, g4, g5, g6⟩ := hg.2.2.2.1 a c.1 c.2
    -- the reference's answer
    have rf : ∀ (D : mD) (v : Int), D 770 = d 770 → v_263 769 a (g_255 769 (mset D 769 0 0)) = v → (g_264 769 a D 769 0 = if 200 < v then 2 else 0) ∧ v_264 769 a D = if 200 < v then 0 else v := fun D v h7 hv => by
      unfold g_264 v_264
      rw [v238, h7, if_pos c, if_neg (show ¬ (1 : Int) = 0 by decide), if_neg (show ¬ (1 : Int) = 0 by decide), hv]
      refine ⟨?_, rfl⟩
      by_cases z : 200 < v
      · rw [if_pos z, if_pos z, ms_e rfl rfl]
      · rw [if_neg z, if_neg z, ms_e rfl rfl]
    have e7 : ∀ D : mD, D 770 = d 770 → g_255 769 (mset D 769 0 0) 770 = d 770 := fun D h7 => by rw [c255.1 770 (by decide), o769 (by decide), h7]
    have never : (∀ x : Nat, (x : Int) ≤ 200 → ¬ hoursW x (d 770) (452 + 24 * a + 4) = 1) → QP d (g_264 769 a d) 2 (v_264 769 a d) := fun hn => by
      have r := rf d 201 rfl (v263 (e7 d rfl) (fun x _ y => hn x y) (fun y => absurd y (by decide)) (by decide))
      rw [if_pos (by decide)] at r
      exact ⟨r.1, fun z => absurd z (by decide)⟩
    have at_ : ∀ v : Int, 0 ≤ v → v ≤ 200 → (∀ x : Nat, (x : Int) < v → ¬ hoursW x (d 770) (452 + 24 * a + 4) = 1) → hoursW v.toNat (d 770) (452 + 24 * a + 4) = 1 → QP (mset d 778 0 v) (g_264 769 a (mset d 778 0 v)) 0 (v_264 769 a (mset d 778 0 v)) := fun v v0 v1 hn hs => by
      have h7 : mset d 778 0 v 770 = d 770 := o778 (by decide)
      have r := rf (mset d 778 0 v) v h7 (v263 (e7 _ h7) (fun x y _ => hn x y) (fun _ => hs) ⟨v0, by omega⟩)
      rw [if_neg (by omega), if_neg (by omega)] at r
      refine ⟨r.1, fun _ => ⟨?_, ?_⟩⟩
      · rw [r.2, ms_e rfl rfl]
      · rw [r.2]; exact inI.of (by omega)
    rw [t5, t2]
    by_cases s1 : d 770 (452 + 24 * a + 4) = 1
    · rw [if_pos s1, if_pos s1]
      exact at_ 0 (by decide) (by decide) (fun x y => by omega) s1
    · rw [if_neg s1, if_neg s1]
      by_cases s0 : d 770 (452 + 24 * a + 4) = 0
      · obtain ⟨p1, p2, p3, p4⟩ := placeIn hg hr c s0
        have p1 : v_39 3 (d 770 (452 + 24 * a + 1)) a d = V_221 a (d 770) := p1
        rw [p1]
        generalize V_221 a (d 770) = k at *
        generalize d 770 (452 + 24 * a + 1) = o at *
        obtain ⟨q0, q1, q2, q3, q4, q5⟩ := hr.2.1.2 o g2.1 g2.2
        have q1 : d 5 o = d 770 (12 + 68 * o + 1) := q1
        have q2 : d 6 o = d 770 (12 + 68 * o + 2) := q2
        obtain ⟨u1, u2, u3, u4, u5, u6, -⟩ := hg.2.1 o g2.1 g2.2
        have op : ¬ d 770 (12 + 68 * o + 4) = 0 := fun z => by have := u6 z; omega
        have e43 : v_43 3 o k (d 770 0) d = dN (d 770) o k - d 770 0 := by
          unfold v_43 dN
          rw [show (3 : Int) + 3 = 6 by decide, show (3 : Int) + 2 = 5 by decide, q1, q2, mmax1 u2.1, mmax1 u1.1, show d 770 0 / d 770 (12 + 68 * o + 2) + (k / d 770 (12 + 68 * o + 1) + 1) = d 770 0 / d 770 (12 + 68 * o + 2) + k / d 770 (12 + 68 * o + 1) + 1 by omega]
        have sv : ∀ x : Nat, hoursW x (d 770) (452 + 24 * a + 4) = 1 ↔ dN (d 770) o k - d 770 0 ≤ (x : Int) := fun x => by
          rw [← servedAt hu g2.1 g2.2 op u1.1 (x : Int)]
          have s := (SQ.hours hu hg.rt x).2.2.2.2.2.2.1 o k g2.1 g2.2 p2 p3
          rw [p4, s0] at s
          constructor
          · intro y
            by_cases z : k < cM (d 770) (x : Int) o
            · exact z
            · have := (s.2 (by omega)).1
              omega
          · exact fun y => (s.1 y).1
        have pos : 1 ≤ dN (d 770) o k - d 770 0 := by
          have : ¬ dN (d 770) o k - d 770 0 ≤ ((0 : Nat) : Int) := fun z => s1 ((sv 0).mpr z)
          omega
        have nk : ¬ k = -1 := by omega
        rw [if_neg nk, if_neg nk, e43]
        generalize dN (d 770) o k - d 770 0 = V at *
        by_cases c2 : 200 < V
        · rw [if_pos c2, if_pos c2]
          exact never (fun x hx y => by have := (sv x).mp y; omega)
        · rw [if_neg c2, if_neg c2]
          exact at_ V (by omega) (by omega) (fun x hx y => by have := (sv x).mp y; omega) ((sv _).mpr (by omega))
      · have nq : ∀ o k, 0 ≤ o → o < d 770 7 → 0 ≤ k → k < d 770 (12 + 68 * o + 5) → ¬ d 770 (12 + 68 * o + 7 + k) = a := fun o k p q y z e => by
          have := (hg.2.2.1 o p q k y z).2.2.1
          rw [e] at this
          exact s0 this
        have p1 : v_39 3 (d 770 (452 + 24 * a + 1)) a d = -1 := by
          obtain ⟨e1, e2⟩ := placeEq hg hr c
          have e1 : v_39 3 (d 770 (452 + 24 * a + 1)) a d = V_221 a (d 770) := e1
          rw [e1]
          rcases e2 with e2 | e2
          · exact e2.1
          · exact absurd e2.2.2 (nq _ _ g2.1 g2.2 e2.1 e2.2.1)
        rw [if_pos p1, if_pos p1]
        refine never (fun x _ y => ?_)
        have s := ((SQ.hours hu hg.rt x).2.2.2.2.2.2.2 a c.1 (by have := hg.1.2.2.1; omega) nq).1
        rw [s] at y
        exact s1 y
  · rw [if_neg c, if_neg c]
    have e : g_264 769 a d = mset d 769 0 1 := by
      unfold g_264
      rw [v238, if_neg c, if_pos rfl]
    rw [e]
    exact QP.fail (by decide)
/-! ===== queries: a queue in some hours ===== -/
theorem lp265 {o x : Int} : ∀ (n : Nat) (k : Int) (E : mD), 0 ≤ x - k → x - k ≤ (n : Int) → lp_265_48 769 o x n k E = (hoursW (x - k).toNat (E 770) (12 + 68 * o + 5), g_256 769 (rset E (hoursW (x - k).toNat (E 770)))) := by
  have stop : ∀ (r : Int → mD → Int × mD) (k : Int) (E : mD), x - k = 0 → st_265_48 769 o x r k E = (hoursW (x - k).toNat (E 770) (12 + 68 * o + 5), g_256 769 (rset E (hoursW (x - k).toNat (E 770)))) := fun r k E h => by
    rw [show (x - k).toNat = 0 by omega]
    show _ = (E 770 (12 + 68 * o + 5), g_256 769 (rset E (E 770)))
    rw [rset_self]
    unfold st_265_48
    rw [if_neg (by omega), n7691]
  intro n
  induction n with
  | zero => exact fun k E h0 h1 => stop _ k E (by omega)
  | succ n ih =>
    intro k E h0 h1
    by_cases c : k < x
    · have e : lp_265_48 769 o x (n + 1) k E = lp_265_48 769 o x n (k + 1) (g_223 769 E) := by
        show st_265_48 769 o x _ k E = _
        unfold st_265_48
        rw [if_pos c]
      rw [e, ih (k + 1) _ (by omega) (by omega), m_g_223, rset_rset, rset_at, show (x - k).toNat = (x - (k + 1)).toNat + 1 by omega]
      rfl
    · exact stop _ k E (by omega)
theorem qpQueueIn {d : mD} {a b : Int} (hk : OKR 1 d (d 770)) : QP (g_319 0 a b 778 d) (g_265 769 a b (g_319 0 a b 778 d)) (v_319 0 a b 778 d) (v_265 769 a b (g_319 0 a b 778 d)) := by
  obtain ⟨hg, -, -, ht, hr⟩ := id hk
  have o7 : d 3 0 = d 770 7 := hr.2.1.1
  have hh : d 1 2 = d 770 0 := hr.1.2.1
  have hu := hg.qk
  have v0 : ∀ D, v_176 b 0 200 D = if 0 ≤ b ∧ b ≤ 200 then 1 else 0 := fun D => v176
  unfold v_319 g_319
  rw [n01, show (1 : Int) + 2 = 3 by decide, o7, hh, ifR, ifR]
  by_cases c : 0 ≤ a ∧ a < d 770 7
  · rw [if_pos c, if_pos c]
    have bad : ¬ (0 ≤ b ∧ b ≤ 200) → QP d (g_265 769 a b d) 2 (v_265 769 a b d) := fun z => by
      have e : g_265 769 a b d = mset d 769 0 2 := by
        unfold g_265 f_265
        rw [v236, if_pos c, v0, if_neg z, if_neg (show ¬ (1 : Int) = 0 by decide), if_pos rfl]
      rw [e]
      exact QP.fail (by decide)
    by_cases c1 : b < 0
    · rw [if_pos c1, if_pos c1]
      exact bad (by omega)
    by_cases c2 : 200 < b
    · rw [if_neg c1, if_neg c1, if_pos c2, if_pos c2]
      exact bad (by omega)
    rw [if_neg c1, if_neg c1, if_neg c2, if_neg c2]
    obtain ⟨q0, q1, q2, q3, q4, q5⟩ := hr.2.1.2 a c.1 c.2
    have q1 : d 5 a = d 770 (12 + 68 * a + 1) := q1
    have q2 : d 6 a = d 770 (12 + 68 * a + 2) := q2
    have q5 : d 9 a = d 770 (12 + 68 * a + 5) := q5
    obtain ⟨u1, u2, u3, u4, u5, u6, -⟩ := hg.2.1 a c.1 c.2
    have s := ((SQ.hours hu hg.rt b.toNat).2.2.2.2.1 a c.1 c.2).1
    rw [show ((b.toNat : Nat) : Int) = b by omega] at s
    have nn := cM_nn hu (show 0 ≤ b by omega) a
    have e44 : v_44 3 a b (d 770 0) d = hoursW b.toNat (d 770) (12 + 68 * a + 5) := by
      have cm : cM (d 770) b a = if d 770 (12 + 68 * a + 4) = 0 then 0 else ((d 770 0 + b) / d 770 (12 + 68 * a + 2) - d 770 0 / d 770 (12 + 68 * a + 2)) * d 770 (12 + 68 * a + 1) := by
        unfold cM
        by_cases z : d 770 (12 + 68 * a + 4) = 0
        · rw [if_pos z, if_neg (fun y => y.2.2 z)]
        · rw [if_neg z, if_pos ⟨c.1, c.2, z⟩, Int.mul_comm]
      rw [s]
      unfold v_44
      rw [show (3 : Int) + 6 = 9 by decide, show (3 : Int) + 3 = 6 by decide, show (3 : Int) + 2 = 5 by decide, q1, q2, q5, mmax1 u2.1]
      by_cases z : d 770 (12 + 68 * a + 4) = 0
      · have l0 := u6 z
        rw [if_pos z] at cm
        rw [cm, l0, if_neg (by decide)]
        have p : 0 ≤ ((d 770 0 + b) / d 770 (12 + 68 * a + 2) - d 770 0 / d 770 (12 + 68 * a + 2)) * d 770 (12 + 68 * a + 1) := by
          refine Int.mul_nonneg ?_ (by omega)
          have := Int.ediv_le_ediv (show 0 < d 770 (12 + 68 * a + 2) by omega) (show d 770 0 ≤ d 770 0 + b by omega)
          omega
        rcases mmax_r 0 (0 - ((d 770 0 + b) / d 770 (12 + 68 * a + 2) - d 770 0 / d 770 (12 + 68 * a + 2)) * d 770 (12 + 68 * a + 1)) with y | y
        · exact y.1
        · omega
      · rw [if_neg z] at cm
        rw [← cm]
        rcases mmax_r 0 (d 770 (12 + 68 * a + 5) - cM (d 770) b a) with y | y
        · rw [y.1]
          split <;> omega
        · rw [y.1]
          split <;> omega
    rw [e44]
    generalize hV : hoursW b.toNat (d 770) (12 + 68 * a + 5) = V at *
    have vr : -100000 ≤ V ∧ V ≤ 100000 := by
      rw [s]
      split <;> omega
    have f : f_265 769 a b (mset d 778 0 V) = (V, g_256 769 (rset (g_255 769 (mset (mset d 778 0 V) 769 0 0)) (hoursW b.toNat (d 770)))) := by
      have r := lp265 (o := a) (x := b) (b - 0 : Int).toNat 0 (g_255 769 (mset (mset d 778 0 V) 769 0 0)) (by omega) (by omega)
      have e7 : g_255 769 (mset (mset d 778 0 V) 769 0 0) 770 = d 770 := by rw [c255.1 770 (by decide), o769 (by decide), o778 (by decide)]
      rw [e7, Int.sub_zero, hV] at r
      unfold f_265
      rw [v236, o778 (by decide), if_pos c, if_neg (show ¬ (1 : Int) = 0 by decide), v0, if_pos (show 0 ≤ b ∧ b ≤ 200 by omega), if_neg (show ¬ (1 : Int) = 0 by decide)]
      rw [Int.sub_zero]
      exact r
    have g0 : g_265 769 a b (mset d 778 0 V) 769 0 = 0 := by
      unfold g_265
      rw [f]
      show g_256 769 (rset (g_255 769 (mset (mset d 778 0 V) 769 0 0)) (hoursW b.toNat (d 770))) 769 0 = 0
      rw [c256.1 769 (by decide), rset_ne (by decide), c255.1 769 (by decide), ms_e rfl rfl]
    have gv : v_265 769 a b (mset d 778 0 V) = V := by
      unfold v_265
      rw [f]
    refine ⟨g0, fun _ => ⟨?_, ?_⟩⟩
    · rw [ms_e rfl rfl, gv]
    · rw [gv]
      exact inI.of vr
  · rw [if_neg c, if_neg c]
    have e : g_265 769 a b d = mset d 769 0 1 := by
      unfold g_265 f_265
      rw [v236, if_neg c, if_pos rfl]
    rw [e]
    exact QP.fail (by decide)
