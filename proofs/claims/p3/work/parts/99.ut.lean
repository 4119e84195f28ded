/-! ===== load keeps the rows' two witnesses ===== -/
theorem safe207 {E : mO × tW} {d e2 : mD} (hT : TKL E) (hS : Safe d) (hh : tSh E.2 d) (a1 : ∀ b, ¬ b = 769 → ¬ b = 774 → e2 b = d b) (a2 : ∀ j, ¬ j = 11 → ¬ j = 12 → e2 769 j = d 769 j) (a3 : e2 769 11 = 0 ∧ e2 769 12 = -1) (a4 : ∀ i, 0 ≤ i → i < 3116 → e2 774 i = d 770 i) (a5 : ∀ i, 3116 ≤ i → e2 774 i = d 774 i) : Safe e2 ∧ tSh E.2 e2 := by
  have hS1 : Safe (mset (mset d 769 11 0) 769 12 (-1)) := s_11_f12 (s_11_f11 hS rfl (by decide)) rfl (by decide)
  have k11 : E.2.1 769 = ((363 / 32 : Nat) : Int) := tobj (hT.t 11 769 (by decide)) (by decide)
  have hh1 : tSh E.2 (mset (mset d 769 11 0) 769 12 (-1)) := (hh.setF (g := 363) (v := 0) k11 (by decide) (by decide)).setF (g := 364) (v := -1) k11 (by decide) (by decide)
  have e9 : e2 769 = mset (mset d 769 11 0) 769 12 (-1) 769 := by
    funext j
    by_cases c : j = 12
    · rw [ms_e rfl c, c]
      exact a3.2
    · rw [ms_i c]
      by_cases c2 : j = 11
      · rw [ms_e rfl c2, c2]
        exact a3.1
      · rw [ms_i c2]
        exact a2 j c2 c
  have eo : ∀ b, b ≠ 774 → e2 b = mset (mset d 769 11 0) 769 12 (-1) b := fun b hb => by
    by_cases c : b = 769
    · rw [c]; exact e9
    · rw [a1 b c hb]
      funext j
      rw [ms_a c, ms_a c]
  generalize mset (mset d 769 11 0) 769 12 (-1) = u at *
  refine ⟨fun a i h0 => ?_, ?_⟩
  · by_cases c : a = 774
    · rw [c]
      by_cases q : i < 3116
      · rw [a4 i h0 q]
        have := hS 770 i h0
        exact this
      · rw [a5 i (by omega)]
        exact hS 774 i h0
    · rw [eo a c]
      exact hS1 a i h0
  · obtain ⟨p1, p2⟩ := hh.1 769 357 (by decide) (by decide) k11 (by decide)
    have p2 : tokV E.2 (.inr (25, 774)) := p2
    exact hh1.oth (t := 25) p2.2.1 (by decide) (by decide) eo
theorem rpLoad {E : mO × tW} {d : mD} (hT : TKL E) (hI : Inv E d) (hS1 : Safe (g_303 0 778 d)) (hh1 : tSh E.2 (g_303 0 778 d)) (hf : ∀ b, 642 < b → ¬ b = 778 → g_303 0 778 d b = d b) (r : RP d) : RP (g_207 769 (g_303 0 778 d)) := by
  obtain ⟨hS, hh, hi⟩ := hI
  have h70 := hf 770 (by decide) (by decide)
  have h71 := hf 771 (by decide) (by decide)
  have h72 := hf 772 (by decide) (by decide)
  have h75 := hf 775 (by decide) (by decide)
  have h69 := hf 769 (by decide) (by decide)
  have h76 := hf 776 (by decide) (by decide)
  generalize g_303 0 778 d = D at *
  obtain ⟨e2, a1, a2, a3, a4, a6, a5⟩ := f207 (d := D)
  obtain ⟨s1, s2⟩ := safe207 hT hS1 hh1 a1 a2 a3 a4 a6
  have ht : TextR d e2 := hi.2.2.2.fr rfl rfl (by rw [a2 9 (by decide) (by decide), h69]) (by rw [a1 776 (by decide) (by decide), h76])
  obtain ⟨p1, p2, p3, p4, p5, p6, p7⟩ := p_206 (E := E) (x0 := 769) s1 rfl ⟨hT.t 11 769 (by decide), trivial⟩ s2
  unfold g_207
  rw [a5]
  by_cases c : g_206 769 e2 769 13 = 0
  · rw [if_pos c]
    dsimp only
    refine RP.new ?_ ?_ ?_ ?_
    · have e : mset (mset (mset (mset (mset (g_206 769 e2) 769 9 0) 769 0 0) 769 7 0) 775 0 0) 775 1 0 770 = g_206 769 e2 770 := by
        funext j
        rw [ms_a (by decide), ms_a (by decide), ms_a (by decide), ms_a (by decide), ms_a (by decide)]
      rw [e]
      exact p5
    · rw [ms_a (by decide), ms_a (by decide), ms_e rfl rfl]
    · rw [ms_i (by decide), ms_e rfl rfl]
    · exact ms_e rfl rfl
  · rw [if_neg c]
    obtain ⟨Z, b1, b2, b3⟩ := back207 (d := mset (mset (g_206 769 e2) 769 9 0) 769 0 1)
    rw [b1]
    dsimp only
    have z : ∀ b, ¬ b = 769 → ¬ b = 770 → Z b = g_206 769 e2 b := fun b x y => by
      rw [b2 b y]
      funext j
      rw [ms_a x, ms_a x]
    have q7 : g_206 769 e2 769 7 = d 769 7 := by
      obtain ⟨D', l1, -⟩ := loadAll hT.1 hT.k (y := 778) ht hS hh
      rw [l1.2.2 7 (by decide), a2 7 (by decide) (by decide), h69]
    refine r.q (fun i x y => ?_) ?_ (fun b hb => ?_)
    · rw [b3 i x y, ms_a (by decide), ms_a (by decide), p2 774 (by decide), a4 i x y, h70]
    · rw [b2 769 (by decide), ms_i (by decide), ms_i (by decide), q7]
    · rw [z b (by omega) (by omega), p2 b (by omega), a1 b (by omega) (by omega)]
      rcases hb with hb | hb | hb
      · rw [hb]; exact h71
      · rw [hb]; exact h72
      · rw [hb]; exact h75
