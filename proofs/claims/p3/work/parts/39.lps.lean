/-! ===== the reference's loops over whole rows ===== -/
theorem m_rounds {O : mO} {m : Nat} {K : mK} (st : Int → mD → mSt) (Inv : Int → mD → Prop) (N : Nat) (h1 : ∀ i d, 0 ≤ i → i < (N : Int) → Inv i d → (∀ d', Inv (i + 1) d' → mRun O m (st (i + 1) d') K) → mRun O m (st i d) K) (h2 : ∀ d, Inv (N : Int) d → mRun O m (st (N : Int) d) K) : ∀ d, Inv 0 d → mRun O m (st 0 d) K := by
  have h : ∀ n : Nat, n ≤ N → ∀ d, Inv ((N : Int) - (n : Int)) d → mRun O m (st ((N : Int) - (n : Int)) d) K := by
    intro n
    induction n with
    | zero =>
      intro _ d hd
      have e : (N : Int) - ((0 : Nat) : Int) = (N : Int) := by omega
      rw [e] at hd ⊢
      exact h2 d hd
    | succ n ih =>
      intro hn d hd
      refine h1 _ d (by omega) (by omega) hd (fun d' hd' => ?_)
      have e : (N : Int) - ((n + 1 : Nat) : Int) + 1 = (N : Int) - (n : Int) := by omega
      rw [e] at hd' ⊢
      exact ih (by omega) d' hd'
  intro d hd
  have h9 := h N (Nat.le_refl N)
  have e : (N : Int) - (N : Int) = 0 := by omega
  rw [e] at h9
  exact h9 d hd
theorem m_inR {x : Int} (h0 : -2147483648 ≤ x) (h1 : x ≤ 2147483647) : mInR x := ⟨h0, h1⟩
theorem ml_255_6 {O : mO} {K : mK} {c s : Nat} {G : mG} {d : mD} {w i : Int} (hw : G.1 w = 11) (hy : G.1 (d w 4) = 100) (hx : G.1 (d w 1) = 100) (lx : 3116 ≤ G.2.1 (d w 1)) (ly : 3116 ≤ G.2.1 (d w 4)) (h0 : 0 ≤ i) (h1 : i < 3116) (h : mRun O 255 (6, [(3, w), (0, (i + 1))], [(0, 3116), (0, (i + 1))], c, s, G, (mset d (d w 4) i (d (d w 1) i))) K) : mRun O 255 (6, [(3, w), (0, i)], [(0, 3116), (0, i)], c, s, G, d) K := by
  refine mN_run 13 _ ?_
  refine And.intro ⟨m_inR (by omega) (by omega), m_inR (by omega) (by omega)⟩ (And.intro (fun hc => absurd (show (3116 : Int) ≤ i from hc) (by omega)) (fun _ => ?_))
  refine And.intro hw ?_
  refine And.intro hw ?_
  refine And.intro ⟨hx, h0, by show i < G.2.1 (d w 1); omega⟩ ?_
  refine And.intro ⟨hy, by show 0 ≤ i; omega, by show i < G.2.1 (d w 4); omega⟩ ?_
  exact h
theorem ml_256_6 {O : mO} {K : mK} {c s : Nat} {G : mG} {d : mD} {w i : Int} (hw : G.1 w = 11) (hy : G.1 (d w 1) = 100) (hx : G.1 (d w 4) = 100) (lx : 3116 ≤ G.2.1 (d w 4)) (ly : 3116 ≤ G.2.1 (d w 1)) (h0 : 0 ≤ i) (h1 : i < 3116) (h : mRun O 256 (6, [(3, w), (0, (i + 1))], [(0, 3116), (0, (i + 1))], c, s, G, (mset d (d w 1) i (d (d w 4) i))) K) : mRun O 256 (6, [(3, w), (0, i)], [(0, 3116), (0, i)], c, s, G, d) K := by
  refine mN_run 13 _ ?_
  refine And.intro ⟨m_inR (by omega) (by omega), m_inR (by omega) (by omega)⟩ (And.intro (fun hc => absurd (show (3116 : Int) ≤ i from hc) (by omega)) (fun _ => ?_))
  refine And.intro hw ?_
  refine And.intro hw ?_
  refine And.intro ⟨hx, h0, by show i < G.2.1 (d w 4); omega⟩ ?_
  refine And.intro ⟨hy, by show 0 ≤ i; omega, by show i < G.2.1 (d w 1); omega⟩ ?_
  exact h
theorem ml_207_16 {O : mO} {K : mK} {c s : Nat} {G : mG} {d : mD} {w i : Int} (hw : G.1 w = 11) (hy : G.1 (d w 5) = 100) (hx : G.1 (d w 1) = 100) (lx : 3116 ≤ G.2.1 (d w 1)) (ly : 3116 ≤ G.2.1 (d w 5)) (h0 : 0 ≤ i) (h1 : i < 3116) (h : mRun O 207 (16, [(3, w), (0, (i + 1))], [(0, 3116), (0, (i + 1))], c, s, G, (mset d (d w 5) i (d (d w 1) i))) K) : mRun O 207 (16, [(3, w), (0, i)], [(0, 3116), (0, i)], c, s, G, d) K := by
  refine mN_run 13 _ ?_
  refine And.intro ⟨m_inR (by omega) (by omega), m_inR (by omega) (by omega)⟩ (And.intro (fun hc => absurd (show (3116 : Int) ≤ i from hc) (by omega)) (fun _ => ?_))
  refine And.intro hw ?_
  refine And.intro hw ?_
  refine And.intro ⟨hx, h0, by show i < G.2.1 (d w 1); omega⟩ ?_
  refine And.intro ⟨hy, by show 0 ≤ i; omega, by show i < G.2.1 (d w 5); omega⟩ ?_
  exact h
theorem ml_207_75 {O : mO} {K : mK} {c s : Nat} {G : mG} {d : mD} {w i : Int} (hw : G.1 w = 11) (hy : G.1 (d w 1) = 100) (hx : G.1 (d w 5) = 100) (lx : 3116 ≤ G.2.1 (d w 5)) (ly : 3116 ≤ G.2.1 (d w 1)) (h0 : 0 ≤ i) (h1 : i < 3116) (h : mRun O 207 (75, [(3, w), (0, (i + 1))], [(0, 3116), (0, (i + 1))], c, s, G, (mset d (d w 1) i (d (d w 5) i))) K) : mRun O 207 (75, [(3, w), (0, i)], [(0, 3116), (0, i)], c, s, G, d) K := by
  refine mN_run 13 _ ?_
  refine And.intro ⟨m_inR (by omega) (by omega), m_inR (by omega) (by omega)⟩ (And.intro (fun hc => absurd (show (3116 : Int) ≤ i from hc) (by omega)) (fun _ => ?_))
  refine And.intro hw ?_
  refine And.intro hw ?_
  refine And.intro ⟨hx, h0, by show i < G.2.1 (d w 5); omega⟩ ?_
  refine And.intro ⟨hy, by show 0 ≤ i; omega, by show i < G.2.1 (d w 1); omega⟩ ?_
  exact h
theorem ml_206_16 {O : mO} {K : mK} {c s : Nat} {G : mG} {d : mD} {w i : Int} (hw : G.1 w = 11) (hy : G.1 (d w 1) = 100) (ly : 3116 ≤ G.2.1 (d w 1)) (h0 : 0 ≤ i) (h1 : i < 3116) (h : mRun O 206 (16, [(3, w), (0, (i + 1))], [(0, 3116), (0, (i + 1))], c, s, G, (mset d (d w 1) i 0)) K) : mRun O 206 (16, [(3, w), (0, i)], [(0, 3116), (0, i)], c, s, G, d) K := by
  refine mN_run 10 _ ?_
  refine And.intro ⟨m_inR (by omega) (by omega), m_inR (by omega) (by omega)⟩ (And.intro (fun hc => absurd (show (3116 : Int) ≤ i from hc) (by omega)) (fun _ => ?_))
  refine And.intro hw ?_
  refine And.intro ⟨hy, by show 0 ≤ i; omega, by show i < G.2.1 (d w 1); omega⟩ ?_
  exact h
theorem ml_278_58 {O : mO} {K : mK} {c s : Nat} {G : mG} {d : mD} {w i : Int} (hw : G.1 w = 11) (hy : G.1 (d w 2) = 100) (hx : G.1 (d w 1) = 100) (lx : 3116 ≤ G.2.1 (d w 1)) (hu : 0 ≤ d w 7) (hu2 : d w 7 ≤ 7) (ly : 24928 ≤ G.2.1 (d w 2)) (h0 : 0 ≤ i) (h1 : i < 3116) (h : mRun O 278 (58, [(3, w), (0, (i + 1))], [(0, 3116), (0, (i + 1))], c, s, G, (mset d (d w 2) (3116 * d w 7 + i) (d (d w 1) i))) K) : mRun O 278 (58, [(3, w), (0, i)], [(0, 3116), (0, i)], c, s, G, d) K := by
  refine mN_run 18 _ ?_
  refine And.intro ⟨m_inR (by omega) (by omega), m_inR (by omega) (by omega)⟩ (And.intro (fun hc => absurd (show (3116 : Int) ≤ i from hc) (by omega)) (fun _ => ?_))
  refine And.intro hw ?_
  refine And.intro hw ?_
  refine And.intro hw ?_
  refine And.intro ⟨hx, h0, by show i < G.2.1 (d w 1); omega⟩ ?_
  refine And.intro ⟨hy, by show 0 ≤ (3116 * d w 7 + i); omega, by show (3116 * d w 7 + i) < G.2.1 (d w 2); omega⟩ ?_
  exact h
theorem ml_295_33 {O : mO} {K : mK} {c s : Nat} {G : mG} {d : mD} {w i : Int} {sl : Int} (hw : G.1 w = 11) (hy : G.1 (d w 3) = 100) (hx : G.1 (d w 1) = 100) (lx : 3116 ≤ G.2.1 (d w 1)) (hu : 0 ≤ sl) (hu2 : sl ≤ 1) (ly : 6232 ≤ G.2.1 (d w 3)) (h0 : 0 ≤ i) (h1 : i < 3116) (h : mRun O 295 (33, [(3, w), (0, sl), (0, (i + 1))], [(0, 3116), (0, (i + 1))], c, s, G, (mset d (d w 3) (3116 * sl + i) (d (d w 1) i))) K) : mRun O 295 (33, [(3, w), (0, sl), (0, i)], [(0, 3116), (0, i)], c, s, G, d) K := by
  refine mN_run 17 _ ?_
  refine And.intro ⟨m_inR (by omega) (by omega), m_inR (by omega) (by omega)⟩ (And.intro (fun hc => absurd (show (3116 : Int) ≤ i from hc) (by omega)) (fun _ => ?_))
  refine And.intro hw ?_
  refine And.intro hw ?_
  refine And.intro ⟨hx, h0, by show i < G.2.1 (d w 1); omega⟩ ?_
  refine And.intro ⟨hy, by show 0 ≤ (3116 * sl + i); omega, by show (3116 * sl + i) < G.2.1 (d w 3); omega⟩ ?_
  exact h
theorem ma_207_16 {O : mO} {K : mK} {c s : Nat} {G : mG} {d : mD} {w : Int} (hw : G.1 w = 11) (hy : G.1 (d w 5) = 100) (ly : 3116 ≤ G.2.1 (d w 5)) (ne : w ≠ d w 5) (hx : G.1 (d w 1) = 100) (lx : 3116 ≤ G.2.1 (d w 1)) (h : ∀ d', (∀ b, b ≠ d w 5 → d' b = d b) → mRun O 207 (37, [(3, w), (0, 3116)], [], c, s, G, d') K) : mRun O 207 (16, [(3, w), (0, 0)], [(0, 3116), (0, 0)], c, s, G, d) K := by
  refine m_rounds (fun i d' => (16, [(3, w), (0, i)], [(0, 3116), (0, i)], c, s, G, d')) (fun _ d' => ∀ b, b ≠ d w 5 → d' b = d b) 3116 (fun i d' h0 h1 hi k => ?_) (fun d' hi => ?_) d (fun _ _ => rfl)
  · have e : ∀ g, d' w g = d w g := fun g => by rw [hi w ne]
    refine ml_207_16 hw (by rw [e]; exact hy) (by rw [e]; exact hx) (by rw [e]; exact lx) (by rw [e]; exact ly) h0 h1 (k _ (fun b hb => ?_))
    rw [e]
    funext j
    rw [mset_ne hb]
    exact congrFun (hi b hb) j
  · refine mN_run 1 _ ?_
    exact And.intro ⟨m_inR (by omega) (by omega), m_inR (by omega) (by omega)⟩ (And.intro (fun _ => h d' hi) (fun hc => absurd (show (3116 : Int) < 3116 from hc) (by omega)))
theorem ma_207_75 {O : mO} {K : mK} {c s : Nat} {G : mG} {d : mD} {w : Int} (hw : G.1 w = 11) (hy : G.1 (d w 1) = 100) (ly : 3116 ≤ G.2.1 (d w 1)) (ne : w ≠ d w 1) (hx : G.1 (d w 5) = 100) (lx : 3116 ≤ G.2.1 (d w 5)) (h : ∀ d', (∀ b, b ≠ d w 1 → d' b = d b) → mRun O 207 (96, [(3, w), (0, 3116)], [], c, s, G, d') K) : mRun O 207 (75, [(3, w), (0, 0)], [(0, 3116), (0, 0)], c, s, G, d) K := by
  refine m_rounds (fun i d' => (75, [(3, w), (0, i)], [(0, 3116), (0, i)], c, s, G, d')) (fun _ d' => ∀ b, b ≠ d w 1 → d' b = d b) 3116 (fun i d' h0 h1 hi k => ?_) (fun d' hi => ?_) d (fun _ _ => rfl)
  · have e : ∀ g, d' w g = d w g := fun g => by rw [hi w ne]
    refine ml_207_75 hw (by rw [e]; exact hy) (by rw [e]; exact hx) (by rw [e]; exact lx) (by rw [e]; exact ly) h0 h1 (k _ (fun b hb => ?_))
    rw [e]
    funext j
    rw [mset_ne hb]
    exact congrFun (hi b hb) j
  · refine mN_run 1 _ ?_
    exact And.intro ⟨m_inR (by omega) (by omega), m_inR (by omega) (by omega)⟩ (And.intro (fun _ => h d' hi) (fun hc => absurd (show (3116 : Int) < 3116 from hc) (by omega)))
theorem ma_206_16 {O : mO} {K : mK} {c s : Nat} {G : mG} {d : mD} {w : Int} (hw : G.1 w = 11) (hy : G.1 (d w 1) = 100) (ly : 3116 ≤ G.2.1 (d w 1)) (ne : w ≠ d w 1) (h : ∀ d', (∀ b, b ≠ d w 1 → d' b = d b) → mRun O 206 (32, [(3, w), (0, 3116)], [], c, s, G, d') K) : mRun O 206 (16, [(3, w), (0, 0)], [(0, 3116), (0, 0)], c, s, G, d) K := by
  refine m_rounds (fun i d' => (16, [(3, w), (0, i)], [(0, 3116), (0, i)], c, s, G, d')) (fun _ d' => ∀ b, b ≠ d w 1 → d' b = d b) 3116 (fun i d' h0 h1 hi k => ?_) (fun d' hi => ?_) d (fun _ _ => rfl)
  · have e : ∀ g, d' w g = d w g := fun g => by rw [hi w ne]
    refine ml_206_16 hw (by rw [e]; exact hy) (by rw [e]; exact ly) h0 h1 (k _ (fun b hb => ?_))
    rw [e]
    funext j
    rw [mset_ne hb]
    exact congrFun (hi b hb) j
  · refine mN_run 1 _ ?_
    exact And.intro ⟨m_inR (by omega) (by omega), m_inR (by omega) (by omega)⟩ (And.intro (fun _ => h d' hi) (fun hc => absurd (show (3116 : Int) < 3116 from hc) (by omega)))
theorem ma_278_58 {O : mO} {K : mK} {c s : Nat} {G : mG} {d : mD} {w : Int} (hw : G.1 w = 11) (hy : G.1 (d w 2) = 100) (ly : 24928 ≤ G.2.1 (d w 2)) (ne : w ≠ d w 2) (hx : G.1 (d w 1) = 100) (lx : 3116 ≤ G.2.1 (d w 1)) (hu : 0 ≤ d w 7) (hu2 : d w 7 ≤ 7) (h : ∀ d', (∀ b, b ≠ d w 2 → d' b = d b) → mRun O 278 (88, [(3, w), (0, 3116)], [], c, s, G, d') K) : mRun O 278 (58, [(3, w), (0, 0)], [(0, 3116), (0, 0)], c, s, G, d) K := by
  refine m_rounds (fun i d' => (58, [(3, w), (0, i)], [(0, 3116), (0, i)], c, s, G, d')) (fun _ d' => ∀ b, b ≠ d w 2 → d' b = d b) 3116 (fun i d' h0 h1 hi k => ?_) (fun d' hi => ?_) d (fun _ _ => rfl)
  · have e : ∀ g, d' w g = d w g := fun g => by rw [hi w ne]
    refine ml_278_58 hw (by rw [e]; exact hy) (by rw [e]; exact hx) (by rw [e]; exact lx) (by rw [e]; exact hu) (by rw [e]; exact hu2) (by rw [e]; exact ly) h0 h1 (k _ (fun b hb => ?_))
    rw [e]
    funext j
    rw [mset_ne hb]
    exact congrFun (hi b hb) j
  · refine mN_run 1 _ ?_
    exact And.intro ⟨m_inR (by omega) (by omega), m_inR (by omega) (by omega)⟩ (And.intro (fun _ => h d' hi) (fun hc => absurd (show (3116 : Int) < 3116 from hc) (by omega)))
theorem ma_295_33 {O : mO} {K : mK} {c s : Nat} {G : mG} {d : mD} {w : Int} {sl : Int} (hw : G.1 w = 11) (hy : G.1 (d w 3) = 100) (ly : 6232 ≤ G.2.1 (d w 3)) (ne : w ≠ d w 3) (hx : G.1 (d w 1) = 100) (lx : 3116 ≤ G.2.1 (d w 1)) (hu : 0 ≤ sl) (hu2 : sl ≤ 1) (h : ∀ d', (∀ b, b ≠ d w 3 → d' b = d b) → mRun O 295 (60, [(3, w), (0, sl), (0, 3116)], [], c, s, G, d') K) : mRun O 295 (33, [(3, w), (0, sl), (0, 0)], [(0, 3116), (0, 0)], c, s, G, d) K := by
  refine m_rounds (fun i d' => (33, [(3, w), (0, sl), (0, i)], [(0, 3116), (0, i)], c, s, G, d')) (fun _ d' => ∀ b, b ≠ d w 3 → d' b = d b) 3116 (fun i d' h0 h1 hi k => ?_) (fun d' hi => ?_) d (fun _ _ => rfl)
  · have e : ∀ g, d' w g = d w g := fun g => by rw [hi w ne]
    refine ml_295_33 hw (by rw [e]; exact hy) (by rw [e]; exact hx) (by rw [e]; exact lx) hu hu2 (by rw [e]; exact ly) h0 h1 (k _ (fun b hb => ?_))
    rw [e]
    funext j
    rw [mset_ne hb]
    exact congrFun (hi b hb) j
  · refine mN_run 1 _ ?_
    exact And.intro ⟨m_inR (by omega) (by omega), m_inR (by omega) (by omega)⟩ (And.intro (fun _ => h d' hi) (fun hc => absurd (show (3116 : Int) < 3116 from hc) (by omega)))
theorem mcopy_0 (d : mD) (x y : Int) : mcopy d x 0 y 0 0 = d := by
  funext b j
  unfold mcopy
  rw [if_neg (by omega)]
theorem mcopy_s (d : mD) {x y i : Int} (h : x ≠ y) (h0 : 0 ≤ i) : mset (mcopy d x 0 y 0 i) y i (mcopy d x 0 y 0 i x i) = mcopy d x 0 y 0 (i + 1) := by
  funext b j
  unfold mset mcopy
  rw [if_neg (c := x = y ∧ _) (fun z => h z.1)]
  by_cases e : b = y ∧ j = i
  · rw [if_pos e, if_pos ⟨e.1, by omega, by omega⟩, e.2]
    congr 1
    omega
  · rw [if_neg e]
    by_cases e2 : b = y ∧ 0 ≤ j ∧ j < 0 + i
    · rw [if_pos e2, if_pos ⟨e2.1, e2.2.1, by omega⟩]
    · rw [if_neg e2, if_neg (fun z => e2 ⟨z.1, z.2.1, by have : j ≠ i := fun q => e ⟨z.1, q⟩; omega⟩)]
theorem ma_255_6 {O : mO} {K : mK} {c s : Nat} {G : mG} {d : mD} {w : Int} (hw : G.1 w = 11) (hy : G.1 (d w 4) = 100) (ly : 3116 ≤ G.2.1 (d w 4)) (ne : w ≠ d w 4) (hx : G.1 (d w 1) = 100) (lx : 3116 ≤ G.2.1 (d w 1)) (ne2 : d w 1 ≠ d w 4) (h : mRun O 255 (27, [(3, w), (0, 3116)], [], c, s, G, mcopy d (d w 1) 0 (d w 4) 0 3116) K) : mRun O 255 (6, [(3, w), (0, 0)], [(0, 3116), (0, 0)], c, s, G, d) K := by
  refine m_rounds (fun i d' => (6, [(3, w), (0, i)], [(0, 3116), (0, i)], c, s, G, d')) (fun i d' => d' = mcopy d (d w 1) 0 (d w 4) 0 i) 3116 (fun i d' h0 h1 hi k => ?_) (fun d' hi => ?_) d (mcopy_0 d _ _).symm
  · have e : ∀ g, d' w g = d w g := fun g => by rw [hi]; unfold mcopy; rw [if_neg (fun z => ne z.1)]
    refine ml_255_6 hw (by rw [e]; exact hy) (by rw [e]; exact hx) (by rw [e]; exact lx) (by rw [e]; exact ly) h0 h1 (k _ ?_)
    rw [e, e, hi]
    exact mcopy_s d ne2 h0
  · refine mN_run 1 _ ?_
    refine And.intro ⟨m_inR (by omega) (by omega), m_inR (by omega) (by omega)⟩ (And.intro (fun _ => ?_) (fun hc => absurd (show (3116 : Int) < 3116 from hc) (by omega)))
    rw [hi]
    exact h
theorem ma_256_6 {O : mO} {K : mK} {c s : Nat} {G : mG} {d : mD} {w : Int} (hw : G.1 w = 11) (hy : G.1 (d w 1) = 100) (ly : 3116 ≤ G.2.1 (d w 1)) (ne : w ≠ d w 1) (hx : G.1 (d w 4) = 100) (lx : 3116 ≤ G.2.1 (d w 4)) (ne2 : d w 4 ≠ d w 1) (h : mRun O 256 (27, [(3, w), (0, 3116)], [], c, s, G, mcopy d (d w 4) 0 (d w 1) 0 3116) K) : mRun O 256 (6, [(3, w), (0, 0)], [(0, 3116), (0, 0)], c, s, G, d) K := by
  refine m_rounds (fun i d' => (6, [(3, w), (0, i)], [(0, 3116), (0, i)], c, s, G, d')) (fun i d' => d' = mcopy d (d w 4) 0 (d w 1) 0 i) 3116 (fun i d' h0 h1 hi k => ?_) (fun d' hi => ?_) d (mcopy_0 d _ _).symm
  · have e : ∀ g, d' w g = d w g := fun g => by rw [hi]; unfold mcopy; rw [if_neg (fun z => ne z.1)]
    refine ml_256_6 hw (by rw [e]; exact hy) (by rw [e]; exact hx) (by rw [e]; exact lx) (by rw [e]; exact ly) h0 h1 (k _ ?_)
    rw [e, e, hi]
    exact mcopy_s d ne2 h0
  · refine mN_run 1 _ ?_
    refine And.intro ⟨m_inR (by omega) (by omega), m_inR (by omega) (by omega)⟩ (And.intro (fun _ => ?_) (fun hc => absurd (show (3116 : Int) < 3116 from hc) (by omega)))
    rw [hi]
    exact h
