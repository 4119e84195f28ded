/-! ===== contracts: the rows' small methods ===== -/
theorem k_36 {E : mO × tW} {K : tK} {d : mD} {x v : Int} (hc : 0 ≤ d x 0 ∧ d x 0 ≤ 6) (h0 : ∀ i, 0 ≤ i → i < 6 → mInR (d (x + 1) i)) (hv : mInR v) (h : ∀ r, isF (fun i => d (x + 1) i = v) (d x 0) r → K (.inl (some (0, r))) d) : tCall E 36 [.inr (3, x), .inl (0, v)] d K := by
  refine t_36_0 ?_
  refine t_find (fun i => (2, [.inr (3, x), .inl (0, v), .inl (0, i)], [], 0, 0, d)) (fun i => d (x + 1) i = v) hc.1 (fun i g0 g1 gn k => ?_) (fun gn => ?_)
  · exact t_36_2 ⟨⟨m_inR (by omega) (by omega), m_inR (by omega) (by omega)⟩, fun z => absurd z (by omega), fun _ => ⟨⟨g0, by omega⟩, ⟨h0 i g0 (by omega), hv⟩, fun c => k c, fun c => h i (Or.inr ⟨g0, g1, c, gn⟩)⟩⟩
  · exact t_36_2 ⟨⟨m_inR (by omega) (by omega), m_inR (by omega) (by omega)⟩, fun _ => h (-1) (Or.inl ⟨rfl, gn⟩), fun z => absurd z (by omega)⟩
theorem k_48 {E : mO × tW} {K : tK} {d : mD} {x v : Int} (hc : 0 ≤ d x 0 ∧ d x 0 ≤ 16) (h0 : ∀ i, 0 ≤ i → i < 16 → mInR (d (x + 1) i)) (hv : mInR v) (h : ∀ r, isF (fun i => d (x + 1) i = v) (d x 0) r → K (.inl (some (0, r))) d) : tCall E 48 [.inr (4, x), .inl (0, v)] d K := by
  refine t_48_0 ?_
  refine t_find (fun i => (2, [.inr (4, x), .inl (0, v), .inl (0, i)], [], 0, 0, d)) (fun i => d (x + 1) i = v) hc.1 (fun i g0 g1 gn k => ?_) (fun gn => ?_)
  · exact t_48_2 ⟨⟨m_inR (by omega) (by omega), m_inR (by omega) (by omega)⟩, fun z => absurd z (by omega), fun _ => ⟨⟨g0, by omega⟩, ⟨h0 i g0 (by omega), hv⟩, fun c => k c, fun c => h i (Or.inr ⟨g0, g1, c, gn⟩)⟩⟩
  · exact t_48_2 ⟨⟨m_inR (by omega) (by omega), m_inR (by omega) (by omega)⟩, fun _ => h (-1) (Or.inl ⟨rfl, gn⟩), fun z => absurd z (by omega)⟩
theorem k_113 {E : mO × tW} {K : tK} {d : mD} {x v : Int} (hc : 0 ≤ d x 5 ∧ d x 5 ≤ 200) (h0 : ∀ i, 0 ≤ i → i < 200 → mInR (d (x + 5) i)) (hv : mInR v) (h : ∀ r, isF (fun i => d (x + 5) i = v) (d x 5) r → K (.inl (some (0, r))) d) : tCall E 113 [.inr (9, x), .inl (0, v)] d K := by
  refine t_113_0 ?_
  refine t_find (fun i => (2, [.inr (9, x), .inl (0, v), .inl (0, i)], [], 0, 0, d)) (fun i => d (x + 5) i = v) hc.1 (fun i g0 g1 gn k => ?_) (fun gn => ?_)
  · exact t_113_2 ⟨⟨m_inR (by omega) (by omega), m_inR (by omega) (by omega)⟩, fun z => absurd z (by omega), fun _ => ⟨⟨g0, by omega⟩, ⟨h0 i g0 (by omega), hv⟩, fun c => k c, fun c => h i (Or.inr ⟨g0, g1, c, gn⟩)⟩⟩
  · exact t_113_2 ⟨⟨m_inR (by omega) (by omega), m_inR (by omega) (by omega)⟩, fun _ => h (-1) (Or.inl ⟨rfl, gn⟩), fun z => absurd z (by omega)⟩
theorem k_101 {E : mO × tW} {K : tK} {d : mD} {x v : Int} (hc : 0 ≤ d x 0 ∧ d x 0 ≤ 60) (r0 : ∀ i, 0 ≤ i → i < 60 → mInR (d (x + 5) i)) (hv : mInR v) (h : K (.inl (some (0, csum (fun i => if d (x + 5) i = v then 1 else 0) (d x 0).toNat))) d) : tCall E 101 [.inr (8, x), .inl (0, v)] d K := by
  refine t_101_0 ?_
  refine t_count (fun i => (4, [.inr (8, x), .inl (0, v), .inl (0, csum (fun i => if d (x + 5) i = v then 1 else 0) i.toNat), .inl (0, i)], [], 0, 0, d)) hc.1 (fun i h0 h1 k => ?_) ?_
  · refine t_101_4 ⟨⟨m_inR (by omega) (by omega), m_inR (by omega) (by omega)⟩, fun z => absurd z (by omega), fun _ => ?_⟩
    rw [csum_s _ h0] at k
    refine ⟨⟨h0, by omega⟩, ⟨r0 i h0 (by omega), hv⟩, fun c0 => ?_, fun c0 => ?_⟩
    · rw [if_neg c0] at k; exact k
    · rw [if_pos c0] at k; exact k
  · exact t_101_4 ⟨⟨m_inR (by omega) (by omega), m_inR (by omega) (by omega)⟩, fun _ => h, fun z => absurd z (by omega)⟩
theorem k_102 {E : mO × tW} {K : tK} {d : mD} {x v : Int} (hc : 0 ≤ d x 0 ∧ d x 0 ≤ 60) (r0 : ∀ i, 0 ≤ i → i < 60 → mInR (d (x + 6) i)) (hv : mInR v) (h : K (.inl (some (0, csum (fun i => if d (x + 6) i = v then 1 else 0) (d x 0).toNat))) d) : tCall E 102 [.inr (8, x), .inl (0, v)] d K := by
  refine t_102_0 ?_
  refine t_count (fun i => (4, [.inr (8, x), .inl (0, v), .inl (0, csum (fun i => if d (x + 6) i = v then 1 else 0) i.toNat), .inl (0, i)], [], 0, 0, d)) hc.1 (fun i h0 h1 k => ?_) ?_
  · refine t_102_4 ⟨⟨m_inR (by omega) (by omega), m_inR (by omega) (by omega)⟩, fun z => absurd z (by omega), fun _ => ?_⟩
    rw [csum_s _ h0] at k
    refine ⟨⟨h0, by omega⟩, ⟨r0 i h0 (by omega), hv⟩, fun c0 => ?_, fun c0 => ?_⟩
    · rw [if_neg c0] at k; exact k
    · rw [if_pos c0] at k; exact k
  · exact t_102_4 ⟨⟨m_inR (by omega) (by omega), m_inR (by omega) (by omega)⟩, fun _ => h, fun z => absurd z (by omega)⟩
theorem k_103 {E : mO × tW} {K : tK} {d : mD} {x v : Int} (hc : 0 ≤ d x 0 ∧ d x 0 ≤ 60) (r0 : ∀ i, 0 ≤ i → i < 60 → mInR (d (x + 5) i)) (r1 : ∀ i, 0 ≤ i → i < 60 → mInR (d (x + 2) i)) (hv : mInR v) (h : K (.inl (some (0, csum (fun i => if d (x + 5) i = 1 then if d (x + 2) i = v then 1 else 0 else 0) (d x 0).toNat))) d) : tCall E 103 [.inr (8, x), .inl (0, v)] d K := by
  refine t_103_0 ?_
  refine t_count (fun i => (4, [.inr (8, x), .inl (0, v), .inl (0, csum (fun i => if d (x + 5) i = 1 then if d (x + 2) i = v then 1 else 0 else 0) i.toNat), .inl (0, i)], [], 0, 0, d)) hc.1 (fun i h0 h1 k => ?_) ?_
  · refine t_103_4 ⟨⟨m_inR (by omega) (by omega), m_inR (by omega) (by omega)⟩, fun z => absurd z (by omega), fun _ => ?_⟩
    rw [csum_s _ h0] at k
    refine ⟨⟨h0, by omega⟩, ⟨r0 i h0 (by omega), m_inR (by omega) (by omega)⟩, fun c0 => ?_, fun c0 => ?_⟩
    · rw [if_neg c0] at k; exact k
    ·
      refine ⟨⟨h0, by omega⟩, ⟨r1 i h0 (by omega), hv⟩, fun c1 => ?_, fun c1 => ?_⟩
      · rw [if_pos c0] at k; rw [if_neg c1] at k; exact k
      · rw [if_pos c0] at k; rw [if_pos c1] at k; exact k
  · exact t_103_4 ⟨⟨m_inR (by omega) (by omega), m_inR (by omega) (by omega)⟩, fun _ => h, fun z => absurd z (by omega)⟩
theorem k_104 {E : mO × tW} {K : tK} {d : mD} {x v : Int} (hc : 0 ≤ d x 0 ∧ d x 0 ≤ 60) (r0 : ∀ i, 0 ≤ i → i < 60 → mInR (d (x + 1) i)) (hv : mInR v) (h : K (.inl (some (0, csum (fun i => if d (x + 1) i = v then 1 else 0) (d x 0).toNat))) d) : tCall E 104 [.inr (8, x), .inl (0, v)] d K := by
  refine t_104_0 ?_
  refine t_count (fun i => (4, [.inr (8, x), .inl (0, v), .inl (0, csum (fun i => if d (x + 1) i = v then 1 else 0) i.toNat), .inl (0, i)], [], 0, 0, d)) hc.1 (fun i h0 h1 k => ?_) ?_
  · refine t_104_4 ⟨⟨m_inR (by omega) (by omega), m_inR (by omega) (by omega)⟩, fun z => absurd z (by omega), fun _ => ?_⟩
    rw [csum_s _ h0] at k
    refine ⟨⟨h0, by omega⟩, ⟨r0 i h0 (by omega), hv⟩, fun c0 => ?_, fun c0 => ?_⟩
    · rw [if_neg c0] at k; exact k
    · rw [if_pos c0] at k; exact k
  · exact t_104_4 ⟨⟨m_inR (by omega) (by omega), m_inR (by omega) (by omega)⟩, fun _ => h, fun z => absurd z (by omega)⟩
theorem k_105 {E : mO × tW} {K : tK} {d : mD} {x v : Int} (hc : 0 ≤ d x 0 ∧ d x 0 ≤ 60) (r0 : ∀ i, 0 ≤ i → i < 60 → mInR (d (x + 1) i)) (r1 : ∀ i, 0 ≤ i → i < 60 → mInR (d (x + 5) i)) (hv : mInR v) (h : K (.inl (some (0, csum (fun i => if d (x + 1) i = v then if d (x + 5) i = 0 then 1 else 0 else 0) (d x 0).toNat))) d) : tCall E 105 [.inr (8, x), .inl (0, v)] d K := by
  refine t_105_0 ?_
  refine t_count (fun i => (4, [.inr (8, x), .inl (0, v), .inl (0, csum (fun i => if d (x + 1) i = v then if d (x + 5) i = 0 then 1 else 0 else 0) i.toNat), .inl (0, i)], [], 0, 0, d)) hc.1 (fun i h0 h1 k => ?_) ?_
  · refine t_105_4 ⟨⟨m_inR (by omega) (by omega), m_inR (by omega) (by omega)⟩, fun z => absurd z (by omega), fun _ => ?_⟩
    rw [csum_s _ h0] at k
    refine ⟨⟨h0, by omega⟩, ⟨r0 i h0 (by omega), hv⟩, fun c0 => ?_, fun c0 => ?_⟩
    · rw [if_neg c0] at k; exact k
    ·
      refine ⟨⟨h0, by omega⟩, r1 i h0 (by omega), fun c1 => ?_, fun c1 => ?_⟩
      · rw [if_pos c0] at k; rw [if_neg c1] at k; exact k
      · rw [if_pos c0] at k; rw [if_pos c1] at k; exact k
  · exact t_105_4 ⟨⟨m_inR (by omega) (by omega), m_inR (by omega) (by omega)⟩, fun _ => h, fun z => absurd z (by omega)⟩
theorem k_110 {E : mO × tW} {K : tK} {d : mD} {x v : Int} (hc : 0 ≤ d x 0 ∧ d x 0 ≤ 200) (r0 : ∀ i, 0 ≤ i → i < 200 → mInR (d (x + 4) i)) (hv : mInR v) (h : K (.inl (some (0, csum (fun i => if d (x + 4) i = v then 1 else 0) (d x 0).toNat))) d) : tCall E 110 [.inr (9, x), .inl (0, v)] d K := by
  refine t_110_0 ?_
  refine t_count (fun i => (4, [.inr (9, x), .inl (0, v), .inl (0, csum (fun i => if d (x + 4) i = v then 1 else 0) i.toNat), .inl (0, i)], [], 0, 0, d)) hc.1 (fun i h0 h1 k => ?_) ?_
  · refine t_110_4 ⟨⟨m_inR (by omega) (by omega), m_inR (by omega) (by omega)⟩, fun z => absurd z (by omega), fun _ => ?_⟩
    rw [csum_s _ h0] at k
    refine ⟨⟨h0, by omega⟩, ⟨r0 i h0 (by omega), hv⟩, fun c0 => ?_, fun c0 => ?_⟩
    · rw [if_neg c0] at k; exact k
    · rw [if_pos c0] at k; exact k
  · exact t_110_4 ⟨⟨m_inR (by omega) (by omega), m_inR (by omega) (by omega)⟩, fun _ => h, fun z => absurd z (by omega)⟩
theorem k_111 {E : mO × tW} {K : tK} {d : mD} {x v u : Int} (hc : 0 ≤ d x 0 ∧ d x 0 ≤ 200) (r0 : ∀ i, 0 ≤ i → i < 200 → mInR (d (x + 1) i)) (r1 : ∀ i, 0 ≤ i → i < 200 → mInR (d (x + 4) i)) (hv : mInR v) (hu : mInR u) (h : K (.inl (some (0, csum (fun i => if d (x + 1) i = v then if d (x + 4) i = u then 1 else 0 else 0) (d x 0).toNat))) d) : tCall E 111 [.inr (9, x), .inl (0, v), .inl (0, u)] d K := by
  refine t_111_0 ?_
  refine t_count (fun i => (5, [.inr (9, x), .inl (0, v), .inl (0, u), .inl (0, csum (fun i => if d (x + 1) i = v then if d (x + 4) i = u then 1 else 0 else 0) i.toNat), .inl (0, i)], [], 0, 0, d)) hc.1 (fun i h0 h1 k => ?_) ?_
  · refine t_111_5 ⟨⟨m_inR (by omega) (by omega), m_inR (by omega) (by omega)⟩, fun z => absurd z (by omega), fun _ => ?_⟩
    rw [csum_s _ h0] at k
    refine ⟨⟨h0, by omega⟩, ⟨r0 i h0 (by omega), hv⟩, fun c0 => ?_, fun c0 => ?_⟩
    · rw [if_neg c0] at k; exact k
    ·
      refine ⟨⟨h0, by omega⟩, ⟨r1 i h0 (by omega), hu⟩, fun c1 => ?_, fun c1 => ?_⟩
      · rw [if_pos c0] at k; rw [if_neg c1] at k; exact k
      · rw [if_pos c0] at k; rw [if_pos c1] at k; exact k
  · exact t_111_5 ⟨⟨m_inR (by omega) (by omega), m_inR (by omega) (by omega)⟩, fun _ => h, fun z => absurd z (by omega)⟩
theorem k_112 {E : mO × tW} {K : tK} {d : mD} {x v : Int} (hc : 0 ≤ d x 0 ∧ d x 0 ≤ 200) (r0 : ∀ i, 0 ≤ i → i < 200 → mInR (d (x + 2) i)) (hv : mInR v) (h : K (.inl (some (0, csum (fun i => if d (x + 2) i = v then 1 else 0) (d x 0).toNat))) d) : tCall E 112 [.inr (9, x), .inl (0, v)] d K := by
  refine t_112_0 ?_
  refine t_count (fun i => (4, [.inr (9, x), .inl (0, v), .inl (0, csum (fun i => if d (x + 2) i = v then 1 else 0) i.toNat), .inl (0, i)], [], 0, 0, d)) hc.1 (fun i h0 h1 k => ?_) ?_
  · refine t_112_4 ⟨⟨m_inR (by omega) (by omega), m_inR (by omega) (by omega)⟩, fun z => absurd z (by omega), fun _ => ?_⟩
    rw [csum_s _ h0] at k
    refine ⟨⟨h0, by omega⟩, ⟨r0 i h0 (by omega), hv⟩, fun c0 => ?_, fun c0 => ?_⟩
    · rw [if_neg c0] at k; exact k
    · rw [if_pos c0] at k; exact k
  · exact t_112_4 ⟨⟨m_inR (by omega) (by omega), m_inR (by omega) (by omega)⟩, fun _ => h, fun z => absurd z (by omega)⟩
