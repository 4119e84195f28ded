/-! ===== World.common ===== -/
def wComV (x0 x1 : Int) (d : mD) (k : Int) : Int := (mmin (wEnd x0 k d) (wEnd x0 x1 d)) - (mmax (d (x0 + 12) k) (d (x0 + 12) x1))
def wCom (x0 x1 x2 : Int) (d : mD) : Nat → Int
  | 0 => 0
  | n + 1 => if ¬ (n : Int) = x1 ∧ d (x0 + 10) (n : Int) = x2 ∧ d (x0 + 11) (n : Int) = d (x0 + 11) x1 then mmax (wCom x0 x1 x2 d n) (wComV x0 x1 d (n : Int)) else wCom x0 x1 x2 d n
theorem wComV_r {x0 x1 : Int} {d : mD} (hS : SW x0 d) (k : Int) : -2000000 ≤ wComV x0 x1 d k ∧ wComV x0 x1 d k ≤ 2000000 ∧ mInR (mmin (wEnd x0 k d) (wEnd x0 x1 d)) := by
  have a := wEnd_r (x1 := k) hS
  have b := wEnd_r (x1 := x1) hS
  have c := hS (x0 + 12) k (by omega) (by omega)
  have e := hS (x0 + 12) x1 (by omega) (by omega)
  unfold wComV mmin mmax mInR
  split <;> split <;> omega
theorem wCom_r {x0 x1 x2 : Int} {d : mD} (hS : SW x0 d) : ∀ n, -2000000 ≤ wCom x0 x1 x2 d n ∧ wCom x0 x1 x2 d n ≤ 2000000
  | 0 => (show -2000000 ≤ (0 : Int) ∧ (0 : Int) ≤ 2000000 from by decide)
  | n + 1 => by
    have ih := wCom_r (x1 := x1) (x2 := x2) hS n
    have v := wComV_r (x1 := x1) hS (n : Int)
    unfold wCom
    split
    · unfold mmax
      split <;> omega
    · exact ih
theorem wCom_s {x0 x1 x2 : Int} {d : mD} {i : Int} (h : 0 ≤ i) : wCom x0 x1 x2 d (i + 1).toNat = if ¬ i = x1 ∧ d (x0 + 10) i = x2 ∧ d (x0 + 11) i = d (x0 + 11) x1 then mmax (wCom x0 x1 x2 d i.toNat) (wComV x0 x1 d i) else wCom x0 x1 x2 d i.toNat := by
  have e : (i + 1).toNat = i.toNat + 1 := by omega
  rw [e]
  show (if ¬ ((i.toNat : Nat) : Int) = x1 ∧ _ ∧ _ then _ else _) = _
  rw [Int.toNat_of_nonneg h]
theorem k_357 {E : mO × tW} {K : tK} {d : mD} {x0 x1 x2 : Int} (hS : SW x0 d) (h1 : 0 ≤ x1 ∧ x1 < 61) (h2 : mInR x2) (hn : 0 ≤ d x0 4 ∧ d x0 4 ≤ 61) (h : K (.inl (some (0, wCom x0 x1 x2 d (d x0 4).toNat))) d) : tCall E 357 [.inr (41, x0), .inl (0, x1), .inl (0, x2)] d K := by
  refine t_357_0 ?_
  refine t_count (fun i => (5, [.inr (41, x0), .inl (0, x1), .inl (0, x2), .inl (0, wCom x0 x1 x2 d i.toNat), .inl (0, i)], [], 0, 0, d)) hn.1 (fun i i0 i1 k => ?_) ?_
  · refine t_357_5 ?_
    rw [wCom_s i0] at k
    refine ⟨⟨m_inR (by omega) (by omega), hS.m (by omega) (by omega)⟩, fun c => absurd i1 (by omega), fun _ => ⟨⟨m_inR (by omega) (by omega), m_inR (by omega) (by omega)⟩, fun c => ?_, fun c => ⟨⟨i0, by omega⟩, ⟨hS.m (by omega) (by omega), h2⟩, fun c2 => ?_, fun c2 => ⟨⟨i0, by omega⟩, h1, ⟨hS.m (by omega) (by omega), hS.m (by omega) (by omega)⟩, fun c3 => ?_, fun c3 => ?_⟩⟩⟩⟩
    · rw [if_neg (fun z => z.1 c)] at k
      exact k
    · rw [if_neg (fun z => c2 z.2.1)] at k
      exact k
    · rw [if_neg (fun z => c3 z.2.2)] at k
      exact k
    · rw [if_pos ⟨c, c2, c3⟩] at k
      refine k_346 hS ⟨i0, by omega⟩ ?_
      refine t_357_54 ?_
      refine k_346 hS h1 ?_
      refine t_357_59 ?_
      have a := wEnd_r (x1 := i) hS
      have b := wEnd_r (x1 := x1) hS
      have v := wComV_r (x1 := x1) hS i
      have w := wCom_r (x1 := x1) (x2 := x2) hS i.toNat
      refine ⟨⟨m_inR (by omega) (by omega), m_inR (by omega) (by omega)⟩, ⟨i0, by omega⟩, h1, ⟨hS.m (by omega) (by omega), hS.m (by omega) (by omega)⟩, ⟨m_inR (by omega) (by omega), ?_⟩, k⟩
      have v1 := v.1
      have v2 := v.2.1
      unfold wComV at v1 v2
      exact m_inR (by omega) (by omega)
  · refine t_357_5 ?_
    exact ⟨⟨m_inR (by omega) (by omega), hS.m (by omega) (by omega)⟩, fun _ => h, fun c => absurd c (by omega)⟩
