/-! ===== World.whyNot ===== -/
theorem isE_ex (p : Int → Prop) (n : Int) : ∃ r, isE p n r := by
  by_cases h : ∃ j, 0 ≤ j ∧ j < n ∧ p j
  · exact ⟨1, Or.inr ⟨rfl, h⟩⟩
  · exact ⟨0, Or.inl ⟨rfl, fun j a b c => h ⟨j, a, b, c⟩⟩⟩
def wBackP (x0 x1 x2 : Int) (d : mD) (k : Int) : Prop := d (x0 + 10) (d (x0 + 25) k) = x2 ∧ d (x0 + 26) k = d (x0 + 10) x1 ∧ d (x0 + 27) k = d x0 0 / 20
def wWhy (x0 x1 x2 : Int) (d : mD) (wit q : Int) : Int :=
  if d (x0 + 16) x1 = 0 ∨ ¬ d (x0 + 17) x1 = 0 then (if d (x0 + 17) x1 = 0 then 1 else 2)
  else if d (x0 + 10) x1 = x2 then 3 else if ¬ wit = 0 then 4
  else if wCom x0 x1 x2 d (d x0 4).toNat < d (x0 + 1) 2 then 5 else if 2 < csum (wOftF x0 x2 d) (d x0 7).toNat then 6
  else if ¬ q = 0 then 7 else 0
theorem wOft_r {x0 x1 : Int} {d : mD} {n : Nat} : 0 ≤ csum (wOftF x0 x1 d) n ∧ csum (wOftF x0 x1 d) n ≤ (n : Int) * 1 := csum_rng (fun i _ _ => by unfold wOftF; split <;> omega)
theorem k_360 {E : mO × tW} {K : tK} {d : mD} {x0 x1 x2 : Int} (hS : SW x0 d) (h1 : 0 ≤ x1 ∧ x1 < 61) (h2 : mInR x2) (ht : 0 ≤ d x0 0) (hn : 0 ≤ d x0 4 ∧ d x0 4 ≤ 61) (hd : 0 ≤ d x0 7 ∧ d x0 7 ≤ 200) (ho : ∀ k, 0 ≤ k → k < d x0 7 → 0 ≤ d (x0 + 25) k ∧ d (x0 + 25) k < 61)
    (h : ∀ wit q, isE (fun k => d (x0 + 25) k = x1 ∧ d (x0 + 26) k = x2) (d x0 7) wit → isE (wBackP x0 x1 x2 d) (d x0 7) q → K (.inl (some (0, wWhy x0 x1 x2 d wit q))) d) : tCall E 360 [.inr (41, x0), .inl (0, x1), .inl (0, x2)] d K := by
  obtain ⟨w0, hw0⟩ := isE_ex (fun k => d (x0 + 25) k = x1 ∧ d (x0 + 26) k = x2) (d x0 7)
  obtain ⟨q0, hq0⟩ := isE_ex (wBackP x0 x1 x2 d) (d x0 7)
  have hT := hS x0 0 (by omega) (by omega)
  have hM : ∀ c i : Int, 0 ≤ c → c ≤ 27 → mInR (d (x0 + c) i) := fun c i a b => hS.m (by omega) (by omega)
  have m17 := hM 17 x1 (by decide) (by decide)
  have m16 := hM 16 x1 (by decide) (by decide)
  have m10 := hM 10 x1 (by decide) (by decide)
  have m12 := hM 1 2 (by decide) (by decide)
  have cr := wCom_r (x1 := x1) (x2 := x2) hS (d x0 4).toNat
  have or := wOft_r (x0 := x0) (x1 := x2) (d := d) (n := (d x0 7).toNat)
  have mc : mInR (wCom x0 x1 x2 d (d x0 4).toNat) := m_inR (by omega) (by omega)
  refine t_360_0 ?_
  refine ⟨h1, m16, fun a => ⟨h1, m17, fun b => ?_, fun b => ?_⟩, fun a => ⟨h1, m17, fun b => ⟨h1, ⟨m10, h2⟩, fun c => ⟨h1, ⟨m10, h2⟩, fun c2 => absurd c c2, fun _ => ?_⟩, fun c => ?_⟩, fun b => ⟨h1, m17, fun b2 => absurd b2 b, fun _ => ?_⟩⟩⟩
  · have k := h w0 q0 hw0 hq0
    unfold wWhy at k
    rw [if_pos (Or.inl a), if_pos b] at k
    exact k
  · have k := h w0 q0 hw0 hq0
    unfold wWhy at k
    rw [if_pos (Or.inl a), if_neg b] at k
    exact k
  · have k := h w0 q0 hw0 hq0
    unfold wWhy at k
    rw [if_neg (show ¬ (d (x0 + 16) x1 = 0 ∨ ¬ d (x0 + 17) x1 = 0) from fun z => z.elim a (fun z => z b)), if_pos c] at k
    exact k
  · refine k_359 hS (m_inR (by omega) (by omega)) h2 hd (fun wit hw => ?_)
    have k0 := fun q hq => h wit q hw hq
    refine t_360_49 ?_
    refine ⟨by rcases hw with ⟨e, -⟩ | ⟨e, -⟩ <;> rw [e] <;> exact m_inR (by decide) (by decide), fun e => ?_, fun e => ⟨h1, ⟨m10, h2⟩, fun _ => ?_, fun c2 => absurd c2 c⟩⟩
    · refine k_357 hS h1 h2 hn ?_
      refine t_360_74 ?_
      refine ⟨by decide, ⟨mc, m12⟩, fun f => ?_, fun f => ?_⟩
      · refine k_357 hS h1 h2 hn ?_
        refine t_360_98 ?_
        have k := k0 q0 hq0
        unfold wWhy at k
        rw [if_neg (show ¬ (d (x0 + 16) x1 = 0 ∨ ¬ d (x0 + 17) x1 = 0) from fun z => z.elim a (fun z => z b)), if_neg (show ¬ d (x0 + 10) x1 = x2 from c), if_neg (show ¬ ¬ wit = 0 from fun z => z e), if_pos f] at k
        exact ⟨by decide, ⟨mc, m12⟩, fun f2 => absurd f (by omega), fun _ => k⟩
      · refine k_358 hS h2 ht hd ?_
        refine t_360_88 ?_
        refine ⟨⟨m_inR (by omega) (by omega), m_inR (by decide) (by decide)⟩, fun g => ?_, fun g => ?_⟩
        · refine t_find (fun i => (116, [.inr (41, x0), .inl (0, x1), .inl (0, x2), .inl (0, i)], [], 0, 0, d)) (wBackP x0 x1 x2 d) hd.1 (fun i i0 i1 hno k => ?_) (fun hno => ?_)
          · refine t_360_116 ?_
            have oi := ho i i0 i1
            refine ⟨⟨m_inR (by omega) (by omega), hS.m (by omega) (by omega)⟩, fun c => absurd i1 (by omega), fun _ => ⟨⟨i0, by omega⟩, oi, ⟨hM 10 _ (by decide) (by decide), h2⟩, fun u => k (fun z => u z.1), fun u => ⟨⟨i0, by omega⟩, h1, ⟨hM 26 _ (by decide) (by decide), m10⟩, fun v => k (fun z => v z.2.1), fun v => ⟨⟨i0, by omega⟩, by omega, ⟨hM 27 _ (by decide) (by decide), m_inR (by omega) (by omega)⟩, fun w => k (fun z => w z.2.2), fun w => ?_⟩⟩⟩⟩
            have k1 := k0 1 (Or.inr ⟨rfl, i, i0, i1, u, v, w⟩)
            unfold wWhy at k1
            rw [if_neg (show ¬ (d (x0 + 16) x1 = 0 ∨ ¬ d (x0 + 17) x1 = 0) from fun z => z.elim a (fun z => z b)), if_neg (show ¬ d (x0 + 10) x1 = x2 from c), if_neg (show ¬ ¬ wit = 0 from fun z => z e), if_neg (show ¬ wCom x0 x1 x2 d (d x0 4).toNat < d (x0 + 1) 2 by omega), if_neg (show ¬ 2 < csum (wOftF x0 x2 d) (d x0 7).toNat by omega), if_pos (show ¬ (1 : Int) = 0 by decide)] at k1
            exact k1
          · refine t_360_116 ?_
            have k1 := k0 0 (Or.inl ⟨rfl, hno⟩)
            unfold wWhy at k1
            rw [if_neg (show ¬ (d (x0 + 16) x1 = 0 ∨ ¬ d (x0 + 17) x1 = 0) from fun z => z.elim a (fun z => z b)), if_neg (show ¬ d (x0 + 10) x1 = x2 from c), if_neg (show ¬ ¬ wit = 0 from fun z => z e), if_neg (show ¬ wCom x0 x1 x2 d (d x0 4).toNat < d (x0 + 1) 2 by omega), if_neg (show ¬ 2 < csum (wOftF x0 x2 d) (d x0 7).toNat by omega), if_neg (show ¬ ¬ (0 : Int) = 0 from fun z => z rfl)] at k1
            exact ⟨⟨m_inR (by omega) (by omega), hS.m (by omega) (by omega)⟩, fun _ => k1, fun c => absurd c (by omega)⟩
        · have k := k0 q0 hq0
          unfold wWhy at k
          rw [if_neg (show ¬ (d (x0 + 16) x1 = 0 ∨ ¬ d (x0 + 17) x1 = 0) from fun z => z.elim a (fun z => z b)), if_neg (show ¬ d (x0 + 10) x1 = x2 from c), if_neg (show ¬ ¬ wit = 0 from fun z => z e), if_neg (show ¬ wCom x0 x1 x2 d (d x0 4).toNat < d (x0 + 1) 2 by omega), if_pos g] at k
          refine k_357 hS h1 h2 hn ?_
          refine t_360_98 ?_
          exact ⟨by decide, ⟨mc, m12⟩, fun _ => k, fun f2 => absurd f (by omega)⟩
    · have k := k0 q0 hq0
      unfold wWhy at k
      rw [if_neg (show ¬ (d (x0 + 16) x1 = 0 ∨ ¬ d (x0 + 17) x1 = 0) from fun z => z.elim a (fun z => z b)), if_neg (show ¬ d (x0 + 10) x1 = x2 from c), if_pos e] at k
      exact k
  · have k := h w0 q0 hw0 hq0
    unfold wWhy at k
    rw [if_pos (Or.inr b), if_neg b] at k
    exact k
