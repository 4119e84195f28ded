/-! ===== the law, case by case: printed by a program of mine ===== -/
theorem tifI {a b A B : Nat} {P : Prop} (h1 : a ≤ A) (h2 : b ≤ B) (h : P) : tif (Nat.ble a A && Nat.ble b B) P := by
  unfold tif
  rw [Nat.ble_eq.mpr h1, Nat.ble_eq.mpr h2]
  exact h
theorem mia63 (x : Int) : 0 ≤ miand x 63 ∧ miand x 63 ≤ 63 := by
  have e : miand x 63 = ((Int32.ofInt x).toBitVec &&& 63#32).toInt := rfl
  have h1 : ((Int32.ofInt x).toBitVec &&& 63#32).toNat ≤ 63 := by
    rw [BitVec.toNat_and]
    exact Nat.and_le_right
  have h2 : ((Int32.ofInt x).toBitVec &&& 63#32).toInt = (((Int32.ofInt x).toBitVec &&& 63#32).toNat : Int) := BitVec.toInt_eq_toNat_of_lt (by omega)
  rw [e, h2]
  exact ⟨by omega, by omega⟩
theorem CMPV {v : Int} {d2 : mD} (h : d2 769 0 = v) (hv : 0 ≤ v ∧ v ≤ 3) : v_175 769 d2 = v ∧ inI (v_175 769 d2) ∧ inI v := by
  have h1 : v_175 769 d2 = v := h
  unfold inI
  rw [h1]
  exact ⟨rfl, ⟨by omega, by omega⟩, by omega, by omega⟩
theorem lc_0 {E : mO × tW} {K : tK} {d : mD} {c s : Nat} {x4 : Int} {v5 v6 v7 v8 : tV} (hT : TKL E) (h : Inv2 E d) (hx : 0 ≤ x4 ∧ x4 + 6 ≤ E.1.1 2) (hI : ∀ i, inI (E.1.2 2 i)) (hb : c + 4 ≤ 601024 ∧ s + 24 ≤ 7293034) (fin : ∀ (v5 v6 v7 v8 : tV) (c2 s2 : Nat) (d2 : mD), c2 ≤ c + 4 → s2 ≤ s + 24 → Inv2 E d2 → tRun E 0 (1708, [.inl (4, 2), .inr (10, 0), .inr (11, 769), .inr (30, 778), .inl (0, x4), v5, v6, v7, v8], [], c2, s2, d2) K) : (0 ≤ x4 + 1 ∧ x4 + 1 < E.1.1 2) ∧ (0 ≤ x4 + 2 ∧ x4 + 2 < E.1.1 2) ∧ (0 ≤ x4 + 3 ∧ x4 + 3 < E.1.1 2) ∧ (0 ≤ x4 + 4 ∧ x4 + 4 < E.1.1 2) ∧ (0 ≤ x4 + 5 ∧ x4 + 5 < E.1.1 2) ∧ tif (Nat.ble (c + 1) 601024 && Nat.ble (s + 6) 7293034) (tCall E 301 [.inr (10, 0), .inl (0, E.1.2 2 (x4 + 1)), .inl (0, E.1.2 2 (x4 + 2)), .inl (0, E.1.2 2 (x4 + 3)), .inl (0, E.1.2 2 (x4 + 4)), .inl (0, E.1.2 2 (x4 + 5)), .inr (30, 778)] d (tbk E 0 276 [.inl (4, 2), .inr (10, 0), .inr (11, 769), .inr (30, 778), .inl (0, x4), v5, v6, v7, v8] [] (c + 1) (s + 6) K)) := by
  have hg := h.1.2.2.1.1
  have iv := iv_0 (a0 := E.1.2 2 (x4 + 1)) (a1 := E.1.2 2 (x4 + 2)) (a2 := E.1.2 2 (x4 + 3)) (a3 := E.1.2 2 (x4 + 4)) (a4 := E.1.2 2 (x4 + 5)) hT h (hI _) (hI _) (hI _) (hI _) (hI _)
  have e70 := iv.2.1
  refine ⟨by omega, by omega, by omega, by omega, by omega, tifI (by omega) (by omega) ?_⟩
  refine k_301 h.1.1 rfl rfl (hI _) (hI _) (hI _) (hI _) (hI _) (fun _ _ _ => ?_)
  refine t_0_279 ?_
  refine ⟨by omega, by omega, by omega, by omega, by omega, tifI (by omega) (by omega) ?_⟩
  refine k_186 iv.1 rfl (hI _) (hI _) (hI _) (hI _) (hI _) (fun _ _ _ => ?_)
  refine t_0_315 ?_
  exact fin _ _ _ _ _ _ _ (by omega) (by omega) iv.2.2.1
theorem lc_1 {E : mO × tW} {K : tK} {d : mD} {c s : Nat} {x4 : Int} {v5 v6 v7 v8 : tV} (hT : TKL E) (h : Inv2 E d) (hx : 0 ≤ x4 ∧ x4 + 6 ≤ E.1.1 2) (hI : ∀ i, inI (E.1.2 2 i)) (hb : c + 4 ≤ 601024 ∧ s + 24 ≤ 7293034) (fin : ∀ (v5 v6 v7 v8 : tV) (c2 s2 : Nat) (d2 : mD), c2 ≤ c + 4 → s2 ≤ s + 24 → Inv2 E d2 → tRun E 0 (1708, [.inl (4, 2), .inr (10, 0), .inr (11, 769), .inr (30, 778), .inl (0, x4), v5, v6, v7, v8], [], c2, s2, d2) K) : (0 ≤ x4 + 1 ∧ x4 + 1 < E.1.1 2) ∧ tif (Nat.ble (c + 1) 601024 && Nat.ble (s + 6) 7293034) (tCall E 302 [.inr (10, 0), .inl (0, E.1.2 2 (x4 + 1)), .inr (30, 778)] d (tbk E 0 328 [.inl (4, 2), .inr (10, 0), .inr (11, 769), .inr (30, 778), .inl (0, x4), v5, v6, v7, v8] [] (c + 1) (s + 6) K)) := by
  have hg := h.1.2.2.1.1
  have iv := iv_1 (a0 := E.1.2 2 (x4 + 1)) hT h (hI _)
  have e70 := iv.2.1
  refine ⟨by omega, tifI (by omega) (by omega) ?_⟩
  refine k_302 h.1.1 rfl rfl (hI _) (fun _ _ _ => ?_)
  refine t_0_331 ?_
  refine ⟨by omega, tifI (by omega) (by omega) ?_⟩
  refine k_187 iv.1 rfl (hI _) (fun _ _ _ => ?_)
  refine t_0_343 ?_
  exact fin _ _ _ _ _ _ _ (by omega) (by omega) iv.2.2.1
theorem lc_2 {E : mO × tW} {K : tK} {d : mD} {c s : Nat} {x4 : Int} {v5 v6 v7 v8 : tV} (hT : TKL E) (h : Inv2 E d) (hx : 0 ≤ x4 ∧ x4 + 6 ≤ E.1.1 2) (hI : ∀ i, inI (E.1.2 2 i)) (hb : c + 4 ≤ 601024 ∧ s + 24 ≤ 7293034) (fin : ∀ (v5 v6 v7 v8 : tV) (c2 s2 : Nat) (d2 : mD), c2 ≤ c + 4 → s2 ≤ s + 24 → Inv2 E d2 → tRun E 0 (1708, [.inl (4, 2), .inr (10, 0), .inr (11, 769), .inr (30, 778), .inl (0, x4), v5, v6, v7, v8], [], c2, s2, d2) K) : tif (Nat.ble (c + 1) 601024 && Nat.ble (s + 6) 7293034) (tCall E 303 [.inr (10, 0), .inr (30, 778)] d (tbk E 0 350 [.inl (4, 2), .inr (10, 0), .inr (11, 769), .inr (30, 778), .inl (0, x4), v5, v6, v7, v8] [] (c + 1) (s + 6) K)) := by
  have hg := h.1.2.2.1.1
  have iv := iv_2 hT h
  have e70 := iv.2.1
  refine tifI (by omega) (by omega) ?_
  refine k_303 hT.1 hT.2.1 h.1.1 rfl rfl (fun _ _ _ => ?_)
  refine t_0_353 ?_
  refine tifI (by omega) (by omega) ?_
  refine k_207 iv.1 rfl (fun _ _ => ?_)
  refine t_0_359 ?_
  exact fin _ _ _ _ _ _ _ (by omega) (by omega) iv.2.2.1
theorem lc_3 {E : mO × tW} {K : tK} {d : mD} {c s : Nat} {x4 : Int} {v5 v6 v7 v8 : tV} (hT : TKL E) (h : Inv2 E d) (hx : 0 ≤ x4 ∧ x4 + 6 ≤ E.1.1 2) (hI : ∀ i, inI (E.1.2 2 i)) (hb : c + 4 ≤ 601024 ∧ s + 24 ≤ 7293034) (fin : ∀ (v5 v6 v7 v8 : tV) (c2 s2 : Nat) (d2 : mD), c2 ≤ c + 4 → s2 ≤ s + 24 → Inv2 E d2 → tRun E 0 (1708, [.inl (4, 2), .inr (10, 0), .inr (11, 769), .inr (30, 778), .inl (0, x4), v5, v6, v7, v8], [], c2, s2, d2) K) : tif (Nat.ble (c + 0) 601024 && Nat.ble (s + 0) 7293034) (tCall E 121 [.inr (10, 0)] d (tbk E 0 365 [.inl (4, 2), .inr (10, 0), .inr (11, 769), .inr (30, 778), .inl (0, x4), v5, v6, v7, v8] [] (c + 0) (s + 0) K)) := by
  have hg := h.1.2.2.1.1
  have iv := iv_3 hT h
  have e70 := iv.2.1
  refine tifI (by omega) (by omega) ?_
  refine k_121 h.1.1 rfl (fun _ => ?_)
  refine t_0_368 ?_
  refine tifI (by omega) (by omega) ?_
  refine k_208 iv.1 rfl (fun _ _ => ?_)
  refine t_0_373 ?_
  exact fin _ _ _ _ _ _ _ (by omega) (by omega) iv.2.2.1
theorem lc_4 {E : mO × tW} {K : tK} {d : mD} {c s : Nat} {x4 : Int} {v5 v6 v7 v8 : tV} (hT : TKL E) (h : Inv2 E d) (hx : 0 ≤ x4 ∧ x4 + 6 ≤ E.1.1 2) (hI : ∀ i, inI (E.1.2 2 i)) (hb : c + 4 ≤ 601024 ∧ s + 24 ≤ 7293034) (fin : ∀ (v5 v6 v7 v8 : tV) (c2 s2 : Nat) (d2 : mD), c2 ≤ c + 4 → s2 ≤ s + 24 → Inv2 E d2 → tRun E 0 (1708, [.inl (4, 2), .inr (10, 0), .inr (11, 769), .inr (30, 778), .inl (0, x4), v5, v6, v7, v8], [], c2, s2, d2) K) : tif (Nat.ble (c + 0) 601024 && Nat.ble (s + 0) 7293034) (tCall E 122 [.inr (10, 0)] d (tbk E 0 378 [.inl (4, 2), .inr (10, 0), .inr (11, 769), .inr (30, 778), .inl (0, x4), v5, v6, v7, v8] [] (c + 0) (s + 0) K)) := by
  have hg := h.1.2.2.1.1
  have iv := iv_4 hT h
  have e70 := iv.2.1
  refine tifI (by omega) (by omega) ?_
  refine k_122 h.1.1 rfl (fun _ => ?_)
  refine t_0_381 ?_
  refine tifI (by omega) (by omega) ?_
  refine k_209 iv.1 rfl (fun _ _ => ?_)
  refine t_0_386 ?_
  exact fin _ _ _ _ _ _ _ (by omega) (by omega) iv.2.2.1
theorem lc_5 {E : mO × tW} {K : tK} {d : mD} {c s : Nat} {x4 : Int} {v5 v6 v7 v8 : tV} (hT : TKL E) (h : Inv2 E d) (hx : 0 ≤ x4 ∧ x4 + 6 ≤ E.1.1 2) (hI : ∀ i, inI (E.1.2 2 i)) (hb : c + 4 ≤ 601024 ∧ s + 24 ≤ 7293034) (fin : ∀ (v5 v6 v7 v8 : tV) (c2 s2 : Nat) (d2 : mD), c2 ≤ c + 4 → s2 ≤ s + 24 → Inv2 E d2 → tRun E 0 (1708, [.inl (4, 2), .inr (10, 0), .inr (11, 769), .inr (30, 778), .inl (0, x4), v5, v6, v7, v8], [], c2, s2, d2) K) : (0 ≤ x4 + 1 ∧ x4 + 1 < E.1.1 2) ∧ mInR (E.1.2 2 (x4 + 1)) ∧ (E.1.2 2 (x4 + 1) = 0 → tRun E 0 (405, [.inl (4, 2), .inr (10, 0), .inr (11, 769), .inr (30, 778), .inl (0, x4), v5, v6, v7, v8], [.inl (0, 0), .inr (10, 0)], c, s, d) K) ∧ (¬ E.1.2 2 (x4 + 1) = 0 → tRun E 0 (405, [.inl (4, 2), .inr (10, 0), .inr (11, 769), .inr (30, 778), .inl (0, x4), v5, v6, v7, v8], [.inl (0, 1), .inr (10, 0)], c, s, d) K) := by
  have hg := h.1.2.2.1.1
  refine ⟨by omega, m_inR (hI _).1 (hI _).2, fun z => ?_, fun z => ?_⟩
  · have iv := iv_5 (a0 := 0) hT h (by decide)
    have e70 := iv.2.1
    refine t_0_405 ?_
    refine tifI (by omega) (by omega) ?_
    refine k_304 h.1.1 rfl rfl ⟨by decide, by decide⟩ (fun _ _ _ => ?_)
    refine t_0_409 ?_
    refine ⟨by omega, m_inR (hI _).1 (hI _).2, fun y => ?_, fun y => ?_⟩
    · refine t_0_426 ?_
      refine tifI (by omega) (by omega) ?_
      refine k_211 iv.1 rfl ⟨by decide, by decide⟩ (fun _ _ => ?_)
      refine t_0_429 ?_
      exact fin _ _ _ _ _ _ _ (by omega) (by omega) iv.2.2.1
    · exact absurd z y
  · have iv := iv_5 (a0 := 1) hT h (by decide)
    have e70 := iv.2.1
    refine t_0_405 ?_
    refine tifI (by omega) (by omega) ?_
    refine k_304 h.1.1 rfl rfl ⟨by decide, by decide⟩ (fun _ _ _ => ?_)
    refine t_0_409 ?_
    refine ⟨by omega, m_inR (hI _).1 (hI _).2, fun y => ?_, fun y => ?_⟩
    · exact absurd y z
    · refine t_0_426 ?_
      refine tifI (by omega) (by omega) ?_
      refine k_211 iv.1 rfl ⟨by decide, by decide⟩ (fun _ _ => ?_)
      refine t_0_429 ?_
      exact fin _ _ _ _ _ _ _ (by omega) (by omega) iv.2.2.1
theorem lc_6 {E : mO × tW} {K : tK} {d : mD} {c s : Nat} {x4 : Int} {v5 v6 v7 v8 : tV} (hT : TKL E) (h : Inv2 E d) (hx : 0 ≤ x4 ∧ x4 + 6 ≤ E.1.1 2) (hI : ∀ i, inI (E.1.2 2 i)) (hb : c + 4 ≤ 601024 ∧ s + 24 ≤ 7293034) (fin : ∀ (v5 v6 v7 v8 : tV) (c2 s2 : Nat) (d2 : mD), c2 ≤ c + 4 → s2 ≤ s + 24 → Inv2 E d2 → tRun E 0 (1708, [.inl (4, 2), .inr (10, 0), .inr (11, 769), .inr (30, 778), .inl (0, x4), v5, v6, v7, v8], [], c2, s2, d2) K) : (0 ≤ x4 + 1 ∧ x4 + 1 < E.1.1 2) ∧ tif (Nat.ble (c + 1) 601024 && Nat.ble (s + 6) 7293034) (tCall E 305 [.inr (10, 0), .inl (0, E.1.2 2 (x4 + 1)), .inr (30, 778)] d (tbk E 0 442 [.inl (4, 2), .inr (10, 0), .inr (11, 769), .inr (30, 778), .inl (0, x4), v5, v6, v7, v8] [] (c + 1) (s + 6) K)) := by
  have hg := h.1.2.2.1.1
  have iv := iv_6 (a0 := E.1.2 2 (x4 + 1)) hT h (hI _)
  have e70 := iv.2.1
  refine ⟨by omega, tifI (by omega) (by omega) ?_⟩
  refine k_305 h.1.1 rfl rfl (hI _) (fun _ _ _ => ?_)
  refine t_0_445 ?_
  refine ⟨by omega, tifI (by omega) (by omega) ?_⟩
  refine k_239 iv.1 rfl (hI _) (fun _ _ => ?_)
  refine t_0_457 ?_
  exact fin _ _ _ _ _ _ _ (by omega) (by omega) iv.2.2.1
theorem lc_7 {E : mO × tW} {K : tK} {d : mD} {c s : Nat} {x4 : Int} {v5 v6 v7 v8 : tV} (hT : TKL E) (h : Inv2 E d) (hx : 0 ≤ x4 ∧ x4 + 6 ≤ E.1.1 2) (hI : ∀ i, inI (E.1.2 2 i)) (hb : c + 4 ≤ 601024 ∧ s + 24 ≤ 7293034) (fin : ∀ (v5 v6 v7 v8 : tV) (c2 s2 : Nat) (d2 : mD), c2 ≤ c + 4 → s2 ≤ s + 24 → Inv2 E d2 → tRun E 0 (1708, [.inl (4, 2), .inr (10, 0), .inr (11, 769), .inr (30, 778), .inl (0, x4), v5, v6, v7, v8], [], c2, s2, d2) K) : (0 ≤ x4 + 1 ∧ x4 + 1 < E.1.1 2) ∧ tif (Nat.ble (c + 1) 601024 && Nat.ble (s + 6) 7293034) (tCall E 306 [.inr (10, 0), .inl (0, E.1.2 2 (x4 + 1)), .inr (30, 778)] d (tbk E 0 470 [.inl (4, 2), .inr (10, 0), .inr (11, 769), .inr (30, 778), .inl (0, x4), v5, v6, v7, v8] [] (c + 1) (s + 6) K)) := by
  have hg := h.1.2.2.1.1
  have iv := iv_7 (a0 := E.1.2 2 (x4 + 1)) hT h (hI _)
  have e70 := iv.2.1
  refine ⟨by omega, tifI (by omega) (by omega) ?_⟩
  refine k_306 h.1.1 rfl rfl (hI _) (fun _ _ _ => ?_)
  refine t_0_473 ?_
  refine ⟨by omega, tifI (by omega) (by omega) ?_⟩
  refine k_240 iv.1 rfl (hI _) (fun _ _ => ?_)
  refine t_0_485 ?_
  exact fin _ _ _ _ _ _ _ (by omega) (by omega) iv.2.2.1
theorem lc_8 {E : mO × tW} {K : tK} {d : mD} {c s : Nat} {x4 : Int} {v5 v6 v7 v8 : tV} (hT : TKL E) (h : Inv2 E d) (hx : 0 ≤ x4 ∧ x4 + 6 ≤ E.1.1 2) (hI : ∀ i, inI (E.1.2 2 i)) (hb : c + 4 ≤ 601024 ∧ s + 24 ≤ 7293034) (fin : ∀ (v5 v6 v7 v8 : tV) (c2 s2 : Nat) (d2 : mD), c2 ≤ c + 4 → s2 ≤ s + 24 → Inv2 E d2 → tRun E 0 (1708, [.inl (4, 2), .inr (10, 0), .inr (11, 769), .inr (30, 778), .inl (0, x4), v5, v6, v7, v8], [], c2, s2, d2) K) : (0 ≤ x4 + 1 ∧ x4 + 1 < E.1.1 2) ∧ (0 ≤ x4 + 2 ∧ x4 + 2 < E.1.1 2) ∧ tif (Nat.ble (c + 2) 601024 && Nat.ble (s + 12) 7293034) (tCall E 307 [.inr (10, 0), .inl (0, E.1.2 2 (x4 + 1)), .inl (0, E.1.2 2 (x4 + 2)), .inr (30, 778)] d (tbk E 0 504 [.inl (4, 2), .inr (10, 0), .inr (11, 769), .inr (30, 778), .inl (0, x4), v5, v6, v7, v8] [] (c + 2) (s + 12) K)) := by
  have hg := h.1.2.2.1.1
  have iv := iv_8 (a0 := E.1.2 2 (x4 + 1)) (a1 := E.1.2 2 (x4 + 2)) hT h (hI _) (hI _)
  have e70 := iv.2.1
  refine ⟨by omega, by omega, tifI (by omega) (by omega) ?_⟩
  refine k_307 h.1.1 rfl rfl (hI _) (hI _) (fun _ _ _ => ?_)
  refine t_0_507 ?_
  refine ⟨by omega, by omega, tifI (by omega) (by omega) ?_⟩
  refine k_241 iv.1 rfl (hI _) (hI _) (fun _ _ => ?_)
  refine t_0_525 ?_
  exact fin _ _ _ _ _ _ _ (by omega) (by omega) iv.2.2.1
theorem lc_9 {E : mO × tW} {K : tK} {d : mD} {c s : Nat} {x4 : Int} {v5 v6 v7 v8 : tV} (hT : TKL E) (h : Inv2 E d) (hx : 0 ≤ x4 ∧ x4 + 6 ≤ E.1.1 2) (hI : ∀ i, inI (E.1.2 2 i)) (hb : c + 4 ≤ 601024 ∧ s + 24 ≤ 7293034) (fin : ∀ (v5 v6 v7 v8 : tV) (c2 s2 : Nat) (d2 : mD), c2 ≤ c + 4 → s2 ≤ s + 24 → Inv2 E d2 → tRun E 0 (1708, [.inl (4, 2), .inr (10, 0), .inr (11, 769), .inr (30, 778), .inl (0, x4), v5, v6, v7, v8], [], c2, s2, d2) K) : (0 ≤ x4 + 1 ∧ x4 + 1 < E.1.1 2) ∧ (0 ≤ x4 + 2 ∧ x4 + 2 < E.1.1 2) ∧ tif (Nat.ble (c + 2) 601024 && Nat.ble (s + 12) 7293034) (tCall E 308 [.inr (10, 0), .inl (0, E.1.2 2 (x4 + 1)), .inl (0, E.1.2 2 (x4 + 2)), .inr (30, 778)] d (tbk E 0 544 [.inl (4, 2), .inr (10, 0), .inr (11, 769), .inr (30, 778), .inl (0, x4), v5, v6, v7, v8] [] (c + 2) (s + 12) K)) := by
  have hg := h.1.2.2.1.1
  have iv := iv_9 (a0 := E.1.2 2 (x4 + 1)) (a1 := E.1.2 2 (x4 + 2)) hT h (hI _) (hI _)
  have e70 := iv.2.1
  refine ⟨by omega, by omega, tifI (by omega) (by omega) ?_⟩
  refine k_308 h.1.1 rfl rfl (hI _) (hI _) (fun _ _ _ => ?_)
  refine t_0_547 ?_
  refine ⟨by omega, by omega, tifI (by omega) (by omega) ?_⟩
  refine k_242 iv.1 rfl (hI _) (hI _) (fun _ _ => ?_)
  refine t_0_565 ?_
  exact fin _ _ _ _ _ _ _ (by omega) (by omega) iv.2.2.1
theorem lc_10 {E : mO × tW} {K : tK} {d : mD} {c s : Nat} {x4 : Int} {v5 v6 v7 v8 : tV} (hT : TKL E) (h : Inv2 E d) (hx : 0 ≤ x4 ∧ x4 + 6 ≤ E.1.1 2) (hI : ∀ i, inI (E.1.2 2 i)) (hb : c + 4 ≤ 601024 ∧ s + 24 ≤ 7293034) (fin : ∀ (v5 v6 v7 v8 : tV) (c2 s2 : Nat) (d2 : mD), c2 ≤ c + 4 → s2 ≤ s + 24 → Inv2 E d2 → tRun E 0 (1708, [.inl (4, 2), .inr (10, 0), .inr (11, 769), .inr (30, 778), .inl (0, x4), v5, v6, v7, v8], [], c2, s2, d2) K) : (0 ≤ x4 + 1 ∧ x4 + 1 < E.1.1 2) ∧ (0 ≤ x4 + 2 ∧ x4 + 2 < E.1.1 2) ∧ tif (Nat.ble (c + 2) 601024 && Nat.ble (s + 12) 7293034) (tCall E 309 [.inr (10, 0), .inl (0, E.1.2 2 (x4 + 1)), .inl (0, E.1.2 2 (x4 + 2)), .inr (30, 778)] d (tbk E 0 584 [.inl (4, 2), .inr (10, 0), .inr (11, 769), .inr (30, 778), .inl (0, x4), v5, v6, v7, v8] [] (c + 2) (s + 12) K)) := by
  have hg := h.1.2.2.1.1
  have iv := iv_10 (a0 := E.1.2 2 (x4 + 1)) (a1 := E.1.2 2 (x4 + 2)) hT h (hI _) (hI _)
  have e70 := iv.2.1
  refine ⟨by omega, by omega, tifI (by omega) (by omega) ?_⟩
  refine k_309 h.1.1 rfl rfl (hI _) (hI _) (puI h.1.2.2.1) (fun _ _ _ => ?_)
  refine t_0_587 ?_
  refine ⟨by omega, by omega, tifI (by omega) (by omega) ?_⟩
  refine k_246 iv.1 rfl (hI _) (hI _) (fun _ _ => ?_)
  refine t_0_605 ?_
  exact fin _ _ _ _ _ _ _ (by omega) (by omega) iv.2.2.1
theorem lc_11 {E : mO × tW} {K : tK} {d : mD} {c s : Nat} {x4 : Int} {v5 v6 v7 v8 : tV} (hT : TKL E) (h : Inv2 E d) (hx : 0 ≤ x4 ∧ x4 + 6 ≤ E.1.1 2) (hI : ∀ i, inI (E.1.2 2 i)) (hb : c + 4 ≤ 601024 ∧ s + 24 ≤ 7293034) (fin : ∀ (v5 v6 v7 v8 : tV) (c2 s2 : Nat) (d2 : mD), c2 ≤ c + 4 → s2 ≤ s + 24 → Inv2 E d2 → tRun E 0 (1708, [.inl (4, 2), .inr (10, 0), .inr (11, 769), .inr (30, 778), .inl (0, x4), v5, v6, v7, v8], [], c2, s2, d2) K) : (0 ≤ x4 + 1 ∧ x4 + 1 < E.1.1 2) ∧ (0 ≤ x4 + 2 ∧ x4 + 2 < E.1.1 2) ∧ tif (Nat.ble (c + 2) 601024 && Nat.ble (s + 12) 7293034) (tCall E 310 [.inr (10, 0), .inl (0, E.1.2 2 (x4 + 1)), .inl (0, E.1.2 2 (x4 + 2)), .inr (30, 778)] d (tbk E 0 624 [.inl (4, 2), .inr (10, 0), .inr (11, 769), .inr (30, 778), .inl (0, x4), v5, v6, v7, v8] [] (c + 2) (s + 12) K)) := by
  have hg := h.1.2.2.1.1
  have iv := iv_11 (a0 := E.1.2 2 (x4 + 1)) (a1 := E.1.2 2 (x4 + 2)) hT h (hI _) (hI _)
  have e70 := iv.2.1
  refine ⟨by omega, by omega, tifI (by omega) (by omega) ?_⟩
  refine k_310 h.1.1 rfl rfl (hI _) (hI _) (fun _ _ _ => ?_)
  refine t_0_627 ?_
  refine ⟨by omega, by omega, tifI (by omega) (by omega) ?_⟩
  refine k_247 iv.1 rfl (hI _) (hI _) (fun _ _ => ?_)
  refine t_0_645 ?_
  exact fin _ _ _ _ _ _ _ (by omega) (by omega) iv.2.2.1
theorem lc_12 {E : mO × tW} {K : tK} {d : mD} {c s : Nat} {x4 : Int} {v5 v6 v7 v8 : tV} (hT : TKL E) (h : Inv2 E d) (hx : 0 ≤ x4 ∧ x4 + 6 ≤ E.1.1 2) (hI : ∀ i, inI (E.1.2 2 i)) (hb : c + 4 ≤ 601024 ∧ s + 24 ≤ 7293034) (fin : ∀ (v5 v6 v7 v8 : tV) (c2 s2 : Nat) (d2 : mD), c2 ≤ c + 4 → s2 ≤ s + 24 → Inv2 E d2 → tRun E 0 (1708, [.inl (4, 2), .inr (10, 0), .inr (11, 769), .inr (30, 778), .inl (0, x4), v5, v6, v7, v8], [], c2, s2, d2) K) : (0 ≤ x4 + 1 ∧ x4 + 1 < E.1.1 2) ∧ (0 ≤ x4 + 2 ∧ x4 + 2 < E.1.1 2) ∧ tif (Nat.ble (c + 1) 601024 && Nat.ble (s + 6) 7293034) (tCall E 311 [.inr (10, 0), .inl (0, E.1.2 2 (x4 + 1)), .inl (0, E.1.2 2 (x4 + 2)), .inr (30, 778)] d (tbk E 0 664 [.inl (4, 2), .inr (10, 0), .inr (11, 769), .inr (30, 778), .inl (0, x4), v5, v6, v7, v8] [] (c + 1) (s + 6) K)) := by
  have hg := h.1.2.2.1.1
  have iv := iv_12 (a0 := E.1.2 2 (x4 + 1)) (a1 := E.1.2 2 (x4 + 2)) hT h (hI _) (hI _)
  have e70 := iv.2.1
  refine ⟨by omega, by omega, tifI (by omega) (by omega) ?_⟩
  refine k_311 h.1.1 rfl rfl (hI _) (hI _) (fun _ _ _ => ?_)
  refine t_0_667 ?_
  refine ⟨by omega, by omega, tifI (by omega) (by omega) ?_⟩
  refine k_248 iv.1 rfl (hI _) (hI _) (fun _ _ => ?_)
  refine t_0_685 ?_
  exact fin _ _ _ _ _ _ _ (by omega) (by omega) iv.2.2.1
theorem lc_13 {E : mO × tW} {K : tK} {d : mD} {c s : Nat} {x4 : Int} {v5 v6 v7 v8 : tV} (hT : TKL E) (h : Inv2 E d) (hx : 0 ≤ x4 ∧ x4 + 6 ≤ E.1.1 2) (hI : ∀ i, inI (E.1.2 2 i)) (hb : c + 4 ≤ 601024 ∧ s + 24 ≤ 7293034) (fin : ∀ (v5 v6 v7 v8 : tV) (c2 s2 : Nat) (d2 : mD), c2 ≤ c + 4 → s2 ≤ s + 24 → Inv2 E d2 → tRun E 0 (1708, [.inl (4, 2), .inr (10, 0), .inr (11, 769), .inr (30, 778), .inl (0, x4), v5, v6, v7, v8], [], c2, s2, d2) K) : (0 ≤ x4 + 1 ∧ x4 + 1 < E.1.1 2) ∧ (0 ≤ x4 + 2 ∧ x4 + 2 < E.1.1 2) ∧ tif (Nat.ble (c + 2) 601024 && Nat.ble (s + 12) 7293034) (tCall E 312 [.inr (10, 0), .inl (0, E.1.2 2 (x4 + 1)), .inl (0, E.1.2 2 (x4 + 2)), .inr (30, 778)] d (tbk E 0 704 [.inl (4, 2), .inr (10, 0), .inr (11, 769), .inr (30, 778), .inl (0, x4), v5, v6, v7, v8] [] (c + 2) (s + 12) K)) := by
  have hg := h.1.2.2.1.1
  have iv := iv_13 (a0 := E.1.2 2 (x4 + 1)) (a1 := E.1.2 2 (x4 + 2)) hT h (hI _) (hI _)
  have e70 := iv.2.1
  refine ⟨by omega, by omega, tifI (by omega) (by omega) ?_⟩
  refine k_312 h.1.1 rfl rfl (hI _) (hI _) (fun _ _ _ => ?_)
  refine t_0_707 ?_
  refine ⟨by omega, by omega, tifI (by omega) (by omega) ?_⟩
  refine k_249 iv.1 rfl (hI _) (hI _) (fun _ _ _ => ?_)
  refine t_0_725 ?_
  exact fin _ _ _ _ _ _ _ (by omega) (by omega) iv.2.2.1
theorem lc_14 {E : mO × tW} {K : tK} {d : mD} {c s : Nat} {x4 : Int} {v5 v6 v7 v8 : tV} (hT : TKL E) (h : Inv2 E d) (hx : 0 ≤ x4 ∧ x4 + 6 ≤ E.1.1 2) (hI : ∀ i, inI (E.1.2 2 i)) (hb : c + 4 ≤ 601024 ∧ s + 24 ≤ 7293034) (fin : ∀ (v5 v6 v7 v8 : tV) (c2 s2 : Nat) (d2 : mD), c2 ≤ c + 4 → s2 ≤ s + 24 → Inv2 E d2 → tRun E 0 (1708, [.inl (4, 2), .inr (10, 0), .inr (11, 769), .inr (30, 778), .inl (0, x4), v5, v6, v7, v8], [], c2, s2, d2) K) : (0 ≤ x4 + 1 ∧ x4 + 1 < E.1.1 2) ∧ (0 ≤ x4 + 2 ∧ x4 + 2 < E.1.1 2) ∧ tif (Nat.ble (c + 2) 601024 && Nat.ble (s + 12) 7293034) (tCall E 313 [.inr (10, 0), .inl (0, E.1.2 2 (x4 + 1)), .inl (0, E.1.2 2 (x4 + 2)), .inr (30, 778)] d (tbk E 0 744 [.inl (4, 2), .inr (10, 0), .inr (11, 769), .inr (30, 778), .inl (0, x4), v5, v6, v7, v8] [] (c + 2) (s + 12) K)) := by
  have hg := h.1.2.2.1.1
  have iv := iv_14 (a0 := E.1.2 2 (x4 + 1)) (a1 := E.1.2 2 (x4 + 2)) hT h (hI _) (hI _)
  have e70 := iv.2.1
  refine ⟨by omega, by omega, tifI (by omega) (by omega) ?_⟩
  refine k_313 h.1.1 rfl rfl (hI _) (hI _) (fun _ _ _ => ?_)
  refine t_0_747 ?_
  refine ⟨by omega, by omega, tifI (by omega) (by omega) ?_⟩
  refine k_251 iv.1 rfl (hI _) (hI _) (fun _ _ => ?_)
  refine t_0_765 ?_
  exact fin _ _ _ _ _ _ _ (by omega) (by omega) iv.2.2.1
theorem lc_15 {E : mO × tW} {K : tK} {d : mD} {c s : Nat} {x4 : Int} {v5 v6 v7 v8 : tV} (hT : TKL E) (h : Inv2 E d) (hx : 0 ≤ x4 ∧ x4 + 6 ≤ E.1.1 2) (hI : ∀ i, inI (E.1.2 2 i)) (hb : c + 4 ≤ 601024 ∧ s + 24 ≤ 7293034) (fin : ∀ (v5 v6 v7 v8 : tV) (c2 s2 : Nat) (d2 : mD), c2 ≤ c + 4 → s2 ≤ s + 24 → Inv2 E d2 → tRun E 0 (1708, [.inl (4, 2), .inr (10, 0), .inr (11, 769), .inr (30, 778), .inl (0, x4), v5, v6, v7, v8], [], c2, s2, d2) K) : (0 ≤ x4 + 1 ∧ x4 + 1 < E.1.1 2) ∧ (0 ≤ x4 + 2 ∧ x4 + 2 < E.1.1 2) ∧ tif (Nat.ble (c + 2) 601024 && Nat.ble (s + 12) 7293034) (tCall E 314 [.inr (10, 0), .inl (0, E.1.2 2 (x4 + 1)), .inl (0, E.1.2 2 (x4 + 2)), .inr (30, 778)] d (tbk E 0 784 [.inl (4, 2), .inr (10, 0), .inr (11, 769), .inr (30, 778), .inl (0, x4), v5, v6, v7, v8] [] (c + 2) (s + 12) K)) := by
  have hg := h.1.2.2.1.1
  have iv := iv_15 (a0 := E.1.2 2 (x4 + 1)) (a1 := E.1.2 2 (x4 + 2)) hT h (hI _) (hI _)
  have e70 := iv.2.1
  refine ⟨by omega, by omega, tifI (by omega) (by omega) ?_⟩
  refine k_314 h.1.1 rfl rfl (hI _) (hI _) (fun _ _ _ => ?_)
  refine t_0_787 ?_
  refine ⟨by omega, by omega, tifI (by omega) (by omega) ?_⟩
  refine k_252 iv.1 rfl (hI _) (hI _) (fun _ _ => ?_)
  refine t_0_805 ?_
  exact fin _ _ _ _ _ _ _ (by omega) (by omega) iv.2.2.1
theorem lc_16 {E : mO × tW} {K : tK} {d : mD} {c s : Nat} {x4 : Int} {v5 v6 v7 v8 : tV} (hT : TKL E) (h : Inv2 E d) (hx : 0 ≤ x4 ∧ x4 + 6 ≤ E.1.1 2) (hI : ∀ i, inI (E.1.2 2 i)) (hb : c + 4 ≤ 601024 ∧ s + 24 ≤ 7293034) (fin : ∀ (v5 v6 v7 v8 : tV) (c2 s2 : Nat) (d2 : mD), c2 ≤ c + 4 → s2 ≤ s + 24 → Inv2 E d2 → tRun E 0 (1708, [.inl (4, 2), .inr (10, 0), .inr (11, 769), .inr (30, 778), .inl (0, x4), v5, v6, v7, v8], [], c2, s2, d2) K) : (0 ≤ x4 + 1 ∧ x4 + 1 < E.1.1 2) ∧ (0 ≤ x4 + 2 ∧ x4 + 2 < E.1.1 2) ∧ tif (Nat.ble (c + 2) 601024 && Nat.ble (s + 12) 7293034) (tCall E 315 [.inr (10, 0), .inl (0, E.1.2 2 (x4 + 1)), .inl (0, E.1.2 2 (x4 + 2)), .inr (30, 778)] d (tbk E 0 824 [.inl (4, 2), .inr (10, 0), .inr (11, 769), .inr (30, 778), .inl (0, x4), v5, v6, v7, v8] [] (c + 2) (s + 12) K)) := by
  have hg := h.1.2.2.1.1
  have iv := iv_16 (a0 := E.1.2 2 (x4 + 1)) (a1 := E.1.2 2 (x4 + 2)) hT h (hI _) (hI _)
  have e70 := iv.2.1
  refine ⟨by omega, by omega, tifI (by omega) (by omega) ?_⟩
  refine k_315 h.1.1 rfl rfl (hI _) (hI _) (fun _ _ _ => ?_)
  refine t_0_827 ?_
  refine ⟨by omega, by omega, tifI (by omega) (by omega) ?_⟩
  refine k_253 iv.1 rfl (hI _) (hI _) (fun _ _ => ?_)
  refine t_0_845 ?_
  exact fin _ _ _ _ _ _ _ (by omega) (by omega) iv.2.2.1
theorem lc_17 {E : mO × tW} {K : tK} {d : mD} {c s : Nat} {x4 : Int} {v5 v6 v7 v8 : tV} (hT : TKL E) (h : Inv2 E d) (hx : 0 ≤ x4 ∧ x4 + 6 ≤ E.1.1 2) (hI : ∀ i, inI (E.1.2 2 i)) (hb : c + 4 ≤ 601024 ∧ s + 24 ≤ 7293034) (fin : ∀ (v5 v6 v7 v8 : tV) (c2 s2 : Nat) (d2 : mD), c2 ≤ c + 4 → s2 ≤ s + 24 → Inv2 E d2 → tRun E 0 (1708, [.inl (4, 2), .inr (10, 0), .inr (11, 769), .inr (30, 778), .inl (0, x4), v5, v6, v7, v8], [], c2, s2, d2) K) : (0 ≤ x4 + 1 ∧ x4 + 1 < E.1.1 2) ∧ (0 ≤ x4 + 2 ∧ x4 + 2 < E.1.1 2) ∧ tif (Nat.ble (c + 2) 601024 && Nat.ble (s + 12) 7293034) (tCall E 316 [.inr (10, 0), .inl (0, E.1.2 2 (x4 + 1)), .inl (0, E.1.2 2 (x4 + 2)), .inr (30, 778)] d (tbk E 0 864 [.inl (4, 2), .inr (10, 0), .inr (11, 769), .inr (30, 778), .inl (0, x4), v5, v6, v7, v8] [] (c + 2) (s + 12) K)) := by
  have hg := h.1.2.2.1.1
  have iv := iv_17 (a0 := E.1.2 2 (x4 + 1)) (a1 := E.1.2 2 (x4 + 2)) hT h (hI _) (hI _)
  have e70 := iv.2.1
  refine ⟨by omega, by omega, tifI (by omega) (by omega) ?_⟩
  refine k_316 h.1.1 rfl rfl (hI _) (hI _) (fun _ _ _ => ?_)
  refine t_0_867 ?_
  refine ⟨by omega, by omega, tifI (by omega) (by omega) ?_⟩
  refine k_254 iv.1 rfl (hI _) (hI _) (fun _ _ _ => ?_)
  refine t_0_885 ?_
  exact fin _ _ _ _ _ _ _ (by omega) (by omega) iv.2.2.1
theorem lc_18 {E : mO × tW} {K : tK} {d : mD} {c s : Nat} {x4 : Int} {v5 v6 v7 v8 : tV} (hT : TKL E) (h : Inv2 E d) (hx : 0 ≤ x4 ∧ x4 + 6 ≤ E.1.1 2) (hI : ∀ i, inI (E.1.2 2 i)) (hb : c + 4 ≤ 601024 ∧ s + 24 ≤ 7293034) (fin : ∀ (v5 v6 v7 v8 : tV) (c2 s2 : Nat) (d2 : mD), c2 ≤ c + 4 → s2 ≤ s + 24 → Inv2 E d2 → tRun E 0 (1708, [.inl (4, 2), .inr (10, 0), .inr (11, 769), .inr (30, 778), .inl (0, x4), v5, v6, v7, v8], [], c2, s2, d2) K) : (0 ≤ x4 + 1 ∧ x4 + 1 < E.1.1 2) ∧ tif (Nat.ble (c + 1) 601024 && Nat.ble (s + 6) 7293034) (tCall E 317 [.inr (10, 0), .inl (0, E.1.2 2 (x4 + 1)), .inr (30, 778)] d (tbk E 0 898 [.inl (4, 2), .inr (10, 0), .inr (11, 769), .inr (30, 778), .inl (0, x4), v5, v6, v7, v8] [] (c + 1) (s + 6) K)) := by
  have hg := h.1.2.2.1.1
  have iv := iv_18 (a0 := E.1.2 2 (x4 + 1)) hT h (hI _)
  have e70 := iv.2.1
  refine ⟨by omega, tifI (by omega) (by omega) ?_⟩
  refine k_317 h.1.1 rfl rfl (hI _) (fun _ _ _ => ?_)
  refine t_0_901 ?_
  refine ⟨by omega, tifI (by omega) (by omega) ?_⟩
  refine k_257 iv.1 rfl (hI _) (fun _ _ => ?_)
  refine t_0_913 ?_
  exact fin _ _ _ _ _ _ _ (by omega) (by omega) iv.2.2.1
theorem lc_19 {E : mO × tW} {K : tK} {d : mD} {c s : Nat} {x4 : Int} {v5 v6 v7 v8 : tV} (hT : TKL E) (h : Inv2 E d) (hx : 0 ≤ x4 ∧ x4 + 6 ≤ E.1.1 2) (hI : ∀ i, inI (E.1.2 2 i)) (hb : c + 4 ≤ 601024 ∧ s + 24 ≤ 7293034) (fin : ∀ (v5 v6 v7 v8 : tV) (c2 s2 : Nat) (d2 : mD), c2 ≤ c + 4 → s2 ≤ s + 24 → Inv2 E d2 → tRun E 0 (1708, [.inl (4, 2), .inr (10, 0), .inr (11, 769), .inr (30, 778), .inl (0, x4), v5, v6, v7, v8], [], c2, s2, d2) K) : tif (Nat.ble (c + 0) 601024 && Nat.ble (s + 0) 7293034) (tCall E 137 [.inr (10, 0)] d (tbk E 0 919 [.inl (4, 2), .inr (10, 0), .inr (11, 769), .inr (30, 778), .inl (0, x4), v5, v6, v7, v8] [] (c + 0) (s + 0) K)) := by
  have hg := h.1.2.2.1.1
  have iv := iv_19 hT h
  have e70 := iv.2.1
  refine tifI (by omega) (by omega) ?_
  refine k_137 h.1.1 rfl (fun _ => ?_)
  refine t_0_922 ?_
  refine tifI (by omega) (by omega) ?_
  refine k_258 iv.1 rfl (fun _ _ => ?_)
  refine t_0_927 ?_
  exact fin _ _ _ _ _ _ _ (by omega) (by omega) iv.2.2.1
theorem lc_20 {E : mO × tW} {K : tK} {d : mD} {c s : Nat} {x4 : Int} {v5 v6 v7 v8 : tV} (hT : TKL E) (h : Inv2 E d) (hx : 0 ≤ x4 ∧ x4 + 6 ≤ E.1.1 2) (hI : ∀ i, inI (E.1.2 2 i)) (hb : c + 4 ≤ 601024 ∧ s + 24 ≤ 7293034) (fin : ∀ (v5 v6 v7 v8 : tV) (c2 s2 : Nat) (d2 : mD), c2 ≤ c + 4 → s2 ≤ s + 24 → Inv2 E d2 → tRun E 0 (1708, [.inl (4, 2), .inr (10, 0), .inr (11, 769), .inr (30, 778), .inl (0, x4), v5, v6, v7, v8], [], c2, s2, d2) K) : tif (Nat.ble (c + 0) 601024 && Nat.ble (s + 0) 7293034) (tCall E 138 [.inr (10, 0)] d (tbk E 0 932 [.inl (4, 2), .inr (10, 0), .inr (11, 769), .inr (30, 778), .inl (0, x4), v5, v6, v7, v8] [] (c + 0) (s + 0) K)) := by
  have hg := h.1.2.2.1.1
  have iv := iv_20 hT h
  have e70 := iv.2.1
  refine tifI (by omega) (by omega) ?_
  refine k_138 h.1.1 rfl ?_
  refine t_0_935 ?_
  refine tifI (by omega) (by omega) ?_
  refine k_259 iv.1 rfl (fun _ _ => ?_)
  refine t_0_941 ?_
  exact fin _ _ _ _ _ _ _ (by omega) (by omega) iv.2.2.1
theorem lc_21 {E : mO × tW} {K : tK} {d : mD} {c s : Nat} {x4 : Int} {v5 v6 v7 v8 : tV} (hT : TKL E) (h : Inv2 E d) (hx : 0 ≤ x4 ∧ x4 + 6 ≤ E.1.1 2) (hI : ∀ i, inI (E.1.2 2 i)) (hb : c + 4 ≤ 601024 ∧ s + 24 ≤ 7293034) (fin : ∀ (v5 v6 v7 v8 : tV) (c2 s2 : Nat) (d2 : mD), c2 ≤ c + 4 → s2 ≤ s + 24 → Inv2 E d2 → tRun E 0 (1708, [.inl (4, 2), .inr (10, 0), .inr (11, 769), .inr (30, 778), .inl (0, x4), v5, v6, v7, v8], [], c2, s2, d2) K) : tif (Nat.ble (c + 0) 601024 && Nat.ble (s + 0) 7293034) (tCall E 139 [.inr (10, 0)] d (tbk E 0 947 [.inl (4, 2), .inr (10, 0), .inr (11, 769), .inr (30, 778), .inl (0, x4), v5, v6, v7, v8] [] (c + 0) (s + 0) K)) := by
  have hg := h.1.2.2.1.1
  have iv := iv_21 hT h
  have e70 := iv.2.1
  refine tifI (by omega) (by omega) ?_
  refine k_139 h.1.1 rfl (fun _ _ => ?_)
  refine t_0_950 ?_
  refine tifI (by omega) (by omega) ?_
  refine k_260 iv.1 rfl (fun _ _ => ?_)
  refine t_0_956 ?_
  exact fin _ _ _ _ _ _ _ (by omega) (by omega) iv.2.2.1
theorem lc_22 {E : mO × tW} {K : tK} {d : mD} {c s : Nat} {x4 : Int} {v5 v6 v7 v8 : tV} (hT : TKL E) (h : Inv2 E d) (hx : 0 ≤ x4 ∧ x4 + 6 ≤ E.1.1 2) (hI : ∀ i, inI (E.1.2 2 i)) (hb : c + 4 ≤ 601024 ∧ s + 24 ≤ 7293034) (fin : ∀ (v5 v6 v7 v8 : tV) (c2 s2 : Nat) (d2 : mD), c2 ≤ c + 4 → s2 ≤ s + 24 → Inv2 E d2 → tRun E 0 (1708, [.inl (4, 2), .inr (10, 0), .inr (11, 769), .inr (30, 778), .inl (0, x4), v5, v6, v7, v8], [], c2, s2, d2) K) : tif (Nat.ble (c + 0) 601024 && Nat.ble (s + 0) 7293034) (tCall E 140 [.inr (10, 0)] d (tbk E 0 962 [.inl (4, 2), .inr (10, 0), .inr (11, 769), .inr (30, 778), .inl (0, x4), v5, v6, v7, v8] [] (c + 0) (s + 0) K)) := by
  have hg := h.1.2.2.1.1
  have iv := iv_22 hT h
  have e70 := iv.2.1
  refine tifI (by omega) (by omega) ?_
  refine k_140 h.1.1 rfl (fun _ _ _ => ?_)
  refine t_0_965 ?_
  refine tifI (by omega) (by omega) ?_
  refine k_261 iv.1 rfl (fun _ _ => ?_)
  refine t_0_970 ?_
  exact fin _ _ _ _ _ _ _ (by omega) (by omega) iv.2.2.1
theorem lc_23 {E : mO × tW} {K : tK} {d : mD} {c s : Nat} {x4 : Int} {v5 v6 v7 v8 : tV} (hT : TKL E) (h : Inv2 E d) (hx : 0 ≤ x4 ∧ x4 + 6 ≤ E.1.1 2) (hI : ∀ i, inI (E.1.2 2 i)) (hb : c + 4 ≤ 601024 ∧ s + 24 ≤ 7293034) (fin : ∀ (v5 v6 v7 v8 : tV) (c2 s2 : Nat) (d2 : mD), c2 ≤ c + 4 → s2 ≤ s + 24 → Inv2 E d2 → tRun E 0 (1708, [.inl (4, 2), .inr (10, 0), .inr (11, 769), .inr (30, 778), .inl (0, x4), v5, v6, v7, v8], [], c2, s2, d2) K) : tif (Nat.ble (c + 0) 601024 && Nat.ble (s + 0) 7293034) (tCall E 141 [.inr (10, 0)] d (tbk E 0 975 [.inl (4, 2), .inr (10, 0), .inr (11, 769), .inr (30, 778), .inl (0, x4), v5, v6, v7, v8] [] (c + 0) (s + 0) K)) := by
  have hg := h.1.2.2.1.1
  have iv := iv_23 hT h
  have e70 := iv.2.1
  refine tifI (by omega) (by omega) ?_
  refine k_141 h.1.1 rfl (fun _ => ?_)
  refine t_0_978 ?_
  refine tifI (by omega) (by omega) ?_
  refine k_262 iv.1 rfl (fun _ _ => ?_)
  refine t_0_983 ?_
  exact fin _ _ _ _ _ _ _ (by omega) (by omega) iv.2.2.1
theorem lc_24 {E : mO × tW} {K : tK} {d : mD} {c s : Nat} {x4 : Int} {v5 v6 v7 v8 : tV} (hT : TKL E) (h : Inv2 E d) (hx : 0 ≤ x4 ∧ x4 + 6 ≤ E.1.1 2) (hI : ∀ i, inI (E.1.2 2 i)) (hb : c + 4 ≤ 601024 ∧ s + 24 ≤ 7293034) (fin : ∀ (v5 v6 v7 v8 : tV) (c2 s2 : Nat) (d2 : mD), c2 ≤ c + 4 → s2 ≤ s + 24 → Inv2 E d2 → tRun E 0 (1708, [.inl (4, 2), .inr (10, 0), .inr (11, 769), .inr (30, 778), .inl (0, x4), v5, v6, v7, v8], [], c2, s2, d2) K) : (0 ≤ x4 + 1 ∧ x4 + 1 < E.1.1 2) ∧ tif (Nat.ble (c + 2) 601024 && Nat.ble (s + 12) 7293034) (tCall E 318 [.inr (10, 0), .inl (0, E.1.2 2 (x4 + 1)), .inr (30, 778)] d (tbk E 0 995 [.inl (4, 2), .inr (10, 0), .inr (11, 769), .inr (30, 778), .inl (0, x4), v5, v6, v7, v8] [] (c + 2) (s + 12) K)) := by
  have hg := h.1.2.2.1.1
  have iv := iv_24 (a0 := E.1.2 2 (x4 + 1)) hT h (hI _)
  have e70 := iv.2.1
  refine ⟨by omega, tifI (by omega) (by omega) ?_⟩
  refine k_318 h.1.1 rfl rfl (hI _) (fun _ _ _ => ?_)
  refine t_0_998 ?_
  refine ⟨by omega, tifI (by omega) (by omega) ?_⟩
  refine k_264 iv.1 rfl (hI _) (by rw [n7691, e70]; exact mpI hg) (by rw [n7691, e70]; exact h.1.2.2.1.2.2.2.1) (fun _ _ => ?_)
  refine t_0_1010 ?_
  exact fin _ _ _ _ _ _ _ (by omega) (by omega) iv.2.2.1
theorem lc_25 {E : mO × tW} {K : tK} {d : mD} {c s : Nat} {x4 : Int} {v5 v6 v7 v8 : tV} (hT : TKL E) (h : Inv2 E d) (hx : 0 ≤ x4 ∧ x4 + 6 ≤ E.1.1 2) (hI : ∀ i, inI (E.1.2 2 i)) (hb : c + 4 ≤ 601024 ∧ s + 24 ≤ 7293034) (fin : ∀ (v5 v6 v7 v8 : tV) (c2 s2 : Nat) (d2 : mD), c2 ≤ c + 4 → s2 ≤ s + 24 → Inv2 E d2 → tRun E 0 (1708, [.inl (4, 2), .inr (10, 0), .inr (11, 769), .inr (30, 778), .inl (0, x4), v5, v6, v7, v8], [], c2, s2, d2) K) : (0 ≤ x4 + 1 ∧ x4 + 1 < E.1.1 2) ∧ (0 ≤ x4 + 2 ∧ x4 + 2 < E.1.1 2) ∧ tif (Nat.ble (c + 2) 601024 && Nat.ble (s + 12) 7293034) (tCall E 319 [.inr (10, 0), .inl (0, E.1.2 2 (x4 + 1)), .inl (0, E.1.2 2 (x4 + 2)), .inr (30, 778)] d (tbk E 0 1029 [.inl (4, 2), .inr (10, 0), .inr (11, 769), .inr (30, 778), .inl (0, x4), v5, v6, v7, v8] [] (c + 2) (s + 12) K)) := by
  have hg := h.1.2.2.1.1
  have iv := iv_25 (a0 := E.1.2 2 (x4 + 1)) (a1 := E.1.2 2 (x4 + 2)) hT h (hI _) (hI _)
  have e70 := iv.2.1
  refine ⟨by omega, by omega, tifI (by omega) (by omega) ?_⟩
  refine k_319 h.1.1 rfl rfl (hI _) (hI _) (fun _ _ _ => ?_)
  refine t_0_1032 ?_
  refine ⟨by omega, by omega, tifI (by omega) (by omega) ?_⟩
  refine k_265 iv.1 rfl (hI _) (hI _) (by rw [n7691, e70]; exact mpI hg) (by rw [n7691, e70]; exact h.1.2.2.1.2.2.2.1) (fun _ _ => ?_)
  refine t_0_1050 ?_
  exact fin _ _ _ _ _ _ _ (by omega) (by omega) iv.2.2.1
theorem lc_26 {E : mO × tW} {K : tK} {d : mD} {c s : Nat} {x4 : Int} {v5 v6 v7 v8 : tV} (hT : TKL E) (h : Inv2 E d) (hx : 0 ≤ x4 ∧ x4 + 6 ≤ E.1.1 2) (hI : ∀ i, inI (E.1.2 2 i)) (hb : c + 4 ≤ 601024 ∧ s + 24 ≤ 7293034) (fin : ∀ (v5 v6 v7 v8 : tV) (c2 s2 : Nat) (d2 : mD), c2 ≤ c + 4 → s2 ≤ s + 24 → Inv2 E d2 → tRun E 0 (1708, [.inl (4, 2), .inr (10, 0), .inr (11, 769), .inr (30, 778), .inl (0, x4), v5, v6, v7, v8], [], c2, s2, d2) K) : (0 ≤ x4 + 1 ∧ x4 + 1 < E.1.1 2) ∧ tif (Nat.ble (c + 1) 601024 && Nat.ble (s + 6) 7293034) (tCall E 320 [.inr (10, 0), .inl (0, E.1.2 2 (x4 + 1)), .inr (30, 778)] d (tbk E 0 1063 [.inl (4, 2), .inr (10, 0), .inr (11, 769), .inr (30, 778), .inl (0, x4), v5, v6, v7, v8] [] (c + 1) (s + 6) K)) := by
  have hg := h.1.2.2.1.1
  have iv := iv_26 (a0 := E.1.2 2 (x4 + 1)) hT h (hI _)
  have e70 := iv.2.1
  refine ⟨by omega, tifI (by omega) (by omega) ?_⟩
  refine k_320 h.1.1 rfl rfl (hI _) (fun _ _ _ => ?_)
  refine t_0_1066 ?_
  refine ⟨by omega, tifI (by omega) (by omega) ?_⟩
  refine k_266 iv.1 rfl (hI _) (by rw [n7691, e70]; exact mpI hg) (by rw [n7691, e70]; exact h.1.2.2.1.2.2.2.1) (fun _ _ => ?_)
  refine t_0_1078 ?_
  exact fin _ _ _ _ _ _ _ (by omega) (by omega) iv.2.2.1
theorem lc_27 {E : mO × tW} {K : tK} {d : mD} {c s : Nat} {x4 : Int} {v5 v6 v7 v8 : tV} (hT : TKL E) (h : Inv2 E d) (hx : 0 ≤ x4 ∧ x4 + 6 ≤ E.1.1 2) (hI : ∀ i, inI (E.1.2 2 i)) (hb : c + 4 ≤ 601024 ∧ s + 24 ≤ 7293034) (fin : ∀ (v5 v6 v7 v8 : tV) (c2 s2 : Nat) (d2 : mD), c2 ≤ c + 4 → s2 ≤ s + 24 → Inv2 E d2 → tRun E 0 (1708, [.inl (4, 2), .inr (10, 0), .inr (11, 769), .inr (30, 778), .inl (0, x4), v5, v6, v7, v8], [], c2, s2, d2) K) : (0 ≤ x4 + 1 ∧ x4 + 1 < E.1.1 2) ∧ tif (Nat.ble (c + 2) 601024 && Nat.ble (s + 12) 7293034) (tCall E 321 [.inr (10, 0), .inl (0, E.1.2 2 (x4 + 1)), .inr (30, 778)] d (tbk E 0 1091 [.inl (4, 2), .inr (10, 0), .inr (11, 769), .inr (30, 778), .inl (0, x4), v5, v6, v7, v8] [] (c + 2) (s + 12) K)) := by
  have hg := h.1.2.2.1.1
  have iv := iv_27 (a0 := E.1.2 2 (x4 + 1)) hT h (hI _)
  have e70 := iv.2.1
  refine ⟨by omega, tifI (by omega) (by omega) ?_⟩
  refine k_321 h.1.1 rfl rfl (hI _) (fun _ _ _ => ?_)
  refine t_0_1094 ?_
  refine ⟨by omega, tifI (by omega) (by omega) ?_⟩
  refine kq_268 iv.1 rfl (hI _) (by rw [n7691, e70]; exact mpI hg) (by rw [n7691, e70]; exact h.1.2.2.1.2.2.2.1) (by rw [n7691, e70]; exact qoI hg) (by rw [n7691, e70]; exact hg.1.2.2.1.2) (fun _ _ => ?_)
  refine t_0_1106 ?_
  exact fin _ _ _ _ _ _ _ (by omega) (by omega) iv.2.2.1
theorem lc_28 {E : mO × tW} {K : tK} {d : mD} {c s : Nat} {x4 : Int} {v5 v6 v7 v8 : tV} (hT : TKL E) (h : Inv2 E d) (hx : 0 ≤ x4 ∧ x4 + 6 ≤ E.1.1 2) (hI : ∀ i, inI (E.1.2 2 i)) (hb : c + 4 ≤ 601024 ∧ s + 24 ≤ 7293034) (fin : ∀ (v5 v6 v7 v8 : tV) (c2 s2 : Nat) (d2 : mD), c2 ≤ c + 4 → s2 ≤ s + 24 → Inv2 E d2 → tRun E 0 (1708, [.inl (4, 2), .inr (10, 0), .inr (11, 769), .inr (30, 778), .inl (0, x4), v5, v6, v7, v8], [], c2, s2, d2) K) : tif (Nat.ble (c + 1) 601024 && Nat.ble (s + 6) 7293034) (tCall E 322 [.inr (10, 0), .inr (30, 778)] d (tbk E 0 1113 [.inl (4, 2), .inr (10, 0), .inr (11, 769), .inr (30, 778), .inl (0, x4), v5, v6, v7, v8] [] (c + 1) (s + 6) K)) := by
  have hg := h.1.2.2.1.1
  have iv := iv_28 hT h
  have e70 := iv.2.1
  refine tifI (by omega) (by omega) ?_
  refine k_322 h.1.1 rfl rfl (fun _ _ _ => ?_)
  refine t_0_1116 ?_
  refine tifI (by omega) (by omega) ?_
  refine kq_269 iv.1 rfl (by rw [n7691, e70]; exact mpI hg) (by rw [n7691, e70]; exact h.1.2.2.1.2.2.2.1) (by rw [n7691, e70]; exact qoI hg) (by rw [n7691, e70]; exact hg.1.2.2.1.2) (fun _ _ => ?_)
  refine t_0_1122 ?_
  exact fin _ _ _ _ _ _ _ (by omega) (by omega) iv.2.2.1
theorem lc_29 {E : mO × tW} {K : tK} {d : mD} {c s : Nat} {x4 : Int} {v5 v6 v7 v8 : tV} (hT : TKL E) (h : Inv2 E d) (hx : 0 ≤ x4 ∧ x4 + 6 ≤ E.1.1 2) (hI : ∀ i, inI (E.1.2 2 i)) (hb : c + 4 ≤ 601024 ∧ s + 24 ≤ 7293034) (fin : ∀ (v5 v6 v7 v8 : tV) (c2 s2 : Nat) (d2 : mD), c2 ≤ c + 4 → s2 ≤ s + 24 → Inv2 E d2 → tRun E 0 (1708, [.inl (4, 2), .inr (10, 0), .inr (11, 769), .inr (30, 778), .inl (0, x4), v5, v6, v7, v8], [], c2, s2, d2) K) : (0 ≤ x4 + 1 ∧ x4 + 1 < E.1.1 2) ∧ (0 ≤ x4 + 2 ∧ x4 + 2 < E.1.1 2) ∧ tif (Nat.ble (c + 4) 601024 && Nat.ble (s + 24) 7293034) (tCall E 323 [.inr (10, 0), .inl (0, E.1.2 2 (x4 + 1)), .inl (0, E.1.2 2 (x4 + 2)), .inr (30, 778)] d (tbk E 0 1141 [.inl (4, 2), .inr (10, 0), .inr (11, 769), .inr (30, 778), .inl (0, x4), v5, v6, v7, v8] [] (c + 4) (s + 24) K)) := by
  have hg := h.1.2.2.1.1
  have iv := iv_29 (a0 := E.1.2 2 (x4 + 1)) (a1 := E.1.2 2 (x4 + 2)) hT h (hI _) (hI _)
  have e70 := iv.2.1
  refine ⟨by omega, by omega, tifI (by omega) (by omega) ?_⟩
  refine k_323 h.1.1 rfl rfl (hI _) (hI _) (fun _ _ _ => ?_)
  refine t_0_1144 ?_
  refine ⟨by omega, by omega, tifI (by omega) (by omega) ?_⟩
  refine kq_272 iv.1 rfl (hI _) (hI _) (by rw [n7691, e70]; exact mpI hg) (by rw [n7691, e70]; exact h.1.2.2.1.2.2.2.1) (by rw [n7691, e70]; exact qoI hg) (fun _ _ => ?_)
  refine t_0_1162 ?_
  exact fin _ _ _ _ _ _ _ (by omega) (by omega) iv.2.2.1
theorem lc_30 {E : mO × tW} {K : tK} {d : mD} {c s : Nat} {x4 : Int} {v5 v6 v7 v8 : tV} (hT : TKL E) (h : Inv2 E d) (hx : 0 ≤ x4 ∧ x4 + 6 ≤ E.1.1 2) (hI : ∀ i, inI (E.1.2 2 i)) (hb : c + 4 ≤ 601024 ∧ s + 24 ≤ 7293034) (fin : ∀ (v5 v6 v7 v8 : tV) (c2 s2 : Nat) (d2 : mD), c2 ≤ c + 4 → s2 ≤ s + 24 → Inv2 E d2 → tRun E 0 (1708, [.inl (4, 2), .inr (10, 0), .inr (11, 769), .inr (30, 778), .inl (0, x4), v5, v6, v7, v8], [], c2, s2, d2) K) : (0 ≤ x4 + 1 ∧ x4 + 1 < E.1.1 2) ∧ tif (Nat.ble (c + 1) 601024 && Nat.ble (s + 6) 7293034) (tCall E 324 [.inr (10, 0), .inl (0, E.1.2 2 (x4 + 1)), .inr (30, 778)] d (tbk E 0 1175 [.inl (4, 2), .inr (10, 0), .inr (11, 769), .inr (30, 778), .inl (0, x4), v5, v6, v7, v8] [] (c + 1) (s + 6) K)) := by
  have hg := h.1.2.2.1.1
  have iv := iv_30 (a0 := E.1.2 2 (x4 + 1)) hT h (hI _)
  have e70 := iv.2.1
  refine ⟨by omega, tifI (by omega) (by omega) ?_⟩
  refine k_324 h.1.1 rfl rfl (hI _) (fun _ _ _ => ?_)
  refine t_0_1178 ?_
  refine ⟨by omega, tifI (by omega) (by omega) ?_⟩
  refine k_276 iv.1 rfl (hI _) (fun _ _ => ?_)
  refine t_0_1190 ?_
  exact fin _ _ _ _ _ _ _ (by omega) (by omega) iv.2.2.1
theorem lc_31 {E : mO × tW} {K : tK} {d : mD} {c s : Nat} {x4 : Int} {v5 v6 v7 v8 : tV} (hT : TKL E) (h : Inv2 E d) (hx : 0 ≤ x4 ∧ x4 + 6 ≤ E.1.1 2) (hI : ∀ i, inI (E.1.2 2 i)) (hb : c + 4 ≤ 601024 ∧ s + 24 ≤ 7293034) (fin : ∀ (v5 v6 v7 v8 : tV) (c2 s2 : Nat) (d2 : mD), c2 ≤ c + 4 → s2 ≤ s + 24 → Inv2 E d2 → tRun E 0 (1708, [.inl (4, 2), .inr (10, 0), .inr (11, 769), .inr (30, 778), .inl (0, x4), v5, v6, v7, v8], [], c2, s2, d2) K) : (0 ≤ x4 + 1 ∧ x4 + 1 < E.1.1 2) ∧ tif (Nat.ble (c + 1) 601024 && Nat.ble (s + 6) 7293034) (tCall E 325 [.inr (10, 0), .inl (0, E.1.2 2 (x4 + 1)), .inr (30, 778)] d (tbk E 0 1203 [.inl (4, 2), .inr (10, 0), .inr (11, 769), .inr (30, 778), .inl (0, x4), v5, v6, v7, v8] [] (c + 1) (s + 6) K)) := by
  have hg := h.1.2.2.1.1
  have iv := iv_31 (a0 := E.1.2 2 (x4 + 1)) hT h (hI _)
  have e70 := iv.2.1
  refine ⟨by omega, tifI (by omega) (by omega) ?_⟩
  refine k_325 h.1.1 rfl rfl (hI _) (fun _ _ _ => ?_)
  refine t_0_1206 ?_
  refine ⟨by omega, tifI (by omega) (by omega) ?_⟩
  refine k_277 iv.1 rfl (hI _) (fun _ _ => ?_)
  refine t_0_1218 ?_
  exact fin _ _ _ _ _ _ _ (by omega) (by omega) iv.2.2.1
theorem lc_32 {E : mO × tW} {K : tK} {d : mD} {c s : Nat} {x4 : Int} {v5 v6 v7 v8 : tV} (hT : TKL E) (h : Inv2 E d) (hx : 0 ≤ x4 ∧ x4 + 6 ≤ E.1.1 2) (hI : ∀ i, inI (E.1.2 2 i)) (hb : c + 4 ≤ 601024 ∧ s + 24 ≤ 7293034) (fin : ∀ (v5 v6 v7 v8 : tV) (c2 s2 : Nat) (d2 : mD), c2 ≤ c + 4 → s2 ≤ s + 24 → Inv2 E d2 → tRun E 0 (1708, [.inl (4, 2), .inr (10, 0), .inr (11, 769), .inr (30, 778), .inl (0, x4), v5, v6, v7, v8], [], c2, s2, d2) K) : (0 ≤ x4 + 1 ∧ x4 + 1 < E.1.1 2) ∧ (0 ≤ x4 + 2 ∧ x4 + 2 < E.1.1 2) ∧ tif (Nat.ble (c + 3) 601024 && Nat.ble (s + 18) 7293034) (tCall E 326 [.inr (10, 0), .inl (0, E.1.2 2 (x4 + 1)), .inl (0, E.1.2 2 (x4 + 2)), .inr (30, 778)] d (tbk E 0 1237 [.inl (4, 2), .inr (10, 0), .inr (11, 769), .inr (30, 778), .inl (0, x4), v5, v6, v7, v8] [] (c + 3) (s + 18) K)) := by
  have hg := h.1.2.2.1.1
  have iv := iv_32 (a0 := E.1.2 2 (x4 + 1)) (a1 := E.1.2 2 (x4 + 2)) hT h (hI _) (hI _)
  have e70 := iv.2.1
  refine ⟨by omega, by omega, tifI (by omega) (by omega) ?_⟩
  refine k_326 h.1.1 rfl rfl (hI _) (hI _) (fun _ _ _ => ?_)
  refine t_0_1240 ?_
  refine ⟨by omega, by omega, tifI (by omega) (by omega) ?_⟩
  refine k_279 iv.1 rfl (hI _) (hI _) (fun _ _ => ?_)
  refine t_0_1258 ?_
  exact fin _ _ _ _ _ _ _ (by omega) (by omega) iv.2.2.1
theorem lc_33 {E : mO × tW} {K : tK} {d : mD} {c s : Nat} {x4 : Int} {v5 v6 v7 v8 : tV} (hT : TKL E) (h : Inv2 E d) (hx : 0 ≤ x4 ∧ x4 + 6 ≤ E.1.1 2) (hI : ∀ i, inI (E.1.2 2 i)) (hb : c + 4 ≤ 601024 ∧ s + 24 ≤ 7293034) (fin : ∀ (v5 v6 v7 v8 : tV) (c2 s2 : Nat) (d2 : mD), c2 ≤ c + 4 → s2 ≤ s + 24 → Inv2 E d2 → tRun E 0 (1708, [.inl (4, 2), .inr (10, 0), .inr (11, 769), .inr (30, 778), .inl (0, x4), v5, v6, v7, v8], [], c2, s2, d2) K) : (0 ≤ x4 + 1 ∧ x4 + 1 < E.1.1 2) ∧ tif (Nat.ble (c + 2) 601024 && Nat.ble (s + 12) 7293034) (tCall E 327 [.inr (10, 0), .inl (0, E.1.2 2 (x4 + 1)), .inr (30, 778)] d (tbk E 0 1271 [.inl (4, 2), .inr (10, 0), .inr (11, 769), .inr (30, 778), .inl (0, x4), v5, v6, v7, v8] [] (c + 2) (s + 12) K)) := by
  have hg := h.1.2.2.1.1
  have iv := iv_33 (a0 := E.1.2 2 (x4 + 1)) hT h (hI _)
  have e70 := iv.2.1
  refine ⟨by omega, tifI (by omega) (by omega) ?_⟩
  refine k_327 h.1.1 rfl rfl (hI _) (fun _ _ _ => ?_)
  refine t_0_1274 ?_
  refine ⟨by omega, tifI (by omega) (by omega) ?_⟩
  refine k_280 iv.1 rfl (hI _) (hwqI h.1.2.2.1 e70) (fun _ _ => ?_)
  refine t_0_1286 ?_
  exact fin _ _ _ _ _ _ _ (by omega) (by omega) iv.2.2.1
theorem lc_34 {E : mO × tW} {K : tK} {d : mD} {c s : Nat} {x4 : Int} {v5 v6 v7 v8 : tV} (hT : TKL E) (h : Inv2 E d) (hx : 0 ≤ x4 ∧ x4 + 6 ≤ E.1.1 2) (hI : ∀ i, inI (E.1.2 2 i)) (hb : c + 4 ≤ 601024 ∧ s + 24 ≤ 7293034) (fin : ∀ (v5 v6 v7 v8 : tV) (c2 s2 : Nat) (d2 : mD), c2 ≤ c + 4 → s2 ≤ s + 24 → Inv2 E d2 → tRun E 0 (1708, [.inl (4, 2), .inr (10, 0), .inr (11, 769), .inr (30, 778), .inl (0, x4), v5, v6, v7, v8], [], c2, s2, d2) K) : (0 ≤ x4 + 1 ∧ x4 + 1 < E.1.1 2) ∧ tif (Nat.ble (c + 1) 601024 && Nat.ble (s + 6) 7293034) (tCall E 328 [.inr (10, 0), .inl (0, E.1.2 2 (x4 + 1)), .inr (30, 778)] d (tbk E 0 1299 [.inl (4, 2), .inr (10, 0), .inr (11, 769), .inr (30, 778), .inl (0, x4), v5, v6, v7, v8] [] (c + 1) (s + 6) K)) := by
  have hg := h.1.2.2.1.1
  have iv := iv_34 (a0 := E.1.2 2 (x4 + 1)) hT h (hI _)
  have e70 := iv.2.1
  refine ⟨by omega, tifI (by omega) (by omega) ?_⟩
  refine k_328 h.1.1 rfl rfl (hI _) (fun _ _ _ => ?_)
  refine t_0_1302 ?_
  refine ⟨by omega, tifI (by omega) (by omega) ?_⟩
  refine k_282 iv.1 rfl (hI _) (by rw [n7691, e70]; exact mpI hg) (fun _ _ => ?_)
  refine t_0_1314 ?_
  exact fin _ _ _ _ _ _ _ (by omega) (by omega) iv.2.2.1
theorem lc_35 {E : mO × tW} {K : tK} {d : mD} {c s : Nat} {x4 : Int} {v5 v6 v7 v8 : tV} (hT : TKL E) (h : Inv2 E d) (hx : 0 ≤ x4 ∧ x4 + 6 ≤ E.1.1 2) (hI : ∀ i, inI (E.1.2 2 i)) (hb : c + 4 ≤ 601024 ∧ s + 24 ≤ 7293034) (fin : ∀ (v5 v6 v7 v8 : tV) (c2 s2 : Nat) (d2 : mD), c2 ≤ c + 4 → s2 ≤ s + 24 → Inv2 E d2 → tRun E 0 (1708, [.inl (4, 2), .inr (10, 0), .inr (11, 769), .inr (30, 778), .inl (0, x4), v5, v6, v7, v8], [], c2, s2, d2) K) : (0 ≤ x4 + 1 ∧ x4 + 1 < E.1.1 2) ∧ tif (Nat.ble (c + 2) 601024 && Nat.ble (s + 12) 7293034) (tCall E 329 [.inr (10, 0), .inl (0, E.1.2 2 (x4 + 1)), .inr (30, 778)] d (tbk E 0 1327 [.inl (4, 2), .inr (10, 0), .inr (11, 769), .inr (30, 778), .inl (0, x4), v5, v6, v7, v8] [] (c + 2) (s + 12) K)) := by
  have hg := h.1.2.2.1.1
  have iv := iv_35 (a0 := E.1.2 2 (x4 + 1)) hT h (hI _)
  have e70 := iv.2.1
  refine ⟨by omega, tifI (by omega) (by omega) ?_⟩
  refine k_329 h.1.1 rfl rfl (hI _) (fun _ _ _ => ?_)
  refine t_0_1330 ?_
  refine ⟨by omega, tifI (by omega) (by omega) ?_⟩
  refine k_283 iv.1 rfl (hI _) (by rw [n7691, e70]; exact mpI hg) (by rw [n7691, e70]; exact h.2.1.1) (fun _ _ => ?_)
  refine t_0_1342 ?_
  exact fin _ _ _ _ _ _ _ (by omega) (by omega) iv.2.2.1
theorem lc_36 {E : mO × tW} {K : tK} {d : mD} {c s : Nat} {x4 : Int} {v5 v6 v7 v8 : tV} (hT : TKL E) (h : Inv2 E d) (hx : 0 ≤ x4 ∧ x4 + 6 ≤ E.1.1 2) (hI : ∀ i, inI (E.1.2 2 i)) (hb : c + 4 ≤ 601024 ∧ s + 24 ≤ 7293034) (fin : ∀ (v5 v6 v7 v8 : tV) (c2 s2 : Nat) (d2 : mD), c2 ≤ c + 4 → s2 ≤ s + 24 → Inv2 E d2 → tRun E 0 (1708, [.inl (4, 2), .inr (10, 0), .inr (11, 769), .inr (30, 778), .inl (0, x4), v5, v6, v7, v8], [], c2, s2, d2) K) : (0 ≤ x4 + 1 ∧ x4 + 1 < E.1.1 2) ∧ (0 ≤ x4 + 2 ∧ x4 + 2 < E.1.1 2) ∧ tif (Nat.ble (c + 3) 601024 && Nat.ble (s + 18) 7293034) (tCall E 330 [.inr (10, 0), .inl (0, E.1.2 2 (x4 + 1)), .inl (0, E.1.2 2 (x4 + 2)), .inr (30, 778)] d (tbk E 0 1361 [.inl (4, 2), .inr (10, 0), .inr (11, 769), .inr (30, 778), .inl (0, x4), v5, v6, v7, v8] [] (c + 3) (s + 18) K)) := by
  have hg := h.1.2.2.1.1
  have iv := iv_36 (a0 := E.1.2 2 (x4 + 1)) (a1 := E.1.2 2 (x4 + 2)) hT h (hI _) (hI _)
  have e70 := iv.2.1
  refine ⟨by omega, by omega, tifI (by omega) (by omega) ?_⟩
  refine k_330 h.1.1 rfl rfl (hI _) (hI _) (fun _ _ _ => ?_)
  refine t_0_1364 ?_
  refine ⟨by omega, by omega, tifI (by omega) (by omega) ?_⟩
  refine k_284 iv.1 rfl (hI _) (hI _) (by rw [n7691, e70]; exact mpI hg) (by rw [n7691, e70]; exact h.2.1.1) (fun _ _ => ?_)
  refine t_0_1382 ?_
  exact fin _ _ _ _ _ _ _ (by omega) (by omega) iv.2.2.1
theorem lc_37 {E : mO × tW} {K : tK} {d : mD} {c s : Nat} {x4 : Int} {v5 v6 v7 v8 : tV} (hT : TKL E) (h : Inv2 E d) (hx : 0 ≤ x4 ∧ x4 + 6 ≤ E.1.1 2) (hI : ∀ i, inI (E.1.2 2 i)) (hb : c + 4 ≤ 601024 ∧ s + 24 ≤ 7293034) (fin : ∀ (v5 v6 v7 v8 : tV) (c2 s2 : Nat) (d2 : mD), c2 ≤ c + 4 → s2 ≤ s + 24 → Inv2 E d2 → tRun E 0 (1708, [.inl (4, 2), .inr (10, 0), .inr (11, 769), .inr (30, 778), .inl (0, x4), v5, v6, v7, v8], [], c2, s2, d2) K) : (0 ≤ x4 + 1 ∧ x4 + 1 < E.1.1 2) ∧ (0 ≤ x4 + 2 ∧ x4 + 2 < E.1.1 2) ∧ (0 ≤ x4 + 3 ∧ x4 + 3 < E.1.1 2) ∧ tif (Nat.ble (c + 4) 601024 && Nat.ble (s + 24) 7293034) (tCall E 331 [.inr (10, 0), .inl (0, E.1.2 2 (x4 + 1)), .inl (0, E.1.2 2 (x4 + 2)), .inl (0, E.1.2 2 (x4 + 3)), .inr (30, 778)] d (tbk E 0 1407 [.inl (4, 2), .inr (10, 0), .inr (11, 769), .inr (30, 778), .inl (0, x4), v5, v6, v7, v8] [] (c + 4) (s + 24) K)) := by
  have hg := h.1.2.2.1.1
  have iv := iv_37 (a0 := E.1.2 2 (x4 + 1)) (a1 := E.1.2 2 (x4 + 2)) (a2 := E.1.2 2 (x4 + 3)) hT h (hI _) (hI _) (hI _)
  have e70 := iv.2.1
  refine ⟨by omega, by omega, by omega, tifI (by omega) (by omega) ?_⟩
  refine k_331 h.1.1 rfl rfl (hI _) (hI _) (hI _) (fun _ _ _ => ?_)
  refine t_0_1410 ?_
  refine ⟨by omega, by omega, by omega, tifI (by omega) (by omega) ?_⟩
  refine k_285 iv.1 rfl (hI _) (hI _) (hI _) (fun _ _ => ?_)
  refine t_0_1434 ?_
  exact fin _ _ _ _ _ _ _ (by omega) (by omega) iv.2.2.1
theorem lc_38 {E : mO × tW} {K : tK} {d : mD} {c s : Nat} {x4 : Int} {v5 v6 v7 v8 : tV} (hT : TKL E) (h : Inv2 E d) (hx : 0 ≤ x4 ∧ x4 + 6 ≤ E.1.1 2) (hI : ∀ i, inI (E.1.2 2 i)) (hb : c + 4 ≤ 601024 ∧ s + 24 ≤ 7293034) (fin : ∀ (v5 v6 v7 v8 : tV) (c2 s2 : Nat) (d2 : mD), c2 ≤ c + 4 → s2 ≤ s + 24 → Inv2 E d2 → tRun E 0 (1708, [.inl (4, 2), .inr (10, 0), .inr (11, 769), .inr (30, 778), .inl (0, x4), v5, v6, v7, v8], [], c2, s2, d2) K) : (0 ≤ x4 + 1 ∧ x4 + 1 < E.1.1 2) ∧ (0 ≤ x4 + 2 ∧ x4 + 2 < E.1.1 2) ∧ tif (Nat.ble (c + 3) 601024 && Nat.ble (s + 18) 7293034) (tCall E 332 [.inr (10, 0), .inl (0, E.1.2 2 (x4 + 1)), .inl (0, E.1.2 2 (x4 + 2)), .inr (30, 778)] d (tbk E 0 1453 [.inl (4, 2), .inr (10, 0), .inr (11, 769), .inr (30, 778), .inl (0, x4), v5, v6, v7, v8] [] (c + 3) (s + 18) K)) := by
  have hg := h.1.2.2.1.1
  have iv := iv_38 (a0 := E.1.2 2 (x4 + 1)) (a1 := E.1.2 2 (x4 + 2)) hT h (hI _) (hI _)
  have e70 := iv.2.1
  refine ⟨by omega, by omega, tifI (by omega) (by omega) ?_⟩
  refine k_332 h.1.1 rfl rfl (hI _) (hI _) (fun _ _ _ => ?_)
  refine t_0_1456 ?_
  refine ⟨by omega, by omega, tifI (by omega) (by omega) ?_⟩
  refine k_286 iv.1 rfl (hI _) (hI _) (by rw [n7691, e70]; exact rkI hg) (fun _ _ => ?_)
  refine t_0_1474 ?_
  exact fin _ _ _ _ _ _ _ (by omega) (by omega) iv.2.2.1
theorem lc_39 {E : mO × tW} {K : tK} {d : mD} {c s : Nat} {x4 : Int} {v5 v6 v7 v8 : tV} (hT : TKL E) (h : Inv2 E d) (hx : 0 ≤ x4 ∧ x4 + 6 ≤ E.1.1 2) (hI : ∀ i, inI (E.1.2 2 i)) (hb : c + 4 ≤ 601024 ∧ s + 24 ≤ 7293034) (fin : ∀ (v5 v6 v7 v8 : tV) (c2 s2 : Nat) (d2 : mD), c2 ≤ c + 4 → s2 ≤ s + 24 → Inv2 E d2 → tRun E 0 (1708, [.inl (4, 2), .inr (10, 0), .inr (11, 769), .inr (30, 778), .inl (0, x4), v5, v6, v7, v8], [], c2, s2, d2) K) : (0 ≤ x4 + 1 ∧ x4 + 1 < E.1.1 2) ∧ tif (Nat.ble (c + 1) 601024 && Nat.ble (s + 6) 7293034) (tCall E 333 [.inr (10, 0), .inl (0, E.1.2 2 (x4 + 1)), .inr (30, 778)] d (tbk E 0 1487 [.inl (4, 2), .inr (10, 0), .inr (11, 769), .inr (30, 778), .inl (0, x4), v5, v6, v7, v8] [] (c + 1) (s + 6) K)) := by
  have hg := h.1.2.2.1.1
  have iv := iv_39 (a0 := E.1.2 2 (x4 + 1)) hT h (hI _)
  have e70 := iv.2.1
  refine ⟨by omega, tifI (by omega) (by omega) ?_⟩
  refine k_333 h.1.1 rfl rfl (hI _) (fun _ _ _ => ?_)
  refine t_0_1490 ?_
  refine ⟨by omega, tifI (by omega) (by omega) ?_⟩
  refine k_287 iv.1 rfl (hI _) (fun _ _ => ?_)
  refine t_0_1502 ?_
  exact fin _ _ _ _ _ _ _ (by omega) (by omega) iv.2.2.1
theorem lc_40 {E : mO × tW} {K : tK} {d : mD} {c s : Nat} {x4 : Int} {v5 v6 v7 v8 : tV} (hT : TKL E) (h : Inv2 E d) (hx : 0 ≤ x4 ∧ x4 + 6 ≤ E.1.1 2) (hI : ∀ i, inI (E.1.2 2 i)) (hb : c + 4 ≤ 601024 ∧ s + 24 ≤ 7293034) (fin : ∀ (v5 v6 v7 v8 : tV) (c2 s2 : Nat) (d2 : mD), c2 ≤ c + 4 → s2 ≤ s + 24 → Inv2 E d2 → tRun E 0 (1708, [.inl (4, 2), .inr (10, 0), .inr (11, 769), .inr (30, 778), .inl (0, x4), v5, v6, v7, v8], [], c2, s2, d2) K) : (0 ≤ x4 + 1 ∧ x4 + 1 < E.1.1 2) ∧ (0 ≤ x4 + 2 ∧ x4 + 2 < E.1.1 2) ∧ tif (Nat.ble (c + 3) 601024 && Nat.ble (s + 18) 7293034) (tCall E 334 [.inr (10, 0), .inl (0, E.1.2 2 (x4 + 1)), .inl (0, E.1.2 2 (x4 + 2)), .inr (30, 778)] d (tbk E 0 1521 [.inl (4, 2), .inr (10, 0), .inr (11, 769), .inr (30, 778), .inl (0, x4), v5, v6, v7, v8] [] (c + 3) (s + 18) K)) := by
  have hg := h.1.2.2.1.1
  have iv := iv_40 (a0 := E.1.2 2 (x4 + 1)) (a1 := E.1.2 2 (x4 + 2)) hT h (hI _) (hI _)
  have e70 := iv.2.1
  refine ⟨by omega, by omega, tifI (by omega) (by omega) ?_⟩
  refine k_334 h.1.1 rfl rfl (hI _) (hI _) (fun _ _ _ => ?_)
  refine t_0_1524 ?_
  refine ⟨by omega, by omega, tifI (by omega) (by omega) ?_⟩
  refine kq_288 iv.1 rfl (hI _) (hI _) (by rw [n7691, e70]; exact qoI hg) (fun _ _ => ?_)
  refine t_0_1542 ?_
  exact fin _ _ _ _ _ _ _ (by omega) (by omega) iv.2.2.1
theorem lc_41 {E : mO × tW} {K : tK} {d : mD} {c s : Nat} {x4 : Int} {v5 v6 v7 v8 : tV} (hT : TKL E) (h : Inv2 E d) (hx : 0 ≤ x4 ∧ x4 + 6 ≤ E.1.1 2) (hI : ∀ i, inI (E.1.2 2 i)) (hb : c + 4 ≤ 601024 ∧ s + 24 ≤ 7293034) (fin : ∀ (v5 v6 v7 v8 : tV) (c2 s2 : Nat) (d2 : mD), c2 ≤ c + 4 → s2 ≤ s + 24 → Inv2 E d2 → tRun E 0 (1708, [.inl (4, 2), .inr (10, 0), .inr (11, 769), .inr (30, 778), .inl (0, x4), v5, v6, v7, v8], [], c2, s2, d2) K) : (0 ≤ x4 + 1 ∧ x4 + 1 < E.1.1 2) ∧ tif (Nat.ble (c + 2) 601024 && Nat.ble (s + 12) 7293034) (tCall E 335 [.inr (10, 0), .inl (0, E.1.2 2 (x4 + 1)), .inr (30, 778)] d (tbk E 0 1555 [.inl (4, 2), .inr (10, 0), .inr (11, 769), .inr (30, 778), .inl (0, x4), v5, v6, v7, v8] [] (c + 2) (s + 12) K)) := by
  have hg := h.1.2.2.1.1
  have iv := iv_41 (a0 := E.1.2 2 (x4 + 1)) hT h (hI _)
  have e70 := iv.2.1
  refine ⟨by omega, tifI (by omega) (by omega) ?_⟩
  refine k_335 h.1.1 rfl rfl (hI _) (fun _ _ _ => ?_)
  refine t_0_1558 ?_
  refine ⟨by omega, tifI (by omega) (by omega) ?_⟩
  refine k_289 iv.1 rfl (hI _) (fun _ _ => ?_)
  refine t_0_1570 ?_
  exact fin _ _ _ _ _ _ _ (by omega) (by omega) iv.2.2.1
theorem lc_42 {E : mO × tW} {K : tK} {d : mD} {c s : Nat} {x4 : Int} {v5 v6 v7 v8 : tV} (hT : TKL E) (h : Inv2 E d) (hx : 0 ≤ x4 ∧ x4 + 6 ≤ E.1.1 2) (hI : ∀ i, inI (E.1.2 2 i)) (hb : c + 4 ≤ 601024 ∧ s + 24 ≤ 7293034) (fin : ∀ (v5 v6 v7 v8 : tV) (c2 s2 : Nat) (d2 : mD), c2 ≤ c + 4 → s2 ≤ s + 24 → Inv2 E d2 → tRun E 0 (1708, [.inl (4, 2), .inr (10, 0), .inr (11, 769), .inr (30, 778), .inl (0, x4), v5, v6, v7, v8], [], c2, s2, d2) K) : tif (Nat.ble (c + 1) 601024 && Nat.ble (s + 6) 7293034) (tCall E 336 [.inr (10, 0), .inr (30, 778)] d (tbk E 0 1577 [.inl (4, 2), .inr (10, 0), .inr (11, 769), .inr (30, 778), .inl (0, x4), v5, v6, v7, v8] [] (c + 1) (s + 6) K)) := by
  have hg := h.1.2.2.1.1
  have iv := iv_42 hT h
  have e70 := iv.2.1
  refine tifI (by omega) (by omega) ?_
  refine k_336 h.1.1 rfl rfl (fun _ _ _ => ?_)
  refine t_0_1580 ?_
  refine tifI (by omega) (by omega) ?_
  refine k_290 iv.1 rfl (fun _ _ => ?_)
  refine t_0_1586 ?_
  exact fin _ _ _ _ _ _ _ (by omega) (by omega) iv.2.2.1
theorem lc_43 {E : mO × tW} {K : tK} {d : mD} {c s : Nat} {x4 : Int} {v5 v6 v7 v8 : tV} (hT : TKL E) (h : Inv2 E d) (hx : 0 ≤ x4 ∧ x4 + 6 ≤ E.1.1 2) (hI : ∀ i, inI (E.1.2 2 i)) (hb : c + 4 ≤ 601024 ∧ s + 24 ≤ 7293034) (fin : ∀ (v5 v6 v7 v8 : tV) (c2 s2 : Nat) (d2 : mD), c2 ≤ c + 4 → s2 ≤ s + 24 → Inv2 E d2 → tRun E 0 (1708, [.inl (4, 2), .inr (10, 0), .inr (11, 769), .inr (30, 778), .inl (0, x4), v5, v6, v7, v8], [], c2, s2, d2) K) : (0 ≤ x4 + 1 ∧ x4 + 1 < E.1.1 2) ∧ (0 ≤ x4 + 2 ∧ x4 + 2 < E.1.1 2) ∧ tif (Nat.ble (c + 2) 601024 && Nat.ble (s + 12) 7293034) (tCall E 337 [.inr (10, 0), .inl (0, E.1.2 2 (x4 + 1)), .inl (0, E.1.2 2 (x4 + 2)), .inr (30, 778)] d (tbk E 0 1605 [.inl (4, 2), .inr (10, 0), .inr (11, 769), .inr (30, 778), .inl (0, x4), v5, v6, v7, v8] [] (c + 2) (s + 12) K)) := by
  have hg := h.1.2.2.1.1
  have iv := iv_43 (a0 := E.1.2 2 (x4 + 1)) (a1 := E.1.2 2 (x4 + 2)) hT h (hI _) (hI _)
  have e70 := iv.2.1
  refine ⟨by omega, by omega, tifI (by omega) (by omega) ?_⟩
  refine k_337 hT.1 h.1.1 rfl rfl (hI _) (hI _) (fun _ _ _ => ?_)
  refine t_0_1608 ?_
  refine ⟨by omega, by omega, tifI (by omega) (by omega) ?_⟩
  refine k_293 iv.1 rfl (hI _) (hI _) (fun _ _ => ?_)
  refine t_0_1626 ?_
  exact fin _ _ _ _ _ _ _ (by omega) (by omega) iv.2.2.1
theorem lc_44 {E : mO × tW} {K : tK} {d : mD} {c s : Nat} {x4 : Int} {v5 v6 v7 v8 : tV} (hT : TKL E) (h : Inv2 E d) (hx : 0 ≤ x4 ∧ x4 + 6 ≤ E.1.1 2) (hI : ∀ i, inI (E.1.2 2 i)) (hb : c + 4 ≤ 601024 ∧ s + 24 ≤ 7293034) (fin : ∀ (v5 v6 v7 v8 : tV) (c2 s2 : Nat) (d2 : mD), c2 ≤ c + 4 → s2 ≤ s + 24 → Inv2 E d2 → tRun E 0 (1708, [.inl (4, 2), .inr (10, 0), .inr (11, 769), .inr (30, 778), .inl (0, x4), v5, v6, v7, v8], [], c2, s2, d2) K) : tif (Nat.ble (c + 1) 601024 && Nat.ble (s + 6) 7293034) (tCall E 338 [.inr (10, 0), .inr (30, 778)] d (tbk E 0 1633 [.inl (4, 2), .inr (10, 0), .inr (11, 769), .inr (30, 778), .inl (0, x4), v5, v6, v7, v8] [] (c + 1) (s + 6) K)) := by
  have hg := h.1.2.2.1.1
  have iv := iv_44 hT h
  have e70 := iv.2.1
  refine tifI (by omega) (by omega) ?_
  refine k_338 h.1.1 rfl rfl (fun _ _ _ => ?_)
  refine t_0_1636 ?_
  refine tifI (by omega) (by omega) ?_
  refine k_294 iv.1 rfl (fun _ _ => ?_)
  refine t_0_1642 ?_
  exact fin _ _ _ _ _ _ _ (by omega) (by omega) iv.2.2.1
theorem lc_45 {E : mO × tW} {K : tK} {d : mD} {c s : Nat} {x4 : Int} {v5 v6 v7 v8 : tV} (hT : TKL E) (h : Inv2 E d) (hx : 0 ≤ x4 ∧ x4 + 6 ≤ E.1.1 2) (hI : ∀ i, inI (E.1.2 2 i)) (hb : c + 4 ≤ 601024 ∧ s + 24 ≤ 7293034) (fin : ∀ (v5 v6 v7 v8 : tV) (c2 s2 : Nat) (d2 : mD), c2 ≤ c + 4 → s2 ≤ s + 24 → Inv2 E d2 → tRun E 0 (1708, [.inl (4, 2), .inr (10, 0), .inr (11, 769), .inr (30, 778), .inl (0, x4), v5, v6, v7, v8], [], c2, s2, d2) K) : (0 ≤ x4 + 1 ∧ x4 + 1 < E.1.1 2) ∧ tif (Nat.ble (c + 1) 601024 && Nat.ble (s + 6) 7293034) (tCall E 339 [.inr (10, 0), .inl (0, E.1.2 2 (x4 + 1))] d (tbk E 0 1654 [.inl (4, 2), .inr (10, 0), .inr (11, 769), .inr (30, 778), .inl (0, x4), v5, v6, v7, v8] [] (c + 1) (s + 6) K)) := by
  have hg := h.1.2.2.1.1
  have iv := iv_45 (a0 := E.1.2 2 (x4 + 1)) hT h (hI _)
  have e70 := iv.2.1
  refine ⟨by omega, tifI (by omega) (by omega) ?_⟩
  refine k_339 h.1.1 rfl (hI _) (fun _ _ _ => ?_)
  refine t_0_1657 ?_
  refine ⟨by omega, tifI (by omega) (by omega) ?_⟩
  refine k_295 iv.1 rfl (hI _) (fun _ _ => ?_)
  refine t_0_1669 ?_
  exact fin _ _ _ _ _ _ _ (by omega) (by omega) iv.2.2.1
theorem lc_46 {E : mO × tW} {K : tK} {d : mD} {c s : Nat} {x4 : Int} {v5 v6 v7 v8 : tV} (hT : TKL E) (h : Inv2 E d) (hx : 0 ≤ x4 ∧ x4 + 6 ≤ E.1.1 2) (hI : ∀ i, inI (E.1.2 2 i)) (hb : c + 4 ≤ 601024 ∧ s + 24 ≤ 7293034) (fin : ∀ (v5 v6 v7 v8 : tV) (c2 s2 : Nat) (d2 : mD), c2 ≤ c + 4 → s2 ≤ s + 24 → Inv2 E d2 → tRun E 0 (1708, [.inl (4, 2), .inr (10, 0), .inr (11, 769), .inr (30, 778), .inl (0, x4), v5, v6, v7, v8], [], c2, s2, d2) K) : (0 ≤ x4 + 1 ∧ x4 + 1 < E.1.1 2) ∧ tif (Nat.ble (c + 2) 601024 && Nat.ble (s + 12) 7293034) (tCall E 340 [.inr (10, 0), .inl (0, E.1.2 2 (x4 + 1))] d (tbk E 0 1679 [.inl (4, 2), .inr (10, 0), .inr (11, 769), .inr (30, 778), .inl (0, x4), v5, v6, v7, v8] [] (c + 2) (s + 12) K)) := by
  have hg := h.1.2.2.1.1
  have iv := iv_46 (a0 := E.1.2 2 (x4 + 1)) hT h (hI _)
  have e70 := iv.2.1
  have cmv := CMPV iv.2.2.2.2.2.2.1 iv.2.2.2.2.1
  refine ⟨by omega, tifI (by omega) (by omega) ?_⟩
  refine k_340 h.1.1 rfl (hI _) (fun _ _ _ => ?_)
  refine t_0_1682 ?_
  refine ⟨by omega, tifI (by omega) (by omega) ?_⟩
  refine k_296 iv.1 rfl (hI _) (fun _ _ => ?_)
  refine t_0_1694 ?_
  refine tifI (by omega) (by omega) ?_
  refine k_175 iv.2.2.1.1.1 rfl (fun _ => ?_)
  refine t_0_1698 ?_
  refine ⟨⟨m_inR cmv.2.1.1 cmv.2.1.2, m_inR cmv.2.2.1 cmv.2.2.2⟩, fun _ => ?_, fun y => absurd cmv.1 y⟩
  exact fin _ _ _ _ _ _ _ (by omega) (by omega) iv.2.2.1
theorem lstep {E : mO × tW} {K : tK} {d : mD} {c s : Nat} {x4 : Int} {v5 v6 v7 v8 : tV} (hT : TKL E) (h : Inv2 E d) (h4 : 0 ≤ x4 ∧ x4 ≤ 1000000) (hL : 0 ≤ E.1.1 2 ∧ E.1.1 2 ≤ 1000000) (hI : ∀ i, inI (E.1.2 2 i)) (hb : c + 4 ≤ 601024 ∧ s + 24 ≤ 7293034) (hK : K (.inl (some (0, 1))) d) (fin : ∀ (v5 v6 v7 v8 : tV) (c2 s2 : Nat) (d2 : mD), c2 ≤ c + 4 → s2 ≤ s + 24 → Inv2 E d2 → x4 + 6 ≤ E.1.1 2 → tRun E 0 (1708, [.inl (4, 2), .inr (10, 0), .inr (11, 769), .inr (30, 778), .inl (0, x4), v5, v6, v7, v8], [], c2, s2, d2) K) : tRun E 0 (23, [.inl (4, 2), .inr (10, 0), .inr (11, 769), .inr (30, 778), .inl (0, x4), v5, v6, v7, v8], [], c, s, d) K := by
  refine t_0_23 ?_
  refine ⟨⟨m_inR (by omega) (by omega), m_inR (by omega) (by omega)⟩, fun _ => ⟨Or.inr rfl, hK⟩, fun hx => ?_⟩
  have hx : 0 ≤ x4 ∧ x4 + 6 ≤ E.1.1 2 := ⟨h4.1, by omega⟩
  have fin : ∀ (v5 v6 v7 v8 : tV) (c2 s2 : Nat) (d2 : mD), c2 ≤ c + 4 → s2 ≤ s + 24 → Inv2 E d2 → tRun E 0 (1708, [.inl (4, 2), .inr (10, 0), .inr (11, 769), .inr (30, 778), .inl (0, x4), v5, v6, v7, v8], [], c2, s2, d2) K := fun v5 v6 v7 v8 c2 s2 d2 a b e => fin v5 v6 v7 v8 c2 s2 d2 a b e hx.2
  have m63 := mia63 (E.1.2 2 x4)
  refine ⟨by omega, m_inR (by omega) (by omega), fun _ => lc_0 hT h hx hI hb fin, fun _ => lc_1 hT h hx hI hb fin, fun _ => lc_2 hT h hx hI hb fin, fun _ => lc_3 hT h hx hI hb fin, fun _ => lc_4 hT h hx hI hb fin, fun _ => lc_5 hT h hx hI hb fin, fun _ => lc_6 hT h hx hI hb fin, fun _ => lc_7 hT h hx hI hb fin, fun _ => lc_8 hT h hx hI hb fin, fun _ => lc_9 hT h hx hI hb fin, fun _ => lc_10 hT h hx hI hb fin, fun _ => lc_11 hT h hx hI hb fin, fun _ => lc_12 hT h hx hI hb fin, fun _ => lc_13 hT h hx hI hb fin, fun _ => lc_14 hT h hx hI hb fin, fun _ => lc_15 hT h hx hI hb fin, fun _ => lc_16 hT h hx hI hb fin, fun _ => lc_17 hT h hx hI hb fin, fun _ => lc_18 hT h hx hI hb fin, fun _ => lc_19 hT h hx hI hb fin, fun _ => lc_20 hT h hx hI hb fin, fun _ => lc_21 hT h hx hI hb fin, fun _ => lc_22 hT h hx hI hb fin, fun _ => lc_23 hT h hx hI hb fin, fun _ => lc_24 hT h hx hI hb fin, fun _ => lc_25 hT h hx hI hb fin, fun _ => lc_26 hT h hx hI hb fin, fun _ => lc_27 hT h hx hI hb fin, fun _ => lc_28 hT h hx hI hb fin, fun _ => lc_29 hT h hx hI hb fin, fun _ => lc_30 hT h hx hI hb fin, fun _ => lc_31 hT h hx hI hb fin, fun _ => lc_32 hT h hx hI hb fin, fun _ => lc_33 hT h hx hI hb fin, fun _ => lc_34 hT h hx hI hb fin, fun _ => lc_35 hT h hx hI hb fin, fun _ => lc_36 hT h hx hI hb fin, fun _ => lc_37 hT h hx hI hb fin, fun _ => lc_38 hT h hx hI hb fin, fun _ => lc_39 hT h hx hI hb fin, fun _ => lc_40 hT h hx hI hb fin, fun _ => lc_41 hT h hx hI hb fin, fun _ => lc_42 hT h hx hI hb fin, fun _ => lc_43 hT h hx hI hb fin, fun _ => lc_44 hT h hx hI hb fin, fun _ => lc_45 hT h hx hI hb fin, fun _ => lc_46 hT h hx hI hb fin, fun _ => fin _ _ _ _ _ _ _ (by omega) (by omega) h⟩
theorem t_0_end {E : mO × tW} {K : tK} {d : mD} {c s : Nat} {x1 x2 x3 x4 : Int} {v5 v6 v7 v8 : tV}
  (h : tRun E 0 (23, [.inl (4, 2), .inr (10, x1), .inr (11, x2), .inr (30, x3), .inl (0, x4 + 6), v5, v6, v7, v8], [], c, s, d) K) :
  tRun E 0 (1708, [.inl (4, 2), .inr (10, x1), .inr (11, x2), .inr (30, x3), .inl (0, x4), v5, v6, v7, v8], [], c, s, d) K := t_0_1708 h
