/-! ===== the classes of our cells ===== -/
def mlayw : Bool := (List.range 12).all (fun c => (List.range (mnf c)).all (fun k => mp_lay.any (fun e => Nat.beq e.1 (32 * c + k) && mG1 e.2 (u_lay (mCn c) (fun k => mFn (32 * c + k)) k))))
theorem mlayw_ok : mlayw = true := by decide +kernel
theorem mlayw_in {c k : Nat} (hc : c < 12) (hk : k < mnf c) : u_lay (mCn c) (fun k => mFn (32 * c + k)) k ∈ GW := by
  have h1 := List.all_eq_true.mp mlayw_ok c (List.mem_range.mpr hc)
  have h2 := List.all_eq_true.mp h1 k (List.mem_range.mpr hk)
  obtain ⟨e, -, he⟩ := List.any_eq_true.mp h2
  exact mG1_in (Bool.and_eq_true_iff.mp he).2
def mClsOK (c : Nat) (T : u_T) (ty : Nat → FieldType) : Prop := vwCl[c]? = some (mCn c, T, mnf c) ∧ (∀ k, k < 32 → mFn (32 * c + k) = T k) ∧ (∀ k, k < mnf c → parseFieldDescriptor (T k).2.2.1 = some (ty k))
  ∧ (∀ a, a < mnf c → ∀ b, b < mnf c → a ≠ b → (T a).2.1 ≠ (T b).2.1) ∧ (∀ B k, k < mnf c → defaultValue (ty k) = mslot B (mfty (32 * c + k)) (if mfty (32 * c + k) = 4 then -1 else 0))
  ∧ (∀ (E : mE) (k : Nat) (v : mV), k < mnf c → mfit (mfty (32 * c + k)) v → narrow (ty k) (mval E v) = mval E v ∧ fits (ty k) (mval E v) = true) ∧ mnf c ≤ 32
theorem m_fitI (E : mE) (v : mV) (h : mfit 0 v) : narrow .int (mval E v) = mval E v ∧ fits .int (mval E v) = true := by
  obtain ⟨t, x⟩ := v
  have h : t = 0 := h
  subst h
  exact ⟨rfl, rfl⟩
theorem m_fitZ (E : mE) (v : mV) (h : mfit 1 v) : narrow .boolean (mval E v) = mval E v ∧ fits .boolean (mval E v) = true := by
  obtain ⟨t, x⟩ := v
  obtain ⟨h, h2⟩ := h
  have h : t = 0 := h
  have h2 : x = 0 ∨ x = 1 := h2
  subst h
  rcases h2 with rfl | rfl
  · exact ⟨rfl, rfl⟩
  · exact ⟨rfl, rfl⟩
theorem m_fitO (E : mE) (C : String) (v : mV) (h : mfit 4 v) : narrow (.object C) (mval E v) = mval E v ∧ fits (.object C) (mval E v) = true := by
  obtain ⟨t, x⟩ := v
  have h : t = 3 := h
  subst h
  simp only [mval]
  split <;> exact ⟨rfl, rfl⟩
theorem m_fitA (E : mE) (C : FieldType) (v : mV) (h : mfit 4 v) : narrow (.array C) (mval E v) = mval E v ∧ fits (.array C) (mval E v) = true := by
  obtain ⟨t, x⟩ := v
  have h : t = 3 := h
  subst h
  simp only [mval]
  split <;> exact ⟨rfl, rfl⟩
theorem m_lt_cases {n k : Nat} {P : Nat → Prop} (h : ∀ i, i < n → P i) (hk : k < n) : P k := h k hk
theorem mcls_0 : mClsOK 0 TX0 tyX0 := by
  refine ⟨rfl, fun k hk => ?_, tyX0_ok, nmX0, fun B k hk => ?_, fun E k v hk h => ?_, by decide⟩
  · unfold mFn
    rw [show (32 * 0 + k) / 32 = 0 by omega, show (32 * 0 + k) % 32 = k by omega]
    rfl
  · have hk : k < 3 := hk
    match k, hk with
    | 0, _ => rfl
    | 1, _ => rfl
    | 2, _ => rfl
    | k + 3, hk => exact absurd hk (by omega)
  · have hk : k < 3 := hk
    match k, hk with
    | 0, _ => exact m_fitA E _ v h
    | 1, _ => exact m_fitI E v h
    | 2, _ => exact m_fitI E v h
    | k + 3, hk => exact absurd hk (by omega)
theorem mcls_1 : mClsOK 1 TX1 tyX1 := by
  refine ⟨rfl, fun k hk => ?_, tyX1_ok, nmX1, fun B k hk => ?_, fun E k v hk h => ?_, by decide⟩
  · unfold mFn
    rw [show (32 * 1 + k) / 32 = 1 by omega, show (32 * 1 + k) % 32 = k by omega]
    rfl
  · have hk : k < 1 := hk
    match k, hk with
    | 0, _ => rfl
    | k + 1, hk => exact absurd hk (by omega)
  · have hk : k < 1 := hk
    match k, hk with
    | 0, _ => exact m_fitA E _ v h
    | k + 1, hk => exact absurd hk (by omega)
theorem mcls_2 : mClsOK 2 TX2 tyX2 := by
  refine ⟨rfl, fun k hk => ?_, tyX2_ok, nmX2, fun B k hk => ?_, fun E k v hk h => ?_, by decide⟩
  · unfold mFn
    rw [show (32 * 2 + k) / 32 = 2 by omega, show (32 * 2 + k) % 32 = k by omega]
    rfl
  · have hk : k < 7 := hk
    match k, hk with
    | 0, _ => rfl
    | 1, _ => rfl
    | 2, _ => rfl
    | 3, _ => rfl
    | 4, _ => rfl
    | 5, _ => rfl
    | 6, _ => rfl
    | k + 7, hk => exact absurd hk (by omega)
  · have hk : k < 7 := hk
    match k, hk with
    | 0, _ => exact m_fitO E _ v h
    | 1, _ => exact m_fitO E _ v h
    | 2, _ => exact m_fitI E v h
    | 3, _ => exact m_fitI E v h
    | 4, _ => exact m_fitI E v h
    | 5, _ => exact m_fitI E v h
    | 6, _ => exact m_fitI E v h
    | k + 7, hk => exact absurd hk (by omega)
theorem mcls_3 : mClsOK 3 TX3 tyX3 := by
  refine ⟨rfl, fun k hk => ?_, tyX3_ok, nmX3, fun B k hk => ?_, fun E k v hk h => ?_, by decide⟩
  · unfold mFn
    rw [show (32 * 3 + k) / 32 = 3 by omega, show (32 * 3 + k) % 32 = k by omega]
    rfl
  · have hk : k < 8 := hk
    match k, hk with
    | 0, _ => rfl
    | 1, _ => rfl
    | 2, _ => rfl
    | 3, _ => rfl
    | 4, _ => rfl
    | 5, _ => rfl
    | 6, _ => rfl
    | 7, _ => rfl
    | k + 8, hk => exact absurd hk (by omega)
  · have hk : k < 8 := hk
    match k, hk with
    | 0, _ => exact m_fitI E v h
    | 1, _ => exact m_fitA E _ v h
    | 2, _ => exact m_fitA E _ v h
    | 3, _ => exact m_fitA E _ v h
    | 4, _ => exact m_fitA E _ v h
    | 5, _ => exact m_fitA E _ v h
    | 6, _ => exact m_fitA E _ v h
    | 7, _ => exact m_fitA E _ v h
    | k + 8, hk => exact absurd hk (by omega)
theorem mcls_4 : mClsOK 4 TX4 tyX4 := by
  refine ⟨rfl, fun k hk => ?_, tyX4_ok, nmX4, fun B k hk => ?_, fun E k v hk h => ?_, by decide⟩
  · unfold mFn
    rw [show (32 * 4 + k) / 32 = 4 by omega, show (32 * 4 + k) % 32 = k by omega]
    rfl
  · have hk : k < 7 := hk
    match k, hk with
    | 0, _ => rfl
    | 1, _ => rfl
    | 2, _ => rfl
    | 3, _ => rfl
    | 4, _ => rfl
    | 5, _ => rfl
    | 6, _ => rfl
    | k + 7, hk => exact absurd hk (by omega)
  · have hk : k < 7 := hk
    match k, hk with
    | 0, _ => exact m_fitI E v h
    | 1, _ => exact m_fitA E _ v h
    | 2, _ => exact m_fitA E _ v h
    | 3, _ => exact m_fitA E _ v h
    | 4, _ => exact m_fitA E _ v h
    | 5, _ => exact m_fitA E _ v h
    | 6, _ => exact m_fitA E _ v h
    | k + 7, hk => exact absurd hk (by omega)
theorem mcls_5 : mClsOK 5 TX5 tyX5 := by
  refine ⟨rfl, fun k hk => ?_, tyX5_ok, nmX5, fun B k hk => ?_, fun E k v hk h => ?_, by decide⟩
  · unfold mFn
    rw [show (32 * 5 + k) / 32 = 5 by omega, show (32 * 5 + k) % 32 = k by omega]
    rfl
  · have hk : k < 5 := hk
    match k, hk with
    | 0, _ => rfl
    | 1, _ => rfl
    | 2, _ => rfl
    | 3, _ => rfl
    | 4, _ => rfl
    | k + 5, hk => exact absurd hk (by omega)
  · have hk : k < 5 := hk
    match k, hk with
    | 0, _ => exact m_fitO E _ v h
    | 1, _ => exact m_fitI E v h
    | 2, _ => exact m_fitI E v h
    | 3, _ => exact m_fitI E v h
    | 4, _ => exact m_fitI E v h
    | k + 5, hk => exact absurd hk (by omega)
theorem mcls_6 : mClsOK 6 TX6 tyX6 := by
  refine ⟨rfl, fun k hk => ?_, tyX6_ok, nmX6, fun B k hk => ?_, fun E k v hk h => ?_, by decide⟩
  · unfold mFn
    rw [show (32 * 6 + k) / 32 = 6 by omega, show (32 * 6 + k) % 32 = k by omega]
    rfl
  · have hk : k < 7 := hk
    match k, hk with
    | 0, _ => rfl
    | 1, _ => rfl
    | 2, _ => rfl
    | 3, _ => rfl
    | 4, _ => rfl
    | 5, _ => rfl
    | 6, _ => rfl
    | k + 7, hk => exact absurd hk (by omega)
  · have hk : k < 7 := hk
    match k, hk with
    | 0, _ => exact m_fitA E _ v h
    | 1, _ => exact m_fitI E v h
    | 2, _ => exact m_fitI E v h
    | 3, _ => exact m_fitO E _ v h
    | 4, _ => exact m_fitO E _ v h
    | 5, _ => exact m_fitO E _ v h
    | 6, _ => exact m_fitO E _ v h
    | k + 7, hk => exact absurd hk (by omega)
theorem mcls_7 : mClsOK 7 TX7 tyX7 := by
  refine ⟨rfl, fun k hk => ?_, tyX7_ok, nmX7, fun B k hk => ?_, fun E k v hk h => ?_, by decide⟩
  · unfold mFn
    rw [show (32 * 7 + k) / 32 = 7 by omega, show (32 * 7 + k) % 32 = k by omega]
    rfl
  · have hk : k < 2 := hk
    match k, hk with
    | 0, _ => rfl
    | 1, _ => rfl
    | k + 2, hk => exact absurd hk (by omega)
  · have hk : k < 2 := hk
    match k, hk with
    | 0, _ => exact m_fitA E _ v h
    | 1, _ => exact m_fitI E v h
    | k + 2, hk => exact absurd hk (by omega)
theorem mcls_8 : mClsOK 8 TX8 tyX8 := by
  refine ⟨rfl, fun k hk => ?_, tyX8_ok, nmX8, fun B k hk => ?_, fun E k v hk h => ?_, by decide⟩
  · unfold mFn
    rw [show (32 * 8 + k) / 32 = 8 by omega, show (32 * 8 + k) % 32 = k by omega]
    rfl
  · have hk : k < 8 := hk
    match k, hk with
    | 0, _ => rfl
    | 1, _ => rfl
    | 2, _ => rfl
    | 3, _ => rfl
    | 4, _ => rfl
    | 5, _ => rfl
    | 6, _ => rfl
    | 7, _ => rfl
    | k + 8, hk => exact absurd hk (by omega)
  · have hk : k < 8 := hk
    match k, hk with
    | 0, _ => exact m_fitI E v h
    | 1, _ => exact m_fitA E _ v h
    | 2, _ => exact m_fitA E _ v h
    | 3, _ => exact m_fitA E _ v h
    | 4, _ => exact m_fitA E _ v h
    | 5, _ => exact m_fitA E _ v h
    | 6, _ => exact m_fitA E _ v h
    | 7, _ => exact m_fitA E _ v h
    | k + 8, hk => exact absurd hk (by omega)
theorem mcls_9 : mClsOK 9 TX9 tyX9 := by
  refine ⟨rfl, fun k hk => ?_, tyX9_ok, nmX9, fun B k hk => ?_, fun E k v hk h => ?_, by decide⟩
  · unfold mFn
    rw [show (32 * 9 + k) / 32 = 9 by omega, show (32 * 9 + k) % 32 = k by omega]
    rfl
  · have hk : k < 7 := hk
    match k, hk with
    | 0, _ => rfl
    | 1, _ => rfl
    | 2, _ => rfl
    | 3, _ => rfl
    | 4, _ => rfl
    | 5, _ => rfl
    | 6, _ => rfl
    | k + 7, hk => exact absurd hk (by omega)
  · have hk : k < 7 := hk
    match k, hk with
    | 0, _ => exact m_fitI E v h
    | 1, _ => exact m_fitA E _ v h
    | 2, _ => exact m_fitA E _ v h
    | 3, _ => exact m_fitA E _ v h
    | 4, _ => exact m_fitA E _ v h
    | 5, _ => exact m_fitI E v h
    | 6, _ => exact m_fitA E _ v h
    | k + 7, hk => exact absurd hk (by omega)
theorem mcls_10 : mClsOK 10 TX10 tyX10 := by
  refine ⟨rfl, fun k hk => ?_, tyX10_ok, nmX10, fun B k hk => ?_, fun E k v hk h => ?_, by decide⟩
  · unfold mFn
    rw [show (32 * 10 + k) / 32 = 10 by omega, show (32 * 10 + k) % 32 = k by omega]
    rfl
  · have hk : k < 9 := hk
    match k, hk with
    | 0, _ => rfl
    | 1, _ => rfl
    | 2, _ => rfl
    | 3, _ => rfl
    | 4, _ => rfl
    | 5, _ => rfl
    | 6, _ => rfl
    | 7, _ => rfl
    | 8, _ => rfl
    | k + 9, hk => exact absurd hk (by omega)
  · have hk : k < 9 := hk
    match k, hk with
    | 0, _ => exact m_fitO E _ v h
    | 1, _ => exact m_fitO E _ v h
    | 2, _ => exact m_fitA E _ v h
    | 3, _ => exact m_fitA E _ v h
    | 4, _ => exact m_fitO E _ v h
    | 5, _ => exact m_fitO E _ v h
    | 6, _ => exact m_fitO E _ v h
    | 7, _ => exact m_fitO E _ v h
    | 8, _ => exact m_fitO E _ v h
    | k + 9, hk => exact absurd hk (by omega)
theorem mcls_11 : mClsOK 11 TX11 tyX11 := by
  refine ⟨rfl, fun k hk => ?_, tyX11_ok, nmX11, fun B k hk => ?_, fun E k v hk h => ?_, by decide⟩
  · unfold mFn
    rw [show (32 * 11 + k) / 32 = 11 by omega, show (32 * 11 + k) % 32 = k by omega]
    rfl
  · have hk : k < 19 := hk
    match k, hk with
    | 0, _ => rfl
    | 1, _ => rfl
    | 2, _ => rfl
    | 3, _ => rfl
    | 4, _ => rfl
    | 5, _ => rfl
    | 6, _ => rfl
    | 7, _ => rfl
    | 8, _ => rfl
    | 9, _ => rfl
    | 10, _ => rfl
    | 11, _ => rfl
    | 12, _ => rfl
    | 13, _ => rfl
    | 14, _ => rfl
    | 15, _ => rfl
    | 16, _ => rfl
    | 17, _ => rfl
    | 18, _ => rfl
    | k + 19, hk => exact absurd hk (by omega)
  · have hk : k < 19 := hk
    match k, hk with
    | 0, _ => exact m_fitI E v h
    | 1, _ => exact m_fitA E _ v h
    | 2, _ => exact m_fitA E _ v h
    | 3, _ => exact m_fitA E _ v h
    | 4, _ => exact m_fitA E _ v h
    | 5, _ => exact m_fitA E _ v h
    | 6, _ => exact m_fitA E _ v h
    | 7, _ => exact m_fitI E v h
    | 8, _ => exact m_fitA E _ v h
    | 9, _ => exact m_fitI E v h
    | 10, _ => exact m_fitI E v h
    | 11, _ => exact m_fitI E v h
    | 12, _ => exact m_fitI E v h
    | 13, _ => exact m_fitZ E v h
    | 14, _ => exact m_fitI E v h
    | 15, _ => exact m_fitI E v h
    | 16, _ => exact m_fitI E v h
    | 17, _ => exact m_fitA E _ v h
    | 18, _ => exact m_fitI E v h
    | k + 19, hk => exact absurd hk (by omega)
theorem mcls {c : Nat} (h : c < 12) : ∃ T ty, mClsOK c T ty := by
  match c, h with
  | 0, _ => exact ⟨_, _, mcls_0⟩
  | 1, _ => exact ⟨_, _, mcls_1⟩
  | 2, _ => exact ⟨_, _, mcls_2⟩
  | 3, _ => exact ⟨_, _, mcls_3⟩
  | 4, _ => exact ⟨_, _, mcls_4⟩
  | 5, _ => exact ⟨_, _, mcls_5⟩
  | 6, _ => exact ⟨_, _, mcls_6⟩
  | 7, _ => exact ⟨_, _, mcls_7⟩
  | 8, _ => exact ⟨_, _, mcls_8⟩
  | 9, _ => exact ⟨_, _, mcls_9⟩
  | 10, _ => exact ⟨_, _, mcls_10⟩
  | 11, _ => exact ⟨_, _, mcls_11⟩
  | c + 12, h => exact absurd h (by omega)
theorem mcls_ws {c : Nat} {T : u_T} {ty : Nat → FieldType} (hc : c < 12) (h : mClsOK c T ty) : ∀ w ∈ u_ws (mCn c) T (mnf c), w ∈ GW := by
  intro w hw
  obtain ⟨k, hk, rfl⟩ := List.mem_map.mp hw
  have hk := List.mem_range.mp hk
  have h1 := mlayw_in hc hk
  have h2 : (fun k => mFn (32 * c + k)) k = T k := h.2.1 k (Nat.lt_of_lt_of_le hk h.2.2.2.2.2.2)
  unfold u_lay at h1 ⊢
  rw [h2] at h1
  exact h1
