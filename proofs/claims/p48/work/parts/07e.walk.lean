/-! ===== the decode check, in one walk over a method's bytes ===== -/
theorem RBs_drop {b : ByteArray} : ∀ (k p : Nat) (l : List UInt8), RBs b p l → RBs b (p + k) (l.drop k)
  | 0, p, l, h => h
  | k + 1, p, [], _ => trivial
  | k + 1, p, _ :: l, h => by
    have e := RBs_drop k (p + 1) l h.2
    rw [show p + 1 + k = p + (k + 1) by omega] at e
    exact e
theorem RBs_all (b : ByteArray) : ∀ (l : List UInt8) (p : Nat), b.data.toList.drop p = l → RBs b p l
  | [], _, _ => trivial
  | a :: l, p, h => by
    have hp : p < b.data.toList.length := by
      rcases Nat.lt_or_ge p b.data.toList.length with h1 | h1
      · exact h1
      · rw [List.drop_eq_nil_iff.mpr h1] at h
        cases h
    have h2 : b.data.toList[p]? = some a := by
      have h3 := congrArg List.head? h
      rw [List.head?_drop] at h3
      exact h3
    refine ⟨⟨by simpa using hp, ?_⟩, RBs_all b l (p + 1) ?_⟩
    · have h4 := List.getElem?_eq_some_iff.mp h2
      obtain ⟨h5, h6⟩ := h4
      exact h6
    · rw [← List.tail_drop, h]
      rfl
theorem fdec_ok {b : ByteArray} {p : Nat} {l : List UInt8} {q : Instr × Nat} (h : RBs b p l) (hf : fdec l = some q) : decode b p = .ok q := by
  match l, h, hf with
  | a :: r, h, hf => exact fd1_ok h.1 h.2 hf
theorem mdecF {j p : Nat} {l : List UInt8} {q : Instr × Nat} (h : RBs (mb j) p l) (hf : fdec l = some q) : mdec j p = some q := by
  unfold mdec
  rw [fdec_ok h hf]
def mthrF (o : Nat) (l : List UInt8) (e : Nat) : Bool := match fdec l, fdec (l.drop 3), fdec (l.drop 4) with
  | some (.new ik, 3), some (.dup, 1), some (.ldc is, 2) => (match fdec (l.drop 6), fdec (l.drop 9) with
    | some (.invokespecial ic, 3), some (.athrow, 1) => (mXL o).contains (ik, is, ic, e)
    | _, _ => false)
  | some (.new ik, 3), some (.dup, 1), some (.ldc_w is, 3) => (match fdec (l.drop 7), fdec (l.drop 10) with
    | some (.invokespecial ic, 3), some (.athrow, 1) => (mXL o).contains (ik, is, ic, e)
    | _, _ => false)
  | _, _, _ => false
theorem mthrF_ok {j p e : Nat} {l : List UInt8} (h : RBs (mb j) p l) (o : Nat) (hf : mthrF o l e = true) : mthr j o p e = true := by
  unfold mthrF at hf
  unfold mthr
  split at hf
  · rename_i ik is h0 h3 h4
    rw [mdecF h h0, mdecF (RBs_drop 3 p l h) h3, mdecF (RBs_drop 4 p l h) h4]
    split at hf
    · rename_i ic h6 h9
      rw [mdecF (RBs_drop 6 p l h) h6, mdecF (RBs_drop 9 p l h) h9]
      exact hf
    · cases hf
  · rename_i ik is h0 h3 h4
    rw [mdecF h h0, mdecF (RBs_drop 3 p l h) h3, mdecF (RBs_drop 4 p l h) h4]
    split at hf
    · rename_i ic h6 h9
      rw [mdecF (RBs_drop 7 p l h) h6, mdecF (RBs_drop 10 p l h) h9]
      exact hf
    · cases hf
  · cases hf
def mckF (j pc : Nat) (l : List UInt8) : Bool := match mfetch j pc with
  | none => true
  | some (.checkcast e, _) => mthrF (mown j) l e && (mhh j).isEmpty
  | some (i, len) => match fdec l with
    | some (ia, l9) => mlok j i && (Nat.beq l9 len && mlnk ia l9 && (match mres j (mown j) pc ia with
      | some r => decide (r = i)
      | none => false))
    | none => mck j pc
theorem mckF_ok {j pc : Nat} {l : List UInt8} (h : RBs (mb j) pc l) (hf : mckF j pc l = true) : mck j pc = true := by
  unfold mckF at hf
  split at hf
  · rename_i hm
    unfold mck
    rw [hm]
  · rename_i e len hm
    unfold mck
    rw [hm]
    rw [Bool.and_eq_true] at hf
    dsimp only
    rw [mthrF_ok h _ hf.1, hf.2]
    rfl
  · rename_i i len hne hm
    split at hf
    · rename_i ia l9 hd
      unfold mck
      rw [hm]
      split
      · rename_i h9; cases h9
      · rename_i e9 l8 h9
        cases h9
        exact absurd rfl (hne _)
      · rename_i i9 len9 hnc h9
        cases h9
        rw [mdecF h hd]
        exact hf
    · exact hf
def fwalk (j : Nat) : List UInt8 → Nat → Bool
  | [], _ => true
  | a :: l, pc => mckF j pc (a :: l) && fwalk j l (Nat.succ pc)
theorem fwalk_ok {j : Nat} : ∀ (l : List UInt8) (pc : Nat), RBs (mb j) pc l → fwalk j l pc = true → ∀ k, k < l.length → mck j (pc + k) = true
  | [], _, _, _, _, hk => absurd hk (by simp)
  | a :: l, pc, h, hf, k, hk => by
    simp only [fwalk, Bool.and_eq_true] at hf
    match k, hk with
    | 0, _ => exact mckF_ok h hf.1
    | k + 1, hk =>
      have e := fwalk_ok l (pc + 1) h.2 hf.2 k (by simpa using hk)
      rw [show pc + 1 + k = pc + (k + 1) by omega] at e
      exact e
def mckW (j : Nat) : Bool := fwalk j (mb j).data.toList 0 && Nat.ble (mlen j) (mb j).data.toList.length
theorem mckW_ok {j pc : Nat} (h : mckW j = true) (hp : pc < mlen j) : mck j pc = true := by
  unfold mckW at h
  rw [Bool.and_eq_true] at h
  have h1 := Nat.le_of_ble_eq_true h.2
  have e := fwalk_ok _ 0 (RBs_all (mb j) _ 0 (by simp)) h.1 pc (by omega)
  rw [Nat.zero_add] at e
  exact e
def mckWs (lo n : Nat) : Bool := (List.range n).all (fun k => mckW (lo + k))
theorem mckWs_use {lo n j pc : Nat} (h : mckWs lo n = true) (h1 : lo ≤ j) (h2 : j < lo + n) (h3 : pc < mlen j) : mck j pc = true := by
  have h4 := List.all_eq_true.mp h (j - lo) (List.mem_range.mpr (by omega))
  rw [show lo + (j - lo) = j by omega] at h4
  exact mckW_ok h4 h3
