def mcws : List Jvm.Cond := (List.range 340).map (fun j => mcode (j + 1))
set_option maxRecDepth 200000 in
theorem mcws_eq : mcws = mp_code.tail.filterMap (fun p => (mtk (p / 1000))[p % 1000]?) := rfl
theorem mcode_good (j : Nat) : goodWord (mcode j) = true := by
  unfold mcode
  split <;> rfl
theorem mcode_in {j : Nat} (h0 : 0 < j) (h : j < 341) : mcode j ∈ GW := by
  have h1 : mcode j ∈ mcws := List.mem_map.mpr ⟨j - 1, List.mem_range.mpr (by omega), by rw [show j - 1 + 1 = j by omega]⟩
  rw [mcws_eq] at h1
  obtain ⟨p, -, hp⟩ := List.mem_filterMap.mp h1
  exact List.mem_filter.mpr ⟨mtk_in (List.mem_of_getElem? hp), mcode_good j⟩
theorem mJ_of {j : Nat} (h0 : 0 < j) (h : j < 341) : mJm j = true := by
  have h1 := List.all_eq_true.mp mJm_ok j (List.mem_range.mpr h)
  have h2 : Nat.beq j 0 = false := by
    cases j with
    | zero => omega
    | succ n => rfl
  rw [h2, Bool.false_or] at h1
  exact h1
