/-! ===== reading a memory behind writes ===== -/
theorem ms_e {d : mD} {a i v b j : Int} (h1 : b = a) (h2 : j = i) : mset d a i v b j = v := by simp [mset, h1, h2]
theorem ms_a {d : mD} {a i v b j : Int} (h : ¬ b = a) : mset d a i v b j = d b j := by simp [mset, h]
theorem ms_i {d : mD} {a i v b j : Int} (h : ¬ j = i) : mset d a i v b j = d b j := by simp [mset, h]
theorem mc_e {d : mD} {x y n b j : Int} (h : b = y) (h0 : 0 ≤ j) (h1 : j < n) : mcopy d x 0 y 0 n b j = d x j := by
  unfold mcopy
  rw [if_pos ⟨h, h0, by omega⟩]
  congr 1
  omega
theorem mc_n {d : mD} {x sp y dp n b j : Int} (h : ¬ b = y) : mcopy d x sp y dp n b j = d b j := by simp [mcopy, h]
theorem mc_o {d : mD} {x y n b j : Int} (h : j < 0 ∨ n ≤ j) : mcopy d x 0 y 0 n b j = d b j := by
  unfold mcopy
  rw [if_neg (by omega)]
theorem mf_e {d : mD} {a v b j : Int} (h : b = a) : mfill d a v b j = v := by simp [mfill, h]
theorem mf_n {d : mD} {a v b j : Int} (h : ¬ b = a) : mfill d a v b j = d b j := by simp [mfill, h]
