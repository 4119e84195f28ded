/-! ===== pure facts of the printed values, by adequacy ===== -/
theorem p_297 {E : mO × tW} {d : mD} {x0 : Int} (hS : Safe d) (ha : tokL E.2 [.inl (1, x0)]) (hh : tSh E.2 d) : tSh E.2 d ∧ ((0 ≤ (v_297 x0 d) ∧ (v_297 x0 d) ≤ 127)) :=
  tAdq (E := E) ha hh (k_297 hS (fun z0 => fun hsh => ⟨hsh, z0⟩))
theorem p_298 {E : mO × tW} {d : mD} {x0 : Int} (hS : Safe d) (ha : tokL E.2 [.inl (0, x0)]) (hh : tSh E.2 d) : tSh E.2 d ∧ ((0 ≤ (v_298 x0 d) ∧ (v_298 x0 d) ≤ 63)) :=
  tAdq (E := E) ha hh (k_298 hS (fun z0 => fun hsh => ⟨hsh, z0⟩))
theorem p_299 {E : mO × tW} {d : mD} {x0 x1 : Int} (hS : Safe d) (hr : ∀ i, rg (tcd x0) i x1) (ha : tokL E.2 [.inr (18, x0), .inl (0, x1)]) (hh : tSh E.2 d) : tSh E.2 (g_299 x0 x1 d) ∧ ((∀ b : Int, (b < x0 ∨ x0 < b) → (g_299 x0 x1 d) b = d b)) ∧ (Safe (g_299 x0 x1 d)) :=
  tAdq (E := E) ha hh (k_299 hS hr (fun z0 z1 => fun hsh => ⟨hsh, z0, z1⟩))
theorem p_300 {E : mO × tW} {d : mD} {x0 x1 : Int} (hS : Safe d) (hr : ∀ i, rg (tcd x0) i x1) (ha : tokL E.2 [.inr (20, x0), .inl (1, x1)]) (hh : tSh E.2 d) : tSh E.2 (g_300 x0 x1 d) ∧ ((∀ b : Int, (b < x0 ∨ x0 < b) → (g_300 x0 x1 d) b = d b)) ∧ (Safe (g_300 x0 x1 d)) :=
  tAdq (E := E) ha hh (k_300 hS hr (fun z0 z1 => fun hsh => ⟨hsh, z0, z1⟩))
theorem p_6 {E : mO × tW} {d : mD} {x0 x1 : Int} (hS : Safe d) (hx0 : hsB x0) (p1 : -2147483648 ≤ x1 ∧ x1 ≤ 2147483647) (ha : tokL E.2 [.inr (1, x0), .inl (0, x1)]) (hh : tSh E.2 d) : tSh E.2 d ∧ ((0 ≤ (v_6 x0 x1 d) ∧ (v_6 x0 x1 d) ≤ 1)) :=
  tAdq (E := E) ha hh (k_6 hS hx0 p1 (fun z0 => fun hsh => ⟨hsh, z0⟩))
theorem p_7 {E : mO × tW} {d : mD} {x0 x1 : Int} (hS : Safe d) (hx0 : hsB x0) (p1 : -2147483648 ≤ x1 ∧ x1 ≤ 2147483647) (ha : tokL E.2 [.inr (1, x0), .inl (0, x1)]) (hh : tSh E.2 d) : tSh E.2 (g_7 x0 x1 d) ∧ ((∀ b : Int, (b < x0 + 1 ∨ x0 + 1 < b) → (g_7 x0 x1 d) b = d b)) ∧ (Safe (g_7 x0 x1 d)) :=
  tAdq (E := E) ha hh (k_7 hS hx0 p1 (fun z0 z1 => fun hsh => ⟨hsh, z0, z1⟩))
theorem p_8 {E : mO × tW} {d : mD} {x0 : Int} (hS : Safe d) (hx0 : hsB x0) (ha : tokL E.2 [.inr (1, x0)]) (hh : tSh E.2 d) : tSh E.2 (g_8 x0 d) ∧ ((∀ b : Int, (b < x0 + 1 ∨ x0 + 1 < b) → (g_8 x0 d) b = d b)) ∧ (Safe (g_8 x0 d)) :=
  tAdq (E := E) ha hh (k_8 hS hx0 (fun z0 z1 => fun hsh => ⟨hsh, z0, z1⟩))
theorem p_9 {E : mO × tW} {d : mD} {x0 : Int} (hS : Safe d) (hx0 : hsB x0) (ha : tokL E.2 [.inr (1, x0)]) (hh : tSh E.2 d) : tSh E.2 d ∧ ((0 ≤ (v_9 x0 d) ∧ (v_9 x0 d) ≤ 2032)) :=
  tAdq (E := E) ha hh (k_9 hS hx0 (fun z0 => fun hsh => ⟨hsh, z0⟩))
theorem p_10 {E : mO × tW} {d : mD} {x0 x1 : Int} (hS : Safe d) (hx0 : hsB x0) (hx1 : hsB x1) (ha : tokL E.2 [.inr (1, x0), .inr (1, x1)]) (hh : tSh E.2 d) : tSh E.2 d ∧ ((0 ≤ (v_10 x0 x1 d) ∧ (v_10 x0 x1 d) ≤ 2032)) :=
  tAdq (E := E) ha hh (k_10 hS hx0 hx1 (fun z0 => fun hsh => ⟨hsh, z0⟩))
theorem p_11 {E : mO × tW} {d : mD} {x0 x1 : Int} (hS : Safe d) (hx0 : hsB x0) (hx1 : hsB x1) (ha : tokL E.2 [.inr (1, x0), .inr (1, x1)]) (hh : tSh E.2 d) : tSh E.2 (g_11 x0 x1 d) ∧ ((∀ b : Int, (b < x0 + 1 ∨ x0 + 1 < b) → (g_11 x0 x1 d) b = d b)) ∧ (Safe (g_11 x0 x1 d)) :=
  tAdq (E := E) ha hh (k_11 hS hx0 hx1 (fun z0 z1 => fun hsh => ⟨hsh, z0, z1⟩))
theorem p_34 {E : mO × tW} {d : mD} {x0 x1 : Int} (hS : Safe d) (hx0 : ofB x0) (hx1 : ofB x1) (ha : tokL E.2 [.inr (3, x0), .inr (3, x1)]) (hh : tSh E.2 d) : tSh E.2 (g_34 x0 x1 d) ∧ ((∀ b : Int, (b < x0 ∨ x0 + 7 < b) → (g_34 x0 x1 d) b = d b)) ∧ (Safe (g_34 x0 x1 d)) :=
  tAdq (E := E) ha hh (k_34 hS hx0 hx1 (fun z0 z1 => fun hsh => ⟨hsh, z0, z1⟩))
theorem p_35 {E : mO × tW} {d : mD} {x0 x1 x2 x3 x4 : Int} (hS : Safe d) (hx0 : ofB x0) (p1 : 0 ≤ x1 ∧ x1 ≤ 1073741823) (p2 : 0 ≤ x2 ∧ x2 ≤ 4) (p3 : 0 ≤ x3 ∧ x3 ≤ 6) (p4 : 0 ≤ x4 ∧ x4 ≤ 20) (ha : tokL E.2 [.inr (3, x0), .inl (0, x1), .inl (0, x2), .inl (0, x3), .inl (0, x4)]) (hh : tSh E.2 d) : tSh E.2 (g_35 x0 x1 x2 x3 x4 d) ∧ ((∀ b : Int, (b < x0 ∨ x0 + 6 < b) → (g_35 x0 x1 x2 x3 x4 d) b = d b)) ∧ (Safe (g_35 x0 x1 x2 x3 x4 d)) :=
  tAdq (E := E) ha hh (k_35 hS hx0 p1 p2 p3 p4 (fun z0 z1 => fun hsh => ⟨hsh, z0, z1⟩))
theorem p_36 {E : mO × tW} {d : mD} {x0 x1 : Int} (hS : Safe d) (hx0 : ofB x0) (p1 : -2147483648 ≤ x1 ∧ x1 ≤ 2147483647) (ha : tokL E.2 [.inr (3, x0), .inl (0, x1)]) (hh : tSh E.2 d) : tSh E.2 d ∧ ((-1 ≤ (v_36 x0 x1 d) ∧ (v_36 x0 x1 d) ≤ 5)) :=
  tAdq (E := E) ha hh (k_36 hS hx0 p1 (fun z0 => fun hsh => ⟨hsh, z0⟩))
theorem p_37 {E : mO × tW} {d : mD} {x0 : Int} (hS : Safe d) (hx0 : ofB x0) (ha : tokL E.2 [.inr (3, x0)]) (hh : tSh E.2 d) : tSh E.2 d ∧ ((0 ≤ (v_37 x0 d) ∧ (v_37 x0 d) ≤ 6)) :=
  tAdq (E := E) ha hh (k_37 hS hx0 (fun z0 => fun hsh => ⟨hsh, z0⟩))
theorem p_38 {E : mO × tW} {d : mD} {x0 x1 x2 : Int} (hS : Safe d) (hx0 : ofB x0) (p1 : 0 ≤ x1 ∧ x1 ≤ 5) (p2 : 0 ≤ x2 ∧ x2 ≤ 15) (ha : tokL E.2 [.inr (3, x0), .inl (0, x1), .inl (0, x2)]) (hh : tSh E.2 d) : tSh E.2 d ∧ ((0 ≤ (v_38 x0 x1 x2 d) ∧ (v_38 x0 x1 x2 d) ≤ 59)) :=
  tAdq (E := E) ha hh (k_38 hS hx0 p1 p2 (fun z0 => fun hsh => ⟨hsh, z0⟩))
theorem p_39 {E : mO × tW} {d : mD} {x0 x1 x2 : Int} (hS : Safe d) (hx0 : ofB x0) (p1 : 0 ≤ x1 ∧ x1 ≤ 5) (p2 : -2147483648 ≤ x2 ∧ x2 ≤ 2147483647) (ha : tokL E.2 [.inr (3, x0), .inl (0, x1), .inl (0, x2)]) (hh : tSh E.2 d) : tSh E.2 d ∧ ((-1 ≤ (v_39 x0 x1 x2 d) ∧ (v_39 x0 x1 x2 d) ≤ 15)) :=
  tAdq (E := E) ha hh (k_39 hS hx0 p1 p2 (fun z0 => fun hsh => ⟨hsh, z0⟩))
theorem p_40 {E : mO × tW} {d : mD} {x0 x1 x2 x3 : Int} (hS : Safe d) (hx0 : ofB x0) (p1 : 0 ≤ x1 ∧ x1 ≤ 5) (p2 : -2147483648 ≤ x2 ∧ x2 ≤ 2147483647) (p3 : 0 ≤ x3 ∧ x3 ≤ 59) (ha : tokL E.2 [.inr (3, x0), .inl (0, x1), .inl (0, x2), .inl (0, x3)]) (hh : tSh E.2 d) : tSh E.2 (g_40 x0 x1 x2 x3 d) ∧ ((∀ b : Int, (b < x0 + 6 ∨ x0 + 7 < b) → (g_40 x0 x1 x2 x3 d) b = d b)) ∧ (Safe (g_40 x0 x1 x2 x3 d)) :=
  tAdq (E := E) ha hh (k_40 hS hx0 p1 p2 p3 (fun z0 z1 => fun hsh => ⟨hsh, z0, z1⟩))
theorem p_41 {E : mO × tW} {d : mD} {x0 x1 x2 : Int} (hS : Safe d) (hx0 : ofB x0) (p1 : 0 ≤ x1 ∧ x1 ≤ 5) (p2 : -2147483648 ≤ x2 ∧ x2 ≤ 2147483647) (ha : tokL E.2 [.inr (3, x0), .inl (0, x1), .inl (0, x2)]) (hh : tSh E.2 d) : tSh E.2 (g_41 x0 x1 x2 d) ∧ ((∀ b : Int, (b < x0 + 6 ∨ x0 + 7 < b) → (g_41 x0 x1 x2 d) b = d b)) ∧ (Safe (g_41 x0 x1 x2 d)) :=
  tAdq (E := E) ha hh (k_41 hS hx0 p1 p2 (fun z0 z1 => fun hsh => ⟨hsh, z0, z1⟩))
theorem p_42 {E : mO × tW} {d : mD} {x0 x1 x2 : Int} (hS : Safe d) (hx0 : ofB x0) (p1 : 0 ≤ x1 ∧ x1 ≤ 5) (p2 : 0 ≤ x2 ∧ x2 ≤ 1199) (ha : tokL E.2 [.inr (3, x0), .inl (0, x1), .inl (0, x2)]) (hh : tSh E.2 d) : tSh E.2 d ∧ ((0 ≤ (v_42 x0 x1 x2 d) ∧ (v_42 x0 x1 x2 d) ≤ 4)) :=
  tAdq (E := E) ha hh (k_42 hS hx0 p1 p2 (fun z0 => fun hsh => ⟨hsh, z0⟩))
theorem p_43 {E : mO × tW} {d : mD} {x0 x1 x2 x3 : Int} (hS : Safe d) (hx0 : ofB x0) (p1 : 0 ≤ x1 ∧ x1 ≤ 5) (p2 : 0 ≤ x2 ∧ x2 ≤ 16) (p3 : 0 ≤ x3 ∧ x3 ≤ 1199) (ha : tokL E.2 [.inr (3, x0), .inl (0, x1), .inl (0, x2), .inl (0, x3)]) (hh : tSh E.2 d) : tSh E.2 d ∧ ((1 ≤ (v_43 x0 x1 x2 x3 d) ∧ (v_43 x0 x1 x2 x3 d) ≤ 102)) :=
  tAdq (E := E) ha hh (k_43 hS hx0 p1 p2 p3 (fun z0 => fun hsh => ⟨hsh, z0⟩))
theorem p_44 {E : mO × tW} {d : mD} {x0 x1 x2 x3 : Int} (hS : Safe d) (hx0 : ofB x0) (p1 : 0 ≤ x1 ∧ x1 ≤ 5) (p2 : 0 ≤ x2 ∧ x2 ≤ 200) (p3 : 0 ≤ x3 ∧ x3 ≤ 1199) (ha : tokL E.2 [.inr (3, x0), .inl (0, x1), .inl (0, x2), .inl (0, x3)]) (hh : tSh E.2 d) : tSh E.2 d ∧ ((0 ≤ (v_44 x0 x1 x2 x3 d) ∧ (v_44 x0 x1 x2 x3 d) ≤ 16)) :=
  tAdq (E := E) ha hh (k_44 hS hx0 p1 p2 p3 (fun z0 => fun hsh => ⟨hsh, z0⟩))
theorem p_46 {E : mO × tW} {d : mD} {x0 x1 : Int} (hS : Safe d) (hx0 : peB x0) (hx1 : peB x1) (ha : tokL E.2 [.inr (4, x0), .inr (4, x1)]) (hh : tSh E.2 d) : tSh E.2 (g_46 x0 x1 d) ∧ ((∀ b : Int, (b < x0 ∨ x0 + 5 < b) ∧ (b < x0 + 8 ∨ x0 + 38 < b) → (g_46 x0 x1 d) b = d b)) ∧ (Safe (g_46 x0 x1 d)) :=
  tAdq (E := E) ha hh (k_46 hS hx0 hx1 (fun z0 z1 => fun hsh => ⟨hsh, z0, z1⟩))
theorem p_47 {E : mO × tW} {d : mD} {x0 x1 : Int} (hS : Safe d) (hx0 : peB x0) (p1 : 0 ≤ x1 ∧ x1 ≤ 1073741823) (ha : tokL E.2 [.inr (4, x0), .inl (0, x1)]) (hh : tSh E.2 d) : tSh E.2 (g_47 x0 x1 d) ∧ ((∀ b : Int, (b < x0 ∨ x0 + 5 < b) ∧ (b < x0 + 8 ∨ x0 + 38 < b) → (g_47 x0 x1 d) b = d b)) ∧ (Safe (g_47 x0 x1 d)) :=
  tAdq (E := E) ha hh (k_47 hS hx0 p1 (fun z0 z1 => fun hsh => ⟨hsh, z0, z1⟩))
theorem p_48 {E : mO × tW} {d : mD} {x0 x1 : Int} (hS : Safe d) (hx0 : peB x0) (p1 : -2147483648 ≤ x1 ∧ x1 ≤ 2147483647) (ha : tokL E.2 [.inr (4, x0), .inl (0, x1)]) (hh : tSh E.2 d) : tSh E.2 d ∧ ((-1 ≤ (v_48 x0 x1 d) ∧ (v_48 x0 x1 d) ≤ 15)) :=
  tAdq (E := E) ha hh (k_48 hS hx0 p1 (fun z0 => fun hsh => ⟨hsh, z0⟩))
theorem p_49 {E : mO × tW} {d : mD} {x0 : Int} (hS : Safe d) (hx0 : peB x0) (ha : tokL E.2 [.inr (4, x0)]) (hh : tSh E.2 d) : tSh E.2 (g_49 x0 d) ∧ ((∀ b : Int, (b < x0 + 3 ∨ x0 + 5 < b) → (g_49 x0 d) b = d b)) ∧ (Safe (g_49 x0 d)) :=
  tAdq (E := E) ha hh (k_49 hS hx0 (fun z0 z1 => fun hsh => ⟨hsh, z0, z1⟩))
theorem p_95 {E : mO × tW} {d : mD} {x0 x1 : Int} (hS : Safe d) (hx0 : tiB x0) (hx1 : tiB x1) (ha : tokL E.2 [.inr (8, x0), .inr (8, x1)]) (hh : tSh E.2 d) : tSh E.2 (g_95 x0 x1 d) ∧ ((∀ b : Int, (b < x0 ∨ x0 + 7 < b) → (g_95 x0 x1 d) b = d b)) ∧ (Safe (g_95 x0 x1 d)) :=
  tAdq (E := E) ha hh (k_95 hS hx0 hx1 (fun z0 z1 => fun hsh => ⟨hsh, z0, z1⟩))
theorem p_96 {E : mO × tW} {d : mD} {x0 x1 x2 x3 : Int} (hS : Safe d) (hx0 : tiB x0) (p1 : 0 ≤ x1 ∧ x1 ≤ 15) (p2 : 0 ≤ x2 ∧ x2 ≤ 5) (p3 : 0 ≤ x3 ∧ x3 ≤ 999) (ha : tokL E.2 [.inr (8, x0), .inl (0, x1), .inl (0, x2), .inl (0, x3)]) (hh : tSh E.2 d) : tSh E.2 (g_96 x0 x1 x2 x3 d) ∧ ((∀ b : Int, (b < x0 ∨ x0 + 7 < b) → (g_96 x0 x1 x2 x3 d) b = d b)) ∧ (Safe (g_96 x0 x1 x2 x3 d)) :=
  tAdq (E := E) ha hh (k_96 hS hx0 p1 p2 p3 (fun z0 z1 => fun hsh => ⟨hsh, z0, z1⟩))
theorem p_97 {E : mO × tW} {d : mD} {x0 x1 x2 x3 : Int} (hS : Safe d) (hx0 : tiB x0) (p1 : 0 ≤ x1 ∧ x1 ≤ 59) (p2 : 0 ≤ x2 ∧ x2 ≤ 2) (p3 : 0 ≤ x3 ∧ x3 ≤ 1199) (ha : tokL E.2 [.inr (8, x0), .inl (0, x1), .inl (0, x2), .inl (0, x3)]) (hh : tSh E.2 d) : tSh E.2 (g_97 x0 x1 x2 x3 d) ∧ ((∀ b : Int, (b < x0 + 4 ∨ x0 + 5 < b) → (g_97 x0 x1 x2 x3 d) b = d b)) ∧ (Safe (g_97 x0 x1 x2 x3 d)) :=
  tAdq (E := E) ha hh (k_97 hS hx0 p1 p2 p3 (fun z0 z1 => fun hsh => ⟨hsh, z0, z1⟩))
theorem p_98 {E : mO × tW} {d : mD} {x0 x1 x2 : Int} (hS : Safe d) (hx0 : tiB x0) (p1 : 0 ≤ x1 ∧ x1 ≤ 59) (p2 : 0 ≤ x2 ∧ x2 ≤ 1199) (ha : tokL E.2 [.inr (8, x0), .inl (0, x1), .inl (0, x2)]) (hh : tSh E.2 d) : tSh E.2 d ∧ ((0 ≤ (v_98 x0 x1 x2 d) ∧ (v_98 x0 x1 x2 d) ≤ 1199)) :=
  tAdq (E := E) ha hh (k_98 hS hx0 p1 p2 (fun z0 => fun hsh => ⟨hsh, z0⟩))
theorem p_99 {E : mO × tW} {d : mD} {x0 x1 x2 : Int} (hS : Safe d) (hx0 : tiB x0) (p1 : 0 ≤ x1 ∧ x1 ≤ 59) (p2 : -2147483648 ≤ x2 ∧ x2 ≤ 2147483647) (ha : tokL E.2 [.inr (8, x0), .inl (0, x1), .inl (0, x2)]) (hh : tSh E.2 d) : tSh E.2 d ∧ ((0 ≤ (v_99 x0 x1 x2 d) ∧ (v_99 x0 x1 x2 d) ≤ 1)) :=
  tAdq (E := E) ha hh (k_99 hS hx0 p1 p2 (fun z0 => fun hsh => ⟨hsh, z0⟩))
theorem p_100 {E : mO × tW} {d : mD} {x0 x1 : Int} (hS : Safe d) (hx0 : tiB x0) (p1 : -2147483648 ≤ x1 ∧ x1 ≤ 2147483647) (ha : tokL E.2 [.inr (8, x0), .inl (0, x1)]) (hh : tSh E.2 d) : tSh E.2 d ∧ ((-1 ≤ (v_100 x0 x1 d) ∧ (v_100 x0 x1 d) ≤ 59)) :=
  tAdq (E := E) ha hh (k_100 hS hx0 p1 (fun z0 => fun hsh => ⟨hsh, z0⟩))
theorem p_101 {E : mO × tW} {d : mD} {x0 x1 : Int} (hS : Safe d) (hx0 : tiB x0) (p1 : -2147483648 ≤ x1 ∧ x1 ≤ 2147483647) (ha : tokL E.2 [.inr (8, x0), .inl (0, x1)]) (hh : tSh E.2 d) : tSh E.2 d ∧ ((0 ≤ (v_101 x0 x1 d) ∧ (v_101 x0 x1 d) ≤ 60)) :=
  tAdq (E := E) ha hh (k_101 hS hx0 p1 (fun z0 => fun hsh => ⟨hsh, z0⟩))
theorem p_102 {E : mO × tW} {d : mD} {x0 x1 : Int} (hS : Safe d) (hx0 : tiB x0) (p1 : -2147483648 ≤ x1 ∧ x1 ≤ 2147483647) (ha : tokL E.2 [.inr (8, x0), .inl (0, x1)]) (hh : tSh E.2 d) : tSh E.2 d ∧ ((0 ≤ (v_102 x0 x1 d) ∧ (v_102 x0 x1 d) ≤ 60)) :=
  tAdq (E := E) ha hh (k_102 hS hx0 p1 (fun z0 => fun hsh => ⟨hsh, z0⟩))
theorem p_103 {E : mO × tW} {d : mD} {x0 x1 : Int} (hS : Safe d) (hx0 : tiB x0) (p1 : -2147483648 ≤ x1 ∧ x1 ≤ 2147483647) (ha : tokL E.2 [.inr (8, x0), .inl (0, x1)]) (hh : tSh E.2 d) : tSh E.2 d ∧ ((0 ≤ (v_103 x0 x1 d) ∧ (v_103 x0 x1 d) ≤ 60)) :=
  tAdq (E := E) ha hh (k_103 hS hx0 p1 (fun z0 => fun hsh => ⟨hsh, z0⟩))
theorem p_104 {E : mO × tW} {d : mD} {x0 x1 : Int} (hS : Safe d) (hx0 : tiB x0) (p1 : -2147483648 ≤ x1 ∧ x1 ≤ 2147483647) (ha : tokL E.2 [.inr (8, x0), .inl (0, x1)]) (hh : tSh E.2 d) : tSh E.2 d ∧ ((0 ≤ (v_104 x0 x1 d) ∧ (v_104 x0 x1 d) ≤ 60)) :=
  tAdq (E := E) ha hh (k_104 hS hx0 p1 (fun z0 => fun hsh => ⟨hsh, z0⟩))
theorem p_105 {E : mO × tW} {d : mD} {x0 x1 : Int} (hS : Safe d) (hx0 : tiB x0) (p1 : -2147483648 ≤ x1 ∧ x1 ≤ 2147483647) (ha : tokL E.2 [.inr (8, x0), .inl (0, x1)]) (hh : tSh E.2 d) : tSh E.2 d ∧ ((0 ≤ (v_105 x0 x1 d) ∧ (v_105 x0 x1 d) ≤ 60)) :=
  tAdq (E := E) ha hh (k_105 hS hx0 p1 (fun z0 => fun hsh => ⟨hsh, z0⟩))
theorem p_106 {E : mO × tW} {d : mD} {x0 : Int} (hS : Safe d) (hx0 : tiB x0) (ha : tokL E.2 [.inr (8, x0)]) (hh : tSh E.2 d) : tSh E.2 d ∧ ((-60000 ≤ (v_106 x0 d) ∧ (v_106 x0 d) ≤ 72000)) :=
  tAdq (E := E) ha hh (k_106 hS hx0 (fun z0 => fun hsh => ⟨hsh, z0⟩))
theorem p_108 {E : mO × tW} {d : mD} {x0 x1 : Int} (hS : Safe d) (hx0 : toB x0) (hx1 : toB x1) (ha : tokL E.2 [.inr (9, x0), .inr (9, x1)]) (hh : tSh E.2 d) : tSh E.2 (g_108 x0 x1 d) ∧ ((∀ b : Int, (b < x0 ∨ x0 + 5 < b) → (g_108 x0 x1 d) b = d b)) ∧ (Safe (g_108 x0 x1 d)) :=
  tAdq (E := E) ha hh (k_108 hS hx0 hx1 (fun z0 z1 => fun hsh => ⟨hsh, z0, z1⟩))
theorem p_109 {E : mO × tW} {d : mD} {x0 x1 x2 x3 : Int} (hS : Safe d) (hx0 : toB x0) (p1 : 0 ≤ x1 ∧ x1 ≤ 15) (p2 : 0 ≤ x2 ∧ x2 ≤ 59) (p3 : 0 ≤ x3 ∧ x3 ≤ 1300) (ha : tokL E.2 [.inr (9, x0), .inl (0, x1), .inl (0, x2), .inl (0, x3)]) (hh : tSh E.2 d) : tSh E.2 (g_109 x0 x1 x2 x3 d) ∧ ((∀ b : Int, (b < x0 ∨ x0 + 4 < b) → (g_109 x0 x1 x2 x3 d) b = d b)) ∧ (Safe (g_109 x0 x1 x2 x3 d)) :=
  tAdq (E := E) ha hh (k_109 hS hx0 p1 p2 p3 (fun z0 z1 => fun hsh => ⟨hsh, z0, z1⟩))
theorem p_110 {E : mO × tW} {d : mD} {x0 x1 : Int} (hS : Safe d) (hx0 : toB x0) (p1 : -2147483648 ≤ x1 ∧ x1 ≤ 2147483647) (ha : tokL E.2 [.inr (9, x0), .inl (0, x1)]) (hh : tSh E.2 d) : tSh E.2 d ∧ ((0 ≤ (v_110 x0 x1 d) ∧ (v_110 x0 x1 d) ≤ 200)) :=
  tAdq (E := E) ha hh (k_110 hS hx0 p1 (fun z0 => fun hsh => ⟨hsh, z0⟩))
theorem p_112 {E : mO × tW} {d : mD} {x0 x1 : Int} (hS : Safe d) (hx0 : toB x0) (p1 : -2147483648 ≤ x1 ∧ x1 ≤ 2147483647) (ha : tokL E.2 [.inr (9, x0), .inl (0, x1)]) (hh : tSh E.2 d) : tSh E.2 d ∧ ((0 ≤ (v_112 x0 x1 d) ∧ (v_112 x0 x1 d) ≤ 200)) :=
  tAdq (E := E) ha hh (k_112 hS hx0 p1 (fun z0 => fun hsh => ⟨hsh, z0⟩))
theorem p_111 {E : mO × tW} {d : mD} {x0 x1 x2 : Int} (hS : Safe d) (hx0 : toB x0) (p1 : -2147483648 ≤ x1 ∧ x1 ≤ 2147483647) (p2 : -2147483648 ≤ x2 ∧ x2 ≤ 2147483647) (ha : tokL E.2 [.inr (9, x0), .inl (0, x1), .inl (0, x2)]) (hh : tSh E.2 d) : tSh E.2 d ∧ ((0 ≤ (v_111 x0 x1 x2 d) ∧ (v_111 x0 x1 x2 d) ≤ 200)) :=
  tAdq (E := E) ha hh (k_111 hS hx0 p1 p2 (fun z0 => fun hsh => ⟨hsh, z0⟩))
theorem p_113 {E : mO × tW} {d : mD} {x0 x1 : Int} (hS : Safe d) (hx0 : toB x0) (p1 : -2147483648 ≤ x1 ∧ x1 ≤ 2147483647) (ha : tokL E.2 [.inr (9, x0), .inl (0, x1)]) (hh : tSh E.2 d) : tSh E.2 d ∧ ((-1 ≤ (v_113 x0 x1 d) ∧ (v_113 x0 x1 d) ≤ 199)) :=
  tAdq (E := E) ha hh (k_113 hS hx0 p1 (fun z0 => fun hsh => ⟨hsh, z0⟩))
theorem p_114 {E : mO × tW} {d : mD} {x0 x1 x2 x3 : Int} (hS : Safe d) (hx0 : toB x0) (p1 : 0 ≤ x1 ∧ x1 ≤ 15) (p2 : 0 ≤ x2 ∧ x2 ≤ 15) (p3 : 0 ≤ x3 ∧ x3 ≤ 200) (ha : tokL E.2 [.inr (9, x0), .inl (0, x1), .inl (0, x2), .inl (0, x3)]) (hh : tSh E.2 d) : tSh E.2 (g_114 x0 x1 x2 x3 d) ∧ ((∀ b : Int, (b < x0 + 1 ∨ x0 + 1 < b) → (g_114 x0 x1 x2 x3 d) b = d b)) ∧ (Safe (g_114 x0 x1 x2 x3 d)) :=
  tAdq (E := E) ha hh (k_114 hS hx0 p1 p2 p3 (fun z0 z1 => fun hsh => ⟨hsh, z0, z1⟩))
theorem p_115 {E : mO × tW} {d : mD} {x0 x1 x2 : Int} (hS : Safe d) (hx0 : toB x0) (p1 : 0 ≤ x1 ∧ x1 ≤ 15) (p2 : 0 ≤ x2 ∧ x2 ≤ 200) (ha : tokL E.2 [.inr (9, x0), .inl (0, x1), .inl (0, x2)]) (hh : tSh E.2 d) : tSh E.2 (g_115 x0 x1 x2 d) ∧ ((∀ b : Int, (b < x0 ∨ x0 < b) ∧ (b < x0 + 4 ∨ x0 + 5 < b) → (g_115 x0 x1 x2 d) b = d b)) ∧ (Safe (g_115 x0 x1 x2 d)) :=
  tAdq (E := E) ha hh (k_115 hS hx0 p1 p2 (fun z0 z1 => fun hsh => ⟨hsh, z0, z1⟩))
theorem p_116 {E : mO × tW} {d : mD} {x0 x1 : Int} (hS : Safe d) (hx0 : toB x0) (p1 : 0 ≤ x1 ∧ x1 ≤ 200) (hd : x1 ≤ d x0 5) (ha : tokL E.2 [.inr (9, x0), .inl (0, x1)]) (hh : tSh E.2 d) : tSh E.2 (g_116 x0 x1 d) ∧ ((∀ b : Int, (b < x0 ∨ x0 < b) ∧ (b < x0 + 5 ∨ x0 + 5 < b) → (g_116 x0 x1 d) b = d b)) ∧ (Safe (g_116 x0 x1 d)) :=
  tAdq (E := E) ha hh (k_116 hS hx0 p1 hd (fun z0 z1 => fun hsh => ⟨hsh, z0, z1⟩))
theorem p_58 {E : mO × tW} {d : mD} {x0 : Int} (hS : Safe d) (hx0 : stB x0) (ha : tokL E.2 [.inr (6, x0)]) (hh : tSh E.2 d) : tSh E.2 (g_58 x0 d) ∧ ((∀ b : Int, (b < x0 ∨ x0 < b) ∧ (b < x0 + 2 ∨ x0 + 2 < b) ∧ (b < x0 + 10 ∨ x0 + 10 < b) ∧ (b < x0 + 49 ∨ x0 + 49 < b) ∧ (b < x0 + 57 ∨ x0 + 57 < b) → (g_58 x0 d) b = d b)) ∧ (((g_58 x0 d) x0 2 = 0)) ∧ (Safe (g_58 x0 d)) :=
  tAdq (E := E) ha hh (k_58 hS hx0 (fun z0 z1 z2 => fun hsh => ⟨hsh, z0, z1, z2⟩))
theorem p_59 {E : mO × tW} {d : mD} {x0 x1 : Int} (hS : Safe d) (hx0 : stB x0) (hx1 : stB x1) (ht : x0 = 580 ∨ d x1 2 ≤ 999) (ha : tokL E.2 [.inr (6, x0), .inr (6, x1)]) (hh : tSh E.2 d) : tSh E.2 (g_59 x0 x1 d) ∧ ((∀ b : Int, (b < x0 ∨ x0 + 15 < b) ∧ (b < x0 + 18 ∨ x0 + 62 < b) → (g_59 x0 x1 d) b = d b)) ∧ ((g_59 x0 x1 d) x0 2 = d x1 2) ∧ (Safe (g_59 x0 x1 d)) :=
  tAdq (E := E) ha hh (k_59 hS hx0 hx1 ht (fun z0 z1 z2 => fun hsh => ⟨hsh, z0, z1, z2⟩))
theorem p_62 {E : mO × tW} {d : mD} {x0 x1 x2 : Int} (hS : Safe d) (hx0 : stB x0) (p1 : 0 ≤ x1 ∧ x1 ≤ 5) (p2 : -2147483648 ≤ x2 ∧ x2 ≤ 2147483647) (ha : tokL E.2 [.inr (6, x0), .inl (0, x1), .inl (0, x2)]) (hh : tSh E.2 d) : tSh E.2 d ∧ (((-1 ≤ (v_62 x0 x1 x2 d) ∧ (v_62 x0 x1 x2 d) ≤ 15) ∧ (v_62 x0 x1 x2 d) < d (x0 + 2 + 6) x1)) :=
  tAdq (E := E) ha hh (k_62 hS hx0 p1 p2 (fun z0 => fun hsh => ⟨hsh, z0⟩))
theorem p_60 {E : mO × tW} {d : mD} {x0 x1 x2 : Int} (hS : Safe d) (hx0 : stB x0) (p1 : -2147483648 ≤ x1 ∧ x1 ≤ 2147483647) (p2 : 0 ≤ x2 ∧ x2 ≤ 5) (ha : tokL E.2 [.inr (6, x0), .inl (0, x1), .inl (0, x2)]) (hh : tSh E.2 d) : tSh E.2 d ∧ (((0 ≤ (v_60 x0 x1 x2 d) ∧ (v_60 x0 x1 x2 d) ≤ 1) ∧ ((v_60 x0 x1 x2 d) = 0 ∨ d (x0 + 49) 0 ≤ 59))) :=
  tAdq (E := E) ha hh (k_60 hS hx0 p1 p2 (fun z0 => fun hsh => ⟨hsh, z0⟩))
theorem p_61 {E : mO × tW} {d : mD} {x0 x1 x2 : Int} (hS : Safe d) (hx0 : stB x0) (p1 : 0 ≤ x1 ∧ x1 ≤ 15) (p2 : 0 ≤ x2 ∧ x2 ≤ 5) (hc : d (x0 + 49) 0 ≤ 59) (ht : d x0 2 ≤ 999) (ha : tokL E.2 [.inr (6, x0), .inl (0, x1), .inl (0, x2)]) (hh : tSh E.2 d) : tSh E.2 (g_61 x0 x1 x2 d) ∧ ((0 ≤ (v_61 x0 x1 x2 d) ∧ (v_61 x0 x1 x2 d) ≤ 59)) ∧ ((∀ b : Int, (b < x0 + 8 ∨ x0 + 9 < b) ∧ (b < x0 + 49 ∨ x0 + 56 < b) → (g_61 x0 x1 x2 d) b = d b)) ∧ (Safe (g_61 x0 x1 x2 d)) :=
  tAdq (E := E) ha hh (k_61 hS hx0 p1 p2 hc ht (fun z0 z1 z2 => fun hsh => ⟨hsh, z0, z1, z2⟩))
theorem p_65 {E : mO × tW} {d : mD} {x0 x1 x2 : Int} (hS : Safe d) (hx0 : stB x0) (p1 : 0 ≤ x1 ∧ x1 ≤ 5) (p2 : -2147483648 ≤ x2 ∧ x2 ≤ 2147483647) (ha : tokL E.2 [.inr (6, x0), .inl (0, x1), .inl (0, x2)]) (hh : tSh E.2 d) : tSh E.2 d ∧ ((0 ≤ (v_65 x0 x1 x2 d) ∧ (v_65 x0 x1 x2 d) ≤ 16)) :=
  tAdq (E := E) ha hh (k_65 hS hx0 p1 p2 (fun z0 => fun hsh => ⟨hsh, z0⟩))
theorem p_64 {E : mO × tW} {d : mD} {x0 x1 x2 : Int} (hS : Safe d) (hx0 : stB x0) (p1 : 0 ≤ x1 ∧ x1 ≤ 5) (p2 : 0 ≤ x2 ∧ x2 ≤ 59) (ha : tokL E.2 [.inr (6, x0), .inl (0, x1), .inl (0, x2)]) (hh : tSh E.2 d) : tSh E.2 (g_64 x0 x1 x2 d) ∧ ((∀ b : Int, (b < x0 + 8 ∨ x0 + 9 < b) ∧ (b < x0 + 51 ∨ x0 + 51 < b) ∧ (b < x0 + 53 ∨ x0 + 54 < b) → (g_64 x0 x1 x2 d) b = d b)) ∧ (Safe (g_64 x0 x1 x2 d)) :=
  tAdq (E := E) ha hh (k_64 hS hx0 p1 p2 (fun z0 z1 => fun hsh => ⟨hsh, z0, z1⟩))
theorem p_63 {E : mO × tW} {d : mD} {x0 x1 x2 : Int} (hS : Safe d) (hx0 : stB x0) (p1 : 0 ≤ x1 ∧ x1 ≤ 5) (p2 : 0 ≤ x2 ∧ x2 ≤ 5) (ha : tokL E.2 [.inr (6, x0), .inl (0, x1), .inl (0, x2)]) (hh : tSh E.2 d) : tSh E.2 (g_63 x0 x1 x2 d) ∧ ((∀ b : Int, (b < x0 + 7 ∨ x0 + 9 < b) ∧ (b < x0 + 51 ∨ x0 + 51 < b) ∧ (b < x0 + 53 ∨ x0 + 54 < b) → (g_63 x0 x1 x2 d) b = d b)) ∧ (Safe (g_63 x0 x1 x2 d)) :=
  tAdq (E := E) ha hh (k_63 hS hx0 p1 p2 (fun z0 z1 => fun hsh => ⟨hsh, z0, z1⟩))
theorem p_66 {E : mO × tW} {d : mD} {x0 : Int} (hS : Safe d) (hx0 : stB x0) (ha : tokL E.2 [.inr (6, x0)]) (hh : tSh E.2 d) : tSh E.2 d ∧ ((-1 ≤ (v_66 x0 d) ∧ (v_66 x0 d) ≤ 2000)) :=
  tAdq (E := E) ha hh (k_66 hS hx0 (fun z0 => fun hsh => ⟨hsh, z0⟩))
theorem p_67 {E : mO × tW} {d : mD} {x0 x1 : Int} (hS : Safe d) (hx0 : stB x0) (p1 : 0 ≤ x1 ∧ x1 ≤ 200) (ha : tokL E.2 [.inr (6, x0), .inl (0, x1)]) (hh : tSh E.2 d) : tSh E.2 d ∧ (((0 ≤ (v_67 x0 x1 d) ∧ (v_67 x0 x1 d) ≤ 1) ∧ ((v_67 x0 x1 d) = 0 ∨ d x0 2 + x1 ≤ 999))) :=
  tAdq (E := E) ha hh (k_67 hS hx0 p1 (fun z0 => fun hsh => ⟨hsh, z0⟩))
theorem p_71 {E : mO × tW} {d : mD} {x0 x1 : Int} (hS : Safe d) (hx0 : stB x0) (p1 : 0 ≤ x1 ∧ x1 ≤ 59) (ha : tokL E.2 [.inr (6, x0), .inl (0, x1)]) (hh : tSh E.2 d) : tSh E.2 d ∧ ((0 ≤ (v_71 x0 x1 d) ∧ (v_71 x0 x1 d) ≤ 1199)) :=
  tAdq (E := E) ha hh (k_71 hS hx0 p1 (fun z0 => fun hsh => ⟨hsh, z0⟩))
theorem p_72 {E : mO × tW} {d : mD} {x0 x1 x2 : Int} (hS : Safe d) (hx0 : stB x0) (hx2 : hsB x2) (p1 : -2147483648 ≤ x1 ∧ x1 ≤ 2147483647) (ha : tokL E.2 [.inr (6, x0), .inl (0, x1), .inr (1, x2)]) (hh : tSh E.2 d) : tSh E.2 (g_72 x0 x1 x2 d) ∧ ((∀ b : Int, (b < x2 + 1 ∨ x2 + 1 < b) → (g_72 x0 x1 x2 d) b = d b)) ∧ (Safe (g_72 x0 x1 x2 d)) :=
  tAdq (E := E) ha hh (k_72 hS hx0 hx2 p1 (fun z0 z1 => fun hsh => ⟨hsh, z0, z1⟩))
theorem p_73 {E : mO × tW} {d : mD} {x0 x1 : Int} (hS : Safe d) (hx0 : stB x0) (p1 : 0 ≤ x1 ∧ x1 ≤ 59) (ha : tokL E.2 [.inr (6, x0), .inl (0, x1)]) (hh : tSh E.2 d) : tSh E.2 d ∧ ((0 ≤ (v_73 x0 x1 d) ∧ (v_73 x0 x1 d) ≤ 1)) :=
  tAdq (E := E) ha hh (k_73 hS hx0 p1 (fun z0 => fun hsh => ⟨hsh, z0⟩))
theorem p_79 {E : mO × tW} {d : mD} {x0 x1 : Int} (hS : Safe d) (hx0 : stB x0) (p1 : 0 ≤ x1 ∧ x1 ≤ 15) (ha : tokL E.2 [.inr (6, x0), .inl (0, x1)]) (hh : tSh E.2 d) : tSh E.2 d ∧ (((-99 ≤ (v_79 x0 x1 d) ∧ (v_79 x0 x1 d) ≤ 200) ∧ d (x0 + 10 + 3) x1 + (v_79 x0 x1 d) ≤ 99)) :=
  tAdq (E := E) ha hh (k_79 hS hx0 p1 (fun z0 => fun hsh => ⟨hsh, z0⟩))
theorem p_80 {E : mO × tW} {d : mD} {x0 x1 : Int} (hS : Safe d) (hx0 : stB x0) (p1 : 0 ≤ x1 ∧ x1 ≤ 59) (ha : tokL E.2 [.inr (6, x0), .inl (0, x1)]) (hh : tSh E.2 d) : tSh E.2 d ∧ ((0 ≤ (v_80 x0 x1 d) ∧ (v_80 x0 x1 d) ≤ 1300)) :=
  tAdq (E := E) ha hh (k_80 hS hx0 p1 (fun z0 => fun hsh => ⟨hsh, z0⟩))
theorem p_81 {E : mO × tW} {d : mD} {x0 x1 : Int} (hS : Safe d) (hx0 : stB x0) (p1 : 0 ≤ x1 ∧ x1 ≤ 59) (ha : tokL E.2 [.inr (6, x0), .inl (0, x1)]) (hh : tSh E.2 d) : tSh E.2 (g_81 x0 x1 d) ∧ ((0 ≤ (v_81 x0 x1 d) ∧ (v_81 x0 x1 d) ≤ 200)) ∧ ((∀ b : Int, (b < x0 + 13 ∨ x0 + 13 < b) ∧ (b < x0 + 18 ∨ x0 + 48 < b) ∧ (b < x0 + 57 ∨ x0 + 61 < b) → (g_81 x0 x1 d) b = d b)) ∧ (Safe (g_81 x0 x1 d)) :=
  tAdq (E := E) ha hh (k_81 hS hx0 p1 (fun z0 z1 z2 => fun hsh => ⟨hsh, z0, z1, z2⟩))
theorem p_82 {E : mO × tW} {d : mD} {x0 : Int} (hS : Safe d) (hx0 : stB x0) (ha : tokL E.2 [.inr (6, x0)]) (hh : tSh E.2 d) : tSh E.2 (g_82 x0 d) ∧ ((0 ≤ (v_82 x0 d) ∧ (v_82 x0 d) ≤ 200)) ∧ ((∀ b : Int, (b < x0 ∨ x0 < b) ∧ (b < x0 + 12 ∨ x0 + 12 < b) ∧ (b < x0 + 57 ∨ x0 + 57 < b) ∧ (b < x0 + 61 ∨ x0 + 62 < b) → (g_82 x0 d) b = d b)) ∧ ((g_82 x0 d) x0 2 = d x0 2) ∧ (Safe (g_82 x0 d)) :=
  tAdq (E := E) ha hh (k_82 hS hx0 (fun z0 z1 z2 z3 => fun hsh => ⟨hsh, z0, z1, z2, z3⟩))
theorem p_83 {E : mO × tW} {d : mD} {x0 x1 : Int} (hS : Safe d) (hx0 : stB x0) (p1 : -2147483648 ≤ x1 ∧ x1 ≤ 2147483647) (ha : tokL E.2 [.inr (6, x0), .inl (0, x1)]) (hh : tSh E.2 d) : tSh E.2 d ∧ ((0 ≤ (v_83 x0 x1 d) ∧ (v_83 x0 x1 d) ≤ 200)) :=
  tAdq (E := E) ha hh (k_83 hS hx0 p1 (fun z0 => fun hsh => ⟨hsh, z0⟩))
theorem p_84 {E : mO × tW} {d : mD} {x0 : Int} (hS : Safe d) (hx0 : stB x0) (ha : tokL E.2 [.inr (6, x0)]) (hh : tSh E.2 d) : tSh E.2 d ∧ ((0 ≤ (v_84 x0 d) ∧ (v_84 x0 d) ≤ 40000)) :=
  tAdq (E := E) ha hh (k_84 hS hx0 (fun z0 => fun hsh => ⟨hsh, z0⟩))
theorem p_76 {E : mO × tW} {d : mD} {x0 x1 : Int} (hS : Safe d) (hx0 : stB x0) (p1 : 0 ≤ x1 ∧ x1 ≤ 59) (ha : tokL E.2 [.inr (6, x0), .inl (0, x1)]) (hh : tSh E.2 d) : tSh E.2 (g_76 x0 x1 d) ∧ ((0 ≤ (v_76 x0 x1 d) ∧ (v_76 x0 x1 d) ≤ 200)) ∧ ((∀ b : Int, (b < x0 + 13 ∨ x0 + 13 < b) ∧ (b < x0 + 18 ∨ x0 + 48 < b) ∧ (b < x0 + 55 ∨ x0 + 55 < b) ∧ (b < x0 + 57 ∨ x0 + 61 < b) → (g_76 x0 x1 d) b = d b)) ∧ (Safe (g_76 x0 x1 d)) :=
  tAdq (E := E) ha hh (k_76 hS hx0 p1 (fun z0 z1 z2 => fun hsh => ⟨hsh, z0, z1, z2⟩))
theorem p_74 {E : mO × tW} {d : mD} {x0 x1 : Int} (hS : Safe d) (hx0 : stB x0) (p1 : 0 ≤ x1 ∧ x1 ≤ 59) (ha : tokL E.2 [.inr (6, x0), .inl (0, x1)]) (hh : tSh E.2 d) : tSh E.2 (g_74 x0 x1 d) ∧ ((0 ≤ (v_74 x0 x1 d) ∧ (v_74 x0 x1 d) ≤ 200)) ∧ ((∀ b : Int, (b < x0 + 13 ∨ x0 + 13 < b) ∧ (b < x0 + 18 ∨ x0 + 48 < b) ∧ (b < x0 + 55 ∨ x0 + 55 < b) ∧ (b < x0 + 57 ∨ x0 + 61 < b) → (g_74 x0 x1 d) b = d b)) ∧ (Safe (g_74 x0 x1 d)) :=
  tAdq (E := E) ha hh (k_74 hS hx0 p1 (fun z0 z1 z2 => fun hsh => ⟨hsh, z0, z1, z2⟩))
theorem p_75 {E : mO × tW} {d : mD} {x0 x1 x2 : Int} (hS : Safe d) (hx0 : stB x0) (p1 : 0 ≤ x1 ∧ x1 ≤ 59) (p2 : 0 ≤ x2 ∧ x2 ≤ 15) (hw : d (x0 + 10 + 4) x2 ≤ 2) (ha : tokL E.2 [.inr (6, x0), .inl (0, x1), .inl (0, x2)]) (hh : tSh E.2 d) : tSh E.2 (g_75 x0 x1 x2 d) ∧ ((0 ≤ (v_75 x0 x1 x2 d) ∧ (v_75 x0 x1 x2 d) ≤ 200)) ∧ ((∀ b : Int, (b < x0 + 13 ∨ x0 + 15 < b) ∧ (b < x0 + 18 ∨ x0 + 48 < b) ∧ (b < x0 + 55 ∨ x0 + 61 < b) → (g_75 x0 x1 x2 d) b = d b)) ∧ (Safe (g_75 x0 x1 x2 d)) :=
  tAdq (E := E) ha hh (k_75 hS hx0 p1 p2 hw (fun z0 z1 z2 => fun hsh => ⟨hsh, z0, z1, z2⟩))
theorem p_78 {E : mO × tW} {d : mD} {x0 x1 x2 : Int} (hS : Safe d) (hx0 : stB x0) (p1 : 0 ≤ x1 ∧ x1 ≤ 59) (p2 : -2147483648 ≤ x2 ∧ x2 ≤ 2147483647) (ha : tokL E.2 [.inr (6, x0), .inl (0, x1), .inl (0, x2)]) (hh : tSh E.2 d) : tSh E.2 d ∧ ((0 ≤ (v_78 x0 x1 x2 d) ∧ (v_78 x0 x1 x2 d) ≤ 2000)) :=
  tAdq (E := E) ha hh (k_78 hS hx0 p1 p2 (fun z0 => fun hsh => ⟨hsh, z0⟩))
theorem p_77 {E : mO × tW} {d : mD} {x0 x1 x2 : Int} (hS : Safe d) (hx0 : stB x0) (p1 : 0 ≤ x1 ∧ x1 ≤ 59) (p2 : 0 ≤ x2 ∧ x2 ≤ 15) (ha : tokL E.2 [.inr (6, x0), .inl (0, x1), .inl (0, x2)]) (hh : tSh E.2 d) : tSh E.2 d ∧ (((0 ≤ (v_77 x0 x1 x2 d) ∧ (v_77 x0 x1 x2 d) ≤ 7) ∧ (¬ (v_77 x0 x1 x2 d) = 0 ∨ d (x0 + 10 + 4) x2 ≤ 2))) :=
  tAdq (E := E) ha hh (k_77 hS hx0 p1 p2 (fun z0 => fun hsh => ⟨hsh, z0⟩))
theorem p_70 {E : mO × tW} {d : mD} {x0 : Int} (hS : Safe d) (hx0 : stB x0) (ha : tokL E.2 [.inr (6, x0)]) (hh : tSh E.2 d) : tSh E.2 (g_70 x0 d) ∧ ((∀ b : Int, (b < x0 + 13 ∨ x0 + 15 < b) ∧ (b < x0 + 18 ∨ x0 + 48 < b) ∧ (b < x0 + 57 ∨ x0 + 61 < b) → (g_70 x0 d) b = d b)) ∧ (Safe (g_70 x0 d)) :=
  tAdq (E := E) ha hh (k_70 hS hx0 (fun z0 z1 => fun hsh => ⟨hsh, z0, z1⟩))
theorem p_69 {E : mO × tW} {d : mD} {x0 x1 : Int} (hS : Safe d) (hx0 : stB x0) (p1 : 0 ≤ x1 ∧ x1 ≤ 5) (ha : tokL E.2 [.inr (6, x0), .inl (0, x1)]) (hh : tSh E.2 d) : tSh E.2 (g_69 x0 x1 d) ∧ ((0 ≤ (v_69 x0 x1 d) ∧ (v_69 x0 x1 d) ≤ 4)) ∧ ((∀ b : Int, (b < x0 + 8 ∨ x0 + 9 < b) ∧ (b < x0 + 53 ∨ x0 + 54 < b) → (g_69 x0 x1 d) b = d b)) ∧ (Safe (g_69 x0 x1 d)) :=
  tAdq (E := E) ha hh (k_69 hS hx0 p1 (fun z0 z1 z2 => fun hsh => ⟨hsh, z0, z1, z2⟩))
theorem p_68 {E : mO × tW} {d : mD} {x0 x1 : Int} (hS : Safe d) (hx0 : stB x0) (p1 : 0 ≤ x1 ∧ x1 ≤ 200) (ht : d x0 2 + x1 ≤ 1199) (hu : x0 = 580 ∨ d x0 2 + x1 ≤ 999) (ha : tokL E.2 [.inr (6, x0), .inl (0, x1)]) (hh : tSh E.2 d) : tSh E.2 (g_68 x0 x1 d) ∧ ((0 ≤ (v_68 x0 x1 d) ∧ (v_68 x0 x1 d) ≤ 4800)) ∧ ((∀ b : Int, (b < x0 ∨ x0 < b) ∧ (b < x0 + 8 ∨ x0 + 9 < b) ∧ (b < x0 + 12 ∨ x0 + 15 < b) ∧ (b < x0 + 18 ∨ x0 + 48 < b) ∧ (b < x0 + 53 ∨ x0 + 54 < b) ∧ (b < x0 + 57 ∨ x0 + 62 < b) → (g_68 x0 x1 d) b = d b)) ∧ (((g_68 x0 x1 d) x0 2 = d x0 2 + x1)) ∧ (Safe (g_68 x0 x1 d)) :=
  tAdq (E := E) ha hh (k_68 hS hx0 p1 ht hu (fun z0 z1 z2 z3 => fun hsh => ⟨hsh, z0, z1, z2, z3⟩))
theorem p_86 {E : mO × tW} {d : mD} {x0 x1 : Int} (hS : Safe d) (hx0 : txB x0) (ha : tokL E.2 [.inr (7, x0), .inl (0, x1)]) (hh : tSh E.2 d) : tSh E.2 (g_86 x0 x1 d) ∧ ((∀ b : Int, (b < x0 ∨ x0 + 1 < b) → (g_86 x0 x1 d) b = d b)) ∧ (Safe (g_86 x0 x1 d)) :=
  tAdq (E := E) ha hh (k_86 hS hx0 (fun z0 z1 => fun hsh => ⟨hsh, z0, z1⟩))
theorem p_87 {E : mO × tW} {d : mD} {x0 x1 : Int} (hS : Safe d) (hx0 : txB x0) (p1 : -2147483648 ≤ x1 ∧ x1 ≤ 2147483647) (ha : tokL E.2 [.inr (7, x0), .inl (0, x1)]) (hh : tSh E.2 d) : tSh E.2 (g_87 x0 x1 d) ∧ ((∀ b : Int, (b < x0 ∨ x0 + 1 < b) → (g_87 x0 x1 d) b = d b)) ∧ (Safe (g_87 x0 x1 d)) :=
  tAdq (E := E) ha hh (k_87 hS hx0 p1 (fun z0 z1 => fun hsh => ⟨hsh, z0, z1⟩))
theorem p_88 {E : mO × tW} {d : mD} {x0 x1 : Int} (hS : Safe d) (hx0 : txB x0) (p1 : -2147483648 ≤ x1 ∧ x1 ≤ 2147483647) (ha : tokL E.2 [.inr (7, x0), .inl (0, x1)]) (hh : tSh E.2 d) : tSh E.2 (g_88 x0 x1 d) ∧ ((∀ b : Int, (b < x0 ∨ x0 + 1 < b) → (g_88 x0 x1 d) b = d b)) ∧ (Safe (g_88 x0 x1 d)) :=
  tAdq (E := E) ha hh (k_88 hS hx0 p1 (fun z0 z1 => fun hsh => ⟨hsh, z0, z1⟩))
theorem p_89 {E : mO × tW} {d : mD} {x0 x1 : Int} (hS : Safe d) (hx0 : txB x0) (p1 : 0 ≤ x1 ∧ x1 ≤ 999) (ha : tokL E.2 [.inr (7, x0), .inl (0, x1)]) (hh : tSh E.2 d) : tSh E.2 (g_89 x0 x1 d) ∧ ((∀ b : Int, (b < x0 ∨ x0 + 1 < b) → (g_89 x0 x1 d) b = d b)) ∧ (Safe (g_89 x0 x1 d)) :=
  tAdq (E := E) ha hh (k_89 hS hx0 p1 (fun z0 z1 => fun hsh => ⟨hsh, z0, z1⟩))
theorem p_90 {E : mO × tW} {d : mD} {x0 x1 : Int} (hS : Safe d) (hx0 : txB x0) (p1 : 0 ≤ x1 ∧ x1 ≤ 999) (ha : tokL E.2 [.inr (7, x0), .inl (0, x1)]) (hh : tSh E.2 d) : tSh E.2 d ∧ ((0 ≤ (v_90 x0 x1 d) ∧ (v_90 x0 x1 d) ≤ 1)) :=
  tAdq (E := E) ha hh (k_90 hS hx0 p1 (fun z0 => fun hsh => ⟨hsh, z0⟩))
theorem p_91 {E : mO × tW} {d : mD} {x0 x1 : Int} (hS : Safe d) (hx0 : txB x0) (p1 : 0 ≤ x1 ∧ x1 ≤ 999) (ha : tokL E.2 [.inr (7, x0), .inl (0, x1)]) (hh : tSh E.2 d) : tSh E.2 d ∧ (((0 ≤ (v_91 x0 x1 d) ∧ (v_91 x0 x1 d) ≤ 1) ∧ ((v_91 x0 x1 d) = 0 ∨ (97 ≤ d (x0 + 1) x1 ∧ d (x0 + 1) x1 ≤ 122)))) :=
  tAdq (E := E) ha hh (k_91 hS hx0 p1 (fun z0 => fun hsh => ⟨hsh, z0⟩))
theorem p_92 {E : mO × tW} {d : mD} {x0 x1 : Int} (hS : Safe d) (hx0 : txB x0) (p1 : 0 ≤ x1 ∧ x1 ≤ 999) (ha : tokL E.2 [.inr (7, x0), .inl (0, x1)]) (hh : tSh E.2 d) : tSh E.2 d ∧ (((0 ≤ (v_92 x0 x1 d) ∧ (v_92 x0 x1 d) ≤ 1) ∧ ((v_92 x0 x1 d) = 0 ∨ (48 ≤ d (x0 + 1) x1 ∧ d (x0 + 1) x1 ≤ 57)))) :=
  tAdq (E := E) ha hh (k_92 hS hx0 p1 (fun z0 => fun hsh => ⟨hsh, z0⟩))
theorem p_93 {E : mO × tW} {d : mD} {x0 x1 x2 : Int} (hS : Safe d) (hx0 : txB x0) (p1 : 0 ≤ x1 ∧ x1 ≤ 1000) (p2 : 0 ≤ x2 ∧ x2 ≤ 1000) (ha : tokL E.2 [.inr (7, x0), .inl (0, x1), .inl (0, x2)]) (hh : tSh E.2 d) : tSh E.2 d ∧ ((-1 ≤ (v_93 x0 x1 x2 d) ∧ (v_93 x0 x1 x2 d) ≤ 1073741823)) :=
  tAdq (E := E) ha hh (k_93 hS hx0 p1 p2 (fun z0 => fun hsh => ⟨hsh, z0⟩))
theorem p_2 {E : mO × tW} {d : mD} {x0 x1 : Int} (hS : Safe d) (hx0 : hiB x0) (hx1 : stB x1) (ht : d x1 2 ≤ 999) (ha : tokL E.2 [.inr (0, x0), .inr (6, x1)]) (hh : tSh E.2 d) : tSh E.2 (g_2 x0 x1 d) ∧ ((∀ b : Int, (b < x0 ∨ x0 < b) ∧ (b < x0 + 2 ∨ x0 + 505 < b) → (g_2 x0 x1 d) b = d b)) ∧ (Safe (g_2 x0 x1 d)) :=
  tAdq (E := E) ha hh (k_2 hS hx0 hx1 ht (fun z0 z1 => fun hsh => ⟨hsh, z0, z1⟩))
theorem p_3 {E : mO × tW} {d : mD} {x0 x1 : Int} (hS : Safe d) (hx0 : hiB x0) (hx1 : stB x1) (hc : 1 ≤ d x0 2) (ha : tokL E.2 [.inr (0, x0), .inr (6, x1)]) (hh : tSh E.2 d) : tSh E.2 (g_3 x0 x1 d) ∧ ((∀ b : Int, (b < x0 ∨ x0 < b) ∧ (b < x1 ∨ x1 + 15 < b) ∧ (b < x1 + 18 ∨ x1 + 62 < b) → (g_3 x0 x1 d) b = d b)) ∧ (Safe (g_3 x0 x1 d)) :=
  tAdq (E := E) ha hh (k_3 hS hx0 hx1 hc (fun z0 z1 => fun hsh => ⟨hsh, z0, z1⟩))
theorem p_4 {E : mO × tW} {d : mD} {x0 : Int} (hS : Safe d) (hx0 : hiB x0) (ha : tokL E.2 [.inr (0, x0)]) (hh : tSh E.2 d) : tSh E.2 (g_4 x0 d) ∧ ((∀ b : Int, (b < x0 ∨ x0 < b) → (g_4 x0 d) b = d b)) ∧ (Safe (g_4 x0 d)) :=
  tAdq (E := E) ha hh (k_4 hS hx0 (fun z0 z1 => fun hsh => ⟨hsh, z0, z1⟩))
theorem p_173 {E : mO × tW} {d : mD} {x0 x1 : Int} (hS : Safe d) (hx0 : wbB x0) (p1 : 0 ≤ x1 ∧ x1 ≤ 5) (ha : tokL E.2 [.inr (10, x0), .inl (0, x1)]) (hh : tSh E.2 d) : tSh E.2 d ∧ ((-1 ≤ (v_173 x0 x1 d) ∧ (v_173 x0 x1 d) ≤ 200)) :=
  tAdq (E := E) ha hh (k_173 hS hx0 p1 (fun z0 => fun hsh => ⟨hsh, z0⟩))
theorem p_121 {E : mO × tW} {d : mD} {x0 : Int} (hS : Safe d) (hx0 : wbB x0) (ha : tokL E.2 [.inr (10, x0)]) (hh : tSh E.2 d) : tSh E.2 d ∧ ((0 ≤ (v_121 x0 d) ∧ (v_121 x0 d) ≤ 6)) :=
  tAdq (E := E) ha hh (k_121 hS hx0 (fun z0 => fun hsh => ⟨hsh, z0⟩))
theorem p_122 {E : mO × tW} {d : mD} {x0 : Int} (hS : Safe d) (hx0 : wbB x0) (ha : tokL E.2 [.inr (10, x0)]) (hh : tSh E.2 d) : tSh E.2 d ∧ ((-1 ≤ (v_122 x0 d) ∧ (v_122 x0 d) ≤ 1000)) :=
  tAdq (E := E) ha hh (k_122 hS hx0 (fun z0 => fun hsh => ⟨hsh, z0⟩))
theorem p_137 {E : mO × tW} {d : mD} {x0 : Int} (hS : Safe d) (hx0 : wbB x0) (ha : tokL E.2 [.inr (10, x0)]) (hh : tSh E.2 d) : tSh E.2 d ∧ ((-19800 ≤ (v_137 x0 d) ∧ (v_137 x0 d) ≤ 19800)) :=
  tAdq (E := E) ha hh (k_137 hS hx0 (fun z0 => fun hsh => ⟨hsh, z0⟩))
theorem p_141 {E : mO × tW} {d : mD} {x0 : Int} (hS : Safe d) (hx0 : wbB x0) (ha : tokL E.2 [.inr (10, x0)]) (hh : tSh E.2 d) : tSh E.2 d ∧ ((-600 ≤ (v_141 x0 d) ∧ (v_141 x0 d) ≤ 40200)) :=
  tAdq (E := E) ha hh (k_141 hS hx0 (fun z0 => fun hsh => ⟨hsh, z0⟩))
theorem p_139 {E : mO × tW} {d : mD} {x0 : Int} (hS : Safe d) (hx0 : wbB x0) (ha : tokL E.2 [.inr (10, x0)]) (hh : tSh E.2 d) : tSh E.2 (g_139 x0 d) ∧ ((∀ b : Int, (b < x0 + 575 ∨ x0 + 575 < b) → (g_139 x0 d) b = d b)) ∧ (Safe (g_139 x0 d)) :=
  tAdq (E := E) ha hh (k_139 hS hx0 (fun z0 z1 => fun hsh => ⟨hsh, z0, z1⟩))
theorem p_140 {E : mO × tW} {d : mD} {x0 : Int} (hS : Safe d) (hx0 : wbB x0) (ha : tokL E.2 [.inr (10, x0)]) (hh : tSh E.2 d) : tSh E.2 (g_140 x0 d) ∧ ((-1 ≤ (v_140 x0 d) ∧ (v_140 x0 d) ≤ 15)) ∧ ((∀ b : Int, (b < x0 + 575 ∨ x0 + 575 < b) → (g_140 x0 d) b = d b)) ∧ (Safe (g_140 x0 d)) :=
  tAdq (E := E) ha hh (k_140 hS hx0 (fun z0 z1 z2 => fun hsh => ⟨hsh, z0, z1, z2⟩))
theorem p_175 {E : mO × tW} {d : mD} {x0 : Int} (hS : Safe d) (hx0 : mdB x0) (ha : tokL E.2 [.inr (11, x0)]) (hh : tSh E.2 d) : tSh E.2 d ∧ ((0 ≤ (v_175 x0 d) ∧ (v_175 x0 d) ≤ 3)) :=
  tAdq (E := E) ha hh (k_175 hS hx0 (fun z0 => fun hsh => ⟨hsh, z0⟩))
theorem p_176 {E : mO × tW} {d : mD} {x0 x2 x4 : Int} (hS : Safe d) (p0 : -2147483648 ≤ x0 ∧ x0 ≤ 2147483647) (p1 : -2147483648 ≤ x2 ∧ x2 ≤ 2147483647) (p2 : -2147483648 ≤ x4 ∧ x4 ≤ 2147483647) (ha : tokL E.2 [.inl (1, x0), .inl (1, x2), .inl (1, x4)]) (hh : tSh E.2 d) : tSh E.2 d ∧ (((0 ≤ (v_176 x0 x2 x4 d) ∧ (v_176 x0 x2 x4 d) ≤ 1) ∧ ((v_176 x0 x2 x4 d) = 0 ∨ (x2 ≤ x0 ∧ x0 ≤ x4)) ∧ ((v_176 x0 x2 x4 d) = 1 ∨ x0 < x2 ∨ x4 < x0))) :=
  tAdq (E := E) ha hh (k_176 hS p0 p1 p2 (fun z0 => fun hsh => ⟨hsh, z0⟩))
theorem p_181 {E : mO × tW} {d : mD} {x0 x1 x2 x3 x4 : Int} (hS : Safe d) (hx0 : mdB x0) (p1 : 0 ≤ x1 ∧ x1 ≤ 387420488) (p2 : 0 ≤ x2 ∧ x2 ≤ 4) (p3 : 0 ≤ x3 ∧ x3 ≤ 6) (p4 : 0 ≤ x4 ∧ x4 ≤ 20) (ho : d (x0 + 1) 7 ≤ 5) (hpc : 1 ≤ x3) (hmp : mpP (d (x0 + 1))) (ha : tokL E.2 [.inr (11, x0), .inl (0, x1), .inl (0, x2), .inl (0, x3), .inl (0, x4)]) (hh : tSh E.2 d) : tSh E.2 (g_181 x0 x1 x2 x3 x4 d) ∧ ((∀ b : Int, (b < x0 + 1 ∨ x0 + 1 < b) → (g_181 x0 x1 x2 x3 x4 d) b = d b)) ∧ ((∀ i : Int, i = 0 ∨ (452 ≤ i ∧ i < 1916) → (g_181 x0 x1 x2 x3 x4 d) (x0 + 1) i = d (x0 + 1) i)) ∧ (mpP ((g_181 x0 x1 x2 x3 x4 d) (x0 + 1))) ∧ (Safe (g_181 x0 x1 x2 x3 x4 d)) :=
  tAdq (E := E) ha hh (k_181 hS hx0 p1 p2 p3 p4 ho hpc hmp (fun z0 z1 z2 z3 => fun hsh => ⟨hsh, z0, z1, z2, z3⟩))
theorem p_182 {E : mO × tW} {d : mD} {x0 x1 : Int} (hS : Safe d) (hx0 : mdB x0) (p1 : 0 ≤ x1 ∧ x1 ≤ 387420488) (ho : d (x0 + 1) 8 ≤ 15) (ha : tokL E.2 [.inr (11, x0), .inl (0, x1)]) (hh : tSh E.2 d) : tSh E.2 (g_182 x0 x1 d) ∧ ((∀ b : Int, (b < x0 + 1 ∨ x0 + 1 < b) → (g_182 x0 x1 d) b = d b)) ∧ ((∀ i : Int, i = 7 ∨ (12 ≤ i ∧ i < 420 ∧ (i - 12) % 68 = 2) ∨ i = 0 ∨ (452 ≤ i ∧ i < 1916) → (g_182 x0 x1 d) (x0 + 1) i = d (x0 + 1) i)) ∧ (Safe (g_182 x0 x1 d)) :=
  tAdq (E := E) ha hh (k_182 hS hx0 p1 ho (fun z0 z1 z2 => fun hsh => ⟨hsh, z0, z1, z2⟩))
theorem p_183 {E : mO × tW} {d : mD} {x0 x1 : Int} (hS : Safe d) (hx0 : mdB x0) (p1 : -2147483648 ≤ x1 ∧ x1 ≤ 2147483647) (ha : tokL E.2 [.inr (11, x0), .inl (0, x1)]) (hh : tSh E.2 d) : tSh E.2 d ∧ ((-1 ≤ (v_183 x0 x1 d) ∧ (v_183 x0 x1 d) ≤ 15)) :=
  tAdq (E := E) ha hh (k_183 hS hx0 p1 (fun z0 => fun hsh => ⟨hsh, z0⟩))
theorem p_184 {E : mO × tW} {d : mD} {x0 x1 : Int} (hS : Safe d) (hx0 : mdB x0) (p1 : -2147483648 ≤ x1 ∧ x1 ≤ 2147483647) (ha : tokL E.2 [.inr (11, x0), .inl (0, x1)]) (hh : tSh E.2 d) : tSh E.2 d ∧ ((-1 ≤ (v_184 x0 x1 d) ∧ (v_184 x0 x1 d) ≤ 5)) :=
  tAdq (E := E) ha hh (k_184 hS hx0 p1 (fun z0 => fun hsh => ⟨hsh, z0⟩))
theorem p_185 {E : mO × tW} {d : mD} {x0 x1 : Int} (hS : Safe d) (hx0 : mdB x0) (p1 : -2147483648 ≤ x1 ∧ x1 ≤ 2147483647) (hl : d x0 9 + 4 ≤ 1000) (ha : tokL E.2 [.inr (11, x0), .inl (0, x1)]) (hh : tSh E.2 d) : tSh E.2 (g_185 x0 x1 d) ∧ ((∀ b : Int, (b < x0 ∨ x0 < b) ∧ (b < x0 + 7 ∨ x0 + 7 < b) → (g_185 x0 x1 d) b = d b)) ∧ (((g_185 x0 x1 d) x0 9 = d x0 9 + 4)) ∧ (Safe (g_185 x0 x1 d)) :=
  tAdq (E := E) ha hh (k_185 hS hx0 p1 hl (fun z0 z1 z2 => fun hsh => ⟨hsh, z0, z1, z2⟩))
theorem p_186 {E : mO × tW} {d : mD} {x0 x1 x2 x3 x4 x5 : Int} (hS : Safe d) (hx0 : mdB x0) (p1 : -2147483648 ≤ x1 ∧ x1 ≤ 2147483647) (p2 : -2147483648 ≤ x2 ∧ x2 ≤ 2147483647) (p3 : -2147483648 ≤ x3 ∧ x3 ≤ 2147483647) (p4 : -2147483648 ≤ x4 ∧ x4 ≤ 2147483647) (p5 : -2147483648 ≤ x5 ∧ x5 ≤ 2147483647) (ha : tokL E.2 [.inr (11, x0), .inl (0, x1), .inl (0, x2), .inl (0, x3), .inl (0, x4), .inl (0, x5)]) (hh : tSh E.2 d) : tSh E.2 (g_186 x0 x1 x2 x3 x4 x5 d) ∧ ((0 ≤ (v_186 x0 x1 x2 x3 x4 x5 d) ∧ (v_186 x0 x1 x2 x3 x4 x5 d) ≤ 1000)) ∧ ((∀ b : Int, (b < x0 ∨ x0 < b) ∧ (b < x0 + 7 ∨ x0 + 7 < b) → (g_186 x0 x1 x2 x3 x4 x5 d) b = d b)) ∧ (Safe (g_186 x0 x1 x2 x3 x4 x5 d)) :=
  tAdq (E := E) ha hh (k_186 hS hx0 p1 p2 p3 p4 p5 (fun z0 z1 z2 => fun hsh => ⟨hsh, z0, z1, z2⟩))
theorem p_187 {E : mO × tW} {d : mD} {x0 x1 : Int} (hS : Safe d) (hx0 : mdB x0) (p1 : -2147483648 ≤ x1 ∧ x1 ≤ 2147483647) (ha : tokL E.2 [.inr (11, x0), .inl (0, x1)]) (hh : tSh E.2 d) : tSh E.2 (g_187 x0 x1 d) ∧ ((0 ≤ (v_187 x0 x1 d) ∧ (v_187 x0 x1 d) ≤ 1000)) ∧ ((∀ b : Int, (b < x0 ∨ x0 < b) → (g_187 x0 x1 d) b = d b)) ∧ (Safe (g_187 x0 x1 d)) :=
  tAdq (E := E) ha hh (k_187 hS hx0 p1 (fun z0 z1 z2 => fun hsh => ⟨hsh, z0, z1, z2⟩))
theorem p_190 {E : mO × tW} {d : mD} {x0 x1 : Int} (hS : Safe d) (hx0 : mdB x0) (p1 : 0 ≤ x1 ∧ x1 ≤ 1000) (ha : tokL E.2 [.inr (11, x0), .inl (0, x1)]) (hh : tSh E.2 d) : tSh E.2 d ∧ (((0 ≤ (v_190 x0 x1 d) ∧ (v_190 x0 x1 d) ≤ 1) ∧ ((v_190 x0 x1 d) = 0 ∨ (x1 < d x0 9 ∧ 97 ≤ d (x0 + 7) x1 ∧ d (x0 + 7) x1 ≤ 122)))) :=
  tAdq (E := E) ha hh (k_190 hS hx0 p1 (fun z0 => fun hsh => ⟨hsh, z0⟩))
theorem p_191 {E : mO × tW} {d : mD} {x0 x1 : Int} (hS : Safe d) (hx0 : mdB x0) (p1 : 0 ≤ x1 ∧ x1 ≤ 1000) (ha : tokL E.2 [.inr (11, x0), .inl (0, x1)]) (hh : tSh E.2 d) : tSh E.2 d ∧ (((0 ≤ (v_191 x0 x1 d) ∧ (v_191 x0 x1 d) ≤ 1) ∧ ((v_191 x0 x1 d) = 0 ∨ (x1 < d x0 9 ∧ 48 ≤ d (x0 + 7) x1 ∧ d (x0 + 7) x1 ≤ 57)))) :=
  tAdq (E := E) ha hh (k_191 hS hx0 p1 (fun z0 => fun hsh => ⟨hsh, z0⟩))
theorem p_201 {E : mO × tW} {d : mD} {x0 x1 : Int} (hS : Safe d) (hx0 : mdB x0) (p1 : -2147483648 ≤ x1 ∧ x1 ≤ 2147483647) (ha : tokL E.2 [.inr (11, x0), .inl (0, x1)]) (hh : tSh E.2 d) : tSh E.2 d ∧ ((-1 ≤ (v_201 x0 x1 d) ∧ (v_201 x0 x1 d) ≤ 60)) :=
  tAdq (E := E) ha hh (k_201 hS hx0 p1 (fun z0 => fun hsh => ⟨hsh, z0⟩))
theorem p_212 {E : mO × tW} {d : mD} {x0 x1 : Int} (hS : Safe d) (hx0 : mdB x0) (p1 : 0 ≤ x1 ∧ x1 ≤ 60) (ha : tokL E.2 [.inr (11, x0), .inl (0, x1)]) (hh : tSh E.2 d) : tSh E.2 d ∧ ((0 ≤ (v_212 x0 x1 d) ∧ (v_212 x0 x1 d) ≤ 1200)) :=
  tAdq (E := E) ha hh (k_212 hS hx0 p1 (fun z0 => fun hsh => ⟨hsh, z0⟩))
theorem p_213 {E : mO × tW} {d : mD} {x0 x1 : Int} (hS : Safe d) (hx0 : mdB x0) (p1 : 0 ≤ x1 ∧ x1 ≤ 60) (ha : tokL E.2 [.inr (11, x0), .inl (0, x1)]) (hh : tSh E.2 d) : tSh E.2 d ∧ ((0 ≤ (v_213 x0 x1 d) ∧ (v_213 x0 x1 d) ≤ 1200)) :=
  tAdq (E := E) ha hh (k_213 hS hx0 p1 (fun z0 => fun hsh => ⟨hsh, z0⟩))
theorem p_214 {E : mO × tW} {d : mD} {x0 x1 x2 : Int} (hS : Safe d) (hx0 : mdB x0) (p1 : 0 ≤ x1 ∧ x1 ≤ 60) (p2 : -2147483648 ≤ x2 ∧ x2 ≤ 2147483647) (ha : tokL E.2 [.inr (11, x0), .inl (0, x1), .inl (0, x2)]) (hh : tSh E.2 d) : tSh E.2 d ∧ ((0 ≤ (v_214 x0 x1 x2 d) ∧ (v_214 x0 x1 x2 d) ≤ 1)) :=
  tAdq (E := E) ha hh (k_214 hS hx0 p1 p2 (fun z0 => fun hsh => ⟨hsh, z0⟩))
theorem p_215 {E : mO × tW} {d : mD} {x0 x1 : Int} (hS : Safe d) (hx0 : mdB x0) (p1 : 0 ≤ x1 ∧ x1 ≤ 199) (ha : tokL E.2 [.inr (11, x0), .inl (0, x1)]) (hh : tSh E.2 d) : tSh E.2 d ∧ ((0 ≤ (v_215 x0 x1 d) ∧ (v_215 x0 x1 d) ≤ 15)) :=
  tAdq (E := E) ha hh (k_215 hS hx0 p1 (fun z0 => fun hsh => ⟨hsh, z0⟩))
theorem p_216 {E : mO × tW} {d : mD} {x0 x1 x2 : Int} (hS : Safe d) (hx0 : mdB x0) (p1 : -2147483648 ≤ x1 ∧ x1 ≤ 2147483647) (p2 : -2147483648 ≤ x2 ∧ x2 ≤ 2147483647) (ha : tokL E.2 [.inr (11, x0), .inl (0, x1), .inl (0, x2)]) (hh : tSh E.2 d) : tSh E.2 d ∧ ((0 ≤ (v_216 x0 x1 x2 d) ∧ (v_216 x0 x1 x2 d) ≤ 1)) :=
  tAdq (E := E) ha hh (k_216 hS hx0 p1 p2 (fun z0 => fun hsh => ⟨hsh, z0⟩))
theorem p_217 {E : mO × tW} {d : mD} {x0 x1 : Int} (hS : Safe d) (hx0 : mdB x0) (p1 : -2147483648 ≤ x1 ∧ x1 ≤ 2147483647) (ha : tokL E.2 [.inr (11, x0), .inl (0, x1)]) (hh : tSh E.2 d) : tSh E.2 d ∧ ((0 ≤ (v_217 x0 x1 d) ∧ (v_217 x0 x1 d) ≤ 200)) :=
  tAdq (E := E) ha hh (k_217 hS hx0 p1 (fun z0 => fun hsh => ⟨hsh, z0⟩))
theorem p_218 {E : mO × tW} {d : mD} {x0 x1 : Int} (hS : Safe d) (hx0 : mdB x0) (p1 : 0 ≤ x1 ∧ x1 ≤ 60) (ha : tokL E.2 [.inr (11, x0), .inl (0, x1)]) (hh : tSh E.2 d) : tSh E.2 (g_218 x0 x1 d) ∧ ((0 ≤ (v_218 x0 x1 d) ∧ (v_218 x0 x1 d) ≤ 1400)) ∧ ((∀ b : Int, (b < x0 + 1 ∨ x0 + 1 < b) → (g_218 x0 x1 d) b = d b)) ∧ ((∀ i : Int, (0 ≤ i ∧ i ≤ 9) ∨ (11 ≤ i ∧ i < 1916) → (g_218 x0 x1 d) (x0 + 1) i = d (x0 + 1) i)) ∧ (Safe (g_218 x0 x1 d)) :=
  tAdq (E := E) ha hh (k_218 hS hx0 p1 (fun z0 z1 z2 z3 => fun hsh => ⟨hsh, z0, z1, z2, z3⟩))
theorem p_219 {E : mO × tW} {d : mD} {x0 : Int} (hS : Safe d) (hx0 : mdB x0) (ha : tokL E.2 [.inr (11, x0)]) (hh : tSh E.2 d) : tSh E.2 (g_219 x0 d) ∧ ((0 ≤ (v_219 x0 d) ∧ (v_219 x0 d) ≤ 200)) ∧ ((∀ b : Int, (b < x0 + 1 ∨ x0 + 1 < b) → (g_219 x0 d) b = d b)) ∧ ((∀ i : Int, (0 ≤ i ∧ i ≤ 8 ∧ ¬ i = 1) ∨ (12 ≤ i ∧ i < 420 ∧ (i - 12) % 68 ≤ 4) ∨ (420 ≤ i ∧ i < 452 ∧ i % 2 = 0) ∨ i = 9 ∨ (452 ≤ i ∧ i < 1916 ∧ 5 ≤ (i - 452) % 24) → (g_219 x0 d) (x0 + 1) i = d (x0 + 1) i)) ∧ (Safe (g_219 x0 d)) :=
  tAdq (E := E) ha hh (k_219 hS hx0 (fun z0 z1 z2 z3 => fun hsh => ⟨hsh, z0, z1, z2, z3⟩))
theorem p_220 {E : mO × tW} {d : mD} {x0 x1 x2 : Int} (hS : Safe d) (hx0 : mdB x0) (p1 : 0 ≤ x1 ∧ x1 ≤ 5) (p2 : 0 ≤ x2 ∧ x2 ≤ 60) (hq : 1 ≤ d (x0 + 1) (12 + 68 * x1 + 5)) (ha : tokL E.2 [.inr (11, x0), .inl (0, x1), .inl (0, x2)]) (hh : tSh E.2 d) : tSh E.2 (g_220 x0 x1 x2 d) ∧ ((∀ b : Int, (b < x0 + 1 ∨ x0 + 1 < b) → (g_220 x0 x1 x2 d) b = d b)) ∧ ((∀ i : Int, (0 ≤ i ∧ i ≤ 8 ∧ ¬ i = 1) ∨ (12 ≤ i ∧ i < 420 ∧ (i - 12) % 68 ≤ 4) ∨ (420 ≤ i ∧ i < 452 ∧ i % 2 = 0) ∨ i = 9 ∨ (452 ≤ i ∧ i < 1916 ∧ 5 ≤ (i - 452) % 24) → (g_220 x0 x1 x2 d) (x0 + 1) i = d (x0 + 1) i)) ∧ (((g_220 x0 x1 x2 d) (x0 + 1) (12 + 68 * x1 + 5) = d (x0 + 1) (12 + 68 * x1 + 5) - 1)) ∧ (Safe (g_220 x0 x1 x2 d)) :=
  tAdq (E := E) ha hh (k_220 hS hx0 p1 p2 hq (fun z0 z1 z2 z3 => fun hsh => ⟨hsh, z0, z1, z2, z3⟩))
theorem p_221 {E : mO × tW} {d : mD} {x0 x1 : Int} (hS : Safe d) (hx0 : mdB x0) (p1 : 0 ≤ x1 ∧ x1 ≤ 60) (ha : tokL E.2 [.inr (11, x0), .inl (0, x1)]) (hh : tSh E.2 d) : tSh E.2 d ∧ ((-1 ≤ (v_221 x0 x1 d) ∧ (v_221 x0 x1 d) ≤ 60)) :=
  tAdq (E := E) ha hh (k_221 hS hx0 p1 (fun z0 => fun hsh => ⟨hsh, z0⟩))
theorem p_222 {E : mO × tW} {d : mD} {x0 x1 : Int} (hS : Safe d) (hx0 : mdB x0) (p1 : 0 ≤ x1 ∧ x1 ≤ 5) (ha : tokL E.2 [.inr (11, x0), .inl (0, x1)]) (hh : tSh E.2 d) : tSh E.2 (g_222 x0 x1 d) ∧ ((∀ b : Int, (b < x0 + 1 ∨ x0 + 1 < b) → (g_222 x0 x1 d) b = d b)) ∧ ((∀ i : Int, (0 ≤ i ∧ i ≤ 8 ∧ ¬ i = 1) ∨ (12 ≤ i ∧ i < 420 ∧ (i - 12) % 68 ≤ 4) ∨ (420 ≤ i ∧ i < 452 ∧ i % 2 = 0) ∨ i = 9 ∨ (452 ≤ i ∧ i < 1916 ∧ 5 ≤ (i - 452) % 24) → (g_222 x0 x1 d) (x0 + 1) i = d (x0 + 1) i)) ∧ (Safe (g_222 x0 x1 d)) :=
  tAdq (E := E) ha hh (k_222 hS hx0 p1 (fun z0 z1 z2 => fun hsh => ⟨hsh, z0, z1, z2⟩))
theorem p_230 {E : mO × tW} {d : mD} {x0 x1 x2 : Int} (hS : Safe d) (hx0 : mdB x0) (p1 : 0 ≤ x1 ∧ x1 ≤ 60) (p2 : 0 ≤ x2 ∧ x2 ≤ 60) (ha : tokL E.2 [.inr (11, x0), .inl (0, x1), .inl (0, x2)]) (hh : tSh E.2 d) : tSh E.2 d ∧ ((0 ≤ (v_230 x0 x1 x2 d) ∧ (v_230 x0 x1 x2 d) ≤ 1200)) :=
  tAdq (E := E) ha hh (k_230 hS hx0 p1 p2 (fun z0 => fun hsh => ⟨hsh, z0⟩))
theorem p_231 {E : mO × tW} {d : mD} {x0 x1 x2 : Int} (hS : Safe d) (hx0 : mdB x0) (p1 : 0 ≤ x1 ∧ x1 ≤ 60) (p2 : -2147483648 ≤ x2 ∧ x2 ≤ 2147483647) (ha : tokL E.2 [.inr (11, x0), .inl (0, x1), .inl (0, x2)]) (hh : tSh E.2 d) : tSh E.2 d ∧ ((0 ≤ (v_231 x0 x1 x2 d) ∧ (v_231 x0 x1 x2 d) ≤ 1200)) :=
  tAdq (E := E) ha hh (k_231 hS hx0 p1 p2 (fun z0 => fun hsh => ⟨hsh, z0⟩))
theorem p_232 {E : mO × tW} {d : mD} {x0 x1 x2 : Int} (hS : Safe d) (hx0 : mdB x0) (p1 : 0 ≤ x1 ∧ x1 ≤ 60) (p2 : 0 ≤ x2 ∧ x2 ≤ 15) (ha : tokL E.2 [.inr (11, x0), .inl (0, x1), .inl (0, x2)]) (hh : tSh E.2 d) : tSh E.2 d ∧ ((0 ≤ (v_232 x0 x1 x2 d) ∧ (v_232 x0 x1 x2 d) ≤ 1)) :=
  tAdq (E := E) ha hh (k_232 hS hx0 p1 p2 (fun z0 => fun hsh => ⟨hsh, z0⟩))
theorem p_233 {E : mO × tW} {d : mD} {x0 x1 : Int} (hS : Safe d) (hx0 : mdB x0) (p1 : 0 ≤ x1 ∧ x1 ≤ 15) (ha : tokL E.2 [.inr (11, x0), .inl (0, x1)]) (hh : tSh E.2 d) : tSh E.2 d ∧ ((0 ≤ (v_233 x0 x1 d) ∧ (v_233 x0 x1 d) ≤ 61)) :=
  tAdq (E := E) ha hh (k_233 hS hx0 p1 (fun z0 => fun hsh => ⟨hsh, z0⟩))
theorem p_223 {E : mO × tW} {d : mD} {x0 : Int} (hS : Safe d) (hx0 : mdB x0) (hmp : mpP (d (x0 + 1))) (ht : d (x0 + 1) 0 ≤ 1199) (ha : tokL E.2 [.inr (11, x0)]) (hh : tSh E.2 d) : tSh E.2 (g_223 x0 d) ∧ ((∀ b : Int, (b < x0 + 1 ∨ x0 + 1 < b) → (g_223 x0 d) b = d b)) ∧ ((∀ i : Int, ((0 ≤ i ∧ i ≤ 8 ∧ ¬ i = 1) ∨ (12 ≤ i ∧ i < 420 ∧ (i - 12) % 68 ≤ 4) ∨ (420 ≤ i ∧ i < 452 ∧ i % 2 = 0) ∨ i = 9 ∨ (452 ≤ i ∧ i < 1916 ∧ 5 ≤ (i - 452) % 24)) ∧ ¬ i = 0 → (g_223 x0 d) (x0 + 1) i = d (x0 + 1) i)) ∧ (((g_223 x0 d) (x0 + 1) 0 = d (x0 + 1) 0 + 1)) ∧ (Safe (g_223 x0 d)) :=
  tAdq (E := E) ha hh (k_223 hS hx0 hmp ht (fun z0 z1 z2 z3 => fun hsh => ⟨hsh, z0, z1, z2, z3⟩))
theorem p_224 {E : mO × tW} {d : mD} {x0 x1 x2 : Int} (hS : Safe d) (hx0 : mdB x0) (p1 : 0 ≤ x1 ∧ x1 ≤ 15) (p2 : 0 ≤ x2 ∧ x2 ≤ 5) (ht : d (x0 + 1) 9 ≤ 60) (hq : d (x0 + 1) (12 + 68 * x2 + 5) ≤ 60) (ha : tokL E.2 [.inr (11, x0), .inl (0, x1), .inl (0, x2)]) (hh : tSh E.2 d) : tSh E.2 (g_224 x0 x1 x2 d) ∧ ((0 ≤ (v_224 x0 x1 x2 d) ∧ (v_224 x0 x1 x2 d) ≤ 60)) ∧ ((∀ b : Int, (b < x0 + 1 ∨ x0 + 1 < b) → (g_224 x0 x1 x2 d) b = d b)) ∧ ((∀ i : Int, (0 ≤ i ∧ i ≤ 8 ∧ ¬ i = 1) ∨ (12 ≤ i ∧ i < 420 ∧ (i - 12) % 68 ≤ 4) ∨ (420 ≤ i ∧ i < 452 ∧ i % 2 = 0) → (g_224 x0 x1 x2 d) (x0 + 1) i = d (x0 + 1) i)) ∧ (Safe (g_224 x0 x1 x2 d)) :=
  tAdq (E := E) ha hh (k_224 hS hx0 p1 p2 ht hq (fun z0 z1 z2 z3 => fun hsh => ⟨hsh, z0, z1, z2, z3⟩))
theorem p_225 {E : mO × tW} {d : mD} {x0 x1 x2 : Int} (hS : Safe d) (hx0 : mdB x0) (p1 : -2147483648 ≤ x1 ∧ x1 ≤ 2147483647) (p2 : 0 ≤ x2 ∧ x2 ≤ 5) (ha : tokL E.2 [.inr (11, x0), .inl (0, x1), .inl (0, x2)]) (hh : tSh E.2 d) : tSh E.2 d ∧ (((0 ≤ (v_225 x0 x1 x2 d) ∧ (v_225 x0 x1 x2 d) ≤ 1) ∧ ((v_225 x0 x1 x2 d) = 0 ∨ (d (x0 + 1) 9 ≤ 59 ∧ d (x0 + 1) (12 + 68 * x2 + 5) ≤ 19)))) :=
  tAdq (E := E) ha hh (k_225 hS hx0 p1 p2 (fun z0 => fun hsh => ⟨hsh, z0⟩))
theorem p_226 {E : mO × tW} {d : mD} {x0 x1 x2 : Int} (hS : Safe d) (hx0 : mdB x0) (p1 : 0 ≤ x1 ∧ x1 ≤ 15) (p2 : 0 ≤ x2 ∧ x2 ≤ 5) (ht : d (x0 + 1) 9 ≤ 60) (hq : d (x0 + 1) (12 + 68 * x2 + 5) ≤ 60) (ha : tokL E.2 [.inr (11, x0), .inl (0, x1), .inl (0, x2)]) (hh : tSh E.2 d) : tSh E.2 (g_226 x0 x1 x2 d) ∧ ((0 ≤ (v_226 x0 x1 x2 d) ∧ (v_226 x0 x1 x2 d) ≤ 60)) ∧ ((∀ b : Int, (b < x0 + 1 ∨ x0 + 1 < b) → (g_226 x0 x1 x2 d) b = d b)) ∧ ((∀ i : Int, (0 ≤ i ∧ i ≤ 8 ∧ ¬ i = 1) ∨ (12 ≤ i ∧ i < 420 ∧ (i - 12) % 68 ≤ 4) ∨ (420 ≤ i ∧ i < 452 ∧ i % 2 = 0) → (g_226 x0 x1 x2 d) (x0 + 1) i = d (x0 + 1) i)) ∧ (Safe (g_226 x0 x1 x2 d)) :=
  tAdq (E := E) ha hh (k_226 hS hx0 p1 p2 ht hq (fun z0 z1 z2 z3 => fun hsh => ⟨hsh, z0, z1, z2, z3⟩))
theorem p_227 {E : mO × tW} {d : mD} {x0 x1 : Int} (hS : Safe d) (hx0 : mdB x0) (p1 : 0 ≤ x1 ∧ x1 ≤ 60) (ha : tokL E.2 [.inr (11, x0), .inl (0, x1)]) (hh : tSh E.2 d) : tSh E.2 d ∧ ((0 ≤ (v_227 x0 x1 d) ∧ (v_227 x0 x1 d) ≤ 1)) :=
  tAdq (E := E) ha hh (k_227 hS hx0 p1 (fun z0 => fun hsh => ⟨hsh, z0⟩))
theorem p_228 {E : mO × tW} {d : mD} {x0 x1 : Int} (hS : Safe d) (hx0 : mdB x0) (p1 : 0 ≤ x1 ∧ x1 ≤ 60) (hmp : mpP (d (x0 + 1))) (hmw : mwP (d (x0 + 1))) (ha : tokL E.2 [.inr (11, x0), .inl (0, x1)]) (hh : tSh E.2 d) : tSh E.2 (g_228 x0 x1 d) ∧ ((0 ≤ (v_228 x0 x1 d) ∧ (v_228 x0 x1 d) ≤ 1400)) ∧ ((∀ b : Int, (b < x0 + 1 ∨ x0 + 1 < b) → (g_228 x0 x1 d) b = d b)) ∧ ((∀ i : Int, (0 ≤ i ∧ i ≤ 9) ∨ (11 ≤ i ∧ i < 452) → (g_228 x0 x1 d) (x0 + 1) i = d (x0 + 1) i)) ∧ (mpP ((g_228 x0 x1 d) (x0 + 1))) ∧ (mwP ((g_228 x0 x1 d) (x0 + 1))) ∧ (Safe (g_228 x0 x1 d)) :=
  tAdq (E := E) ha hh (k_228 hS hx0 p1 hmp hmw (fun z0 z1 z2 z3 z4 z5 => fun hsh => ⟨hsh, z0, z1, z2, z3, z4, z5⟩))
theorem p_235 {E : mO × tW} {d : mD} {x0 x1 x2 : Int} (hS : Safe d) (hx0 : mdB x0) (p1 : 0 ≤ x1 ∧ x1 ≤ 60) (p2 : 0 ≤ x2 ∧ x2 ≤ 15) (hmp : mpP (d (x0 + 1))) (hmw : mwP (d (x0 + 1))) (hm : d (x0 + 1) (452 + 24 * x1 + 6) = 0) (ha : tokL E.2 [.inr (11, x0), .inl (0, x1), .inl (0, x2)]) (hh : tSh E.2 d) : tSh E.2 (g_235 x0 x1 x2 d) ∧ ((0 ≤ (v_235 x0 x1 x2 d) ∧ (v_235 x0 x1 x2 d) ≤ 1400)) ∧ ((∀ b : Int, (b < x0 + 1 ∨ x0 + 1 < b) → (g_235 x0 x1 x2 d) b = d b)) ∧ ((∀ i : Int, (0 ≤ i ∧ i ≤ 9) ∨ (11 ≤ i ∧ i < 452) → (g_235 x0 x1 x2 d) (x0 + 1) i = d (x0 + 1) i)) ∧ (mpP ((g_235 x0 x1 x2 d) (x0 + 1))) ∧ (mwP ((g_235 x0 x1 x2 d) (x0 + 1))) ∧ (Safe (g_235 x0 x1 x2 d)) :=
  tAdq (E := E) ha hh (k_235 hS hx0 p1 p2 hmp hmw hm (fun z0 z1 z2 z3 z4 z5 => fun hsh => ⟨hsh, z0, z1, z2, z3, z4, z5⟩))
theorem p_234 {E : mO × tW} {d : mD} {x0 x1 x2 : Int} (hS : Safe d) (hx0 : mdB x0) (p1 : 0 ≤ x1 ∧ x1 ≤ 60) (p2 : 0 ≤ x2 ∧ x2 ≤ 15) (ha : tokL E.2 [.inr (11, x0), .inl (0, x1), .inl (0, x2)]) (hh : tSh E.2 d) : tSh E.2 d ∧ (((0 ≤ (v_234 x0 x1 x2 d) ∧ (v_234 x0 x1 x2 d) ≤ 7) ∧ (¬ (v_234 x0 x1 x2 d) = 0 ∨ d (x0 + 1) (452 + 24 * x1 + 6) = 0))) :=
  tAdq (E := E) ha hh (k_234 hS hx0 p1 p2 (fun z0 => fun hsh => ⟨hsh, z0⟩))
theorem p_236 {E : mO × tW} {d : mD} {x0 x1 : Int} (hS : Safe d) (hx0 : mdB x0) (p1 : -2147483648 ≤ x1 ∧ x1 ≤ 2147483647) (ha : tokL E.2 [.inr (11, x0), .inl (0, x1)]) (hh : tSh E.2 d) : tSh E.2 d ∧ (((0 ≤ (v_236 x0 x1 d) ∧ (v_236 x0 x1 d) ≤ 1) ∧ ((v_236 x0 x1 d) = 0 ∨ (0 ≤ x1 ∧ x1 < d (x0 + 1) 7)) ∧ ((v_236 x0 x1 d) = 1 ∨ x1 < 0 ∨ d (x0 + 1) 7 ≤ x1))) :=
  tAdq (E := E) ha hh (k_236 hS hx0 p1 (fun z0 => fun hsh => ⟨hsh, z0⟩))
theorem p_237 {E : mO × tW} {d : mD} {x0 x1 : Int} (hS : Safe d) (hx0 : mdB x0) (p1 : -2147483648 ≤ x1 ∧ x1 ≤ 2147483647) (ha : tokL E.2 [.inr (11, x0), .inl (0, x1)]) (hh : tSh E.2 d) : tSh E.2 d ∧ (((0 ≤ (v_237 x0 x1 d) ∧ (v_237 x0 x1 d) ≤ 1) ∧ ((v_237 x0 x1 d) = 0 ∨ (0 ≤ x1 ∧ x1 < d (x0 + 1) 8)) ∧ ((v_237 x0 x1 d) = 1 ∨ x1 < 0 ∨ d (x0 + 1) 8 ≤ x1))) :=
  tAdq (E := E) ha hh (k_237 hS hx0 p1 (fun z0 => fun hsh => ⟨hsh, z0⟩))
theorem p_238 {E : mO × tW} {d : mD} {x0 x1 : Int} (hS : Safe d) (hx0 : mdB x0) (p1 : -2147483648 ≤ x1 ∧ x1 ≤ 2147483647) (ha : tokL E.2 [.inr (11, x0), .inl (0, x1)]) (hh : tSh E.2 d) : tSh E.2 d ∧ (((0 ≤ (v_238 x0 x1 d) ∧ (v_238 x0 x1 d) ≤ 1) ∧ ((v_238 x0 x1 d) = 0 ∨ (0 ≤ x1 ∧ x1 < d (x0 + 1) 9)) ∧ ((v_238 x0 x1 d) = 1 ∨ x1 < 0 ∨ d (x0 + 1) 9 ≤ x1))) :=
  tAdq (E := E) ha hh (k_238 hS hx0 p1 (fun z0 => fun hsh => ⟨hsh, z0⟩))
theorem p_229 {E : mO × tW} {d : mD} {x0 x1 x2 : Int} (hS : Safe d) (hx0 : mdB x0) (p1 : 0 ≤ x1 ∧ x1 ≤ 5) (p2 : 0 ≤ x2 ∧ x2 ≤ 5) (hq : d (x0 + 1) (12 + 68 * x1 + 5) + d (x0 + 1) (12 + 68 * x2 + 5) ≤ 61) (hn : ¬ x1 = x2) (ha : tokL E.2 [.inr (11, x0), .inl (0, x1), .inl (0, x2)]) (hh : tSh E.2 d) : tSh E.2 (g_229 x0 x1 x2 d) ∧ ((∀ b : Int, (b < x0 + 1 ∨ x0 + 1 < b) → (g_229 x0 x1 x2 d) b = d b)) ∧ ((∀ i : Int, i = 7 ∨ (12 ≤ i ∧ i < 420 ∧ (i - 12) % 68 = 2) ∨ i = 0 ∨ i = 8 ∨ i = 9 → (g_229 x0 x1 x2 d) (x0 + 1) i = d (x0 + 1) i)) ∧ (Safe (g_229 x0 x1 x2 d)) :=
  tAdq (E := E) ha hh (k_229 hS hx0 p1 p2 hq hn (fun z0 z1 z2 => fun hsh => ⟨hsh, z0, z1, z2⟩))
theorem p_240 {E : mO × tW} {d : mD} {x0 x1 : Int} (hS : Safe d) (hx0 : mdB x0) (p1 : -2147483648 ≤ x1 ∧ x1 ≤ 2147483647) (ha : tokL E.2 [.inr (11, x0), .inl (0, x1)]) (hh : tSh E.2 d) : tSh E.2 (g_240 x0 x1 d) ∧ ((∀ b : Int, (b < x0 ∨ x0 < b) → (g_240 x0 x1 d) b = d b)) ∧ (Safe (g_240 x0 x1 d)) :=
  tAdq (E := E) ha hh (k_240 hS hx0 p1 (fun z0 z1 => fun hsh => ⟨hsh, z0, z1⟩))
theorem p_241 {E : mO × tW} {d : mD} {x0 x1 x2 : Int} (hS : Safe d) (hx0 : mdB x0) (p1 : -2147483648 ≤ x1 ∧ x1 ≤ 2147483647) (p2 : -2147483648 ≤ x2 ∧ x2 ≤ 2147483647) (ha : tokL E.2 [.inr (11, x0), .inl (0, x1), .inl (0, x2)]) (hh : tSh E.2 d) : tSh E.2 (g_241 x0 x1 x2 d) ∧ ((∀ b : Int, (b < x0 ∨ x0 < b) → (g_241 x0 x1 x2 d) b = d b)) ∧ (Safe (g_241 x0 x1 x2 d)) :=
  tAdq (E := E) ha hh (k_241 hS hx0 p1 p2 (fun z0 z1 => fun hsh => ⟨hsh, z0, z1⟩))
theorem p_242 {E : mO × tW} {d : mD} {x0 x1 x2 : Int} (hS : Safe d) (hx0 : mdB x0) (p1 : -2147483648 ≤ x1 ∧ x1 ≤ 2147483647) (p2 : -2147483648 ≤ x2 ∧ x2 ≤ 2147483647) (ha : tokL E.2 [.inr (11, x0), .inl (0, x1), .inl (0, x2)]) (hh : tSh E.2 d) : tSh E.2 (g_242 x0 x1 x2 d) ∧ ((∀ b : Int, (b < x0 ∨ x0 < b) → (g_242 x0 x1 x2 d) b = d b)) ∧ (Safe (g_242 x0 x1 x2 d)) :=
  tAdq (E := E) ha hh (k_242 hS hx0 p1 p2 (fun z0 z1 => fun hsh => ⟨hsh, z0, z1⟩))
theorem p_239 {E : mO × tW} {d : mD} {x0 x1 : Int} (hS : Safe d) (hx0 : mdB x0) (p1 : -2147483648 ≤ x1 ∧ x1 ≤ 2147483647) (ha : tokL E.2 [.inr (11, x0), .inl (0, x1)]) (hh : tSh E.2 d) : tSh E.2 (g_239 x0 x1 d) ∧ ((∀ b : Int, (b < x0 ∨ x0 < b) → (g_239 x0 x1 d) b = d b)) ∧ (Safe (g_239 x0 x1 d)) :=
  tAdq (E := E) ha hh (k_239 hS hx0 p1 (fun z0 z1 => fun hsh => ⟨hsh, z0, z1⟩))
theorem p_243 {E : mO × tW} {d : mD} {x0 x1 x2 : Int} (hS : Safe d) (hx0 : mdB x0) (p1 : -2147483648 ≤ x1 ∧ x1 ≤ 2147483647) (p2 : -2147483648 ≤ x2 ∧ x2 ≤ 2147483647) (ha : tokL E.2 [.inr (11, x0), .inl (0, x1), .inl (0, x2)]) (hh : tSh E.2 d) : tSh E.2 d ∧ ((0 ≤ (v_243 x0 x1 x2 d) ∧ (v_243 x0 x1 x2 d) ≤ 1)) :=
  tAdq (E := E) ha hh (k_243 hS hx0 p1 p2 (fun z0 => fun hsh => ⟨hsh, z0⟩))
theorem p_244 {E : mO × tW} {d : mD} {x0 x1 x2 : Int} (hS : Safe d) (hx0 : mdB x0) (p1 : -2147483648 ≤ x1 ∧ x1 ≤ 2147483647) (p2 : 0 ≤ x2 ∧ x2 ≤ 1) (ha : tokL E.2 [.inr (11, x0), .inl (0, x1), .inl (0, x2)]) (hh : tSh E.2 d) : tSh E.2 d ∧ ((0 ≤ (v_244 x0 x1 x2 d) ∧ (v_244 x0 x1 x2 d) ≤ 1200)) :=
  tAdq (E := E) ha hh (k_244 hS hx0 p1 p2 (fun z0 => fun hsh => ⟨hsh, z0⟩))
theorem p_245 {E : mO × tW} {d : mD} {x0 x1 x2 : Int} (hS : Safe d) (hx0 : mdB x0) (p1 : -2147483648 ≤ x1 ∧ x1 ≤ 2147483647) (p2 : -2147483648 ≤ x2 ∧ x2 ≤ 2147483647) (ha : tokL E.2 [.inr (11, x0), .inl (0, x1), .inl (0, x2)]) (hh : tSh E.2 d) : tSh E.2 d ∧ ((0 ≤ (v_245 x0 x1 x2 d) ∧ (v_245 x0 x1 x2 d) ≤ 200)) :=
  tAdq (E := E) ha hh (k_245 hS hx0 p1 p2 (fun z0 => fun hsh => ⟨hsh, z0⟩))
theorem p_246 {E : mO × tW} {d : mD} {x0 x1 x2 : Int} (hS : Safe d) (hx0 : mdB x0) (p1 : -2147483648 ≤ x1 ∧ x1 ≤ 2147483647) (p2 : -2147483648 ≤ x2 ∧ x2 ≤ 2147483647) (ha : tokL E.2 [.inr (11, x0), .inl (0, x1), .inl (0, x2)]) (hh : tSh E.2 d) : tSh E.2 (g_246 x0 x1 x2 d) ∧ ((∀ b : Int, (b < x0 ∨ x0 < b) → (g_246 x0 x1 x2 d) b = d b)) ∧ (Safe (g_246 x0 x1 x2 d)) :=
  tAdq (E := E) ha hh (k_246 hS hx0 p1 p2 (fun z0 z1 => fun hsh => ⟨hsh, z0, z1⟩))
theorem p_247 {E : mO × tW} {d : mD} {x0 x1 x2 : Int} (hS : Safe d) (hx0 : mdB x0) (p1 : -2147483648 ≤ x1 ∧ x1 ≤ 2147483647) (p2 : -2147483648 ≤ x2 ∧ x2 ≤ 2147483647) (ha : tokL E.2 [.inr (11, x0), .inl (0, x1), .inl (0, x2)]) (hh : tSh E.2 d) : tSh E.2 (g_247 x0 x1 x2 d) ∧ ((∀ b : Int, (b < x0 ∨ x0 < b) → (g_247 x0 x1 x2 d) b = d b)) ∧ (Safe (g_247 x0 x1 x2 d)) :=
  tAdq (E := E) ha hh (k_247 hS hx0 p1 p2 (fun z0 z1 => fun hsh => ⟨hsh, z0, z1⟩))
theorem p_248 {E : mO × tW} {d : mD} {x0 x1 x2 : Int} (hS : Safe d) (hx0 : mdB x0) (p1 : -2147483648 ≤ x1 ∧ x1 ≤ 2147483647) (p2 : -2147483648 ≤ x2 ∧ x2 ≤ 2147483647) (ha : tokL E.2 [.inr (11, x0), .inl (0, x1), .inl (0, x2)]) (hh : tSh E.2 d) : tSh E.2 (g_248 x0 x1 x2 d) ∧ ((∀ b : Int, (b < x0 ∨ x0 < b) → (g_248 x0 x1 x2 d) b = d b)) ∧ (Safe (g_248 x0 x1 x2 d)) :=
  tAdq (E := E) ha hh (k_248 hS hx0 p1 p2 (fun z0 z1 => fun hsh => ⟨hsh, z0, z1⟩))
theorem p_249 {E : mO × tW} {d : mD} {x0 x1 x2 : Int} (hS : Safe d) (hx0 : mdB x0) (p1 : -2147483648 ≤ x1 ∧ x1 ≤ 2147483647) (p2 : -2147483648 ≤ x2 ∧ x2 ≤ 2147483647) (ha : tokL E.2 [.inr (11, x0), .inl (0, x1), .inl (0, x2)]) (hh : tSh E.2 d) : tSh E.2 (g_249 x0 x1 x2 d) ∧ ((0 ≤ (v_249 x0 x1 x2 d) ∧ (v_249 x0 x1 x2 d) ≤ 1)) ∧ ((∀ b : Int, (b < x0 ∨ x0 < b) → (g_249 x0 x1 x2 d) b = d b)) ∧ (Safe (g_249 x0 x1 x2 d)) :=
  tAdq (E := E) ha hh (k_249 hS hx0 p1 p2 (fun z0 z1 z2 => fun hsh => ⟨hsh, z0, z1, z2⟩))
theorem p_250 {E : mO × tW} {d : mD} {x0 x1 x2 : Int} (hS : Safe d) (hx0 : mdB x0) (p1 : -2147483648 ≤ x1 ∧ x1 ≤ 2147483647) (p2 : -2147483648 ≤ x2 ∧ x2 ≤ 2147483647) (ha : tokL E.2 [.inr (11, x0), .inl (0, x1), .inl (0, x2)]) (hh : tSh E.2 d) : tSh E.2 (g_250 x0 x1 x2 d) ∧ (((0 ≤ (v_250 x0 x1 x2 d) ∧ (v_250 x0 x1 x2 d) ≤ 1) ∧ ((v_250 x0 x1 x2 d) = 0 ∨ (0 ≤ x1 ∧ x1 ≤ 60 ∧ 0 ≤ x2 ∧ x2 ≤ 15)))) ∧ ((∀ b : Int, (b < x0 ∨ x0 < b) → (g_250 x0 x1 x2 d) b = d b)) ∧ (Safe (g_250 x0 x1 x2 d)) :=
  tAdq (E := E) ha hh (k_250 hS hx0 p1 p2 (fun z0 z1 z2 => fun hsh => ⟨hsh, z0, z1, z2⟩))
theorem p_251 {E : mO × tW} {d : mD} {x0 x1 x2 : Int} (hS : Safe d) (hx0 : mdB x0) (p1 : -2147483648 ≤ x1 ∧ x1 ≤ 2147483647) (p2 : -2147483648 ≤ x2 ∧ x2 ≤ 2147483647) (ha : tokL E.2 [.inr (11, x0), .inl (0, x1), .inl (0, x2)]) (hh : tSh E.2 d) : tSh E.2 (g_251 x0 x1 x2 d) ∧ ((∀ b : Int, (b < x0 ∨ x0 < b) → (g_251 x0 x1 x2 d) b = d b)) ∧ (Safe (g_251 x0 x1 x2 d)) :=
  tAdq (E := E) ha hh (k_251 hS hx0 p1 p2 (fun z0 z1 => fun hsh => ⟨hsh, z0, z1⟩))
theorem p_252 {E : mO × tW} {d : mD} {x0 x1 x2 : Int} (hS : Safe d) (hx0 : mdB x0) (p1 : -2147483648 ≤ x1 ∧ x1 ≤ 2147483647) (p2 : -2147483648 ≤ x2 ∧ x2 ≤ 2147483647) (ha : tokL E.2 [.inr (11, x0), .inl (0, x1), .inl (0, x2)]) (hh : tSh E.2 d) : tSh E.2 (g_252 x0 x1 x2 d) ∧ ((∀ b : Int, (b < x0 ∨ x0 < b) → (g_252 x0 x1 x2 d) b = d b)) ∧ (Safe (g_252 x0 x1 x2 d)) :=
  tAdq (E := E) ha hh (k_252 hS hx0 p1 p2 (fun z0 z1 => fun hsh => ⟨hsh, z0, z1⟩))
theorem p_254 {E : mO × tW} {d : mD} {x0 x1 x2 : Int} (hS : Safe d) (hx0 : mdB x0) (p1 : -2147483648 ≤ x1 ∧ x1 ≤ 2147483647) (p2 : -2147483648 ≤ x2 ∧ x2 ≤ 2147483647) (ha : tokL E.2 [.inr (11, x0), .inl (0, x1), .inl (0, x2)]) (hh : tSh E.2 d) : tSh E.2 (g_254 x0 x1 x2 d) ∧ ((0 ≤ (v_254 x0 x1 x2 d) ∧ (v_254 x0 x1 x2 d) ≤ 1)) ∧ ((∀ b : Int, (b < x0 ∨ x0 < b) → (g_254 x0 x1 x2 d) b = d b)) ∧ (Safe (g_254 x0 x1 x2 d)) :=
  tAdq (E := E) ha hh (k_254 hS hx0 p1 p2 (fun z0 z1 z2 => fun hsh => ⟨hsh, z0, z1, z2⟩))
theorem p_253 {E : mO × tW} {d : mD} {x0 x1 x2 : Int} (hS : Safe d) (hx0 : mdB x0) (p1 : -2147483648 ≤ x1 ∧ x1 ≤ 2147483647) (p2 : -2147483648 ≤ x2 ∧ x2 ≤ 2147483647) (ha : tokL E.2 [.inr (11, x0), .inl (0, x1), .inl (0, x2)]) (hh : tSh E.2 d) : tSh E.2 (g_253 x0 x1 x2 d) ∧ ((∀ b : Int, (b < x0 ∨ x0 < b) → (g_253 x0 x1 x2 d) b = d b)) ∧ (Safe (g_253 x0 x1 x2 d)) :=
  tAdq (E := E) ha hh (k_253 hS hx0 p1 p2 (fun z0 z1 => fun hsh => ⟨hsh, z0, z1⟩))
theorem p_258 {E : mO × tW} {d : mD} {x0 : Int} (hS : Safe d) (hx0 : mdB x0) (ha : tokL E.2 [.inr (11, x0)]) (hh : tSh E.2 d) : tSh E.2 (g_258 x0 d) ∧ ((∀ b : Int, (b < x0 ∨ x0 < b) → (g_258 x0 d) b = d b)) ∧ (Safe (g_258 x0 d)) :=
  tAdq (E := E) ha hh (k_258 hS hx0 (fun z0 z1 => fun hsh => ⟨hsh, z0, z1⟩))
theorem p_259 {E : mO × tW} {d : mD} {x0 : Int} (hS : Safe d) (hx0 : mdB x0) (ha : tokL E.2 [.inr (11, x0)]) (hh : tSh E.2 d) : tSh E.2 (g_259 x0 d) ∧ ((∀ b : Int, (b < x0 ∨ x0 < b) → (g_259 x0 d) b = d b)) ∧ (Safe (g_259 x0 d)) :=
  tAdq (E := E) ha hh (k_259 hS hx0 (fun z0 z1 => fun hsh => ⟨hsh, z0, z1⟩))
theorem p_260 {E : mO × tW} {d : mD} {x0 : Int} (hS : Safe d) (hx0 : mdB x0) (ha : tokL E.2 [.inr (11, x0)]) (hh : tSh E.2 d) : tSh E.2 (g_260 x0 d) ∧ ((∀ b : Int, (b < x0 ∨ x0 < b) → (g_260 x0 d) b = d b)) ∧ (Safe (g_260 x0 d)) :=
  tAdq (E := E) ha hh (k_260 hS hx0 (fun z0 z1 => fun hsh => ⟨hsh, z0, z1⟩))
theorem p_261 {E : mO × tW} {d : mD} {x0 : Int} (hS : Safe d) (hx0 : mdB x0) (ha : tokL E.2 [.inr (11, x0)]) (hh : tSh E.2 d) : tSh E.2 (g_261 x0 d) ∧ ((∀ b : Int, (b < x0 ∨ x0 < b) → (g_261 x0 d) b = d b)) ∧ (Safe (g_261 x0 d)) :=
  tAdq (E := E) ha hh (k_261 hS hx0 (fun z0 z1 => fun hsh => ⟨hsh, z0, z1⟩))
theorem p_262 {E : mO × tW} {d : mD} {x0 : Int} (hS : Safe d) (hx0 : mdB x0) (ha : tokL E.2 [.inr (11, x0)]) (hh : tSh E.2 d) : tSh E.2 (g_262 x0 d) ∧ ((∀ b : Int, (b < x0 ∨ x0 < b) → (g_262 x0 d) b = d b)) ∧ (Safe (g_262 x0 d)) :=
  tAdq (E := E) ha hh (k_262 hS hx0 (fun z0 z1 => fun hsh => ⟨hsh, z0, z1⟩))
theorem p_270 {E : mO × tW} {d : mD} {x0 x1 x2 : Int} (hS : Safe d) (hx0 : mdB x0) (p1 : 0 ≤ x1 ∧ x1 ≤ 5) (p2 : 0 ≤ x2 ∧ x2 ≤ 5) (ha : tokL E.2 [.inr (11, x0), .inl (0, x1), .inl (0, x2)]) (hh : tSh E.2 d) : tSh E.2 d ∧ (((0 ≤ (v_270 x0 x1 x2 d) ∧ (v_270 x0 x1 x2 d) ≤ 1) ∧ ((v_270 x0 x1 x2 d) = 0 ∨ ¬ x1 = x2))) :=
  tAdq (E := E) ha hh (k_270 hS hx0 p1 p2 (fun z0 => fun hsh => ⟨hsh, z0⟩))
theorem p_271 {E : mO × tW} {d : mD} {x0 : Int} (hS : Safe d) (hx0 : mdB x0) (ha : tokL E.2 [.inr (11, x0)]) (hh : tSh E.2 d) : tSh E.2 d ∧ ((0 ≤ (v_271 x0 d) ∧ (v_271 x0 d) ≤ 366)) :=
  tAdq (E := E) ha hh (k_271 hS hx0 (fun z0 => fun hsh => ⟨hsh, z0⟩))
theorem p_281 {E : mO × tW} {d : mD} {x0 : Int} (hS : Safe d) (hx0 : mdB x0) (ha : tokL E.2 [.inr (11, x0)]) (hh : tSh E.2 d) : tSh E.2 d ∧ ((0 ≤ (v_281 x0 d) ∧ (v_281 x0 d) ≤ 61)) :=
  tAdq (E := E) ha hh (k_281 hS hx0 (fun z0 => fun hsh => ⟨hsh, z0⟩))
theorem p_255 {E : mO × tW} {d : mD} {x0 : Int} (hS : Safe d) (hx0 : mdB x0) (ha : tokL E.2 [.inr (11, x0)]) (hh : tSh E.2 d) : tSh E.2 (g_255 x0 d) ∧ ((∀ b : Int, (b < x0 + 4 ∨ x0 + 4 < b) → (g_255 x0 d) b = d b)) ∧ ((∀ i : Int, 0 ≤ i → i < 3116 → (g_255 x0 d) (x0 + 4) i = d (x0 + 1) i)) ∧ (Safe (g_255 x0 d)) :=
  tAdq (E := E) ha hh (k_255 hS hx0 (fun z0 z1 z2 => fun hsh => ⟨hsh, z0, z1, z2⟩))
theorem p_256 {E : mO × tW} {d : mD} {x0 : Int} (hS : Safe d) (hx0 : mdB x0) (ha : tokL E.2 [.inr (11, x0)]) (hh : tSh E.2 d) : tSh E.2 (g_256 x0 d) ∧ ((∀ b : Int, (b < x0 + 1 ∨ x0 + 1 < b) → (g_256 x0 d) b = d b)) ∧ ((∀ i : Int, 0 ≤ i → i < 3116 → (g_256 x0 d) (x0 + 1) i = d (x0 + 4) i)) ∧ (Safe (g_256 x0 d)) :=
  tAdq (E := E) ha hh (k_256 hS hx0 (fun z0 z1 z2 => fun hsh => ⟨hsh, z0, z1, z2⟩))
theorem p_257 {E : mO × tW} {d : mD} {x0 x1 : Int} (hS : Safe d) (hx0 : mdB x0) (p1 : -2147483648 ≤ x1 ∧ x1 ≤ 2147483647) (ha : tokL E.2 [.inr (11, x0), .inl (0, x1)]) (hh : tSh E.2 d) : tSh E.2 (g_257 x0 x1 d) ∧ ((∀ b : Int, (b < x0 ∨ x0 + 1 < b) ∧ (b < x0 + 4 ∨ x0 + 4 < b) → (g_257 x0 x1 d) b = d b)) ∧ (Safe (g_257 x0 x1 d)) :=
  tAdq (E := E) ha hh (k_257 hS hx0 p1 (fun z0 z1 => fun hsh => ⟨hsh, z0, z1⟩))
theorem p_263 {E : mO × tW} {d : mD} {x0 x1 : Int} (hS : Safe d) (hx0 : mdB x0) (p1 : 0 ≤ x1 ∧ x1 ≤ 60) (hmp : mpP (d (x0 + 1))) (ht : d (x0 + 1) 0 ≤ 999) (ha : tokL E.2 [.inr (11, x0), .inl (0, x1)]) (hh : tSh E.2 d) : tSh E.2 (g_263 x0 x1 d) ∧ ((0 ≤ (v_263 x0 x1 d) ∧ (v_263 x0 x1 d) ≤ 201)) ∧ ((∀ b : Int, (b < x0 + 1 ∨ x0 + 1 < b) → (g_263 x0 x1 d) b = d b)) ∧ ((∀ i : Int, ((0 ≤ i ∧ i ≤ 8 ∧ ¬ i = 1) ∨ (12 ≤ i ∧ i < 420 ∧ (i - 12) % 68 ≤ 4) ∨ (420 ≤ i ∧ i < 452 ∧ i % 2 = 0) ∨ i = 9 ∨ (452 ≤ i ∧ i < 1916 ∧ 5 ≤ (i - 452) % 24)) ∧ ¬ i = 0 → (g_263 x0 x1 d) (x0 + 1) i = d (x0 + 1) i)) ∧ (Safe (g_263 x0 x1 d)) :=
  tAdq (E := E) ha hh (k_263 hS hx0 p1 hmp ht (fun z0 z1 z2 z3 => fun hsh => ⟨hsh, z0, z1, z2, z3⟩))
theorem p_264 {E : mO × tW} {d : mD} {x0 x1 : Int} (hS : Safe d) (hx0 : mdB x0) (p1 : -2147483648 ≤ x1 ∧ x1 ≤ 2147483647) (hmp : mpP (d (x0 + 1))) (ht : d (x0 + 1) 0 ≤ 999) (ha : tokL E.2 [.inr (11, x0), .inl (0, x1)]) (hh : tSh E.2 d) : tSh E.2 (g_264 x0 x1 d) ∧ ((∀ b : Int, (b < x0 ∨ x0 + 1 < b) ∧ (b < x0 + 4 ∨ x0 + 4 < b) → (g_264 x0 x1 d) b = d b)) ∧ (Safe (g_264 x0 x1 d)) :=
  tAdq (E := E) ha hh (k_264 hS hx0 p1 hmp ht (fun z0 z1 => fun hsh => ⟨hsh, z0, z1⟩))
theorem p_265 {E : mO × tW} {d : mD} {x0 x1 x2 : Int} (hS : Safe d) (hx0 : mdB x0) (p1 : -2147483648 ≤ x1 ∧ x1 ≤ 2147483647) (p2 : -2147483648 ≤ x2 ∧ x2 ≤ 2147483647) (hmp : mpP (d (x0 + 1))) (ht : d (x0 + 1) 0 ≤ 999) (ha : tokL E.2 [.inr (11, x0), .inl (0, x1), .inl (0, x2)]) (hh : tSh E.2 d) : tSh E.2 (g_265 x0 x1 x2 d) ∧ ((∀ b : Int, (b < x0 ∨ x0 + 1 < b) ∧ (b < x0 + 4 ∨ x0 + 4 < b) → (g_265 x0 x1 x2 d) b = d b)) ∧ (Safe (g_265 x0 x1 x2 d)) :=
  tAdq (E := E) ha hh (k_265 hS hx0 p1 p2 hmp ht (fun z0 z1 => fun hsh => ⟨hsh, z0, z1⟩))
theorem p_266 {E : mO × tW} {d : mD} {x0 x1 : Int} (hS : Safe d) (hx0 : mdB x0) (p1 : -2147483648 ≤ x1 ∧ x1 ≤ 2147483647) (hmp : mpP (d (x0 + 1))) (ht : d (x0 + 1) 0 ≤ 999) (ha : tokL E.2 [.inr (11, x0), .inl (0, x1)]) (hh : tSh E.2 d) : tSh E.2 (g_266 x0 x1 d) ∧ ((∀ b : Int, (b < x0 ∨ x0 + 1 < b) ∧ (b < x0 + 4 ∨ x0 + 4 < b) → (g_266 x0 x1 d) b = d b)) ∧ (Safe (g_266 x0 x1 d)) :=
  tAdq (E := E) ha hh (k_266 hS hx0 p1 hmp ht (fun z0 z1 => fun hsh => ⟨hsh, z0, z1⟩))
theorem p_267 {E : mO × tW} {d : mD} {x0 x1 : Int} (hS : Safe d) (hx0 : mdB x0) (p1 : 0 ≤ x1 ∧ x1 ≤ 5) (hmp : mpP (d (x0 + 1))) (ht : d (x0 + 1) 0 ≤ 999) (hqq : qqP (d (x0 + 1))) (hn : d (x0 + 1) 9 ≤ 60) (ha : tokL E.2 [.inr (11, x0), .inl (0, x1)]) (hh : tSh E.2 d) : tSh E.2 (g_267 x0 x1 d) ∧ ((0 ≤ (v_267 x0 x1 d) ∧ (v_267 x0 x1 d) ≤ 201)) ∧ ((∀ b : Int, (b < x0 + 1 ∨ x0 + 1 < b) ∧ (b < x0 + 4 ∨ x0 + 4 < b) → (g_267 x0 x1 d) b = d b)) ∧ ((∀ i : Int, 0 ≤ i ∧ i < 3116 → (g_267 x0 x1 d) (x0 + 1) i = d (x0 + 1) i)) ∧ (Safe (g_267 x0 x1 d)) :=
  tAdq (E := E) ha hh (k_267 hS hx0 p1 hmp ht hqq hn (fun z0 z1 z2 z3 => fun hsh => ⟨hsh, z0, z1, z2, z3⟩))
theorem p_268 {E : mO × tW} {d : mD} {x0 x1 : Int} (hS : Safe d) (hx0 : mdB x0) (p1 : -2147483648 ≤ x1 ∧ x1 ≤ 2147483647) (hmp : mpP (d (x0 + 1))) (ht : d (x0 + 1) 0 ≤ 999) (hqq : qqP (d (x0 + 1))) (hn : d (x0 + 1) 9 ≤ 60) (ha : tokL E.2 [.inr (11, x0), .inl (0, x1)]) (hh : tSh E.2 d) : tSh E.2 (g_268 x0 x1 d) ∧ ((∀ b : Int, (b < x0 ∨ x0 + 1 < b) ∧ (b < x0 + 4 ∨ x0 + 4 < b) → (g_268 x0 x1 d) b = d b)) ∧ (Safe (g_268 x0 x1 d)) :=
  tAdq (E := E) ha hh (k_268 hS hx0 p1 hmp ht hqq hn (fun z0 z1 => fun hsh => ⟨hsh, z0, z1⟩))
theorem p_269 {E : mO × tW} {d : mD} {x0 : Int} (hS : Safe d) (hx0 : mdB x0) (hmp : mpP (d (x0 + 1))) (ht : d (x0 + 1) 0 ≤ 999) (hqq : qqP (d (x0 + 1))) (hn : d (x0 + 1) 9 ≤ 60) (ha : tokL E.2 [.inr (11, x0)]) (hh : tSh E.2 d) : tSh E.2 (g_269 x0 d) ∧ ((∀ b : Int, (b < x0 ∨ x0 + 1 < b) ∧ (b < x0 + 4 ∨ x0 + 4 < b) → (g_269 x0 d) b = d b)) ∧ (Safe (g_269 x0 d)) :=
  tAdq (E := E) ha hh (k_269 hS hx0 hmp ht hqq hn (fun z0 z1 => fun hsh => ⟨hsh, z0, z1⟩))
theorem p_272 {E : mO × tW} {d : mD} {x0 x1 x2 : Int} (hS : Safe d) (hx0 : mdB x0) (p1 : -2147483648 ≤ x1 ∧ x1 ≤ 2147483647) (p2 : -2147483648 ≤ x2 ∧ x2 ≤ 2147483647) (hmp : mpP (d (x0 + 1))) (ht : d (x0 + 1) 0 ≤ 999) (hqq : qqP (d (x0 + 1))) (ha : tokL E.2 [.inr (11, x0), .inl (0, x1), .inl (0, x2)]) (hh : tSh E.2 d) : tSh E.2 (g_272 x0 x1 x2 d) ∧ ((∀ b : Int, (b < x0 ∨ x0 + 1 < b) ∧ (b < x0 + 4 ∨ x0 + 4 < b) → (g_272 x0 x1 x2 d) b = d b)) ∧ (Safe (g_272 x0 x1 x2 d)) :=
  tAdq (E := E) ha hh (k_272 hS hx0 p1 p2 hmp ht hqq (fun z0 z1 => fun hsh => ⟨hsh, z0, z1⟩))
theorem p_273 {E : mO × tW} {d : mD} {x0 x1 : Int} (hS : Safe d) (hx0 : mdB x0) (p1 : 0 ≤ x1 ∧ x1 ≤ 255) (ho : d x0 18 ≤ 799) (ha : tokL E.2 [.inr (11, x0), .inl (0, x1)]) (hh : tSh E.2 d) : tSh E.2 (g_273 x0 x1 d) ∧ ((∀ b : Int, (b < x0 ∨ x0 < b) ∧ (b < x0 + 8 ∨ x0 + 8 < b) → (g_273 x0 x1 d) b = d b)) ∧ (((g_273 x0 x1 d) x0 18 = d x0 18 + 1)) ∧ (Safe (g_273 x0 x1 d)) :=
  tAdq (E := E) ha hh (k_273 hS hx0 p1 ho (fun z0 z1 z2 => fun hsh => ⟨hsh, z0, z1, z2⟩))
theorem p_274 {E : mO × tW} {d : mD} {x0 x1 : Int} (hS : Safe d) (hx0 : mdB x0) (p1 : 0 ≤ x1 ∧ x1 ≤ 1200) (ho : d x0 18 ≤ 796) (ha : tokL E.2 [.inr (11, x0), .inl (0, x1)]) (hh : tSh E.2 d) : tSh E.2 (g_274 x0 x1 d) ∧ ((∀ b : Int, (b < x0 ∨ x0 < b) ∧ (b < x0 + 8 ∨ x0 + 8 < b) → (g_274 x0 x1 d) b = d b)) ∧ (((g_274 x0 x1 d) x0 18 ≤ d x0 18 + 4)) ∧ (Safe (g_274 x0 x1 d)) :=
  tAdq (E := E) ha hh (k_274 hS hx0 p1 ho (fun z0 z1 z2 => fun hsh => ⟨hsh, z0, z1, z2⟩))
theorem p_275 {E : mO × tW} {d : mD} {x0 x1 : Int} (hS : Safe d) (hx0 : mdB x0) (p1 : 0 ≤ x1 ∧ x1 ≤ 387420488) (ho : d x0 18 ≤ 794) (ha : tokL E.2 [.inr (11, x0), .inl (0, x1)]) (hh : tSh E.2 d) : tSh E.2 (g_275 x0 x1 d) ∧ ((∀ b : Int, (b < x0 ∨ x0 < b) ∧ (b < x0 + 8 ∨ x0 + 8 < b) → (g_275 x0 x1 d) b = d b)) ∧ (((g_275 x0 x1 d) x0 18 ≤ d x0 18 + 6)) ∧ (Safe (g_275 x0 x1 d)) :=
  tAdq (E := E) ha hh (k_275 hS hx0 p1 ho (fun z0 z1 z2 => fun hsh => ⟨hsh, z0, z1, z2⟩))
theorem p_276 {E : mO × tW} {d : mD} {x0 x1 : Int} (hS : Safe d) (hx0 : mdB x0) (p1 : -2147483648 ≤ x1 ∧ x1 ≤ 2147483647) (ha : tokL E.2 [.inr (11, x0), .inl (0, x1)]) (hh : tSh E.2 d) : tSh E.2 (g_276 x0 x1 d) ∧ ((∀ b : Int, (b < x0 ∨ x0 < b) ∧ (b < x0 + 8 ∨ x0 + 8 < b) → (g_276 x0 x1 d) b = d b)) ∧ (Safe (g_276 x0 x1 d)) :=
  tAdq (E := E) ha hh (k_276 hS hx0 p1 (fun z0 z1 => fun hsh => ⟨hsh, z0, z1⟩))
theorem p_277 {E : mO × tW} {d : mD} {x0 x1 : Int} (hS : Safe d) (hx0 : mdB x0) (p1 : -2147483648 ≤ x1 ∧ x1 ≤ 2147483647) (ha : tokL E.2 [.inr (11, x0), .inl (0, x1)]) (hh : tSh E.2 d) : tSh E.2 (g_277 x0 x1 d) ∧ ((∀ b : Int, (b < x0 ∨ x0 < b) → (g_277 x0 x1 d) b = d b)) ∧ (Safe (g_277 x0 x1 d)) :=
  tAdq (E := E) ha hh (k_277 hS hx0 p1 (fun z0 z1 => fun hsh => ⟨hsh, z0, z1⟩))
theorem p_278 {E : mO × tW} {d : mD} {x0 : Int} (hS : Safe d) (hx0 : mdB x0) (ha : tokL E.2 [.inr (11, x0)]) (hh : tSh E.2 d) : tSh E.2 (g_278 x0 d) ∧ ((∀ b : Int, (b < x0 ∨ x0 < b) ∧ (b < x0 + 2 ∨ x0 + 2 < b) → (g_278 x0 d) b = d b)) ∧ (Safe (g_278 x0 d)) :=
  tAdq (E := E) ha hh (k_278 hS hx0 (fun z0 z1 => fun hsh => ⟨hsh, z0, z1⟩))
theorem p_279 {E : mO × tW} {d : mD} {x0 x1 x2 : Int} (hS : Safe d) (hx0 : mdB x0) (p1 : -2147483648 ≤ x1 ∧ x1 ≤ 2147483647) (p2 : -2147483648 ≤ x2 ∧ x2 ≤ 2147483647) (ha : tokL E.2 [.inr (11, x0), .inl (0, x1), .inl (0, x2)]) (hh : tSh E.2 d) : tSh E.2 (g_279 x0 x1 x2 d) ∧ ((∀ b : Int, (b < x0 ∨ x0 + 2 < b) → (g_279 x0 x1 x2 d) b = d b)) ∧ (Safe (g_279 x0 x1 x2 d)) :=
  tAdq (E := E) ha hh (k_279 hS hx0 p1 p2 (fun z0 z1 => fun hsh => ⟨hsh, z0, z1⟩))
theorem p_282 {E : mO × tW} {d : mD} {x0 x1 : Int} (hS : Safe d) (hx0 : mdB x0) (p1 : -2147483648 ≤ x1 ∧ x1 ≤ 2147483647) (hmp : mpP (d (x0 + 1))) (ha : tokL E.2 [.inr (11, x0), .inl (0, x1)]) (hh : tSh E.2 d) : tSh E.2 (g_282 x0 x1 d) ∧ ((∀ b : Int, (b < x0 ∨ x0 + 2 < b) → (g_282 x0 x1 d) b = d b)) ∧ (Safe (g_282 x0 x1 d)) :=
  tAdq (E := E) ha hh (k_282 hS hx0 p1 hmp (fun z0 z1 => fun hsh => ⟨hsh, z0, z1⟩))
theorem p_283 {E : mO × tW} {d : mD} {x0 x1 : Int} (hS : Safe d) (hx0 : mdB x0) (p1 : -2147483648 ≤ x1 ∧ x1 ≤ 2147483647) (hmp : mpP (d (x0 + 1))) (hmw : mwP (d (x0 + 1))) (ha : tokL E.2 [.inr (11, x0), .inl (0, x1)]) (hh : tSh E.2 d) : tSh E.2 (g_283 x0 x1 d) ∧ ((∀ b : Int, (b < x0 ∨ x0 + 2 < b) → (g_283 x0 x1 d) b = d b)) ∧ (Safe (g_283 x0 x1 d)) :=
  tAdq (E := E) ha hh (k_283 hS hx0 p1 hmp hmw (fun z0 z1 => fun hsh => ⟨hsh, z0, z1⟩))
theorem p_284 {E : mO × tW} {d : mD} {x0 x1 x2 : Int} (hS : Safe d) (hx0 : mdB x0) (p1 : -2147483648 ≤ x1 ∧ x1 ≤ 2147483647) (p2 : -2147483648 ≤ x2 ∧ x2 ≤ 2147483647) (hmp : mpP (d (x0 + 1))) (hmw : mwP (d (x0 + 1))) (ha : tokL E.2 [.inr (11, x0), .inl (0, x1), .inl (0, x2)]) (hh : tSh E.2 d) : tSh E.2 (g_284 x0 x1 x2 d) ∧ ((∀ b : Int, (b < x0 ∨ x0 + 2 < b) → (g_284 x0 x1 x2 d) b = d b)) ∧ (Safe (g_284 x0 x1 x2 d)) :=
  tAdq (E := E) ha hh (k_284 hS hx0 p1 p2 hmp hmw (fun z0 z1 => fun hsh => ⟨hsh, z0, z1⟩))
theorem p_285 {E : mO × tW} {d : mD} {x0 x1 x2 x3 : Int} (hS : Safe d) (hx0 : mdB x0) (p1 : -2147483648 ≤ x1 ∧ x1 ≤ 2147483647) (p2 : -2147483648 ≤ x2 ∧ x2 ≤ 2147483647) (p3 : -2147483648 ≤ x3 ∧ x3 ≤ 2147483647) (ha : tokL E.2 [.inr (11, x0), .inl (0, x1), .inl (0, x2), .inl (0, x3)]) (hh : tSh E.2 d) : tSh E.2 (g_285 x0 x1 x2 x3 d) ∧ ((∀ b : Int, (b < x0 ∨ x0 + 2 < b) → (g_285 x0 x1 x2 x3 d) b = d b)) ∧ (Safe (g_285 x0 x1 x2 x3 d)) :=
  tAdq (E := E) ha hh (k_285 hS hx0 p1 p2 p3 (fun z0 z1 => fun hsh => ⟨hsh, z0, z1⟩))
theorem p_287 {E : mO × tW} {d : mD} {x0 x1 : Int} (hS : Safe d) (hx0 : mdB x0) (p1 : -2147483648 ≤ x1 ∧ x1 ≤ 2147483647) (ha : tokL E.2 [.inr (11, x0), .inl (0, x1)]) (hh : tSh E.2 d) : tSh E.2 (g_287 x0 x1 d) ∧ ((∀ b : Int, (b < x0 ∨ x0 + 2 < b) → (g_287 x0 x1 d) b = d b)) ∧ (Safe (g_287 x0 x1 d)) :=
  tAdq (E := E) ha hh (k_287 hS hx0 p1 (fun z0 z1 => fun hsh => ⟨hsh, z0, z1⟩))
theorem p_288 {E : mO × tW} {d : mD} {x0 x1 x2 : Int} (hS : Safe d) (hx0 : mdB x0) (p1 : -2147483648 ≤ x1 ∧ x1 ≤ 2147483647) (p2 : -2147483648 ≤ x2 ∧ x2 ≤ 2147483647) (hqq : qqP (d (x0 + 1))) (ha : tokL E.2 [.inr (11, x0), .inl (0, x1), .inl (0, x2)]) (hh : tSh E.2 d) : tSh E.2 (g_288 x0 x1 x2 d) ∧ ((∀ b : Int, (b < x0 ∨ x0 + 2 < b) → (g_288 x0 x1 x2 d) b = d b)) ∧ (Safe (g_288 x0 x1 x2 d)) :=
  tAdq (E := E) ha hh (k_288 hS hx0 p1 p2 hqq (fun z0 z1 => fun hsh => ⟨hsh, z0, z1⟩))
theorem p_289 {E : mO × tW} {d : mD} {x0 x1 : Int} (hS : Safe d) (hx0 : mdB x0) (p1 : -2147483648 ≤ x1 ∧ x1 ≤ 2147483647) (ha : tokL E.2 [.inr (11, x0), .inl (0, x1)]) (hh : tSh E.2 d) : tSh E.2 (g_289 x0 x1 d) ∧ ((∀ b : Int, (b < x0 ∨ x0 + 2 < b) → (g_289 x0 x1 d) b = d b)) ∧ (Safe (g_289 x0 x1 d)) :=
  tAdq (E := E) ha hh (k_289 hS hx0 p1 (fun z0 z1 => fun hsh => ⟨hsh, z0, z1⟩))
theorem p_291 {E : mO × tW} {d : mD} {x0 : Int} (hS : Safe d) (p0 : -2147483648 ≤ x0 ∧ x0 ≤ 2147483647) (ha : tokL E.2 [.inl (0, x0)]) (hh : tSh E.2 d) : tSh E.2 d ∧ (((0 ≤ (v_291 x0 d) ∧ (v_291 x0 d) ≤ 1))) :=
  tAdq (E := E) ha hh (k_291 hS p0 (fun z0 => fun hsh => ⟨hsh, z0⟩))
theorem p_292 {E : mO × tW} {d : mD} {x0 : Int} (hS : Safe d) (p0 : -2147483648 ≤ x0 ∧ x0 ≤ 2147483647) (ha : tokL E.2 [.inl (0, x0)]) (hh : tSh E.2 d) : tSh E.2 d ∧ (((0 ≤ (v_292 x0 d) ∧ (v_292 x0 d) ≤ 99) ∧ (¬ x0 = 1 ∨ (v_292 x0 d) ≤ 3))) :=
  tAdq (E := E) ha hh (k_292 hS p0 (fun z0 => fun hsh => ⟨hsh, z0⟩))
theorem p_293 {E : mO × tW} {d : mD} {x0 x1 x2 : Int} (hS : Safe d) (hx0 : mdB x0) (p1 : -2147483648 ≤ x1 ∧ x1 ≤ 2147483647) (p2 : -2147483648 ≤ x2 ∧ x2 ≤ 2147483647) (ha : tokL E.2 [.inr (11, x0), .inl (0, x1), .inl (0, x2)]) (hh : tSh E.2 d) : tSh E.2 (g_293 x0 x1 x2 d) ∧ ((∀ b : Int, (b < x0 ∨ x0 + 2 < b) → (g_293 x0 x1 x2 d) b = d b)) ∧ (Safe (g_293 x0 x1 x2 d)) :=
  tAdq (E := E) ha hh (k_293 hS hx0 p1 p2 (fun z0 z1 => fun hsh => ⟨hsh, z0, z1⟩))
theorem p_294 {E : mO × tW} {d : mD} {x0 : Int} (hS : Safe d) (hx0 : mdB x0) (ha : tokL E.2 [.inr (11, x0)]) (hh : tSh E.2 d) : tSh E.2 (g_294 x0 d) ∧ ((∀ b : Int, (b < x0 ∨ x0 + 1 < b) → (g_294 x0 d) b = d b)) ∧ (Safe (g_294 x0 d)) :=
  tAdq (E := E) ha hh (k_294 hS hx0 (fun z0 z1 => fun hsh => ⟨hsh, z0, z1⟩))
theorem p_295 {E : mO × tW} {d : mD} {x0 x1 : Int} (hS : Safe d) (hx0 : mdB x0) (p1 : -2147483648 ≤ x1 ∧ x1 ≤ 2147483647) (ha : tokL E.2 [.inr (11, x0), .inl (0, x1)]) (hh : tSh E.2 d) : tSh E.2 (g_295 x0 x1 d) ∧ ((∀ b : Int, (b < x0 ∨ x0 < b) ∧ (b < x0 + 3 ∨ x0 + 3 < b) ∧ (b < x0 + 6 ∨ x0 + 6 < b) → (g_295 x0 x1 d) b = d b)) ∧ (Safe (g_295 x0 x1 d)) :=
  tAdq (E := E) ha hh (k_295 hS hx0 p1 (fun z0 z1 => fun hsh => ⟨hsh, z0, z1⟩))
theorem p_296 {E : mO × tW} {d : mD} {x0 x1 : Int} (hS : Safe d) (hx0 : mdB x0) (p1 : -2147483648 ≤ x1 ∧ x1 ≤ 2147483647) (ha : tokL E.2 [.inr (11, x0), .inl (0, x1)]) (hh : tSh E.2 d) : tSh E.2 (g_296 x0 x1 d) ∧ ((∀ b : Int, (b < x0 ∨ x0 + 1 < b) → (g_296 x0 x1 d) b = d b)) ∧ (Safe (g_296 x0 x1 d)) :=
  tAdq (E := E) ha hh (k_296 hS hx0 p1 (fun z0 z1 => fun hsh => ⟨hsh, z0, z1⟩))
theorem p_188 {E : mO × tW} {d : mD} {x0 x1 x2 : Int} (hS : Safe d) (hx0 : mdB x0) (p1 : 0 ≤ x1 ∧ x1 ≤ 6) (p2 : 0 ≤ x2 ∧ x2 ≤ 1000) (ha : tokL E.2 [.inr (11, x0), .inl (0, x1), .inl (0, x2)]) (hh : tSh E.2 d) : tSh E.2 (g_188 x0 x1 x2 d) ∧ ((∀ b : Int, (b < x0 ∨ x0 < b) → (g_188 x0 x1 x2 d) b = d b)) ∧ ((g_188 x0 x1 x2 d) x0 9 = d x0 9) ∧ (((g_188 x0 x1 x2 d) x0 13 = 1)) ∧ ((d x0 10 ≤ (g_188 x0 x1 x2 d) x0 10)) ∧ ((d x0 13 = 0 ∨ ¬ (g_188 x0 x1 x2 d) x0 13 = 0)) ∧ (Safe (g_188 x0 x1 x2 d)) :=
  tAdq (E := E) ha hh (k_188 hS hx0 p1 p2 (fun z0 z1 z2 z3 z4 z5 => fun hsh => ⟨hsh, z0, z1, z2, z3, z4, z5⟩))
theorem p_189 {E : mO × tW} {d : mD} {x0 : Int} (hS : Safe d) (hx0 : mdB x0) (ha : tokL E.2 [.inr (11, x0)]) (hh : tSh E.2 d) : tSh E.2 (g_189 x0 d) ∧ ((∀ b : Int, (b < x0 ∨ x0 < b) → (g_189 x0 d) b = d b)) ∧ ((g_189 x0 d) x0 9 = d x0 9) ∧ ((d x0 10 ≤ (g_189 x0 d) x0 10)) ∧ ((d x0 13 = 0 ∨ ¬ (g_189 x0 d) x0 13 = 0)) ∧ (Safe (g_189 x0 d)) :=
  tAdq (E := E) ha hh (k_189 hS hx0 (fun z0 z1 z2 z3 z4 => fun hsh => ⟨hsh, z0, z1, z2, z3, z4⟩))
theorem p_192 {E : mO × tW} {d : mD} {x0 x1 : Int} (hS : Safe d) (hx0 : mdB x0) (p1 : -2147483648 ≤ x1 ∧ x1 ≤ 2147483647) (ha : tokL E.2 [.inr (11, x0), .inl (0, x1)]) (hh : tSh E.2 d) : tSh E.2 (g_192 x0 x1 d) ∧ ((0 ≤ (v_192 x0 x1 d) ∧ (v_192 x0 x1 d) ≤ 1)) ∧ ((∀ b : Int, (b < x0 ∨ x0 < b) → (g_192 x0 x1 d) b = d b)) ∧ ((g_192 x0 x1 d) x0 9 = d x0 9) ∧ ((d x0 10 ≤ (g_192 x0 x1 d) x0 10)) ∧ ((d x0 13 = 0 ∨ ¬ (g_192 x0 x1 d) x0 13 = 0)) ∧ (((v_192 x0 x1 d) = 0 ∨ (g_192 x0 x1 d) x0 10 < (g_192 x0 x1 d) x0 9)) ∧ (Safe (g_192 x0 x1 d)) :=
  tAdq (E := E) ha hh (k_192 hS hx0 p1 (fun z0 z1 z2 z3 z4 z5 z6 => fun hsh => ⟨hsh, z0, z1, z2, z3, z4, z5, z6⟩))
theorem p_193 {E : mO × tW} {d : mD} {x0 x1 : Int} (hS : Safe d) (hx0 : mdB x0) (p1 : 6 ≤ x1 ∧ x1 ≤ 8) (h68 : x1 = 6 ∨ x1 = 8) (ha : tokL E.2 [.inr (11, x0), .inl (0, x1)]) (hh : tSh E.2 d) : tSh E.2 (g_193 x0 x1 d) ∧ (((-1 ≤ (v_193 x0 x1 d) ∧ (v_193 x0 x1 d) ≤ 282429536480) ∧ (¬ x1 = 6 ∨ (v_193 x0 x1 d) ≤ 387420488))) ∧ ((∀ b : Int, (b < x0 ∨ x0 < b) → (g_193 x0 x1 d) b = d b)) ∧ ((g_193 x0 x1 d) x0 9 = d x0 9) ∧ ((d x0 10 ≤ (g_193 x0 x1 d) x0 10)) ∧ ((d x0 13 = 0 ∨ ¬ (g_193 x0 x1 d) x0 13 = 0)) ∧ ((¬ 1 ≤ (v_193 x0 x1 d) ∨ d x0 10 < (g_193 x0 x1 d) x0 10)) ∧ (Safe (g_193 x0 x1 d)) :=
  tAdq (E := E) ha hh (k_193 hS hx0 p1 h68 (fun z0 z1 z2 z3 z4 z5 z6 => fun hsh => ⟨hsh, z0, z1, z2, z3, z4, z5, z6⟩))
theorem p_197 {E : mO × tW} {d : mD} {x0 x1 x2 : Int} (hS : Safe d) (hx0 : mdB x0) (p1 : 0 ≤ x1 ∧ x1 ≤ 99999) (p2 : 0 ≤ x2 ∧ x2 ≤ 99999) (ha : tokL E.2 [.inr (11, x0), .inl (0, x1), .inl (0, x2)]) (hh : tSh E.2 d) : tSh E.2 (g_197 x0 x1 x2 d) ∧ (((0 ≤ (v_197 x0 x1 x2 d) ∧ (v_197 x0 x1 x2 d) ≤ x2) ∧ ((v_197 x0 x1 x2 d) = 0 ∨ x1 ≤ (v_197 x0 x1 x2 d)))) ∧ ((∀ b : Int, (b < x0 ∨ x0 < b) → (g_197 x0 x1 x2 d) b = d b)) ∧ ((g_197 x0 x1 x2 d) x0 9 = d x0 9) ∧ ((d x0 10 ≤ (g_197 x0 x1 x2 d) x0 10)) ∧ ((d x0 13 = 0 ∨ ¬ (g_197 x0 x1 x2 d) x0 13 = 0)) ∧ ((¬ (g_197 x0 x1 x2 d) x0 13 = 0 ∨ (x1 ≤ (v_197 x0 x1 x2 d) ∧ (v_197 x0 x1 x2 d) ≤ x2))) ∧ (Safe (g_197 x0 x1 x2 d)) :=
  tAdq (E := E) ha hh (k_197 hS hx0 p1 p2 (fun z0 z1 z2 z3 z4 z5 z6 => fun hsh => ⟨hsh, z0, z1, z2, z3, z4, z5, z6⟩))
theorem p_194 {E : mO × tW} {d : mD} {x0 x1 : Int} (hS : Safe d) (hx0 : mdB x0) (p1 : 1 ≤ x1 ∧ x1 ≤ 282429536480) (ha : tokL E.2 [.inr (11, x0), .inl (1, x1)]) (hh : tSh E.2 d) : tSh E.2 (g_194 x0 x1 d) ∧ ((0 ≤ (v_194 x0 x1 d) ∧ (v_194 x0 x1 d) ≤ 1)) ∧ ((∀ b : Int, (b < x0 ∨ x0 < b) → (g_194 x0 x1 d) b = d b)) ∧ ((g_194 x0 x1 d) x0 9 = d x0 9) ∧ ((d x0 10 ≤ (g_194 x0 x1 d) x0 10)) ∧ ((d x0 13 = 0 ∨ ¬ (g_194 x0 x1 d) x0 13 = 0)) ∧ (((v_194 x0 x1 d) = 0 ∨ d x0 10 < (g_194 x0 x1 d) x0 10)) ∧ (Safe (g_194 x0 x1 d)) :=
  tAdq (E := E) ha hh (k_194 hS hx0 p1 (fun z0 z1 z2 z3 z4 z5 z6 => fun hsh => ⟨hsh, z0, z1, z2, z3, z4, z5, z6⟩))
theorem p_195 {E : mO × tW} {d : mD} {x0 : Int} (hS : Safe d) (hx0 : mdB x0) (ha : tokL E.2 [.inr (11, x0)]) (hh : tSh E.2 d) : tSh E.2 (g_195 x0 d) ∧ ((∀ b : Int, (b < x0 ∨ x0 < b) → (g_195 x0 d) b = d b)) ∧ ((g_195 x0 d) x0 9 = d x0 9) ∧ ((d x0 10 ≤ (g_195 x0 d) x0 10)) ∧ ((d x0 13 = 0 ∨ ¬ (g_195 x0 d) x0 13 = 0)) ∧ ((¬ d x0 13 = 0 ∨ ¬ v_192 x0 59 d = 0 ∨ ¬ (g_195 x0 d) x0 13 = 0)) ∧ (Safe (g_195 x0 d)) :=
  tAdq (E := E) ha hh (k_195 hS hx0 (fun z0 z1 z2 z3 z4 z5 => fun hsh => ⟨hsh, z0, z1, z2, z3, z4, z5⟩))
theorem p_196 {E : mO × tW} {d : mD} {x0 x1 : Int} (hS : Safe d) (hx0 : mdB x0) (p1 : 0 ≤ x1 ∧ x1 ≤ 1) (ha : tokL E.2 [.inr (11, x0), .inl (0, x1)]) (hh : tSh E.2 d) : tSh E.2 (g_196 x0 x1 d) ∧ (((0 ≤ (v_196 x0 x1 d) ∧ (v_196 x0 x1 d) ≤ 1) ∧ ((v_196 x0 x1 d) = 0 ∨ ¬ x1 = 0))) ∧ ((∀ b : Int, (b < x0 ∨ x0 < b) → (g_196 x0 x1 d) b = d b)) ∧ ((g_196 x0 x1 d) x0 9 = d x0 9) ∧ ((d x0 10 ≤ (g_196 x0 x1 d) x0 10)) ∧ ((d x0 13 = 0 ∨ ¬ (g_196 x0 x1 d) x0 13 = 0)) ∧ (((v_196 x0 x1 d) = 0 ∨ (g_196 x0 x1 d) x0 13 = 0)) ∧ (Safe (g_196 x0 x1 d)) :=
  tAdq (E := E) ha hh (k_196 hS hx0 p1 (fun z0 z1 z2 z3 z4 z5 z6 => fun hsh => ⟨hsh, z0, z1, z2, z3, z4, z5, z6⟩))
theorem p_198 {E : mO × tW} {d : mD} {x0 : Int} (hS : Safe d) (hx0 : mdB x0) (ha : tokL E.2 [.inr (11, x0)]) (hh : tSh E.2 d) : tSh E.2 (g_198 x0 d) ∧ ((0 ≤ (v_198 x0 d) ∧ (v_198 x0 d) ≤ 387420488)) ∧ ((∀ b : Int, (b < x0 ∨ x0 < b) → (g_198 x0 d) b = d b)) ∧ ((g_198 x0 d) x0 9 = d x0 9) ∧ ((d x0 10 ≤ (g_198 x0 d) x0 10)) ∧ ((d x0 13 = 0 ∨ ¬ (g_198 x0 d) x0 13 = 0)) ∧ (Safe (g_198 x0 d)) :=
  tAdq (E := E) ha hh (k_198 hS hx0 (fun z0 z1 z2 z3 z4 z5 => fun hsh => ⟨hsh, z0, z1, z2, z3, z4, z5⟩))
theorem p_199 {E : mO × tW} {d : mD} {x0 x1 : Int} (hS : Safe d) (hx0 : mdB x0) (p1 : 0 ≤ x1 ∧ x1 ≤ 1) (ha : tokL E.2 [.inr (11, x0), .inl (0, x1)]) (hh : tSh E.2 d) : tSh E.2 (g_199 x0 x1 d) ∧ ((0 ≤ (v_199 x0 x1 d) ∧ (v_199 x0 x1 d) ≤ 15)) ∧ ((∀ b : Int, (b < x0 ∨ x0 < b) → (g_199 x0 x1 d) b = d b)) ∧ ((g_199 x0 x1 d) x0 9 = d x0 9) ∧ ((d x0 10 ≤ (g_199 x0 x1 d) x0 10)) ∧ ((d x0 13 = 0 ∨ ¬ (g_199 x0 x1 d) x0 13 = 0)) ∧ ((¬ (g_199 x0 x1 d) x0 13 = 0 ∨ x1 = 0 ∨ 0 ≤ v_201 x0 (v_199 x0 x1 d) (g_199 x0 x1 d))) ∧ (Safe (g_199 x0 x1 d)) :=
  tAdq (E := E) ha hh (k_199 hS hx0 p1 (fun z0 z1 z2 z3 z4 z5 z6 => fun hsh => ⟨hsh, z0, z1, z2, z3, z4, z5, z6⟩))
theorem p_200 {E : mO × tW} {d : mD} {x0 : Int} (hS : Safe d) (hx0 : mdB x0) (ha : tokL E.2 [.inr (11, x0)]) (hh : tSh E.2 d) : tSh E.2 (g_200 x0 d) ∧ ((0 ≤ (v_200 x0 d) ∧ (v_200 x0 d) ≤ 5)) ∧ ((∀ b : Int, (b < x0 ∨ x0 < b) → (g_200 x0 d) b = d b)) ∧ ((g_200 x0 d) x0 9 = d x0 9) ∧ ((d x0 10 ≤ (g_200 x0 d) x0 10)) ∧ ((d x0 13 = 0 ∨ ¬ (g_200 x0 d) x0 13 = 0)) ∧ (Safe (g_200 x0 d)) :=
  tAdq (E := E) ha hh (k_200 hS hx0 (fun z0 z1 z2 z3 z4 z5 => fun hsh => ⟨hsh, z0, z1, z2, z3, z4, z5⟩))
theorem p_210 {E : mO × tW} {d : mD} {x0 : Int} (hS : Safe d) (hx0 : mdB x0) (ha : tokL E.2 [.inr (11, x0)]) (hh : tSh E.2 d) : tSh E.2 (g_210 x0 d) ∧ ((0 ≤ (v_210 x0 d) ∧ (v_210 x0 d) ≤ 387420488)) ∧ ((∀ b : Int, (b < x0 ∨ x0 < b) → (g_210 x0 d) b = d b)) ∧ (Safe (g_210 x0 d)) :=
  tAdq (E := E) ha hh (k_210 hS hx0 (fun z0 z1 z2 => fun hsh => ⟨hsh, z0, z1, z2⟩))
theorem p_208 {E : mO × tW} {d : mD} {x0 : Int} (hS : Safe d) (hx0 : mdB x0) (ha : tokL E.2 [.inr (11, x0)]) (hh : tSh E.2 d) : tSh E.2 (g_208 x0 d) ∧ ((∀ b : Int, (b < x0 ∨ x0 < b) → (g_208 x0 d) b = d b)) ∧ (Safe (g_208 x0 d)) :=
  tAdq (E := E) ha hh (k_208 hS hx0 (fun z0 z1 => fun hsh => ⟨hsh, z0, z1⟩))
theorem p_209 {E : mO × tW} {d : mD} {x0 : Int} (hS : Safe d) (hx0 : mdB x0) (ha : tokL E.2 [.inr (11, x0)]) (hh : tSh E.2 d) : tSh E.2 (g_209 x0 d) ∧ ((∀ b : Int, (b < x0 ∨ x0 < b) → (g_209 x0 d) b = d b)) ∧ (Safe (g_209 x0 d)) :=
  tAdq (E := E) ha hh (k_209 hS hx0 (fun z0 z1 => fun hsh => ⟨hsh, z0, z1⟩))
theorem p_211 {E : mO × tW} {d : mD} {x0 x1 : Int} (hS : Safe d) (hx0 : mdB x0) (p1 : 0 ≤ x1 ∧ x1 ≤ 1) (ha : tokL E.2 [.inr (11, x0), .inl (0, x1)]) (hh : tSh E.2 d) : tSh E.2 (g_211 x0 x1 d) ∧ ((∀ b : Int, (b < x0 ∨ x0 < b) → (g_211 x0 x1 d) b = d b)) ∧ (Safe (g_211 x0 x1 d)) :=
  tAdq (E := E) ha hh (k_211 hS hx0 p1 (fun z0 z1 => fun hsh => ⟨hsh, z0, z1⟩))
theorem p_202 {E : mO × tW} {d : mD} {x0 : Int} (hS : Safe d) (hx0 : mdB x0) (hmp : mpP (d (x0 + 1))) (ho : d (x0 + 1) 7 ≤ 5) (ha : tokL E.2 [.inr (11, x0)]) (hh : tSh E.2 d) : tSh E.2 (g_202 x0 d) ∧ ((∀ b : Int, (b < x0 ∨ x0 + 1 < b) → (g_202 x0 d) b = d b)) ∧ ((g_202 x0 d) x0 9 = d x0 9) ∧ ((∀ i : Int, i = 0 ∨ (452 ≤ i ∧ i < 1916) → (g_202 x0 d) (x0 + 1) i = d (x0 + 1) i)) ∧ (mpP ((g_202 x0 d) (x0 + 1))) ∧ ((d x0 10 ≤ (g_202 x0 d) x0 10)) ∧ ((d x0 13 = 0 ∨ ¬ (g_202 x0 d) x0 13 = 0)) ∧ (Safe (g_202 x0 d)) :=
  tAdq (E := E) ha hh (k_202 hS hx0 hmp ho (fun z0 z1 z2 z3 z4 z5 z6 => fun hsh => ⟨hsh, z0, z1, z2, z3, z4, z5, z6⟩))
theorem p_203 {E : mO × tW} {d : mD} {x0 : Int} (hS : Safe d) (hx0 : mdB x0) (ho : d (x0 + 1) 8 ≤ 15) (ha : tokL E.2 [.inr (11, x0)]) (hh : tSh E.2 d) : tSh E.2 (g_203 x0 d) ∧ ((∀ b : Int, (b < x0 ∨ x0 + 1 < b) → (g_203 x0 d) b = d b)) ∧ ((g_203 x0 d) x0 9 = d x0 9) ∧ ((∀ i : Int, i = 7 ∨ (12 ≤ i ∧ i < 420 ∧ (i - 12) % 68 = 2) ∨ i = 0 ∨ (452 ≤ i ∧ i < 1916) → (g_203 x0 d) (x0 + 1) i = d (x0 + 1) i)) ∧ ((d x0 10 ≤ (g_203 x0 d) x0 10)) ∧ ((d x0 13 = 0 ∨ ¬ (g_203 x0 d) x0 13 = 0)) ∧ (Safe (g_203 x0 d)) :=
  tAdq (E := E) ha hh (k_203 hS hx0 ho (fun z0 z1 z2 z3 z4 z5 => fun hsh => ⟨hsh, z0, z1, z2, z3, z4, z5⟩))
theorem p_204 {E : mO × tW} {d : mD} {x0 x1 : Int} (hS : Safe d) (hx0 : mdB x0) (p1 : 0 ≤ x1 ∧ x1 ≤ 1) (hmp : mpP (d (x0 + 1))) (ha : tokL E.2 [.inr (11, x0), .inl (0, x1)]) (hh : tSh E.2 d) : tSh E.2 (g_204 x0 x1 d) ∧ ((∀ b : Int, (b < x0 ∨ x0 + 1 < b) → (g_204 x0 x1 d) b = d b)) ∧ ((g_204 x0 x1 d) x0 9 = d x0 9) ∧ ((∀ i : Int, i = 0 ∨ (452 ≤ i ∧ i < 1916) → (g_204 x0 x1 d) (x0 + 1) i = d (x0 + 1) i)) ∧ (mpP ((g_204 x0 x1 d) (x0 + 1))) ∧ ((d x0 10 ≤ (g_204 x0 x1 d) x0 10)) ∧ ((d x0 13 = 0 ∨ ¬ (g_204 x0 x1 d) x0 13 = 0)) ∧ (Safe (g_204 x0 x1 d)) :=
  tAdq (E := E) ha hh (k_204 hS hx0 p1 hmp (fun z0 z1 z2 z3 z4 z5 z6 => fun hsh => ⟨hsh, z0, z1, z2, z3, z4, z5, z6⟩))
theorem p_290 {E : mO × tW} {d : mD} {x0 : Int} (hS : Safe d) (hx0 : mdB x0) (ha : tokL E.2 [.inr (11, x0)]) (hh : tSh E.2 d) : tSh E.2 (g_290 x0 d) ∧ ((∀ b : Int, (b < x0 ∨ x0 + 2 < b) → (g_290 x0 d) b = d b)) ∧ (Safe (g_290 x0 d)) :=
  tAdq (E := E) ha hh (k_290 hS hx0 (fun z0 z1 => fun hsh => ⟨hsh, z0, z1⟩))
theorem p_286 {E : mO × tW} {d : mD} {x0 x1 x2 : Int} (hS : Safe d) (hx0 : mdB x0) (p1 : -2147483648 ≤ x1 ∧ x1 ≤ 2147483647) (p2 : -2147483648 ≤ x2 ∧ x2 ≤ 2147483647) (hrk : rkP (d (x0 + 1))) (ha : tokL E.2 [.inr (11, x0), .inl (0, x1), .inl (0, x2)]) (hh : tSh E.2 d) : tSh E.2 (g_286 x0 x1 x2 d) ∧ ((∀ b : Int, (b < x0 ∨ x0 + 2 < b) → (g_286 x0 x1 x2 d) b = d b)) ∧ (Safe (g_286 x0 x1 x2 d)) :=
  tAdq (E := E) ha hh (k_286 hS hx0 p1 p2 hrk (fun z0 z1 => fun hsh => ⟨hsh, z0, z1⟩))
theorem p_280 {E : mO × tW} {d : mD} {x0 x1 : Int} (hS : Safe d) (hx0 : mdB x0) (p1 : -2147483648 ≤ x1 ∧ x1 ≤ 2147483647) (hwq : x1 < 0 ∨ d (x0 + 1) 9 ≤ x1 ∨ ¬ d (x0 + 1) (452 + 24 * x1 + 4) = 0 ∨ (0 ≤ v_221 x0 x1 d ∧ 1 ≤ d (x0 + 1) (12 + 68 * d (x0 + 1) (452 + 24 * x1 + 1) + 5))) (ha : tokL E.2 [.inr (11, x0), .inl (0, x1)]) (hh : tSh E.2 d) : tSh E.2 (g_280 x0 x1 d) ∧ ((∀ b : Int, (b < x0 ∨ x0 + 2 < b) → (g_280 x0 x1 d) b = d b)) ∧ (Safe (g_280 x0 x1 d)) :=
  tAdq (E := E) ha hh (k_280 hS hx0 p1 hwq (fun z0 z1 => fun hsh => ⟨hsh, z0, z1⟩))
theorem p_205 {E : mO × tW} {d : mD} {x0 : Int} (hS : Safe d) (hx0 : mdB x0) (hmp : mpP (d (x0 + 1))) (hmw : mwP (d (x0 + 1))) (ht : d (x0 + 1) 0 ≤ 999) (ha : tokL E.2 [.inr (11, x0)]) (hh : tSh E.2 d) : tSh E.2 (g_205 x0 d) ∧ ((∀ b : Int, (b < x0 ∨ x0 + 1 < b) → (g_205 x0 d) b = d b)) ∧ ((g_205 x0 d) x0 9 = d x0 9) ∧ (mpP ((g_205 x0 d) (x0 + 1))) ∧ (mwP ((g_205 x0 d) (x0 + 1))) ∧ (((g_205 x0 d) (x0 + 1) 0 ≤ 999)) ∧ (Safe (g_205 x0 d)) :=
  tAdq (E := E) ha hh (k_205 hS hx0 hmp hmw ht (fun z0 z1 z2 z3 z4 z5 => fun hsh => ⟨hsh, z0, z1, z2, z3, z4, z5⟩))
theorem p_206 {E : mO × tW} {d : mD} {x0 : Int} (hS : Safe d) (hx0 : mdB x0) (ha : tokL E.2 [.inr (11, x0)]) (hh : tSh E.2 d) : tSh E.2 (g_206 x0 d) ∧ ((∀ b : Int, (b < x0 ∨ x0 + 1 < b) → (g_206 x0 d) b = d b)) ∧ ((g_206 x0 d) x0 9 = d x0 9) ∧ (mpP ((g_206 x0 d) (x0 + 1))) ∧ (mwP ((g_206 x0 d) (x0 + 1))) ∧ (((g_206 x0 d) (x0 + 1) 0 ≤ 999)) ∧ (Safe (g_206 x0 d)) :=
  tAdq (E := E) ha hh (k_206 hS hx0 (fun z0 z1 z2 z3 z4 z5 => fun hsh => ⟨hsh, z0, z1, z2, z3, z4, z5⟩))
theorem p_207 {E : mO × tW} {d : mD} {x0 : Int} (hS : Safe d) (hx0 : mdB x0) (ha : tokL E.2 [.inr (11, x0)]) (hh : tSh E.2 d) : tSh E.2 (g_207 x0 d) ∧ ((∀ b : Int, (b < x0 ∨ x0 + 1 < b) ∧ (b < x0 + 5 ∨ x0 + 6 < b) → (g_207 x0 d) b = d b)) ∧ (Safe (g_207 x0 d)) :=
  tAdq (E := E) ha hh (k_207 hS hx0 (fun z0 z1 => fun hsh => ⟨hsh, z0, z1⟩))
theorem p_53 {E : mO × tW} {d : mD} {x0 : Int} (hS : Safe d) (hx0 : reB x0) (ha : tokL E.2 [.inr (5, x0)]) (hh : tSh E.2 d) : tSh E.2 (g_53 x0 d) ∧ ((∀ b : Int, (b < x0 ∨ x0 < b) → (g_53 x0 d) b = d b)) ∧ (Safe (g_53 x0 d)) :=
  tAdq (E := E) ha hh (k_53 hS hx0 (fun z0 z1 => fun hsh => ⟨hsh, z0, z1⟩))
theorem p_54 {E : mO × tW} {d : mD} {x0 : Int} (hS : Safe d) (hx0 : reB x0) (hze : d x0 3 = d x0 2) (ha : tokL E.2 [.inr (5, x0)]) (hh : tSh E.2 d) : tSh E.2 (g_54 x0 d) ∧ ((∀ b : Int, (b < x0 ∨ x0 < b) → (g_54 x0 d) b = d b)) ∧ (Safe (g_54 x0 d)) :=
  tAdq (E := E) ha hh (k_54 hS hx0 hze (fun z0 z1 => fun hsh => ⟨hsh, z0, z1⟩))
theorem p_52 {E : mO × tW} {d : mD} {x0 : Int} (hS : Safe d) (hx0 : reB x0) (ha : tokL E.2 [.inr (5, x0)]) (hh : tSh E.2 d) : tSh E.2 (g_52 x0 d) ∧ ((∀ b : Int, (b < x0 ∨ x0 < b) → (g_52 x0 d) b = d b)) ∧ (Safe (g_52 x0 d)) :=
  tAdq (E := E) ha hh (k_52 hS hx0 (fun z0 z1 => fun hsh => ⟨hsh, z0, z1⟩))
theorem p_51 {E : mO × tW} {d : mD} {x0 : Int} (hS : Safe d) (hx0 : reB x0) (ha : tokL E.2 [.inr (5, x0)]) (hh : tSh E.2 d) : tSh E.2 (g_51 x0 d) ∧ ((∀ b : Int, (b < x0 ∨ x0 < b) → (g_51 x0 d) b = d b)) ∧ (Safe (g_51 x0 d)) :=
  tAdq (E := E) ha hh (k_51 hS hx0 (fun z0 z1 => fun hsh => ⟨hsh, z0, z1⟩))
theorem p_56 {E : mO × tW} {d : mD} {x0 : Int} (hS : Safe d) (hx0 : reB x0) (ha : tokL E.2 [.inr (5, x0)]) (hh : tSh E.2 d) : tSh E.2 d ∧ ((-1 ≤ (v_56 x0 d) ∧ (v_56 x0 d) ≤ 1073741823)) :=
  tAdq (E := E) ha hh (k_56 hS hx0 (fun z0 => fun hsh => ⟨hsh, z0⟩))
theorem p_32 {E : mO × tW} {d : mD} {x0 x1 : Int} (hS : Safe d) (hx0 : ldB x0) (p1 : 0 ≤ x1 ∧ x1 ≤ 6) (ha : tokL E.2 [.inr (2, x0), .inl (0, x1)]) (hh : tSh E.2 d) : tSh E.2 (g_32 x0 x1 d) ∧ ((0 ≤ (v_32 x0 x1 d) ∧ (v_32 x0 x1 d) ≤ 1)) ∧ ((∀ b : Int, (b < x0 ∨ x0 < b) → (g_32 x0 x1 d) b = d b)) ∧ ((g_32 x0 x1 d) x0 4 = d x0 4) ∧ ((g_32 x0 x1 d) x0 5 = d x0 5) ∧ ((g_32 x0 x1 d) x0 6 = d x0 6) ∧ ((g_32 x0 x1 d) (x0 + 4) 2 = d (x0 + 4) 2) ∧ (((v_32 x0 x1 d) = 0)) ∧ (Safe (g_32 x0 x1 d)) :=
  tAdq (E := E) ha hh (k_32 hS hx0 p1 (fun z0 z1 z2 z3 z4 z5 z6 z7 => fun hsh => ⟨hsh, z0, z1, z2, z3, z4, z5, z6, z7⟩))
theorem p_30 {E : mO × tW} {d : mD} {x0 : Int} (hS : Safe d) (hx0 : ldB x0) (ha : tokL E.2 [.inr (2, x0)]) (hh : tSh E.2 d) : tSh E.2 (g_30 x0 d) ∧ ((0 ≤ (v_30 x0 d) ∧ (v_30 x0 d) ≤ 1)) ∧ ((∀ b : Int, (b < x0 ∨ x0 < b) → (g_30 x0 d) b = d b)) ∧ ((g_30 x0 d) x0 4 = d x0 4) ∧ ((g_30 x0 d) x0 5 = d x0 5) ∧ ((g_30 x0 d) x0 6 = d x0 6) ∧ ((g_30 x0 d) (x0 + 4) 2 = d (x0 + 4) 2) ∧ (Safe (g_30 x0 d)) :=
  tAdq (E := E) ha hh (k_30 hS hx0 (fun z0 z1 z2 z3 z4 z5 z6 => fun hsh => ⟨hsh, z0, z1, z2, z3, z4, z5, z6⟩))
theorem p_31 {E : mO × tW} {d : mD} {x0 : Int} (hS : Safe d) (hx0 : ldB x0) (ha : tokL E.2 [.inr (2, x0)]) (hh : tSh E.2 d) : tSh E.2 (g_31 x0 d) ∧ ((0 ≤ (v_31 x0 d) ∧ (v_31 x0 d) ≤ 1)) ∧ ((∀ b : Int, (b < x0 ∨ x0 + 1 < b) → (g_31 x0 d) b = d b)) ∧ ((g_31 x0 d) x0 4 = d x0 4) ∧ ((g_31 x0 d) x0 5 = d x0 5) ∧ ((g_31 x0 d) x0 6 = d x0 6) ∧ ((g_31 x0 d) (x0 + 4) 2 = d (x0 + 4) 2) ∧ (Safe (g_31 x0 d)) :=
  tAdq (E := E) ha hh (k_31 hS hx0 (fun z0 z1 z2 z3 z4 z5 z6 => fun hsh => ⟨hsh, z0, z1, z2, z3, z4, z5, z6⟩))
theorem p_24 {E : mO × tW} {d : mD} {x0 x1 : Int} (hW : W55 E) (hS : Safe d) (hx0 : ldB x0) (hk : 0 ≤ x1 ∧ x1 ≤ 6) (ha : tokL E.2 [.inr (2, x0), .inl (5, x1)]) (hh : tSh E.2 d) : tSh E.2 (g_24 x0 x1 d) ∧ ((0 ≤ (v_24 x0 x1 d) ∧ (v_24 x0 x1 d) ≤ 1)) ∧ ((∀ b : Int, (b < x0 ∨ x0 + 1 < b) → (g_24 x0 x1 d) b = d b)) ∧ ((g_24 x0 x1 d) x0 4 = d x0 4) ∧ ((g_24 x0 x1 d) x0 5 = d x0 5) ∧ ((g_24 x0 x1 d) x0 6 = d x0 6) ∧ ((g_24 x0 x1 d) (x0 + 4) 2 = d (x0 + 4) 2) ∧ (Safe (g_24 x0 x1 d)) :=
  tAdq (E := E) ha hh (k_24 hW hS hx0 hk (fun z0 z1 z2 z3 z4 z5 z6 => fun hsh => ⟨hsh, z0, z1, z2, z3, z4, z5, z6⟩))
theorem p_25 {E : mO × tW} {d : mD} {x0 x1 x2 : Int} (hS : Safe d) (hx0 : ldB x0) (p1 : 0 ≤ x1 ∧ x1 ≤ 99999) (p2 : 0 ≤ x2 ∧ x2 ≤ 99999) (ha : tokL E.2 [.inr (2, x0), .inl (0, x1), .inl (0, x2)]) (hh : tSh E.2 d) : tSh E.2 (g_25 x0 x1 x2 d) ∧ ((0 ≤ (v_25 x0 x1 x2 d) ∧ (v_25 x0 x1 x2 d) ≤ 1)) ∧ ((∀ b : Int, (b < x0 ∨ x0 + 1 < b) → (g_25 x0 x1 x2 d) b = d b)) ∧ ((g_25 x0 x1 x2 d) x0 5 = d x0 5) ∧ ((g_25 x0 x1 x2 d) x0 6 = d x0 6) ∧ ((g_25 x0 x1 x2 d) (x0 + 4) 2 = d (x0 + 4) 2) ∧ (((v_25 x0 x1 x2 d) = 0 ∨ (x1 ≤ (g_25 x0 x1 x2 d) x0 4 ∧ (g_25 x0 x1 x2 d) x0 4 ≤ x2))) ∧ (Safe (g_25 x0 x1 x2 d)) :=
  tAdq (E := E) ha hh (k_25 hS hx0 p1 p2 (fun z0 z1 z2 z3 z4 z5 z6 => fun hsh => ⟨hsh, z0, z1, z2, z3, z4, z5, z6⟩))
theorem p_26 {E : mO × tW} {d : mD} {x0 : Int} (hS : Safe d) (hx0 : ldB x0) (ha : tokL E.2 [.inr (2, x0)]) (hh : tSh E.2 d) : tSh E.2 (g_26 x0 d) ∧ ((0 ≤ (v_26 x0 d) ∧ (v_26 x0 d) ≤ 1)) ∧ ((∀ b : Int, (b < x0 ∨ x0 + 1 < b) → (g_26 x0 d) b = d b)) ∧ ((g_26 x0 d) x0 4 = d x0 4) ∧ ((g_26 x0 d) x0 6 = d x0 6) ∧ ((g_26 x0 d) (x0 + 4) 2 = d (x0 + 4) 2) ∧ (((v_26 x0 d) = 0 ∨ (0 ≤ (g_26 x0 d) x0 5 ∧ ¬ v_56 (x0 + 1) d = -1))) ∧ (Safe (g_26 x0 d)) :=
  tAdq (E := E) ha hh (k_26 hS hx0 (fun z0 z1 z2 z3 z4 z5 z6 => fun hsh => ⟨hsh, z0, z1, z2, z3, z4, z5, z6⟩))
theorem p_27 {E : mO × tW} {d : mD} {x0 : Int} (hS : Safe d) (hx0 : ldB x0) (ha : tokL E.2 [.inr (2, x0)]) (hh : tSh E.2 d) : tSh E.2 (g_27 x0 d) ∧ ((0 ≤ (v_27 x0 d) ∧ (v_27 x0 d) ≤ 1)) ∧ ((∀ b : Int, (b < x0 ∨ x0 + 1 < b) → (g_27 x0 d) b = d b)) ∧ ((g_27 x0 d) x0 4 = d x0 4) ∧ ((g_27 x0 d) (x0 + 4) 2 = d (x0 + 4) 2) ∧ (((v_27 x0 d) = 0 ∨ (0 ≤ (g_27 x0 d) x0 6 ∧ (g_27 x0 d) x0 6 ≤ 15))) ∧ (Safe (g_27 x0 d)) :=
  tAdq (E := E) ha hh (k_27 hS hx0 (fun z0 z1 z2 z3 z4 z5 => fun hsh => ⟨hsh, z0, z1, z2, z3, z4, z5⟩))
theorem p_28 {E : mO × tW} {d : mD} {x0 : Int} (hS : Safe d) (hx0 : ldB x0) (ha : tokL E.2 [.inr (2, x0)]) (hh : tSh E.2 d) : tSh E.2 (g_28 x0 d) ∧ ((0 ≤ (v_28 x0 d) ∧ (v_28 x0 d) ≤ 1)) ∧ ((∀ b : Int, (b < x0 ∨ x0 + 1 < b) → (g_28 x0 d) b = d b)) ∧ ((g_28 x0 d) x0 4 = d x0 4) ∧ ((g_28 x0 d) (x0 + 4) 2 = d (x0 + 4) 2) ∧ (((v_28 x0 d) = 0 ∨ (0 ≤ (g_28 x0 d) x0 6 ∧ (g_28 x0 d) x0 6 ≤ 5))) ∧ (Safe (g_28 x0 d)) :=
  tAdq (E := E) ha hh (k_28 hS hx0 (fun z0 z1 z2 z3 z4 z5 => fun hsh => ⟨hsh, z0, z1, z2, z3, z4, z5⟩))
theorem p_29 {E : mO × tW} {d : mD} {x0 : Int} (hS : Safe d) (hx0 : ldB x0) (ha : tokL E.2 [.inr (2, x0)]) (hh : tSh E.2 d) : tSh E.2 (g_29 x0 d) ∧ ((0 ≤ (v_29 x0 d) ∧ (v_29 x0 d) ≤ 1)) ∧ ((∀ b : Int, (b < x0 ∨ x0 + 1 < b) → (g_29 x0 d) b = d b)) ∧ ((g_29 x0 d) x0 4 = d x0 4) ∧ ((g_29 x0 d) (x0 + 4) 2 = d (x0 + 4) 2) ∧ (((v_29 x0 d) = 0 ∨ (0 ≤ (g_29 x0 d) x0 6 ∧ (g_29 x0 d) x0 6 ≤ 59))) ∧ (Safe (g_29 x0 d)) :=
  tAdq (E := E) ha hh (k_29 hS hx0 (fun z0 z1 z2 z3 z4 z5 => fun hsh => ⟨hsh, z0, z1, z2, z3, z4, z5⟩))
theorem p_13 {E : mO × tW} {d : mD} {x0 : Int} (hS : Safe d) (hx0 : ldB x0) (ha : tokL E.2 [.inr (2, x0)]) (hh : tSh E.2 d) : tSh E.2 (g_13 x0 d) ∧ ((∀ b : Int, (b < x0 ∨ x0 + 1 < b) ∧ (b < x0 + 4 ∨ x0 + 4 < b) ∧ (b < x0 + 6 ∨ x0 + 6 < b) ∧ (b < x0 + 14 ∨ x0 + 14 < b) ∧ (b < x0 + 53 ∨ x0 + 53 < b) ∧ (b < x0 + 61 ∨ x0 + 61 < b) → (g_13 x0 d) b = d b)) ∧ (((g_13 x0 d) (x0 + 4) 2 = 0)) ∧ (Safe (g_13 x0 d)) :=
  tAdq (E := E) ha hh (k_13 hS hx0 (fun z0 z1 z2 => fun hsh => ⟨hsh, z0, z1, z2⟩))
theorem p_14 {E : mO × tW} {d : mD} {x0 : Int} (hE : EOK E) (hW : W55 E) (hS : Safe d) (hx0 : ldB x0) (ht : d (x0 + 4) 2 ≤ 999) (ha : tokL E.2 [.inr (2, x0)]) (hh : tSh E.2 d) : tSh E.2 (g_14 x0 d) ∧ ((0 ≤ (v_14 x0 d) ∧ (v_14 x0 d) ≤ 1)) ∧ ((∀ b : Int, (b < x0 ∨ x0 + 1 < b) ∧ (b < x0 + 4 ∨ x0 + 5 < b) → (g_14 x0 d) b = d b)) ∧ (((g_14 x0 d) (x0 + 4) 2 ≤ 999)) ∧ (Safe (g_14 x0 d)) :=
  tAdq (E := E) ha hh (k_14 hE hW hS hx0 ht (fun z0 z1 z2 z3 => fun hsh => ⟨hsh, z0, z1, z2, z3⟩))
theorem p_16 {E : mO × tW} {d : mD} {x0 : Int} (hS : Safe d) (hx0 : ldB x0) (ht : d (x0 + 4) 2 ≤ 999) (ha : tokL E.2 [.inr (2, x0)]) (hh : tSh E.2 d) : tSh E.2 (g_16 x0 d) ∧ ((0 ≤ (v_16 x0 d) ∧ (v_16 x0 d) ≤ 1)) ∧ ((∀ b : Int, (b < x0 ∨ x0 + 1 < b) ∧ (b < x0 + 6 ∨ x0 + 12 < b) → (g_16 x0 d) b = d b)) ∧ (((g_16 x0 d) (x0 + 4) 2 ≤ 999)) ∧ (Safe (g_16 x0 d)) :=
  tAdq (E := E) ha hh (k_16 hS hx0 ht (fun z0 z1 z2 z3 => fun hsh => ⟨hsh, z0, z1, z2, z3⟩))
theorem p_15 {E : mO × tW} {d : mD} {x0 : Int} (hW : W55 E) (hS : Safe d) (hx0 : ldB x0) (ht : d (x0 + 4) 2 ≤ 999) (ha : tokL E.2 [.inr (2, x0)]) (hh : tSh E.2 d) : tSh E.2 (g_15 x0 d) ∧ ((0 ≤ (v_15 x0 d) ∧ (v_15 x0 d) ≤ 1)) ∧ ((∀ b : Int, (b < x0 ∨ x0 + 1 < b) ∧ (b < x0 + 6 ∨ x0 + 12 < b) → (g_15 x0 d) b = d b)) ∧ (((g_15 x0 d) (x0 + 4) 2 ≤ 999)) ∧ (Safe (g_15 x0 d)) :=
  tAdq (E := E) ha hh (k_15 hW hS hx0 ht (fun z0 z1 z2 z3 => fun hsh => ⟨hsh, z0, z1, z2, z3⟩))
theorem p_18 {E : mO × tW} {d : mD} {x0 : Int} (hS : Safe d) (hx0 : ldB x0) (ht : d (x0 + 4) 2 ≤ 999) (ha : tokL E.2 [.inr (2, x0)]) (hh : tSh E.2 d) : tSh E.2 (g_18 x0 d) ∧ ((0 ≤ (v_18 x0 d) ∧ (v_18 x0 d) ≤ 1)) ∧ ((∀ b : Int, (b < x0 ∨ x0 + 1 < b) ∧ (b < x0 + 14 ∨ x0 + 19 < b) ∧ (b < x0 + 22 ∨ x0 + 52 < b) → (g_18 x0 d) b = d b)) ∧ (((g_18 x0 d) (x0 + 4) 2 ≤ 999)) ∧ (Safe (g_18 x0 d)) :=
  tAdq (E := E) ha hh (k_18 hS hx0 ht (fun z0 z1 z2 z3 => fun hsh => ⟨hsh, z0, z1, z2, z3⟩))
theorem p_17 {E : mO × tW} {d : mD} {x0 : Int} (hW : W55 E) (hS : Safe d) (hx0 : ldB x0) (ht : d (x0 + 4) 2 ≤ 999) (ha : tokL E.2 [.inr (2, x0)]) (hh : tSh E.2 d) : tSh E.2 (g_17 x0 d) ∧ ((0 ≤ (v_17 x0 d) ∧ (v_17 x0 d) ≤ 1)) ∧ ((∀ b : Int, (b < x0 ∨ x0 + 1 < b) ∧ (b < x0 + 14 ∨ x0 + 19 < b) ∧ (b < x0 + 22 ∨ x0 + 52 < b) → (g_17 x0 d) b = d b)) ∧ (((g_17 x0 d) (x0 + 4) 2 ≤ 999)) ∧ (Safe (g_17 x0 d)) :=
  tAdq (E := E) ha hh (k_17 hW hS hx0 ht (fun z0 z1 z2 z3 => fun hsh => ⟨hsh, z0, z1, z2, z3⟩))
theorem p_20 {E : mO × tW} {d : mD} {x0 : Int} (hS : Safe d) (hx0 : ldB x0) (ht : d (x0 + 4) 2 ≤ 999) (ha : tokL E.2 [.inr (2, x0)]) (hh : tSh E.2 d) : tSh E.2 (g_20 x0 d) ∧ ((0 ≤ (v_20 x0 d) ∧ (v_20 x0 d) ≤ 1)) ∧ ((∀ b : Int, (b < x0 ∨ x0 + 1 < b) ∧ (b < x0 + 12 ∨ x0 + 13 < b) ∧ (b < x0 + 53 ∨ x0 + 60 < b) → (g_20 x0 d) b = d b)) ∧ (((g_20 x0 d) (x0 + 4) 2 ≤ 999)) ∧ (Safe (g_20 x0 d)) :=
  tAdq (E := E) ha hh (k_20 hS hx0 ht (fun z0 z1 z2 z3 => fun hsh => ⟨hsh, z0, z1, z2, z3⟩))
theorem p_21 {E : mO × tW} {d : mD} {x0 : Int} (hS : Safe d) (hx0 : ldB x0) (ht : d (x0 + 4) 2 ≤ 999) (ha : tokL E.2 [.inr (2, x0)]) (hh : tSh E.2 d) : tSh E.2 (g_21 x0 d) ∧ ((0 ≤ (v_21 x0 d) ∧ (v_21 x0 d) ≤ 1)) ∧ ((∀ b : Int, (b < x0 ∨ x0 + 1 < b) ∧ (b < x0 + 4 ∨ x0 + 4 < b) ∧ (b < x0 + 12 ∨ x0 + 13 < b) ∧ (b < x0 + 16 ∨ x0 + 19 < b) ∧ (b < x0 + 22 ∨ x0 + 52 < b) ∧ (b < x0 + 57 ∨ x0 + 58 < b) ∧ (b < x0 + 61 ∨ x0 + 66 < b) → (g_21 x0 d) b = d b)) ∧ (((g_21 x0 d) (x0 + 4) 2 ≤ 999)) ∧ (Safe (g_21 x0 d)) :=
  tAdq (E := E) ha hh (k_21 hS hx0 ht (fun z0 z1 z2 z3 => fun hsh => ⟨hsh, z0, z1, z2, z3⟩))
theorem p_22 {E : mO × tW} {d : mD} {x0 : Int} (hS : Safe d) (hx0 : ldB x0) (ht : d (x0 + 4) 2 ≤ 999) (ha : tokL E.2 [.inr (2, x0)]) (hh : tSh E.2 d) : tSh E.2 (g_22 x0 d) ∧ ((0 ≤ (v_22 x0 d) ∧ (v_22 x0 d) ≤ 1)) ∧ ((∀ b : Int, (b < x0 ∨ x0 + 1 < b) ∧ (b < x0 + 17 ∨ x0 + 17 < b) ∧ (b < x0 + 22 ∨ x0 + 52 < b) ∧ (b < x0 + 59 ∨ x0 + 59 < b) ∧ (b < x0 + 61 ∨ x0 + 65 < b) → (g_22 x0 d) b = d b)) ∧ (((g_22 x0 d) (x0 + 4) 2 ≤ 999)) ∧ (Safe (g_22 x0 d)) :=
  tAdq (E := E) ha hh (k_22 hS hx0 ht (fun z0 z1 z2 z3 => fun hsh => ⟨hsh, z0, z1, z2, z3⟩))
theorem p_23 {E : mO × tW} {d : mD} {x0 : Int} (hS : Safe d) (hx0 : ldB x0) (ht : d (x0 + 4) 2 ≤ 999) (ha : tokL E.2 [.inr (2, x0)]) (hh : tSh E.2 d) : tSh E.2 (g_23 x0 d) ∧ ((0 ≤ (v_23 x0 d) ∧ (v_23 x0 d) ≤ 1)) ∧ ((∀ b : Int, (b < x0 ∨ x0 + 1 < b) ∧ (b < x0 + 17 ∨ x0 + 19 < b) ∧ (b < x0 + 22 ∨ x0 + 52 < b) ∧ (b < x0 + 59 ∨ x0 + 65 < b) → (g_23 x0 d) b = d b)) ∧ (((g_23 x0 d) (x0 + 4) 2 ≤ 999)) ∧ (Safe (g_23 x0 d)) :=
  tAdq (E := E) ha hh (k_23 hS hx0 ht (fun z0 z1 z2 z3 => fun hsh => ⟨hsh, z0, z1, z2, z3⟩))
theorem p_19 {E : mO × tW} {d : mD} {x0 : Int} (hW : W55 E) (hS : Safe d) (hx0 : ldB x0) (ht : d (x0 + 4) 2 ≤ 999) (ha : tokL E.2 [.inr (2, x0)]) (hh : tSh E.2 d) : tSh E.2 (g_19 x0 d) ∧ ((0 ≤ (v_19 x0 d) ∧ (v_19 x0 d) ≤ 1)) ∧ ((∀ b : Int, (b < x0 ∨ x0 + 1 < b) ∧ (b < x0 + 4 ∨ x0 + 4 < b) ∧ (b < x0 + 12 ∨ x0 + 13 < b) ∧ (b < x0 + 16 ∨ x0 + 19 < b) ∧ (b < x0 + 22 ∨ x0 + 66 < b) → (g_19 x0 d) b = d b)) ∧ (((g_19 x0 d) (x0 + 4) 2 ≤ 999)) ∧ (Safe (g_19 x0 d)) :=
  tAdq (E := E) ha hh (k_19 hW hS hx0 ht (fun z0 z1 z2 z3 => fun hsh => ⟨hsh, z0, z1, z2, z3⟩))
theorem p_301 {E : mO × tW} {d : mD} {x0 x1 x2 x3 x4 x5 x6 : Int} (hS : Safe d) (hx0 : wbB x0) (hx6 : ouB x6) (p1 : -2147483648 ≤ x1 ∧ x1 ≤ 2147483647) (p2 : -2147483648 ≤ x2 ∧ x2 ≤ 2147483647) (p3 : -2147483648 ≤ x3 ∧ x3 ≤ 2147483647) (p4 : -2147483648 ≤ x4 ∧ x4 ≤ 2147483647) (p5 : -2147483648 ≤ x5 ∧ x5 ≤ 2147483647) (ha : tokL E.2 [.inr (10, x0), .inl (0, x1), .inl (0, x2), .inl (0, x3), .inl (0, x4), .inl (0, x5), .inr (30, x6)]) (hh : tSh E.2 d) : tSh E.2 (g_301 x0 x1 x2 x3 x4 x5 x6 d) ∧ ((0 ≤ (v_301 x0 x1 x2 x3 x4 x5 x6 d) ∧ (v_301 x0 x1 x2 x3 x4 x5 x6 d) ≤ 3)) ∧ ((∀ b : Int, (b < x0 + 578 ∨ x0 + 579 < b) ∧ (b < x6 ∨ x6 < b) → (g_301 x0 x1 x2 x3 x4 x5 x6 d) b = d b)) ∧ (Safe (g_301 x0 x1 x2 x3 x4 x5 x6 d)) :=
  tAdq (E := E) ha hh (k_301 hS hx0 hx6 p1 p2 p3 p4 p5 (fun z0 z1 z2 => fun hsh => ⟨hsh, z0, z1, z2⟩))
theorem p_302 {E : mO × tW} {d : mD} {x0 x1 x2 : Int} (hS : Safe d) (hx0 : wbB x0) (hx2 : ouB x2) (p1 : -2147483648 ≤ x1 ∧ x1 ≤ 2147483647) (ha : tokL E.2 [.inr (10, x0), .inl (0, x1), .inr (30, x2)]) (hh : tSh E.2 d) : tSh E.2 (g_302 x0 x1 x2 d) ∧ ((0 ≤ (v_302 x0 x1 x2 d) ∧ (v_302 x0 x1 x2 d) ≤ 3)) ∧ ((∀ b : Int, (b < x0 + 578 ∨ x0 + 578 < b) ∧ (b < x2 ∨ x2 < b) → (g_302 x0 x1 x2 d) b = d b)) ∧ (Safe (g_302 x0 x1 x2 d)) :=
  tAdq (E := E) ha hh (k_302 hS hx0 hx2 p1 (fun z0 z1 z2 => fun hsh => ⟨hsh, z0, z1, z2⟩))
theorem p_303 {E : mO × tW} {d : mD} {x0 x1 : Int} (hE : EOK E) (hW : W55 E) (hS : Safe d) (hx0 : wbB x0) (hx1 : ouB x1) (ha : tokL E.2 [.inr (10, x0), .inr (30, x1)]) (hh : tSh E.2 d) : tSh E.2 (g_303 x0 x1 d) ∧ ((0 ≤ (v_303 x0 x1 d) ∧ (v_303 x0 x1 d) ≤ 3)) ∧ ((∀ b : Int, (b < x0 + 1 ∨ x0 + 16 < b) ∧ (b < x0 + 19 ∨ x0 + 64 < b) ∧ (b < x0 + 571 ∨ x0 + 572 < b) ∧ (b < x0 + 576 ∨ x0 + 578 < b) ∧ (b < x0 + 580 ∨ x0 + 595 < b) ∧ (b < x0 + 598 ∨ x0 + 642 < b) ∧ (b < x1 ∨ x1 < b) → (g_303 x0 x1 d) b = d b)) ∧ (Safe (g_303 x0 x1 d)) :=
  tAdq (E := E) ha hh (k_303 hE hW hS hx0 hx1 (fun z0 z1 z2 => fun hsh => ⟨hsh, z0, z1, z2⟩))
theorem p_304 {E : mO × tW} {d : mD} {x0 x1 x2 : Int} (hS : Safe d) (hx0 : wbB x0) (hx2 : ouB x2) (p1 : -2147483648 ≤ x1 ∧ x1 ≤ 2147483647) (ha : tokL E.2 [.inr (10, x0), .inl (0, x1), .inr (30, x2)]) (hh : tSh E.2 d) : tSh E.2 (g_304 x0 x1 x2 d) ∧ ((0 ≤ (v_304 x0 x1 x2 d) ∧ (v_304 x0 x1 x2 d) ≤ 3)) ∧ ((∀ b : Int, (b < x0 + 578 ∨ x0 + 578 < b) ∧ (b < x2 ∨ x2 < b) → (g_304 x0 x1 x2 d) b = d b)) ∧ (Safe (g_304 x0 x1 x2 d)) :=
  tAdq (E := E) ha hh (k_304 hS hx0 hx2 p1 (fun z0 z1 z2 => fun hsh => ⟨hsh, z0, z1, z2⟩))
theorem p_305 {E : mO × tW} {d : mD} {x0 x1 x2 : Int} (hS : Safe d) (hx0 : wbB x0) (hx2 : ouB x2) (p1 : -2147483648 ≤ x1 ∧ x1 ≤ 2147483647) (ha : tokL E.2 [.inr (10, x0), .inl (0, x1), .inr (30, x2)]) (hh : tSh E.2 d) : tSh E.2 (g_305 x0 x1 x2 d) ∧ ((0 ≤ (v_305 x0 x1 x2 d) ∧ (v_305 x0 x1 x2 d) ≤ 3)) ∧ ((∀ b : Int, (b < x2 ∨ x2 < b) → (g_305 x0 x1 x2 d) b = d b)) ∧ (Safe (g_305 x0 x1 x2 d)) :=
  tAdq (E := E) ha hh (k_305 hS hx0 hx2 p1 (fun z0 z1 z2 => fun hsh => ⟨hsh, z0, z1, z2⟩))
theorem p_306 {E : mO × tW} {d : mD} {x0 x1 x2 : Int} (hS : Safe d) (hx0 : wbB x0) (hx2 : ouB x2) (p1 : -2147483648 ≤ x1 ∧ x1 ≤ 2147483647) (ha : tokL E.2 [.inr (10, x0), .inl (0, x1), .inr (30, x2)]) (hh : tSh E.2 d) : tSh E.2 (g_306 x0 x1 x2 d) ∧ ((0 ≤ (v_306 x0 x1 x2 d) ∧ (v_306 x0 x1 x2 d) ≤ 3)) ∧ ((∀ b : Int, (b < x2 ∨ x2 < b) → (g_306 x0 x1 x2 d) b = d b)) ∧ (Safe (g_306 x0 x1 x2 d)) :=
  tAdq (E := E) ha hh (k_306 hS hx0 hx2 p1 (fun z0 z1 z2 => fun hsh => ⟨hsh, z0, z1, z2⟩))
theorem p_307 {E : mO × tW} {d : mD} {x0 x1 x2 x3 : Int} (hS : Safe d) (hx0 : wbB x0) (hx3 : ouB x3) (p1 : -2147483648 ≤ x1 ∧ x1 ≤ 2147483647) (p2 : -2147483648 ≤ x2 ∧ x2 ≤ 2147483647) (ha : tokL E.2 [.inr (10, x0), .inl (0, x1), .inl (0, x2), .inr (30, x3)]) (hh : tSh E.2 d) : tSh E.2 (g_307 x0 x1 x2 x3 d) ∧ ((0 ≤ (v_307 x0 x1 x2 x3 d) ∧ (v_307 x0 x1 x2 x3 d) ≤ 3)) ∧ ((∀ b : Int, (b < x3 ∨ x3 < b) → (g_307 x0 x1 x2 x3 d) b = d b)) ∧ (Safe (g_307 x0 x1 x2 x3 d)) :=
  tAdq (E := E) ha hh (k_307 hS hx0 hx3 p1 p2 (fun z0 z1 z2 => fun hsh => ⟨hsh, z0, z1, z2⟩))
theorem p_308 {E : mO × tW} {d : mD} {x0 x1 x2 x3 : Int} (hS : Safe d) (hx0 : wbB x0) (hx3 : ouB x3) (p1 : -2147483648 ≤ x1 ∧ x1 ≤ 2147483647) (p2 : -2147483648 ≤ x2 ∧ x2 ≤ 2147483647) (ha : tokL E.2 [.inr (10, x0), .inl (0, x1), .inl (0, x2), .inr (30, x3)]) (hh : tSh E.2 d) : tSh E.2 (g_308 x0 x1 x2 x3 d) ∧ ((0 ≤ (v_308 x0 x1 x2 x3 d) ∧ (v_308 x0 x1 x2 x3 d) ≤ 3)) ∧ ((∀ b : Int, (b < x3 ∨ x3 < b) → (g_308 x0 x1 x2 x3 d) b = d b)) ∧ (Safe (g_308 x0 x1 x2 x3 d)) :=
  tAdq (E := E) ha hh (k_308 hS hx0 hx3 p1 p2 (fun z0 z1 z2 => fun hsh => ⟨hsh, z0, z1, z2⟩))
theorem p_309 {E : mO × tW} {d : mD} {x0 x1 x2 x3 : Int} (hS : Safe d) (hx0 : wbB x0) (hx3 : ouB x3) (p1 : -2147483648 ≤ x1 ∧ x1 ≤ 2147483647) (p2 : -2147483648 ≤ x2 ∧ x2 ≤ 2147483647) (hpu : puR x0 x1 d) (ha : tokL E.2 [.inr (10, x0), .inl (0, x1), .inl (0, x2), .inr (30, x3)]) (hh : tSh E.2 d) : tSh E.2 (g_309 x0 x1 x2 x3 d) ∧ ((0 ≤ (v_309 x0 x1 x2 x3 d) ∧ (v_309 x0 x1 x2 x3 d) ≤ 3)) ∧ ((∀ b : Int, (b < x0 + 575 ∨ x0 + 575 < b) ∧ (b < x3 ∨ x3 < b) → (g_309 x0 x1 x2 x3 d) b = d b)) ∧ (Safe (g_309 x0 x1 x2 x3 d)) :=
  tAdq (E := E) ha hh (k_309 hS hx0 hx3 p1 p2 hpu (fun z0 z1 z2 => fun hsh => ⟨hsh, z0, z1, z2⟩))
theorem p_310 {E : mO × tW} {d : mD} {x0 x1 x2 x3 : Int} (hS : Safe d) (hx0 : wbB x0) (hx3 : ouB x3) (p1 : -2147483648 ≤ x1 ∧ x1 ≤ 2147483647) (p2 : -2147483648 ≤ x2 ∧ x2 ≤ 2147483647) (ha : tokL E.2 [.inr (10, x0), .inl (0, x1), .inl (0, x2), .inr (30, x3)]) (hh : tSh E.2 d) : tSh E.2 (g_310 x0 x1 x2 x3 d) ∧ ((0 ≤ (v_310 x0 x1 x2 x3 d) ∧ (v_310 x0 x1 x2 x3 d) ≤ 3)) ∧ ((∀ b : Int, (b < x3 ∨ x3 < b) → (g_310 x0 x1 x2 x3 d) b = d b)) ∧ (Safe (g_310 x0 x1 x2 x3 d)) :=
  tAdq (E := E) ha hh (k_310 hS hx0 hx3 p1 p2 (fun z0 z1 z2 => fun hsh => ⟨hsh, z0, z1, z2⟩))
theorem p_311 {E : mO × tW} {d : mD} {x0 x1 x2 x3 : Int} (hS : Safe d) (hx0 : wbB x0) (hx3 : ouB x3) (p1 : -2147483648 ≤ x1 ∧ x1 ≤ 2147483647) (p2 : -2147483648 ≤ x2 ∧ x2 ≤ 2147483647) (ha : tokL E.2 [.inr (10, x0), .inl (0, x1), .inl (0, x2), .inr (30, x3)]) (hh : tSh E.2 d) : tSh E.2 (g_311 x0 x1 x2 x3 d) ∧ ((0 ≤ (v_311 x0 x1 x2 x3 d) ∧ (v_311 x0 x1 x2 x3 d) ≤ 3)) ∧ ((∀ b : Int, (b < x3 ∨ x3 < b) → (g_311 x0 x1 x2 x3 d) b = d b)) ∧ (Safe (g_311 x0 x1 x2 x3 d)) :=
  tAdq (E := E) ha hh (k_311 hS hx0 hx3 p1 p2 (fun z0 z1 z2 => fun hsh => ⟨hsh, z0, z1, z2⟩))
theorem p_312 {E : mO × tW} {d : mD} {x0 x1 x2 x3 : Int} (hS : Safe d) (hx0 : wbB x0) (hx3 : ouB x3) (p1 : -2147483648 ≤ x1 ∧ x1 ≤ 2147483647) (p2 : -2147483648 ≤ x2 ∧ x2 ≤ 2147483647) (ha : tokL E.2 [.inr (10, x0), .inl (0, x1), .inl (0, x2), .inr (30, x3)]) (hh : tSh E.2 d) : tSh E.2 (g_312 x0 x1 x2 x3 d) ∧ ((0 ≤ (v_312 x0 x1 x2 x3 d) ∧ (v_312 x0 x1 x2 x3 d) ≤ 3)) ∧ ((∀ b : Int, (b < x3 ∨ x3 < b) → (g_312 x0 x1 x2 x3 d) b = d b)) ∧ (Safe (g_312 x0 x1 x2 x3 d)) :=
  tAdq (E := E) ha hh (k_312 hS hx0 hx3 p1 p2 (fun z0 z1 z2 => fun hsh => ⟨hsh, z0, z1, z2⟩))
theorem p_313 {E : mO × tW} {d : mD} {x0 x1 x2 x3 : Int} (hS : Safe d) (hx0 : wbB x0) (hx3 : ouB x3) (p1 : -2147483648 ≤ x1 ∧ x1 ≤ 2147483647) (p2 : -2147483648 ≤ x2 ∧ x2 ≤ 2147483647) (ha : tokL E.2 [.inr (10, x0), .inl (0, x1), .inl (0, x2), .inr (30, x3)]) (hh : tSh E.2 d) : tSh E.2 (g_313 x0 x1 x2 x3 d) ∧ ((0 ≤ (v_313 x0 x1 x2 x3 d) ∧ (v_313 x0 x1 x2 x3 d) ≤ 3)) ∧ ((∀ b : Int, (b < x3 ∨ x3 < b) → (g_313 x0 x1 x2 x3 d) b = d b)) ∧ (Safe (g_313 x0 x1 x2 x3 d)) :=
  tAdq (E := E) ha hh (k_313 hS hx0 hx3 p1 p2 (fun z0 z1 z2 => fun hsh => ⟨hsh, z0, z1, z2⟩))
theorem p_314 {E : mO × tW} {d : mD} {x0 x1 x2 x3 : Int} (hS : Safe d) (hx0 : wbB x0) (hx3 : ouB x3) (p1 : -2147483648 ≤ x1 ∧ x1 ≤ 2147483647) (p2 : -2147483648 ≤ x2 ∧ x2 ≤ 2147483647) (ha : tokL E.2 [.inr (10, x0), .inl (0, x1), .inl (0, x2), .inr (30, x3)]) (hh : tSh E.2 d) : tSh E.2 (g_314 x0 x1 x2 x3 d) ∧ ((0 ≤ (v_314 x0 x1 x2 x3 d) ∧ (v_314 x0 x1 x2 x3 d) ≤ 3)) ∧ ((∀ b : Int, (b < x3 ∨ x3 < b) → (g_314 x0 x1 x2 x3 d) b = d b)) ∧ (Safe (g_314 x0 x1 x2 x3 d)) :=
  tAdq (E := E) ha hh (k_314 hS hx0 hx3 p1 p2 (fun z0 z1 z2 => fun hsh => ⟨hsh, z0, z1, z2⟩))
theorem p_315 {E : mO × tW} {d : mD} {x0 x1 x2 x3 : Int} (hS : Safe d) (hx0 : wbB x0) (hx3 : ouB x3) (p1 : -2147483648 ≤ x1 ∧ x1 ≤ 2147483647) (p2 : -2147483648 ≤ x2 ∧ x2 ≤ 2147483647) (ha : tokL E.2 [.inr (10, x0), .inl (0, x1), .inl (0, x2), .inr (30, x3)]) (hh : tSh E.2 d) : tSh E.2 (g_315 x0 x1 x2 x3 d) ∧ ((0 ≤ (v_315 x0 x1 x2 x3 d) ∧ (v_315 x0 x1 x2 x3 d) ≤ 3)) ∧ ((∀ b : Int, (b < x3 ∨ x3 < b) → (g_315 x0 x1 x2 x3 d) b = d b)) ∧ (Safe (g_315 x0 x1 x2 x3 d)) :=
  tAdq (E := E) ha hh (k_315 hS hx0 hx3 p1 p2 (fun z0 z1 z2 => fun hsh => ⟨hsh, z0, z1, z2⟩))
theorem p_316 {E : mO × tW} {d : mD} {x0 x1 x2 x3 : Int} (hS : Safe d) (hx0 : wbB x0) (hx3 : ouB x3) (p1 : -2147483648 ≤ x1 ∧ x1 ≤ 2147483647) (p2 : -2147483648 ≤ x2 ∧ x2 ≤ 2147483647) (ha : tokL E.2 [.inr (10, x0), .inl (0, x1), .inl (0, x2), .inr (30, x3)]) (hh : tSh E.2 d) : tSh E.2 (g_316 x0 x1 x2 x3 d) ∧ ((0 ≤ (v_316 x0 x1 x2 x3 d) ∧ (v_316 x0 x1 x2 x3 d) ≤ 3)) ∧ ((∀ b : Int, (b < x3 ∨ x3 < b) → (g_316 x0 x1 x2 x3 d) b = d b)) ∧ (Safe (g_316 x0 x1 x2 x3 d)) :=
  tAdq (E := E) ha hh (k_316 hS hx0 hx3 p1 p2 (fun z0 z1 z2 => fun hsh => ⟨hsh, z0, z1, z2⟩))
theorem p_317 {E : mO × tW} {d : mD} {x0 x1 x2 : Int} (hS : Safe d) (hx0 : wbB x0) (hx2 : ouB x2) (p1 : -2147483648 ≤ x1 ∧ x1 ≤ 2147483647) (ha : tokL E.2 [.inr (10, x0), .inl (0, x1), .inr (30, x2)]) (hh : tSh E.2 d) : tSh E.2 (g_317 x0 x1 x2 d) ∧ ((0 ≤ (v_317 x0 x1 x2 d) ∧ (v_317 x0 x1 x2 d) ≤ 3)) ∧ ((∀ b : Int, (b < x2 ∨ x2 < b) → (g_317 x0 x1 x2 d) b = d b)) ∧ (Safe (g_317 x0 x1 x2 d)) :=
  tAdq (E := E) ha hh (k_317 hS hx0 hx2 p1 (fun z0 z1 z2 => fun hsh => ⟨hsh, z0, z1, z2⟩))
theorem p_318 {E : mO × tW} {d : mD} {x0 x1 x2 : Int} (hS : Safe d) (hx0 : wbB x0) (hx2 : ouB x2) (p1 : -2147483648 ≤ x1 ∧ x1 ≤ 2147483647) (ha : tokL E.2 [.inr (10, x0), .inl (0, x1), .inr (30, x2)]) (hh : tSh E.2 d) : tSh E.2 (g_318 x0 x1 x2 d) ∧ ((0 ≤ (v_318 x0 x1 x2 d) ∧ (v_318 x0 x1 x2 d) ≤ 3)) ∧ ((∀ b : Int, (b < x2 ∨ x2 < b) → (g_318 x0 x1 x2 d) b = d b)) ∧ (Safe (g_318 x0 x1 x2 d)) :=
  tAdq (E := E) ha hh (k_318 hS hx0 hx2 p1 (fun z0 z1 z2 => fun hsh => ⟨hsh, z0, z1, z2⟩))
theorem p_319 {E : mO × tW} {d : mD} {x0 x1 x2 x3 : Int} (hS : Safe d) (hx0 : wbB x0) (hx3 : ouB x3) (p1 : -2147483648 ≤ x1 ∧ x1 ≤ 2147483647) (p2 : -2147483648 ≤ x2 ∧ x2 ≤ 2147483647) (ha : tokL E.2 [.inr (10, x0), .inl (0, x1), .inl (0, x2), .inr (30, x3)]) (hh : tSh E.2 d) : tSh E.2 (g_319 x0 x1 x2 x3 d) ∧ ((0 ≤ (v_319 x0 x1 x2 x3 d) ∧ (v_319 x0 x1 x2 x3 d) ≤ 3)) ∧ ((∀ b : Int, (b < x3 ∨ x3 < b) → (g_319 x0 x1 x2 x3 d) b = d b)) ∧ (Safe (g_319 x0 x1 x2 x3 d)) :=
  tAdq (E := E) ha hh (k_319 hS hx0 hx3 p1 p2 (fun z0 z1 z2 => fun hsh => ⟨hsh, z0, z1, z2⟩))
theorem p_320 {E : mO × tW} {d : mD} {x0 x1 x2 : Int} (hS : Safe d) (hx0 : wbB x0) (hx2 : ouB x2) (p1 : -2147483648 ≤ x1 ∧ x1 ≤ 2147483647) (ha : tokL E.2 [.inr (10, x0), .inl (0, x1), .inr (30, x2)]) (hh : tSh E.2 d) : tSh E.2 (g_320 x0 x1 x2 d) ∧ ((0 ≤ (v_320 x0 x1 x2 d) ∧ (v_320 x0 x1 x2 d) ≤ 3)) ∧ ((∀ b : Int, (b < x0 + 580 ∨ x0 + 595 < b) ∧ (b < x0 + 598 ∨ x0 + 642 < b) ∧ (b < x2 ∨ x2 < b) → (g_320 x0 x1 x2 d) b = d b)) ∧ (Safe (g_320 x0 x1 x2 d)) :=
  tAdq (E := E) ha hh (k_320 hS hx0 hx2 p1 (fun z0 z1 z2 => fun hsh => ⟨hsh, z0, z1, z2⟩))
theorem p_321 {E : mO × tW} {d : mD} {x0 x1 x2 : Int} (hS : Safe d) (hx0 : wbB x0) (hx2 : ouB x2) (p1 : -2147483648 ≤ x1 ∧ x1 ≤ 2147483647) (ha : tokL E.2 [.inr (10, x0), .inl (0, x1), .inr (30, x2)]) (hh : tSh E.2 d) : tSh E.2 (g_321 x0 x1 x2 d) ∧ ((0 ≤ (v_321 x0 x1 x2 d) ∧ (v_321 x0 x1 x2 d) ≤ 3)) ∧ ((∀ b : Int, (b < x2 ∨ x2 < b) → (g_321 x0 x1 x2 d) b = d b)) ∧ (Safe (g_321 x0 x1 x2 d)) :=
  tAdq (E := E) ha hh (k_321 hS hx0 hx2 p1 (fun z0 z1 z2 => fun hsh => ⟨hsh, z0, z1, z2⟩))
theorem p_322 {E : mO × tW} {d : mD} {x0 x1 : Int} (hS : Safe d) (hx0 : wbB x0) (hx1 : ouB x1) (ha : tokL E.2 [.inr (10, x0), .inr (30, x1)]) (hh : tSh E.2 d) : tSh E.2 (g_322 x0 x1 d) ∧ ((0 ≤ (v_322 x0 x1 d) ∧ (v_322 x0 x1 d) ≤ 3)) ∧ ((∀ b : Int, (b < x1 ∨ x1 < b) → (g_322 x0 x1 d) b = d b)) ∧ (Safe (g_322 x0 x1 d)) :=
  tAdq (E := E) ha hh (k_322 hS hx0 hx1 (fun z0 z1 z2 => fun hsh => ⟨hsh, z0, z1, z2⟩))
theorem p_323 {E : mO × tW} {d : mD} {x0 x1 x2 x3 : Int} (hS : Safe d) (hx0 : wbB x0) (hx3 : ouB x3) (p1 : -2147483648 ≤ x1 ∧ x1 ≤ 2147483647) (p2 : -2147483648 ≤ x2 ∧ x2 ≤ 2147483647) (ha : tokL E.2 [.inr (10, x0), .inl (0, x1), .inl (0, x2), .inr (30, x3)]) (hh : tSh E.2 d) : tSh E.2 (g_323 x0 x1 x2 x3 d) ∧ ((0 ≤ (v_323 x0 x1 x2 x3 d) ∧ (v_323 x0 x1 x2 x3 d) ≤ 3)) ∧ ((∀ b : Int, (b < x0 + 580 ∨ x0 + 595 < b) ∧ (b < x0 + 598 ∨ x0 + 642 < b) ∧ (b < x3 ∨ x3 < b) → (g_323 x0 x1 x2 x3 d) b = d b)) ∧ (Safe (g_323 x0 x1 x2 x3 d)) :=
  tAdq (E := E) ha hh (k_323 hS hx0 hx3 p1 p2 (fun z0 z1 z2 => fun hsh => ⟨hsh, z0, z1, z2⟩))
theorem p_324 {E : mO × tW} {d : mD} {x0 x1 x2 : Int} (hS : Safe d) (hx0 : wbB x0) (hx2 : ouB x2) (p1 : -2147483648 ≤ x1 ∧ x1 ≤ 2147483647) (ha : tokL E.2 [.inr (10, x0), .inl (0, x1), .inr (30, x2)]) (hh : tSh E.2 d) : tSh E.2 (g_324 x0 x1 x2 d) ∧ ((0 ≤ (v_324 x0 x1 x2 d) ∧ (v_324 x0 x1 x2 d) ≤ 3)) ∧ ((∀ b : Int, (b < x0 + 572 ∨ x0 + 573 < b) ∧ (b < x2 ∨ x2 < b) → (g_324 x0 x1 x2 d) b = d b)) ∧ (Safe (g_324 x0 x1 x2 d)) :=
  tAdq (E := E) ha hh (k_324 hS hx0 hx2 p1 (fun z0 z1 z2 => fun hsh => ⟨hsh, z0, z1, z2⟩))
theorem p_325 {E : mO × tW} {d : mD} {x0 x1 x2 : Int} (hS : Safe d) (hx0 : wbB x0) (hx2 : ouB x2) (p1 : -2147483648 ≤ x1 ∧ x1 ≤ 2147483647) (ha : tokL E.2 [.inr (10, x0), .inl (0, x1), .inr (30, x2)]) (hh : tSh E.2 d) : tSh E.2 (g_325 x0 x1 x2 d) ∧ ((0 ≤ (v_325 x0 x1 x2 d) ∧ (v_325 x0 x1 x2 d) ≤ 3)) ∧ ((∀ b : Int, (b < x2 ∨ x2 < b) → (g_325 x0 x1 x2 d) b = d b)) ∧ (Safe (g_325 x0 x1 x2 d)) :=
  tAdq (E := E) ha hh (k_325 hS hx0 hx2 p1 (fun z0 z1 z2 => fun hsh => ⟨hsh, z0, z1, z2⟩))
theorem p_326 {E : mO × tW} {d : mD} {x0 x1 x2 x3 : Int} (hS : Safe d) (hx0 : wbB x0) (hx3 : ouB x3) (p1 : -2147483648 ≤ x1 ∧ x1 ≤ 2147483647) (p2 : -2147483648 ≤ x2 ∧ x2 ≤ 2147483647) (ha : tokL E.2 [.inr (10, x0), .inl (0, x1), .inl (0, x2), .inr (30, x3)]) (hh : tSh E.2 d) : tSh E.2 (g_326 x0 x1 x2 x3 d) ∧ ((0 ≤ (v_326 x0 x1 x2 x3 d) ∧ (v_326 x0 x1 x2 x3 d) ≤ 3)) ∧ ((∀ b : Int, (b < x0 + 9 ∨ x0 + 10 < b) ∧ (b < x0 + 50 ∨ x0 + 57 < b) ∧ (b < x0 + 64 ∨ x0 + 64 < b) ∧ (b < x0 + 66 ∨ x0 + 569 < b) ∧ (b < x3 ∨ x3 < b) → (g_326 x0 x1 x2 x3 d) b = d b)) ∧ (Safe (g_326 x0 x1 x2 x3 d)) :=
  tAdq (E := E) ha hh (k_326 hS hx0 hx3 p1 p2 (fun z0 z1 z2 => fun hsh => ⟨hsh, z0, z1, z2⟩))
theorem p_327 {E : mO × tW} {d : mD} {x0 x1 x2 : Int} (hS : Safe d) (hx0 : wbB x0) (hx2 : ouB x2) (p1 : -2147483648 ≤ x1 ∧ x1 ≤ 2147483647) (ha : tokL E.2 [.inr (10, x0), .inl (0, x1), .inr (30, x2)]) (hh : tSh E.2 d) : tSh E.2 (g_327 x0 x1 x2 d) ∧ ((0 ≤ (v_327 x0 x1 x2 d) ∧ (v_327 x0 x1 x2 d) ≤ 3)) ∧ ((∀ b : Int, (b < x0 + 9 ∨ x0 + 10 < b) ∧ (b < x0 + 54 ∨ x0 + 55 < b) ∧ (b < x0 + 64 ∨ x0 + 64 < b) ∧ (b < x0 + 66 ∨ x0 + 569 < b) ∧ (b < x2 ∨ x2 < b) → (g_327 x0 x1 x2 d) b = d b)) ∧ (Safe (g_327 x0 x1 x2 d)) :=
  tAdq (E := E) ha hh (k_327 hS hx0 hx2 p1 (fun z0 z1 z2 => fun hsh => ⟨hsh, z0, z1, z2⟩))
theorem p_328 {E : mO × tW} {d : mD} {x0 x1 x2 : Int} (hS : Safe d) (hx0 : wbB x0) (hx2 : ouB x2) (p1 : -2147483648 ≤ x1 ∧ x1 ≤ 2147483647) (ha : tokL E.2 [.inr (10, x0), .inl (0, x1), .inr (30, x2)]) (hh : tSh E.2 d) : tSh E.2 (g_328 x0 x1 x2 d) ∧ ((0 ≤ (v_328 x0 x1 x2 d) ∧ (v_328 x0 x1 x2 d) ≤ 3)) ∧ ((∀ b : Int, (b < x0 + 1 ∨ x0 + 1 < b) ∧ (b < x0 + 9 ∨ x0 + 10 < b) ∧ (b < x0 + 13 ∨ x0 + 16 < b) ∧ (b < x0 + 19 ∨ x0 + 49 < b) ∧ (b < x0 + 54 ∨ x0 + 55 < b) ∧ (b < x0 + 58 ∨ x0 + 64 < b) ∧ (b < x0 + 66 ∨ x0 + 569 < b) ∧ (b < x2 ∨ x2 < b) → (g_328 x0 x1 x2 d) b = d b)) ∧ (Safe (g_328 x0 x1 x2 d)) :=
  tAdq (E := E) ha hh (k_328 hS hx0 hx2 p1 (fun z0 z1 z2 => fun hsh => ⟨hsh, z0, z1, z2⟩))
theorem p_329 {E : mO × tW} {d : mD} {x0 x1 x2 : Int} (hS : Safe d) (hx0 : wbB x0) (hx2 : ouB x2) (p1 : -2147483648 ≤ x1 ∧ x1 ≤ 2147483647) (ha : tokL E.2 [.inr (10, x0), .inl (0, x1), .inr (30, x2)]) (hh : tSh E.2 d) : tSh E.2 (g_329 x0 x1 x2 d) ∧ ((0 ≤ (v_329 x0 x1 x2 d) ∧ (v_329 x0 x1 x2 d) ≤ 3)) ∧ ((∀ b : Int, (b < x0 + 14 ∨ x0 + 14 < b) ∧ (b < x0 + 19 ∨ x0 + 49 < b) ∧ (b < x0 + 56 ∨ x0 + 56 < b) ∧ (b < x0 + 58 ∨ x0 + 62 < b) ∧ (b < x0 + 64 ∨ x0 + 64 < b) ∧ (b < x0 + 66 ∨ x0 + 569 < b) ∧ (b < x2 ∨ x2 < b) → (g_329 x0 x1 x2 d) b = d b)) ∧ (Safe (g_329 x0 x1 x2 d)) :=
  tAdq (E := E) ha hh (k_329 hS hx0 hx2 p1 (fun z0 z1 z2 => fun hsh => ⟨hsh, z0, z1, z2⟩))
theorem p_330 {E : mO × tW} {d : mD} {x0 x1 x2 x3 : Int} (hS : Safe d) (hx0 : wbB x0) (hx3 : ouB x3) (p1 : -2147483648 ≤ x1 ∧ x1 ≤ 2147483647) (p2 : -2147483648 ≤ x2 ∧ x2 ≤ 2147483647) (ha : tokL E.2 [.inr (10, x0), .inl (0, x1), .inl (0, x2), .inr (30, x3)]) (hh : tSh E.2 d) : tSh E.2 (g_330 x0 x1 x2 x3 d) ∧ ((0 ≤ (v_330 x0 x1 x2 x3 d) ∧ (v_330 x0 x1 x2 x3 d) ≤ 3)) ∧ ((∀ b : Int, (b < x0 + 14 ∨ x0 + 16 < b) ∧ (b < x0 + 19 ∨ x0 + 49 < b) ∧ (b < x0 + 56 ∨ x0 + 62 < b) ∧ (b < x0 + 64 ∨ x0 + 64 < b) ∧ (b < x0 + 66 ∨ x0 + 569 < b) ∧ (b < x3 ∨ x3 < b) → (g_330 x0 x1 x2 x3 d) b = d b)) ∧ (Safe (g_330 x0 x1 x2 x3 d)) :=
  tAdq (E := E) ha hh (k_330 hS hx0 hx3 p1 p2 (fun z0 z1 z2 => fun hsh => ⟨hsh, z0, z1, z2⟩))
theorem p_331 {E : mO × tW} {d : mD} {x0 x1 x2 x3 x4 : Int} (hS : Safe d) (hx0 : wbB x0) (hx4 : ouB x4) (p1 : -2147483648 ≤ x1 ∧ x1 ≤ 2147483647) (p2 : -2147483648 ≤ x2 ∧ x2 ≤ 2147483647) (p3 : -2147483648 ≤ x3 ∧ x3 ≤ 2147483647) (ha : tokL E.2 [.inr (10, x0), .inl (0, x1), .inl (0, x2), .inl (0, x3), .inr (30, x4)]) (hh : tSh E.2 d) : tSh E.2 (g_331 x0 x1 x2 x3 x4 d) ∧ ((0 ≤ (v_331 x0 x1 x2 x3 x4 d) ∧ (v_331 x0 x1 x2 x3 x4 d) ≤ 3)) ∧ ((∀ b : Int, (b < x0 + 59 ∨ x0 + 59 < b) ∧ (b < x0 + 64 ∨ x0 + 64 < b) ∧ (b < x0 + 66 ∨ x0 + 569 < b) ∧ (b < x4 ∨ x4 < b) → (g_331 x0 x1 x2 x3 x4 d) b = d b)) ∧ (Safe (g_331 x0 x1 x2 x3 x4 d)) :=
  tAdq (E := E) ha hh (k_331 hS hx0 hx4 p1 p2 p3 (fun z0 z1 z2 => fun hsh => ⟨hsh, z0, z1, z2⟩))
theorem p_332 {E : mO × tW} {d : mD} {x0 x1 x2 x3 : Int} (hS : Safe d) (hx0 : wbB x0) (hx3 : ouB x3) (p1 : -2147483648 ≤ x1 ∧ x1 ≤ 2147483647) (p2 : -2147483648 ≤ x2 ∧ x2 ≤ 2147483647) (ha : tokL E.2 [.inr (10, x0), .inl (0, x1), .inl (0, x2), .inr (30, x3)]) (hh : tSh E.2 d) : tSh E.2 (g_332 x0 x1 x2 x3 d) ∧ ((0 ≤ (v_332 x0 x1 x2 x3 d) ∧ (v_332 x0 x1 x2 x3 d) ≤ 3)) ∧ ((∀ b : Int, (b < x0 + 1 ∨ x0 + 1 < b) ∧ (b < x0 + 13 ∨ x0 + 13 < b) ∧ (b < x0 + 58 ∨ x0 + 58 < b) ∧ (b < x0 + 62 ∨ x0 + 64 < b) ∧ (b < x0 + 66 ∨ x0 + 569 < b) ∧ (b < x3 ∨ x3 < b) → (g_332 x0 x1 x2 x3 d) b = d b)) ∧ (Safe (g_332 x0 x1 x2 x3 d)) :=
  tAdq (E := E) ha hh (k_332 hS hx0 hx3 p1 p2 (fun z0 z1 z2 => fun hsh => ⟨hsh, z0, z1, z2⟩))
theorem p_333 {E : mO × tW} {d : mD} {x0 x1 x2 : Int} (hS : Safe d) (hx0 : wbB x0) (hx2 : ouB x2) (p1 : -2147483648 ≤ x1 ∧ x1 ≤ 2147483647) (ha : tokL E.2 [.inr (10, x0), .inl (0, x1), .inr (30, x2)]) (hh : tSh E.2 d) : tSh E.2 (g_333 x0 x1 x2 d) ∧ ((0 ≤ (v_333 x0 x1 x2 d) ∧ (v_333 x0 x1 x2 d) ≤ 3)) ∧ ((∀ b : Int, (b < x0 + 1 ∨ x0 + 1 < b) ∧ (b < x0 + 13 ∨ x0 + 13 < b) ∧ (b < x0 + 58 ∨ x0 + 58 < b) ∧ (b < x0 + 62 ∨ x0 + 64 < b) ∧ (b < x0 + 66 ∨ x0 + 569 < b) ∧ (b < x2 ∨ x2 < b) → (g_333 x0 x1 x2 d) b = d b)) ∧ (Safe (g_333 x0 x1 x2 d)) :=
  tAdq (E := E) ha hh (k_333 hS hx0 hx2 p1 (fun z0 z1 z2 => fun hsh => ⟨hsh, z0, z1, z2⟩))
theorem p_334 {E : mO × tW} {d : mD} {x0 x1 x2 x3 : Int} (hS : Safe d) (hx0 : wbB x0) (hx3 : ouB x3) (p1 : -2147483648 ≤ x1 ∧ x1 ≤ 2147483647) (p2 : -2147483648 ≤ x2 ∧ x2 ≤ 2147483647) (ha : tokL E.2 [.inr (10, x0), .inl (0, x1), .inl (0, x2), .inr (30, x3)]) (hh : tSh E.2 d) : tSh E.2 (g_334 x0 x1 x2 x3 d) ∧ ((0 ≤ (v_334 x0 x1 x2 x3 d) ∧ (v_334 x0 x1 x2 x3 d) ≤ 3)) ∧ ((∀ b : Int, (b < x0 + 8 ∨ x0 + 10 < b) ∧ (b < x0 + 52 ∨ x0 + 52 < b) ∧ (b < x0 + 54 ∨ x0 + 55 < b) ∧ (b < x0 + 64 ∨ x0 + 64 < b) ∧ (b < x0 + 66 ∨ x0 + 569 < b) ∧ (b < x3 ∨ x3 < b) → (g_334 x0 x1 x2 x3 d) b = d b)) ∧ (Safe (g_334 x0 x1 x2 x3 d)) :=
  tAdq (E := E) ha hh (k_334 hS hx0 hx3 p1 p2 (fun z0 z1 z2 => fun hsh => ⟨hsh, z0, z1, z2⟩))
theorem p_335 {E : mO × tW} {d : mD} {x0 x1 x2 : Int} (hS : Safe d) (hx0 : wbB x0) (hx2 : ouB x2) (p1 : -2147483648 ≤ x1 ∧ x1 ≤ 2147483647) (ha : tokL E.2 [.inr (10, x0), .inl (0, x1), .inr (30, x2)]) (hh : tSh E.2 d) : tSh E.2 (g_335 x0 x1 x2 d) ∧ ((0 ≤ (v_335 x0 x1 x2 d) ∧ (v_335 x0 x1 x2 d) ≤ 3)) ∧ ((∀ b : Int, (b < x0 + 8 ∨ x0 + 8 < b) ∧ (b < x0 + 64 ∨ x0 + 64 < b) ∧ (b < x0 + 66 ∨ x0 + 569 < b) ∧ (b < x2 ∨ x2 < b) → (g_335 x0 x1 x2 d) b = d b)) ∧ (Safe (g_335 x0 x1 x2 d)) :=
  tAdq (E := E) ha hh (k_335 hS hx0 hx2 p1 (fun z0 z1 z2 => fun hsh => ⟨hsh, z0, z1, z2⟩))
theorem p_336 {E : mO × tW} {d : mD} {x0 x1 : Int} (hS : Safe d) (hx0 : wbB x0) (hx1 : ouB x1) (ha : tokL E.2 [.inr (10, x0), .inr (30, x1)]) (hh : tSh E.2 d) : tSh E.2 (g_336 x0 x1 d) ∧ ((0 ≤ (v_336 x0 x1 d) ∧ (v_336 x0 x1 d) ≤ 3)) ∧ ((∀ b : Int, (b < x0 + 11 ∨ x0 + 16 < b) ∧ (b < x0 + 19 ∨ x0 + 49 < b) ∧ (b < x0 + 64 ∨ x0 + 64 < b) ∧ (b < x0 + 66 ∨ x0 + 569 < b) ∧ (b < x0 + 578 ∨ x0 + 578 < b) ∧ (b < x1 ∨ x1 < b) → (g_336 x0 x1 d) b = d b)) ∧ (Safe (g_336 x0 x1 d)) :=
  tAdq (E := E) ha hh (k_336 hS hx0 hx1 (fun z0 z1 z2 => fun hsh => ⟨hsh, z0, z1, z2⟩))
theorem p_337 {E : mO × tW} {d : mD} {x0 x1 x2 x3 : Int} (hE : EOK E) (hS : Safe d) (hx0 : wbB x0) (hx3 : ouB x3) (p1 : -2147483648 ≤ x1 ∧ x1 ≤ 2147483647) (p2 : -2147483648 ≤ x2 ∧ x2 ≤ 2147483647) (ha : tokL E.2 [.inr (10, x0), .inl (0, x1), .inl (0, x2), .inr (30, x3)]) (hh : tSh E.2 d) : tSh E.2 (g_337 x0 x1 x2 x3 d) ∧ ((0 ≤ (v_337 x0 x1 x2 x3 d) ∧ (v_337 x0 x1 x2 x3 d) ≤ 3)) ∧ ((∀ b : Int, (b < x0 + 2 ∨ x0 + 2 < b) ∧ (b < x0 + 64 ∨ x0 + 64 < b) ∧ (b < x0 + 66 ∨ x0 + 569 < b) ∧ (b < x3 ∨ x3 < b) → (g_337 x0 x1 x2 x3 d) b = d b)) ∧ (Safe (g_337 x0 x1 x2 x3 d)) :=
  tAdq (E := E) ha hh (k_337 hE hS hx0 hx3 p1 p2 (fun z0 z1 z2 => fun hsh => ⟨hsh, z0, z1, z2⟩))
theorem p_338 {E : mO × tW} {d : mD} {x0 x1 : Int} (hS : Safe d) (hx0 : wbB x0) (hx1 : ouB x1) (ha : tokL E.2 [.inr (10, x0), .inr (30, x1)]) (hh : tSh E.2 d) : tSh E.2 (g_338 x0 x1 d) ∧ ((0 ≤ (v_338 x0 x1 d) ∧ (v_338 x0 x1 d) ≤ 3)) ∧ ((∀ b : Int, (b < x0 + 1 ∨ x0 + 16 < b) ∧ (b < x0 + 19 ∨ x0 + 64 < b) ∧ (b < x1 ∨ x1 < b) → (g_338 x0 x1 d) b = d b)) ∧ (Safe (g_338 x0 x1 d)) :=
  tAdq (E := E) ha hh (k_338 hS hx0 hx1 (fun z0 z1 z2 => fun hsh => ⟨hsh, z0, z1, z2⟩))
theorem p_339 {E : mO × tW} {d : mD} {x0 x1 : Int} (hS : Safe d) (hx0 : wbB x0) (p1 : -2147483648 ≤ x1 ∧ x1 ≤ 2147483647) (ha : tokL E.2 [.inr (10, x0), .inl (0, x1)]) (hh : tSh E.2 d) : tSh E.2 (g_339 x0 x1 d) ∧ ((0 ≤ (v_339 x0 x1 d) ∧ (v_339 x0 x1 d) ≤ 3)) ∧ ((∀ b : Int, (b < x0 + 571 ∨ x0 + 571 < b) ∧ (b < x0 + 643 ∨ x0 + 768 < b) → (g_339 x0 x1 d) b = d b)) ∧ (Safe (g_339 x0 x1 d)) :=
  tAdq (E := E) ha hh (k_339 hS hx0 p1 (fun z0 z1 z2 => fun hsh => ⟨hsh, z0, z1, z2⟩))
theorem p_340 {E : mO × tW} {d : mD} {x0 x1 : Int} (hS : Safe d) (hx0 : wbB x0) (p1 : -2147483648 ≤ x1 ∧ x1 ≤ 2147483647) (ha : tokL E.2 [.inr (10, x0), .inl (0, x1)]) (hh : tSh E.2 d) : tSh E.2 (g_340 x0 x1 d) ∧ ((0 ≤ (v_340 x0 x1 d) ∧ (v_340 x0 x1 d) ≤ 3)) ∧ ((∀ b : Int, (b < x0 + 1 ∨ x0 + 16 < b) ∧ (b < x0 + 19 ∨ x0 + 64 < b) → (g_340 x0 x1 d) b = d b)) ∧ (Safe (g_340 x0 x1 d)) :=
  tAdq (E := E) ha hh (k_340 hS hx0 p1 (fun z0 z1 z2 => fun hsh => ⟨hsh, z0, z1, z2⟩))
/-! ===== reading a memory behind writes ===== -/
theorem ms_e {d : mD} {a i v b j : Int} (h1 : b = a) (h2 : j = i) : mset d a i v b j = v := by simp [mset, h1, h2]
theorem ms_a {d : mD} {a i v b j : Int} (h : ¬ b = a) : mset d a i v b j = d b j := by simp [mset, h]
theorem ms_i {d : mD} {a i v b j : Int} (h : ¬ j = i) : mset d a i v b j = d b j := by simp [mset, h]
theorem mc_e {d : mD} {x y n b j : Int} (h : b = y) (h0 : 0 ≤ j) (h1 : j < n) : mcopy d x 0 y 0 n b j = d x j := by
  unfold mcopy
  rw [if_pos ⟨h, h0, by omega⟩]
  congr 1
  omega
theorem mc_n {d : mD} {x sp y dp n b j : Int} (h : ¬ b = y) : mcopy d x sp y dp n b j = d b j := by simp [mcopy, h]
theorem mc_o {d : mD} {x y n b j : Int} (h : j < 0 ∨ n ≤ j) : mcopy d x 0 y 0 n b j = d b j := by
  unfold mcopy
  rw [if_neg (by omega)]
theorem mf_e {d : mD} {a v b j : Int} (h : b = a) : mfill d a v b j = v := by simp [mfill, h]
theorem mf_n {d : mD} {a v b j : Int} (h : ¬ b = a) : mfill d a v b j = d b j := by simp [mfill, h]
/-! ===== the reference's row: its methods as functions of the row ===== -/
abbrev Row : Type := Int → Int
def ws (w : Row) (i v : Int) : Row := fun j => if j = i then v else w j
def rset (d : mD) (w : Row) : mD := fun b => if b = 770 then w else d b
def pr (d : mD) (x : Int × Row) : Int × mD := (x.1, rset d x.2)
theorem rset_at (d : mD) (w : Row) : rset d w 770 = w := by simp [rset]
theorem rset_ne {d : mD} {w : Row} {b : Int} (h : b ≠ 770) : rset d w b = d b := by simp [rset, h]
theorem rset_self (d : mD) : rset d (d 770) = d := by
  funext b
  by_cases h : b = 770 <;> simp [rset, h]
theorem rset_rset (d : mD) (w u : Row) : rset (rset d w) u = rset d u := by
  funext b
  by_cases h : b = 770 <;> simp [rset, h]
theorem mset_row (d : mD) (i v : Int) : mset d 770 i v = rset d (ws (d 770) i v) := by
  funext b j
  by_cases h : b = 770 <;> simp [rset, mset, ws, h]
theorem rset_ite (d : mD) (c : Prop) [Decidable c] (a b : Row) : rset d (if c then a else b) = if c then rset d a else rset d b := by split <;> rfl
theorem pr_ite (d : mD) (c : Prop) [Decidable c] (a b : Int × Row) : pr d (if c then a else b) = if c then pr d a else pr d b := by split <;> rfl
theorem pr_mk (d : mD) (a : Int) (b : Row) : pr d (a, b) = (a, rset d b) := rfl
theorem pr_rset (d : mD) (w : Row) (x : Int × Row) : pr (rset d w) x = pr d x := by
  unfold pr
  rw [rset_rset]
theorem pr_1 (d : mD) (x : Int × Row) : (pr d x).1 = x.1 := rfl
theorem pr_2 (d : mD) (x : Int × Row) : (pr d x).2 = rset d x.2 := rfl
theorem ws_at (w : Row) (i v : Int) : ws w i v i = v := by simp [ws]
theorem ws_ne {w : Row} {i v j : Int} (h : j ≠ i) : ws w i v j = w j := by simp [ws, h]
def V_176 (x0 x2 x4 : Int) (w : Row) : Int := if mcmp x0 x2 < 0 then 0 else if (0 : Int) < mcmp x0 x4 then 0 else 1
theorem m_v_176 {x0 x2 x4 : Int} (d : mD) : v_176 x0 x2 x4 d = (V_176 x0 x2 x4 (d 770)) := by
  simp only [v_176, V_176, mset_row, rset_self, rset_at, rset_rset, rset_ite, pr_ite, pr_mk, pr_rset, pr_1, pr_2, Int.reduceAdd]
def W_181 (x1 x2 x3 x4 : Int) (w : Row) : Row := ws (ws (ws (ws (ws (ws w ((12 + (68 * (w 7))) + 0) x1) ((12 + (68 * (w 7))) + 1) x2) ((12 + (68 * (w 7))) + 2) x3) ((12 + (68 * (w 7))) + 3) x4) ((12 + (68 * (w 7))) + 4) 1) 7 ((w 7) + 1)
theorem m_g_181 {x1 x2 x3 x4 : Int} (d : mD) : g_181 769 x1 x2 x3 x4 d = (rset d (W_181 x1 x2 x3 x4 (d 770))) := by
  simp only [g_181, W_181, mset_row, rset_self, rset_at, rset_rset, rset_ite, pr_ite, pr_mk, pr_rset, pr_1, pr_2, Int.reduceAdd]
def W_182 (x1 : Int) (w : Row) : Row := ws (ws (ws w ((420 + (2 * (w 8))) + 0) x1) ((420 + (2 * (w 8))) + 1) 0) 8 ((w 8) + 1)
theorem m_g_182 {x1 : Int} (d : mD) : g_182 769 x1 d = (rset d (W_182 x1 (d 770))) := by
  simp only [g_182, W_182, mset_row, rset_self, rset_at, rset_rset, rset_ite, pr_ite, pr_mk, pr_rset, pr_1, pr_2, Int.reduceAdd]
def ST_183_2 (x1 : Int) (r2 : Int → Row → Int) (x2 : Int) (w : Row) : Int := if x2 < w 8 then (if w ((420 + (2 * x2)) + 0) = x1 then x2 else r2 (x2 + 1) w) else (-1)
theorem m_st_183_2 {x1 x2 : Int} {r2 : Int → mD → Int} {R2 : Int → Row → Int} (hr2 : ∀ (z0 : Int) (d : mD), r2 z0 d = (R2 z0 (d 770))) (d : mD) : st_183_2 769 x1 r2 x2 d = (ST_183_2 x1 R2 x2 (d 770)) := by
  simp only [st_183_2, ST_183_2, hr2, mset_row, rset_self, rset_at, rset_rset, rset_ite, pr_ite, pr_mk, pr_rset, pr_1, pr_2, Int.reduceAdd]
def LP_183_2 (x1 : Int) : Nat → Int → Row → Int
  | 0 => ST_183_2 x1 (fun _ w => 0)
  | n + 1 => ST_183_2 x1 (LP_183_2 x1 n)
theorem m_lp_183_2 {x1 : Int}   : ∀ (n : Nat) (y0 : Int) (d : mD), lp_183_2 769 x1 n y0 d = (LP_183_2 x1 n y0 (d 770)) := by
  intro n
  induction n with
  | zero => intro y0 d; exact m_st_183_2 (r2 := (fun _ d => 0)) (R2 := (fun _ w => 0)) (fun _ _ => rfl) d
  | succ n ih => intro y0 d; exact m_st_183_2 ih d
def V_183 (x1 : Int) (w : Row) : Int := LP_183_2 x1 (16 - 0 : Int).toNat 0 w
theorem m_v_183 {x1 : Int} (d : mD) : v_183 769 x1 d = (V_183 x1 (d 770)) := by
  simp only [v_183, V_183, m_lp_183_2, mset_row, rset_self, rset_at, rset_rset, rset_ite, pr_ite, pr_mk, pr_rset, pr_1, pr_2, Int.reduceAdd]
def ST_184_2 (x1 : Int) (r2 : Int → Row → Int) (x2 : Int) (w : Row) : Int := if x2 < w 7 then (if w ((12 + (68 * x2)) + 0) = x1 then x2 else r2 (x2 + 1) w) else (-1)
theorem m_st_184_2 {x1 x2 : Int} {r2 : Int → mD → Int} {R2 : Int → Row → Int} (hr2 : ∀ (z0 : Int) (d : mD), r2 z0 d = (R2 z0 (d 770))) (d : mD) : st_184_2 769 x1 r2 x2 d = (ST_184_2 x1 R2 x2 (d 770)) := by
  simp only [st_184_2, ST_184_2, hr2, mset_row, rset_self, rset_at, rset_rset, rset_ite, pr_ite, pr_mk, pr_rset, pr_1, pr_2, Int.reduceAdd]
def LP_184_2 (x1 : Int) : Nat → Int → Row → Int
  | 0 => ST_184_2 x1 (fun _ w => 0)
  | n + 1 => ST_184_2 x1 (LP_184_2 x1 n)
theorem m_lp_184_2 {x1 : Int}   : ∀ (n : Nat) (y0 : Int) (d : mD), lp_184_2 769 x1 n y0 d = (LP_184_2 x1 n y0 (d 770)) := by
  intro n
  induction n with
  | zero => intro y0 d; exact m_st_184_2 (r2 := (fun _ d => 0)) (R2 := (fun _ w => 0)) (fun _ _ => rfl) d
  | succ n ih => intro y0 d; exact m_st_184_2 ih d
def V_184 (x1 : Int) (w : Row) : Int := LP_184_2 x1 (6 - 0 : Int).toNat 0 w
theorem m_v_184 {x1 : Int} (d : mD) : v_184 769 x1 d = (V_184 x1 (d 770)) := by
  simp only [v_184, V_184, m_lp_184_2, mset_row, rset_self, rset_at, rset_rset, rset_ite, pr_ite, pr_mk, pr_rset, pr_1, pr_2, Int.reduceAdd]
def ST_201_10 (x1 : Int) (r10 : Int → Row → Int) (x2 : Int) (w : Row) : Int := if x2 < 0 then (-1) else if w ((452 + (24 * x2)) + 0) = x1 then x2 else r10 (x2 + (-1)) w
theorem m_st_201_10 {x1 x2 : Int} {r10 : Int → mD → Int} {R10 : Int → Row → Int} (hr10 : ∀ (z0 : Int) (d : mD), r10 z0 d = (R10 z0 (d 770))) (d : mD) : st_201_10 769 x1 r10 x2 d = (ST_201_10 x1 R10 x2 (d 770)) := by
  simp only [st_201_10, ST_201_10, hr10, mset_row, rset_self, rset_at, rset_rset, rset_ite, pr_ite, pr_mk, pr_rset, pr_1, pr_2, Int.reduceAdd]
def LP_201_10 (x1 : Int) : Nat → Int → Row → Int
  | 0 => ST_201_10 x1 (fun _ w => 0)
  | n + 1 => ST_201_10 x1 (LP_201_10 x1 n)
theorem m_lp_201_10 {x1 : Int}   : ∀ (n : Nat) (y0 : Int) (d : mD), lp_201_10 769 x1 n y0 d = (LP_201_10 x1 n y0 (d 770)) := by
  intro n
  induction n with
  | zero => intro y0 d; exact m_st_201_10 (r10 := (fun _ d => 0)) (R10 := (fun _ w => 0)) (fun _ _ => rfl) d
  | succ n ih => intro y0 d; exact m_st_201_10 ih d
def V_201 (x1 : Int) (w : Row) : Int := LP_201_10 x1 (((w 9) - 1) + 1 : Int).toNat ((w 9) - 1) w
theorem m_v_201 {x1 : Int} (d : mD) : v_201 769 x1 d = (V_201 x1 (d 770)) := by
  simp only [v_201, V_201, m_lp_201_10, mset_row, rset_self, rset_at, rset_rset, rset_ite, pr_ite, pr_mk, pr_rset, pr_1, pr_2, Int.reduceAdd]
def V_212 (x1 : Int) (w : Row) : Int := if w ((452 + (24 * x1)) + 3) = (-1) then w 0 else w ((452 + (24 * x1)) + 3)
theorem m_v_212 {x1 : Int} (d : mD) : v_212 769 x1 d = (V_212 x1 (d 770)) := by
  simp only [v_212, V_212, mset_row, rset_self, rset_at, rset_rset, rset_ite, pr_ite, pr_mk, pr_rset, pr_1, pr_2, Int.reduceAdd]
def V_213 (x1 : Int) (w : Row) : Int := if ((V_212 x1 w) - (w ((452 + (24 * x1)) + 2))) - (w 2) < 0 then 0 else ((V_212 x1 w) - (w ((452 + (24 * x1)) + 2))) - (w 2)
theorem m_v_213 {x1 : Int} (d : mD) : v_213 769 x1 d = (V_213 x1 (d 770)) := by
  simp only [v_213, V_213, m_v_212, mset_row, rset_self, rset_at, rset_rset, rset_ite, pr_ite, pr_mk, pr_rset, pr_1, pr_2, Int.reduceAdd]
def V_214 (x1 x2 : Int) (w : Row) : Int := if x2 < (w ((452 + (24 * x1)) + 2)) + (w 2) then 0 else if x2 < V_212 x1 w then 1 else 0
theorem m_v_214 {x1 x2 : Int} (d : mD) : v_214 769 x1 x2 d = (V_214 x1 x2 (d 770)) := by
  simp only [v_214, V_214, m_v_212, mset_row, rset_self, rset_at, rset_rset, rset_ite, pr_ite, pr_mk, pr_rset, pr_1, pr_2, Int.reduceAdd]
def V_215 (x1 : Int) (w : Row) : Int := w ((452 + (24 * (w ((1916 + (5 * x1)) + 1)))) + 0)
theorem m_v_215 {x1 : Int} (d : mD) : v_215 769 x1 d = (V_215 x1 (d 770)) := by
  simp only [v_215, V_215, mset_row, rset_self, rset_at, rset_rset, rset_ite, pr_ite, pr_mk, pr_rset, pr_1, pr_2, Int.reduceAdd]
def ST_216_2 (x1 x2 : Int) (r2 : Int → Row → Int) (x3 : Int) (w : Row) : Int := if x3 < w 10 then (if w ((1916 + (5 * x3)) + 2) = x2 then (if V_215 x3 w = x1 then 1 else r2 (x3 + 1) w) else r2 (x3 + 1) w) else 0
theorem m_st_216_2 {x1 x2 x3 : Int} {r2 : Int → mD → Int} {R2 : Int → Row → Int} (hr2 : ∀ (z0 : Int) (d : mD), r2 z0 d = (R2 z0 (d 770))) (d : mD) : st_216_2 769 x1 x2 r2 x3 d = (ST_216_2 x1 x2 R2 x3 (d 770)) := by
  simp only [st_216_2, ST_216_2, m_v_215, hr2, mset_row, rset_self, rset_at, rset_rset, rset_ite, pr_ite, pr_mk, pr_rset, pr_1, pr_2, Int.reduceAdd]
def LP_216_2 (x1 x2 : Int) : Nat → Int → Row → Int
  | 0 => ST_216_2 x1 x2 (fun _ w => 0)
  | n + 1 => ST_216_2 x1 x2 (LP_216_2 x1 x2 n)
theorem m_lp_216_2 {x1 x2 : Int}   : ∀ (n : Nat) (y0 : Int) (d : mD), lp_216_2 769 x1 x2 n y0 d = (LP_216_2 x1 x2 n y0 (d 770)) := by
  intro n
  induction n with
  | zero => intro y0 d; exact m_st_216_2 (r2 := (fun _ d => 0)) (R2 := (fun _ w => 0)) (fun _ _ => rfl) d
  | succ n ih => intro y0 d; exact m_st_216_2 ih d
def V_216 (x1 x2 : Int) (w : Row) : Int := LP_216_2 x1 x2 (200 - 0 : Int).toNat 0 w
theorem m_v_216 {x1 x2 : Int} (d : mD) : v_216 769 x1 x2 d = (V_216 x1 x2 (d 770)) := by
  simp only [v_216, V_216, m_lp_216_2, mset_row, rset_self, rset_at, rset_rset, rset_ite, pr_ite, pr_mk, pr_rset, pr_1, pr_2, Int.reduceAdd]
def ST_217_4 (x1 : Int) (r4 : Int → Int → Row → Int) (x2 x3 : Int) (w : Row) : Int := if x3 < w 10 then (if V_215 x3 w = x1 then (if (w ((1916 + (5 * x3)) + 4)) / 20 = (w 0) / 20 then r4 (x2 + 1) (x3 + 1) w else r4 (x2 + 0) (x3 + 1) w) else r4 (x2 + 0) (x3 + 1) w) else x2
theorem m_st_217_4 {x1 x2 x3 : Int} {r4 : Int → Int → mD → Int} {R4 : Int → Int → Row → Int} (hr4 : ∀ (z0 z1 : Int) (d : mD), r4 z0 z1 d = (R4 z0 z1 (d 770))) (d : mD) : st_217_4 769 x1 r4 x2 x3 d = (ST_217_4 x1 R4 x2 x3 (d 770)) := by
  simp only [st_217_4, ST_217_4, m_v_215, hr4, mset_row, rset_self, rset_at, rset_rset, rset_ite, pr_ite, pr_mk, pr_rset, pr_1, pr_2, Int.reduceAdd]
def LP_217_4 (x1 : Int) : Nat → Int → Int → Row → Int
  | 0 => ST_217_4 x1 (fun _ _ w => 0)
  | n + 1 => ST_217_4 x1 (LP_217_4 x1 n)
theorem m_lp_217_4 {x1 : Int}   : ∀ (n : Nat) (y0 y1 : Int) (d : mD), lp_217_4 769 x1 n y0 y1 d = (LP_217_4 x1 n y0 y1 (d 770)) := by
  intro n
  induction n with
  | zero => intro y0 y1 d; exact m_st_217_4 (r4 := (fun _ _ d => 0)) (R4 := (fun _ _ w => 0)) (fun _ _ _ => rfl) d
  | succ n ih => intro y0 y1 d; exact m_st_217_4 ih d
def V_217 (x1 : Int) (w : Row) : Int := LP_217_4 x1 (200 - 0 : Int).toNat 0 0 w
theorem m_v_217 {x1 : Int} (d : mD) : v_217 769 x1 d = (V_217 x1 (d 770)) := by
  simp only [v_217, V_217, m_lp_217_4, mset_row, rset_self, rset_at, rset_rset, rset_ite, pr_ite, pr_mk, pr_rset, pr_1, pr_2, Int.reduceAdd]
def ST_218_41 (x1 : Int) (r41 : Int → Int → Int → Int → Row → Int × Row) (x2 x3 x4 x5 : Int) (w : Row) : Int × Row := if x5 < w ((452 + (24 * x1)) + 3) then (if x3 < w 5 then (if w 10 < 200 then (if V_216 x2 x5 w = 0 then r41 x2 (x3 + 1) (x4 + 1) (x5 + 1) (ws (ws (ws (ws (ws (ws w ((1916 + (5 * (w 10))) + 0) x2) ((1916 + (5 * (w 10))) + 1) x1) ((1916 + (5 * (w 10))) + 2) x5) ((1916 + (5 * (w 10))) + 3) 0) ((1916 + (5 * (w 10))) + 4) (w 0)) 10 ((w 10) + 1)) else r41 x2 x3 x4 (x5 + 1) w) else r41 x2 x3 x4 (x5 + 1) w) else r41 x2 x3 x4 (x5 + 1) w) else (x4, w)
theorem m_st_218_41 {x1 x2 x3 x4 x5 : Int} {r41 : Int → Int → Int → Int → mD → Int × mD} {R41 : Int → Int → Int → Int → Row → Int × Row} (hr41 : ∀ (z0 z1 z2 z3 : Int) (d : mD), r41 z0 z1 z2 z3 d = (pr d (R41 z0 z1 z2 z3 (d 770)))) (d : mD) : st_218_41 769 x1 r41 x2 x3 x4 x5 d = (pr d (ST_218_41 x1 R41 x2 x3 x4 x5 (d 770))) := by
  simp only [st_218_41, ST_218_41, m_v_216, hr41, mset_row, rset_self, rset_at, rset_rset, rset_ite, pr_ite, pr_mk, pr_rset, pr_1, pr_2, Int.reduceAdd]
def LP_218_41 (x1 : Int) : Nat → Int → Int → Int → Int → Row → Int × Row
  | 0 => ST_218_41 x1 (fun _ _ _ _ w => (0, w))
  | n + 1 => ST_218_41 x1 (LP_218_41 x1 n)
theorem m_lp_218_41 {x1 : Int}   : ∀ (n : Nat) (y0 y1 y2 y3 : Int) (d : mD), lp_218_41 769 x1 n y0 y1 y2 y3 d = (pr d (LP_218_41 x1 n y0 y1 y2 y3 (d 770))) := by
  intro n
  induction n with
  | zero => intro y0 y1 y2 y3 d; exact m_st_218_41 (r41 := (fun _ _ _ _ d => (0, d))) (R41 := (fun _ _ _ _ w => (0, w))) (fun _ _ _ _ d => by rw [pr_mk, rset_self]) d
  | succ n ih => intro y0 y1 y2 y3 d; exact m_st_218_41 ih d
def F_218 (x1 : Int) (w : Row) : Int × Row := LP_218_41 x1 (1301 - ((w ((452 + (24 * x1)) + 2)) + (w 2)) : Int).toNat (w ((452 + (24 * x1)) + 0)) (V_217 (w ((452 + (24 * x1)) + 0)) w) 0 ((w ((452 + (24 * x1)) + 2)) + (w 2)) w
theorem m_f_218 {x1 : Int} (d : mD) : f_218 769 x1 d = (pr d (F_218 x1 (d 770))) := by
  simp only [f_218, F_218, m_v_217, m_lp_218_41, mset_row, rset_self, rset_at, rset_rset, rset_ite, pr_ite, pr_mk, pr_rset, pr_1, pr_2, Int.reduceAdd]
def V_218 (x1 : Int) (w : Row) : Int := (F_218 x1 w).1
theorem m_v_218 {x1 : Int} (d : mD) : v_218 769 x1 d = (V_218 x1 (d 770)) := by
  simp only [v_218, V_218, m_f_218, mset_row, rset_self, rset_at, rset_rset, rset_ite, pr_ite, pr_mk, pr_rset, pr_1, pr_2, Int.reduceAdd]
def W_218 (x1 : Int) (w : Row) : Row := (F_218 x1 w).2
theorem m_g_218 {x1 : Int} (d : mD) : g_218 769 x1 d = (rset d (W_218 x1 (d 770))) := by
  simp only [g_218, W_218, m_f_218, mset_row, rset_self, rset_at, rset_rset, rset_ite, pr_ite, pr_mk, pr_rset, pr_1, pr_2, Int.reduceAdd]
def ST_219_106 (r2 : Int → Row → Int × Row) (r106 : Int → Int → Int → Row → Int × Row) (x1 x2 x3 : Int) (w : Row) : Int × Row := if x3 < w 11 then r106 x1 x2 (x3 + 1) (ws w (2916 + x3) (w ((2916 + x3) + 1))) else r2 (x1 + 1) w
theorem m_st_219_106 {x1 x2 x3 : Int} {r2 : Int → mD → Int × mD} {R2 : Int → Row → Int × Row} {r106 : Int → Int → Int → mD → Int × mD} {R106 : Int → Int → Int → Row → Int × Row} (hr2 : ∀ (z0 : Int) (d : mD), r2 z0 d = (pr d (R2 z0 (d 770)))) (hr106 : ∀ (z0 z1 z2 : Int) (d : mD), r106 z0 z1 z2 d = (pr d (R106 z0 z1 z2 (d 770)))) (d : mD) : st_219_106 769 r2 r106 x1 x2 x3 d = (pr d (ST_219_106 R2 R106 x1 x2 x3 (d 770))) := by
  simp only [st_219_106, ST_219_106, hr2, hr106, mset_row, rset_self, rset_at, rset_rset, rset_ite, pr_ite, pr_mk, pr_rset, pr_1, pr_2, Int.reduceAdd]
def LP_219_106 (r2 : Int → Row → Int × Row) : Nat → Int → Int → Int → Row → Int × Row
  | 0 => ST_219_106 r2 (fun _ _ _ w => (0, w))
  | n + 1 => ST_219_106 r2 (LP_219_106 r2 n)
theorem m_lp_219_106 {r2 : Int → mD → Int × mD} {R2 : Int → Row → Int × Row} (hr2 : ∀ (z0 : Int) (d : mD), r2 z0 d = (pr d (R2 z0 (d 770)))) : ∀ (n : Nat) (y0 y1 y2 : Int) (d : mD), lp_219_106 769 r2 n y0 y1 y2 d = (pr d (LP_219_106 R2 n y0 y1 y2 (d 770))) := by
  intro n
  induction n with
  | zero => intro y0 y1 y2 d; exact m_st_219_106 (r106 := (fun _ _ _ d => (0, d))) (R106 := (fun _ _ _ w => (0, w))) hr2 (fun _ _ _ d => by rw [pr_mk, rset_self]) d
  | succ n ih => intro y0 y1 y2 d; exact m_st_219_106 hr2 ih d
def ST_219_2 (r2 : Int → Row → Int × Row) (x1 : Int) (w : Row) : Int × Row := if (0 : Int) < w 11 then (if w 1 < w 6 then (x1, w) else LP_219_106 r2 (200 - 0 : Int).toNat x1 (1916 + (5 * (w 2916))) 0 (ws (ws (ws (ws w 1 ((w 1) - (w 6))) ((420 + (2 * (w ((1916 + (5 * (w 2916))) + 0)))) + 1) ((w ((420 + (2 * (w ((1916 + (5 * (w 2916))) + 0)))) + 1)) + (w 6))) ((1916 + (5 * (w 2916))) + 3) 2) 11 ((w 11) - 1))) else (x1, w)
theorem m_st_219_2 {x1 : Int} {r2 : Int → mD → Int × mD} {R2 : Int → Row → Int × Row} (hr2 : ∀ (z0 : Int) (d : mD), r2 z0 d = (pr d (R2 z0 (d 770)))) (d : mD) : st_219_2 769 r2 x1 d = (pr d (ST_219_2 R2 x1 (d 770))) := by
  simp only [st_219_2, ST_219_2, m_lp_219_106 hr2, hr2, mset_row, rset_self, rset_at, rset_rset, rset_ite, pr_ite, pr_mk, pr_rset, pr_1, pr_2, Int.reduceAdd]
def LP_219_2 : Nat → Int → Row → Int × Row
  | 0 => ST_219_2 (fun _ w => (0, w))
  | n + 1 => ST_219_2 (LP_219_2 n)
theorem m_lp_219_2   : ∀ (n : Nat) (y0 : Int) (d : mD), lp_219_2 769 n y0 d = (pr d (LP_219_2 n y0 (d 770))) := by
  intro n
  induction n with
  | zero => intro y0 d; exact m_st_219_2 (r2 := (fun _ d => (0, d))) (R2 := (fun _ w => (0, w))) (fun _ d => by rw [pr_mk, rset_self]) d
  | succ n ih => intro y0 d; exact m_st_219_2 ih d
def F_219 (w : Row) : Int × Row := LP_219_2 (w 11 : Int).toNat 0 w
theorem m_f_219 (d : mD) : f_219 769 d = (pr d (F_219 (d 770))) := by
  simp only [f_219, F_219, m_lp_219_2, mset_row, rset_self, rset_at, rset_rset, rset_ite, pr_ite, pr_mk, pr_rset, pr_1, pr_2, Int.reduceAdd]
def V_219 (w : Row) : Int := (F_219 w).1
theorem m_v_219 (d : mD) : v_219 769 d = (V_219 (d 770)) := by
  simp only [v_219, V_219, m_f_219, mset_row, rset_self, rset_at, rset_rset, rset_ite, pr_ite, pr_mk, pr_rset, pr_1, pr_2, Int.reduceAdd]
def W_219 (w : Row) : Row := (F_219 w).2
theorem m_g_219 (d : mD) : g_219 769 d = (rset d (W_219 (d 770))) := by
  simp only [g_219, W_219, m_f_219, mset_row, rset_self, rset_at, rset_rset, rset_ite, pr_ite, pr_mk, pr_rset, pr_1, pr_2, Int.reduceAdd]
def ST_220_20 (x1 x2 : Int) (r20 : Int → Int → Row → Row) (x3 x4 : Int) (w : Row) : Row := if x4 < w (x3 + 5) then r20 x3 (x4 + 1) (ws w ((x3 + 7) + x4) (w (((x3 + 7) + x4) + 1))) else w
theorem m_st_220_20 {x1 x2 x3 x4 : Int} {r20 : Int → Int → mD → mD} {R20 : Int → Int → Row → Row} (hr20 : ∀ (z0 z1 : Int) (d : mD), r20 z0 z1 d = (rset d (R20 z0 z1 (d 770)))) (d : mD) : st_220_20 769 x1 x2 r20 x3 x4 d = (rset d (ST_220_20 x1 x2 R20 x3 x4 (d 770))) := by
  simp only [st_220_20, ST_220_20, hr20, mset_row, rset_self, rset_at, rset_rset, rset_ite, pr_ite, pr_mk, pr_rset, pr_1, pr_2, Int.reduceAdd]
def LP_220_20 (x1 x2 : Int) : Nat → Int → Int → Row → Row
  | 0 => ST_220_20 x1 x2 (fun _ _ w => w)
  | n + 1 => ST_220_20 x1 x2 (LP_220_20 x1 x2 n)
theorem m_lp_220_20 {x1 x2 : Int}   : ∀ (n : Nat) (y0 y1 : Int) (d : mD), lp_220_20 769 x1 x2 n y0 y1 d = (rset d (LP_220_20 x1 x2 n y0 y1 (d 770))) := by
  intro n
  induction n with
  | zero => intro y0 y1 d; exact m_st_220_20 (r20 := (fun _ _ d => d)) (R20 := (fun _ _ w => w)) (fun _ _ d => (rset_self d).symm) d
  | succ n ih => intro y0 y1 d; exact m_st_220_20 ih d
def W_220 (x1 x2 : Int) (w : Row) : Row := LP_220_20 x1 x2 (61 - x2 : Int).toNat (12 + (68 * x1)) x2 (ws w ((12 + (68 * x1)) + 5) ((w ((12 + (68 * x1)) + 5)) - 1))
theorem m_g_220 {x1 x2 : Int} (d : mD) : g_220 769 x1 x2 d = (rset d (W_220 x1 x2 (d 770))) := by
  simp only [g_220, W_220, m_lp_220_20, mset_row, rset_self, rset_at, rset_rset, rset_ite, pr_ite, pr_mk, pr_rset, pr_1, pr_2, Int.reduceAdd]
def ST_221_17 (x1 : Int) (r17 : Int → Int → Row → Int) (x2 x3 : Int) (w : Row) : Int := if x3 < w (x2 + 5) then (if w ((x2 + 7) + x3) = x1 then x3 else r17 x2 (x3 + 1) w) else (-1)
theorem m_st_221_17 {x1 x2 x3 : Int} {r17 : Int → Int → mD → Int} {R17 : Int → Int → Row → Int} (hr17 : ∀ (z0 z1 : Int) (d : mD), r17 z0 z1 d = (R17 z0 z1 (d 770))) (d : mD) : st_221_17 769 x1 r17 x2 x3 d = (ST_221_17 x1 R17 x2 x3 (d 770)) := by
  simp only [st_221_17, ST_221_17, hr17, mset_row, rset_self, rset_at, rset_rset, rset_ite, pr_ite, pr_mk, pr_rset, pr_1, pr_2, Int.reduceAdd]
def LP_221_17 (x1 : Int) : Nat → Int → Int → Row → Int
  | 0 => ST_221_17 x1 (fun _ _ w => 0)
  | n + 1 => ST_221_17 x1 (LP_221_17 x1 n)
theorem m_lp_221_17 {x1 : Int}   : ∀ (n : Nat) (y0 y1 : Int) (d : mD), lp_221_17 769 x1 n y0 y1 d = (LP_221_17 x1 n y0 y1 (d 770)) := by
  intro n
  induction n with
  | zero => intro y0 y1 d; exact m_st_221_17 (r17 := (fun _ _ d => 0)) (R17 := (fun _ _ w => 0)) (fun _ _ _ => rfl) d
  | succ n ih => intro y0 y1 d; exact m_st_221_17 ih d
def V_221 (x1 : Int) (w : Row) : Int := LP_221_17 x1 (61 - 0 : Int).toNat (12 + (68 * (w ((452 + (24 * x1)) + 1)))) 0 w
theorem m_v_221 {x1 : Int} (d : mD) : v_221 769 x1 d = (V_221 x1 (d 770)) := by
  simp only [v_221, V_221, m_lp_221_17, mset_row, rset_self, rset_at, rset_rset, rset_ite, pr_ite, pr_mk, pr_rset, pr_1, pr_2, Int.reduceAdd]
def ST_222_7 (x1 : Int) (r7 : Int → Int → Row → Row) (x2 x3 : Int) (w : Row) : Row := if x3 < w (x2 + 1) then (if (0 : Int) < w (x2 + 5) then r7 x2 (x3 + 1) (W_220 x1 0 (ws (ws (ws w ((452 + (24 * (w (x2 + 7)))) + 4) 1) ((452 + (24 * (w (x2 + 7)))) + 3) (w 0)) (x2 + 6) ((w (x2 + 6)) + 1))) else w) else w
theorem m_st_222_7 {x1 x2 x3 : Int} {r7 : Int → Int → mD → mD} {R7 : Int → Int → Row → Row} (hr7 : ∀ (z0 z1 : Int) (d : mD), r7 z0 z1 d = (rset d (R7 z0 z1 (d 770)))) (d : mD) : st_222_7 769 x1 r7 x2 x3 d = (rset d (ST_222_7 x1 R7 x2 x3 (d 770))) := by
  simp only [st_222_7, ST_222_7, m_g_220, hr7, mset_row, rset_self, rset_at, rset_rset, rset_ite, pr_ite, pr_mk, pr_rset, pr_1, pr_2, Int.reduceAdd]
def LP_222_7 (x1 : Int) : Nat → Int → Int → Row → Row
  | 0 => ST_222_7 x1 (fun _ _ w => w)
  | n + 1 => ST_222_7 x1 (LP_222_7 x1 n)
theorem m_lp_222_7 {x1 : Int}   : ∀ (n : Nat) (y0 y1 : Int) (d : mD), lp_222_7 769 x1 n y0 y1 d = (rset d (LP_222_7 x1 n y0 y1 (d 770))) := by
  intro n
  induction n with
  | zero => intro y0 y1 d; exact m_st_222_7 (r7 := (fun _ _ d => d)) (R7 := (fun _ _ w => w)) (fun _ _ d => (rset_self d).symm) d
  | succ n ih => intro y0 y1 d; exact m_st_222_7 ih d
def W_222 (x1 : Int) (w : Row) : Row := LP_222_7 x1 (4 - 0 : Int).toNat (12 + (68 * x1)) 0 w
theorem m_g_222 {x1 : Int} (d : mD) : g_222 769 x1 d = (rset d (W_222 x1 (d 770))) := by
  simp only [g_222, W_222, m_lp_222_7, mset_row, rset_self, rset_at, rset_rset, rset_ite, pr_ite, pr_mk, pr_rset, pr_1, pr_2, Int.reduceAdd]
def V_230 (x1 x2 : Int) (w : Row) : Int := if w ((452 + (24 * x2)) + 2) < w ((452 + (24 * x1)) + 2) then (if V_212 x1 w < V_212 x2 w then (if w ((452 + (24 * x1)) + 2) < V_212 x1 w then (V_212 x1 w) - (w ((452 + (24 * x1)) + 2)) else 0) else if w ((452 + (24 * x1)) + 2) < V_212 x2 w then (V_212 x2 w) - (w ((452 + (24 * x1)) + 2)) else 0) else if V_212 x1 w < V_212 x2 w then (if w ((452 + (24 * x2)) + 2) < V_212 x1 w then (V_212 x1 w) - (w ((452 + (24 * x2)) + 2)) else 0) else if w ((452 + (24 * x2)) + 2) < V_212 x2 w then (V_212 x2 w) - (w ((452 + (24 * x2)) + 2)) else 0
theorem m_v_230 {x1 x2 : Int} (d : mD) : v_230 769 x1 x2 d = (V_230 x1 x2 (d 770)) := by
  simp only [v_230, V_230, m_v_212, mset_row, rset_self, rset_at, rset_rset, rset_ite, pr_ite, pr_mk, pr_rset, pr_1, pr_2, Int.reduceAdd]
def ST_231_5 (x1 x2 : Int) (r5 : Int → Int → Row → Int) (x3 x4 : Int) (w : Row) : Int := if x4 < w 9 then (if x4 = x1 then r5 x3 (x4 + 1) w else if w ((452 + (24 * x4)) + 0) = x2 then (if w ((452 + (24 * x4)) + 1) = w ((452 + (24 * x1)) + 1) then (if x3 < V_230 x1 x4 w then r5 (V_230 x1 x4 w) (x4 + 1) w else r5 x3 (x4 + 1) w) else r5 x3 (x4 + 1) w) else r5 x3 (x4 + 1) w) else x3
theorem m_st_231_5 {x1 x2 x3 x4 : Int} {r5 : Int → Int → mD → Int} {R5 : Int → Int → Row → Int} (hr5 : ∀ (z0 z1 : Int) (d : mD), r5 z0 z1 d = (R5 z0 z1 (d 770))) (d : mD) : st_231_5 769 x1 x2 r5 x3 x4 d = (ST_231_5 x1 x2 R5 x3 x4 (d 770)) := by
  simp only [st_231_5, ST_231_5, m_v_230, hr5, mset_row, rset_self, rset_at, rset_rset, rset_ite, pr_ite, pr_mk, pr_rset, pr_1, pr_2, Int.reduceAdd]
def LP_231_5 (x1 x2 : Int) : Nat → Int → Int → Row → Int
  | 0 => ST_231_5 x1 x2 (fun _ _ w => 0)
  | n + 1 => ST_231_5 x1 x2 (LP_231_5 x1 x2 n)
theorem m_lp_231_5 {x1 x2 : Int}   : ∀ (n : Nat) (y0 y1 : Int) (d : mD), lp_231_5 769 x1 x2 n y0 y1 d = (LP_231_5 x1 x2 n y0 y1 (d 770)) := by
  intro n
  induction n with
  | zero => intro y0 y1 d; exact m_st_231_5 (r5 := (fun _ _ d => 0)) (R5 := (fun _ _ w => 0)) (fun _ _ _ => rfl) d
  | succ n ih => intro y0 y1 d; exact m_st_231_5 ih d
def V_231 (x1 x2 : Int) (w : Row) : Int := LP_231_5 x1 x2 (61 - 0 : Int).toNat 0 0 w
theorem m_v_231 {x1 x2 : Int} (d : mD) : v_231 769 x1 x2 d = (V_231 x1 x2 (d 770)) := by
  simp only [v_231, V_231, m_lp_231_5, mset_row, rset_self, rset_at, rset_rset, rset_ite, pr_ite, pr_mk, pr_rset, pr_1, pr_2, Int.reduceAdd]
def V_232 (x1 x2 : Int) (w : Row) : Int := if (0 : Int) < w (((452 + (24 * x1)) + 8) + x2) then (if ((w (((452 + (24 * x1)) + 8) + x2)) - 1) / 20 = (w 0) / 20 then 1 else 0) else 0
theorem m_v_232 {x1 x2 : Int} (d : mD) : v_232 769 x1 x2 d = (V_232 x1 x2 (d 770)) := by
  simp only [v_232, V_232, mset_row, rset_self, rset_at, rset_rset, rset_ite, pr_ite, pr_mk, pr_rset, pr_1, pr_2, Int.reduceAdd]
def ST_233_4 (x1 : Int) (r4 : Int → Int → Row → Int) (x2 x3 : Int) (w : Row) : Int := if x3 < w 9 then (if V_232 x3 x1 w = 0 then r4 (x2 + 0) (x3 + 1) w else r4 (x2 + 1) (x3 + 1) w) else x2
theorem m_st_233_4 {x1 x2 x3 : Int} {r4 : Int → Int → mD → Int} {R4 : Int → Int → Row → Int} (hr4 : ∀ (z0 z1 : Int) (d : mD), r4 z0 z1 d = (R4 z0 z1 (d 770))) (d : mD) : st_233_4 769 x1 r4 x2 x3 d = (ST_233_4 x1 R4 x2 x3 (d 770)) := by
  simp only [st_233_4, ST_233_4, m_v_232, hr4, mset_row, rset_self, rset_at, rset_rset, rset_ite, pr_ite, pr_mk, pr_rset, pr_1, pr_2, Int.reduceAdd]
def LP_233_4 (x1 : Int) : Nat → Int → Int → Row → Int
  | 0 => ST_233_4 x1 (fun _ _ w => 0)
  | n + 1 => ST_233_4 x1 (LP_233_4 x1 n)
theorem m_lp_233_4 {x1 : Int}   : ∀ (n : Nat) (y0 y1 : Int) (d : mD), lp_233_4 769 x1 n y0 y1 d = (LP_233_4 x1 n y0 y1 (d 770)) := by
  intro n
  induction n with
  | zero => intro y0 y1 d; exact m_st_233_4 (r4 := (fun _ _ d => 0)) (R4 := (fun _ _ w => 0)) (fun _ _ _ => rfl) d
  | succ n ih => intro y0 y1 d; exact m_st_233_4 ih d
def V_233 (x1 : Int) (w : Row) : Int := LP_233_4 x1 (61 - 0 : Int).toNat 0 0 w
theorem m_v_233 {x1 : Int} (d : mD) : v_233 769 x1 d = (V_233 x1 (d 770)) := by
  simp only [v_233, V_233, m_lp_233_4, mset_row, rset_self, rset_at, rset_rset, rset_ite, pr_ite, pr_mk, pr_rset, pr_1, pr_2, Int.reduceAdd]
def ST_223_71 (r71 : Int → Row → Row) (x1 : Int) (w : Row) : Row := if x1 < w 9 then (if (w 0) % 20 = 0 then (if w ((452 + (24 * x1)) + 6) = 0 then r71 (x1 + 1) w else r71 (x1 + 1) (W_218 x1 w)) else W_219 w) else W_219 w
theorem m_st_223_71 {x1 : Int} {r71 : Int → mD → mD} {R71 : Int → Row → Row} (hr71 : ∀ (z0 : Int) (d : mD), r71 z0 d = (rset d (R71 z0 (d 770)))) (d : mD) : st_223_71 769 r71 x1 d = (rset d (ST_223_71 R71 x1 (d 770))) := by
  simp only [st_223_71, ST_223_71, m_g_218, m_g_219, hr71, mset_row, rset_self, rset_at, rset_rset, rset_ite, pr_ite, pr_mk, pr_rset, pr_1, pr_2, Int.reduceAdd]
def LP_223_71 : Nat → Int → Row → Row
  | 0 => ST_223_71 (fun _ w => w)
  | n + 1 => ST_223_71 (LP_223_71 n)
theorem m_lp_223_71   : ∀ (n : Nat) (y0 : Int) (d : mD), lp_223_71 769 n y0 d = (rset d (LP_223_71 n y0 (d 770))) := by
  intro n
  induction n with
  | zero => intro y0 d; exact m_st_223_71 (r71 := (fun _ d => d)) (R71 := (fun _ w => w)) (fun _ d => (rset_self d).symm) d
  | succ n ih => intro y0 d; exact m_st_223_71 ih d
def ST_223_12 (r12 : Int → Row → Row) (x1 : Int) (w : Row) : Row := if x1 < w 7 then (if w ((12 + (68 * x1)) + 4) = 0 then r12 (x1 + 1) w else if (w 0) % (w ((12 + (68 * x1)) + 2)) = 0 then r12 (x1 + 1) (W_222 x1 w) else r12 (x1 + 1) w) else LP_223_71 (61 - 0 : Int).toNat 0 w
theorem m_st_223_12 {x1 : Int} {r12 : Int → mD → mD} {R12 : Int → Row → Row} (hr12 : ∀ (z0 : Int) (d : mD), r12 z0 d = (rset d (R12 z0 (d 770)))) (d : mD) : st_223_12 769 r12 x1 d = (rset d (ST_223_12 R12 x1 (d 770))) := by
  simp only [st_223_12, ST_223_12, m_g_222, m_lp_223_71, hr12, mset_row, rset_self, rset_at, rset_rset, rset_ite, pr_ite, pr_mk, pr_rset, pr_1, pr_2, Int.reduceAdd]
def LP_223_12 : Nat → Int → Row → Row
  | 0 => ST_223_12 (fun _ w => w)
  | n + 1 => ST_223_12 (LP_223_12 n)
theorem m_lp_223_12   : ∀ (n : Nat) (y0 : Int) (d : mD), lp_223_12 769 n y0 d = (rset d (LP_223_12 n y0 (d 770))) := by
  intro n
  induction n with
  | zero => intro y0 d; exact m_st_223_12 (r12 := (fun _ d => d)) (R12 := (fun _ w => w)) (fun _ d => (rset_self d).symm) d
  | succ n ih => intro y0 d; exact m_st_223_12 ih d
def W_223 (w : Row) : Row := LP_223_12 (6 - 0 : Int).toNat 0 (ws w 0 ((w 0) + 1))
theorem m_g_223 (d : mD) : g_223 769 d = (rset d (W_223 (d 770))) := by
  simp only [g_223, W_223, m_lp_223_12, mset_row, rset_self, rset_at, rset_rset, rset_ite, pr_ite, pr_mk, pr_rset, pr_1, pr_2, Int.reduceAdd]
def ST_224_17 (x1 x2 : Int) (r17 : Int → Int → Int → Row → Int × Row) (x3 x4 x5 : Int) (w : Row) : Int × Row := if x5 < 24 then r17 x3 x4 (x5 + 1) (ws w (x4 + x5) 0) else (x3, ws (ws (ws (ws (ws (ws (ws w (x4 + 0) x1) (x4 + 1) x2) (x4 + 2) (w 0)) (x4 + 3) ((-1))) (((12 + (68 * x2)) + 7) + (w ((12 + (68 * x2)) + 5))) x3) ((12 + (68 * x2)) + 5) ((w ((12 + (68 * x2)) + 5)) + 1)) 9 ((w 9) + 1))
theorem m_st_224_17 {x1 x2 x3 x4 x5 : Int} {r17 : Int → Int → Int → mD → Int × mD} {R17 : Int → Int → Int → Row → Int × Row} (hr17 : ∀ (z0 z1 z2 : Int) (d : mD), r17 z0 z1 z2 d = (pr d (R17 z0 z1 z2 (d 770)))) (d : mD) : st_224_17 769 x1 x2 r17 x3 x4 x5 d = (pr d (ST_224_17 x1 x2 R17 x3 x4 x5 (d 770))) := by
  simp only [st_224_17, ST_224_17, hr17, mset_row, rset_self, rset_at, rset_rset, rset_ite, pr_ite, pr_mk, pr_rset, pr_1, pr_2, Int.reduceAdd]
def LP_224_17 (x1 x2 : Int) : Nat → Int → Int → Int → Row → Int × Row
  | 0 => ST_224_17 x1 x2 (fun _ _ _ w => (0, w))
  | n + 1 => ST_224_17 x1 x2 (LP_224_17 x1 x2 n)
theorem m_lp_224_17 {x1 x2 : Int}   : ∀ (n : Nat) (y0 y1 y2 : Int) (d : mD), lp_224_17 769 x1 x2 n y0 y1 y2 d = (pr d (LP_224_17 x1 x2 n y0 y1 y2 (d 770))) := by
  intro n
  induction n with
  | zero => intro y0 y1 y2 d; exact m_st_224_17 (r17 := (fun _ _ _ d => (0, d))) (R17 := (fun _ _ _ w => (0, w))) (fun _ _ _ d => by rw [pr_mk, rset_self]) d
  | succ n ih => intro y0 y1 y2 d; exact m_st_224_17 ih d
def F_224 (x1 x2 : Int) (w : Row) : Int × Row := LP_224_17 x1 x2 (24 - 0 : Int).toNat (w 9) (452 + (24 * (w 9))) 0 w
theorem m_f_224 {x1 x2 : Int} (d : mD) : f_224 769 x1 x2 d = (pr d (F_224 x1 x2 (d 770))) := by
  simp only [f_224, F_224, m_lp_224_17, mset_row, rset_self, rset_at, rset_rset, rset_ite, pr_ite, pr_mk, pr_rset, pr_1, pr_2, Int.reduceAdd]
def V_224 (x1 x2 : Int) (w : Row) : Int := (F_224 x1 x2 w).1
theorem m_v_224 {x1 x2 : Int} (d : mD) : v_224 769 x1 x2 d = (V_224 x1 x2 (d 770)) := by
  simp only [v_224, V_224, m_f_224, mset_row, rset_self, rset_at, rset_rset, rset_ite, pr_ite, pr_mk, pr_rset, pr_1, pr_2, Int.reduceAdd]
def W_224 (x1 x2 : Int) (w : Row) : Row := (F_224 x1 x2 w).2
theorem m_g_224 {x1 x2 : Int} (d : mD) : g_224 769 x1 x2 d = (rset d (W_224 x1 x2 (d 770))) := by
  simp only [g_224, W_224, m_f_224, mset_row, rset_self, rset_at, rset_rset, rset_ite, pr_ite, pr_mk, pr_rset, pr_1, pr_2, Int.reduceAdd]
def ST_225_57 (x1 x2 : Int) (r57 : Int → Int → Int → Row → Int) (x3 x4 x5 : Int) (w : Row) : Int := if x5 < w (x3 + 5) then (if w ((452 + (24 * (w ((x3 + 7) + x5)))) + 0) = x1 then r57 x3 (miand x4 0) (x5 + 1) w else r57 x3 (miand x4 1) (x5 + 1) w) else x4
theorem m_st_225_57 {x1 x2 x3 x4 x5 : Int} {r57 : Int → Int → Int → mD → Int} {R57 : Int → Int → Int → Row → Int} (hr57 : ∀ (z0 z1 z2 : Int) (d : mD), r57 z0 z1 z2 d = (R57 z0 z1 z2 (d 770))) (d : mD) : st_225_57 769 x1 x2 r57 x3 x4 x5 d = (ST_225_57 x1 x2 R57 x3 x4 x5 (d 770)) := by
  simp only [st_225_57, ST_225_57, hr57, mset_row, rset_self, rset_at, rset_rset, rset_ite, pr_ite, pr_mk, pr_rset, pr_1, pr_2, Int.reduceAdd]
def LP_225_57 (x1 x2 : Int) : Nat → Int → Int → Int → Row → Int
  | 0 => ST_225_57 x1 x2 (fun _ _ _ w => 0)
  | n + 1 => ST_225_57 x1 x2 (LP_225_57 x1 x2 n)
theorem m_lp_225_57 {x1 x2 : Int}   : ∀ (n : Nat) (y0 y1 y2 : Int) (d : mD), lp_225_57 769 x1 x2 n y0 y1 y2 d = (LP_225_57 x1 x2 n y0 y1 y2 (d 770)) := by
  intro n
  induction n with
  | zero => intro y0 y1 y2 d; exact m_st_225_57 (r57 := (fun _ _ _ d => 0)) (R57 := (fun _ _ _ w => 0)) (fun _ _ _ _ => rfl) d
  | succ n ih => intro y0 y1 y2 d; exact m_st_225_57 ih d
def V_225 (x1 x2 : Int) (w : Row) : Int := if w 9 < 60 then (if w ((12 + (68 * x2)) + 4) = 0 then LP_225_57 x1 x2 (61 - 0 : Int).toNat (12 + (68 * x2)) 0 0 w else if w ((12 + (68 * x2)) + 5) < w ((12 + (68 * x2)) + 3) then LP_225_57 x1 x2 (61 - 0 : Int).toNat (12 + (68 * x2)) 1 0 w else LP_225_57 x1 x2 (61 - 0 : Int).toNat (12 + (68 * x2)) 0 0 w) else LP_225_57 x1 x2 (61 - 0 : Int).toNat (12 + (68 * x2)) 0 0 w
theorem m_v_225 {x1 x2 : Int} (d : mD) : v_225 769 x1 x2 d = (V_225 x1 x2 (d 770)) := by
  simp only [v_225, V_225, m_lp_225_57, mset_row, rset_self, rset_at, rset_rset, rset_ite, pr_ite, pr_mk, pr_rset, pr_1, pr_2, Int.reduceAdd]
def V_226 (x1 x2 : Int) (w : Row) : Int := V_224 x1 x2 w
theorem m_v_226 {x1 x2 : Int} (d : mD) : v_226 769 x1 x2 d = (V_226 x1 x2 (d 770)) := by
  simp only [v_226, V_226, m_v_224, mset_row, rset_self, rset_at, rset_rset, rset_ite, pr_ite, pr_mk, pr_rset, pr_1, pr_2, Int.reduceAdd]
def W_226 (x1 x2 : Int) (w : Row) : Row := W_224 x1 x2 w
theorem m_g_226 {x1 x2 : Int} (d : mD) : g_226 769 x1 x2 d = (rset d (W_226 x1 x2 (d 770))) := by
  simp only [g_226, W_226, m_g_224, mset_row, rset_self, rset_at, rset_rset, rset_ite, pr_ite, pr_mk, pr_rset, pr_1, pr_2, Int.reduceAdd]
def V_227 (x1 : Int) (w : Row) : Int := if w ((452 + (24 * x1)) + 4) = 1 then (if w ((452 + (24 * x1)) + 5) = 0 then 1 else 0) else 0
theorem m_v_227 {x1 : Int} (d : mD) : v_227 769 x1 d = (V_227 x1 (d 770)) := by
  simp only [v_227, V_227, mset_row, rset_self, rset_at, rset_rset, rset_ite, pr_ite, pr_mk, pr_rset, pr_1, pr_2, Int.reduceAdd]
def V_228 (x1 : Int) (w : Row) : Int := if (0 : Int) < w 3 then 0 else V_218 x1 (ws (ws w ((452 + (24 * x1)) + 5) 1) ((452 + (24 * x1)) + 6) 1)
theorem m_v_228 {x1 : Int} (d : mD) : v_228 769 x1 d = (V_228 x1 (d 770)) := by
  simp only [v_228, V_228, m_v_218, mset_row, rset_self, rset_at, rset_rset, rset_ite, pr_ite, pr_mk, pr_rset, pr_1, pr_2, Int.reduceAdd]
def W_228 (x1 : Int) (w : Row) : Row := if (0 : Int) < w 3 then ws w ((452 + (24 * x1)) + 5) 1 else W_218 x1 (ws (ws w ((452 + (24 * x1)) + 5) 1) ((452 + (24 * x1)) + 6) 1)
theorem m_g_228 {x1 : Int} (d : mD) : g_228 769 x1 d = (rset d (W_228 x1 (d 770))) := by
  simp only [g_228, W_228, m_g_218, mset_row, rset_self, rset_at, rset_rset, rset_ite, pr_ite, pr_mk, pr_rset, pr_1, pr_2, Int.reduceAdd]
def V_235 (x1 x2 : Int) (w : Row) : Int := if (w ((452 + (24 * x1)) + 7)) + 1 < w 3 then 0 else V_218 x1 (ws (ws (ws w (((452 + (24 * x1)) + 8) + x2) ((w 0) + 1)) ((452 + (24 * x1)) + 7) ((w ((452 + (24 * x1)) + 7)) + 1)) ((452 + (24 * x1)) + 6) 1)
theorem m_v_235 {x1 x2 : Int} (d : mD) : v_235 769 x1 x2 d = (V_235 x1 x2 (d 770)) := by
  simp only [v_235, V_235, m_v_218, mset_row, rset_self, rset_at, rset_rset, rset_ite, pr_ite, pr_mk, pr_rset, pr_1, pr_2, Int.reduceAdd]
def W_235 (x1 x2 : Int) (w : Row) : Row := if (w ((452 + (24 * x1)) + 7)) + 1 < w 3 then ws (ws w (((452 + (24 * x1)) + 8) + x2) ((w 0) + 1)) ((452 + (24 * x1)) + 7) ((w ((452 + (24 * x1)) + 7)) + 1) else W_218 x1 (ws (ws (ws w (((452 + (24 * x1)) + 8) + x2) ((w 0) + 1)) ((452 + (24 * x1)) + 7) ((w ((452 + (24 * x1)) + 7)) + 1)) ((452 + (24 * x1)) + 6) 1)
theorem m_g_235 {x1 x2 : Int} (d : mD) : g_235 769 x1 x2 d = (rset d (W_235 x1 x2 (d 770))) := by
  simp only [g_235, W_235, m_g_218, mset_row, rset_self, rset_at, rset_rset, rset_ite, pr_ite, pr_mk, pr_rset, pr_1, pr_2, Int.reduceAdd]
def ST_234_97 (x1 x2 : Int) (r97 : Int → Int → Int → Row → Int) (x3 x4 x5 : Int) (w : Row) : Int := if x5 < w 9 then (if w ((452 + (24 * x5)) + 0) = x2 then (if V_232 x5 (w (x3 + 0)) w = 0 then r97 x3 (mior x4 0) (x5 + 1) w else r97 x3 (mior x4 1) (x5 + 1) w) else r97 x3 (mior x4 0) (x5 + 1) w) else if x4 = 0 then 0 else 7
theorem m_st_234_97 {x1 x2 x3 x4 x5 : Int} {r97 : Int → Int → Int → mD → Int} {R97 : Int → Int → Int → Row → Int} (hr97 : ∀ (z0 z1 z2 : Int) (d : mD), r97 z0 z1 z2 d = (R97 z0 z1 z2 (d 770))) (d : mD) : st_234_97 769 x1 x2 r97 x3 x4 x5 d = (ST_234_97 x1 x2 R97 x3 x4 x5 (d 770)) := by
  simp only [st_234_97, ST_234_97, m_v_232, hr97, mset_row, rset_self, rset_at, rset_rset, rset_ite, pr_ite, pr_mk, pr_rset, pr_1, pr_2, Int.reduceAdd]
def LP_234_97 (x1 x2 : Int) : Nat → Int → Int → Int → Row → Int
  | 0 => ST_234_97 x1 x2 (fun _ _ _ w => 0)
  | n + 1 => ST_234_97 x1 x2 (LP_234_97 x1 x2 n)
theorem m_lp_234_97 {x1 x2 : Int}   : ∀ (n : Nat) (y0 y1 y2 : Int) (d : mD), lp_234_97 769 x1 x2 n y0 y1 y2 d = (LP_234_97 x1 x2 n y0 y1 y2 (d 770)) := by
  intro n
  induction n with
  | zero => intro y0 y1 y2 d; exact m_st_234_97 (r97 := (fun _ _ _ d => 0)) (R97 := (fun _ _ _ w => 0)) (fun _ _ _ _ => rfl) d
  | succ n ih => intro y0 y1 y2 d; exact m_st_234_97 ih d
def V_234 (x1 x2 : Int) (w : Row) : Int := if w ((452 + (24 * x1)) + 5) = 0 then 1 else if w ((452 + (24 * x1)) + 6) = 0 then (if w ((452 + (24 * x1)) + 0) = x2 then 3 else if w (((452 + (24 * x1)) + 8) + x2) = 0 then (if V_231 x1 x2 w < w 4 then 5 else if V_233 x2 w < 3 then LP_234_97 x1 x2 (61 - 0 : Int).toNat (452 + (24 * x1)) 0 0 w else 6) else 4) else 2
theorem m_v_234 {x1 x2 : Int} (d : mD) : v_234 769 x1 x2 d = (V_234 x1 x2 (d 770)) := by
  simp only [v_234, V_234, m_v_231, m_v_233, m_lp_234_97, mset_row, rset_self, rset_at, rset_rset, rset_ite, pr_ite, pr_mk, pr_rset, pr_1, pr_2, Int.reduceAdd]
def V_236 (x1 : Int) (w : Row) : Int := V_176 x1 0 ((w 7) - 1) w
theorem m_v_236 {x1 : Int} (d : mD) : v_236 769 x1 d = (V_236 x1 (d 770)) := by
  simp only [v_236, V_236, m_v_176, mset_row, rset_self, rset_at, rset_rset, rset_ite, pr_ite, pr_mk, pr_rset, pr_1, pr_2, Int.reduceAdd]
def V_237 (x1 : Int) (w : Row) : Int := V_176 x1 0 ((w 8) - 1) w
theorem m_v_237 {x1 : Int} (d : mD) : v_237 769 x1 d = (V_237 x1 (d 770)) := by
  simp only [v_237, V_237, m_v_176, mset_row, rset_self, rset_at, rset_rset, rset_ite, pr_ite, pr_mk, pr_rset, pr_1, pr_2, Int.reduceAdd]
def V_238 (x1 : Int) (w : Row) : Int := V_176 x1 0 ((w 9) - 1) w
theorem m_v_238 {x1 : Int} (d : mD) : v_238 769 x1 d = (V_238 x1 (d 770)) := by
  simp only [v_238, V_238, m_v_176, mset_row, rset_self, rset_at, rset_rset, rset_ite, pr_ite, pr_mk, pr_rset, pr_1, pr_2, Int.reduceAdd]
def ST_229_237 (x1 x2 : Int) (r199 : Int → Int → Int → Row → Row) (r237 : Int → Int → Int → Int → Int → Int → Row → Row) (x3 x4 x5 x6 x7 x8 : Int) (w : Row) : Row := if x8 < x5 then (if w ((452 + (24 * (w ((x4 + 7) + x8)))) + 0) = w (x6 + 0) then r237 x3 x4 x5 x6 (mior x7 1) (x8 + 1) w else r237 x3 x4 x5 x6 (mior x7 0) (x8 + 1) w) else if x7 = 0 then r199 x3 x4 (x5 + 1) w else r199 x3 x4 x5 (W_220 x2 x5 (ws (ws w (x6 + 4) 2) (x6 + 3) (w 0)))
theorem m_st_229_237 {x1 x2 x3 x4 x5 x6 x7 x8 : Int} {r199 : Int → Int → Int → mD → mD} {R199 : Int → Int → Int → Row → Row} {r237 : Int → Int → Int → Int → Int → Int → mD → mD} {R237 : Int → Int → Int → Int → Int → Int → Row → Row} (hr199 : ∀ (z0 z1 z2 : Int) (d : mD), r199 z0 z1 z2 d = (rset d (R199 z0 z1 z2 (d 770)))) (hr237 : ∀ (z0 z1 z2 z3 z4 z5 : Int) (d : mD), r237 z0 z1 z2 z3 z4 z5 d = (rset d (R237 z0 z1 z2 z3 z4 z5 (d 770)))) (d : mD) : st_229_237 769 x1 x2 r199 r237 x3 x4 x5 x6 x7 x8 d = (rset d (ST_229_237 x1 x2 R199 R237 x3 x4 x5 x6 x7 x8 (d 770))) := by
  simp only [st_229_237, ST_229_237, m_g_220, hr199, hr237, mset_row, rset_self, rset_at, rset_rset, rset_ite, pr_ite, pr_mk, pr_rset, pr_1, pr_2, Int.reduceAdd]
def LP_229_237 (x1 x2 : Int) (r199 : Int → Int → Int → Row → Row) : Nat → Int → Int → Int → Int → Int → Int → Row → Row
  | 0 => ST_229_237 x1 x2 r199 (fun _ _ _ _ _ _ w => w)
  | n + 1 => ST_229_237 x1 x2 r199 (LP_229_237 x1 x2 r199 n)
theorem m_lp_229_237 {x1 x2 : Int} {r199 : Int → Int → Int → mD → mD} {R199 : Int → Int → Int → Row → Row} (hr199 : ∀ (z0 z1 z2 : Int) (d : mD), r199 z0 z1 z2 d = (rset d (R199 z0 z1 z2 (d 770)))) : ∀ (n : Nat) (y0 y1 y2 y3 y4 y5 : Int) (d : mD), lp_229_237 769 x1 x2 r199 n y0 y1 y2 y3 y4 y5 d = (rset d (LP_229_237 x1 x2 R199 n y0 y1 y2 y3 y4 y5 (d 770))) := by
  intro n
  induction n with
  | zero => intro y0 y1 y2 y3 y4 y5 d; exact m_st_229_237 (r237 := (fun _ _ _ _ _ _ d => d)) (R237 := (fun _ _ _ _ _ _ w => w)) hr199 (fun _ _ _ _ _ _ d => (rset_self d).symm) d
  | succ n ih => intro y0 y1 y2 y3 y4 y5 d; exact m_st_229_237 hr199 ih d
def ST_229_199 (x1 x2 : Int) (r199 : Int → Int → Int → Row → Row) (x3 x4 x5 : Int) (w : Row) : Row := if x5 < w (x4 + 5) then LP_229_237 x1 x2 r199 (x5 - 0 : Int).toNat x3 x4 x5 (452 + (24 * (w ((x4 + 7) + x5)))) 0 0 w else w
theorem m_st_229_199 {x1 x2 x3 x4 x5 : Int} {r199 : Int → Int → Int → mD → mD} {R199 : Int → Int → Int → Row → Row} (hr199 : ∀ (z0 z1 z2 : Int) (d : mD), r199 z0 z1 z2 d = (rset d (R199 z0 z1 z2 (d 770)))) (d : mD) : st_229_199 769 x1 x2 r199 x3 x4 x5 d = (rset d (ST_229_199 x1 x2 R199 x3 x4 x5 (d 770))) := by
  simp only [st_229_199, ST_229_199, m_lp_229_237 hr199, hr199, mset_row, rset_self, rset_at, rset_rset, rset_ite, pr_ite, pr_mk, pr_rset, pr_1, pr_2, Int.reduceAdd]
def LP_229_199 (x1 x2 : Int) : Nat → Int → Int → Int → Row → Row
  | 0 => ST_229_199 x1 x2 (fun _ _ _ w => w)
  | n + 1 => ST_229_199 x1 x2 (LP_229_199 x1 x2 n)
theorem m_lp_229_199 {x1 x2 : Int}   : ∀ (n : Nat) (y0 y1 y2 : Int) (d : mD), lp_229_199 769 x1 x2 n y0 y1 y2 d = (rset d (LP_229_199 x1 x2 n y0 y1 y2 (d 770))) := by
  intro n
  induction n with
  | zero => intro y0 y1 y2 d; exact m_st_229_199 (r199 := (fun _ _ _ d => d)) (R199 := (fun _ _ _ w => w)) (fun _ _ _ d => (rset_self d).symm) d
  | succ n ih => intro y0 y1 y2 d; exact m_st_229_199 ih d
def ST_229_61 (x1 x2 : Int) (r23 : Int → Int → Int → Row → Row) (r61 : Int → Int → Int → Int → Int → Row → Row) (x3 x4 x5 x6 x7 : Int) (w : Row) : Row := if (0 : Int) < x7 then (if w ((452 + (24 * x6)) + 2) < w ((452 + (24 * (w (((x4 + 7) + x7) - 1)))) + 2) then r61 x3 x4 x5 x6 (x7 + (-1)) (ws w ((x4 + 7) + x7) (w (((x4 + 7) + x7) - 1))) else r23 x3 x4 (x5 + 1) (ws (ws (ws w ((x4 + 7) + x7) x6) (x4 + 5) ((w (x4 + 5)) + 1)) ((452 + (24 * x6)) + 1) x2)) else r23 x3 x4 (x5 + 1) (ws (ws (ws w ((x4 + 7) + x7) x6) (x4 + 5) ((w (x4 + 5)) + 1)) ((452 + (24 * x6)) + 1) x2)
theorem m_st_229_61 {x1 x2 x3 x4 x5 x6 x7 : Int} {r23 : Int → Int → Int → mD → mD} {R23 : Int → Int → Int → Row → Row} {r61 : Int → Int → Int → Int → Int → mD → mD} {R61 : Int → Int → Int → Int → Int → Row → Row} (hr23 : ∀ (z0 z1 z2 : Int) (d : mD), r23 z0 z1 z2 d = (rset d (R23 z0 z1 z2 (d 770)))) (hr61 : ∀ (z0 z1 z2 z3 z4 : Int) (d : mD), r61 z0 z1 z2 z3 z4 d = (rset d (R61 z0 z1 z2 z3 z4 (d 770)))) (d : mD) : st_229_61 769 x1 x2 r23 r61 x3 x4 x5 x6 x7 d = (rset d (ST_229_61 x1 x2 R23 R61 x3 x4 x5 x6 x7 (d 770))) := by
  simp only [st_229_61, ST_229_61, hr23, hr61, mset_row, rset_self, rset_at, rset_rset, rset_ite, pr_ite, pr_mk, pr_rset, pr_1, pr_2, Int.reduceAdd]
def LP_229_61 (x1 x2 : Int) (r23 : Int → Int → Int → Row → Row) : Nat → Int → Int → Int → Int → Int → Row → Row
  | 0 => ST_229_61 x1 x2 r23 (fun _ _ _ _ _ w => w)
  | n + 1 => ST_229_61 x1 x2 r23 (LP_229_61 x1 x2 r23 n)
theorem m_lp_229_61 {x1 x2 : Int} {r23 : Int → Int → Int → mD → mD} {R23 : Int → Int → Int → Row → Row} (hr23 : ∀ (z0 z1 z2 : Int) (d : mD), r23 z0 z1 z2 d = (rset d (R23 z0 z1 z2 (d 770)))) : ∀ (n : Nat) (y0 y1 y2 y3 y4 : Int) (d : mD), lp_229_61 769 x1 x2 r23 n y0 y1 y2 y3 y4 d = (rset d (LP_229_61 x1 x2 R23 n y0 y1 y2 y3 y4 (d 770))) := by
  intro n
  induction n with
  | zero => intro y0 y1 y2 y3 y4 d; exact m_st_229_61 (r61 := (fun _ _ _ _ _ d => d)) (R61 := (fun _ _ _ _ _ w => w)) hr23 (fun _ _ _ _ _ d => (rset_self d).symm) d
  | succ n ih => intro y0 y1 y2 y3 y4 d; exact m_st_229_61 hr23 ih d
def ST_229_23 (x1 x2 : Int) (r23 : Int → Int → Int → Row → Row) (x3 x4 x5 : Int) (w : Row) : Row := if x5 < w (x3 + 5) then LP_229_61 x1 x2 r23 ((w (x4 + 5)) : Int).toNat x3 x4 x5 (w ((x3 + 7) + x5)) (w (x4 + 5)) w else LP_229_199 x1 x2 ((ws w (x3 + 5) 0) (12 + 68 * x2 + 5) - 0 : Int).toNat x3 x4 0 (ws w (x3 + 5) 0)
theorem m_st_229_23 {x1 x2 x3 x4 x5 : Int} {r23 : Int → Int → Int → mD → mD} {R23 : Int → Int → Int → Row → Row} (hr23 : ∀ (z0 z1 z2 : Int) (d : mD), r23 z0 z1 z2 d = (rset d (R23 z0 z1 z2 (d 770)))) (d : mD) : st_229_23 769 x1 x2 r23 x3 x4 x5 d = (rset d (ST_229_23 x1 x2 R23 x3 x4 x5 (d 770))) := by
  simp only [st_229_23, ST_229_23, m_lp_229_199, m_lp_229_61 hr23, hr23, mset_row, rset_self, rset_at, rset_rset, rset_ite, pr_ite, pr_mk, pr_rset, pr_1, pr_2, Int.reduceAdd]
def LP_229_23 (x1 x2 : Int) : Nat → Int → Int → Int → Row → Row
  | 0 => ST_229_23 x1 x2 (fun _ _ _ w => w)
  | n + 1 => ST_229_23 x1 x2 (LP_229_23 x1 x2 n)
theorem m_lp_229_23 {x1 x2 : Int}   : ∀ (n : Nat) (y0 y1 y2 : Int) (d : mD), lp_229_23 769 x1 x2 n y0 y1 y2 d = (rset d (LP_229_23 x1 x2 n y0 y1 y2 (d 770))) := by
  intro n
  induction n with
  | zero => intro y0 y1 y2 d; exact m_st_229_23 (r23 := (fun _ _ _ d => d)) (R23 := (fun _ _ _ w => w)) (fun _ _ _ d => (rset_self d).symm) d
  | succ n ih => intro y0 y1 y2 d; exact m_st_229_23 ih d
def W_229 (x1 x2 : Int) (w : Row) : Row := LP_229_23 x1 x2 (61 - 0 : Int).toNat (12 + (68 * x1)) (12 + (68 * x2)) 0 (ws w ((12 + (68 * x1)) + 4) 0)
theorem m_g_229 {x1 x2 : Int} (d : mD) : g_229 769 x1 x2 d = (rset d (W_229 x1 x2 (d 770))) := by
  simp only [g_229, W_229, m_lp_229_23, mset_row, rset_self, rset_at, rset_rset, rset_ite, pr_ite, pr_mk, pr_rset, pr_1, pr_2, Int.reduceAdd]
def ST_243_2 (x1 x2 : Int) (r2 : Int → Row → Int) (x3 : Int) (w : Row) : Int := if x3 < w 9 then (if w ((452 + (24 * x3)) + 0) = x1 then (if w ((452 + (24 * x3)) + 4) = 1 then (if V_214 x3 x2 w = 0 then r2 (x3 + 1) w else 1) else r2 (x3 + 1) w) else r2 (x3 + 1) w) else 0
theorem m_st_243_2 {x1 x2 x3 : Int} {r2 : Int → mD → Int} {R2 : Int → Row → Int} (hr2 : ∀ (z0 : Int) (d : mD), r2 z0 d = (R2 z0 (d 770))) (d : mD) : st_243_2 769 x1 x2 r2 x3 d = (ST_243_2 x1 x2 R2 x3 (d 770)) := by
  simp only [st_243_2, ST_243_2, m_v_214, hr2, mset_row, rset_self, rset_at, rset_rset, rset_ite, pr_ite, pr_mk, pr_rset, pr_1, pr_2, Int.reduceAdd]
def LP_243_2 (x1 x2 : Int) : Nat → Int → Row → Int
  | 0 => ST_243_2 x1 x2 (fun _ w => 0)
  | n + 1 => ST_243_2 x1 x2 (LP_243_2 x1 x2 n)
theorem m_lp_243_2 {x1 x2 : Int}   : ∀ (n : Nat) (y0 : Int) (d : mD), lp_243_2 769 x1 x2 n y0 d = (LP_243_2 x1 x2 n y0 (d 770)) := by
  intro n
  induction n with
  | zero => intro y0 d; exact m_st_243_2 (r2 := (fun _ d => 0)) (R2 := (fun _ w => 0)) (fun _ _ => rfl) d
  | succ n ih => intro y0 d; exact m_st_243_2 ih d
def V_243 (x1 x2 : Int) (w : Row) : Int := LP_243_2 x1 x2 (61 - 0 : Int).toNat 0 w
theorem m_v_243 {x1 x2 : Int} (d : mD) : v_243 769 x1 x2 d = (V_243 x1 x2 (d 770)) := by
  simp only [v_243, V_243, m_lp_243_2, mset_row, rset_self, rset_at, rset_rset, rset_ite, pr_ite, pr_mk, pr_rset, pr_1, pr_2, Int.reduceAdd]
def ST_244_5 (x1 x2 : Int) (r5 : Int → Int → Row → Int) (x3 x4 : Int) (w : Row) : Int := if x4 < w 0 then (if V_243 x1 x4 w = 0 then r5 (x3 + 0) (x4 + 1) w else if x2 = 0 then r5 (x3 + 1) (x4 + 1) w else if V_216 x1 x4 w = 0 then r5 (x3 + 1) (x4 + 1) w else r5 (x3 + 0) (x4 + 1) w) else x3
theorem m_st_244_5 {x1 x2 x3 x4 : Int} {r5 : Int → Int → mD → Int} {R5 : Int → Int → Row → Int} (hr5 : ∀ (z0 z1 : Int) (d : mD), r5 z0 z1 d = (R5 z0 z1 (d 770))) (d : mD) : st_244_5 769 x1 x2 r5 x3 x4 d = (ST_244_5 x1 x2 R5 x3 x4 (d 770)) := by
  simp only [st_244_5, ST_244_5, m_v_216, m_v_243, hr5, mset_row, rset_self, rset_at, rset_rset, rset_ite, pr_ite, pr_mk, pr_rset, pr_1, pr_2, Int.reduceAdd]
def LP_244_5 (x1 x2 : Int) : Nat → Int → Int → Row → Int
  | 0 => ST_244_5 x1 x2 (fun _ _ w => 0)
  | n + 1 => ST_244_5 x1 x2 (LP_244_5 x1 x2 n)
theorem m_lp_244_5 {x1 x2 : Int}   : ∀ (n : Nat) (y0 y1 : Int) (d : mD), lp_244_5 769 x1 x2 n y0 y1 d = (LP_244_5 x1 x2 n y0 y1 (d 770)) := by
  intro n
  induction n with
  | zero => intro y0 y1 d; exact m_st_244_5 (r5 := (fun _ _ d => 0)) (R5 := (fun _ _ w => 0)) (fun _ _ _ => rfl) d
  | succ n ih => intro y0 y1 d; exact m_st_244_5 ih d
def V_244 (x1 x2 : Int) (w : Row) : Int := LP_244_5 x1 x2 (1200 - 0 : Int).toNat 0 0 w
theorem m_v_244 {x1 x2 : Int} (d : mD) : v_244 769 x1 x2 d = (V_244 x1 x2 (d 770)) := by
  simp only [v_244, V_244, m_lp_244_5, mset_row, rset_self, rset_at, rset_rset, rset_ite, pr_ite, pr_mk, pr_rset, pr_1, pr_2, Int.reduceAdd]
def ST_245_5 (x1 x2 : Int) (r5 : Int → Int → Row → Int) (x3 x4 : Int) (w : Row) : Int := if x4 < w 10 then (if w ((1916 + (5 * x4)) + 0) = x1 then (if w ((1916 + (5 * x4)) + 3) = x2 then r5 (x3 + 1) (x4 + 1) w else r5 (x3 + 0) (x4 + 1) w) else r5 (x3 + 0) (x4 + 1) w) else x3
theorem m_st_245_5 {x1 x2 x3 x4 : Int} {r5 : Int → Int → mD → Int} {R5 : Int → Int → Row → Int} (hr5 : ∀ (z0 z1 : Int) (d : mD), r5 z0 z1 d = (R5 z0 z1 (d 770))) (d : mD) : st_245_5 769 x1 x2 r5 x3 x4 d = (ST_245_5 x1 x2 R5 x3 x4 (d 770)) := by
  simp only [st_245_5, ST_245_5, hr5, mset_row, rset_self, rset_at, rset_rset, rset_ite, pr_ite, pr_mk, pr_rset, pr_1, pr_2, Int.reduceAdd]
def LP_245_5 (x1 x2 : Int) : Nat → Int → Int → Row → Int
  | 0 => ST_245_5 x1 x2 (fun _ _ w => 0)
  | n + 1 => ST_245_5 x1 x2 (LP_245_5 x1 x2 n)
theorem m_lp_245_5 {x1 x2 : Int}   : ∀ (n : Nat) (y0 y1 : Int) (d : mD), lp_245_5 769 x1 x2 n y0 y1 d = (LP_245_5 x1 x2 n y0 y1 (d 770)) := by
  intro n
  induction n with
  | zero => intro y0 y1 d; exact m_st_245_5 (r5 := (fun _ _ d => 0)) (R5 := (fun _ _ w => 0)) (fun _ _ _ => rfl) d
  | succ n ih => intro y0 y1 d; exact m_st_245_5 ih d
def V_245 (x1 x2 : Int) (w : Row) : Int := LP_245_5 x1 x2 (200 - 0 : Int).toNat 0 0 w
theorem m_v_245 {x1 x2 : Int} (d : mD) : v_245 769 x1 x2 d = (V_245 x1 x2 (d 770)) := by
  simp only [v_245, V_245, m_lp_245_5, mset_row, rset_self, rset_at, rset_rset, rset_ite, pr_ite, pr_mk, pr_rset, pr_1, pr_2, Int.reduceAdd]
def V_270 (x1 x2 : Int) (w : Row) : Int := if x1 = x2 then 0 else if w ((12 + (68 * x1)) + 4) = 0 then 0 else if w ((12 + (68 * x2)) + 4) = 0 then 0 else 1
theorem m_v_270 {x1 x2 : Int} (d : mD) : v_270 769 x1 x2 d = (V_270 x1 x2 (d 770)) := by
  simp only [v_270, V_270, mset_row, rset_self, rset_at, rset_rset, rset_ite, pr_ite, pr_mk, pr_rset, pr_1, pr_2, Int.reduceAdd]
def ST_271_4 (r4 : Int → Int → Row → Int) (x1 x2 : Int) (w : Row) : Int := if x2 < w 7 then r4 (x1 + (w ((12 + (68 * x2)) + 5))) (x2 + 1) w else x1
theorem m_st_271_4 {x1 x2 : Int} {r4 : Int → Int → mD → Int} {R4 : Int → Int → Row → Int} (hr4 : ∀ (z0 z1 : Int) (d : mD), r4 z0 z1 d = (R4 z0 z1 (d 770))) (d : mD) : st_271_4 769 r4 x1 x2 d = (ST_271_4 R4 x1 x2 (d 770)) := by
  simp only [st_271_4, ST_271_4, hr4, mset_row, rset_self, rset_at, rset_rset, rset_ite, pr_ite, pr_mk, pr_rset, pr_1, pr_2, Int.reduceAdd]
def LP_271_4 : Nat → Int → Int → Row → Int
  | 0 => ST_271_4 (fun _ _ w => 0)
  | n + 1 => ST_271_4 (LP_271_4 n)
theorem m_lp_271_4   : ∀ (n : Nat) (y0 y1 : Int) (d : mD), lp_271_4 769 n y0 y1 d = (LP_271_4 n y0 y1 (d 770)) := by
  intro n
  induction n with
  | zero => intro y0 y1 d; exact m_st_271_4 (r4 := (fun _ _ d => 0)) (R4 := (fun _ _ w => 0)) (fun _ _ _ => rfl) d
  | succ n ih => intro y0 y1 d; exact m_st_271_4 ih d
def V_271 (w : Row) : Int := LP_271_4 (6 - 0 : Int).toNat 0 0 w
theorem m_v_271 (d : mD) : v_271 769 d = (V_271 (d 770)) := by
  simp only [v_271, V_271, m_lp_271_4, mset_row, rset_self, rset_at, rset_rset, rset_ite, pr_ite, pr_mk, pr_rset, pr_1, pr_2, Int.reduceAdd]
def ST_281_4 (r4 : Int → Int → Row → Int) (x1 x2 : Int) (w : Row) : Int := if x2 < w 9 then (if w ((452 + (24 * x2)) + 4) = 1 then r4 (x1 + 1) (x2 + 1) w else r4 (x1 + 0) (x2 + 1) w) else x1
theorem m_st_281_4 {x1 x2 : Int} {r4 : Int → Int → mD → Int} {R4 : Int → Int → Row → Int} (hr4 : ∀ (z0 z1 : Int) (d : mD), r4 z0 z1 d = (R4 z0 z1 (d 770))) (d : mD) : st_281_4 769 r4 x1 x2 d = (ST_281_4 R4 x1 x2 (d 770)) := by
  simp only [st_281_4, ST_281_4, hr4, mset_row, rset_self, rset_at, rset_rset, rset_ite, pr_ite, pr_mk, pr_rset, pr_1, pr_2, Int.reduceAdd]
def LP_281_4 : Nat → Int → Int → Row → Int
  | 0 => ST_281_4 (fun _ _ w => 0)
  | n + 1 => ST_281_4 (LP_281_4 n)
theorem m_lp_281_4   : ∀ (n : Nat) (y0 y1 : Int) (d : mD), lp_281_4 769 n y0 y1 d = (LP_281_4 n y0 y1 (d 770)) := by
  intro n
  induction n with
  | zero => intro y0 y1 d; exact m_st_281_4 (r4 := (fun _ _ d => 0)) (R4 := (fun _ _ w => 0)) (fun _ _ _ => rfl) d
  | succ n ih => intro y0 y1 d; exact m_st_281_4 ih d
def V_281 (w : Row) : Int := LP_281_4 (61 - 0 : Int).toNat 0 0 w
theorem m_v_281 (d : mD) : v_281 769 d = (V_281 (d 770)) := by
  simp only [v_281, V_281, m_lp_281_4, mset_row, rset_self, rset_at, rset_rset, rset_ite, pr_ite, pr_mk, pr_rset, pr_1, pr_2, Int.reduceAdd]
def ST_263_2 (x1 : Int) (r2 : Int → Row → Int × Row) (x2 : Int) (w : Row) : Int × Row := if (200 : Int) < x2 then (x2, w) else if w ((452 + (24 * x1)) + 4) = 1 then (x2, w) else r2 (x2 + 1) (W_223 w)
theorem m_st_263_2 {x1 x2 : Int} {r2 : Int → mD → Int × mD} {R2 : Int → Row → Int × Row} (hr2 : ∀ (z0 : Int) (d : mD), r2 z0 d = (pr d (R2 z0 (d 770)))) (d : mD) : st_263_2 769 x1 r2 x2 d = (pr d (ST_263_2 x1 R2 x2 (d 770))) := by
  simp only [st_263_2, ST_263_2, m_g_223, hr2, mset_row, rset_self, rset_at, rset_rset, rset_ite, pr_ite, pr_mk, pr_rset, pr_1, pr_2, Int.reduceAdd]
def LP_263_2 (x1 : Int) : Nat → Int → Row → Int × Row
  | 0 => ST_263_2 x1 (fun _ w => (0, w))
  | n + 1 => ST_263_2 x1 (LP_263_2 x1 n)
theorem m_lp_263_2 {x1 : Int}   : ∀ (n : Nat) (y0 : Int) (d : mD), lp_263_2 769 x1 n y0 d = (pr d (LP_263_2 x1 n y0 (d 770))) := by
  intro n
  induction n with
  | zero => intro y0 d; exact m_st_263_2 (r2 := (fun _ d => (0, d))) (R2 := (fun _ w => (0, w))) (fun _ d => by rw [pr_mk, rset_self]) d
  | succ n ih => intro y0 d; exact m_st_263_2 ih d
def F_263 (x1 : Int) (w : Row) : Int × Row := LP_263_2 x1 (201 - 0 : Int).toNat 0 w
theorem m_f_263 {x1 : Int} (d : mD) : f_263 769 x1 d = (pr d (F_263 x1 (d 770))) := by
  simp only [f_263, F_263, m_lp_263_2, mset_row, rset_self, rset_at, rset_rset, rset_ite, pr_ite, pr_mk, pr_rset, pr_1, pr_2, Int.reduceAdd]
def V_263 (x1 : Int) (w : Row) : Int := (F_263 x1 w).1
theorem m_v_263 {x1 : Int} (d : mD) : v_263 769 x1 d = (V_263 x1 (d 770)) := by
  simp only [v_263, V_263, m_f_263, mset_row, rset_self, rset_at, rset_rset, rset_ite, pr_ite, pr_mk, pr_rset, pr_1, pr_2, Int.reduceAdd]
def W_263 (x1 : Int) (w : Row) : Row := (F_263 x1 w).2
theorem m_g_263 {x1 : Int} (d : mD) : g_263 769 x1 d = (rset d (W_263 x1 (d 770))) := by
  simp only [g_263, W_263, m_f_263, mset_row, rset_self, rset_at, rset_rset, rset_ite, pr_ite, pr_mk, pr_rset, pr_1, pr_2, Int.reduceAdd]
def ST_282_59 (x1 : Int) (r59 : Int → Int → Row → Int × Row) (x2 x3 : Int) (w : Row) : Int × Row := if x3 < x1 then r59 x2 (x3 + 1) (W_223 w) else ((V_281 w) - x2, w)
theorem m_st_282_59 {x1 x2 x3 : Int} {r59 : Int → Int → mD → Int × mD} {R59 : Int → Int → Row → Int × Row} (hr59 : ∀ (z0 z1 : Int) (d : mD), r59 z0 z1 d = (pr d (R59 z0 z1 (d 770)))) (d : mD) : st_282_59 769 x1 r59 x2 x3 d = (pr d (ST_282_59 x1 R59 x2 x3 (d 770))) := by
  simp only [st_282_59, ST_282_59, m_g_223, m_v_281, hr59, mset_row, rset_self, rset_at, rset_rset, rset_ite, pr_ite, pr_mk, pr_rset, pr_1, pr_2, Int.reduceAdd]
def LP_282_59 (x1 : Int) : Nat → Int → Int → Row → Int × Row
  | 0 => ST_282_59 x1 (fun _ _ w => (0, w))
  | n + 1 => ST_282_59 x1 (LP_282_59 x1 n)
theorem m_lp_282_59 {x1 : Int}   : ∀ (n : Nat) (y0 y1 : Int) (d : mD), lp_282_59 769 x1 n y0 y1 d = (pr d (LP_282_59 x1 n y0 y1 (d 770))) := by
  intro n
  induction n with
  | zero => intro y0 y1 d; exact m_st_282_59 (r59 := (fun _ _ d => (0, d))) (R59 := (fun _ _ w => (0, w))) (fun _ _ d => by rw [pr_mk, rset_self]) d
  | succ n ih => intro y0 y1 d; exact m_st_282_59 ih d
def ST_285_79 (x1 x2 x3 : Int) (r79 : Int → Int → Row → Int × Row) (x4 x5 : Int) (w : Row) : Int × Row := if x5 < w 10 then (if (0 : Int) < x4 then (if w ((1916 + (5 * x5)) + 0) = x1 then (if w ((1916 + (5 * x5)) + 3) = 0 then r79 (x4 + (-1)) (x5 + 1) (ws w ((1916 + (5 * x5)) + 0) x2) else r79 x4 (x5 + 1) w) else r79 x4 (x5 + 1) w) else (V_245 x2 0 w, w)) else (V_245 x2 0 w, w)
theorem m_st_285_79 {x1 x2 x3 x4 x5 : Int} {r79 : Int → Int → mD → Int × mD} {R79 : Int → Int → Row → Int × Row} (hr79 : ∀ (z0 z1 : Int) (d : mD), r79 z0 z1 d = (pr d (R79 z0 z1 (d 770)))) (d : mD) : st_285_79 769 x1 x2 x3 r79 x4 x5 d = (pr d (ST_285_79 x1 x2 x3 R79 x4 x5 (d 770))) := by
  simp only [st_285_79, ST_285_79, m_v_245, hr79, mset_row, rset_self, rset_at, rset_rset, rset_ite, pr_ite, pr_mk, pr_rset, pr_1, pr_2, Int.reduceAdd]
def LP_285_79 (x1 x2 x3 : Int) : Nat → Int → Int → Row → Int × Row
  | 0 => ST_285_79 x1 x2 x3 (fun _ _ w => (0, w))
  | n + 1 => ST_285_79 x1 x2 x3 (LP_285_79 x1 x2 x3 n)
theorem m_lp_285_79 {x1 x2 x3 : Int}   : ∀ (n : Nat) (y0 y1 : Int) (d : mD), lp_285_79 769 x1 x2 x3 n y0 y1 d = (pr d (LP_285_79 x1 x2 x3 n y0 y1 (d 770))) := by
  intro n
  induction n with
  | zero => intro y0 y1 d; exact m_st_285_79 (r79 := (fun _ _ d => (0, d))) (R79 := (fun _ _ w => (0, w))) (fun _ _ d => by rw [pr_mk, rset_self]) d
  | succ n ih => intro y0 y1 d; exact m_st_285_79 ih d
def ST_289_64 (x1 : Int) (r64 : Int → Int → Row → Int × Row) (x2 x3 : Int) (w : Row) : Int × Row := if x3 < w 7 then r64 (x2 + (w ((12 + (68 * x3)) + 4))) (x3 + 1) w else (x2, w)
theorem m_st_289_64 {x1 x2 x3 : Int} {r64 : Int → Int → mD → Int × mD} {R64 : Int → Int → Row → Int × Row} (hr64 : ∀ (z0 z1 : Int) (d : mD), r64 z0 z1 d = (pr d (R64 z0 z1 (d 770)))) (d : mD) : st_289_64 769 x1 r64 x2 x3 d = (pr d (ST_289_64 x1 R64 x2 x3 (d 770))) := by
  simp only [st_289_64, ST_289_64, hr64, mset_row, rset_self, rset_at, rset_rset, rset_ite, pr_ite, pr_mk, pr_rset, pr_1, pr_2, Int.reduceAdd]
def LP_289_64 (x1 : Int) : Nat → Int → Int → Row → Int × Row
  | 0 => ST_289_64 x1 (fun _ _ w => (0, w))
  | n + 1 => ST_289_64 x1 (LP_289_64 x1 n)
theorem m_lp_289_64 {x1 : Int}   : ∀ (n : Nat) (y0 y1 : Int) (d : mD), lp_289_64 769 x1 n y0 y1 d = (pr d (LP_289_64 x1 n y0 y1 (d 770))) := by
  intro n
  induction n with
  | zero => intro y0 y1 d; exact m_st_289_64 (r64 := (fun _ _ d => (0, d))) (R64 := (fun _ _ w => (0, w))) (fun _ _ d => by rw [pr_mk, rset_self]) d
  | succ n ih => intro y0 y1 d; exact m_st_289_64 ih d
def V_291 (x0 : Int) (w : Row) : Int := if x0 < 2 then 0 else 1
theorem m_v_291 {x0 : Int} (d : mD) : v_291 x0 d = (V_291 x0 (d 770)) := by
  simp only [v_291, V_291, mset_row, rset_self, rset_at, rset_rset, rset_ite, pr_ite, pr_mk, pr_rset, pr_1, pr_2, Int.reduceAdd]
def V_292 (x0 : Int) (w : Row) : Int := if x0 = 1 then 3 else if x0 = 3 then 20 else if x0 = 4 then 99 else 9
theorem m_v_292 {x0 : Int} (d : mD) : v_292 x0 d = (V_292 x0 (d 770)) := by
  simp only [v_292, V_292, mset_row, rset_self, rset_at, rset_rset, rset_ite, pr_ite, pr_mk, pr_rset, pr_1, pr_2, Int.reduceAdd]
def ST_286_65 (x1 x2 : Int) (r65 : Int → Int → Row → Int × Row) (x3 x4 : Int) (w : Row) : Int × Row := if x4 < w 10 then (if (0 : Int) < x3 then (if w ((1916 + (5 * x4)) + 0) = x1 then (if w ((1916 + (5 * x4)) + 3) = 0 then r65 (x3 + (-1)) (x4 + 1) (ws (ws (ws w ((1916 + (5 * x4)) + 3) 1) (2916 + (w 11)) x4) 11 ((w 11) + 1)) else r65 x3 (x4 + 1) w) else r65 x3 (x4 + 1) w) else (V_219 w, W_219 w)) else (V_219 w, W_219 w)
theorem m_st_286_65 {x1 x2 x3 x4 : Int} {r65 : Int → Int → mD → Int × mD} {R65 : Int → Int → Row → Int × Row} (hr65 : ∀ (z0 z1 : Int) (d : mD), r65 z0 z1 d = (pr d (R65 z0 z1 (d 770)))) (d : mD) : st_286_65 769 x1 x2 r65 x3 x4 d = (pr d (ST_286_65 x1 x2 R65 x3 x4 (d 770))) := by
  simp only [st_286_65, ST_286_65, m_g_219, m_v_219, hr65, mset_row, rset_self, rset_at, rset_rset, rset_ite, pr_ite, pr_mk, pr_rset, pr_1, pr_2, Int.reduceAdd]
def LP_286_65 (x1 x2 : Int) : Nat → Int → Int → Row → Int × Row
  | 0 => ST_286_65 x1 x2 (fun _ _ w => (0, w))
  | n + 1 => ST_286_65 x1 x2 (LP_286_65 x1 x2 n)
theorem m_lp_286_65 {x1 x2 : Int}   : ∀ (n : Nat) (y0 y1 : Int) (d : mD), lp_286_65 769 x1 x2 n y0 y1 d = (pr d (LP_286_65 x1 x2 n y0 y1 (d 770))) := by
  intro n
  induction n with
  | zero => intro y0 y1 d; exact m_st_286_65 (r65 := (fun _ _ d => (0, d))) (R65 := (fun _ _ w => (0, w))) (fun _ _ d => by rw [pr_mk, rset_self]) d
  | succ n ih => intro y0 y1 d; exact m_st_286_65 ih d
/-! ===== bits of words ===== -/
def lb (W : Int) (k : Nat) : Bool := (Int64.ofInt W).toBitVec.getLsbD k
def ib (W : Int) (k : Nat) : Bool := (Int32.ofInt W).toBitVec.getLsbD k
theorem lb_zero (k : Nat) : lb 0 k = false := by
  unfold lb
  show (0#64).getLsbD k = false
  simp
theorem ib_zero (k : Nat) : ib 0 k = false := by
  unfold ib
  show (0#32).getLsbD k = false
  simp
theorem sh63 (k : Nat) (h : k < 64) : ((Int32.ofInt (k : Int)).toInt64 &&& 63).toBitVec.toNat = k := by
  have : ∀ k : Fin 64, ((Int32.ofInt ((k.val : Nat) : Int)).toInt64 &&& 63).toBitVec.toNat = k.val := by decide +kernel
  exact this ⟨k, h⟩
theorem sh63u (k : Nat) (h : k < 64) : ((Int32.ofInt (k : Int)).toInt64.toUInt64 &&& 63).toNat = k := by
  have : ∀ k : Fin 64, ((Int32.ofInt ((k.val : Nat) : Int)).toInt64.toUInt64 &&& 63).toNat = k.val := by decide +kernel
  exact this ⟨k, h⟩
theorem sh31 (k : Nat) (h : k < 32) : (Int32.ofInt (k : Int) &&& 31).toBitVec.toNat = k := by
  have : ∀ k : Fin 32, (Int32.ofInt ((k.val : Nat) : Int) &&& 31).toBitVec.toNat = k.val := by decide +kernel
  exact this ⟨k, h⟩
theorem i64_eq {a b : Int64} (h : a.toBitVec = b.toBitVec) : a = b := Int64.toBitVec_inj.mp h
theorem i32_eq {a b : Int32} (h : a.toBitVec = b.toBitVec) : a = b := Int32.toBitVec_inj.mp h
theorem bv_and1 {n : Nat} (hn : 0 < n) (x : BitVec n) : x &&& 1#n = if x.getLsbD 0 then 1#n else 0#n := by
  apply BitVec.eq_of_getLsbD_eq
  intro i hi
  rw [BitVec.getLsbD_and, BitVec.getLsbD_one]
  rcases Bool.eq_false_or_eq_true (x.getLsbD 0) with hx | hx
  · rw [hx]
    by_cases h0 : i = 0
    · subst h0
      rw [hx]
      simp [hn]
    · simp [h0]
  · rw [hx]
    by_cases h0 : i = 0
    · subst h0
      rw [hx]
      simp
    · simp [h0]
theorem lbget (W : Int) (k : Nat) (h : k < 64) : mland (mlushr W (k : Int)) 1 = if lb W k = true then 1 else 0 := by
  unfold mland mJ mlushr lb
  rw [m_backL]
  have e : ((Int64.ofInt W).toUInt64 >>> ((Int32.ofInt (k : Int)).toInt64.toUInt64 &&& 63)).toInt64 &&& Int64.ofInt 1 = if (Int64.ofInt W).toBitVec.getLsbD k = true then 1 else 0 := by
    apply i64_eq
    have e1 : ((Int64.ofInt W).toUInt64 >>> ((Int32.ofInt (k : Int)).toInt64.toUInt64 &&& 63)).toInt64.toBitVec = (Int64.ofInt W).toBitVec >>> k := by
      show ((Int64.ofInt W).toUInt64 >>> ((Int32.ofInt (k : Int)).toInt64.toUInt64 &&& 63)).toBitVec = _
      rw [UInt64.toBitVec_shiftRight]
      show (Int64.ofInt W).toBitVec >>> _ = _
      have e3 : (((Int32.ofInt (k : Int)).toInt64.toUInt64 &&& 63).toBitVec % 64).toNat = k := by
        rw [BitVec.toNat_umod]
        show ((Int32.ofInt (k : Int)).toInt64.toUInt64 &&& 63).toNat % 64 = k
        rw [sh63u k h]
        omega
      show (Int64.ofInt W).toBitVec >>> ((((Int32.ofInt (k : Int)).toInt64.toUInt64 &&& 63).toBitVec % 64).toNat) = _
      rw [e3]
    rw [Int64.toBitVec_and, e1]
    show (Int64.ofInt W).toBitVec >>> k &&& 1#64 = _
    rw [bv_and1 (by decide), BitVec.getLsbD_ushiftRight]
    simp only [Nat.add_zero]
    split <;> rfl
  show ((((Int64.ofInt W).toUInt64 >>> ((Int32.ofInt (k : Int)).toInt64.toUInt64 &&& 63)).toInt64) &&& Int64.ofInt 1).toInt = _
  rw [e]
  split <;> rfl
theorem lset (W : Int) (k j : Nat) (h : k < 64) (hj : j < 64) : lb (mlor W (mlshl 1 (k : Int))) j = if j = k then true else lb W j := by
  unfold mlor mJ mlshl lb
  rw [m_backL, m_backL, Int64.toBitVec_or]
  have e1 : (Int64.ofInt 1 <<< ((Int32.ofInt (k : Int)).toInt64 &&& 63)).toBitVec = 1#64 <<< k := by
    rw [Int64.toBitVec_shiftLeft]
    show 1#64 <<< _ = _
    have e3 : (((Int32.ofInt (k : Int)).toInt64 &&& 63).toBitVec.smod 64).toNat = k := by
      have : ∀ k : Fin 64, (((Int32.ofInt ((k.val : Nat) : Int)).toInt64 &&& 63).toBitVec.smod 64).toNat = k.val := by decide +kernel
      exact this ⟨k, h⟩
    show 1#64 <<< ((((Int32.ofInt (k : Int)).toInt64 &&& 63).toBitVec.smod 64).toNat) = _
    rw [e3]
  rw [BitVec.getLsbD_or, e1, BitVec.getLsbD_shiftLeft, BitVec.getLsbD_one]
  by_cases hjk : j = k
  · subst hjk
    simp [hj]
  · rw [if_neg hjk]
    by_cases hlt : j < k
    · simp [hlt]
    · have : ¬ j - k = 0 := by omega
      simp [this]
theorem iget (W : Int) (k : Nat) (h : k < 32) : miand (mishr W (k : Int)) 1 = if (Int32.ofInt W >>> (Int32.ofInt (k : Int) &&& 31)).toBitVec.getLsbD 0 = true then 1 else 0 := by
  unfold miand mI mishr mI
  rw [m_back]
  have e : (Int32.ofInt W >>> (Int32.ofInt (k : Int) &&& 31)) &&& Int32.ofInt 1 = if (Int32.ofInt W >>> (Int32.ofInt (k : Int) &&& 31)).toBitVec.getLsbD 0 = true then 1 else 0 := by
    apply i32_eq
    rw [Int32.toBitVec_and]
    show (Int32.ofInt W >>> (Int32.ofInt (k : Int) &&& 31)).toBitVec &&& 1#32 = _
    rw [bv_and1 (by decide)]
    split <;> rfl
  show ((Int32.ofInt W >>> (Int32.ofInt (k : Int) &&& 31)) &&& Int32.ofInt 1).toInt = _
  rw [e]
  split <;> rfl
theorem igetb (W : Int) (k : Nat) (h : k < 31) : (Int32.ofInt W >>> (Int32.ofInt (k : Int) &&& 31)).toBitVec.getLsbD 0 = ib W k := by
  unfold ib
  have e1 : (Int32.ofInt W >>> (Int32.ofInt (k : Int) &&& 31)).toBitVec = (Int32.ofInt W).toBitVec.sshiftRight k := by
    rw [Int32.toBitVec_shiftRight]
    have e3 : ((Int32.ofInt (k : Int) &&& 31).toBitVec.smod 32).toNat = k := by
      have : ∀ k : Fin 31, ((Int32.ofInt ((k.val : Nat) : Int) &&& 31).toBitVec.smod 32).toNat = k.val := by decide +kernel
      exact this ⟨k, h⟩
    show (Int32.ofInt W).toBitVec.sshiftRight (((Int32.ofInt (k : Int) &&& 31).toBitVec.smod 32).toNat) = _
    rw [e3]
  rw [e1, BitVec.getLsbD_sshiftRight]
  have : k + 0 < 32 := by omega
  simp [this]
  omega
theorem iset (W : Int) (k j : Nat) (h : k < 31) (hj : j < 32) : ib (mior W (mishl 1 (k : Int))) j = if j = k then true else ib W j := by
  unfold mior mI mishl mI ib
  rw [m_back, m_back, Int32.toBitVec_or]
  have e1 : (Int32.ofInt 1 <<< (Int32.ofInt (k : Int) &&& 31)).toBitVec = 1#32 <<< k := by
    rw [Int32.toBitVec_shiftLeft]
    have e3 : ((Int32.ofInt (k : Int) &&& 31).toBitVec.smod 32).toNat = k := by
      have : ∀ k : Fin 31, ((Int32.ofInt ((k.val : Nat) : Int) &&& 31).toBitVec.smod 32).toNat = k.val := by decide +kernel
      exact this ⟨k, h⟩
    show 1#32 <<< (((Int32.ofInt (k : Int) &&& 31).toBitVec.smod 32).toNat) = _
    rw [e3]
  rw [BitVec.getLsbD_or, e1, BitVec.getLsbD_shiftLeft, BitVec.getLsbD_one]
  by_cases hjk : j = k
  · subst hjk
    simp [hj]
  · rw [if_neg hjk]
    by_cases hlt : j < k
    · simp [hlt]
    · have : ¬ j - k = 0 := by omega
      simp [this]
theorem h63 {h : Int} (h0 : 0 ≤ h) (h1 : h ≤ 1023) : miand h 63 = h % 64 := by
  have t : ∀ k : Fin 1024, miand ((k.val : Nat) : Int) 63 = ((k.val : Nat) : Int) % 64 := by decide +kernel
  have := t ⟨h.toNat, by omega⟩
  rw [show (((⟨h.toNat, by omega⟩ : Fin 1024).val : Nat) : Int) = h by show ((h.toNat : Nat) : Int) = h; omega] at this
  exact this
-- has and add of a set of hours
theorem has_iff {d : mD} {x h : Int} (h0 : 0 ≤ h) (h1 : h ≤ 999) : v_6 x h d = if lb (d (x + 1) (h / 64)) (h % 64).toNat = true then 1 else 0 := by
  unfold v_6
  rw [if_neg (by omega), if_neg (by omega)]
  have e6 : mishr h 6 = h / 64 := by rcases mishr6_r h with a | a | a <;> omega
  rw [e6, h63 h0 (by omega), show h % 64 = (((h % 64).toNat : Nat) : Int) by omega, lbget _ _ (by omega)]
  simp only [Int.toNat_natCast]
  unfold mcmp
  split <;> simp
theorem has_out {d : mD} {x h : Int} (h0 : h < 0 ∨ 999 < h) : v_6 x h d = 0 := by
  unfold v_6
  rcases h0 with h0 | h0
  · rw [if_pos h0]
  · rw [if_neg (by omega), if_pos h0]
theorem has_01 (d : mD) (x h : Int) : v_6 x h d = 0 ∨ v_6 x h d = 1 := by
  unfold v_6
  repeat' split
  all_goals first
    | exact Or.inl rfl
    | exact Or.inr rfl
theorem add_has {d : mD} {x h j : Int} (h0 : 0 ≤ h) (h1 : h ≤ 999) (j0 : 0 ≤ j) (j1 : j ≤ 999) : v_6 x j (g_7 x h d) = if j = h then 1 else v_6 x j d := by
  have e6 : mishr h 6 = h / 64 := by rcases mishr6_r h with a | a | a <;> omega
  have eg : g_7 x h d = mset d (x + 1) (h / 64) (mlor (d (x + 1) (h / 64)) (mlshl 1 (((h % 64).toNat : Nat) : Int))) := by
    unfold g_7
    rw [if_neg (by omega), if_neg (by omega), e6, h63 h0 (by omega), show (((h % 64).toNat : Nat) : Int) = h % 64 by omega]
  rw [has_iff j0 j1, has_iff j0 j1, eg]
  by_cases hw : j / 64 = h / 64
  · have e : mset d (x + 1) (h / 64) (mlor (d (x + 1) (h / 64)) (mlshl 1 (((h % 64).toNat : Nat) : Int))) (x + 1) (j / 64) = mlor (d (x + 1) (h / 64)) (mlshl 1 (((h % 64).toNat : Nat) : Int)) := by
      simp [mset, hw]
    rw [e, lset _ _ _ (by omega) (by omega)]
    by_cases hj : j = h
    · subst hj
      simp
    · rw [if_neg (show ¬ (j % 64).toNat = (h % 64).toNat by omega), if_neg hj, hw]
  · have e : mset d (x + 1) (h / 64) (mlor (d (x + 1) (h / 64)) (mlshl 1 (((h % 64).toNat : Nat) : Int))) (x + 1) (j / 64) = d (x + 1) (j / 64) := by
      simp [mset, hw]
    rw [e, if_neg (show ¬ j = h by intro e; subst e; exact hw rfl)]
/-! ===== what a state of the class has to do with a row of the reference ===== -/
-- a name: five bits a letter in the class, base 27 in the reference
def nm (c : Int) : Int := c % 32 + 27 * (c / 32 % 32 + 27 * (c / 1024 % 32 + 27 * (c / 32768 % 32 + 27 * (c / 1048576 % 32 + 27 * (c / 33554432 % 32)))))
def okN (c : Int) : Prop := 0 < c ∧ c < 1073741824 ∧ (1 ≤ c % 32 ∧ c % 32 ≤ 26) ∧ c / 32 % 32 ≤ 26 ∧ c / 1024 % 32 ≤ 26 ∧ c / 32768 % 32 ≤ 26 ∧ c / 1048576 % 32 ≤ 26 ∧ c / 33554432 % 32 ≤ 26
  ∧ (c / 32 % 32 = 0 → c / 1024 % 32 = 0) ∧ (c / 1024 % 32 = 0 → c / 32768 % 32 = 0) ∧ (c / 32768 % 32 = 0 → c / 1048576 % 32 = 0) ∧ (c / 1048576 % 32 = 0 → c / 33554432 % 32 = 0)
theorem nm_inj {a b : Int} (ha : okN a) (hb : okN b) (h : nm a = nm b) : a = b := by
  unfold okN at ha hb
  unfold nm at h
  omega
theorem nm_pos {a : Int} (ha : okN a) : 0 < nm a := by
  unfold okN at ha
  unfold nm
  omega
def perO (w : Row) (k : Int) : Int := w (452 + 24 * w (1916 + 5 * k + 1) + 0)
def madeR (w : Row) (p : Int) : Int := csum (fun k => if perO w k = p ∧ w (1916 + 5 * k + 4) / 20 = w 0 / 20 then 1 else 0) (w 10).toNat
def attd (w : Row) (t p : Int) : Prop := 0 < w (452 + 24 * t + 8 + p) ∧ (w (452 + 24 * t + 8 + p) - 1) / 20 = w 0 / 20
def attR (w : Row) (p : Int) : Int := csum (fun t => if 0 < w (452 + 24 * t + 8 + p) ∧ (w (452 + 24 * t + 8 + p) - 1) / 20 = w 0 / 20 then 1 else 0) (w 9).toNat
def RelA (s : Int) (d : mD) (w : Row) : Prop := d s 1 = w 1 ∧ d s 2 = w 0 ∧ ∀ k, 0 ≤ k → k < 5 → d (s + 1) k = w (2 + k)
def RelO (s : Int) (d : mD) (w : Row) : Prop := d (s + 2) 0 = w 7 ∧ ∀ o, 0 ≤ o → o < w 7 → (okN (d (s + 3) o) ∧ nm (d (s + 3) o) = w (12 + 68 * o + 0)) ∧ d (s + 4) o = w (12 + 68 * o + 1) ∧ d (s + 5) o = w (12 + 68 * o + 2) ∧ d (s + 6) o = w (12 + 68 * o + 3) ∧ d (s + 7) o = w (12 + 68 * o + 4) ∧ d (s + 8) o = w (12 + 68 * o + 5)
def RelQ (s : Int) (d : mD) (w : Row) : Prop := ∀ o, 0 ≤ o → o < w 7 → ∀ k, 0 ≤ k → k < w (12 + 68 * o + 5) → d (s + 9) (o * 16 + k) = w (12 + 68 * o + 7 + k)
def RelP (s : Int) (d : mD) (w : Row) : Prop := d (s + 10) 0 = w 8 ∧ ∀ p, 0 ≤ p → p < w 8 → (okN (d (s + 11) p) ∧ nm (d (s + 11) p) = w (420 + 2 * p + 0)) ∧ d (s + 12) p = w (420 + 2 * p + 1)
def RelT (s : Int) (d : mD) (w : Row) : Prop := d (s + 49) 0 = w 9 ∧ ∀ t, 0 ≤ t → t < w 9 → d (s + 50) t = w (452 + 24 * t + 0) ∧ d (s + 51) t = w (452 + 24 * t + 1) ∧ d (s + 52) t = w (452 + 24 * t + 2) ∧ d (s + 53) t = w (452 + 24 * t + 3) ∧ d (s + 54) t = w (452 + 24 * t + 4)
def RelC (s : Int) (d : mD) (w : Row) : Prop := ∀ t, 0 ≤ t → t < w 9 → d (s + 55) t = w (452 + 24 * t + 5) + w (452 + 24 * t + 6) ∧ w (452 + 24 * t + 7) = csum (fun p => if w (452 + 24 * t + 8 + p) = 0 then 0 else 1) 16 ∧ (∀ p, 0 ≤ p → p < 16 → (ib (d (s + 56) t) p.toNat = true ↔ ¬ w (452 + 24 * t + 8 + p) = 0)) ∧ 0 ≤ d (s + 56) t ∧ d (s + 56) t < 65536
def RelK (s : Int) (d : mD) (w : Row) : Prop := d (s + 57) 0 = w 10 ∧ ∀ k, 0 ≤ k → k < w 10 → d (s + 58) k = w (1916 + 5 * k + 0) ∧ d (s + 59) k = w (1916 + 5 * k + 1) ∧ d (s + 60) k = w (1916 + 5 * k + 2) ∧ d (s + 61) k = w (1916 + 5 * k + 3)
def RelR (s : Int) (d : mD) (w : Row) : Prop := d (s + 57) 5 = w 11 ∧ ∀ k, 0 ≤ k → k < w 11 → d (s + 62) k = w (2916 + k)
def RelB (s : Int) (d : mD) (w : Row) : Prop := ∀ p, 0 ≤ p → p < w 8 → d (s + 13) p = madeR w p ∧ d (s + 14) p = attR w p ∧ ∀ q, 0 ≤ q → q < 16 → (ib (d (s + 15) p) q.toNat = true ↔ ∃ t, 0 ≤ t ∧ t < w 9 ∧ w (452 + 24 * t + 0) = q ∧ attd w t p)
def RelH (s : Int) (d : mD) (w : Row) : Prop := ∀ p, 0 ≤ p → p < w 8 → ∀ h, 0 ≤ h → h ≤ 999 → (lb (d (s + 18 + 2 * p) (h / 64)) (h % 64).toNat = true ↔ ∃ k, 0 ≤ k ∧ k < w 10 ∧ w (1916 + 5 * k + 2) = h ∧ perO w k = p)
-- the row alone: the numbers
def GN (w : Row) : Prop := (0 ≤ w 7 ∧ w 7 ≤ 6) ∧ (0 ≤ w 8 ∧ w 8 ≤ 16) ∧ (0 ≤ w 9 ∧ w 9 ≤ 60) ∧ (0 ≤ w 10 ∧ w 10 ≤ 200) ∧ (0 ≤ w 11 ∧ w 11 ≤ 200) ∧ (0 ≤ w 0 ∧ w 0 ≤ 1199) ∧ (0 ≤ w 1 ∧ w 1 ≤ 99999) ∧ (0 ≤ w 2 ∧ w 2 ≤ 9) ∧ (0 ≤ w 3 ∧ w 3 ≤ 3) ∧ (1 ≤ w 4 ∧ w 4 ≤ 9) ∧ (1 ≤ w 5 ∧ w 5 ≤ 20) ∧ 1 ≤ w 6 ∧ w 6 ≤ 99
-- offices
def GO (w : Row) : Prop := ∀ o, 0 ≤ o → o < w 7 → (1 ≤ w (12 + 68 * o + 1) ∧ w (12 + 68 * o + 1) ≤ 4) ∧ (1 ≤ w (12 + 68 * o + 2) ∧ w (12 + 68 * o + 2) ≤ 6) ∧ (1 ≤ w (12 + 68 * o + 3) ∧ w (12 + 68 * o + 3) ≤ 20) ∧ (w (12 + 68 * o + 4) = 0 ∨ w (12 + 68 * o + 4) = 1) ∧ (0 ≤ w (12 + 68 * o + 5) ∧ w (12 + 68 * o + 5) ≤ 16) ∧ (w (12 + 68 * o + 4) = 0 → w (12 + 68 * o + 5) = 0)
  ∧ w (12 + 68 * o + 6) = csum (fun t => if w (452 + 24 * t + 4) = 1 ∧ w (452 + 24 * t + 1) = o then 1 else 0) (w 9).toNat
-- queues
def GQ (w : Row) : Prop := ∀ o, 0 ≤ o → o < w 7 → ∀ k, 0 ≤ k → k < w (12 + 68 * o + 5) → (0 ≤ w (12 + 68 * o + 7 + k) ∧ w (12 + 68 * o + 7 + k) < w 9) ∧ w (452 + 24 * w (12 + 68 * o + 7 + k) + 1) = o ∧ w (452 + 24 * w (12 + 68 * o + 7 + k) + 4) = 0
  ∧ ∀ i, 0 ≤ i → i < k → w (452 + 24 * w (12 + 68 * o + 7 + i) + 2) ≤ w (452 + 24 * w (12 + 68 * o + 7 + k) + 2) ∧ ¬ w (452 + 24 * w (12 + 68 * o + 7 + i) + 0) = w (452 + 24 * w (12 + 68 * o + 7 + k) + 0)
-- tickets
def GT (w : Row) : Prop := ∀ t, 0 ≤ t → t < w 9 → (0 ≤ w (452 + 24 * t + 0) ∧ w (452 + 24 * t + 0) < w 8) ∧ (0 ≤ w (452 + 24 * t + 1) ∧ w (452 + 24 * t + 1) < w 7) ∧ (0 ≤ w (452 + 24 * t + 2) ∧ w (452 + 24 * t + 2) ≤ w 0) ∧ (0 ≤ w (452 + 24 * t + 4) ∧ w (452 + 24 * t + 4) ≤ 2)
  ∧ (w (452 + 24 * t + 4) = 0 → w (452 + 24 * t + 3) = -1 ∧ ∃ k, 0 ≤ k ∧ k < w (12 + 68 * w (452 + 24 * t + 1) + 5) ∧ w (12 + 68 * w (452 + 24 * t + 1) + 7 + k) = t)
  ∧ (¬ w (452 + 24 * t + 4) = 0 → w (452 + 24 * t + 2) ≤ w (452 + 24 * t + 3) ∧ w (452 + 24 * t + 3) ≤ w 0)
-- claims and witnesses
def GC (w : Row) : Prop := ∀ t, 0 ≤ t → t < w 9 → (w (452 + 24 * t + 5) = 0 ∨ w (452 + 24 * t + 5) = 1) ∧ (w (452 + 24 * t + 6) = 0 ∨ w (452 + 24 * t + 6) = 1) ∧ (w (452 + 24 * t + 6) = 1 → w (452 + 24 * t + 5) = 1 ∧ w (452 + 24 * t + 3) ≤ 999) ∧ (w (452 + 24 * t + 5) = 1 → w (452 + 24 * t + 4) = 1) ∧ ∀ p, 0 ≤ p → p < 16 → 0 ≤ w (452 + 24 * t + 8 + p) ∧ w (452 + 24 * t + 8 + p) ≤ w 0 + 1
-- tokens
def GK (w : Row) : Prop := ∀ k, 0 ≤ k → k < w 10 → (0 ≤ w (1916 + 5 * k + 0) ∧ w (1916 + 5 * k + 0) < w 8) ∧ (0 ≤ w (1916 + 5 * k + 1) ∧ w (1916 + 5 * k + 1) < w 9) ∧ (0 ≤ w (1916 + 5 * k + 2) ∧ w (1916 + 5 * k + 2) ≤ 999) ∧ (0 ≤ w (1916 + 5 * k + 3) ∧ w (1916 + 5 * k + 3) ≤ 2) ∧ (0 ≤ w (1916 + 5 * k + 4) ∧ w (1916 + 5 * k + 4) ≤ w 0)
  ∧ ∀ i, 0 ≤ i → i < k → ¬ (w (1916 + 5 * i + 2) = w (1916 + 5 * k + 2) ∧ perO w i = perO w k)
-- the row of offered tokens
def GR (w : Row) : Prop := w 11 = csum (fun k => if w (1916 + 5 * k + 3) = 1 then 1 else 0) (w 10).toNat ∧ ∀ k, 0 ≤ k → k < w 11 → (0 ≤ w (2916 + k) ∧ w (2916 + k) < w 10) ∧ w (1916 + 5 * w (2916 + k) + 3) = 1 ∧ ∀ i, 0 ≤ i → i < k → ¬ w (2916 + i) = w (2916 + k)
def GG (w : Row) : Prop := GN w ∧ GO w ∧ GQ w ∧ GT w ∧ GC w ∧ GK w ∧ GR w
def Rel (s : Int) (d : mD) (w : Row) : Prop := RelA s d w ∧ RelO s d w ∧ RelQ s d w ∧ RelP s d w ∧ RelT s d w ∧ RelC s d w ∧ RelK s d w ∧ RelR s d w ∧ RelB s d w ∧ RelH s d w
-- two states of the class that are the same as far as they are looked at
def CEq (s : Int) (d : mD) (s' : Int) (d' : mD) : Prop := (d' s' 1 = d s 1 ∧ d' s' 2 = d s 2 ∧ ∀ k, 0 ≤ k → k < 5 → d' (s' + 1) k = d (s + 1) k)
  ∧ (d' (s' + 2) 0 = d (s + 2) 0 ∧ ∀ o, 0 ≤ o → o < 6 → d' (s' + 3) o = d (s + 3) o ∧ d' (s' + 4) o = d (s + 4) o ∧ d' (s' + 5) o = d (s + 5) o ∧ d' (s' + 6) o = d (s + 6) o ∧ d' (s' + 7) o = d (s + 7) o ∧ d' (s' + 8) o = d (s + 8) o)
  ∧ (∀ i, 0 ≤ i → i < 96 → d' (s' + 9) i = d (s + 9) i)
  ∧ (d' (s' + 10) 0 = d (s + 10) 0 ∧ ∀ p, 0 ≤ p → p < 16 → d' (s' + 11) p = d (s + 11) p ∧ d' (s' + 12) p = d (s + 12) p ∧ d' (s' + 13) p = d (s + 13) p ∧ d' (s' + 14) p = d (s + 14) p ∧ d' (s' + 15) p = d (s + 15) p)
  ∧ (∀ p, 0 ≤ p → p < d (s + 10) 0 → ∀ i, 0 ≤ i → i < 16 → d' (s' + 18 + 2 * p) i = d (s + 18 + 2 * p) i)
  ∧ (d' (s' + 49) 0 = d (s + 49) 0 ∧ ∀ t, 0 ≤ t → t < d (s + 49) 0 → d' (s' + 50) t = d (s + 50) t ∧ d' (s' + 51) t = d (s + 51) t ∧ d' (s' + 52) t = d (s + 52) t ∧ d' (s' + 53) t = d (s + 53) t ∧ d' (s' + 54) t = d (s + 54) t ∧ d' (s' + 55) t = d (s + 55) t ∧ d' (s' + 56) t = d (s + 56) t)
  ∧ (d' (s' + 57) 0 = d (s + 57) 0 ∧ ∀ k, 0 ≤ k → k < d (s + 57) 0 → d' (s' + 58) k = d (s + 58) k ∧ d' (s' + 59) k = d (s + 59) k ∧ d' (s' + 60) k = d (s + 60) k ∧ d' (s' + 61) k = d (s + 61) k)
  ∧ (d' (s' + 57) 5 = d (s + 57) 5 ∧ ∀ k, 0 ≤ k → k < d (s + 57) 5 → d' (s' + 62) k = d (s + 62) k)
theorem Rel.cls {s s' : Int} {d d' : mD} {w : Row} (hn : GN w) (hg : GO w) (hc : CEq s d s' d') (h : Rel s d w) : Rel s' d' w := by
  obtain ⟨⟨a1, a2, a3⟩, ⟨o1, o2⟩, hq, ⟨p1, p2⟩, ⟨t1, t2⟩, hC, ⟨k1, k2⟩, ⟨r1, r2⟩, hB, hH⟩ := h
  obtain ⟨⟨c1, c2, c3⟩, ⟨c4, c5⟩, c6, ⟨c7, c8⟩, c9, ⟨c10, c11⟩, ⟨c12, c13⟩, c14, c15⟩ := hc
  obtain ⟨n7, n8, n9, n10, n11, -⟩ := hn
  refine ⟨⟨by rw [c1]; exact a1, by rw [c2]; exact a2, fun k x y => by rw [c3 k x y]; exact a3 k x y⟩, ⟨by rw [c4]; exact o1, fun o x y => ?_⟩, fun o x y k u v => ?_, ⟨by rw [c7]; exact p1, fun p x y => ?_⟩, ⟨by rw [c10]; exact t1, fun t x y => ?_⟩, fun t x y => ?_, ⟨by rw [c12]; exact k1, fun k x y => ?_⟩, ⟨by rw [c14]; exact r1, fun k x y => ?_⟩, fun p x y => ?_, fun p x y h0 u v => ?_⟩
  · obtain ⟨e1, e2, e3, e4, e5, e6⟩ := c5 o x (by omega)
    rw [e1, e2, e3, e4, e5, e6]
    exact o2 o x y
  · have g := hg o x y
    rw [c6 (o * 16 + k) (by omega) (by omega)]
    exact hq o x y k u v
  · obtain ⟨e1, e2, -⟩ := c8 p x (by omega)
    rw [e1, e2]
    exact p2 p x y
  · obtain ⟨e1, e2, e3, e4, e5, -⟩ := c11 t x (by omega)
    rw [e1, e2, e3, e4, e5]
    exact t2 t x y
  · obtain ⟨-, -, -, -, -, e6, e7⟩ := c11 t x (by omega)
    rw [e6, e7]
    exact hC t x y
  · obtain ⟨e1, e2, e3, e4⟩ := c13 k x (by omega)
    rw [e1, e2, e3, e4]
    exact k2 k x y
  · rw [c15 k x (by omega)]
    exact r2 k x y
  · obtain ⟨-, -, e3, e4, e5⟩ := c8 p x (by omega)
    rw [e3, e4, e5]
    exact hB p x y
  · rw [c9 p x (by omega) (h0 / 64) (by omega) (by omega)]
    exact hH p x y h0 u v
/-! ===== rows that are the same as far as they are looked at ===== -/
def REq (w w' : Row) : Prop := ∀ i, 0 ≤ i → i < 3116 → w' i = w i
theorem GN.row {w w' : Row} (e : REq w w') (h : GN w) : GN w' := by
  unfold GN at *
  rw [e 0 (by decide) (by decide), e 1 (by decide) (by decide), e 2 (by decide) (by decide), e 3 (by decide) (by decide), e 4 (by decide) (by decide), e 5 (by decide) (by decide), e 6 (by decide) (by decide), e 7 (by decide) (by decide), e 8 (by decide) (by decide), e 9 (by decide) (by decide), e 10 (by decide) (by decide), e 11 (by decide) (by decide)]
  exact h
theorem GO.row {w w' : Row} (e : REq w w') (hn : GN w) (h : GO w) : GO w' := by
  intro o x y
  obtain ⟨n7, n8, n9, n10, n11, -⟩ := hn
  rw [e 7 (by decide) (by decide)] at y
  have g := h o x y
  rw [e (12 + 68 * o + 1) (by omega) (by omega), e (12 + 68 * o + 2) (by omega) (by omega), e (12 + 68 * o + 3) (by omega) (by omega), e (12 + 68 * o + 4) (by omega) (by omega), e (12 + 68 * o + 5) (by omega) (by omega), e (12 + 68 * o + 6) (by omega) (by omega), e 9 (by decide) (by decide),
    csum_congr (f := fun t => if w' (452 + 24 * t + 4) = 1 ∧ w' (452 + 24 * t + 1) = o then 1 else 0) (g := fun t => if w (452 + 24 * t + 4) = 1 ∧ w (452 + 24 * t + 1) = o then 1 else 0) (fun t a b => by
      show (if w' (452 + 24 * t + 4) = 1 ∧ w' (452 + 24 * t + 1) = o then (1 : Int) else 0) = if w (452 + 24 * t + 4) = 1 ∧ w (452 + 24 * t + 1) = o then 1 else 0
      rw [e (452 + 24 * t + 4) (by omega) (by omega), e (452 + 24 * t + 1) (by omega) (by omega)])]
  exact g
theorem GQ.row {w w' : Row} (e : REq w w') (hn : GN w) (ho : GO w) (h : GQ w) : GQ w' := by
  intro o x y k u v
  obtain ⟨n7, n8, n9, n10, n11, -⟩ := hn
  rw [e 7 (by decide) (by decide)] at y
  have hO := ho o x y
  rw [e (12 + 68 * o + 5) (by omega) (by omega)] at v
  have g := h o x y k u v
  rw [e (12 + 68 * o + 7 + k) (by omega) (by omega), e 9 (by decide) (by decide), e (452 + 24 * w (12 + 68 * o + 7 + k) + 1) (by omega) (by omega), e (452 + 24 * w (12 + 68 * o + 7 + k) + 4) (by omega) (by omega)]
  refine ⟨g.1, g.2.1, g.2.2.1, fun i a b => ?_⟩
  have gi := h o x y i a (by omega)
  rw [e (12 + 68 * o + 7 + i) (by omega) (by omega), e (452 + 24 * w (12 + 68 * o + 7 + k) + 2) (by omega) (by omega), e (452 + 24 * w (12 + 68 * o + 7 + k) + 0) (by omega) (by omega), e (452 + 24 * w (12 + 68 * o + 7 + i) + 2) (by omega) (by omega), e (452 + 24 * w (12 + 68 * o + 7 + i) + 0) (by omega) (by omega)]
  exact g.2.2.2 i a b
theorem GT.row {w w' : Row} (e : REq w w') (hn : GN w) (ho : GO w) (h : GT w) : GT w' := by
  intro t x y
  obtain ⟨n7, n8, n9, n10, n11, -⟩ := hn
  rw [e 9 (by decide) (by decide)] at y
  have g := h t x y
  rw [e (452 + 24 * t + 0) (by omega) (by omega), e (452 + 24 * t + 1) (by omega) (by omega), e (452 + 24 * t + 2) (by omega) (by omega), e (452 + 24 * t + 3) (by omega) (by omega), e (452 + 24 * t + 4) (by omega) (by omega), e 0 (by decide) (by decide), e 7 (by decide) (by decide), e 8 (by decide) (by decide)]
  refine ⟨g.1, g.2.1, g.2.2.1, g.2.2.2.1, fun z => ?_, g.2.2.2.2.2⟩
  obtain ⟨g1, k, g2, g3, g4⟩ := g.2.2.2.2.1 z
  have hO := ho _ g.2.1.1 g.2.1.2
  exact ⟨g1, k, g2, by rw [e _ (by omega) (by omega)]; exact g3, by rw [e _ (by omega) (by omega)]; exact g4⟩
theorem GC.row {w w' : Row} (e : REq w w') (hn : GN w) (h : GC w) : GC w' := by
  intro t x y
  obtain ⟨n7, n8, n9, n10, n11, -⟩ := hn
  rw [e 9 (by decide) (by decide)] at y
  have g := h t x y
  rw [e (452 + 24 * t + 5) (by omega) (by omega), e (452 + 24 * t + 6) (by omega) (by omega), e (452 + 24 * t + 3) (by omega) (by omega), e (452 + 24 * t + 4) (by omega) (by omega), e 0 (by decide) (by decide)]
  exact ⟨g.1, g.2.1, g.2.2.1, g.2.2.2.1, fun p a b => by rw [e (452 + 24 * t + 8 + p) (by omega) (by omega)]; exact g.2.2.2.2 p a b⟩
theorem perO_row {w w' : Row} (e : REq w w') (hn : GN w) (hk : GK w) {k : Int} (h0 : 0 ≤ k) (h1 : k < w 10) : perO w' k = perO w k := by
  have g := hk k h0 h1
  obtain ⟨n7, n8, n9, n10, n11, -⟩ := hn
  unfold perO
  rw [e (1916 + 5 * k + 1) (by omega) (by omega), e _ (by omega) (by omega)]
theorem GK.row {w w' : Row} (e : REq w w') (hn : GN w) (h : GK w) : GK w' := by
  intro k x y
  rw [e 10 (by decide) (by decide)] at y
  have g := h k x y
  have p := perO_row e hn h x y
  obtain ⟨n7, n8, n9, n10, n11, -⟩ := id hn
  rw [e (1916 + 5 * k + 0) (by omega) (by omega), e (1916 + 5 * k + 1) (by omega) (by omega), e (1916 + 5 * k + 2) (by omega) (by omega), e (1916 + 5 * k + 3) (by omega) (by omega), e (1916 + 5 * k + 4) (by omega) (by omega), e 8 (by decide) (by decide), e 9 (by decide) (by decide), e 0 (by decide) (by decide), p]
  refine ⟨g.1, g.2.1, g.2.2.1, g.2.2.2.1, g.2.2.2.2.1, fun i a b => ?_⟩
  rw [e (1916 + 5 * i + 2) (by omega) (by omega), perO_row e hn h a (by omega)]
  exact g.2.2.2.2.2 i a b
theorem GR.row {w w' : Row} (e : REq w w') (hn : GN w) (h : GR w) : GR w' := by
  obtain ⟨n7, n8, n9, n10, n11, -⟩ := hn
  refine ⟨?_, fun k x y => ?_⟩
  · rw [e 11 (by decide) (by decide), e 10 (by decide) (by decide), h.1]
    refine csum_congr (fun k a b => ?_)
    rw [e (1916 + 5 * k + 3) (by omega) (by omega)]
  · rw [e 11 (by decide) (by decide)] at y
    have g := h.2 k x y
    rw [e (2916 + k) (by omega) (by omega), e 10 (by decide) (by decide), e _ (by omega) (by omega)]
    exact ⟨g.1, g.2.1, fun i a b => by rw [e (2916 + i) (by omega) (by omega)]; exact g.2.2 i a b⟩
theorem GG.row {w w' : Row} (e : REq w w') (h : GG w) : GG w' := by
  obtain ⟨a, b, c, d, f, g, k⟩ := h
  exact ⟨a.row e, b.row e a, c.row e a b, d.row e a b, f.row e a, g.row e a, k.row e a⟩
theorem madeR_row {w w' : Row} (e : REq w w') (hn : GN w) (hk : GK w) (p : Int) : madeR w' p = madeR w p := by
  unfold madeR
  rw [e 10 (by decide) (by decide)]
  refine csum_congr (fun k a b => ?_)
  have n10 := hn.2.2.2.1
  rw [perO_row e hn hk a (by omega), e (1916 + 5 * k + 4) (by omega) (by omega), e 0 (by decide) (by decide)]
theorem attR_row {w w' : Row} (e : REq w w') (hn : GN w) {p : Int} (h0 : 0 ≤ p) (h1 : p < 16) : attR w' p = attR w p := by
  unfold attR
  rw [e 9 (by decide) (by decide)]
  refine csum_congr (fun t a b => ?_)
  have n9 := hn.2.2.1
  rw [e (452 + 24 * t + 8 + p) (by omega) (by omega), e 0 (by decide) (by decide)]
theorem Rel.row {s : Int} {d : mD} {w w' : Row} (e : REq w w') (hg : GG w) (h : Rel s d w) : Rel s d w' := by
  obtain ⟨hN, hO, hQ, hT, hCC, hK, hR⟩ := hg
  obtain ⟨n7, n8, n9, n10, n11, -⟩ := id hN
  obtain ⟨⟨a1, a2, a3⟩, ⟨o1, o2⟩, hq, ⟨p1, p2⟩, ⟨t1, t2⟩, hC, ⟨k1, k2⟩, ⟨r1, r2⟩, hB, hH⟩ := h
  have e0 := e 0 (by decide) (by decide)
  have e7 := e 7 (by decide) (by decide)
  have e8 := e 8 (by decide) (by decide)
  have e9 := e 9 (by decide) (by decide)
  have e10 := e 10 (by decide) (by decide)
  have e11 := e 11 (by decide) (by decide)
  refine ⟨⟨by rw [e 1 (by decide) (by decide)]; exact a1, by rw [e0]; exact a2, fun k x y => by rw [e (2 + k) (by omega) (by omega)]; exact a3 k x y⟩, ⟨by rw [e7]; exact o1, fun o x y => ?_⟩, fun o x y k u v => ?_, ⟨by rw [e8]; exact p1, fun p x y => ?_⟩, ⟨by rw [e9]; exact t1, fun t x y => ?_⟩, fun t x y => ?_, ⟨by rw [e10]; exact k1, fun k x y => ?_⟩, ⟨by rw [e11]; exact r1, fun k x y => ?_⟩, fun p x y => ?_, fun p x y h0 u v => ?_⟩
  · rw [e7] at y
    rw [e (12 + 68 * o + 0) (by omega) (by omega), e (12 + 68 * o + 1) (by omega) (by omega), e (12 + 68 * o + 2) (by omega) (by omega), e (12 + 68 * o + 3) (by omega) (by omega), e (12 + 68 * o + 4) (by omega) (by omega), e (12 + 68 * o + 5) (by omega) (by omega)]
    exact o2 o x y
  · rw [e7] at y
    have g := hO o x y
    rw [e (12 + 68 * o + 5) (by omega) (by omega)] at v
    rw [e (12 + 68 * o + 7 + k) (by omega) (by omega)]
    exact hq o x y k u v
  · rw [e8] at y
    rw [e (420 + 2 * p + 0) (by omega) (by omega), e (420 + 2 * p + 1) (by omega) (by omega)]
    exact p2 p x y
  · rw [e9] at y
    rw [e (452 + 24 * t + 0) (by omega) (by omega), e (452 + 24 * t + 1) (by omega) (by omega), e (452 + 24 * t + 2) (by omega) (by omega), e (452 + 24 * t + 3) (by omega) (by omega), e (452 + 24 * t + 4) (by omega) (by omega)]
    exact t2 t x y
  · rw [e9] at y
    obtain ⟨g1, g2, g3, g4⟩ := hC t x y
    rw [e (452 + 24 * t + 5) (by omega) (by omega), e (452 + 24 * t + 6) (by omega) (by omega), e (452 + 24 * t + 7) (by omega) (by omega)]
    refine ⟨g1, ?_, fun p u v => by rw [e (452 + 24 * t + 8 + p) (by omega) (by omega)]; exact g3 p u v, g4⟩
    rw [g2]
    exact csum_congr (fun p u v => by rw [e (452 + 24 * t + 8 + p) (by omega) (by omega)])
  · rw [e10] at y
    rw [e (1916 + 5 * k + 0) (by omega) (by omega), e (1916 + 5 * k + 1) (by omega) (by omega), e (1916 + 5 * k + 2) (by omega) (by omega), e (1916 + 5 * k + 3) (by omega) (by omega)]
    exact k2 k x y
  · rw [e11] at y
    rw [e (2916 + k) (by omega) (by omega)]
    exact r2 k x y
  · rw [e8] at y
    obtain ⟨g1, g2, g3⟩ := hB p x y
    refine ⟨by rw [madeR_row e hN hK]; exact g1, by rw [attR_row e hN x (by omega)]; exact g2, fun q u v => (g3 q u v).trans ⟨?_, ?_⟩⟩
    · rintro ⟨t, z1, z2, z3, z4⟩
      refine ⟨t, z1, by rw [e9]; exact z2, by rw [e (452 + 24 * t + 0) (by omega) (by omega)]; exact z3, ?_⟩
      unfold attd at *
      rw [e (452 + 24 * t + 8 + p) (by omega) (by omega), e0]
      exact z4
    · rintro ⟨t, z1, z2, z3, z4⟩
      rw [e9] at z2
      rw [e (452 + 24 * t + 0) (by omega) (by omega)] at z3
      refine ⟨t, z1, z2, z3, ?_⟩
      unfold attd at *
      rw [e (452 + 24 * t + 8 + p) (by omega) (by omega), e0] at z4
      exact z4
  · rw [e8] at y
    refine (hH p x y h0 u v).trans ⟨?_, ?_⟩
    · rintro ⟨k, z1, z2, z3, z4⟩
      exact ⟨k, z1, by rw [e10]; exact z2, by rw [e (1916 + 5 * k + 2) (by omega) (by omega)]; exact z3, by rw [perO_row e hN hK z1 z2]; exact z4⟩
    · rintro ⟨k, z1, z2, z3, z4⟩
      rw [e10] at z2
      rw [e (1916 + 5 * k + 2) (by omega) (by omega)] at z3
      rw [perO_row e hN hK z1 z2] at z4
      exact ⟨k, z1, z2, z3, z4⟩
/-! ===== a state of the class is copied ===== -/
theorem c34l {x0 x1 : Int} (hx : ¬ x0 + 5 = x1 + 5) : ∀ (n : Nat) (x : Int) (d : mD), 0 ≤ x → 6 - x ≤ (n : Int) → (∀ b, ¬ b = x0 + 5 → lp_34_100 x0 x1 n x d b = d b) ∧ (∀ o, 0 ≤ o → o < x → lp_34_100 x0 x1 n x d (x0 + 5) o = d (x0 + 5) o) ∧ ∀ o, x ≤ o → o < 6 → lp_34_100 x0 x1 n x d (x0 + 5) o = d (x1 + 5) o := by
  intro n
  induction n with
  | zero =>
    intro x d h0 hn
    have e : lp_34_100 x0 x1 0 x d = d := by
      show st_34_100 x0 x1 _ x d = d
      unfold st_34_100
      rw [if_neg (by omega)]
    rw [e]
    exact ⟨fun _ _ => rfl, fun _ _ _ => rfl, fun o a b => by omega⟩
  | succ n ih =>
    intro x d h0 hn
    by_cases hc : x < 6
    · have e : lp_34_100 x0 x1 (n + 1) x d = lp_34_100 x0 x1 n (x + 1) (mset d (x0 + 5) x (d (x1 + 5) x)) := by
        show st_34_100 x0 x1 _ x d = _
        unfold st_34_100
        rw [if_pos hc]
      rw [e]
      obtain ⟨i1, i2, i3⟩ := ih (x + 1) (mset d (x0 + 5) x (d (x1 + 5) x)) (by omega) (by omega)
      refine ⟨fun b hb => by rw [i1 b hb]; funext j; exact ms_a hb, fun o a b => by rw [i2 o a (by omega), ms_i (by omega)], fun o a b => ?_⟩
      by_cases ho : o = x
      · rw [i2 o (by omega) (by omega), ms_e rfl ho, ho]
      · rw [i3 o (by omega) b, ms_a (by omega)]
    · have e : lp_34_100 x0 x1 (n + 1) x d = d := by
        show st_34_100 x0 x1 _ x d = d
        unfold st_34_100
        rw [if_neg hc]
      rw [e]
      exact ⟨fun _ _ => rfl, fun _ _ _ => rfl, fun o a b => by omega⟩
theorem c46l {x0 x1 : Int} (hx : x0 + 40 ≤ x1 ∨ x1 + 40 ≤ x0) : ∀ (n : Nat) (x : Int) (d : mD), 0 ≤ x → d x0 0 ≤ 16 → d x0 0 - x ≤ (n : Int) → (∀ b, (b < x0 + 8 + 2 * x ∨ x0 + 39 ≤ b) → lp_46_85 x0 x1 n x d b = d b) ∧ ∀ p, x ≤ p → p < d x0 0 → ∀ i, 0 ≤ i → i < 16 → lp_46_85 x0 x1 n x d (x0 + 8 + 2 * p) i = d (x1 + 8 + 2 * p) i := by
  intro n
  induction n with
  | zero =>
    intro x d h0 h16 hn
    have e : lp_46_85 x0 x1 0 x d = d := by
      show st_46_85 x0 x1 _ x d = d
      unfold st_46_85
      rw [if_neg (by omega)]
    rw [e]
    exact ⟨fun _ _ => rfl, fun o a b => by omega⟩
  | succ n ih =>
    intro x d h0 h16 hn
    by_cases hc : x < d x0 0
    · have e : lp_46_85 x0 x1 (n + 1) x d = lp_46_85 x0 x1 n (x + 1) (g_11 (x0 + 6 + (1 + 2 * x)) (x1 + 6 + (1 + 2 * x)) d) := by
        show st_46_85 x0 x1 _ x d = _
        unfold st_46_85
        rw [if_pos hc]
      rw [e]
      have e0 : g_11 (x0 + 6 + (1 + 2 * x)) (x1 + 6 + (1 + 2 * x)) d x0 0 = d x0 0 := by
        unfold g_11
        rw [mc_n (by omega)]
      obtain ⟨i1, i3⟩ := ih (x + 1) (g_11 (x0 + 6 + (1 + 2 * x)) (x1 + 6 + (1 + 2 * x)) d) (by omega) (by rw [e0]; exact h16) (by rw [e0]; omega)
      rw [e0] at i3
      refine ⟨fun b hb => ?_, fun p a b i u v => ?_⟩
      · rw [i1 b (by omega)]
        funext j
        unfold g_11
        rw [mc_n (by omega)]
      · by_cases ho : p = x
        · rw [i1 _ (by omega)]
          unfold g_11
          rw [mc_e (by omega) u v]
          congr 1
          omega
        · rw [i3 p (by omega) b i u v]
          unfold g_11
          rw [mc_n (by omega)]
    · have e : lp_46_85 x0 x1 (n + 1) x d = d := by
        show st_46_85 x0 x1 _ x d = d
        unfold st_46_85
        rw [if_neg hc]
      rw [e]
      exact ⟨fun _ _ => rfl, fun o a b => by omega⟩
-- each part of the copy: what it leaves, what it brings
theorem c34 {a s : Int} (hx : a + 63 ≤ s ∨ s + 63 ≤ a) (d : mD) : (∀ b, (b < a + 2 ∨ a + 9 < b) → g_34 (a + 2) (s + 2) d b = d b) ∧ g_34 (a + 2) (s + 2) d (a + 2) 0 = d (s + 2) 0 ∧ (∀ o, 0 ≤ o → o < 6 → g_34 (a + 2) (s + 2) d (a + 3) o = d (s + 3) o ∧ g_34 (a + 2) (s + 2) d (a + 4) o = d (s + 4) o ∧ g_34 (a + 2) (s + 2) d (a + 5) o = d (s + 5) o ∧ g_34 (a + 2) (s + 2) d (a + 6) o = d (s + 6) o ∧ g_34 (a + 2) (s + 2) d (a + 7) o = d (s + 7) o ∧ g_34 (a + 2) (s + 2) d (a + 8) o = d (s + 8) o) ∧ ∀ i, 0 ≤ i → i < 96 → g_34 (a + 2) (s + 2) d (a + 9) i = d (s + 9) i := by
  unfold g_34
  obtain ⟨i1, -, i3⟩ := c34l (x0 := a + 2) (x1 := s + 2) (by omega) (6 - 0 : Int).toNat 0 (mcopy (mcopy (mcopy (mcopy (mcopy (mcopy (mset d (a + 2) 0 (d (s + 2) 0)) (s + 2 + 1) 0 (a + 2 + 1) 0 6) (s + 2 + 2) 0 (a + 2 + 2) 0 6) (s + 2 + 3) 0 (a + 2 + 3) 0 6) (s + 2 + 4) 0 (a + 2 + 4) 0 6) (s + 2 + 6) 0 (a + 2 + 6) 0 6) (s + 2 + 7) 0 (a + 2 + 7) 0 96) (by decide) (by decide)
  simp only [Int.add_assoc, Int.reduceAdd] at i1 i3 ⊢
  refine ⟨fun b hb => ?_, ?_, fun o x y => ⟨?_, ?_, ?_, ?_, ?_, ?_⟩, fun i x y => ?_⟩
  · rw [i1 b (by omega)]
    funext j
    simp (disch := omega) only [mc_n, ms_a]
  · rw [i1 _ (by omega)]
    simp (disch := omega) only [mc_n, ms_e]
  · rw [i1 _ (by omega)]
    simp (disch := omega) only [mc_e, mc_n, ms_a]
  · rw [i1 _ (by omega)]
    simp (disch := omega) only [mc_e, mc_n, ms_a]
  · rw [i1 _ (by omega)]
    simp (disch := omega) only [mc_e, mc_n, ms_a]
  · rw [i1 _ (by omega)]
    simp (disch := omega) only [mc_e, mc_n, ms_a]
  · rw [i3 o x y]
    simp (disch := omega) only [mc_e, mc_n, ms_a]
  · rw [i1 _ (by omega)]
    simp (disch := omega) only [mc_e, mc_n, ms_a]
  · rw [i1 _ (by omega)]
    simp (disch := omega) only [mc_e, mc_n, ms_a]
theorem c46 {a s : Int} (hx : a + 63 ≤ s ∨ s + 63 ≤ a) (d : mD) (h16 : d (s + 10) 0 ≤ 16) : (∀ b, (b < a + 10 ∨ a + 50 ≤ b) → g_46 (a + 10) (s + 10) d b = d b) ∧ g_46 (a + 10) (s + 10) d (a + 49) = d (a + 49) ∧ g_46 (a + 10) (s + 10) d (a + 10) 0 = d (s + 10) 0 ∧ (∀ p, 0 ≤ p → p < 16 → g_46 (a + 10) (s + 10) d (a + 11) p = d (s + 11) p ∧ g_46 (a + 10) (s + 10) d (a + 12) p = d (s + 12) p ∧ g_46 (a + 10) (s + 10) d (a + 13) p = d (s + 13) p ∧ g_46 (a + 10) (s + 10) d (a + 14) p = d (s + 14) p ∧ g_46 (a + 10) (s + 10) d (a + 15) p = d (s + 15) p) ∧ ∀ p, 0 ≤ p → p < d (s + 10) 0 → ∀ i, 0 ≤ i → i < 16 → g_46 (a + 10) (s + 10) d (a + 18 + 2 * p) i = d (s + 18 + 2 * p) i := by
  unfold g_46
  have e0 : (mcopy (mcopy (mcopy (mcopy (mcopy (mset d (a + 10) 0 (d (s + 10) 0)) (s + 10 + 1) 0 (a + 10 + 1) 0 16) (s + 10 + 2) 0 (a + 10 + 2) 0 16) (s + 10 + 3) 0 (a + 10 + 3) 0 16) (s + 10 + 4) 0 (a + 10 + 4) 0 16) (s + 10 + 5) 0 (a + 10 + 5) 0 16) (a + 10) 0 = d (s + 10) 0 := by
    simp (disch := omega) only [mc_n, ms_e]
  obtain ⟨i1, i3⟩ := c46l (x0 := a + 10) (x1 := s + 10) (by omega) (16 - 0 : Int).toNat 0 (mcopy (mcopy (mcopy (mcopy (mcopy (mset d (a + 10) 0 (d (s + 10) 0)) (s + 10 + 1) 0 (a + 10 + 1) 0 16) (s + 10 + 2) 0 (a + 10 + 2) 0 16) (s + 10 + 3) 0 (a + 10 + 3) 0 16) (s + 10 + 4) 0 (a + 10 + 4) 0 16) (s + 10 + 5) 0 (a + 10 + 5) 0 16) (by decide) (by rw [e0]; exact h16) (by rw [e0, show (((16 - 0 : Int).toNat : Nat) : Int) = 16 by decide]; omega)
  rw [e0] at i3
  simp only [Int.add_assoc, Int.reduceAdd] at i1 i3 ⊢
  refine ⟨fun b hb => ?_, ?_, ?_, fun o x y => ⟨?_, ?_, ?_, ?_, ?_⟩, fun p x y i u v => ?_⟩
  · rw [i1 b (by omega)]
    funext j
    simp (disch := omega) only [mc_n, ms_a]
  · rw [i1 _ (by omega)]
    funext j
    simp (disch := omega) only [mc_n, ms_a]
  · rw [i1 _ (by omega)]
    simp (disch := omega) only [mc_n, ms_e]
  · rw [i1 _ (by omega)]
    simp (disch := omega) only [mc_e, mc_n, ms_a]
  · rw [i1 _ (by omega)]
    simp (disch := omega) only [mc_e, mc_n, ms_a]
  · rw [i1 _ (by omega)]
    simp (disch := omega) only [mc_e, mc_n, ms_a]
  · rw [i1 _ (by omega)]
    simp (disch := omega) only [mc_e, mc_n, ms_a]
  · rw [i1 _ (by omega)]
    simp (disch := omega) only [mc_e, mc_n, ms_a]
  · rw [i3 p x y i u v]
    simp (disch := omega) only [mc_e, mc_n, ms_a]
theorem c95 {a s : Int} (hx : a + 63 ≤ s ∨ s + 63 ≤ a) (d : mD) : (∀ b, (b < a + 49 ∨ a + 56 < b) → g_95 (a + 49) (s + 49) d b = d b) ∧ g_95 (a + 49) (s + 49) d (a + 49) 0 = d (s + 49) 0 ∧ ∀ t, 0 ≤ t → t < d (s + 49) 0 → g_95 (a + 49) (s + 49) d (a + 50) t = d (s + 50) t ∧ g_95 (a + 49) (s + 49) d (a + 51) t = d (s + 51) t ∧ g_95 (a + 49) (s + 49) d (a + 52) t = d (s + 52) t ∧ g_95 (a + 49) (s + 49) d (a + 53) t = d (s + 53) t ∧ g_95 (a + 49) (s + 49) d (a + 54) t = d (s + 54) t ∧ g_95 (a + 49) (s + 49) d (a + 55) t = d (s + 55) t ∧ g_95 (a + 49) (s + 49) d (a + 56) t = d (s + 56) t := by
  unfold g_95
  simp only [Int.add_assoc, Int.reduceAdd]
  refine ⟨fun b hb => ?_, ?_, fun t x y => ⟨?_, ?_, ?_, ?_, ?_, ?_, ?_⟩⟩
  · funext j
    simp (disch := omega) only [mc_n, ms_a]
  all_goals simp (disch := omega) only [mc_e, mc_n, ms_a, ms_e]
theorem c108 {a s : Int} (hx : a + 63 ≤ s ∨ s + 63 ≤ a) (d : mD) : (∀ b, (b < a + 57 ∨ a + 62 < b) → g_108 (a + 57) (s + 57) d b = d b) ∧ g_108 (a + 57) (s + 57) d (a + 57) 0 = d (s + 57) 0 ∧ g_108 (a + 57) (s + 57) d (a + 57) 5 = d (s + 57) 5 ∧ (∀ k, 0 ≤ k → k < d (s + 57) 0 → g_108 (a + 57) (s + 57) d (a + 58) k = d (s + 58) k ∧ g_108 (a + 57) (s + 57) d (a + 59) k = d (s + 59) k ∧ g_108 (a + 57) (s + 57) d (a + 60) k = d (s + 60) k ∧ g_108 (a + 57) (s + 57) d (a + 61) k = d (s + 61) k) ∧ ∀ k, 0 ≤ k → k < d (s + 57) 5 → g_108 (a + 57) (s + 57) d (a + 62) k = d (s + 62) k := by
  unfold g_108
  simp only [Int.add_assoc, Int.reduceAdd]
  have e5 : (mcopy (mcopy (mcopy (mcopy (mset d (a + 57) 0 (d (s + 57) 0)) (s + 58) 0 (a + 58) 0 (d (s + 57) 0)) (s + 59) 0 (a + 59) 0 (d (s + 57) 0)) (s + 60) 0 (a + 60) 0 (d (s + 57) 0)) (s + 61) 0 (a + 61) 0 (d (s + 57) 0)) (s + 57) 5 = d (s + 57) 5 := by
    simp (disch := omega) only [mc_n, ms_a]
  rw [e5]
  refine ⟨fun b hb => ?_, ?_, ?_, fun t x y => ⟨?_, ?_, ?_, ?_⟩, fun k x y => ?_⟩
  · funext j
    simp (disch := omega) only [mc_n, ms_a]
  all_goals simp (disch := omega) only [mc_e, mc_n, ms_a, ms_i, ms_e]
theorem cpy {a s : Int} (hx : a + 63 ≤ s ∨ s + 63 ≤ a) (d : mD) (h16 : d (s + 10) 0 ≤ 16) : CEq s d a (g_59 a s d) := by
  unfold g_59
  have e1 : (mset (mset (mcopy d (s + 1) 0 (a + 1) 0 5) a 1 (d s 1)) a 2 (d s 2)) = (mset (mset (mcopy d (s + 1) 0 (a + 1) 0 5) a 1 (d s 1)) a 2 (d s 2)) := rfl
  generalize hd1 : (mset (mset (mcopy d (s + 1) 0 (a + 1) 0 5) a 1 (d s 1)) a 2 (d s 2)) = d1
  have f1 : ∀ b, (b < a ∨ a + 1 < b) → d1 b = d b := fun b hb => by
    rw [← hd1]
    funext j
    simp (disch := omega) only [mc_n, ms_a]
  obtain ⟨a1, a2, a3, a4⟩ := c34 hx d1
  generalize g_34 (a + 2) (s + 2) d1 = d2 at *
  obtain ⟨b1, b1', b2, b3, b4⟩ := c46 hx d2 (by rw [a1 _ (by omega), f1 _ (by omega)]; exact h16)
  generalize g_46 (a + 10) (s + 10) d2 = d3 at *
  obtain ⟨c1, c2, c3⟩ := c95 hx d3
  generalize g_95 (a + 49) (s + 49) d3 = d4 at *
  obtain ⟨e1, e2, e3, e4, e5⟩ := c108 hx d4
  generalize g_108 (a + 57) (s + 57) d4 = d5 at *
  have s2 : ∀ b, s ≤ b → b < s + 63 → d2 b = d b := fun b x y => by rw [a1 b (by omega), f1 b (by omega)]
  have s3 : ∀ b, s ≤ b → b < s + 63 → d3 b = d b := fun b x y => by rw [b1 b (by omega), s2 b x y]
  have s4 : ∀ b, s ≤ b → b < s + 63 → d4 b = d b := fun b x y => by rw [c1 b (by omega), s3 b x y]
  refine ⟨⟨?_, ?_, fun k x y => ?_⟩, ⟨?_, fun o x y => ?_⟩, fun i x y => ?_, ⟨?_, fun p x y => ?_⟩, fun p x y i u v => ?_, ⟨?_, fun t x y => ?_⟩, ⟨?_, fun k x y => ?_⟩, ?_, fun k x y => ?_⟩
  · rw [e1 _ (by omega), c1 _ (by omega), b1 _ (by omega), a1 _ (by omega), ← hd1]
    simp (disch := omega) only [ms_i, ms_e]
  · rw [e1 _ (by omega), c1 _ (by omega), b1 _ (by omega), a1 _ (by omega), ← hd1]
    simp (disch := omega) only [ms_e]
  · rw [e1 _ (by omega), c1 _ (by omega), b1 _ (by omega), a1 _ (by omega), ← hd1]
    simp (disch := omega) only [ms_a, mc_e]
  · rw [e1 _ (by omega), c1 _ (by omega), b1 _ (by omega), a2, f1 _ (by omega)]
  · obtain ⟨g1, g2, g3, g4, g5, g6⟩ := a3 o x y
    rw [e1 _ (by omega), e1 _ (by omega), e1 _ (by omega), e1 _ (by omega), e1 _ (by omega), e1 _ (by omega), c1 _ (by omega), c1 _ (by omega), c1 _ (by omega), c1 _ (by omega), c1 _ (by omega), c1 _ (by omega), b1 _ (by omega), b1 _ (by omega), b1 _ (by omega), b1 _ (by omega), b1 _ (by omega), b1 _ (by omega), g1, g2, g3, g4, g5, g6]
    rw [f1 _ (by omega), f1 _ (by omega), f1 _ (by omega), f1 _ (by omega), f1 _ (by omega), f1 _ (by omega)]
    exact ⟨rfl, rfl, rfl, rfl, rfl, rfl⟩
  · rw [e1 _ (by omega), c1 _ (by omega), b1 _ (by omega), a4 i x y, f1 _ (by omega)]
  · rw [e1 _ (by omega), c1 _ (by omega), b2, s2 _ (by omega) (by omega)]
  · obtain ⟨g1, g2, g3, g4, g5⟩ := b3 p x y
    rw [e1 _ (by omega), e1 _ (by omega), e1 _ (by omega), e1 _ (by omega), e1 _ (by omega), c1 _ (by omega), c1 _ (by omega), c1 _ (by omega), c1 _ (by omega), c1 _ (by omega), g1, g2, g3, g4, g5]
    rw [s2 _ (by omega) (by omega), s2 _ (by omega) (by omega), s2 _ (by omega) (by omega), s2 _ (by omega) (by omega), s2 _ (by omega) (by omega)]
    exact ⟨rfl, rfl, rfl, rfl, rfl⟩
  · rw [e1 _ (by omega), c1 _ (by omega), b4 p x (by rw [s2 _ (by omega) (by omega)]; exact y) i u v, s2 _ (by omega) (by omega)]
  · rw [e1 _ (by omega), c2, s3 _ (by omega) (by omega)]
  · obtain ⟨g1, g2, g3, g4, g5, g6, g7⟩ := c3 t x (by rw [s3 _ (by omega) (by omega)]; exact y)
    rw [e1 _ (by omega), e1 _ (by omega), e1 _ (by omega), e1 _ (by omega), e1 _ (by omega), e1 _ (by omega), e1 _ (by omega), g1, g2, g3, g4, g5, g6, g7]
    rw [s3 _ (by omega) (by omega), s3 _ (by omega) (by omega), s3 _ (by omega) (by omega), s3 _ (by omega) (by omega), s3 _ (by omega) (by omega), s3 _ (by omega) (by omega), s3 _ (by omega) (by omega)]
    exact ⟨rfl, rfl, rfl, rfl, rfl, rfl, rfl⟩
  · rw [e2, s4 _ (by omega) (by omega)]
  · obtain ⟨g1, g2, g3, g4⟩ := e4 k x (by rw [s4 _ (by omega) (by omega)]; exact y)
    rw [g1, g2, g3, g4]
    rw [s4 _ (by omega) (by omega), s4 _ (by omega) (by omega), s4 _ (by omega) (by omega), s4 _ (by omega) (by omega)]
    exact ⟨rfl, rfl, rfl, rfl⟩
  · rw [e3, s4 _ (by omega) (by omega)]
  · rw [e5 k x (by rw [s4 _ (by omega) (by omega)]; exact y), s4 _ (by omega) (by omega)]
/-! ===== each piece of the relation: what it looks at ===== -/
theorem GN.k {w w' : Row} (e : ∀ i, 0 ≤ i ∧ i ≤ 11 → w' i = w i) (h : GN w) : GN w' := by
  unfold GN at *
  rw [e 0 (by omega), e 1 (by omega), e 2 (by omega), e 3 (by omega), e 4 (by omega), e 5 (by omega), e 6 (by omega), e 7 (by omega), e 8 (by omega), e 9 (by omega), e 10 (by omega), e 11 (by omega)]
  exact h
theorem GO.k {w w' : Row} (e : ∀ i, i = 7 ∨ i = 9 ∨ (12 ≤ i ∧ i < 420 ∧ 1 ≤ (i - 12) % 68 ∧ (i - 12) % 68 ≤ 6) ∨ (452 ≤ i ∧ i < 1916 ∧ ((i - 452) % 24 = 1 ∨ (i - 452) % 24 = 4)) → w' i = w i) (hn : GN w) (h : GO w) : GO w' := by
  intro o x y
  obtain ⟨n7, n8, n9, n10, n11, -⟩ := hn
  rw [e 7 (by omega)] at y
  have g := h o x y
  rw [e (12 + 68 * o + 1) (by omega), e (12 + 68 * o + 2) (by omega), e (12 + 68 * o + 3) (by omega), e (12 + 68 * o + 4) (by omega), e (12 + 68 * o + 5) (by omega), e (12 + 68 * o + 6) (by omega), e 9 (by omega),
    csum_congr (f := fun t => if w' (452 + 24 * t + 4) = 1 ∧ w' (452 + 24 * t + 1) = o then 1 else 0) (g := fun t => if w (452 + 24 * t + 4) = 1 ∧ w (452 + 24 * t + 1) = o then 1 else 0) (fun t a b => by
      show (if w' (452 + 24 * t + 4) = 1 ∧ w' (452 + 24 * t + 1) = o then (1 : Int) else 0) = if w (452 + 24 * t + 4) = 1 ∧ w (452 + 24 * t + 1) = o then 1 else 0
      rw [e (452 + 24 * t + 4) (by omega), e (452 + 24 * t + 1) (by omega)])]
  exact g
theorem GQ.k {w w' : Row} (e : ∀ i, i = 7 ∨ i = 9 ∨ (12 ≤ i ∧ i < 420 ∧ 5 ≤ (i - 12) % 68 ∧ ¬ (i - 12) % 68 = 6) ∨ (452 ≤ i ∧ i < 1916 ∧ ((i - 452) % 24 ≤ 2 ∨ (i - 452) % 24 = 4)) → w' i = w i) (hn : GN w) (ho : GO w) (h : GQ w) : GQ w' := by
  intro o x y k u v
  obtain ⟨n7, n8, n9, n10, n11, -⟩ := hn
  rw [e 7 (by omega)] at y
  have hO := ho o x y
  rw [e (12 + 68 * o + 5) (by omega)] at v
  have g := h o x y k u v
  rw [e (12 + 68 * o + 7 + k) (by omega), e 9 (by omega), e (452 + 24 * w (12 + 68 * o + 7 + k) + 1) (by omega), e (452 + 24 * w (12 + 68 * o + 7 + k) + 4) (by omega)]
  refine ⟨g.1, g.2.1, g.2.2.1, fun i a b => ?_⟩
  have gi := h o x y i a (by omega)
  rw [e (12 + 68 * o + 7 + i) (by omega), e (452 + 24 * w (12 + 68 * o + 7 + k) + 2) (by omega), e (452 + 24 * w (12 + 68 * o + 7 + k) + 0) (by omega), e (452 + 24 * w (12 + 68 * o + 7 + i) + 2) (by omega), e (452 + 24 * w (12 + 68 * o + 7 + i) + 0) (by omega)]
  exact g.2.2.2 i a b
theorem GT.k {w w' : Row} (e : ∀ i, i = 0 ∨ i = 7 ∨ i = 8 ∨ i = 9 ∨ (12 ≤ i ∧ i < 420 ∧ 5 ≤ (i - 12) % 68 ∧ ¬ (i - 12) % 68 = 6) ∨ (452 ≤ i ∧ i < 1916 ∧ (i - 452) % 24 ≤ 4) → w' i = w i) (hn : GN w) (ho : GO w) (h : GT w) : GT w' := by
  intro t x y
  obtain ⟨n7, n8, n9, n10, n11, -⟩ := hn
  rw [e 9 (by omega)] at y
  have g := h t x y
  rw [e (452 + 24 * t + 0) (by omega), e (452 + 24 * t + 1) (by omega), e (452 + 24 * t + 2) (by omega), e (452 + 24 * t + 3) (by omega), e (452 + 24 * t + 4) (by omega), e 0 (by omega), e 7 (by omega), e 8 (by omega)]
  refine ⟨g.1, g.2.1, g.2.2.1, g.2.2.2.1, fun z => ?_, g.2.2.2.2.2⟩
  obtain ⟨g1, k, g2, g3, g4⟩ := g.2.2.2.2.1 z
  have hO := ho _ g.2.1.1 g.2.1.2
  exact ⟨g1, k, g2, by rw [e _ (by omega)]; exact g3, by rw [e _ (by omega)]; exact g4⟩
theorem GC.k {w w' : Row} (e : ∀ i, i = 0 ∨ i = 9 ∨ (452 ≤ i ∧ i < 1916 ∧ 3 ≤ (i - 452) % 24 ∧ ¬ (i - 452) % 24 = 7) → w' i = w i) (hn : GN w) (h : GC w) : GC w' := by
  intro t x y
  obtain ⟨n7, n8, n9, n10, n11, -⟩ := hn
  rw [e 9 (by omega)] at y
  have g := h t x y
  rw [e (452 + 24 * t + 5) (by omega), e (452 + 24 * t + 6) (by omega), e (452 + 24 * t + 3) (by omega), e (452 + 24 * t + 4) (by omega), e 0 (by omega)]
  exact ⟨g.1, g.2.1, g.2.2.1, g.2.2.2.1, fun p a b => by rw [e (452 + 24 * t + 8 + p) (by omega)]; exact g.2.2.2.2 p a b⟩
theorem perO_k {w w' : Row} (e : ∀ i, (1916 ≤ i ∧ i < 2916 ∧ (i - 1916) % 5 = 1) ∨ (452 ≤ i ∧ i < 1916 ∧ (i - 452) % 24 = 0) → w' i = w i) (h9 : 0 ≤ w 9 ∧ w 9 ≤ 60) (h10 : 0 ≤ w 10 ∧ w 10 ≤ 200) {k : Int} (h0 : 0 ≤ k) (h1 : k < w 10) (g : 0 ≤ w (1916 + 5 * k + 1) ∧ w (1916 + 5 * k + 1) < w 9) : perO w' k = perO w k := by
  unfold perO
  rw [e (1916 + 5 * k + 1) (by omega), e _ (by omega)]
theorem GK.k {w w' : Row} (e : ∀ i, i = 0 ∨ i = 8 ∨ i = 9 ∨ i = 10 ∨ (1916 ≤ i ∧ i < 2916) ∨ (452 ≤ i ∧ i < 1916 ∧ (i - 452) % 24 = 0) → w' i = w i) (hn : GN w) (h : GK w) : GK w' := by
  intro k x y
  rw [e 10 (by omega)] at y
  have g := h k x y
  obtain ⟨n7, n8, n9, n10, n11, -⟩ := id hn
  have p := perO_k (fun i hi => e i (by omega)) n9 n10 x y g.2.1
  rw [e (1916 + 5 * k + 0) (by omega), e (1916 + 5 * k + 1) (by omega), e (1916 + 5 * k + 2) (by omega), e (1916 + 5 * k + 3) (by omega), e (1916 + 5 * k + 4) (by omega), e 8 (by omega), e 9 (by omega), e 0 (by omega), p]
  refine ⟨g.1, g.2.1, g.2.2.1, g.2.2.2.1, g.2.2.2.2.1, fun i a b => ?_⟩
  rw [e (1916 + 5 * i + 2) (by omega), perO_k (fun i hi => e i (by omega)) n9 n10 a (by omega) (h i a (by omega)).2.1]
  exact g.2.2.2.2.2 i a b
theorem GK.k2 {w w' : Row} (e : ∀ i, i = 0 ∨ i = 8 ∨ i = 9 ∨ i = 10 ∨ (1916 ≤ i ∧ i < 2916 ∧ ¬ (i - 1916) % 5 = 0 ∧ ¬ (i - 1916) % 5 = 3) ∨ (452 ≤ i ∧ i < 1916 ∧ (i - 452) % 24 = 0) → w' i = w i) (hn : GN w) (hz : ∀ k, 0 ≤ k → k < w 10 → (0 ≤ w' (1916 + 5 * k + 0) ∧ w' (1916 + 5 * k + 0) < w 8) ∧ (0 ≤ w' (1916 + 5 * k + 3) ∧ w' (1916 + 5 * k + 3) ≤ 2)) (h : GK w) : GK w' := by
  intro k x y
  rw [e 10 (by omega)] at y
  have g := h k x y
  obtain ⟨n7, n8, n9, n10, n11, -⟩ := id hn
  have p := perO_k (fun i hi => e i (by omega)) n9 n10 x y g.2.1
  rw [e (1916 + 5 * k + 1) (by omega), e (1916 + 5 * k + 2) (by omega), e (1916 + 5 * k + 4) (by omega), e 8 (by omega), e 9 (by omega), e 0 (by omega), p]
  refine ⟨(hz k x y).1, g.2.1, g.2.2.1, (hz k x y).2, g.2.2.2.2.1, fun i a b => ?_⟩
  rw [e (1916 + 5 * i + 2) (by omega), perO_k (fun i hi => e i (by omega)) n9 n10 a (by omega) (h i a (by omega)).2.1]
  exact g.2.2.2.2.2 i a b
theorem GR.k {w w' : Row} (e : ∀ i, i = 10 ∨ i = 11 ∨ (1916 ≤ i ∧ i < 2916 ∧ (i - 1916) % 5 = 3) ∨ (2916 ≤ i ∧ i < 3116) → w' i = w i) (hn : GN w) (h : GR w) : GR w' := by
  obtain ⟨n7, n8, n9, n10, n11, -⟩ := hn
  refine ⟨?_, fun k x y => ?_⟩
  · rw [e 11 (by omega), e 10 (by omega), h.1]
    refine csum_congr (fun k a b => ?_)
    rw [e (1916 + 5 * k + 3) (by omega)]
  · rw [e 11 (by omega)] at y
    have g := h.2 k x y
    rw [e (2916 + k) (by omega), e 10 (by omega), e _ (by omega)]
    exact ⟨g.1, g.2.1, fun i a b => by rw [e (2916 + i) (by omega)]; exact g.2.2 i a b⟩
theorem RelA.k {s : Int} {d d' : mD} {w w' : Row} (hd : ∀ b, b = s ∨ b = s + 1 → d' b = d b) (e : ∀ i, 0 ≤ i ∧ i ≤ 6 → w' i = w i) (h : RelA s d w) : RelA s d' w' := by
  obtain ⟨a1, a2, a3⟩ := h
  refine ⟨by rw [hd s (Or.inl rfl), e 1 (by omega)]; exact a1, by rw [hd s (Or.inl rfl), e 0 (by omega)]; exact a2, fun k x y => by rw [hd (s + 1) (Or.inr rfl), e (2 + k) (by omega)]; exact a3 k x y⟩
theorem RelO.k {s : Int} {d d' : mD} {w w' : Row} (hd : ∀ b, s + 2 ≤ b → b ≤ s + 8 → d' b = d b) (e : ∀ i, i = 7 ∨ (12 ≤ i ∧ i < 420 ∧ (i - 12) % 68 ≤ 5) → w' i = w i) (h7 : 0 ≤ w 7 ∧ w 7 ≤ 6) (h : RelO s d w) : RelO s d' w' := by
  obtain ⟨o1, o2⟩ := h
  refine ⟨by rw [hd _ (by omega) (by omega), e 7 (by omega)]; exact o1, fun o x y => ?_⟩
  rw [e 7 (by omega)] at y
  rw [hd (s + 3) (by omega) (by omega), hd (s + 4) (by omega) (by omega), hd (s + 5) (by omega) (by omega), hd (s + 6) (by omega) (by omega), hd (s + 7) (by omega) (by omega), hd (s + 8) (by omega) (by omega), e (12 + 68 * o + 0) (by omega), e (12 + 68 * o + 1) (by omega), e (12 + 68 * o + 2) (by omega), e (12 + 68 * o + 3) (by omega), e (12 + 68 * o + 4) (by omega), e (12 + 68 * o + 5) (by omega)]
  exact o2 o x y
theorem RelQ.k {s : Int} {d d' : mD} {w w' : Row} (hd : d' (s + 9) = d (s + 9)) (e : ∀ i, i = 7 ∨ (12 ≤ i ∧ i < 420 ∧ 5 ≤ (i - 12) % 68 ∧ ¬ (i - 12) % 68 = 6) → w' i = w i) (h7 : 0 ≤ w 7 ∧ w 7 ≤ 6) (hO : GO w) (h : RelQ s d w) : RelQ s d' w' := by
  intro o x y k u v
  rw [e 7 (by omega)] at y
  have g := hO o x y
  rw [e (12 + 68 * o + 5) (by omega)] at v
  rw [hd, e (12 + 68 * o + 7 + k) (by omega)]
  exact h o x y k u v
theorem RelP.k {s : Int} {d d' : mD} {w w' : Row} (hd : ∀ b, s + 10 ≤ b → b ≤ s + 12 → d' b = d b) (e : ∀ i, i = 8 ∨ (420 ≤ i ∧ i < 452) → w' i = w i) (h8 : 0 ≤ w 8 ∧ w 8 ≤ 16) (h : RelP s d w) : RelP s d' w' := by
  obtain ⟨p1, p2⟩ := h
  refine ⟨by rw [hd _ (by omega) (by omega), e 8 (by omega)]; exact p1, fun p x y => ?_⟩
  rw [e 8 (by omega)] at y
  rw [hd (s + 11) (by omega) (by omega), hd (s + 12) (by omega) (by omega), e (420 + 2 * p + 0) (by omega), e (420 + 2 * p + 1) (by omega)]
  exact p2 p x y
theorem RelT.k {s : Int} {d d' : mD} {w w' : Row} (hd : ∀ b, s + 49 ≤ b → b ≤ s + 54 → d' b = d b) (e : ∀ i, i = 9 ∨ (452 ≤ i ∧ i < 1916 ∧ (i - 452) % 24 ≤ 4) → w' i = w i) (h9 : 0 ≤ w 9 ∧ w 9 ≤ 60) (h : RelT s d w) : RelT s d' w' := by
  obtain ⟨t1, t2⟩ := h
  refine ⟨by rw [hd _ (by omega) (by omega), e 9 (by omega)]; exact t1, fun t x y => ?_⟩
  rw [e 9 (by omega)] at y
  rw [hd (s + 50) (by omega) (by omega), hd (s + 51) (by omega) (by omega), hd (s + 52) (by omega) (by omega), hd (s + 53) (by omega) (by omega), hd (s + 54) (by omega) (by omega), e (452 + 24 * t + 0) (by omega), e (452 + 24 * t + 1) (by omega), e (452 + 24 * t + 2) (by omega), e (452 + 24 * t + 3) (by omega), e (452 + 24 * t + 4) (by omega)]
  exact t2 t x y
theorem RelC.k {s : Int} {d d' : mD} {w w' : Row} (hd : ∀ b, b = s + 55 ∨ b = s + 56 → d' b = d b) (e : ∀ i, i = 9 ∨ (452 ≤ i ∧ i < 1916 ∧ 5 ≤ (i - 452) % 24) → w' i = w i) (h9 : 0 ≤ w 9 ∧ w 9 ≤ 60) (h : RelC s d w) : RelC s d' w' := by
  intro t x y
  rw [e 9 (by omega)] at y
  obtain ⟨g1, g2, g3, g4⟩ := h t x y
  rw [hd (s + 55) (by omega), hd (s + 56) (by omega), e (452 + 24 * t + 5) (by omega), e (452 + 24 * t + 6) (by omega), e (452 + 24 * t + 7) (by omega)]
  refine ⟨g1, ?_, fun p u v => by rw [e (452 + 24 * t + 8 + p) (by omega)]; exact g3 p u v, g4⟩
  rw [g2]
  exact csum_congr (fun p u v => by rw [e (452 + 24 * t + 8 + p) (by omega)])
theorem RelK.k {s : Int} {d d' : mD} {w w' : Row} (hd0 : d' (s + 57) 0 = d (s + 57) 0) (hd : ∀ b, s + 58 ≤ b → b ≤ s + 61 → d' b = d b) (e : ∀ i, i = 10 ∨ (1916 ≤ i ∧ i < 2916 ∧ (i - 1916) % 5 ≤ 3) → w' i = w i) (h10 : 0 ≤ w 10 ∧ w 10 ≤ 200) (h : RelK s d w) : RelK s d' w' := by
  obtain ⟨k1, k2⟩ := h
  refine ⟨by rw [hd0, e 10 (by omega)]; exact k1, fun k x y => ?_⟩
  rw [e 10 (by omega)] at y
  rw [hd (s + 58) (by omega) (by omega), hd (s + 59) (by omega) (by omega), hd (s + 60) (by omega) (by omega), hd (s + 61) (by omega) (by omega), e (1916 + 5 * k + 0) (by omega), e (1916 + 5 * k + 1) (by omega), e (1916 + 5 * k + 2) (by omega), e (1916 + 5 * k + 3) (by omega)]
  exact k2 k x y
theorem RelR.k {s : Int} {d d' : mD} {w w' : Row} (hd5 : d' (s + 57) 5 = d (s + 57) 5) (hd : d' (s + 62) = d (s + 62)) (e : ∀ i, i = 11 ∨ (2916 ≤ i ∧ i < 3116) → w' i = w i) (h11 : 0 ≤ w 11 ∧ w 11 ≤ 200) (h : RelR s d w) : RelR s d' w' := by
  obtain ⟨r1, r2⟩ := h
  refine ⟨by rw [hd5, e 11 (by omega)]; exact r1, fun k x y => ?_⟩
  rw [e 11 (by omega)] at y
  rw [hd, e (2916 + k) (by omega)]
  exact r2 k x y
theorem ndB {t p : Int} (t0 : 0 ≤ t) (t1 : t < 60) (h0 : 0 ≤ p) (h1 : p < 16) : (452 + 24 * t + 8 + p) = 0 ∨ (452 + 24 * t + 8 + p) = 8 ∨ (452 + 24 * t + 8 + p) = 9 ∨ (452 + 24 * t + 8 + p) = 10 ∨ (452 ≤ (452 + 24 * t + 8 + p) ∧ (452 + 24 * t + 8 + p) < 1916 ∧ (((452 + 24 * t + 8 + p) - 452) % 24 = 0 ∨ 8 ≤ ((452 + 24 * t + 8 + p) - 452) % 24)) ∨ (1916 ≤ (452 + 24 * t + 8 + p) ∧ (452 + 24 * t + 8 + p) < 2916 ∧ (((452 + 24 * t + 8 + p) - 1916) % 5 = 1 ∨ ((452 + 24 * t + 8 + p) - 1916) % 5 = 4)) := Or.inr (Or.inr (Or.inr (Or.inr (Or.inl ⟨by omega, by omega, Or.inr (by omega)⟩))))
theorem madeR_k {w w' : Row} (e : ∀ i, i = 0 ∨ i = 8 ∨ i = 9 ∨ i = 10 ∨ (452 ≤ i ∧ i < 1916 ∧ ((i - 452) % 24 = 0 ∨ 8 ≤ (i - 452) % 24)) ∨ (1916 ≤ i ∧ i < 2916 ∧ ((i - 1916) % 5 = 1 ∨ (i - 1916) % 5 = 4)) → w' i = w i) (h9 : 0 ≤ w 9 ∧ w 9 ≤ 60) (h10 : 0 ≤ w 10 ∧ w 10 ≤ 200) (hK : ∀ k, 0 ≤ k → k < w 10 → 0 ≤ w (1916 + 5 * k + 1) ∧ w (1916 + 5 * k + 1) < w 9) (p : Int) : madeR w' p = madeR w p := by
  unfold madeR
  rw [e 10 (by omega)]
  refine csum_congr (fun k a b => ?_)
  rw [perO_k (fun i hi => e i (by omega)) h9 h10 a (by omega) (hK k a (by omega)), e (1916 + 5 * k + 4) (by omega), e 0 (by omega)]
theorem attR_k {w w' : Row} (e : ∀ i, i = 0 ∨ i = 8 ∨ i = 9 ∨ i = 10 ∨ (452 ≤ i ∧ i < 1916 ∧ ((i - 452) % 24 = 0 ∨ 8 ≤ (i - 452) % 24)) ∨ (1916 ≤ i ∧ i < 2916 ∧ ((i - 1916) % 5 = 1 ∨ (i - 1916) % 5 = 4)) → w' i = w i) (h9 : 0 ≤ w 9 ∧ w 9 ≤ 60) {p : Int} (h0 : 0 ≤ p) (h1 : p < 16) : attR w' p = attR w p := by
  unfold attR
  rw [e 9 (by omega)]
  refine csum_congr (fun t a b => ?_)
  rw [e (452 + 24 * t + 8 + p) (ndB (by omega) (by omega) (by omega) (by omega)), e 0 (by omega)]
theorem RelB.k {s : Int} {d d' : mD} {w w' : Row} (hd : ∀ b, s + 13 ≤ b → b ≤ s + 15 → d' b = d b) (e : ∀ i, i = 0 ∨ i = 8 ∨ i = 9 ∨ i = 10 ∨ (452 ≤ i ∧ i < 1916 ∧ ((i - 452) % 24 = 0 ∨ 8 ≤ (i - 452) % 24)) ∨ (1916 ≤ i ∧ i < 2916 ∧ ((i - 1916) % 5 = 1 ∨ (i - 1916) % 5 = 4)) → w' i = w i) (h8 : 0 ≤ w 8 ∧ w 8 ≤ 16) (h9 : 0 ≤ w 9 ∧ w 9 ≤ 60) (h10 : 0 ≤ w 10 ∧ w 10 ≤ 200) (hK : ∀ k, 0 ≤ k → k < w 10 → 0 ≤ w (1916 + 5 * k + 1) ∧ w (1916 + 5 * k + 1) < w 9) (h : RelB s d w) : RelB s d' w' := by
  intro p x y
  rw [e 8 (by omega)] at y
  obtain ⟨g1, g2, g3⟩ := h p x y
  rw [hd (s + 13) (by omega) (by omega), hd (s + 14) (by omega) (by omega), hd (s + 15) (by omega) (by omega)]
  refine ⟨by rw [madeR_k e h9 h10 hK]; exact g1, by rw [attR_k e h9 x (by omega)]; exact g2, fun q u v => (g3 q u v).trans ⟨?_, ?_⟩⟩
  · rintro ⟨t, z1, z2, z3, z4⟩
    refine ⟨t, z1, by rw [e 9 (by omega)]; exact z2, by rw [e (452 + 24 * t + 0) (by omega)]; exact z3, ?_⟩
    unfold attd at *
    rw [e (452 + 24 * t + 8 + p) (ndB (by omega) (by omega) (by omega) (by omega)), e 0 (by omega)]
    exact z4
  · rintro ⟨t, z1, z2, z3, z4⟩
    rw [e 9 (by omega)] at z2
    rw [e (452 + 24 * t + 0) (by omega)] at z3
    refine ⟨t, z1, z2, z3, ?_⟩
    unfold attd at *
    rw [e (452 + 24 * t + 8 + p) (ndB (by omega) (by omega) (by omega) (by omega)), e 0 (by omega)] at z4
    exact z4
theorem RelH.k {s : Int} {d d' : mD} {w w' : Row} (hd : ∀ b, s + 18 ≤ b → b ≤ s + 48 → d' b = d b) (e : ∀ i, i = 8 ∨ i = 10 ∨ (1916 ≤ i ∧ i < 2916 ∧ ((i - 1916) % 5 = 1 ∨ (i - 1916) % 5 = 2)) ∨ (452 ≤ i ∧ i < 1916 ∧ (i - 452) % 24 = 0) → w' i = w i) (h8 : 0 ≤ w 8 ∧ w 8 ≤ 16) (h9 : 0 ≤ w 9 ∧ w 9 ≤ 60) (h10 : 0 ≤ w 10 ∧ w 10 ≤ 200) (hK : ∀ k, 0 ≤ k → k < w 10 → 0 ≤ w (1916 + 5 * k + 1) ∧ w (1916 + 5 * k + 1) < w 9) (h : RelH s d w) : RelH s d' w' := by
  intro p x y h0 u v
  rw [e 8 (by omega)] at y
  rw [hd (s + 18 + 2 * p) (by omega) (by omega)]
  refine (h p x y h0 u v).trans ⟨?_, ?_⟩
  · rintro ⟨k, z1, z2, z3, z4⟩
    exact ⟨k, z1, by rw [e 10 (by omega)]; exact z2, by rw [e (1916 + 5 * k + 2) (by omega)]; exact z3, by rw [perO_k (fun i hi => e i (by omega)) h9 h10 z1 z2 (hK k z1 z2)]; exact z4⟩
  · rintro ⟨k, z1, z2, z3, z4⟩
    rw [e 10 (by omega)] at z2
    rw [e (1916 + 5 * k + 2) (by omega)] at z3
    rw [perO_k (fun i hi => e i (by omega)) h9 h10 z1 z2 (hK k z1 z2)] at z4
    exact ⟨k, z1, z2, z3, z4⟩
theorem GK.of {w : Row} (h : GK w) : ∀ k, 0 ≤ k → k < w 10 → 0 ≤ w (1916 + 5 * k + 1) ∧ w (1916 + 5 * k + 1) < w 9 := fun k a b => (h k a b).2.1
theorem csum_upd {f g : Int → Int} {n : Nat} {k : Int} (h0 : 0 ≤ k) (h1 : k < (n : Int)) (h : ∀ i : Int, 0 ≤ i → i < (n : Int) → ¬ i = k → f i = g i) : csum f n = csum g n + (f k - g k) := by
  induction n with
  | zero => omega
  | succ n ih =>
    show csum f n + f (n : Int) = csum g n + g (n : Int) + (f k - g k)
    by_cases hk : k = (n : Int)
    · rw [csum_congr (n := n) (f := f) (g := g) (fun i a b => h i a (by omega) (by omega)), hk]
      omega
    · rw [ih (by omega) (fun i a b c => h i a (by omega) c), h (n : Int) (by omega) (by omega) (by omega)]
      omega
/-! ===== paying the offered tokens: the class's settle and the reference's settles ===== -/
def StepS (w w' : Row) : Prop := w' 1 = w 1 - w 6 ∧ w' 11 = w 11 - 1 ∧ w' (420 + 2 * w (1916 + 5 * w 2916 + 0) + 1) = w (420 + 2 * w (1916 + 5 * w 2916 + 0) + 1) + w 6 ∧ w' (1916 + 5 * w 2916 + 3) = 2 ∧ (∀ k, 0 ≤ k → k < w 11 - 1 → w' (2916 + k) = w (2916 + k + 1))
  ∧ ∀ i, ¬ i = 1 → ¬ i = 11 → ¬ i = 420 + 2 * w (1916 + 5 * w 2916 + 0) + 1 → ¬ i = 1916 + 5 * w 2916 + 3 → ¬ (2916 ≤ i ∧ i < 2916 + w 11 - 1) → w' i = w i
theorem wse {w : Row} {i v j : Int} (h : j = i) : ws w i v j = v := by simp [ws, h]
theorem wsn {w : Row} {i v j : Int} (h : ¬ j = i) : ws w i v j = w j := by simp [ws, h]
theorem sh106 {R2 : Int → Row → Int × Row} : ∀ (n : Nat) (x1 b x : Int) (w : Row), 0 ≤ x → w 11 - x ≤ (n : Int) → ∃ w' : Row, LP_219_106 R2 n x1 b x w = R2 (x1 + 1) w' ∧ (∀ k, x ≤ k → k < w 11 → w' (2916 + k) = w (2916 + k + 1)) ∧ ∀ i, ¬ (2916 + x ≤ i ∧ i < 2916 + w 11) → w' i = w i := by
  intro n
  induction n with
  | zero =>
    intro x1 b x w h0 hn
    refine ⟨w, ?_, fun k a c => by omega, fun _ _ => rfl⟩
    show ST_219_106 R2 _ x1 b x w = _
    unfold ST_219_106
    rw [if_neg (by omega)]
  | succ n ih =>
    intro x1 b x w h0 hn
    by_cases hc : x < w 11
    · have e11 : ws w (2916 + x) (w (2916 + x + 1)) 11 = w 11 := wsn (by omega)
      obtain ⟨w', i1, i2, i3⟩ := ih x1 b (x + 1) (ws w (2916 + x) (w (2916 + x + 1))) (by omega) (by rw [e11]; omega)
      rw [e11] at i2 i3
      refine ⟨w', ?_, fun k a c => ?_, fun i hi => ?_⟩
      · rw [← i1]
        show ST_219_106 R2 _ x1 b x w = _
        unfold ST_219_106
        rw [if_pos hc]
      · by_cases hk : k = x
        · rw [i3 _ (by omega), wse (by omega), hk]
        · rw [i2 k (by omega) c, wsn (by omega)]
      · rw [i3 i (by omega), wsn (by omega)]
    · refine ⟨w, ?_, fun k a c => by omega, fun _ _ => rfl⟩
      show ST_219_106 R2 _ x1 b x w = _
      unfold ST_219_106
      rw [if_neg hc]
theorem st219 {n : Nat} {y : Int} {w : Row} (h11 : 0 < w 11) (hl : w 11 ≤ 200) (h6 : w 6 ≤ w 1) (hk : 0 ≤ w 2916 ∧ w 2916 ≤ 199) (ho : 0 ≤ w (1916 + 5 * w 2916 + 0) ∧ w (1916 + 5 * w 2916 + 0) ≤ 15) : ∃ w', LP_219_2 (n + 1) y w = LP_219_2 n (y + 1) w' ∧ StepS w w' := by
  generalize hu : (ws (ws (ws (ws w 1 ((w 1) - (w 6))) ((420 + (2 * (w ((1916 + (5 * (w 2916))) + 0)))) + 1) ((w ((420 + (2 * (w ((1916 + (5 * (w 2916))) + 0)))) + 1)) + (w 6))) ((1916 + (5 * (w 2916))) + 3) 2) 11 ((w 11) - 1)) = u
  have u11 : u 11 = w 11 - 1 := by rw [← hu]; exact wse rfl
  obtain ⟨w', i1, i2, i3⟩ := sh106 (R2 := LP_219_2 n) (200 - 0 : Int).toNat y (1916 + (5 * (w 2916))) 0 u (by decide) (by rw [u11, show (((200 - 0 : Int).toNat : Nat) : Int) = 200 by decide]; omega)
  rw [u11] at i2 i3
  refine ⟨w', ?_, ?_, ?_, ?_, ?_, fun k a b => ?_, fun i e1 e2 e3 e4 e5 => ?_⟩
  · rw [← i1]
    show ST_219_2 _ y w = _
    unfold ST_219_2
    rw [if_pos h11, if_neg (by omega), hu]
  · rw [i3 1 (by omega), ← hu]
    simp (disch := omega) only [wse, wsn]
  · rw [i3 11 (by omega), u11]
  · rw [i3 _ (by omega), ← hu]
    simp (disch := omega) only [wse, wsn]
  · rw [i3 _ (by omega), ← hu]
    simp (disch := omega) only [wse, wsn]
  · rw [i2 k a b, ← hu]
    simp (disch := omega) only [wse, wsn]
  · rw [i3 i (by omega), ← hu]
    simp (disch := omega) only [wse, wsn]
-- the state while the row of offered tokens is read from place m on
def RelR' (m s : Int) (d : mD) (w : Row) : Prop := d (s + 57) 5 = w 11 + m ∧ ∀ k, 0 ≤ k → k < w 11 → d (s + 62) (m + k) = w (2916 + k)
def RelS (m s : Int) (d : mD) (w : Row) : Prop := RelA s d w ∧ RelO s d w ∧ RelQ s d w ∧ RelP s d w ∧ RelT s d w ∧ RelC s d w ∧ RelK s d w ∧ RelR' m s d w ∧ RelB s d w ∧ RelH s d w
theorem stlStep {m s : Int} {d : mD} {w w' : Row} (hm : 0 ≤ m) (hg : GG w) (h : RelS m s d w) (h11 : 0 < w 11) (h6 : w 6 ≤ w 1) (hS : StepS w w') :
    GG w' ∧ RelS (m + 1) s (mset (mset (mset d s 1 (d s 1 - w 6)) (s + 10 + 2) (d (s + 57 + 1) (d (s + 57 + 5) m)) (d (s + 10 + 2) (d (s + 57 + 1) (d (s + 57 + 5) m)) + w 6)) (s + 57 + 4) (d (s + 57 + 5) m) 2) w' := by
  obtain ⟨hN, hO, hQ, hT, hC, hK, hR⟩ := hg
  obtain ⟨n7, n8, n9, n10, n11, n0, n1, n2, n3, n4, n5, n6⟩ := id hN
  obtain ⟨⟨a1, a2, a3⟩, rO, rQ, ⟨p1, p2⟩, rT, rC, ⟨k1, k2⟩, ⟨r1, r2⟩, rB, rH⟩ := h
  obtain ⟨s1, s2, s3, s4, s5, s6⟩ := hS
  simp only [Int.add_assoc, Int.reduceAdd]
  have etk : d (s + 62) m = w 2916 := by
    have := r2 0 (by omega) h11
    simpa using this
  have gtk := (hR.2 0 (by omega) h11).1
  simp only [Int.add_zero] at gtk
  have eow := (k2 (w 2916) gtk.1 gtk.2).1
  have gow := (hK (w 2916) gtk.1 gtk.2).1
  have gk3 := (hR.2 0 (by omega) h11).2.1
  simp only [Int.add_zero] at gk3
  rw [etk, eow]
  generalize hd : (mset (mset (mset d s 1 (d s 1 - w 6)) (s + 12) (w (1916 + 5 * w 2916 + 0)) (d (s + 12) (w (1916 + 5 * w 2916 + 0)) + w 6)) (s + 61) (w 2916) 2) = d'
  have fd : ∀ b, ¬ b = s → ¬ b = s + 12 → ¬ b = s + 61 → d' b = d b := fun b x y z => by
    rw [← hd]
    funext j
    simp (disch := omega) only [ms_a]
  have e7 : w' 7 = w 7 := s6 7 (by omega) (by omega) (by omega) (by omega) (by omega)
  have e10 : w' 10 = w 10 := s6 10 (by omega) (by omega) (by omega) (by omega) (by omega)
  refine ⟨⟨?_, hO.k (fun i hi => s6 i (by omega) (by omega) (by omega) (by omega) (by omega)) hN, hQ.k (fun i hi => s6 i (by omega) (by omega) (by omega) (by omega) (by omega)) hN hO, hT.k (fun i hi => s6 i (by omega) (by omega) (by omega) (by omega) (by omega)) hN hO, hC.k (fun i hi => s6 i (by omega) (by omega) (by omega) (by omega) (by omega)) hN, ?_, ?_⟩, ?_⟩
  · unfold GN
    rw [s1, s2, s6 0 (by omega) (by omega) (by omega) (by omega) (by omega), s6 2 (by omega) (by omega) (by omega) (by omega) (by omega), s6 3 (by omega) (by omega) (by omega) (by omega) (by omega), s6 4 (by omega) (by omega) (by omega) (by omega) (by omega), s6 5 (by omega) (by omega) (by omega) (by omega) (by omega), s6 6 (by omega) (by omega) (by omega) (by omega) (by omega), e7, s6 8 (by omega) (by omega) (by omega) (by omega) (by omega), s6 9 (by omega) (by omega) (by omega) (by omega) (by omega), e10]
    omega
  · refine hK.k2 (fun i hi => s6 i (by omega) (by omega) (by omega) (by omega) (by omega)) hN (fun k x y => ?_)
    have g := hK k x y
    refine ⟨by rw [s6 _ (by omega) (by omega) (by omega) (by omega) (by omega)]; exact g.1, ?_⟩
    by_cases hk : k = w 2916
    · rw [hk, s4]; omega
    · rw [s6 _ (by omega) (by omega) (by omega) (by omega) (by omega)]; exact g.2.2.2.1
  · refine ⟨?_, fun k x y => ?_⟩
    · rw [s2, e10, hR.1]
      rw [csum_upd (f := fun k => if w' (1916 + 5 * k + 3) = 1 then 1 else 0) (g := fun k => if w (1916 + 5 * k + 3) = 1 then 1 else 0) (k := w 2916) gtk.1 (by omega) (fun i a b c => by
        show (if w' (1916 + 5 * i + 3) = 1 then (1 : Int) else 0) = if w (1916 + 5 * i + 3) = 1 then 1 else 0
        rw [s6 _ (by omega) (by omega) (by omega) (by omega) (by omega)])]
      rw [s4, gk3]
      simp
      omega
    · rw [s2] at y
      have g := hR.2 (k + 1) (by omega) (by omega)
      rw [show (2916 : Int) + (k + 1) = 2916 + k + 1 by omega] at g
      have hne : ¬ w (2916 + k + 1) = w 2916 := fun q => g.2.2 0 (by omega) (by omega) (by simpa using q.symm)
      rw [s5 k x y, e10, s6 (1916 + 5 * w (2916 + k + 1) + 3) (by omega) (by omega) (by omega) (by omega) (by omega)]
      refine ⟨g.1, g.2.1, fun i a b => ?_⟩
      rw [s5 i a (by omega)]
      have := g.2.2 (i + 1) (by omega) (by omega)
      rwa [show (2916 : Int) + (i + 1) = 2916 + i + 1 by omega] at this
  · refine ⟨⟨?_, ?_, fun k x y => ?_⟩, rO.k (fun b x y => fd b (by omega) (by omega) (by omega)) (fun i hi => s6 i (by omega) (by omega) (by omega) (by omega) (by omega)) n7, rQ.k (fd _ (by omega) (by omega) (by omega)) (fun i hi => s6 i (by omega) (by omega) (by omega) (by omega) (by omega)) n7 hO, ⟨?_, fun p x y => ?_⟩, rT.k (fun b x y => fd b (by omega) (by omega) (by omega)) (fun i hi => s6 i (by omega) (by omega) (by omega) (by omega) (by omega)) n9, rC.k (fun b x => fd b (by omega) (by omega) (by omega)) (fun i hi => s6 i (by omega) (by omega) (by omega) (by omega) (by omega)) n9, ⟨?_, fun k x y => ?_⟩, ⟨?_, fun k x y => ?_⟩, rB.k (fun b x y => fd b (by omega) (by omega) (by omega)) (fun i hi => s6 i (by omega) (by omega) (by omega) (by omega) (by omega)) n8 n9 n10 hK.of, rH.k (fun b x y => fd b (by omega) (by omega) (by omega)) (fun i hi => s6 i (by omega) (by omega) (by omega) (by omega) (by omega)) n8 n9 n10 hK.of⟩
    · rw [s1, ← hd, ← a1]
      simp (disch := omega) only [ms_a, ms_e]
    · rw [s6 0 (by omega) (by omega) (by omega) (by omega) (by omega), ← hd, ← a2]
      simp (disch := omega) only [ms_a, ms_i]
    · rw [s6 _ (by omega) (by omega) (by omega) (by omega) (by omega), fd _ (by omega) (by omega) (by omega)]
      exact a3 k x y
    · rw [fd _ (by omega) (by omega) (by omega), s6 8 (by omega) (by omega) (by omega) (by omega) (by omega)]
      exact p1
    · rw [s6 8 (by omega) (by omega) (by omega) (by omega) (by omega)] at y
      have g := p2 p x y
      refine ⟨by rw [fd _ (by omega) (by omega) (by omega), s6 _ (by omega) (by omega) (by omega) (by omega) (by omega)]; exact g.1, ?_⟩
      rw [← hd]
      by_cases hp : p = w (1916 + 5 * w 2916 + 0)
      · rw [hp, s3]
        simp (disch := omega) only [ms_a, ms_e]
        rw [(p2 _ gow.1 gow.2).2]
      · rw [s6 _ (by omega) (by omega) (by omega) (by omega) (by omega)]
        simp (disch := omega) only [ms_a, ms_i]
        exact g.2
    · rw [fd _ (by omega) (by omega) (by omega), e10]
      exact k1
    · rw [e10] at y
      have g := k2 k x y
      rw [fd (s + 58) (by omega) (by omega) (by omega), fd (s + 59) (by omega) (by omega) (by omega), fd (s + 60) (by omega) (by omega) (by omega), s6 (1916 + 5 * k + 0) (by omega) (by omega) (by omega) (by omega) (by omega), s6 (1916 + 5 * k + 1) (by omega) (by omega) (by omega) (by omega) (by omega), s6 (1916 + 5 * k + 2) (by omega) (by omega) (by omega) (by omega) (by omega)]
      refine ⟨g.1, g.2.1, g.2.2.1, ?_⟩
      rw [← hd]
      by_cases hk : k = w 2916
      · rw [hk, s4]
        simp (disch := omega) only [ms_e]
      · rw [s6 _ (by omega) (by omega) (by omega) (by omega) (by omega)]
        simp (disch := omega) only [ms_a, ms_i]
        exact g.2.2.2
    · rw [fd _ (by omega) (by omega) (by omega), s2, r1]
      omega
    · rw [s2] at y
      rw [fd _ (by omega) (by omega) (by omega), s5 k x y, show m + 1 + k = m + (k + 1) by omega, r2 (k + 1) (by omega) (by omega), show (2916 : Int) + (k + 1) = 2916 + k + 1 by omega]
theorem stlLoop {s : Int} : ∀ (nc nr : Nat) (m y : Int) (d : mD) (w : Row), 0 ≤ m → GG w → RelS m s d w → w 11 ≤ (nc : Int) → w 11 ≤ (nr : Int) → ∃ (j : Int) (d' : mD) (w' : Row), 0 ≤ j ∧ lp_82_9 s nc m (w 6) d = (m + j, g_116 (s + 57) (m + j) d') ∧ LP_219_2 nr y w = (y + j, w') ∧ GG w' ∧ RelS (m + j) s d' w' ∧ d' (s + 57) 5 = d (s + 57) 5 ∧ ∀ i, ¬ i = 1 → ¬ i = 11 → ¬ (420 ≤ i ∧ i < 452) → i < 1916 → w' i = w i := by
  intro nc
  induction nc with
  | zero =>
    intro nr m y d w hm hg h h1 h2
    have n11 := hg.1.2.2.2.2.1
    obtain ⟨-, -, -, -, -, -, -, ⟨r1, -⟩, -⟩ := id h
    refine ⟨0, d, w, by omega, ?_, ?_, hg, by rw [Int.add_zero]; exact h, rfl, fun _ _ _ _ _ => rfl⟩
    · show st_82_9 s _ m (w 6) d = _
      unfold st_82_9
      rw [if_neg (by omega), Int.add_zero]
    · cases nr with
      | zero =>
        show ST_219_2 _ y w = _
        unfold ST_219_2
        rw [if_neg (by omega), Int.add_zero]
      | succ nr =>
        show ST_219_2 _ y w = _
        unfold ST_219_2
        rw [if_neg (by omega), Int.add_zero]
  | succ nc ih =>
    intro nr m y d w hm hg h h1 h2
    obtain ⟨hN, hO, hQ, hT, hC, hK, hR⟩ := id hg
    obtain ⟨n7, n8, n9, n10, n11, n0, n1, n2, n3, n4, n5, n6⟩ := id hN
    obtain ⟨⟨a1, -⟩, -, -, -, -, -, -, ⟨r1, -⟩, -⟩ := id h
    by_cases c1 : 0 < w 11
    · by_cases c2 : w 1 < w 6
      · refine ⟨0, d, w, by omega, ?_, ?_, hg, by rw [Int.add_zero]; exact h, rfl, fun _ _ _ _ _ => rfl⟩
        · show st_82_9 s _ m (w 6) d = _
          unfold st_82_9
          rw [if_pos (by omega), if_pos (by omega), Int.add_zero]
        · cases nr with
          | zero => omega
          | succ nr =>
            show ST_219_2 _ y w = _
            unfold ST_219_2
            rw [if_pos c1, if_pos c2, Int.add_zero]
      · cases nr with
        | zero => omega
        | succ nr =>
          have gtk := (hR.2 0 (by omega) c1).1
          simp only [Int.add_zero] at gtk
          have gow := (hK (w 2916) gtk.1 gtk.2).1
          obtain ⟨w', e1, hS⟩ := st219 (n := nr) (y := y) c1 n11.2 (by omega) (by omega) (by omega)
          obtain ⟨g', h'⟩ := stlStep hm hg h c1 (by omega) hS
          have e6 : w' 6 = w 6 := hS.2.2.2.2.2 6 (by omega) (by omega) (by omega) (by omega) (by omega)
          have e11 := hS.2.1
          obtain ⟨j, d2, w2, j0, j1, j2, j3, j4, j5, j6⟩ := ih nr (m + 1) (y + 1) _ w' (by omega) g' h' (by omega) (by omega)
          refine ⟨j + 1, d2, w2, by omega, ?_, by rw [e1, j2, show y + 1 + j = y + (j + 1) by omega], j3, by rw [show m + (j + 1) = m + 1 + j by omega]; exact j4, by
            rw [j5]
            simp (disch := omega) only [ms_a], fun i x y z u => by rw [j6 i x y z u, hS.2.2.2.2.2 i x y (by omega) (by omega) (by omega)]⟩
          rw [show m + (j + 1) = m + 1 + j by omega, ← j1, e6]
          show st_82_9 s _ m (w 6) d = _
          unfold st_82_9
          rw [if_pos (by omega), if_neg (by omega)]
    · refine ⟨0, d, w, by omega, ?_, ?_, hg, by rw [Int.add_zero]; exact h, rfl, fun _ _ _ _ _ => rfl⟩
      · show st_82_9 s _ m (w 6) d = _
        unfold st_82_9
        rw [if_neg (by omega), Int.add_zero]
      · cases nr with
        | zero =>
          show ST_219_2 _ y w = _
          unfold ST_219_2
          rw [if_neg (by omega), Int.add_zero]
        | succ nr =>
          show ST_219_2 _ y w = _
          unfold ST_219_2
          rw [if_neg (by omega), Int.add_zero]
theorem drop116 {x m : Int} (hm : 0 ≤ m) : ∀ (n : Nat) (k : Int) (d : mD), m ≤ k → d x 5 - k ≤ (n : Int) → (∀ b, ¬ b = x → ¬ b = x + 5 → lp_116_2 x m n k d b = d b) ∧ (∀ j, ¬ j = 5 → lp_116_2 x m n k d x j = d x j) ∧ lp_116_2 x m n k d x 5 = d x 5 - m ∧ (∀ j, j < k - m → lp_116_2 x m n k d (x + 5) j = d (x + 5) j) ∧ ∀ j, k - m ≤ j → j < d x 5 - m → lp_116_2 x m n k d (x + 5) j = d (x + 5) (j + m) := by
  intro n
  induction n with
  | zero =>
    intro k d hk hn
    have e : lp_116_2 x m 0 k d = mset d x 5 (d x 5 - m) := by
      show st_116_2 x m _ k d = _
      unfold st_116_2
      rw [if_neg (by omega)]
    rw [e]
    exact ⟨fun b h1 h2 => by funext j; exact ms_a h1, fun j hj => ms_i hj, ms_e rfl rfl, fun j _ => ms_a (by omega), fun j a b => by omega⟩
  | succ n ih =>
    intro k d hk hn
    by_cases hc : k < d x 5
    · have e : lp_116_2 x m (n + 1) k d = lp_116_2 x m n (k + 1) (mset d (x + 5) (k - m) (d (x + 5) k)) := by
        show st_116_2 x m _ k d = _
        unfold st_116_2
        rw [if_pos hc]
      have e5 : mset d (x + 5) (k - m) (d (x + 5) k) x 5 = d x 5 := ms_a (by omega)
      rw [e]
      obtain ⟨i1, i2, i3, i4, i5⟩ := ih (k + 1) (mset d (x + 5) (k - m) (d (x + 5) k)) (by omega) (by rw [e5]; omega)
      rw [e5] at i3 i5
      refine ⟨fun b h1 h2 => by rw [i1 b h1 h2]; funext j; exact ms_a h2, fun j hj => by rw [i2 j hj, ms_a (by omega)], i3, fun j a => by rw [i4 j (by omega), ms_i (by omega)], fun j a b => ?_⟩
      by_cases hj : j = k - m
      · rw [i4 j (by omega), ms_e rfl hj]
        congr 1
        omega
      · rw [i5 j (by omega) b, ms_i (by omega)]
    · have e : lp_116_2 x m (n + 1) k d = mset d x 5 (d x 5 - m) := by
        show st_116_2 x m _ k d = _
        unfold st_116_2
        rw [if_neg hc]
      rw [e]
      exact ⟨fun b h1 h2 => by funext j; exact ms_a h1, fun j hj => ms_i hj, ms_e rfl rfl, fun j _ => ms_a (by omega), fun j a b => by omega⟩
theorem RelS.drop {m s : Int} {d : mD} {w : Row} (hm : 0 ≤ m) (hg : GG w) (h5 : d (s + 57) 5 ≤ 200) (h : RelS m s d w) : Rel s (g_116 (s + 57) m d) w := by
  obtain ⟨hN, hO, hQ, hT, hC, hK, hR⟩ := id hg
  obtain ⟨n7, n8, n9, n10, n11, n0, n1, n2, n3, n4, n5, n6⟩ := id hN
  obtain ⟨rA, rO, rQ, rP, rT, rC, rK, ⟨r1, r2⟩, rB, rH⟩ := h
  unfold g_116
  obtain ⟨i1, i2, i3, i4, i5⟩ := drop116 (x := s + 57) hm (200 - m : Int).toNat m d (by omega) (by omega)
  generalize lp_116_2 (s + 57) m (200 - m : Int).toNat m d = d' at *
  refine ⟨rA.k (fun b x => i1 b (by omega) (by omega)) (fun _ _ => rfl), rO.k (fun b x y => i1 b (by omega) (by omega)) (fun _ _ => rfl) n7, rQ.k (i1 _ (by omega) (by omega)) (fun _ _ => rfl) n7 hO, rP.k (fun b x y => i1 b (by omega) (by omega)) (fun _ _ => rfl) n8, rT.k (fun b x y => i1 b (by omega) (by omega)) (fun _ _ => rfl) n9, rC.k (fun b x => i1 b (by omega) (by omega)) (fun _ _ => rfl) n9, rK.k (i2 0 (by omega)) (fun b x y => i1 b (by omega) (by omega)) (fun _ _ => rfl) n10, ⟨by rw [i3, r1]; omega, fun k x y => ?_⟩, rB.k (fun b x y => i1 b (by omega) (by omega)) (fun _ _ => rfl) n8 n9 n10 hK.of, rH.k (fun b x y => i1 b (by omega) (by omega)) (fun _ _ => rfl) n8 n9 n10 hK.of⟩
  rw [show s + 62 = s + 57 + 5 by omega, i5 k (by omega) (by omega), show s + 57 + 5 = s + 62 by omega, Int.add_comm k m]
  exact r2 k x y
theorem settle {s : Int} {d : mD} {w : Row} (hg : GG w) (h : Rel s d w) : v_82 s d = V_219 w ∧ GG (W_219 w) ∧ Rel s (g_82 s d) (W_219 w) ∧ ∀ i, ¬ i = 1 → ¬ i = 11 → ¬ (420 ≤ i ∧ i < 452) → i < 1916 → W_219 w i = w i := by
  obtain ⟨n7, n8, n9, n10, n11, n0, n1, n2, n3, n4, n5, n6⟩ := id hg.1
  obtain ⟨rA, rO, rQ, rP, rT, rC, rK, ⟨r1, r2⟩, rB, rH⟩ := h
  have hS : RelS 0 s d w := ⟨rA, rO, rQ, rP, rT, rC, rK, ⟨by rw [r1]; omega, fun k x y => by rw [Int.zero_add]; exact r2 k x y⟩, rB, rH⟩
  obtain ⟨j, d', w', j0, j1, j2, j3, j4, j5, j6⟩ := stlLoop (s := s) (200 - 0 : Int).toNat (w 11).toNat 0 0 d w (by omega) hg hS (by rw [show (((200 - 0 : Int).toNat : Nat) : Int) = 200 by decide]; omega) (by omega)
  have e6 : d (s + 1) 4 = w 6 := rA.2.2 4 (by omega) (by omega)
  have e1 : f_82 s d = (0 + j, g_116 (s + 57) (0 + j) d') := by
    unfold f_82
    rw [e6]
    exact j1
  have e2 : F_219 w = (0 + j, w') := j2
  unfold v_82 g_82 V_219 W_219
  rw [e1, e2]
  exact ⟨rfl, j3, j4.drop (by omega) j3 (by omega), j6⟩
/-! ===== what else stands in a row: nobody witnesses before he is there, and a purse holds what was paid into it ===== -/
def GWt (w : Row) : Prop := ∀ t, 0 ≤ t → t < w 9 → ∀ q, w 8 ≤ q → q < 16 → w (452 + 24 * t + 8 + q) = 0
def C2 (w : Row) : Int := csum (fun k => if w (1916 + 5 * k + 3) = 2 then 1 else 0) (w 10).toNat
def GP (w : Row) : Prop := ∀ p, 0 ≤ p → p < w 8 → 0 ≤ w (420 + 2 * p + 1) ∧ w (420 + 2 * p + 1) ≤ 99 * C2 w
def GXI (w w' : Row) : Prop := GWt w → GP w → GWt w' ∧ GP w'
def XR (w w' : Row) : Prop := GXI w w' ∧ w' 0 = w 0
theorem GXI.trans {a b c : Row} (h : GXI a b) (g : GXI b c) : GXI a c := fun x y => g (h x y).1 (h x y).2
theorem XR.refl {w : Row} : XR w w := ⟨fun a b => ⟨a, b⟩, rfl⟩
theorem XR.trans {a b c : Row} (h : XR a b) (g : XR b c) : XR a c := ⟨h.1.trans g.1, g.2.trans h.2⟩
theorem C2_of {w w' : Row} (e10 : w' 10 = w 10) (e : ∀ k, 0 ≤ k → k < w 10 → (w' (1916 + 5 * k + 3) = 2 ↔ w (1916 + 5 * k + 3) = 2)) : C2 w' = C2 w := by
  unfold C2
  rw [e10]
  refine csum_congr (fun k a b => ?_)
  have z := e k a (by omega)
  by_cases q : w (1916 + 5 * k + 3) = 2
  · rw [if_pos q, if_pos (z.2 q)]
  · rw [if_neg q, if_neg (fun y => q (z.1 y))]
theorem GXI.keep {w w' : Row} (p8 : 0 ≤ w 8 ∧ w 8 ≤ 16) (e8 : w' 8 = w 8) (e9 : w' 9 = w 9) (ew : ∀ t q, 0 ≤ t → t < w 9 → w 8 ≤ q → q < 16 → w' (452 + 24 * t + 8 + q) = w (452 + 24 * t + 8 + q)) (ep : ∀ p, 0 ≤ p → p < 16 → w' (420 + 2 * p + 1) = w (420 + 2 * p + 1)) (ec : C2 w ≤ C2 w') : GXI w w' := by
  intro a b
  refine ⟨fun t x y q u v => ?_, fun p x y => ?_⟩
  · rw [e9] at y
    rw [e8] at u
    rw [ew t q x y u v]
    exact a t x y q u v
  · rw [e8] at y
    rw [ep p x (by omega)]
    have := b p x y
    omega
theorem stlX {s : Int} : ∀ (n : Nat) (m y : Int) (d : mD) (w : Row), 0 ≤ m → GG w → RelS m s d w → w 11 ≤ (n : Int) → XR w (LP_219_2 n y w).2 := by
  intro n
  induction n with
  | zero =>
    intro m y d w hm hg h hn
    show XR w (ST_219_2 _ y w).2
    unfold ST_219_2
    rw [if_neg (by omega)]
    exact XR.refl
  | succ n ih =>
    intro m y d w hm hg h hn
    by_cases c : 0 < w 11 ∧ ¬ w 1 < w 6
    · obtain ⟨hN, hO, hQ, hT, hC, hK, hR⟩ := id hg
      obtain ⟨n7, n8, n9, n10, n11, n0, n1, n2, n3, n4, n5, n6⟩ := id hN
      have gr := hR.2 0 (by omega) c.1
      simp only [Int.add_zero] at gr
      have gow := (hK (w 2916) gr.1.1 gr.1.2).1
      obtain ⟨w', e1, hS⟩ := st219 (n := n) (y := y) c.1 n11.2 (by omega) (by omega) (by omega)
      obtain ⟨g', h'⟩ := stlStep hm hg h c.1 (by omega) hS
      rw [e1]
      refine XR.trans ?_ (ih (m + 1) (y + 1) _ w' (by omega) g' h' (by have := hS.2.1; omega))
      obtain ⟨s1, s2, s3, s4, s5, s6⟩ := hS
      have e8 : w' 8 = w 8 := s6 8 (by omega) (by omega) (by omega) (by omega) (by omega)
      have e9 : w' 9 = w 9 := s6 9 (by omega) (by omega) (by omega) (by omega) (by omega)
      have e10 : w' 10 = w 10 := s6 10 (by omega) (by omega) (by omega) (by omega) (by omega)
      have ec : C2 w' = C2 w + 1 := by
        unfold C2
        rw [e10]
        have := csum_upd (f := fun k => if w' (1916 + 5 * k + 3) = 2 then (1 : Int) else 0) (g := fun k => if w (1916 + 5 * k + 3) = 2 then 1 else 0) (n := (w 10).toNat) (k := w 2916) gr.1.1 (by omega) (fun i a b c => by
          show (if w' (1916 + 5 * i + 3) = 2 then (1 : Int) else 0) = if w (1916 + 5 * i + 3) = 2 then 1 else 0
          rw [s6 _ (by omega) (by omega) (by omega) (by omega) (by omega)])
        rw [this]
        show _ + ((if w' (1916 + 5 * w 2916 + 3) = 2 then (1 : Int) else 0) - if w (1916 + 5 * w 2916 + 3) = 2 then 1 else 0) = _
        rw [s4, if_pos rfl, gr.2.1, if_neg (by decide)]
        omega
      refine ⟨fun a b => ⟨fun t x z q u v => ?_, fun p x z => ?_⟩, s6 0 (by omega) (by omega) (by omega) (by omega) (by omega)⟩
      · rw [e9] at z
        rw [e8] at u
        rw [s6 _ (by omega) (by omega) (by omega) (by omega) (by omega)]
        exact a t x z q u v
      · rw [e8] at z
        rw [ec]
        have := b p x z
        by_cases q : p = w (1916 + 5 * w 2916 + 0)
        · rw [q] at this ⊢
          rw [s3]
          omega
        · rw [s6 _ (by omega) (by omega) (by omega) (by omega) (by omega)]
          omega
    · have e : (LP_219_2 (n + 1) y w).2 = w := by
        show (ST_219_2 _ y w).2 = w
        unfold ST_219_2
        by_cases c1 : 0 < w 11
        · have c2 : w 1 < w 6 := by omega
          rw [if_pos c1, if_pos c2]
        · rw [if_neg c1]
      rw [e]
      exact XR.refl
theorem settleX {s : Int} {d : mD} {w : Row} (hg : GG w) (h : Rel s d w) : XR w (W_219 w) := by
  have n11 := hg.1.2.2.2.2.1
  obtain ⟨rA, rO, rQ, rP, rT, rC, rK, ⟨r1, r2⟩, rB, rH⟩ := h
  have hS : RelS 0 s d w := ⟨rA, rO, rQ, rP, rT, rC, rK, ⟨by rw [r1]; omega, fun k x y => by rw [Int.zero_add]; exact r2 k x y⟩, rB, rH⟩
  unfold W_219 F_219
  exact stlX (w 11).toNat 0 0 d w (by omega) hg hS (by omega)
/-! ===== queues: a ticket is taken out; the first one is served ===== -/
theorem lp220 {x1 x2 b : Int} : ∀ (n : Nat) (x : Int) (w : Row), 0 ≤ x → w (b + 5) - x ≤ (n : Int) → (∀ k, x ≤ k → k < w (b + 5) → LP_220_20 x1 x2 n b x w (b + 7 + k) = w (b + 7 + k + 1)) ∧ ∀ i, ¬ (b + 7 + x ≤ i ∧ i < b + 7 + w (b + 5)) → LP_220_20 x1 x2 n b x w i = w i := by
  intro n
  induction n with
  | zero =>
    intro x w h0 hn
    have e : LP_220_20 x1 x2 0 b x w = w := by
      show ST_220_20 x1 x2 _ b x w = _
      unfold ST_220_20
      rw [if_neg (by omega)]
    rw [e]
    exact ⟨fun k a c => by omega, fun _ _ => rfl⟩
  | succ n ih =>
    intro x w h0 hn
    by_cases hc : x < w (b + 5)
    · have e : LP_220_20 x1 x2 (n + 1) b x w = LP_220_20 x1 x2 n b (x + 1) (ws w (b + 7 + x) (w (b + 7 + x + 1))) := by
        show ST_220_20 x1 x2 _ b x w = _
        unfold ST_220_20
        rw [if_pos hc]
      have e5 : ws w (b + 7 + x) (w (b + 7 + x + 1)) (b + 5) = w (b + 5) := wsn (by omega)
      rw [e]
      obtain ⟨i1, i2⟩ := ih (x + 1) (ws w (b + 7 + x) (w (b + 7 + x + 1))) (by omega) (by rw [e5]; omega)
      rw [e5] at i1 i2
      refine ⟨fun k a c => ?_, fun i hi => ?_⟩
      · by_cases hk : k = x
        · rw [i2 _ (by omega), wse (by omega), hk]
        · rw [i1 k (by omega) c, wsn (by omega)]
      · rw [i2 i (by omega), wsn (by omega)]
    · have e : LP_220_20 x1 x2 (n + 1) b x w = w := by
        show ST_220_20 x1 x2 _ b x w = _
        unfold ST_220_20
        rw [if_neg hc]
      rw [e]
      exact ⟨fun k a c => by omega, fun _ _ => rfl⟩
def TakeW (o p : Int) (w w' : Row) : Prop := w' (12 + 68 * o + 5) = w (12 + 68 * o + 5) - 1 ∧ (∀ k, p ≤ k → k < w (12 + 68 * o + 5) - 1 → w' (12 + 68 * o + 7 + k) = w (12 + 68 * o + 7 + k + 1)) ∧ ∀ i, ¬ i = 12 + 68 * o + 5 → ¬ (12 + 68 * o + 7 + p ≤ i ∧ i < 12 + 68 * o + 7 + (w (12 + 68 * o + 5) - 1)) → w' i = w i
theorem take220 {o p : Int} {w : Row} (hp : 0 ≤ p) (hl : w (12 + 68 * o + 5) ≤ 62) (hp2 : p ≤ 61) : TakeW o p w (W_220 o p w) := by
  unfold W_220
  have e5 : ws w (12 + 68 * o + 5) (w (12 + 68 * o + 5) - 1) (12 + 68 * o + 5) = w (12 + 68 * o + 5) - 1 := wse rfl
  obtain ⟨i1, i2⟩ := lp220 (x1 := o) (x2 := p) (b := 12 + 68 * o) (61 - p : Int).toNat p (ws w (12 + 68 * o + 5) (w (12 + 68 * o + 5) - 1)) hp (by rw [e5]; omega)
  rw [e5] at i1 i2
  refine ⟨by rw [i2 _ (by omega), e5], fun k a b => by rw [i1 k a b, wsn (by omega)], fun i h1 h2 => by rw [i2 i h2, wsn h1]⟩
theorem lp41 {x0 o p : Int} : ∀ (n : Nat) (x : Int) (d : mD), 1 ≤ x → d (x0 + 6) o - x ≤ (n : Int) → (∀ b, ¬ b = x0 + 6 → ¬ b = x0 + 7 → lp_41_25 x0 o p n (o * 16) x d b = d b) ∧ (∀ j, ¬ j = o → lp_41_25 x0 o p n (o * 16) x d (x0 + 6) j = d (x0 + 6) j) ∧ lp_41_25 x0 o p n (o * 16) x d (x0 + 6) o = d (x0 + 6) o - 1 ∧ (∀ k, x - 1 ≤ k → k < d (x0 + 6) o - 1 → lp_41_25 x0 o p n (o * 16) x d (x0 + 7) (o * 16 + k) = d (x0 + 7) (o * 16 + k + 1)) ∧ ∀ j, ¬ (o * 16 + (x - 1) ≤ j ∧ j < o * 16 + (d (x0 + 6) o - 1)) → lp_41_25 x0 o p n (o * 16) x d (x0 + 7) j = d (x0 + 7) j := by
  intro n
  induction n with
  | zero =>
    intro x d h0 hn
    have e : lp_41_25 x0 o p 0 (o * 16) x d = mset d (x0 + 6) o (d (x0 + 6) o - 1) := by
      show st_41_25 x0 o p _ (o * 16) x d = _
      unfold st_41_25
      rw [if_neg (by omega)]
    rw [e]
    exact ⟨fun b h1 h2 => by funext j; exact ms_a h1, fun j hj => ms_i hj, ms_e rfl rfl, fun k a b => by omega, fun j hj => ms_a (by omega)⟩
  | succ n ih =>
    intro x d h0 hn
    by_cases hc : x < d (x0 + 6) o
    · have e : lp_41_25 x0 o p (n + 1) (o * 16) x d = lp_41_25 x0 o p n (o * 16) (x + 1) (mset d (x0 + 7) (o * 16 + x - 1) (d (x0 + 7) (o * 16 + x))) := by
        show st_41_25 x0 o p _ (o * 16) x d = _
        unfold st_41_25
        rw [if_pos hc]
      have e5 : ∀ j, mset d (x0 + 7) (o * 16 + x - 1) (d (x0 + 7) (o * 16 + x)) (x0 + 6) j = d (x0 + 6) j := fun j => ms_a (by omega)
      rw [e]
      obtain ⟨i1, i2, i3, i4, i5⟩ := ih (x + 1) (mset d (x0 + 7) (o * 16 + x - 1) (d (x0 + 7) (o * 16 + x))) (by omega) (by rw [e5]; omega)
      rw [e5] at i3 i4 i5
      refine ⟨fun b h1 h2 => by rw [i1 b h1 h2]; funext j; exact ms_a h2, fun j hj => by rw [i2 j hj, e5], i3, fun k a b => ?_, fun j hj => by rw [i5 j (by omega), ms_i (by omega)]⟩
      by_cases hk : k = x - 1
      · rw [i5 _ (by omega), ms_e rfl (by omega), hk]
        congr 1
        omega
      · rw [i4 k (by omega) b, ms_i (by omega)]
    · have e : lp_41_25 x0 o p (n + 1) (o * 16) x d = mset d (x0 + 6) o (d (x0 + 6) o - 1) := by
        show st_41_25 x0 o p _ (o * 16) x d = _
        unfold st_41_25
        rw [if_neg hc]
      rw [e]
      exact ⟨fun b h1 h2 => by funext j; exact ms_a h1, fun j hj => ms_i hj, ms_e rfl rfl, fun k a b => by omega, fun j hj => ms_a (by omega)⟩
def TakeD (s o p : Int) (d d' : mD) : Prop := (∀ b, ¬ b = s + 8 → ¬ b = s + 9 → d' b = d b) ∧ (∀ j, ¬ j = o → d' (s + 8) j = d (s + 8) j) ∧ d' (s + 8) o = d (s + 8) o - 1 ∧ (∀ k, p ≤ k → k < d (s + 8) o - 1 → d' (s + 9) (o * 16 + k) = d (s + 9) (o * 16 + k + 1)) ∧ ∀ j, ¬ (o * 16 + p ≤ j ∧ j < o * 16 + (d (s + 8) o - 1)) → d' (s + 9) j = d (s + 9) j
theorem take41 {s o p : Int} {d : mD} (hp : 0 ≤ p) (hl : p < d (s + 8) o) (hl2 : d (s + 8) o ≤ 16) : TakeD s o p d (g_41 (s + 2) o p d) := by
  unfold g_41
  have e8 : s + 2 + 6 = s + 8 := by omega
  have e9 : s + 2 + 7 = s + 9 := by omega
  rw [if_neg (by omega), if_pos (by rw [e8]; exact hl)]
  obtain ⟨i1, i2, i3, i4, i5⟩ := lp41 (x0 := s + 2) (o := o) (p := p) (16 - (p + 1) : Int).toNat (p + 1) d (by omega) (by rw [e8]; omega)
  rw [e8] at i1 i2 i3 i4 i5
  rw [e9] at i1 i4 i5
  rw [show p + 1 - 1 = p by omega] at i4 i5
  exact ⟨i1, i2, i3, i4, i5⟩
-- the first ticket of an office's queue is served
def RelN (s : Int) (d : mD) (w : Row) : Prop := RelA s d w ∧ RelO s d w ∧ RelQ s d w ∧ RelP s d w ∧ RelT s d w ∧ RelC s d w ∧ RelK s d w ∧ RelR s d w ∧ RelH s d w
theorem Rel.n {s : Int} {d : mD} {w : Row} (h : Rel s d w) : RelN s d w ∧ RelB s d w := by
  obtain ⟨a, b, c, e, f, g, i, j, k, l⟩ := h
  exact ⟨⟨a, b, c, e, f, g, i, j, l⟩, k⟩
theorem RelN.r {s : Int} {d : mD} {w : Row} (h : RelN s d w) (hB : RelB s d w) : Rel s d w := by
  obtain ⟨a, b, c, e, f, g, i, j, l⟩ := h
  exact ⟨a, b, c, e, f, g, i, j, hB, l⟩
def StepV (o : Int) (w w' : Row) : Prop := w' (12 + 68 * o + 5) = w (12 + 68 * o + 5) - 1 ∧ w' (12 + 68 * o + 6) = w (12 + 68 * o + 6) + 1 ∧ w' (452 + 24 * w (12 + 68 * o + 7) + 4) = 1 ∧ w' (452 + 24 * w (12 + 68 * o + 7) + 3) = w 0 ∧ (∀ k, 0 ≤ k → k < w (12 + 68 * o + 5) - 1 → w' (12 + 68 * o + 7 + k) = w (12 + 68 * o + 7 + k + 1))
  ∧ ∀ i, ¬ i = 12 + 68 * o + 5 → ¬ i = 12 + 68 * o + 6 → ¬ i = 452 + 24 * w (12 + 68 * o + 7) + 4 → ¬ i = 452 + 24 * w (12 + 68 * o + 7) + 3 → ¬ (12 + 68 * o + 7 ≤ i ∧ i < 12 + 68 * o + 7 + (w (12 + 68 * o + 5) - 1)) → w' i = w i
theorem stepV {o : Int} {w : Row} (ho : 0 ≤ o ∧ o ≤ 5) (hl : w (12 + 68 * o + 5) ≤ 61) (ht : 0 ≤ w (12 + 68 * o + 7) ∧ w (12 + 68 * o + 7) ≤ 60) : StepV o w (W_220 o 0 (ws (ws (ws w ((452 + (24 * (w ((12 + (68 * o)) + 7)))) + 4) 1) ((452 + (24 * (w ((12 + (68 * o)) + 7)))) + 3) (w 0)) ((12 + (68 * o)) + 6) ((w ((12 + (68 * o)) + 6)) + 1))) := by
  generalize hu : (ws (ws (ws w ((452 + (24 * (w ((12 + (68 * o)) + 7)))) + 4) 1) ((452 + (24 * (w ((12 + (68 * o)) + 7)))) + 3) (w 0)) ((12 + (68 * o)) + 6) ((w ((12 + (68 * o)) + 6)) + 1)) = u
  have u5 : u (12 + 68 * o + 5) = w (12 + 68 * o + 5) := by
    rw [← hu]
    simp (disch := omega) only [wsn]
  have h := take220 (o := o) (p := 0) (w := u) (by omega) (by rw [u5]; omega) (by omega)
  obtain ⟨t1, t2, t3⟩ := h
  rw [u5] at t1 t2 t3
  refine ⟨t1, ?_, ?_, ?_, fun k a b => ?_, fun i h1 h2 h3 h4 h5 => ?_⟩
  · rw [t3 _ (by omega) (by omega), ← hu]
    simp (disch := omega) only [wse]
  · rw [t3 _ (by omega) (by omega), ← hu]
    simp (disch := omega) only [wse, wsn]
  · rw [t3 _ (by omega) (by omega), ← hu]
    simp (disch := omega) only [wse, wsn]
  · rw [t2 k a b, ← hu]
    simp (disch := omega) only [wsn]
  · rw [t3 i h1 (by omega), ← hu]
    simp (disch := omega) only [wsn]
-- how many tickets were served
def srvN (w : Row) : Int := csum (fun t => if w (452 + 24 * t + 4) = 1 then 1 else 0) (w 9).toNat
theorem serve1n {o : Int} {w w' : Row} (hg : GG w) (ho : 0 ≤ o ∧ o < w 7) (hq : 0 < w (12 + 68 * o + 5)) (hS : StepV o w w') : srvN w' = srvN w + 1 := by
  obtain ⟨hN, hO, hQ, -⟩ := hg
  obtain ⟨n7, n8, n9, n10, n11, n0, n1, n2, n3, n4, n5, n6⟩ := id hN
  obtain ⟨s1, s2, s3, s4, s5, s6⟩ := hS
  have go := hO o ho.1 ho.2
  have gq := hQ o ho.1 ho.2 0 (by omega) hq
  simp only [Int.add_zero] at gq
  unfold srvN
  rw [s6 9 (by omega) (by omega) (by omega) (by omega) (by omega)]
  have hs := csum_upd (f := fun t => if w' (452 + 24 * t + 4) = 1 then 1 else 0) (g := fun t => if w (452 + 24 * t + 4) = 1 then 1 else 0) (n := (w 9).toNat) (k := w (12 + 68 * o + 7)) gq.1.1 (by omega) (fun i a b c => by
    show (if w' (452 + 24 * i + 4) = 1 then (1 : Int) else 0) = if w (452 + 24 * i + 4) = 1 then 1 else 0
    rw [s6 (452 + 24 * i + 4) (by omega) (by omega) (by omega) (by omega) (by omega)])
  rw [s3, gq.2.2.1] at hs
  rw [hs]
  simp
theorem serve1 {s o : Int} {d : mD} {w w' : Row} {X : Prop} (hg : GG w) (h : RelN s d w) (hX : X → RelB s d w) (ho : 0 ≤ o ∧ o < w 7) (hq : 0 < w (12 + 68 * o + 5)) (hS : StepV o w w') :
    GG w' ∧ RelN s (g_41 (s + 2) o 0 (g_97 (s + 49) (v_38 (s + 2) o 0 d) 1 (d s 2) d)) w' ∧ (X → RelB s (g_41 (s + 2) o 0 (g_97 (s + 49) (v_38 (s + 2) o 0 d) 1 (d s 2) d)) w') := by
  obtain ⟨hN, hO, hQ, hT, hC, hK, hR⟩ := hg
  obtain ⟨n7, n8, n9, n10, n11, n0, n1, n2, n3, n4, n5, n6⟩ := id hN
  obtain ⟨⟨a1, a2, a3⟩, ⟨o1, o2⟩, rQ, rP, ⟨t1, t2⟩, rC, rK, rR, rH⟩ := h
  obtain ⟨s1, s2, s3, s4, s5, s6⟩ := hS
  have S6 : ∀ i, (¬ i = 12 + 68 * o + 5 ∧ ¬ i = 12 + 68 * o + 6 ∧ ¬ i = 452 + 24 * w (12 + 68 * o + 7) + 4 ∧ ¬ i = 452 + 24 * w (12 + 68 * o + 7) + 3 ∧ ¬ (12 + 68 * o + 7 ≤ i ∧ i < 12 + 68 * o + 7 + (w (12 + 68 * o + 5) - 1))) → w' i = w i := fun i h => s6 i h.1 h.2.1 h.2.2.1 h.2.2.2.1 h.2.2.2.2
  have go := (hO o ho.1 ho.2).2.2.2.2.1
  have gq := hQ o ho.1 ho.2 0 (by omega) hq
  simp only [Int.add_zero] at gq
  have et : v_38 (s + 2) o 0 d = w (12 + 68 * o + 7) := by
    have := rQ o ho.1 ho.2 0 (by omega) hq
    simp only [Int.add_zero] at this
    unfold v_38
    rw [show s + 2 + 7 = s + 9 by omega, Int.add_zero]
    exact this
  have e8 : d (s + 8) o = w (12 + 68 * o + 5) := (o2 o ho.1 ho.2).2.2.2.2.2
  rw [et]
  have e1 : g_97 (s + 49) (w (12 + 68 * o + 7)) 1 (d s 2) d = mset (mset d (s + 54) (w (12 + 68 * o + 7)) 1) (s + 53) (w (12 + 68 * o + 7)) (w 0) := by
    unfold g_97
    simp only [Int.add_assoc, Int.reduceAdd, a2]
  rw [e1]
  generalize hd1 : mset (mset d (s + 54) (w (12 + 68 * o + 7)) 1) (s + 53) (w (12 + 68 * o + 7)) (w 0) = d1
  have f1 : ∀ b, ¬ b = s + 54 → ¬ b = s + 53 → d1 b = d b := fun b x y => by
    rw [← hd1]
    funext j
    simp (disch := omega) only [ms_a]
  obtain ⟨q1, q2, q3, q4, q5⟩ := take41 (s := s) (o := o) (p := 0) (d := d1) (by omega) (by rw [f1 _ (by omega) (by omega), e8]; exact hq) (by rw [f1 _ (by omega) (by omega), e8]; omega)
  generalize g_41 (s + 2) o 0 d1 = d' at *
  rw [f1 (s + 8) (by omega) (by omega), e8] at q3 q4 q5
  have fd : ∀ b, ¬ b = s + 54 → ¬ b = s + 53 → ¬ b = s + 8 → ¬ b = s + 9 → d' b = d b := fun b x y z u => by rw [q1 b z u, f1 b x y]
  -- the ticket is in no other place
  have other : ∀ o', 0 ≤ o' → o' < w 7 → ∀ k, 0 ≤ k → k < w (12 + 68 * o' + 5) → ¬ (o' = o ∧ k = 0) → ¬ w (12 + 68 * o' + 7 + k) = w (12 + 68 * o + 7) := by
    intro o' x y k u v hn e
    have g := hQ o' x y k u v
    rw [e] at g
    by_cases hoo : o' = o
    · subst hoo
      have g2 := g.2.2.2 0 (by omega) (by omega)
      simp only [Int.add_zero] at g2
      exact g2.2 trivial
    · omega
  refine ⟨⟨?_, ?_, ?_, ?_, ?_, ?_, hR.k (fun i hi => S6 i (by omega)) hN⟩, ⟨?_, ?_, ?_, rP.k (fun b x y => fd b (by omega) (by omega) (by omega) (by omega)) (fun i hi => S6 i (by omega)) n8, ?_, rC.k (fun b x => fd b (by omega) (by omega) (by omega) (by omega)) (fun i hi => S6 i (by omega)) n9, rK.k (by rw [fd _ (by omega) (by omega) (by omega) (by omega)]) (fun b x y => fd b (by omega) (by omega) (by omega) (by omega)) (fun i hi => S6 i (by omega)) n10, rR.k (by rw [fd _ (by omega) (by omega) (by omega) (by omega)]) (fd _ (by omega) (by omega) (by omega) (by omega)) (fun i hi => S6 i (by omega)) n11, rH.k (fun b x y => fd b (by omega) (by omega) (by omega) (by omega)) (fun i hi => S6 i (by omega)) n8 n9 n10 hK.of⟩, fun hx => (hX hx).k (fun b x y => fd b (by omega) (by omega) (by omega) (by omega)) (fun i hi => S6 i (by omega)) n8 n9 n10 hK.of⟩
  · exact hN.k (fun i hi => S6 i (by omega))
  · -- offices
    intro o' x y
    rw [S6 7 (by omega)] at y
    have g := hO o' x y
    rw [S6 (12 + 68 * o' + 1) (by omega), S6 (12 + 68 * o' + 2) (by omega), S6 (12 + 68 * o' + 3) (by omega), S6 (12 + 68 * o' + 4) (by omega), S6 9 (by omega)]
    have hs := csum_upd (f := fun t => if w' (452 + 24 * t + 4) = 1 ∧ w' (452 + 24 * t + 1) = o' then 1 else 0) (g := fun t => if w (452 + 24 * t + 4) = 1 ∧ w (452 + 24 * t + 1) = o' then 1 else 0) (n := (w 9).toNat) (k := w (12 + 68 * o + 7)) gq.1.1 (by omega) (fun i a b c => by
      show (if w' (452 + 24 * i + 4) = 1 ∧ w' (452 + 24 * i + 1) = o' then (1 : Int) else 0) = if w (452 + 24 * i + 4) = 1 ∧ w (452 + 24 * i + 1) = o' then 1 else 0
      rw [S6 (452 + 24 * i + 4) (by omega), S6 (452 + 24 * i + 1) (by omega)])
    rw [s3, S6 (452 + 24 * w (12 + 68 * o + 7) + 1) (by omega), gq.2.1, gq.2.2.1] at hs
    rw [hs]
    by_cases hoo : o' = o
    · subst hoo
      rw [s1, s2, g.2.2.2.2.2.2]
      simp
      omega
    · rw [S6 (12 + 68 * o' + 5) (by omega), S6 (12 + 68 * o' + 6) (by omega), g.2.2.2.2.2.2]
      rw [if_neg (fun z => hoo z.2.symm), if_neg (fun z => hoo z.2.symm)]
      simp
      omega
  · -- queues
    intro o' x y k u v
    rw [S6 7 (by omega)] at y
    by_cases hoo : o' = o
    · subst hoo
      rw [s1] at v
      have g := hQ o' x y (k + 1) (by omega) (by omega)
      rw [show 12 + 68 * o' + 7 + (k + 1) = 12 + 68 * o' + 7 + k + 1 by omega] at g
      have ne := other o' x y (k + 1) (by omega) (by omega) (by omega)
      rw [show 12 + 68 * o' + 7 + (k + 1) = 12 + 68 * o' + 7 + k + 1 by omega] at ne
      rw [s5 k u v, S6 9 (by omega), S6 (452 + 24 * w (12 + 68 * o' + 7 + k + 1) + 1) (by omega), S6 (452 + 24 * w (12 + 68 * o' + 7 + k + 1) + 4) (by omega)]
      refine ⟨g.1, g.2.1, g.2.2.1, fun i a b => ?_⟩
      have g2 := g.2.2.2 (i + 1) (by omega) (by omega)
      rw [show 12 + 68 * o' + 7 + (i + 1) = 12 + 68 * o' + 7 + i + 1 by omega] at g2
      have gi := hQ o' x y (i + 1) (by omega) (by omega)
      rw [show 12 + 68 * o' + 7 + (i + 1) = 12 + 68 * o' + 7 + i + 1 by omega] at gi
      rw [s5 i a (by omega), S6 (452 + 24 * w (12 + 68 * o' + 7 + k + 1) + 2) (by omega), S6 (452 + 24 * w (12 + 68 * o' + 7 + k + 1) + 0) (by omega), S6 (452 + 24 * w (12 + 68 * o' + 7 + i + 1) + 2) (by omega), S6 (452 + 24 * w (12 + 68 * o' + 7 + i + 1) + 0) (by omega)]
      exact g2
    · have go' := hO o' x y
      rw [S6 (12 + 68 * o' + 5) (by omega)] at v
      have g := hQ o' x y k u v
      have ne := other o' x y k u v (by omega)
      rw [S6 (12 + 68 * o' + 7 + k) (by omega), S6 9 (by omega), S6 (452 + 24 * w (12 + 68 * o' + 7 + k) + 1) (by omega), S6 (452 + 24 * w (12 + 68 * o' + 7 + k) + 4) (by omega)]
      refine ⟨g.1, g.2.1, g.2.2.1, fun i a b => ?_⟩
      have gi := hQ o' x y i a (by omega)
      rw [S6 (12 + 68 * o' + 7 + i) (by omega), S6 (452 + 24 * w (12 + 68 * o' + 7 + k) + 2) (by omega), S6 (452 + 24 * w (12 + 68 * o' + 7 + k) + 0) (by omega), S6 (452 + 24 * w (12 + 68 * o' + 7 + i) + 2) (by omega), S6 (452 + 24 * w (12 + 68 * o' + 7 + i) + 0) (by omega)]
      exact g.2.2.2 i a b
  · -- tickets
    intro t x y
    rw [S6 9 (by omega)] at y
    have g := hT t x y
    rw [S6 (452 + 24 * t + 0) (by omega), S6 (452 + 24 * t + 1) (by omega), S6 (452 + 24 * t + 2) (by omega), S6 0 (by omega), S6 7 (by omega), S6 8 (by omega)]
    by_cases ht : t = w (12 + 68 * o + 7)
    · rw [ht, s3, s4]
      rw [ht] at g
      exact ⟨g.1, g.2.1, g.2.2.1, by omega, fun z => by omega, fun _ => by omega⟩
    · rw [S6 (452 + 24 * t + 3) (by omega), S6 (452 + 24 * t + 4) (by omega)]
      refine ⟨g.1, g.2.1, g.2.2.1, g.2.2.2.1, fun z => ?_, g.2.2.2.2.2⟩
      obtain ⟨z1, k, z2, z3, z4⟩ := g.2.2.2.2.1 z
      refine ⟨z1, ?_⟩
      have go' := hO _ g.2.1.1 g.2.1.2
      by_cases hoo : w (452 + 24 * t + 1) = o
      · rw [hoo] at z3 z4 ⊢
        have hk : ¬ k = 0 := by
          intro hk
          rw [hk, Int.add_zero] at z4
          exact ht z4.symm
        refine ⟨k - 1, by omega, by rw [s1]; omega, ?_⟩
        rw [s5 (k - 1) (by omega) (by omega), show 12 + 68 * o + 7 + (k - 1) + 1 = 12 + 68 * o + 7 + k by omega]
        exact z4
      · exact ⟨k, z2, by rw [S6 _ (by omega)]; exact z3, by rw [S6 _ (by omega)]; exact z4⟩
  · -- claims
    intro t x y
    rw [S6 9 (by omega)] at y
    have g := hC t x y
    rw [S6 (452 + 24 * t + 5) (by omega), S6 (452 + 24 * t + 6) (by omega), S6 0 (by omega)]
    have gp : ∀ p, 0 ≤ p → p < 16 → 0 ≤ w' (452 + 24 * t + 8 + p) ∧ w' (452 + 24 * t + 8 + p) ≤ w 0 + 1 := fun p a b => by
      rw [S6 _ (by omega)]
      exact g.2.2.2.2 p a b
    by_cases ht : t = w (12 + 68 * o + 7)
    · rw [ht] at g gp ⊢
      rw [s3, s4]
      refine ⟨g.1, g.2.1, fun z => ?_, fun _ => rfl, gp⟩
      have := g.2.2.2.1 (g.2.2.1 z).1
      omega
    · rw [S6 (452 + 24 * t + 3) (by omega), S6 (452 + 24 * t + 4) (by omega)]
      exact ⟨g.1, g.2.1, g.2.2.1, g.2.2.2.1, gp⟩
  · exact hK.k (fun i hi => S6 i (by omega)) hN
  · refine ⟨?_, ?_, fun k x y => ?_⟩
    · rw [fd _ (by omega) (by omega) (by omega) (by omega), S6 1 (by omega)]; exact a1
    · rw [fd _ (by omega) (by omega) (by omega) (by omega), S6 0 (by omega)]; exact a2
    · rw [fd _ (by omega) (by omega) (by omega) (by omega), S6 _ (by omega)]; exact a3 k x y
  · refine ⟨?_, fun o' x y => ?_⟩
    · rw [fd _ (by omega) (by omega) (by omega) (by omega), S6 7 (by omega)]; exact o1
    · rw [S6 7 (by omega)] at y
      have g := o2 o' x y
      rw [fd (s + 3) (by omega) (by omega) (by omega) (by omega), fd (s + 4) (by omega) (by omega) (by omega) (by omega), fd (s + 5) (by omega) (by omega) (by omega) (by omega), fd (s + 6) (by omega) (by omega) (by omega) (by omega), fd (s + 7) (by omega) (by omega) (by omega) (by omega), S6 (12 + 68 * o' + 0) (by omega), S6 (12 + 68 * o' + 1) (by omega), S6 (12 + 68 * o' + 2) (by omega), S6 (12 + 68 * o' + 3) (by omega), S6 (12 + 68 * o' + 4) (by omega)]
      refine ⟨g.1, g.2.1, g.2.2.1, g.2.2.2.1, g.2.2.2.2.1, ?_⟩
      by_cases hoo : o' = o
      · rw [hoo, q3, s1]
      · rw [q2 o' hoo, f1 _ (by omega) (by omega), S6 (12 + 68 * o' + 5) (by omega)]
        exact g.2.2.2.2.2
  · intro o' x y k u v
    rw [S6 7 (by omega)] at y
    have go' := hO o' x y
    by_cases hoo : o' = o
    · subst hoo
      rw [s1] at v
      rw [q4 k u (by omega), f1 _ (by omega) (by omega), s5 k u v]
      have := rQ o' x y (k + 1) (by omega) (by omega)
      rw [show o' * 16 + (k + 1) = o' * 16 + k + 1 by omega, show 12 + 68 * o' + 7 + (k + 1) = 12 + 68 * o' + 7 + k + 1 by omega] at this
      exact this
    · rw [S6 (12 + 68 * o' + 5) (by omega)] at v
      rw [q5 _ (by omega), f1 _ (by omega) (by omega), S6 _ (by omega)]
      exact rQ o' x y k u v
  · refine ⟨?_, fun t x y => ?_⟩
    · rw [fd _ (by omega) (by omega) (by omega) (by omega), S6 9 (by omega)]; exact t1
    · rw [S6 9 (by omega)] at y
      have g := t2 t x y
      rw [fd (s + 50) (by omega) (by omega) (by omega) (by omega), fd (s + 51) (by omega) (by omega) (by omega) (by omega), fd (s + 52) (by omega) (by omega) (by omega) (by omega), S6 (452 + 24 * t + 0) (by omega), S6 (452 + 24 * t + 1) (by omega), S6 (452 + 24 * t + 2) (by omega), q1 (s + 53) (by omega) (by omega), q1 (s + 54) (by omega) (by omega), ← hd1]
      by_cases ht : t = w (12 + 68 * o + 7)
      · rw [ht] at g ⊢
        rw [s3, s4]
        simp (disch := omega) only [ms_a, ms_e]
        exact ⟨g.1, g.2.1, g.2.2.1, trivial, trivial⟩
      · rw [S6 (452 + 24 * t + 3) (by omega), S6 (452 + 24 * t + 4) (by omega)]
        simp (disch := omega) only [ms_a, ms_i]
        exact g
