/-! ===== runs to 1, 0, 1, 2, 3, 4, 5, 6, 7, 8, 9, 10, 11, 12 ===== -/
set_option maxRecDepth 100000 in
theorem p1_o0 : p1_ok 0 := ⟨[], 3000, by decide +kernel⟩
set_option maxRecDepth 100000 in
theorem p1_o1 : p1_ok 1 := ⟨[], 3000, by decide +kernel⟩
set_option maxRecDepth 100000 in
theorem p1_o2 : p1_ok 2 := ⟨[], 3000, by decide +kernel⟩
set_option maxRecDepth 100000 in
theorem p1_o3 : p1_ok 3 := ⟨[], 3000, by decide +kernel⟩
set_option maxRecDepth 100000 in
theorem p1_o4 : p1_ok 4 := ⟨[], 3000, by decide +kernel⟩
set_option maxRecDepth 100000 in
theorem p1_o5 : p1_ok 5 := ⟨[], 3000, by decide +kernel⟩
set_option maxRecDepth 100000 in
theorem p1_o6 : p1_ok 6 := ⟨[], 3000, by decide +kernel⟩
set_option maxRecDepth 100000 in
theorem p1_o7 : p1_ok 7 := ⟨[], 3000, by decide +kernel⟩
set_option maxRecDepth 100000 in
theorem p1_o8 : p1_ok 8 := ⟨[], 3000, by decide +kernel⟩
set_option maxRecDepth 100000 in
theorem p1_o9 : p1_ok 9 := ⟨[], 3000, by decide +kernel⟩
set_option maxRecDepth 100000 in
theorem p1_o10 : p1_ok 10 := ⟨[], 3000, by decide +kernel⟩
set_option maxRecDepth 100000 in
theorem p1_o11 : p1_ok 11 := ⟨[], 3000, by decide +kernel⟩
set_option maxRecDepth 100000 in
theorem p1_o12 : p1_ok 12 := ⟨[], 3000, by decide +kernel⟩
