/-! ===== runs to 1, 0, 1, 2, 3, 4, 5, 6, 7, 8, 9, 10, 11, 12, 13, 14, 15, 16, 17, 18, 19, 20, 21, 22, 23, 24, 27, 28, 29, 30, 31 ===== -/
set_option maxRecDepth 100000 in
theorem p1_o0 : p1_ok 0 := ⟨[], 3000, by decide +kernel⟩
set_option maxRecDepth 100000 in
theorem p1_o1 : p1_ok 1 := ⟨[], 3000, by decide +kernel⟩
set_option maxRecDepth 100000 in
theorem p1_o2 : p1_ok 2 := ⟨[], 3000, by decide +kernel⟩
set_option maxRecDepth 100000 in
theorem p1_o3 : p1_ok 3 := ⟨[], 3000, by decide +kernel⟩
set_option maxRecDepth 100000 in
theorem p1_o4 : p1_ok 4 := ⟨[], 3000, by decide +kernel⟩
set_option maxRecDepth 100000 in
theorem p1_o5 : p1_ok 5 := ⟨[], 3000, by decide +kernel⟩
set_option maxRecDepth 100000 in
theorem p1_o6 : p1_ok 6 := ⟨[], 3000, by decide +kernel⟩
set_option maxRecDepth 100000 in
theorem p1_o7 : p1_ok 7 := ⟨[], 3000, by decide +kernel⟩
set_option maxRecDepth 100000 in
theorem p1_o8 : p1_ok 8 := ⟨[], 3000, by decide +kernel⟩
set_option maxRecDepth 100000 in
theorem p1_o9 : p1_ok 9 := ⟨[], 3000, by decide +kernel⟩
set_option maxRecDepth 100000 in
theorem p1_o10 : p1_ok 10 := ⟨[], 3000, by decide +kernel⟩
set_option maxRecDepth 100000 in
theorem p1_o11 : p1_ok 11 := ⟨[], 3000, by decide +kernel⟩
set_option maxRecDepth 100000 in
theorem p1_o12 : p1_ok 12 := ⟨[], 3000, by decide +kernel⟩
set_option maxRecDepth 100000 in
theorem p1_o13 : p1_ok 13 := ⟨[], 3000, by decide +kernel⟩
set_option maxRecDepth 100000 in
theorem p1_o14 : p1_ok 14 := ⟨[], 3000, by decide +kernel⟩
set_option maxRecDepth 100000 in
theorem p1_o15 : p1_ok 15 := ⟨[], 3000, by decide +kernel⟩
set_option maxRecDepth 100000 in
theorem p1_o16 : p1_ok 16 := ⟨[], 3000, by decide +kernel⟩
set_option maxRecDepth 100000 in
theorem p1_o17 : p1_ok 17 := ⟨[], 3000, by decide +kernel⟩
set_option maxRecDepth 100000 in
theorem p1_o18 : p1_ok 18 := ⟨[], 3000, by decide +kernel⟩
set_option maxRecDepth 100000 in
theorem p1_o19 : p1_ok 19 := ⟨[], 3000, by decide +kernel⟩
set_option maxRecDepth 100000 in
theorem p1_o20 : p1_ok 20 := ⟨[], 3000, by decide +kernel⟩
set_option maxRecDepth 100000 in
theorem p1_o21 : p1_ok 21 := ⟨[], 3000, by decide +kernel⟩
set_option maxRecDepth 100000 in
theorem p1_o22 : p1_ok 22 := ⟨[], 3000, by decide +kernel⟩
set_option maxRecDepth 100000 in
theorem p1_o23 : p1_ok 23 := ⟨[], 3000, by decide +kernel⟩
set_option maxRecDepth 100000 in
theorem p1_o24 : p1_ok 24 := ⟨[], 3000, by decide +kernel⟩
set_option maxRecDepth 100000 in
theorem p1_o27 : p1_ok 27 := ⟨[], 3000, by decide +kernel⟩
set_option maxRecDepth 100000 in
theorem p1_o28 : p1_ok 28 := ⟨[], 3000, by decide +kernel⟩
set_option maxRecDepth 100000 in
theorem p1_o29 : p1_ok 29 := ⟨[], 3000, by decide +kernel⟩
set_option maxRecDepth 100000 in
theorem p1_o30 : p1_ok 30 := ⟨[], 3000, by decide +kernel⟩
set_option maxRecDepth 100000 in
theorem p1_o31 : p1_ok 31 := ⟨[], 3000, by decide +kernel⟩
