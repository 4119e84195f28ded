/-! ===== runs to 1, 32, 33, 35, 36, 37, 38, 39, 40, 41, 42, 43, 44, 45, 46 ===== -/
set_option maxRecDepth 100000 in
theorem p1_o32 : p1_ok 32 := ⟨[], 3000, by decide +kernel⟩
set_option maxRecDepth 100000 in
theorem p1_o33 : p1_ok 33 := ⟨[], 3000, by decide +kernel⟩
set_option maxRecDepth 100000 in
theorem p1_o35 : p1_ok 35 := ⟨[], 3000, by decide +kernel⟩
set_option maxRecDepth 100000 in
theorem p1_o36 : p1_ok 36 := ⟨[], 3000, by decide +kernel⟩
set_option maxRecDepth 100000 in
theorem p1_o37 : p1_ok 37 := ⟨[], 3000, by decide +kernel⟩
set_option maxRecDepth 100000 in
theorem p1_o38 : p1_ok 38 := ⟨[], 3000, by decide +kernel⟩
set_option maxRecDepth 100000 in
theorem p1_o39 : p1_ok 39 := ⟨[], 3000, by decide +kernel⟩
set_option maxRecDepth 100000 in
theorem p1_o40 : p1_ok 40 := ⟨[], 3000, by decide +kernel⟩
set_option maxRecDepth 100000 in
theorem p1_o41 : p1_ok 41 := ⟨[], 3000, by decide +kernel⟩
set_option maxRecDepth 100000 in
theorem p1_o42 : p1_ok 42 := ⟨[], 3000, by decide +kernel⟩
set_option maxRecDepth 100000 in
theorem p1_o43 : p1_ok 43 := ⟨[], 3000, by decide +kernel⟩
set_option maxRecDepth 100000 in
theorem p1_o44 : p1_ok 44 := ⟨[], 3000, by decide +kernel⟩
set_option maxRecDepth 100000 in
theorem p1_o45 : p1_ok 45 := ⟨[], 3000, by decide +kernel⟩
set_option maxRecDepth 100000 in
theorem p1_o46 : p1_ok 46 := ⟨[], 3000, by decide +kernel⟩
