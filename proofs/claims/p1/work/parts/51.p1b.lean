def aFull : Int × Int := (-2147483648, 2147483647)
def aops (a b : Int) : aI := (6, [aFull, aFull, aFull, aFull, aFull, aFull, (a, b)])
set_option maxRecDepth 100000 in
theorem p1_g0 : aRun 100000 aZ 20000 (0, []) 0 aS1 aend = true := by decide +kernel
set_option maxRecDepth 100000 in
theorem p1_o0 : aRun 100000 aZ 20000 (aops 0 0) 0 aS1 aend = true := by decide +kernel
set_option maxRecDepth 100000 in
theorem p1_o1 : aRun 100000 aZ 20000 (aops 1 1) 0 aS1 aend = true := by decide +kernel
set_option maxRecDepth 100000 in
theorem p1_o3 : aRun 100000 aZ 20000 (aops 3 3) 0 aS1 aend = true := by decide +kernel
set_option maxRecDepth 100000 in
theorem p1_o4 : aRun 100000 aZ 20000 (aops 4 4) 0 aS1 aend = true := by decide +kernel
set_option maxRecDepth 100000 in
theorem p1_o5 : aRun 100000 aZ 20000 (aops 5 5) 0 aS1 aend = true := by decide +kernel
set_option maxRecDepth 100000 in
theorem p1_o6 : aRun 100000 aZ 20000 (aops 6 6) 0 aS1 aend = true := by decide +kernel
set_option maxRecDepth 100000 in
theorem p1_o7 : aRun 100000 aZ 20000 (aops 7 7) 0 aS1 aend = true := by decide +kernel
set_option maxRecDepth 100000 in
theorem p1_o8 : aRun 100000 aZ 20000 (aops 8 8) 0 aS1 aend = true := by decide +kernel
set_option maxRecDepth 100000 in
theorem p1_o9 : aRun 100000 aZ 20000 (aops 9 9) 0 aS1 aend = true := by decide +kernel
set_option maxRecDepth 100000 in
theorem p1_o10 : aRun 100000 aZ 20000 (aops 10 10) 0 aS1 aend = true := by decide +kernel
set_option maxRecDepth 100000 in
theorem p1_o11 : aRun 100000 aZ 20000 (aops 11 11) 0 aS1 aend = true := by decide +kernel
set_option maxRecDepth 100000 in
theorem p1_o12 : aRun 100000 aZ 20000 (aops 12 12) 0 aS1 aend = true := by decide +kernel
set_option maxRecDepth 100000 in
theorem p1_o13 : aRun 100000 aZ 20000 (aops 13 13) 0 aS1 aend = true := by decide +kernel
set_option maxRecDepth 100000 in
theorem p1_o14 : aRun 100000 aZ 20000 (aops 14 14) 0 aS1 aend = true := by decide +kernel
set_option maxRecDepth 100000 in
theorem p1_o15 : aRun 100000 aZ 20000 (aops 15 15) 0 aS1 aend = true := by decide +kernel
set_option maxRecDepth 100000 in
theorem p1_o16 : aRun 100000 aZ 20000 (aops 16 16) 0 aS1 aend = true := by decide +kernel
set_option maxRecDepth 100000 in
theorem p1_o17 : aRun 100000 aZ 20000 (aops 17 17) 0 aS1 aend = true := by decide +kernel
set_option maxRecDepth 100000 in
theorem p1_o18 : aRun 100000 aZ 20000 (aops 18 18) 0 aS1 aend = true := by decide +kernel
set_option maxRecDepth 100000 in
theorem p1_o19 : aRun 100000 aZ 20000 (aops 19 19) 0 aS1 aend = true := by decide +kernel
set_option maxRecDepth 100000 in
theorem p1_o20 : aRun 100000 aZ 20000 (aops 20 20) 0 aS1 aend = true := by decide +kernel
set_option maxRecDepth 100000 in
theorem p1_o23 : aRun 100000 aZ 20000 (aops 23 23) 0 aS1 aend = true := by decide +kernel
set_option maxRecDepth 100000 in
theorem p1_o24 : aRun 100000 aZ 20000 (aops 24 24) 0 aS1 aend = true := by decide +kernel
set_option maxRecDepth 100000 in
theorem p1_o30 : aRun 100000 aZ 20000 (aops 30 30) 0 aS1 aend = true := by decide +kernel
set_option maxRecDepth 100000 in
theorem p1_o31 : aRun 100000 aZ 20000 (aops 31 31) 0 aS1 aend = true := by decide +kernel
set_option maxRecDepth 100000 in
theorem p1_o33 : aRun 100000 aZ 20000 (aops 33 33) 0 aS1 aend = true := by decide +kernel
set_option maxRecDepth 100000 in
theorem p1_o35 : aRun 100000 aZ 20000 (aops 35 35) 0 aS1 aend = true := by decide +kernel
set_option maxRecDepth 100000 in
theorem p1_o36 : aRun 100000 aZ 20000 (aops 36 36) 0 aS1 aend = true := by decide +kernel
set_option maxRecDepth 100000 in
theorem p1_o37 : aRun 100000 aZ 20000 (aops 37 37) 0 aS1 aend = true := by decide +kernel
set_option maxRecDepth 100000 in
theorem p1_o38 : aRun 100000 aZ 20000 (aops 38 38) 0 aS1 aend = true := by decide +kernel
set_option maxRecDepth 100000 in
theorem p1_o41 : aRun 100000 aZ 20000 (aops 41 41) 0 aS1 aend = true := by decide +kernel
set_option maxRecDepth 100000 in
theorem p1_o42 : aRun 100000 aZ 20000 (aops 42 42) 0 aS1 aend = true := by decide +kernel
set_option maxRecDepth 100000 in
theorem p1_o44 : aRun 100000 aZ 20000 (aops 44 44) 0 aS1 aend = true := by decide +kernel
set_option maxRecDepth 100000 in
theorem p1_o46 : aRun 100000 aZ 20000 (aops 46 46) 0 aS1 aend = true := by decide +kernel
set_option maxRecDepth 100000 in
theorem p1_o47 : aRun 100000 aZ 20000 (aops 47 47) 0 aS1 aend = true := by decide +kernel
set_option maxRecDepth 100000 in
theorem p1_o48 : aRun 100000 aZ 20000 (aops 47 63) 0 aS1 aend = true := by decide +kernel
