def aFull : Int × Int := (-2147483648, 2147483647)
def aops (a b : Int) : aI := (6, [aFull, aFull, aFull, aFull, aFull, aFull, (a, b)])
set_option maxRecDepth 100000 in
theorem p1_g0 : aRun 100000 aZ 20000 (0, []) 0 aS1 aend = true := by decide +kernel
set_option maxRecDepth 100000 in
theorem p1_o3 : aRun 100000 aZ 20000 (aops 3 3) 0 aS1 aend = true := by decide +kernel
set_option maxRecDepth 100000 in
theorem p1_o4 : aRun 100000 aZ 20000 (aops 4 4) 0 aS1 aend = true := by decide +kernel
set_option maxRecDepth 100000 in
theorem p1_o1 : aRun 100000 aZ 3000 (aops 1 1) 0 aS1 aend = true := by decide +kernel
set_option maxRecDepth 100000 in
theorem p1_o6 : aRun 100000 aZ 3000 (aops 6 6) 0 aS1 aend = true := by decide +kernel
set_option maxRecDepth 100000 in
theorem p1_o7 : aRun 100000 aZ 1500 (aops 7 7) 0 aS1 aend = true := by decide +kernel
set_option maxRecDepth 100000 in
theorem p1_o8 : aRun 100000 aZ 1500 (aops 8 8) 0 aS1 aend = true := by decide +kernel
set_option maxRecDepth 100000 in
theorem p1_o17 : aRun 100000 aZ 1500 (aops 17 17) 0 aS1 aend = true := by decide +kernel
set_option maxRecDepth 100000 in
theorem p1_o20 : aRun 100000 aZ 1500 (aops 20 20) 0 aS1 aend = true := by decide +kernel
set_option maxRecDepth 100000 in
theorem p1_o23 : aRun 100000 aZ 1500 (aops 23 23) 0 aS1 aend = true := by decide +kernel
set_option maxRecDepth 100000 in
theorem p1_o24 : aRun 100000 aZ 1500 (aops 24 24) 0 aS1 aend = true := by decide +kernel
set_option maxRecDepth 100000 in
theorem p1_o46 : aRun 100000 aZ 1500 (aops 46 46) 0 aS1 aend = true := by decide +kernel
set_option maxRecDepth 100000 in
theorem p1_o9 : aRun 100000 aZ 1500 (aops 9 9) 0 aS1 aend = true := by decide +kernel
set_option maxRecDepth 100000 in
theorem p1_o10 : aRun 100000 aZ 1500 (aops 10 10) 0 aS1 aend = true := by decide +kernel
set_option maxRecDepth 100000 in
theorem p1_o11 : aRun 100000 aZ 1500 (aops 11 11) 0 aS1 aend = true := by decide +kernel
set_option maxRecDepth 100000 in
theorem p1_o12 : aRun 100000 aZ 1500 (aops 12 12) 0 aS1 aend = true := by decide +kernel
set_option maxRecDepth 100000 in
theorem p1_o14 : aRun 100000 aZ 1500 (aops 14 14) 0 aS1 aend = true := by decide +kernel
set_option maxRecDepth 100000 in
theorem p1_o15 : aRun 100000 aZ 1500 (aops 15 15) 0 aS1 aend = true := by decide +kernel
set_option maxRecDepth 100000 in
theorem p1_o16 : aRun 100000 aZ 1500 (aops 16 16) 0 aS1 aend = true := by decide +kernel
set_option maxRecDepth 100000 in
theorem p1_o18 : aRun 100000 aZ 1500 (aops 18 18) 0 aS1 aend = true := by decide +kernel
set_option maxRecDepth 100000 in
theorem p1_o19 : aRun 100000 aZ 1500 (aops 19 19) 0 aS1 aend = true := by decide +kernel
