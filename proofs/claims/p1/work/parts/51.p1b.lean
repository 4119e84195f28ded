def aFull : Int × Int := (-2147483648, 2147483647)
def aops (a b : Int) : aI := (6, [aFull, aFull, aFull, aFull, aFull, aFull, (a, b)])
set_option maxRecDepth 100000 in
theorem p1_g0 : aRun 100000 aZ 20000 (0, []) 0 aS1 aend = true := by decide +kernel
set_option maxRecDepth 100000 in
theorem p1_o3 : aRun 100000 aZ 20000 (aops 3 3) 0 aS1 aend = true := by decide +kernel
set_option maxRecDepth 100000 in
theorem p1_o4 : aRun 100000 aZ 20000 (aops 4 4) 0 aS1 aend = true := by decide +kernel
set_option maxRecDepth 100000 in
theorem p1_o1 : aRun 100000 aZ 3000 (aops 1 1) 0 aS1 aend = true := by decide +kernel
set_option maxRecDepth 100000 in
theorem p1_o6 : aRun 100000 aZ 3000 (aops 6 6) 0 aS1 aend = true := by decide +kernel
