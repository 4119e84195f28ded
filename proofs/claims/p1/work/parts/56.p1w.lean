/-! ===== runs to 1, 25 ===== -/
set_option maxRecDepth 100000 in
theorem p1_o25a : aRun [(44, 0, [769, 770, 771, 772, 773, 774, 775, 776, 777, 778], [])] 1602 (aZ2 (aopq 25 (0, 1) (0, 200)) (aS2 1602 844 69905)) 20000 (aops 25 25) 0 aS1 (fun _ _ => false) = true := by decide +kernel
set_option maxRecDepth 100000 in
theorem p1_o25_0_0 : aRun [] 100000 aZ 20000 (aopq 25 (0, 0) (0, 70)) 0 (aS2 1602 844 69905) aend = true := by decide +kernel
set_option maxRecDepth 100000 in
theorem p1_o25_0_71 : aRun [] 100000 aZ 20000 (aopq 25 (0, 0) (71, 140)) 0 (aS2 1602 844 69905) aend = true := by decide +kernel
set_option maxRecDepth 100000 in
theorem p1_o25_1_0 : aRun [] 100000 aZ 20000 (aopq 25 (1, 1) (0, 70)) 0 (aS2 1602 844 69905) aend = true := by decide +kernel
set_option maxRecDepth 100000 in
theorem p1_o25_1_71 : aRun [] 100000 aZ 20000 (aopq 25 (1, 1) (71, 140)) 0 (aS2 1602 844 69905) aend = true := by decide +kernel
