/-! ===== runs to 1, 26 ===== -/
set_option maxRecDepth 100000 in
theorem p1_o26a : aRun [(68, 0, [769, 770, 771, 772, 773, 774, 775, 776, 777, 778, 0, 580, 637], [(580, 2)])] 1664 (aZ2 (aopq 26 (0, 200) aFull) (aS2 1664 843 69899)) 20000 (aops 26 26) 0 aS1 (fun _ _ => false) = true := by decide +kernel
set_option maxRecDepth 100000 in
theorem p1_o26_0 : aRun [] 100000 aZ 20000 (aopq 26 (0, 80) aFull) 0 (aS2 1664 843 69899) aend = true := by decide +kernel
set_option maxRecDepth 100000 in
theorem p1_o26_81 : aRun [] 100000 aZ 20000 (aopq 26 (81, 150) aFull) 0 (aS2 1664 843 69899) aend = true := by decide +kernel
