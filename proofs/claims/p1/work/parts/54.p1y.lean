/-! ===== runs to 1, 34 ===== -/
set_option maxRecDepth 100000 in
theorem p1_o34a : aRun [(68, 0, [769, 770, 771, 772, 773, 774, 775, 776, 777, 778], [])] 2124 (aZ2 (aopq 34 (1, 99) aFull) (aS2 2124 843 69899)) 20000 (aops 34 34) 0 aS1 (fun _ _ => false) = true := by decide +kernel
set_option maxRecDepth 100000 in
theorem p1_o34b : aRun [] 100000 aZ 20000 (aopq 34 (1, 99) aFull) 0 (aS2 2124 843 69899) aend = true := by decide +kernel
theorem p1_o34 : p1_OK 34 := fun hI hw => p1_two p1_o34a hI (fun _ hJ hw2 => p1_from hJ p1_o34b hw2) hw
