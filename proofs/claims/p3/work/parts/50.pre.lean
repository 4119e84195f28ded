/-! ===== the law's two constructors, run abstractly ===== -/
noncomputable def astart : aSt := (0, apad (mmaxL 0) [(4, 0, 2)], [], 0, 0, [], 0, true)
set_option maxRecDepth 100000 in
theorem p_pre : aRun [] 23 (fun _ st => asEq st aS1) 8000 (0, []) 0 astart (fun _ _ => false) = true := by decide +kernel
