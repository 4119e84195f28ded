/-! ===== runs to 1 ===== -/
noncomputable def aend (_ : aI) (r : aRes) : Bool := match r.1 with
  | .inl (some (0, 0, z)) => zeq z 1
  | _ => false
noncomputable def astart : aSt := (0, apad (mmaxL 0) [(4, 0, 2)], [], 0, 0, [], 0, true)
noncomputable def aZ (_ : aI) (_ : aSt) : Bool := false
set_option maxRecDepth 100000 in
theorem p1_pre0 : aRun [] 23 (fun _ st => asEq st aS1) 8000 (0, []) 0 astart (fun _ _ => false) = true := by decide +kernel
set_option maxRecDepth 100000 in
theorem p1_pre1 : aRun [] 23 (fun _ st => asEq st aS1) 8000 (1, []) 0 astart (fun _ _ => false) = true := by decide +kernel
set_option maxRecDepth 100000 in
theorem p1_pre2 : aRun [] 23 (fun _ st => asEq st aS1) 8000 (2, []) 0 astart (fun _ _ => false) = true := by decide +kernel
set_option maxRecDepth 100000 in
theorem p1_pre3 : aRun [] 23 (fun _ st => asEq st aS1) 8000 (3, []) 0 astart (fun _ _ => false) = true := by decide +kernel
set_option maxRecDepth 100000 in
theorem p1_pre4 : aRun [] 23 (fun _ st => asEq st aS1) 8000 (4, []) 0 astart (fun _ _ => false) = true := by decide +kernel
set_option maxRecDepth 100000 in
theorem p1_pre5 : aRun [] 23 (fun _ st => asEq st aS1) 8000 (5, []) 0 astart (fun _ _ => false) = true := by decide +kernel
set_option maxRecDepth 100000 in
theorem p1_pre6 : aRun [] 23 (fun _ st => asEq st aS1) 8000 (6, []) 0 astart (fun _ _ => false) = true := by decide +kernel
noncomputable def aFull : Int × Int := (-2147483648, 2147483647)
noncomputable def aops (a b : Int) : aI := (6, [aFull, aFull, aFull, aFull, aFull, aFull, (a, b)])
set_option maxRecDepth 100000 in
theorem p1_short : (List.range 6).all (fun L => aRun [] 100000 aZ 2000 (L, []) 0 aS1 aend) = true := by decide +kernel
set_option maxRecDepth 100000 in
theorem p1_none : aRun [] 100000 aZ 2000 (aops 47 63) 0 aS1 aend = true := by decide +kernel
noncomputable def p1_ok (k : Int) : Prop := ∃ g f, aRun g 100000 aZ f (aops k k) 0 aS1 aend = true
