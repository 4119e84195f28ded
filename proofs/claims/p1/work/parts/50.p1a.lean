/-! ===== runs to 1 ===== -/
def aend (_ : aI) (r : aRes) : Bool := match r.1 with
  | .inl (some (0, 0, z)) => zeq z 1
  | _ => false
def astart : aSt := (0, apad (mmaxL 0) [(4, 0, 2)], [], 0, 0, [], 0, true)
def aZ (_ : aI) (_ : aSt) : Bool := false
set_option maxRecDepth 100000 in
theorem p1_pre : aRun 23 (fun _ st => asEq st aS1) 8000 (0, []) 0 astart (fun _ _ => false) = true := by decide +kernel
