/-! ===== contracts of the methods: printed by a program of mine ===== -/
def v_297 (x0 : Int) (d : mD) : Int := miand ((((mland (((mland (x0 - (mland (mlushr x0 1) 6148914691236517205)) 3689348814741910323) + (mland (mlushr (x0 - (mland (mlushr x0 1) 6148914691236517205)) 2) 3689348814741910323)) + (mlushr ((mland (x0 - (mland (mlushr x0 1) 6148914691236517205)) 3689348814741910323) + (mland (mlushr (x0 - (mland (mlushr x0 1) 6148914691236517205)) 2) 3689348814741910323)) 4)) 1085102592571150095) + (mlushr (mland (((mland (x0 - (mland (mlushr x0 1) 6148914691236517205)) 3689348814741910323) + (mland (mlushr (x0 - (mland (mlushr x0 1) 6148914691236517205)) 2) 3689348814741910323)) + (mlushr ((mland (x0 - (mland (mlushr x0 1) 6148914691236517205)) 3689348814741910323) + (mland (mlushr (x0 - (mland (mlushr x0 1) 6148914691236517205)) 2) 3689348814741910323)) 4)) 1085102592571150095) 8)) + (mlushr ((mland (((mland (x0 - (mland (mlushr x0 1) 6148914691236517205)) 3689348814741910323) + (mland (mlushr (x0 - (mland (mlushr x0 1) 6148914691236517205)) 2) 3689348814741910323)) + (mlushr ((mland (x0 - (mland (mlushr x0 1) 6148914691236517205)) 3689348814741910323) + (mland (mlushr (x0 - (mland (mlushr x0 1) 6148914691236517205)) 2) 3689348814741910323)) 4)) 1085102592571150095) + (mlushr (mland (((mland (x0 - (mland (mlushr x0 1) 6148914691236517205)) 3689348814741910323) + (mland (mlushr (x0 - (mland (mlushr x0 1) 6148914691236517205)) 2) 3689348814741910323)) + (mlushr ((mland (x0 - (mland (mlushr x0 1) 6148914691236517205)) 3689348814741910323) + (mland (mlushr (x0 - (mland (mlushr x0 1) 6148914691236517205)) 2) 3689348814741910323)) 4)) 1085102592571150095) 8)) 16)) + (mlushr (((mland (((mland (x0 - (mland (mlushr x0 1) 6148914691236517205)) 3689348814741910323) + (mland (mlushr (x0 - (mland (mlushr x0 1) 6148914691236517205)) 2) 3689348814741910323)) + (mlushr ((mland (x0 - (mland (mlushr x0 1) 6148914691236517205)) 3689348814741910323) + (mland (mlushr (x0 - (mland (mlushr x0 1) 6148914691236517205)) 2) 3689348814741910323)) 4)) 1085102592571150095) + (mlushr (mland (((mland (x0 - (mland (mlushr x0 1) 6148914691236517205)) 3689348814741910323) + (mland (mlushr (x0 - (mland (mlushr x0 1) 6148914691236517205)) 2) 3689348814741910323)) + (mlushr ((mland (x0 - (mland (mlushr x0 1) 6148914691236517205)) 3689348814741910323) + (mland (mlushr (x0 - (mland (mlushr x0 1) 6148914691236517205)) 2) 3689348814741910323)) 4)) 1085102592571150095) 8)) + (mlushr ((mland (((mland (x0 - (mland (mlushr x0 1) 6148914691236517205)) 3689348814741910323) + (mland (mlushr (x0 - (mland (mlushr x0 1) 6148914691236517205)) 2) 3689348814741910323)) + (mlushr ((mland (x0 - (mland (mlushr x0 1) 6148914691236517205)) 3689348814741910323) + (mland (mlushr (x0 - (mland (mlushr x0 1) 6148914691236517205)) 2) 3689348814741910323)) 4)) 1085102592571150095) + (mlushr (mland (((mland (x0 - (mland (mlushr x0 1) 6148914691236517205)) 3689348814741910323) + (mland (mlushr (x0 - (mland (mlushr x0 1) 6148914691236517205)) 2) 3689348814741910323)) + (mlushr ((mland (x0 - (mland (mlushr x0 1) 6148914691236517205)) 3689348814741910323) + (mland (mlushr (x0 - (mland (mlushr x0 1) 6148914691236517205)) 2) 3689348814741910323)) 4)) 1085102592571150095) 8)) 16)) 32)) 127
theorem k_297 {E : mO × tW} {K : tK} {d : mD} {x0 : Int} (hS : Safe d) (h : (0 ≤ (v_297 x0 d) ∧ (v_297 x0 d) ≤ 127) → K (.inl (some (0, (v_297 x0 d)))) d) : tCall E 297 [.inl (1, x0)] d K := by
  refine t_297_0 ?_
  have q1 := miand_r ((((mland (((mland (x0 - (mland (mlushr x0 1) 6148914691236517205)) 3689348814741910323) + (mland (mlushr (x0 - (mland (mlushr x0 1) 6148914691236517205)) 2) 3689348814741910323)) + (mlushr ((mland (x0 - (mland (mlushr x0 1) 6148914691236517205)) 3689348814741910323) + (mland (mlushr (x0 - (mland (mlushr x0 1) 6148914691236517205)) 2) 3689348814741910323)) 4)) 1085102592571150095) + (mlushr (mland (((mland (x0 - (mland (mlushr x0 1) 6148914691236517205)) 3689348814741910323) + (mland (mlushr (x0 - (mland (mlushr x0 1) 6148914691236517205)) 2) 3689348814741910323)) + (mlushr ((mland (x0 - (mland (mlushr x0 1) 6148914691236517205)) 3689348814741910323) + (mland (mlushr (x0 - (mland (mlushr x0 1) 6148914691236517205)) 2) 3689348814741910323)) 4)) 1085102592571150095) 8)) + (mlushr ((mland (((mland (x0 - (mland (mlushr x0 1) 6148914691236517205)) 3689348814741910323) + (mland (mlushr (x0 - (mland (mlushr x0 1) 6148914691236517205)) 2) 3689348814741910323)) + (mlushr ((mland (x0 - (mland (mlushr x0 1) 6148914691236517205)) 3689348814741910323) + (mland (mlushr (x0 - (mland (mlushr x0 1) 6148914691236517205)) 2) 3689348814741910323)) 4)) 1085102592571150095) + (mlushr (mland (((mland (x0 - (mland (mlushr x0 1) 6148914691236517205)) 3689348814741910323) + (mland (mlushr (x0 - (mland (mlushr x0 1) 6148914691236517205)) 2) 3689348814741910323)) + (mlushr ((mland (x0 - (mland (mlushr x0 1) 6148914691236517205)) 3689348814741910323) + (mland (mlushr (x0 - (mland (mlushr x0 1) 6148914691236517205)) 2) 3689348814741910323)) 4)) 1085102592571150095) 8)) 16)) + (mlushr (((mland (((mland (x0 - (mland (mlushr x0 1) 6148914691236517205)) 3689348814741910323) + (mland (mlushr (x0 - (mland (mlushr x0 1) 6148914691236517205)) 2) 3689348814741910323)) + (mlushr ((mland (x0 - (mland (mlushr x0 1) 6148914691236517205)) 3689348814741910323) + (mland (mlushr (x0 - (mland (mlushr x0 1) 6148914691236517205)) 2) 3689348814741910323)) 4)) 1085102592571150095) + (mlushr (mland (((mland (x0 - (mland (mlushr x0 1) 6148914691236517205)) 3689348814741910323) + (mland (mlushr (x0 - (mland (mlushr x0 1) 6148914691236517205)) 2) 3689348814741910323)) + (mlushr ((mland (x0 - (mland (mlushr x0 1) 6148914691236517205)) 3689348814741910323) + (mland (mlushr (x0 - (mland (mlushr x0 1) 6148914691236517205)) 2) 3689348814741910323)) 4)) 1085102592571150095) 8)) + (mlushr ((mland (((mland (x0 - (mland (mlushr x0 1) 6148914691236517205)) 3689348814741910323) + (mland (mlushr (x0 - (mland (mlushr x0 1) 6148914691236517205)) 2) 3689348814741910323)) + (mlushr ((mland (x0 - (mland (mlushr x0 1) 6148914691236517205)) 3689348814741910323) + (mland (mlushr (x0 - (mland (mlushr x0 1) 6148914691236517205)) 2) 3689348814741910323)) 4)) 1085102592571150095) + (mlushr (mland (((mland (x0 - (mland (mlushr x0 1) 6148914691236517205)) 3689348814741910323) + (mland (mlushr (x0 - (mland (mlushr x0 1) 6148914691236517205)) 2) 3689348814741910323)) + (mlushr ((mland (x0 - (mland (mlushr x0 1) 6148914691236517205)) 3689348814741910323) + (mland (mlushr (x0 - (mland (mlushr x0 1) 6148914691236517205)) 2) 3689348814741910323)) 4)) 1085102592571150095) 8)) 16)) 32)) 127 (by decide) (by decide)
  have y0 : v_297 x0 d = miand ((((mland (((mland (x0 - (mland (mlushr x0 1) 6148914691236517205)) 3689348814741910323) + (mland (mlushr (x0 - (mland (mlushr x0 1) 6148914691236517205)) 2) 3689348814741910323)) + (mlushr ((mland (x0 - (mland (mlushr x0 1) 6148914691236517205)) 3689348814741910323) + (mland (mlushr (x0 - (mland (mlushr x0 1) 6148914691236517205)) 2) 3689348814741910323)) 4)) 1085102592571150095) + (mlushr (mland (((mland (x0 - (mland (mlushr x0 1) 6148914691236517205)) 3689348814741910323) + (mland (mlushr (x0 - (mland (mlushr x0 1) 6148914691236517205)) 2) 3689348814741910323)) + (mlushr ((mland (x0 - (mland (mlushr x0 1) 6148914691236517205)) 3689348814741910323) + (mland (mlushr (x0 - (mland (mlushr x0 1) 6148914691236517205)) 2) 3689348814741910323)) 4)) 1085102592571150095) 8)) + (mlushr ((mland (((mland (x0 - (mland (mlushr x0 1) 6148914691236517205)) 3689348814741910323) + (mland (mlushr (x0 - (mland (mlushr x0 1) 6148914691236517205)) 2) 3689348814741910323)) + (mlushr ((mland (x0 - (mland (mlushr x0 1) 6148914691236517205)) 3689348814741910323) + (mland (mlushr (x0 - (mland (mlushr x0 1) 6148914691236517205)) 2) 3689348814741910323)) 4)) 1085102592571150095) + (mlushr (mland (((mland (x0 - (mland (mlushr x0 1) 6148914691236517205)) 3689348814741910323) + (mland (mlushr (x0 - (mland (mlushr x0 1) 6148914691236517205)) 2) 3689348814741910323)) + (mlushr ((mland (x0 - (mland (mlushr x0 1) 6148914691236517205)) 3689348814741910323) + (mland (mlushr (x0 - (mland (mlushr x0 1) 6148914691236517205)) 2) 3689348814741910323)) 4)) 1085102592571150095) 8)) 16)) + (mlushr (((mland (((mland (x0 - (mland (mlushr x0 1) 6148914691236517205)) 3689348814741910323) + (mland (mlushr (x0 - (mland (mlushr x0 1) 6148914691236517205)) 2) 3689348814741910323)) + (mlushr ((mland (x0 - (mland (mlushr x0 1) 6148914691236517205)) 3689348814741910323) + (mland (mlushr (x0 - (mland (mlushr x0 1) 6148914691236517205)) 2) 3689348814741910323)) 4)) 1085102592571150095) + (mlushr (mland (((mland (x0 - (mland (mlushr x0 1) 6148914691236517205)) 3689348814741910323) + (mland (mlushr (x0 - (mland (mlushr x0 1) 6148914691236517205)) 2) 3689348814741910323)) + (mlushr ((mland (x0 - (mland (mlushr x0 1) 6148914691236517205)) 3689348814741910323) + (mland (mlushr (x0 - (mland (mlushr x0 1) 6148914691236517205)) 2) 3689348814741910323)) 4)) 1085102592571150095) 8)) + (mlushr ((mland (((mland (x0 - (mland (mlushr x0 1) 6148914691236517205)) 3689348814741910323) + (mland (mlushr (x0 - (mland (mlushr x0 1) 6148914691236517205)) 2) 3689348814741910323)) + (mlushr ((mland (x0 - (mland (mlushr x0 1) 6148914691236517205)) 3689348814741910323) + (mland (mlushr (x0 - (mland (mlushr x0 1) 6148914691236517205)) 2) 3689348814741910323)) 4)) 1085102592571150095) + (mlushr (mland (((mland (x0 - (mland (mlushr x0 1) 6148914691236517205)) 3689348814741910323) + (mland (mlushr (x0 - (mland (mlushr x0 1) 6148914691236517205)) 2) 3689348814741910323)) + (mlushr ((mland (x0 - (mland (mlushr x0 1) 6148914691236517205)) 3689348814741910323) + (mland (mlushr (x0 - (mland (mlushr x0 1) 6148914691236517205)) 2) 3689348814741910323)) 4)) 1085102592571150095) 8)) 16)) 32)) 127 := by simp only [v_297]
  rw [y0] at h
  exact h (show 0 ≤ (miand ((((mland (((mland (x0 - (mland (mlushr x0 1) 6148914691236517205)) 3689348814741910323) + (mland (mlushr (x0 - (mland (mlushr x0 1) 6148914691236517205)) 2) 3689348814741910323)) + (mlushr ((mland (x0 - (mland (mlushr x0 1) 6148914691236517205)) 3689348814741910323) + (mland (mlushr (x0 - (mland (mlushr x0 1) 6148914691236517205)) 2) 3689348814741910323)) 4)) 1085102592571150095) + (mlushr (mland (((mland (x0 - (mland (mlushr x0 1) 6148914691236517205)) 3689348814741910323) + (mland (mlushr (x0 - (mland (mlushr x0 1) 6148914691236517205)) 2) 3689348814741910323)) + (mlushr ((mland (x0 - (mland (mlushr x0 1) 6148914691236517205)) 3689348814741910323) + (mland (mlushr (x0 - (mland (mlushr x0 1) 6148914691236517205)) 2) 3689348814741910323)) 4)) 1085102592571150095) 8)) + (mlushr ((mland (((mland (x0 - (mland (mlushr x0 1) 6148914691236517205)) 3689348814741910323) + (mland (mlushr (x0 - (mland (mlushr x0 1) 6148914691236517205)) 2) 3689348814741910323)) + (mlushr ((mland (x0 - (mland (mlushr x0 1) 6148914691236517205)) 3689348814741910323) + (mland (mlushr (x0 - (mland (mlushr x0 1) 6148914691236517205)) 2) 3689348814741910323)) 4)) 1085102592571150095) + (mlushr (mland (((mland (x0 - (mland (mlushr x0 1) 6148914691236517205)) 3689348814741910323) + (mland (mlushr (x0 - (mland (mlushr x0 1) 6148914691236517205)) 2) 3689348814741910323)) + (mlushr ((mland (x0 - (mland (mlushr x0 1) 6148914691236517205)) 3689348814741910323) + (mland (mlushr (x0 - (mland (mlushr x0 1) 6148914691236517205)) 2) 3689348814741910323)) 4)) 1085102592571150095) 8)) 16)) + (mlushr (((mland (((mland (x0 - (mland (mlushr x0 1) 6148914691236517205)) 3689348814741910323) + (mland (mlushr (x0 - (mland (mlushr x0 1) 6148914691236517205)) 2) 3689348814741910323)) + (mlushr ((mland (x0 - (mland (mlushr x0 1) 6148914691236517205)) 3689348814741910323) + (mland (mlushr (x0 - (mland (mlushr x0 1) 6148914691236517205)) 2) 3689348814741910323)) 4)) 1085102592571150095) + (mlushr (mland (((mland (x0 - (mland (mlushr x0 1) 6148914691236517205)) 3689348814741910323) + (mland (mlushr (x0 - (mland (mlushr x0 1) 6148914691236517205)) 2) 3689348814741910323)) + (mlushr ((mland (x0 - (mland (mlushr x0 1) 6148914691236517205)) 3689348814741910323) + (mland (mlushr (x0 - (mland (mlushr x0 1) 6148914691236517205)) 2) 3689348814741910323)) 4)) 1085102592571150095) 8)) + (mlushr ((mland (((mland (x0 - (mland (mlushr x0 1) 6148914691236517205)) 3689348814741910323) + (mland (mlushr (x0 - (mland (mlushr x0 1) 6148914691236517205)) 2) 3689348814741910323)) + (mlushr ((mland (x0 - (mland (mlushr x0 1) 6148914691236517205)) 3689348814741910323) + (mland (mlushr (x0 - (mland (mlushr x0 1) 6148914691236517205)) 2) 3689348814741910323)) 4)) 1085102592571150095) + (mlushr (mland (((mland (x0 - (mland (mlushr x0 1) 6148914691236517205)) 3689348814741910323) + (mland (mlushr (x0 - (mland (mlushr x0 1) 6148914691236517205)) 2) 3689348814741910323)) + (mlushr ((mland (x0 - (mland (mlushr x0 1) 6148914691236517205)) 3689348814741910323) + (mland (mlushr (x0 - (mland (mlushr x0 1) 6148914691236517205)) 2) 3689348814741910323)) 4)) 1085102592571150095) 8)) 16)) 32)) 127) ∧ (miand ((((mland (((mland (x0 - (mland (mlushr x0 1) 6148914691236517205)) 3689348814741910323) + (mland (mlushr (x0 - (mland (mlushr x0 1) 6148914691236517205)) 2) 3689348814741910323)) + (mlushr ((mland (x0 - (mland (mlushr x0 1) 6148914691236517205)) 3689348814741910323) + (mland (mlushr (x0 - (mland (mlushr x0 1) 6148914691236517205)) 2) 3689348814741910323)) 4)) 1085102592571150095) + (mlushr (mland (((mland (x0 - (mland (mlushr x0 1) 6148914691236517205)) 3689348814741910323) + (mland (mlushr (x0 - (mland (mlushr x0 1) 6148914691236517205)) 2) 3689348814741910323)) + (mlushr ((mland (x0 - (mland (mlushr x0 1) 6148914691236517205)) 3689348814741910323) + (mland (mlushr (x0 - (mland (mlushr x0 1) 6148914691236517205)) 2) 3689348814741910323)) 4)) 1085102592571150095) 8)) + (mlushr ((mland (((mland (x0 - (mland (mlushr x0 1) 6148914691236517205)) 3689348814741910323) + (mland (mlushr (x0 - (mland (mlushr x0 1) 6148914691236517205)) 2) 3689348814741910323)) + (mlushr ((mland (x0 - (mland (mlushr x0 1) 6148914691236517205)) 3689348814741910323) + (mland (mlushr (x0 - (mland (mlushr x0 1) 6148914691236517205)) 2) 3689348814741910323)) 4)) 1085102592571150095) + (mlushr (mland (((mland (x0 - (mland (mlushr x0 1) 6148914691236517205)) 3689348814741910323) + (mland (mlushr (x0 - (mland (mlushr x0 1) 6148914691236517205)) 2) 3689348814741910323)) + (mlushr ((mland (x0 - (mland (mlushr x0 1) 6148914691236517205)) 3689348814741910323) + (mland (mlushr (x0 - (mland (mlushr x0 1) 6148914691236517205)) 2) 3689348814741910323)) 4)) 1085102592571150095) 8)) 16)) + (mlushr (((mland (((mland (x0 - (mland (mlushr x0 1) 6148914691236517205)) 3689348814741910323) + (mland (mlushr (x0 - (mland (mlushr x0 1) 6148914691236517205)) 2) 3689348814741910323)) + (mlushr ((mland (x0 - (mland (mlushr x0 1) 6148914691236517205)) 3689348814741910323) + (mland (mlushr (x0 - (mland (mlushr x0 1) 6148914691236517205)) 2) 3689348814741910323)) 4)) 1085102592571150095) + (mlushr (mland (((mland (x0 - (mland (mlushr x0 1) 6148914691236517205)) 3689348814741910323) + (mland (mlushr (x0 - (mland (mlushr x0 1) 6148914691236517205)) 2) 3689348814741910323)) + (mlushr ((mland (x0 - (mland (mlushr x0 1) 6148914691236517205)) 3689348814741910323) + (mland (mlushr (x0 - (mland (mlushr x0 1) 6148914691236517205)) 2) 3689348814741910323)) 4)) 1085102592571150095) 8)) + (mlushr ((mland (((mland (x0 - (mland (mlushr x0 1) 6148914691236517205)) 3689348814741910323) + (mland (mlushr (x0 - (mland (mlushr x0 1) 6148914691236517205)) 2) 3689348814741910323)) + (mlushr ((mland (x0 - (mland (mlushr x0 1) 6148914691236517205)) 3689348814741910323) + (mland (mlushr (x0 - (mland (mlushr x0 1) 6148914691236517205)) 2) 3689348814741910323)) 4)) 1085102592571150095) + (mlushr (mland (((mland (x0 - (mland (mlushr x0 1) 6148914691236517205)) 3689348814741910323) + (mland (mlushr (x0 - (mland (mlushr x0 1) 6148914691236517205)) 2) 3689348814741910323)) + (mlushr ((mland (x0 - (mland (mlushr x0 1) 6148914691236517205)) 3689348814741910323) + (mland (mlushr (x0 - (mland (mlushr x0 1) 6148914691236517205)) 2) 3689348814741910323)) 4)) 1085102592571150095) 8)) 16)) 32)) 127) ≤ 127 from (miand_r _ _ (by decide) (by decide)))
def v_298 (x0 : Int) (d : mD) : Int := miand (((miand (((miand (x0 - (miand (miushr x0 1) 1431655765)) 858993459) + (miand (miushr (x0 - (miand (miushr x0 1) 1431655765)) 2) 858993459)) + (miushr ((miand (x0 - (miand (miushr x0 1) 1431655765)) 858993459) + (miand (miushr (x0 - (miand (miushr x0 1) 1431655765)) 2) 858993459)) 4)) 252645135) + (miushr (miand (((miand (x0 - (miand (miushr x0 1) 1431655765)) 858993459) + (miand (miushr (x0 - (miand (miushr x0 1) 1431655765)) 2) 858993459)) + (miushr ((miand (x0 - (miand (miushr x0 1) 1431655765)) 858993459) + (miand (miushr (x0 - (miand (miushr x0 1) 1431655765)) 2) 858993459)) 4)) 252645135) 8)) + (miushr ((miand (((miand (x0 - (miand (miushr x0 1) 1431655765)) 858993459) + (miand (miushr (x0 - (miand (miushr x0 1) 1431655765)) 2) 858993459)) + (miushr ((miand (x0 - (miand (miushr x0 1) 1431655765)) 858993459) + (miand (miushr (x0 - (miand (miushr x0 1) 1431655765)) 2) 858993459)) 4)) 252645135) + (miushr (miand (((miand (x0 - (miand (miushr x0 1) 1431655765)) 858993459) + (miand (miushr (x0 - (miand (miushr x0 1) 1431655765)) 2) 858993459)) + (miushr ((miand (x0 - (miand (miushr x0 1) 1431655765)) 858993459) + (miand (miushr (x0 - (miand (miushr x0 1) 1431655765)) 2) 858993459)) 4)) 252645135) 8)) 16)) 63
theorem k_298 {E : mO × tW} {K : tK} {d : mD} {x0 : Int} (hS : Safe d) (h : (0 ≤ (v_298 x0 d) ∧ (v_298 x0 d) ≤ 63) → K (.inl (some (0, (v_298 x0 d)))) d) : tCall E 298 [.inl (0, x0)] d K := by
  refine t_298_0 ?_
  have q1 := miand_r (((miand (((miand (x0 - (miand (miushr x0 1) 1431655765)) 858993459) + (miand (miushr (x0 - (miand (miushr x0 1) 1431655765)) 2) 858993459)) + (miushr ((miand (x0 - (miand (miushr x0 1) 1431655765)) 858993459) + (miand (miushr (x0 - (miand (miushr x0 1) 1431655765)) 2) 858993459)) 4)) 252645135) + (miushr (miand (((miand (x0 - (miand (miushr x0 1) 1431655765)) 858993459) + (miand (miushr (x0 - (miand (miushr x0 1) 1431655765)) 2) 858993459)) + (miushr ((miand (x0 - (miand (miushr x0 1) 1431655765)) 858993459) + (miand (miushr (x0 - (miand (miushr x0 1) 1431655765)) 2) 858993459)) 4)) 252645135) 8)) + (miushr ((miand (((miand (x0 - (miand (miushr x0 1) 1431655765)) 858993459) + (miand (miushr (x0 - (miand (miushr x0 1) 1431655765)) 2) 858993459)) + (miushr ((miand (x0 - (miand (miushr x0 1) 1431655765)) 858993459) + (miand (miushr (x0 - (miand (miushr x0 1) 1431655765)) 2) 858993459)) 4)) 252645135) + (miushr (miand (((miand (x0 - (miand (miushr x0 1) 1431655765)) 858993459) + (miand (miushr (x0 - (miand (miushr x0 1) 1431655765)) 2) 858993459)) + (miushr ((miand (x0 - (miand (miushr x0 1) 1431655765)) 858993459) + (miand (miushr (x0 - (miand (miushr x0 1) 1431655765)) 2) 858993459)) 4)) 252645135) 8)) 16)) 63 (by decide) (by decide)
  have y0 : v_298 x0 d = miand (((miand (((miand (x0 - (miand (miushr x0 1) 1431655765)) 858993459) + (miand (miushr (x0 - (miand (miushr x0 1) 1431655765)) 2) 858993459)) + (miushr ((miand (x0 - (miand (miushr x0 1) 1431655765)) 858993459) + (miand (miushr (x0 - (miand (miushr x0 1) 1431655765)) 2) 858993459)) 4)) 252645135) + (miushr (miand (((miand (x0 - (miand (miushr x0 1) 1431655765)) 858993459) + (miand (miushr (x0 - (miand (miushr x0 1) 1431655765)) 2) 858993459)) + (miushr ((miand (x0 - (miand (miushr x0 1) 1431655765)) 858993459) + (miand (miushr (x0 - (miand (miushr x0 1) 1431655765)) 2) 858993459)) 4)) 252645135) 8)) + (miushr ((miand (((miand (x0 - (miand (miushr x0 1) 1431655765)) 858993459) + (miand (miushr (x0 - (miand (miushr x0 1) 1431655765)) 2) 858993459)) + (miushr ((miand (x0 - (miand (miushr x0 1) 1431655765)) 858993459) + (miand (miushr (x0 - (miand (miushr x0 1) 1431655765)) 2) 858993459)) 4)) 252645135) + (miushr (miand (((miand (x0 - (miand (miushr x0 1) 1431655765)) 858993459) + (miand (miushr (x0 - (miand (miushr x0 1) 1431655765)) 2) 858993459)) + (miushr ((miand (x0 - (miand (miushr x0 1) 1431655765)) 858993459) + (miand (miushr (x0 - (miand (miushr x0 1) 1431655765)) 2) 858993459)) 4)) 252645135) 8)) 16)) 63 := by simp only [v_298]
  rw [y0] at h
  exact h (show 0 ≤ (miand (((miand (((miand (x0 - (miand (miushr x0 1) 1431655765)) 858993459) + (miand (miushr (x0 - (miand (miushr x0 1) 1431655765)) 2) 858993459)) + (miushr ((miand (x0 - (miand (miushr x0 1) 1431655765)) 858993459) + (miand (miushr (x0 - (miand (miushr x0 1) 1431655765)) 2) 858993459)) 4)) 252645135) + (miushr (miand (((miand (x0 - (miand (miushr x0 1) 1431655765)) 858993459) + (miand (miushr (x0 - (miand (miushr x0 1) 1431655765)) 2) 858993459)) + (miushr ((miand (x0 - (miand (miushr x0 1) 1431655765)) 858993459) + (miand (miushr (x0 - (miand (miushr x0 1) 1431655765)) 2) 858993459)) 4)) 252645135) 8)) + (miushr ((miand (((miand (x0 - (miand (miushr x0 1) 1431655765)) 858993459) + (miand (miushr (x0 - (miand (miushr x0 1) 1431655765)) 2) 858993459)) + (miushr ((miand (x0 - (miand (miushr x0 1) 1431655765)) 858993459) + (miand (miushr (x0 - (miand (miushr x0 1) 1431655765)) 2) 858993459)) 4)) 252645135) + (miushr (miand (((miand (x0 - (miand (miushr x0 1) 1431655765)) 858993459) + (miand (miushr (x0 - (miand (miushr x0 1) 1431655765)) 2) 858993459)) + (miushr ((miand (x0 - (miand (miushr x0 1) 1431655765)) 858993459) + (miand (miushr (x0 - (miand (miushr x0 1) 1431655765)) 2) 858993459)) 4)) 252645135) 8)) 16)) 63) ∧ (miand (((miand (((miand (x0 - (miand (miushr x0 1) 1431655765)) 858993459) + (miand (miushr (x0 - (miand (miushr x0 1) 1431655765)) 2) 858993459)) + (miushr ((miand (x0 - (miand (miushr x0 1) 1431655765)) 858993459) + (miand (miushr (x0 - (miand (miushr x0 1) 1431655765)) 2) 858993459)) 4)) 252645135) + (miushr (miand (((miand (x0 - (miand (miushr x0 1) 1431655765)) 858993459) + (miand (miushr (x0 - (miand (miushr x0 1) 1431655765)) 2) 858993459)) + (miushr ((miand (x0 - (miand (miushr x0 1) 1431655765)) 858993459) + (miand (miushr (x0 - (miand (miushr x0 1) 1431655765)) 2) 858993459)) 4)) 252645135) 8)) + (miushr ((miand (((miand (x0 - (miand (miushr x0 1) 1431655765)) 858993459) + (miand (miushr (x0 - (miand (miushr x0 1) 1431655765)) 2) 858993459)) + (miushr ((miand (x0 - (miand (miushr x0 1) 1431655765)) 858993459) + (miand (miushr (x0 - (miand (miushr x0 1) 1431655765)) 2) 858993459)) 4)) 252645135) + (miushr (miand (((miand (x0 - (miand (miushr x0 1) 1431655765)) 858993459) + (miand (miushr (x0 - (miand (miushr x0 1) 1431655765)) 2) 858993459)) + (miushr ((miand (x0 - (miand (miushr x0 1) 1431655765)) 858993459) + (miand (miushr (x0 - (miand (miushr x0 1) 1431655765)) 2) 858993459)) 4)) 252645135) 8)) 16)) 63) ≤ 63 from (miand_r _ _ (by decide) (by decide)))
def g_299 (x0 x1 : Int) (d : mD) : mD := mfl d x0 x1 16
theorem k_299 {E : mO × tW} {K : tK} {d : mD} {x0 x1 : Int} (hS : Safe d) (hr : ∀ i, rg (tcd x0) i x1) (h : (∀ b : Int, (b < x0 ∨ x0 < b) → (g_299 x0 x1 d) b = d b) → Safe (g_299 x0 x1 d) → K (.inl none) (g_299 x0 x1 d)) : tCall E 299 [.inr (18, x0), .inl (0, x1)] d K := by
  refine t_299_0 ?_
  refine t_rounds (fun i d => (5, [.inr (18, x0), .inl (0, x1), .inl (0, i), .inl (0, 16)], [], 0, 0, d)) (fun i d' => d' = mfl d x0 x1 i) (N := 16) (by decide) (fun i d' h0 h1 hd k => ?_) (fun d' hd => ?_) (mfl_0 d x0 x1).symm
  · subst hd
    exact t_299_5 ⟨⟨m_inR (by omega) (by omega), m_inR (by omega) (by omega)⟩, fun c => absurd c (by omega), fun _ => ⟨⟨h0, h1⟩, k _ (mfl_s d x0 x1 h0)⟩⟩
  · subst hd
    exact t_299_5 ⟨⟨m_inR (by omega) (by omega), m_inR (by omega) (by omega)⟩, fun _ => h (fun b hb => mfl_ne (by omega)) (hS.fl hr), fun c => absurd c (by omega)⟩
def g_300 (x0 x1 : Int) (d : mD) : mD := mfl d x0 x1 16
theorem k_300 {E : mO × tW} {K : tK} {d : mD} {x0 x1 : Int} (hS : Safe d) (hr : ∀ i, rg (tcd x0) i x1) (h : (∀ b : Int, (b < x0 ∨ x0 < b) → (g_300 x0 x1 d) b = d b) → Safe (g_300 x0 x1 d) → K (.inl none) (g_300 x0 x1 d)) : tCall E 300 [.inr (20, x0), .inl (1, x1)] d K := by
  refine t_300_0 ?_
  refine t_rounds (fun i d => (6, [.inr (20, x0), .inl (1, x1), tu, .inl (0, i), .inl (0, 16)], [], 0, 0, d)) (fun i d' => d' = mfl d x0 x1 i) (N := 16) (by decide) (fun i d' h0 h1 hd k => ?_) (fun d' hd => ?_) (mfl_0 d x0 x1).symm
  · subst hd
    exact t_300_6 ⟨⟨m_inR (by omega) (by omega), m_inR (by omega) (by omega)⟩, fun c => absurd c (by omega), fun _ => ⟨⟨h0, h1⟩, k _ (mfl_s d x0 x1 h0)⟩⟩
  · subst hd
    exact t_300_6 ⟨⟨m_inR (by omega) (by omega), m_inR (by omega) (by omega)⟩, fun _ => h (fun b hb => mfl_ne (by omega)) (hS.fl hr), fun c => absurd c (by omega)⟩
def v_6 (x0 x1 : Int) (d : mD) : Int := if x1 < 0 then 0 else if (999 : Int) < x1 then 0 else if mcmp (mland (mlushr (d (x0 + 1) (mishr x1 6)) (miand x1 63)) 1) 0 = 0 then 0 else 1
theorem k_6 {E : mO × tW} {K : tK} {d : mD} {x0 x1 : Int} (hS : Safe d) (hx0 : hsB x0) (p1 : -2147483648 ≤ x1 ∧ x1 ≤ 2147483647) (h : (0 ≤ (v_6 x0 x1 d) ∧ (v_6 x0 x1 d) ≤ 1) → K (.inl (some (0, (v_6 x0 x1 d)))) d) : tCall E 6 [.inr (1, x0), .inl (0, x1)] d K := by
  refine t_6_0 ?_
  have w1 := mishr6_r x1
  refine ⟨m_inR (by omega) (by omega), fun c0 => ?_, fun c0 => ?_⟩
  · refine ⟨by omega, ?_⟩
    have y0 : v_6 x0 x1 d = 0 := by simp only [v_6, if_pos (show x1 < 0 from c0)]
    rw [y0] at h
    exact h (show 0 ≤ ((0 : Int)) ∧ ((0 : Int)) ≤ 1 from (by omega))
  · refine ⟨⟨m_inR (by omega) (by omega), m_inR (by omega) (by omega)⟩, fun c1 => ?_, fun c1 => ?_⟩
    · refine ⟨by omega, ?_⟩
      have y0 : v_6 x0 x1 d = 0 := by simp only [v_6, if_neg (show ¬ x1 < 0 from Int.not_lt.mpr c0), if_pos (show (999 : Int) < x1 from c1)]
      rw [y0] at h
      exact h (show 0 ≤ ((0 : Int)) ∧ ((0 : Int)) ≤ 1 from (by omega))
    · have q1 := mcmp_r (mland (mlushr (d (x0 + 1) (mishr x1 6)) (miand x1 63)) 1) 0
      refine ⟨by omega, ⟨mJ_inL _ _ _, ⟨by omega, by omega⟩⟩, m_inR (by omega) (by omega), fun c2 => ?_, fun c2 => ?_⟩
      · refine ⟨by omega, ?_⟩
        have y0 : v_6 x0 x1 d = 0 := by simp only [v_6, if_neg (show ¬ x1 < 0 from Int.not_lt.mpr c0), if_neg (show ¬ (999 : Int) < x1 from Int.not_lt.mpr c1), if_pos (show mcmp (mland (mlushr (d (x0 + 1) (mishr x1 6)) (miand x1 63)) 1) 0 = 0 from c2)]
        rw [y0] at h
        exact h (show 0 ≤ ((0 : Int)) ∧ ((0 : Int)) ≤ 1 from (by omega))
      · refine ⟨by omega, ?_⟩
        have y0 : v_6 x0 x1 d = 1 := by simp only [v_6, if_neg (show ¬ x1 < 0 from Int.not_lt.mpr c0), if_neg (show ¬ (999 : Int) < x1 from Int.not_lt.mpr c1), if_neg (show ¬ mcmp (mland (mlushr (d (x0 + 1) (mishr x1 6)) (miand x1 63)) 1) 0 = 0 from c2)]
        rw [y0] at h
        exact h (show 0 ≤ ((1 : Int)) ∧ ((1 : Int)) ≤ 1 from (by omega))
def g_7 (x0 x1 : Int) (d : mD) : mD := if x1 < 0 then d else if (999 : Int) < x1 then d else mset d (x0 + 1) (mishr x1 6) (mlor (d (x0 + 1) (mishr x1 6)) (mlshl 1 (miand x1 63)))
theorem k_7 {E : mO × tW} {K : tK} {d : mD} {x0 x1 : Int} (hS : Safe d) (hx0 : hsB x0) (p1 : -2147483648 ≤ x1 ∧ x1 ≤ 2147483647) (h : (∀ b : Int, (b < x0 + 1 ∨ x0 + 1 < b) → (g_7 x0 x1 d) b = d b) → Safe (g_7 x0 x1 d) → K (.inl none) (g_7 x0 x1 d)) : tCall E 7 [.inr (1, x0), .inl (0, x1)] d K := by
  refine t_7_0 ?_
  have w1 := mishr6_r x1
  refine ⟨m_inR (by omega) (by omega), fun c0 => ?_, fun c0 => ?_⟩
  · have y0 : g_7 x0 x1 d = d := by simp only [g_7, if_pos (show x1 < 0 from c0)]
    rw [y0] at h
    exact h (show ∀ b : Int, (b < x0 + 1 ∨ x0 + 1 < b) → d b = d b from fun _ _ => rfl) hS
  · refine ⟨⟨m_inR (by omega) (by omega), m_inR (by omega) (by omega)⟩, fun c1 => ?_, fun c1 => ?_⟩
    · have y0 : g_7 x0 x1 d = d := by simp only [g_7, if_neg (show ¬ x1 < 0 from Int.not_lt.mpr c0), if_pos (show (999 : Int) < x1 from c1)]
      rw [y0] at h
      exact h (show ∀ b : Int, (b < x0 + 1 ∨ x0 + 1 < b) → d b = d b from fun _ _ => rfl) hS
    · refine ⟨by omega, by omega, ?_⟩
      have hS1 : Safe (mset d (x0 + 1) (mishr x1 6) (mlor (d (x0 + 1) (mishr x1 6)) (mlshl 1 (miand x1 63)))) := s_1_1 hS hx0
      have y0 : g_7 x0 x1 d = mset d (x0 + 1) (mishr x1 6) (mlor (d (x0 + 1) (mishr x1 6)) (mlshl 1 (miand x1 63))) := by simp only [g_7, if_neg (show ¬ x1 < 0 from Int.not_lt.mpr c0), if_neg (show ¬ (999 : Int) < x1 from Int.not_lt.mpr c1)]
      rw [y0] at h
      exact h (show ∀ b : Int, (b < x0 + 1 ∨ x0 + 1 < b) → (mset d (x0 + 1) (mishr x1 6) (mlor (d (x0 + 1) (mishr x1 6)) (mlshl 1 (miand x1 63)))) b = d b from fun b hb => mset_ne (by omega)) hS1
def g_8 (x0 : Int) (d : mD) : mD := g_300 (x0 + 1) 0 d
theorem k_8 {E : mO × tW} {K : tK} {d : mD} {x0 : Int} (hS : Safe d) (hx0 : hsB x0) (h : (∀ b : Int, (b < x0 + 1 ∨ x0 + 1 < b) → (g_8 x0 d) b = d b) → Safe (g_8 x0 d) → K (.inl none) (g_8 x0 d)) : tCall E 8 [.inr (1, x0)] d K := by
  refine t_8_0 ?_
  refine k_300 hS (fun i => tcd_hs hx0 i _) (fun F1 hS1 => ?_)
  refine t_8_8 ?_
  have y0 : g_8 x0 d = g_300 (x0 + 1) 0 d := by simp only [g_8]
  rw [y0] at h
  exact h (show ∀ b : Int, (b < x0 + 1 ∨ x0 + 1 < b) → (g_300 (x0 + 1) 0 d) b = d b from fun b hb => F1 b (by omega)) hS1
def st_9_4 (x0 : Int) (r4 : Int → Int → mD → Int) (x1 x2 : Int) (d : mD) : Int := if x2 < 16 then r4 (x1 + (v_297 (d (x0 + 1) x2) d)) (x2 + 1) d else x1
def lp_9_4 (x0 : Int) : Nat → Int → Int → mD → Int
  | 0 => st_9_4 x0 (fun _ _ d => 0)
  | n + 1 => st_9_4 x0 (lp_9_4 x0 n)
theorem ls_9_4 {E : mO × tW} {K : tK} {x0 : Int} (hx0 : hsB x0) (N4 : Int) (r4 : Int → Int → mD → Int) (ih4 : ∀ (x1 x2 : Int) (d : mD), Safe d → (0 ≤ x2 ∧ x2 ≤ 16) → (0 ≤ x1 ∧ x1 ≤ 127 * x2) → 0 ≤ 16 - x2 → 16 - x2 < N4 → ((0 ≤ (r4 x1 x2 d) ∧ (r4 x1 x2 d) ≤ 2032) → K (.inl (some (0, (r4 x1 x2 d)))) d) → tRun E 9 (4, [.inr (1, x0), .inl (0, x1), .inl (0, x2)], [], 0, 0, d) K) (x1 x2 : Int) (d : mD) (hS : Safe d) (i0 : 0 ≤ x2 ∧ x2 ≤ 16) (i1 : 0 ≤ x1 ∧ x1 ≤ 127 * x2) (hm : 16 - x2 ≤ N4) (h : (0 ≤ (st_9_4 x0 r4 x1 x2 d) ∧ (st_9_4 x0 r4 x1 x2 d) ≤ 2032) → K (.inl (some (0, (st_9_4 x0 r4 x1 x2 d)))) d) : tRun E 9 (4, [.inr (1, x0), .inl (0, x1), .inl (0, x2)], [], 0, 0, d) K := by
  refine t_9_4 ?_
  refine ⟨⟨m_inR (by omega) (by omega), m_inR (by omega) (by omega)⟩, fun c0 => ?_, fun c0 => ?_⟩
  · have y0 : st_9_4 x0 r4 x1 x2 d = x1 := by simp only [st_9_4, if_neg (show ¬ x2 < 16 from Int.not_lt.mpr c0)]
    rw [y0] at h
    exact h (show 0 ≤ x1 ∧ x1 ≤ 2032 from (by omega))
  · refine ⟨by omega, ?_⟩
    refine k_297 hS (fun e1 => ?_)
    refine t_9_20 ?_
    refine ih4 (x1 + (v_297 (d (x0 + 1) x2) d)) (x2 + 1)  d hS (by omega) (by omega) (by omega) (by omega) ?_
    intro e
    have y0 : st_9_4 x0 r4 x1 x2 d = r4 (x1 + (v_297 (d (x0 + 1) x2) d)) (x2 + 1) d := by simp only [st_9_4, if_pos (show x2 < 16 from c0)]
    rw [y0] at h
    exact h e
theorem l_9_4 {E : mO × tW} {K : tK} {x0 : Int} (hx0 : hsB x0) : ∀ (n : Nat) (x1 x2 : Int) (d : mD), Safe d → (0 ≤ x2 ∧ x2 ≤ 16) → (0 ≤ x1 ∧ x1 ≤ 127 * x2) → 16 - x2 ≤ (n : Int) → ((0 ≤ (lp_9_4 x0 n x1 x2 d) ∧ (lp_9_4 x0 n x1 x2 d) ≤ 2032) → K (.inl (some (0, (lp_9_4 x0 n x1 x2 d)))) d) → tRun E 9 (4, [.inr (1, x0), .inl (0, x1), .inl (0, x2)], [], 0, 0, d) K := by
  intro n
  induction n with
  | zero =>
    intro x1 x2  d hS i0 i1 hm  h
    exact ls_9_4 hx0 0 _ (fun _ _  _ _ _ _ m0 m1 _ => absurd m1 (by omega)) x1 x2  d hS i0 i1 hm  h
  | succ n ih =>
    intro x1 x2  d hS i0 i1 hm  h
    exact ls_9_4 hx0 ((n + 1 : Nat) : Int) _ (fun x1 x2  d hS i0 i1  m0 m1 h => ih x1 x2  d hS i0 i1 (by omega)  h) x1 x2  d hS i0 i1 hm  h
def v_9 (x0 : Int) (d : mD) : Int := lp_9_4 x0 (16 - 0 : Int).toNat 0 0 d
theorem k_9 {E : mO × tW} {K : tK} {d : mD} {x0 : Int} (hS : Safe d) (hx0 : hsB x0) (h : (0 ≤ (v_9 x0 d) ∧ (v_9 x0 d) ≤ 2032) → K (.inl (some (0, (v_9 x0 d)))) d) : tCall E 9 [.inr (1, x0)] d K := by
  refine t_9_0 ?_
  refine l_9_4 hx0 (16 - 0 : Int).toNat 0 0  d hS (by omega) (by omega) (by omega) ?_
  intro e
  have y0 : v_9 x0 d = lp_9_4 x0 (16 - 0 : Int).toNat 0 0 d := by simp only [v_9]
  rw [y0] at h
  exact h e
def st_10_4 (x0 x1 : Int) (r4 : Int → Int → mD → Int) (x2 x3 : Int) (d : mD) : Int := if x3 < 16 then r4 (x2 + (v_297 (mland (d (x0 + 1) x3) (mlxor (d (x1 + 1) x3) ((-1)))) d)) (x3 + 1) d else x2
def lp_10_4 (x0 x1 : Int) : Nat → Int → Int → mD → Int
  | 0 => st_10_4 x0 x1 (fun _ _ d => 0)
  | n + 1 => st_10_4 x0 x1 (lp_10_4 x0 x1 n)
theorem ls_10_4 {E : mO × tW} {K : tK} {x0 x1 : Int} (hx0 : hsB x0) (hx1 : hsB x1) (N4 : Int) (r4 : Int → Int → mD → Int) (ih4 : ∀ (x2 x3 : Int) (d : mD), Safe d → (0 ≤ x3 ∧ x3 ≤ 16) → (0 ≤ x2 ∧ x2 ≤ 127 * x3) → 0 ≤ 16 - x3 → 16 - x3 < N4 → ((0 ≤ (r4 x2 x3 d) ∧ (r4 x2 x3 d) ≤ 2032) → K (.inl (some (0, (r4 x2 x3 d)))) d) → tRun E 10 (4, [.inr (1, x0), .inr (1, x1), .inl (0, x2), .inl (0, x3)], [], 0, 0, d) K) (x2 x3 : Int) (d : mD) (hS : Safe d) (i0 : 0 ≤ x3 ∧ x3 ≤ 16) (i1 : 0 ≤ x2 ∧ x2 ≤ 127 * x3) (hm : 16 - x3 ≤ N4) (h : (0 ≤ (st_10_4 x0 x1 r4 x2 x3 d) ∧ (st_10_4 x0 x1 r4 x2 x3 d) ≤ 2032) → K (.inl (some (0, (st_10_4 x0 x1 r4 x2 x3 d)))) d) : tRun E 10 (4, [.inr (1, x0), .inr (1, x1), .inl (0, x2), .inl (0, x3)], [], 0, 0, d) K := by
  refine t_10_4 ?_
  refine ⟨⟨m_inR (by omega) (by omega), m_inR (by omega) (by omega)⟩, fun c0 => ?_, fun c0 => ?_⟩
  · have y0 : st_10_4 x0 x1 r4 x2 x3 d = x2 := by simp only [st_10_4, if_neg (show ¬ x3 < 16 from Int.not_lt.mpr c0)]
    rw [y0] at h
    exact h (show 0 ≤ x2 ∧ x2 ≤ 2032 from (by omega))
  · refine ⟨by omega, by omega, ?_⟩
    refine k_297 hS (fun e1 => ?_)
    refine t_10_31 ?_
    refine ih4 (x2 + (v_297 (mland (d (x0 + 1) x3) (mlxor (d (x1 + 1) x3) ((-1)))) d)) (x3 + 1)  d hS (by omega) (by omega) (by omega) (by omega) ?_
    intro e
    have y0 : st_10_4 x0 x1 r4 x2 x3 d = r4 (x2 + (v_297 (mland (d (x0 + 1) x3) (mlxor (d (x1 + 1) x3) ((-1)))) d)) (x3 + 1) d := by simp only [st_10_4, if_pos (show x3 < 16 from c0)]
    rw [y0] at h
    exact h e
theorem l_10_4 {E : mO × tW} {K : tK} {x0 x1 : Int} (hx0 : hsB x0) (hx1 : hsB x1) : ∀ (n : Nat) (x2 x3 : Int) (d : mD), Safe d → (0 ≤ x3 ∧ x3 ≤ 16) → (0 ≤ x2 ∧ x2 ≤ 127 * x3) → 16 - x3 ≤ (n : Int) → ((0 ≤ (lp_10_4 x0 x1 n x2 x3 d) ∧ (lp_10_4 x0 x1 n x2 x3 d) ≤ 2032) → K (.inl (some (0, (lp_10_4 x0 x1 n x2 x3 d)))) d) → tRun E 10 (4, [.inr (1, x0), .inr (1, x1), .inl (0, x2), .inl (0, x3)], [], 0, 0, d) K := by
  intro n
  induction n with
  | zero =>
    intro x2 x3  d hS i0 i1 hm  h
    exact ls_10_4 hx0 hx1 0 _ (fun _ _  _ _ _ _ m0 m1 _ => absurd m1 (by omega)) x2 x3  d hS i0 i1 hm  h
  | succ n ih =>
    intro x2 x3  d hS i0 i1 hm  h
    exact ls_10_4 hx0 hx1 ((n + 1 : Nat) : Int) _ (fun x2 x3  d hS i0 i1  m0 m1 h => ih x2 x3  d hS i0 i1 (by omega)  h) x2 x3  d hS i0 i1 hm  h
def v_10 (x0 x1 : Int) (d : mD) : Int := lp_10_4 x0 x1 (16 - 0 : Int).toNat 0 0 d
theorem k_10 {E : mO × tW} {K : tK} {d : mD} {x0 x1 : Int} (hS : Safe d) (hx0 : hsB x0) (hx1 : hsB x1) (h : (0 ≤ (v_10 x0 x1 d) ∧ (v_10 x0 x1 d) ≤ 2032) → K (.inl (some (0, (v_10 x0 x1 d)))) d) : tCall E 10 [.inr (1, x0), .inr (1, x1)] d K := by
  refine t_10_0 ?_
  refine l_10_4 hx0 hx1 (16 - 0 : Int).toNat 0 0  d hS (by omega) (by omega) (by omega) ?_
  intro e
  have y0 : v_10 x0 x1 d = lp_10_4 x0 x1 (16 - 0 : Int).toNat 0 0 d := by simp only [v_10]
  rw [y0] at h
  exact h e
def g_11 (x0 x1 : Int) (d : mD) : mD := mcopy d (x1 + 1) 0 (x0 + 1) 0 16
theorem k_11 {E : mO × tW} {K : tK} {d : mD} {x0 x1 : Int} (hS : Safe d) (hx0 : hsB x0) (hx1 : hsB x1) (h : (∀ b : Int, (b < x0 + 1 ∨ x0 + 1 < b) → (g_11 x0 x1 d) b = d b) → Safe (g_11 x0 x1 d) → K (.inl none) (g_11 x0 x1 d)) : tCall E 11 [.inr (1, x0), .inr (1, x1)] d K := by
  refine t_11_0 ?_
  refine ⟨by omega, ?_⟩
  have hS1 : Safe (mcopy d (x1 + 1) 0 (x0 + 1) 0 16) := c_1_1 hS hx0
  have y0 : g_11 x0 x1 d = mcopy d (x1 + 1) 0 (x0 + 1) 0 16 := by simp only [g_11]
  rw [y0] at h
  exact h (show ∀ b : Int, (b < x0 + 1 ∨ x0 + 1 < b) → (mcopy d (x1 + 1) 0 (x0 + 1) 0 16) b = d b from fun b hb => mcopy_ne (by omega)) hS1
def st_34_100 (x0 x1 : Int) (r100 : Int → mD → mD) (x2 : Int) (d : mD) : mD := if x2 < 6 then r100 (x2 + 1) (mset d (x0 + 5) x2 (d (x1 + 5) x2)) else d
def lp_34_100 (x0 x1 : Int) : Nat → Int → mD → mD
  | 0 => st_34_100 x0 x1 (fun _ d => d)
  | n + 1 => st_34_100 x0 x1 (lp_34_100 x0 x1 n)
theorem ls_34_100 {E : mO × tW} {K : tK} {x0 x1 : Int} (hx0 : ofB x0) (hx1 : ofB x1) (N100 : Int) (r100 : Int → mD → mD) (ih100 : ∀ (x2 : Int) (d : mD), Safe d → (0 ≤ x2 ∧ x2 ≤ 6) → 0 ≤ 6 - x2 → 6 - x2 < N100 → ((∀ b : Int, (b < x0 ∨ x0 + 7 < b) → (r100 x2 d) b = d b) → Safe (r100 x2 d) → K (.inl none) (r100 x2 d)) → tRun E 34 (100, [.inr (3, x0), .inr (3, x1), .inl (0, x2)], [], 0, 0, d) K) (x2 : Int) (d : mD) (hS : Safe d) (i0 : 0 ≤ x2 ∧ x2 ≤ 6) (hm : 6 - x2 ≤ N100) (h : (∀ b : Int, (b < x0 ∨ x0 + 7 < b) → (st_34_100 x0 x1 r100 x2 d) b = d b) → Safe (st_34_100 x0 x1 r100 x2 d) → K (.inl none) (st_34_100 x0 x1 r100 x2 d)) : tRun E 34 (100, [.inr (3, x0), .inr (3, x1), .inl (0, x2)], [], 0, 0, d) K := by
  refine t_34_100 ?_
  refine ⟨⟨m_inR (by omega) (by omega), m_inR (by omega) (by omega)⟩, fun c0 => ?_, fun c0 => ?_⟩
  · have y0 : st_34_100 x0 x1 r100 x2 d = d := by simp only [st_34_100, if_neg (show ¬ x2 < 6 from Int.not_lt.mpr c0)]
    rw [y0] at h
    exact h (show ∀ b : Int, (b < x0 ∨ x0 + 7 < b) → d b = d b from fun _ _ => rfl) hS
  · have q1 := r_3_5 hS hx1 x2
    refine ⟨by omega, by omega, ?_⟩
    have hS1 : Safe (mset d (x0 + 5) x2 (d (x1 + 5) x2)) := s_3_5 hS hx0 (by omega)
    refine ih100 (x2 + 1)  (mset d (x0 + 5) x2 (d (x1 + 5) x2)) hS1 (by omega) (by omega) (by omega) ?_
    intro F hS_
    have y0 : st_34_100 x0 x1 r100 x2 d = r100 (x2 + 1) (mset d (x0 + 5) x2 (d (x1 + 5) x2)) := by simp only [st_34_100, if_pos (show x2 < 6 from c0)]
    rw [y0] at h
    exact h (fun b hb => (F b hb).trans ((show ∀ b : Int, (b < x0 ∨ x0 + 7 < b) → (mset d (x0 + 5) x2 (d (x1 + 5) x2)) b = d b from fun b hb => mset_ne (by omega)) b hb)) hS_
theorem l_34_100 {E : mO × tW} {K : tK} {x0 x1 : Int} (hx0 : ofB x0) (hx1 : ofB x1) : ∀ (n : Nat) (x2 : Int) (d : mD), Safe d → (0 ≤ x2 ∧ x2 ≤ 6) → 6 - x2 ≤ (n : Int) → ((∀ b : Int, (b < x0 ∨ x0 + 7 < b) → (lp_34_100 x0 x1 n x2 d) b = d b) → Safe (lp_34_100 x0 x1 n x2 d) → K (.inl none) (lp_34_100 x0 x1 n x2 d)) → tRun E 34 (100, [.inr (3, x0), .inr (3, x1), .inl (0, x2)], [], 0, 0, d) K := by
  intro n
  induction n with
  | zero =>
    intro x2  d hS i0 hm  h
    exact ls_34_100 hx0 hx1 0 _ (fun _  _ _ _ m0 m1 _ => absurd m1 (by omega)) x2  d hS i0 hm  h
  | succ n ih =>
    intro x2  d hS i0 hm  h
    exact ls_34_100 hx0 hx1 ((n + 1 : Nat) : Int) _ (fun x2  d hS i0  m0 m1 h => ih x2  d hS i0 (by omega)  h) x2  d hS i0 hm  h
def g_34 (x0 x1 : Int) (d : mD) : mD := lp_34_100 x0 x1 (6 - 0 : Int).toNat 0 (mcopy (mcopy (mcopy (mcopy (mcopy (mcopy (mset d x0 0 (d x1 0)) (x1 + 1) 0 (x0 + 1) 0 6) (x1 + 2) 0 (x0 + 2) 0 6) (x1 + 3) 0 (x0 + 3) 0 6) (x1 + 4) 0 (x0 + 4) 0 6) (x1 + 6) 0 (x0 + 6) 0 6) (x1 + 7) 0 (x0 + 7) 0 96)
theorem k_34 {E : mO × tW} {K : tK} {d : mD} {x0 x1 : Int} (hS : Safe d) (hx0 : ofB x0) (hx1 : ofB x1) (h : (∀ b : Int, (b < x0 ∨ x0 + 7 < b) → (g_34 x0 x1 d) b = d b) → Safe (g_34 x0 x1 d) → K (.inl none) (g_34 x0 x1 d)) : tCall E 34 [.inr (3, x0), .inr (3, x1)] d K := by
  refine t_34_0 ?_
  have q2 := r_3_f0 hS hx1
  have hS2 : Safe (mset d x0 0 (d x1 0)) := s_3_f0 hS hx0 (by omega)
  refine ⟨by omega, ?_⟩
  have hS3 : Safe (mcopy (mset d x0 0 (d x1 0)) (x1 + 1) 0 (x0 + 1) 0 6) := c_3_1 hS2 hx1 hx0
  refine t_34_23 ?_
  refine ⟨by omega, ?_⟩
  have hS4 : Safe (mcopy (mcopy (mset d x0 0 (d x1 0)) (x1 + 1) 0 (x0 + 1) 0 6) (x1 + 2) 0 (x0 + 2) 0 6) := c_3_2 hS3 hx1 hx0
  refine t_34_38 ?_
  refine ⟨by omega, ?_⟩
  have hS5 : Safe (mcopy (mcopy (mcopy (mset d x0 0 (d x1 0)) (x1 + 1) 0 (x0 + 1) 0 6) (x1 + 2) 0 (x0 + 2) 0 6) (x1 + 3) 0 (x0 + 3) 0 6) := c_3_3 hS4 hx1 hx0
  refine t_34_53 ?_
  refine ⟨by omega, ?_⟩
  have hS6 : Safe (mcopy (mcopy (mcopy (mcopy (mset d x0 0 (d x1 0)) (x1 + 1) 0 (x0 + 1) 0 6) (x1 + 2) 0 (x0 + 2) 0 6) (x1 + 3) 0 (x0 + 3) 0 6) (x1 + 4) 0 (x0 + 4) 0 6) := c_3_4 hS5 hx1 hx0
  refine t_34_68 ?_
  refine ⟨by omega, ?_⟩
  have hS7 : Safe (mcopy (mcopy (mcopy (mcopy (mcopy (mset d x0 0 (d x1 0)) (x1 + 1) 0 (x0 + 1) 0 6) (x1 + 2) 0 (x0 + 2) 0 6) (x1 + 3) 0 (x0 + 3) 0 6) (x1 + 4) 0 (x0 + 4) 0 6) (x1 + 6) 0 (x0 + 6) 0 6) := c_3_6 hS6 hx1 hx0
  refine t_34_83 ?_
  refine ⟨by omega, ?_⟩
  have hS8 : Safe (mcopy (mcopy (mcopy (mcopy (mcopy (mcopy (mset d x0 0 (d x1 0)) (x1 + 1) 0 (x0 + 1) 0 6) (x1 + 2) 0 (x0 + 2) 0 6) (x1 + 3) 0 (x0 + 3) 0 6) (x1 + 4) 0 (x0 + 4) 0 6) (x1 + 6) 0 (x0 + 6) 0 6) (x1 + 7) 0 (x0 + 7) 0 96) := c_3_7 hS7 hx1 hx0
  refine t_34_98 ?_
  refine l_34_100 hx0 hx1 (6 - 0 : Int).toNat 0  (mcopy (mcopy (mcopy (mcopy (mcopy (mcopy (mset d x0 0 (d x1 0)) (x1 + 1) 0 (x0 + 1) 0 6) (x1 + 2) 0 (x0 + 2) 0 6) (x1 + 3) 0 (x0 + 3) 0 6) (x1 + 4) 0 (x0 + 4) 0 6) (x1 + 6) 0 (x0 + 6) 0 6) (x1 + 7) 0 (x0 + 7) 0 96) hS8 (by omega) (by omega) ?_
  intro F hS_
  have y0 : g_34 x0 x1 d = lp_34_100 x0 x1 (6 - 0 : Int).toNat 0 (mcopy (mcopy (mcopy (mcopy (mcopy (mcopy (mset d x0 0 (d x1 0)) (x1 + 1) 0 (x0 + 1) 0 6) (x1 + 2) 0 (x0 + 2) 0 6) (x1 + 3) 0 (x0 + 3) 0 6) (x1 + 4) 0 (x0 + 4) 0 6) (x1 + 6) 0 (x0 + 6) 0 6) (x1 + 7) 0 (x0 + 7) 0 96) := by simp only [g_34]
  rw [y0] at h
  exact h (fun b hb => (F b hb).trans ((show ∀ b : Int, (b < x0 ∨ x0 + 7 < b) → (mcopy (mcopy (mcopy (mcopy (mcopy (mcopy (mset d x0 0 (d x1 0)) (x1 + 1) 0 (x0 + 1) 0 6) (x1 + 2) 0 (x0 + 2) 0 6) (x1 + 3) 0 (x0 + 3) 0 6) (x1 + 4) 0 (x0 + 4) 0 6) (x1 + 6) 0 (x0 + 6) 0 6) (x1 + 7) 0 (x0 + 7) 0 96) b = d b from fun b hb => (mcopy_ne (by omega)).trans ((mcopy_ne (by omega)).trans ((mcopy_ne (by omega)).trans ((mcopy_ne (by omega)).trans ((mcopy_ne (by omega)).trans ((mcopy_ne (by omega)).trans (mset_ne (by omega)))))))) b hb)) hS_
def g_35 (x0 x1 x2 x3 x4 : Int) (d : mD) : mD := if d x0 0 < 6 then mset (mset (mset (mset (mset (mset (mset d (x0 + 1) (d x0 0) x1) (x0 + 2) (d x0 0) x2) (x0 + 3) (d x0 0) x3) (x0 + 4) (d x0 0) x4) (x0 + 5) (d x0 0) 1) (x0 + 6) (d x0 0) 0) x0 0 ((d x0 0) + 1) else d
theorem k_35 {E : mO × tW} {K : tK} {d : mD} {x0 x1 x2 x3 x4 : Int} (hS : Safe d) (hx0 : ofB x0) (p1 : 0 ≤ x1 ∧ x1 ≤ 1073741823) (p2 : 0 ≤ x2 ∧ x2 ≤ 4) (p3 : 0 ≤ x3 ∧ x3 ≤ 6) (p4 : 0 ≤ x4 ∧ x4 ≤ 20) (h : (∀ b : Int, (b < x0 ∨ x0 + 6 < b) → (g_35 x0 x1 x2 x3 x4 d) b = d b) → Safe (g_35 x0 x1 x2 x3 x4 d) → K (.inl none) (g_35 x0 x1 x2 x3 x4 d)) : tCall E 35 [.inr (3, x0), .inl (0, x1), .inl (0, x2), .inl (0, x3), .inl (0, x4)] d K := by
  refine t_35_0 ?_
  have q1 := r_3_f0 hS hx0
  refine ⟨⟨m_inR (by omega) (by omega), m_inR (by omega) (by omega)⟩, fun c0 => ?_, fun c0 => ?_⟩
  · refine ⟨by omega, ?_⟩
    have hS1 : Safe (mset d (x0 + 1) (d x0 0) x1) := s_3_1 hS hx0 (by omega)
    refine t_35_20 ?_
    rw [mset_ne (d := d) (a := x0 + 1) (i := d x0 0) (v := x1) (b := x0) (by omega)]
    refine ⟨by omega, ?_⟩
    have hS2 : Safe (mset (mset d (x0 + 1) (d x0 0) x1) (x0 + 2) (d x0 0) x2) := s_3_2 hS1 hx0 (by omega)
    refine t_35_30 ?_
    rw [mset_ne (d := mset d (x0 + 1) (d x0 0) x1) (a := x0 + 2) (i := d x0 0) (v := x2) (b := x0) (by omega)]
    rw [mset_ne (d := d) (a := x0 + 1) (i := d x0 0) (v := x1) (b := x0) (by omega)]
    refine ⟨by omega, ?_⟩
    have hS3 : Safe (mset (mset (mset d (x0 + 1) (d x0 0) x1) (x0 + 2) (d x0 0) x2) (x0 + 3) (d x0 0) x3) := s_3_3 hS2 hx0 (by omega)
    refine t_35_40 ?_
    rw [mset_ne (d := mset (mset d (x0 + 1) (d x0 0) x1) (x0 + 2) (d x0 0) x2) (a := x0 + 3) (i := d x0 0) (v := x3) (b := x0) (by omega)]
    rw [mset_ne (d := mset d (x0 + 1) (d x0 0) x1) (a := x0 + 2) (i := d x0 0) (v := x2) (b := x0) (by omega)]
    rw [mset_ne (d := d) (a := x0 + 1) (i := d x0 0) (v := x1) (b := x0) (by omega)]
    refine ⟨by omega, ?_⟩
    have hS4 : Safe (mset (mset (mset (mset d (x0 + 1) (d x0 0) x1) (x0 + 2) (d x0 0) x2) (x0 + 3) (d x0 0) x3) (x0 + 4) (d x0 0) x4) := s_3_4 hS3 hx0 (by omega)
    refine t_35_51 ?_
    rw [mset_ne (d := mset (mset (mset d (x0 + 1) (d x0 0) x1) (x0 + 2) (d x0 0) x2) (x0 + 3) (d x0 0) x3) (a := x0 + 4) (i := d x0 0) (v := x4) (b := x0) (by omega)]
    rw [mset_ne (d := mset (mset d (x0 + 1) (d x0 0) x1) (x0 + 2) (d x0 0) x2) (a := x0 + 3) (i := d x0 0) (v := x3) (b := x0) (by omega)]
    rw [mset_ne (d := mset d (x0 + 1) (d x0 0) x1) (a := x0 + 2) (i := d x0 0) (v := x2) (b := x0) (by omega)]
    rw [mset_ne (d := d) (a := x0 + 1) (i := d x0 0) (v := x1) (b := x0) (by omega)]
    refine ⟨by omega, ?_⟩
    have hS5 : Safe (mset (mset (mset (mset (mset d (x0 + 1) (d x0 0) x1) (x0 + 2) (d x0 0) x2) (x0 + 3) (d x0 0) x3) (x0 + 4) (d x0 0) x4) (x0 + 5) (d x0 0) 1) := s_3_5 hS4 hx0 (by omega)
    refine t_35_61 ?_
    rw [mset_ne (d := mset (mset (mset (mset d (x0 + 1) (d x0 0) x1) (x0 + 2) (d x0 0) x2) (x0 + 3) (d x0 0) x3) (x0 + 4) (d x0 0) x4) (a := x0 + 5) (i := d x0 0) (v := (1 : Int)) (b := x0) (by omega)]
    rw [mset_ne (d := mset (mset (mset d (x0 + 1) (d x0 0) x1) (x0 + 2) (d x0 0) x2) (x0 + 3) (d x0 0) x3) (a := x0 + 4) (i := d x0 0) (v := x4) (b := x0) (by omega)]
    rw [mset_ne (d := mset (mset d (x0 + 1) (d x0 0) x1) (x0 + 2) (d x0 0) x2) (a := x0 + 3) (i := d x0 0) (v := x3) (b := x0) (by omega)]
    rw [mset_ne (d := mset d (x0 + 1) (d x0 0) x1) (a := x0 + 2) (i := d x0 0) (v := x2) (b := x0) (by omega)]
    rw [mset_ne (d := d) (a := x0 + 1) (i := d x0 0) (v := x1) (b := x0) (by omega)]
    refine ⟨by omega, ?_⟩
    have hS6 : Safe (mset (mset (mset (mset (mset (mset d (x0 + 1) (d x0 0) x1) (x0 + 2) (d x0 0) x2) (x0 + 3) (d x0 0) x3) (x0 + 4) (d x0 0) x4) (x0 + 5) (d x0 0) 1) (x0 + 6) (d x0 0) 0) := s_3_6 hS5 hx0 (by omega)
    refine t_35_71 ?_
    rw [mset_ne (d := mset (mset (mset (mset (mset d (x0 + 1) (d x0 0) x1) (x0 + 2) (d x0 0) x2) (x0 + 3) (d x0 0) x3) (x0 + 4) (d x0 0) x4) (x0 + 5) (d x0 0) 1) (a := x0 + 6) (i := d x0 0) (v := (0 : Int)) (b := x0) (by omega)]
    rw [mset_ne (d := mset (mset (mset (mset d (x0 + 1) (d x0 0) x1) (x0 + 2) (d x0 0) x2) (x0 + 3) (d x0 0) x3) (x0 + 4) (d x0 0) x4) (a := x0 + 5) (i := d x0 0) (v := (1 : Int)) (b := x0) (by omega)]
    rw [mset_ne (d := mset (mset (mset d (x0 + 1) (d x0 0) x1) (x0 + 2) (d x0 0) x2) (x0 + 3) (d x0 0) x3) (a := x0 + 4) (i := d x0 0) (v := x4) (b := x0) (by omega)]
    rw [mset_ne (d := mset (mset d (x0 + 1) (d x0 0) x1) (x0 + 2) (d x0 0) x2) (a := x0 + 3) (i := d x0 0) (v := x3) (b := x0) (by omega)]
    rw [mset_ne (d := mset d (x0 + 1) (d x0 0) x1) (a := x0 + 2) (i := d x0 0) (v := x2) (b := x0) (by omega)]
    rw [mset_ne (d := d) (a := x0 + 1) (i := d x0 0) (v := x1) (b := x0) (by omega)]
    have hS7 : Safe (mset (mset (mset (mset (mset (mset (mset d (x0 + 1) (d x0 0) x1) (x0 + 2) (d x0 0) x2) (x0 + 3) (d x0 0) x3) (x0 + 4) (d x0 0) x4) (x0 + 5) (d x0 0) 1) (x0 + 6) (d x0 0) 0) x0 0 ((d x0 0) + 1)) := s_3_f0 hS6 hx0 (by omega)
    have y0 : g_35 x0 x1 x2 x3 x4 d = mset (mset (mset (mset (mset (mset (mset d (x0 + 1) (d x0 0) x1) (x0 + 2) (d x0 0) x2) (x0 + 3) (d x0 0) x3) (x0 + 4) (d x0 0) x4) (x0 + 5) (d x0 0) 1) (x0 + 6) (d x0 0) 0) x0 0 ((d x0 0) + 1) := by simp only [g_35, if_pos (show d x0 0 < 6 from c0)]
    rw [y0] at h
    exact h (show ∀ b : Int, (b < x0 ∨ x0 + 6 < b) → (mset (mset (mset (mset (mset (mset (mset d (x0 + 1) (d x0 0) x1) (x0 + 2) (d x0 0) x2) (x0 + 3) (d x0 0) x3) (x0 + 4) (d x0 0) x4) (x0 + 5) (d x0 0) 1) (x0 + 6) (d x0 0) 0) x0 0 ((d x0 0) + 1)) b = d b from fun b hb => (mset_ne (by omega)).trans ((mset_ne (by omega)).trans ((mset_ne (by omega)).trans ((mset_ne (by omega)).trans ((mset_ne (by omega)).trans ((mset_ne (by omega)).trans (mset_ne (by omega)))))))) hS7
  · have y0 : g_35 x0 x1 x2 x3 x4 d = d := by simp only [g_35, if_neg (show ¬ d x0 0 < 6 from Int.not_lt.mpr c0)]
    rw [y0] at h
    exact h (show ∀ b : Int, (b < x0 ∨ x0 + 6 < b) → d b = d b from fun _ _ => rfl) hS
def st_36_2 (x0 x1 : Int) (r2 : Int → mD → Int) (x2 : Int) (d : mD) : Int := if x2 < d x0 0 then (if d (x0 + 1) x2 = x1 then x2 else r2 (x2 + 1) d) else (-1)
def lp_36_2 (x0 x1 : Int) : Nat → Int → mD → Int
  | 0 => st_36_2 x0 x1 (fun _ d => 0)
  | n + 1 => st_36_2 x0 x1 (lp_36_2 x0 x1 n)
theorem ls_36_2 {E : mO × tW} {K : tK} {x0 x1 : Int} (hx0 : ofB x0) (p1 : -2147483648 ≤ x1 ∧ x1 ≤ 2147483647) (N2 : Int) (r2 : Int → mD → Int) (ih2 : ∀ (x2 : Int) (d : mD), Safe d → (0 ≤ x2 ∧ x2 ≤ 6) → 0 ≤ 6 - x2 → 6 - x2 < N2 → ((-1 ≤ (r2 x2 d) ∧ (r2 x2 d) ≤ 5) → K (.inl (some (0, (r2 x2 d)))) d) → tRun E 36 (2, [.inr (3, x0), .inl (0, x1), .inl (0, x2)], [], 0, 0, d) K) (x2 : Int) (d : mD) (hS : Safe d) (i0 : 0 ≤ x2 ∧ x2 ≤ 6) (hm : 6 - x2 ≤ N2) (h : (-1 ≤ (st_36_2 x0 x1 r2 x2 d) ∧ (st_36_2 x0 x1 r2 x2 d) ≤ 5) → K (.inl (some (0, (st_36_2 x0 x1 r2 x2 d)))) d) : tRun E 36 (2, [.inr (3, x0), .inl (0, x1), .inl (0, x2)], [], 0, 0, d) K := by
  refine t_36_2 ?_
  have q1 := r_3_f0 hS hx0
  refine ⟨⟨m_inR (by omega) (by omega), m_inR (by omega) (by omega)⟩, fun c0 => ?_, fun c0 => ?_⟩
  · have y0 : st_36_2 x0 x1 r2 x2 d = (-1) := by simp only [st_36_2, if_neg (show ¬ x2 < d x0 0 from Int.not_lt.mpr c0)]
    rw [y0] at h
    exact h (show -1 ≤ ((-1 : Int)) ∧ ((-1 : Int)) ≤ 5 from (by omega))
  · have q2 := r_3_1 hS hx0 x2
    refine ⟨by omega, ⟨m_inR (by omega) (by omega), m_inR (by omega) (by omega)⟩, fun c1 => ?_, fun c1 => ?_⟩
    · refine ih2 (x2 + 1)  d hS (by omega) (by omega) (by omega) ?_
      intro e
      have y0 : st_36_2 x0 x1 r2 x2 d = r2 (x2 + 1) d := by simp only [st_36_2, if_pos (show x2 < d x0 0 from c0), if_neg (show ¬ d (x0 + 1) x2 = x1 from c1)]
      rw [y0] at h
      exact h e
    · have y0 : st_36_2 x0 x1 r2 x2 d = x2 := by simp only [st_36_2, if_pos (show x2 < d x0 0 from c0), if_pos (show d (x0 + 1) x2 = x1 from c1)]
      rw [y0] at h
      exact h (show -1 ≤ x2 ∧ x2 ≤ 5 from (by omega))
theorem l_36_2 {E : mO × tW} {K : tK} {x0 x1 : Int} (hx0 : ofB x0) (p1 : -2147483648 ≤ x1 ∧ x1 ≤ 2147483647) : ∀ (n : Nat) (x2 : Int) (d : mD), Safe d → (0 ≤ x2 ∧ x2 ≤ 6) → 6 - x2 ≤ (n : Int) → ((-1 ≤ (lp_36_2 x0 x1 n x2 d) ∧ (lp_36_2 x0 x1 n x2 d) ≤ 5) → K (.inl (some (0, (lp_36_2 x0 x1 n x2 d)))) d) → tRun E 36 (2, [.inr (3, x0), .inl (0, x1), .inl (0, x2)], [], 0, 0, d) K := by
  intro n
  induction n with
  | zero =>
    intro x2  d hS i0 hm  h
    exact ls_36_2 hx0 p1 0 _ (fun _  _ _ _ m0 m1 _ => absurd m1 (by omega)) x2  d hS i0 hm  h
  | succ n ih =>
    intro x2  d hS i0 hm  h
    exact ls_36_2 hx0 p1 ((n + 1 : Nat) : Int) _ (fun x2  d hS i0  m0 m1 h => ih x2  d hS i0 (by omega)  h) x2  d hS i0 hm  h
def v_36 (x0 x1 : Int) (d : mD) : Int := lp_36_2 x0 x1 (6 - 0 : Int).toNat 0 d
theorem k_36 {E : mO × tW} {K : tK} {d : mD} {x0 x1 : Int} (hS : Safe d) (hx0 : ofB x0) (p1 : -2147483648 ≤ x1 ∧ x1 ≤ 2147483647) (h : (-1 ≤ (v_36 x0 x1 d) ∧ (v_36 x0 x1 d) ≤ 5) → K (.inl (some (0, (v_36 x0 x1 d)))) d) : tCall E 36 [.inr (3, x0), .inl (0, x1)] d K := by
  refine t_36_0 ?_
  refine l_36_2 hx0 p1 (6 - 0 : Int).toNat 0  d hS (by omega) (by omega) ?_
  intro e
  have y0 : v_36 x0 x1 d = lp_36_2 x0 x1 (6 - 0 : Int).toNat 0 d := by simp only [v_36]
  rw [y0] at h
  exact h e
def st_37_4 (x0 : Int) (r4 : Int → Int → mD → Int) (x1 x2 : Int) (d : mD) : Int := if x2 < d x0 0 then (if d (x0 + 5) x2 = 0 then r4 (x1 + 0) (x2 + 1) d else r4 (x1 + 1) (x2 + 1) d) else x1
def lp_37_4 (x0 : Int) : Nat → Int → Int → mD → Int
  | 0 => st_37_4 x0 (fun _ _ d => 0)
  | n + 1 => st_37_4 x0 (lp_37_4 x0 n)
theorem ls_37_4 {E : mO × tW} {K : tK} {x0 : Int} (hx0 : ofB x0) (N4 : Int) (r4 : Int → Int → mD → Int) (ih4 : ∀ (x1 x2 : Int) (d : mD), Safe d → (0 ≤ x2 ∧ x2 ≤ 6) → (0 ≤ x1 ∧ x1 ≤ x2) → 0 ≤ 6 - x2 → 6 - x2 < N4 → ((0 ≤ (r4 x1 x2 d) ∧ (r4 x1 x2 d) ≤ 6) → K (.inl (some (0, (r4 x1 x2 d)))) d) → tRun E 37 (4, [.inr (3, x0), .inl (0, x1), .inl (0, x2)], [], 0, 0, d) K) (x1 x2 : Int) (d : mD) (hS : Safe d) (i0 : 0 ≤ x2 ∧ x2 ≤ 6) (i1 : 0 ≤ x1 ∧ x1 ≤ x2) (hm : 6 - x2 ≤ N4) (h : (0 ≤ (st_37_4 x0 r4 x1 x2 d) ∧ (st_37_4 x0 r4 x1 x2 d) ≤ 6) → K (.inl (some (0, (st_37_4 x0 r4 x1 x2 d)))) d) : tRun E 37 (4, [.inr (3, x0), .inl (0, x1), .inl (0, x2)], [], 0, 0, d) K := by
  refine t_37_4 ?_
  have q1 := r_3_f0 hS hx0
  refine ⟨⟨m_inR (by omega) (by omega), m_inR (by omega) (by omega)⟩, fun c0 => ?_, fun c0 => ?_⟩
  · have y0 : st_37_4 x0 r4 x1 x2 d = x1 := by simp only [st_37_4, if_neg (show ¬ x2 < d x0 0 from Int.not_lt.mpr c0)]
    rw [y0] at h
    exact h (show 0 ≤ x1 ∧ x1 ≤ 6 from (by omega))
  · have q2 := r_3_5 hS hx0 x2
    refine ⟨by omega, m_inR (by omega) (by omega), fun c1 => ?_, fun c1 => ?_⟩
    · refine ih4 (x1 + 0) (x2 + 1)  d hS (by omega) (by omega) (by omega) (by omega) ?_
      intro e
      have y0 : st_37_4 x0 r4 x1 x2 d = r4 (x1 + 0) (x2 + 1) d := by simp only [st_37_4, if_pos (show x2 < d x0 0 from c0), if_pos (show d (x0 + 5) x2 = 0 from c1)]
      rw [y0] at h
      exact h e
    · refine ih4 (x1 + 1) (x2 + 1)  d hS (by omega) (by omega) (by omega) (by omega) ?_
      intro e
      have y0 : st_37_4 x0 r4 x1 x2 d = r4 (x1 + 1) (x2 + 1) d := by simp only [st_37_4, if_pos (show x2 < d x0 0 from c0), if_neg (show ¬ d (x0 + 5) x2 = 0 from c1)]
      rw [y0] at h
      exact h e
theorem l_37_4 {E : mO × tW} {K : tK} {x0 : Int} (hx0 : ofB x0) : ∀ (n : Nat) (x1 x2 : Int) (d : mD), Safe d → (0 ≤ x2 ∧ x2 ≤ 6) → (0 ≤ x1 ∧ x1 ≤ x2) → 6 - x2 ≤ (n : Int) → ((0 ≤ (lp_37_4 x0 n x1 x2 d) ∧ (lp_37_4 x0 n x1 x2 d) ≤ 6) → K (.inl (some (0, (lp_37_4 x0 n x1 x2 d)))) d) → tRun E 37 (4, [.inr (3, x0), .inl (0, x1), .inl (0, x2)], [], 0, 0, d) K := by
  intro n
  induction n with
  | zero =>
    intro x1 x2  d hS i0 i1 hm  h
    exact ls_37_4 hx0 0 _ (fun _ _  _ _ _ _ m0 m1 _ => absurd m1 (by omega)) x1 x2  d hS i0 i1 hm  h
  | succ n ih =>
    intro x1 x2  d hS i0 i1 hm  h
    exact ls_37_4 hx0 ((n + 1 : Nat) : Int) _ (fun x1 x2  d hS i0 i1  m0 m1 h => ih x1 x2  d hS i0 i1 (by omega)  h) x1 x2  d hS i0 i1 hm  h
def v_37 (x0 : Int) (d : mD) : Int := lp_37_4 x0 (6 - 0 : Int).toNat 0 0 d
theorem k_37 {E : mO × tW} {K : tK} {d : mD} {x0 : Int} (hS : Safe d) (hx0 : ofB x0) (h : (0 ≤ (v_37 x0 d) ∧ (v_37 x0 d) ≤ 6) → K (.inl (some (0, (v_37 x0 d)))) d) : tCall E 37 [.inr (3, x0)] d K := by
  refine t_37_0 ?_
  refine l_37_4 hx0 (6 - 0 : Int).toNat 0 0  d hS (by omega) (by omega) (by omega) ?_
  intro e
  have y0 : v_37 x0 d = lp_37_4 x0 (6 - 0 : Int).toNat 0 0 d := by simp only [v_37]
  rw [y0] at h
  exact h e
def v_38 (x0 x1 x2 : Int) (d : mD) : Int := d (x0 + 7) ((x1 * 16) + x2)
theorem k_38 {E : mO × tW} {K : tK} {d : mD} {x0 x1 x2 : Int} (hS : Safe d) (hx0 : ofB x0) (p1 : 0 ≤ x1 ∧ x1 ≤ 5) (p2 : 0 ≤ x2 ∧ x2 ≤ 15) (h : (0 ≤ (v_38 x0 x1 x2 d) ∧ (v_38 x0 x1 x2 d) ≤ 59) → K (.inl (some (0, (v_38 x0 x1 x2 d)))) d) : tCall E 38 [.inr (3, x0), .inl (0, x1), .inl (0, x2)] d K := by
  refine t_38_0 ?_
  have q1 := r_3_7 hS hx0 ((x1 * 16) + x2)
  refine ⟨by omega, ?_⟩
  have y0 : v_38 x0 x1 x2 d = d (x0 + 7) ((x1 * 16) + x2) := by simp only [v_38]
  rw [y0] at h
  exact h (show 0 ≤ (d (x0 + 7) ((x1 * 16) + x2)) ∧ (d (x0 + 7) ((x1 * 16) + x2)) ≤ 59 from (by omega))
def st_39_2 (x0 x1 x2 : Int) (r2 : Int → mD → Int) (x3 : Int) (d : mD) : Int := if x3 < d (x0 + 6) x1 then (if v_38 x0 x1 x3 d = x2 then x3 else r2 (x3 + 1) d) else (-1)
def lp_39_2 (x0 x1 x2 : Int) : Nat → Int → mD → Int
  | 0 => st_39_2 x0 x1 x2 (fun _ d => 0)
  | n + 1 => st_39_2 x0 x1 x2 (lp_39_2 x0 x1 x2 n)
theorem ls_39_2 {E : mO × tW} {K : tK} {x0 x1 x2 : Int} (hx0 : ofB x0) (p1 : 0 ≤ x1 ∧ x1 ≤ 5) (p2 : -2147483648 ≤ x2 ∧ x2 ≤ 2147483647) (N2 : Int) (r2 : Int → mD → Int) (ih2 : ∀ (x3 : Int) (d : mD), Safe d → (0 ≤ x3 ∧ x3 ≤ 16) → 0 ≤ 16 - x3 → 16 - x3 < N2 → ((-1 ≤ (r2 x3 d) ∧ (r2 x3 d) ≤ 15) → K (.inl (some (0, (r2 x3 d)))) d) → tRun E 39 (2, [.inr (3, x0), .inl (0, x1), .inl (0, x2), .inl (0, x3)], [], 0, 0, d) K) (x3 : Int) (d : mD) (hS : Safe d) (i0 : 0 ≤ x3 ∧ x3 ≤ 16) (hm : 16 - x3 ≤ N2) (h : (-1 ≤ (st_39_2 x0 x1 x2 r2 x3 d) ∧ (st_39_2 x0 x1 x2 r2 x3 d) ≤ 15) → K (.inl (some (0, (st_39_2 x0 x1 x2 r2 x3 d)))) d) : tRun E 39 (2, [.inr (3, x0), .inl (0, x1), .inl (0, x2), .inl (0, x3)], [], 0, 0, d) K := by
  refine t_39_2 ?_
  have q1 := r_3_6 hS hx0 x1
  refine ⟨by omega, ⟨m_inR (by omega) (by omega), m_inR (by omega) (by omega)⟩, fun c0 => ?_, fun c0 => ?_⟩
  · have y0 : st_39_2 x0 x1 x2 r2 x3 d = (-1) := by simp only [st_39_2, if_neg (show ¬ x3 < d (x0 + 6) x1 from Int.not_lt.mpr c0)]
    rw [y0] at h
    exact h (show -1 ≤ ((-1 : Int)) ∧ ((-1 : Int)) ≤ 15 from (by omega))
  · refine k_38 hS hx0 (by omega) (by omega) (fun e1 => ?_)
    refine t_39_18 ?_
    refine ⟨⟨m_inR (by omega) (by omega), m_inR (by omega) (by omega)⟩, fun c1 => ?_, fun c1 => ?_⟩
    · refine ih2 (x3 + 1)  d hS (by omega) (by omega) (by omega) ?_
      intro e
      have y0 : st_39_2 x0 x1 x2 r2 x3 d = r2 (x3 + 1) d := by simp only [st_39_2, if_pos (show x3 < d (x0 + 6) x1 from c0), if_neg (show ¬ v_38 x0 x1 x3 d = x2 from c1)]
      rw [y0] at h
      exact h e
    · have y0 : st_39_2 x0 x1 x2 r2 x3 d = x3 := by simp only [st_39_2, if_pos (show x3 < d (x0 + 6) x1 from c0), if_pos (show v_38 x0 x1 x3 d = x2 from c1)]
      rw [y0] at h
      exact h (show -1 ≤ x3 ∧ x3 ≤ 15 from (by omega))
theorem l_39_2 {E : mO × tW} {K : tK} {x0 x1 x2 : Int} (hx0 : ofB x0) (p1 : 0 ≤ x1 ∧ x1 ≤ 5) (p2 : -2147483648 ≤ x2 ∧ x2 ≤ 2147483647) : ∀ (n : Nat) (x3 : Int) (d : mD), Safe d → (0 ≤ x3 ∧ x3 ≤ 16) → 16 - x3 ≤ (n : Int) → ((-1 ≤ (lp_39_2 x0 x1 x2 n x3 d) ∧ (lp_39_2 x0 x1 x2 n x3 d) ≤ 15) → K (.inl (some (0, (lp_39_2 x0 x1 x2 n x3 d)))) d) → tRun E 39 (2, [.inr (3, x0), .inl (0, x1), .inl (0, x2), .inl (0, x3)], [], 0, 0, d) K := by
  intro n
  induction n with
  | zero =>
    intro x3  d hS i0 hm  h
    exact ls_39_2 hx0 p1 p2 0 _ (fun _  _ _ _ m0 m1 _ => absurd m1 (by omega)) x3  d hS i0 hm  h
  | succ n ih =>
    intro x3  d hS i0 hm  h
    exact ls_39_2 hx0 p1 p2 ((n + 1 : Nat) : Int) _ (fun x3  d hS i0  m0 m1 h => ih x3  d hS i0 (by omega)  h) x3  d hS i0 hm  h
def v_39 (x0 x1 x2 : Int) (d : mD) : Int := lp_39_2 x0 x1 x2 (16 - 0 : Int).toNat 0 d
theorem k_39 {E : mO × tW} {K : tK} {d : mD} {x0 x1 x2 : Int} (hS : Safe d) (hx0 : ofB x0) (p1 : 0 ≤ x1 ∧ x1 ≤ 5) (p2 : -2147483648 ≤ x2 ∧ x2 ≤ 2147483647) (h : (-1 ≤ (v_39 x0 x1 x2 d) ∧ (v_39 x0 x1 x2 d) ≤ 15) → K (.inl (some (0, (v_39 x0 x1 x2 d)))) d) : tCall E 39 [.inr (3, x0), .inl (0, x1), .inl (0, x2)] d K := by
  refine t_39_0 ?_
  refine l_39_2 hx0 p1 p2 (16 - 0 : Int).toNat 0  d hS (by omega) (by omega) ?_
  intro e
  have y0 : v_39 x0 x1 x2 d = lp_39_2 x0 x1 x2 (16 - 0 : Int).toNat 0 d := by simp only [v_39]
  rw [y0] at h
  exact h e
def st_40_40 (x0 x1 x2 x3 : Int) (r40 : Int → Int → mD → mD) (x4 x5 : Int) (d : mD) : mD := if x2 < x5 then r40 x4 (x5 + (-1)) (mset d (x0 + 7) (x4 + x5) (d (x0 + 7) ((x4 + x5) - 1))) else mset (mset d (x0 + 7) (x4 + x2) x3) (x0 + 6) x1 ((d (x0 + 6) x1) + 1)
def lp_40_40 (x0 x1 x2 x3 : Int) : Nat → Int → Int → mD → mD
  | 0 => st_40_40 x0 x1 x2 x3 (fun _ _ d => d)
  | n + 1 => st_40_40 x0 x1 x2 x3 (lp_40_40 x0 x1 x2 x3 n)
theorem ls_40_40 {E : mO × tW} {K : tK} {x0 x1 x2 x3 : Int} (hx0 : ofB x0) (p1 : 0 ≤ x1 ∧ x1 ≤ 5) (p2 : -2147483648 ≤ x2 ∧ x2 ≤ 2147483647) (p3 : 0 ≤ x3 ∧ x3 ≤ 59) (N40 : Int) (r40 : Int → Int → mD → mD) (ih40 : ∀ (x4 x5 : Int) (d : mD), Safe d → (0 ≤ x2 ∧ x2 ≤ x5 ∧ x5 ≤ 15) → (x4 = x1 * 16) → (d (x0 + 6) x1 ≤ 15) → 0 ≤ x5 → x5 < N40 → ((∀ b : Int, (b < x0 + 6 ∨ x0 + 7 < b) → (r40 x4 x5 d) b = d b) → Safe (r40 x4 x5 d) → K (.inl none) (r40 x4 x5 d)) → tRun E 40 (40, [.inr (3, x0), .inl (0, x1), .inl (0, x2), .inl (0, x3), .inl (0, x4), .inl (0, x5)], [], 0, 0, d) K) (x4 x5 : Int) (d : mD) (hS : Safe d) (i0 : 0 ≤ x2 ∧ x2 ≤ x5 ∧ x5 ≤ 15) (i1 : x4 = x1 * 16) (i2 : d (x0 + 6) x1 ≤ 15) (hm : x5 ≤ N40) (h : (∀ b : Int, (b < x0 + 6 ∨ x0 + 7 < b) → (st_40_40 x0 x1 x2 x3 r40 x4 x5 d) b = d b) → Safe (st_40_40 x0 x1 x2 x3 r40 x4 x5 d) → K (.inl none) (st_40_40 x0 x1 x2 x3 r40 x4 x5 d)) : tRun E 40 (40, [.inr (3, x0), .inl (0, x1), .inl (0, x2), .inl (0, x3), .inl (0, x4), .inl (0, x5)], [], 0, 0, d) K := by
  refine t_40_40 ?_
  refine ⟨⟨m_inR (by omega) (by omega), m_inR (by omega) (by omega)⟩, fun c0 => ?_, fun c0 => ?_⟩
  · refine ⟨by omega, ?_⟩
    have hS1 : Safe (mset d (x0 + 7) (x4 + x2) x3) := s_3_7 hS hx0 (by omega)
    rw [mset_ne (d := d) (a := x0 + 7) (i := x4 + x2) (v := x3) (b := x0 + 6) (by omega)]
    have q1 := r_3_6 hS hx0 x1
    refine ⟨by omega, by omega, ?_⟩
    have hS2 : Safe (mset (mset d (x0 + 7) (x4 + x2) x3) (x0 + 6) x1 ((d (x0 + 6) x1) + 1)) := s_3_6 hS1 hx0 (by omega)
    have y0 : st_40_40 x0 x1 x2 x3 r40 x4 x5 d = mset (mset d (x0 + 7) (x4 + x2) x3) (x0 + 6) x1 ((d (x0 + 6) x1) + 1) := by simp only [st_40_40, if_neg (show ¬ x2 < x5 from Int.not_lt.mpr c0)]
    rw [y0] at h
    exact h (show ∀ b : Int, (b < x0 + 6 ∨ x0 + 7 < b) → (mset (mset d (x0 + 7) (x4 + x2) x3) (x0 + 6) x1 ((d (x0 + 6) x1) + 1)) b = d b from fun b hb => (mset_ne (by omega)).trans (mset_ne (by omega))) hS2
  · have q2 := r_3_7 hS hx0 ((x4 + x5) - 1)
    refine ⟨by omega, by omega, ?_⟩
    have hS3 : Safe (mset d (x0 + 7) (x4 + x5) (d (x0 + 7) ((x4 + x5) - 1))) := s_3_7 hS hx0 (by omega)
    have q3 : (mset d (x0 + 7) (x4 + x5) (d (x0 + 7) ((x4 + x5) - 1))) (x0 + 6) x1 = d (x0 + 6) x1 := congrFun (mset_ne (by omega)) x1
    refine ih40 x4 (x5 + (-1))  (mset d (x0 + 7) (x4 + x5) (d (x0 + 7) ((x4 + x5) - 1))) hS3 (by omega) (by omega) (by omega) (by omega) (by omega) ?_
    intro F hS_
    have y0 : st_40_40 x0 x1 x2 x3 r40 x4 x5 d = r40 x4 (x5 + (-1)) (mset d (x0 + 7) (x4 + x5) (d (x0 + 7) ((x4 + x5) - 1))) := by simp only [st_40_40, if_pos (show x2 < x5 from c0)]
    rw [y0] at h
    exact h (fun b hb => (F b hb).trans ((show ∀ b : Int, (b < x0 + 6 ∨ x0 + 7 < b) → (mset d (x0 + 7) (x4 + x5) (d (x0 + 7) ((x4 + x5) - 1))) b = d b from fun b hb => mset_ne (by omega)) b hb)) hS_
theorem l_40_40 {E : mO × tW} {K : tK} {x0 x1 x2 x3 : Int} (hx0 : ofB x0) (p1 : 0 ≤ x1 ∧ x1 ≤ 5) (p2 : -2147483648 ≤ x2 ∧ x2 ≤ 2147483647) (p3 : 0 ≤ x3 ∧ x3 ≤ 59) : ∀ (n : Nat) (x4 x5 : Int) (d : mD), Safe d → (0 ≤ x2 ∧ x2 ≤ x5 ∧ x5 ≤ 15) → (x4 = x1 * 16) → (d (x0 + 6) x1 ≤ 15) → x5 ≤ (n : Int) → ((∀ b : Int, (b < x0 + 6 ∨ x0 + 7 < b) → (lp_40_40 x0 x1 x2 x3 n x4 x5 d) b = d b) → Safe (lp_40_40 x0 x1 x2 x3 n x4 x5 d) → K (.inl none) (lp_40_40 x0 x1 x2 x3 n x4 x5 d)) → tRun E 40 (40, [.inr (3, x0), .inl (0, x1), .inl (0, x2), .inl (0, x3), .inl (0, x4), .inl (0, x5)], [], 0, 0, d) K := by
  intro n
  induction n with
  | zero =>
    intro x4 x5  d hS i0 i1 i2 hm  h
    exact ls_40_40 hx0 p1 p2 p3 0 _ (fun _ _  _ _ _ _ _ m0 m1 _ => absurd m1 (by omega)) x4 x5  d hS i0 i1 i2 hm  h
  | succ n ih =>
    intro x4 x5  d hS i0 i1 i2 hm  h
    exact ls_40_40 hx0 p1 p2 p3 ((n + 1 : Nat) : Int) _ (fun x4 x5  d hS i0 i1 i2  m0 m1 h => ih x4 x5  d hS i0 i1 i2 (by omega)  h) x4 x5  d hS i0 i1 i2 hm  h
def g_40 (x0 x1 x2 x3 : Int) (d : mD) : mD := if x2 < 0 then d else if d (x0 + 6) x1 < x2 then d else if d (x0 + 6) x1 < 16 then lp_40_40 x0 x1 x2 x3 ((d (x0 + 6) x1) : Int).toNat (x1 * 16) (d (x0 + 6) x1) d else d
theorem k_40 {E : mO × tW} {K : tK} {d : mD} {x0 x1 x2 x3 : Int} (hS : Safe d) (hx0 : ofB x0) (p1 : 0 ≤ x1 ∧ x1 ≤ 5) (p2 : -2147483648 ≤ x2 ∧ x2 ≤ 2147483647) (p3 : 0 ≤ x3 ∧ x3 ≤ 59) (h : (∀ b : Int, (b < x0 + 6 ∨ x0 + 7 < b) → (g_40 x0 x1 x2 x3 d) b = d b) → Safe (g_40 x0 x1 x2 x3 d) → K (.inl none) (g_40 x0 x1 x2 x3 d)) : tCall E 40 [.inr (3, x0), .inl (0, x1), .inl (0, x2), .inl (0, x3)] d K := by
  refine t_40_0 ?_
  refine ⟨m_inR (by omega) (by omega), fun c0 => ?_, fun c0 => ?_⟩
  · have y0 : g_40 x0 x1 x2 x3 d = d := by simp only [g_40, if_pos (show x2 < 0 from c0)]
    rw [y0] at h
    exact h (show ∀ b : Int, (b < x0 + 6 ∨ x0 + 7 < b) → d b = d b from fun _ _ => rfl) hS
  · have q4 := r_3_6 hS hx0 x1
    refine ⟨by omega, ⟨m_inR (by omega) (by omega), m_inR (by omega) (by omega)⟩, fun c1 => ?_, fun c1 => ?_⟩
    · have y0 : g_40 x0 x1 x2 x3 d = d := by simp only [g_40, if_neg (show ¬ x2 < 0 from Int.not_lt.mpr c0), if_pos (show d (x0 + 6) x1 < x2 from c1)]
      rw [y0] at h
      exact h (show ∀ b : Int, (b < x0 + 6 ∨ x0 + 7 < b) → d b = d b from fun _ _ => rfl) hS
    · refine ⟨by omega, ⟨m_inR (by omega) (by omega), m_inR (by omega) (by omega)⟩, fun c2 => ?_, fun c2 => ?_⟩
      · refine ⟨by omega, ?_⟩
        refine l_40_40 hx0 p1 p2 p3 ((d (x0 + 6) x1) : Int).toNat (x1 * 16) (d (x0 + 6) x1)  d hS (by omega) (by omega) (by omega) (by omega) ?_
        intro F hS_
        have y0 : g_40 x0 x1 x2 x3 d = lp_40_40 x0 x1 x2 x3 ((d (x0 + 6) x1) : Int).toNat (x1 * 16) (d (x0 + 6) x1) d := by simp only [g_40, if_neg (show ¬ x2 < 0 from Int.not_lt.mpr c0), if_neg (show ¬ d (x0 + 6) x1 < x2 from Int.not_lt.mpr c1), if_pos (show d (x0 + 6) x1 < 16 from c2)]
        rw [y0] at h
        exact h F hS_
      · have y0 : g_40 x0 x1 x2 x3 d = d := by simp only [g_40, if_neg (show ¬ x2 < 0 from Int.not_lt.mpr c0), if_neg (show ¬ d (x0 + 6) x1 < x2 from Int.not_lt.mpr c1), if_neg (show ¬ d (x0 + 6) x1 < 16 from Int.not_lt.mpr c2)]
        rw [y0] at h
        exact h (show ∀ b : Int, (b < x0 + 6 ∨ x0 + 7 < b) → d b = d b from fun _ _ => rfl) hS
def st_41_25 (x0 x1 x2 : Int) (r25 : Int → Int → mD → mD) (x3 x4 : Int) (d : mD) : mD := if x4 < d (x0 + 6) x1 then r25 x3 (x4 + 1) (mset d (x0 + 7) ((x3 + x4) - 1) (d (x0 + 7) (x3 + x4))) else mset d (x0 + 6) x1 ((d (x0 + 6) x1) - 1)
def lp_41_25 (x0 x1 x2 : Int) : Nat → Int → Int → mD → mD
  | 0 => st_41_25 x0 x1 x2 (fun _ _ d => d)
  | n + 1 => st_41_25 x0 x1 x2 (lp_41_25 x0 x1 x2 n)
theorem ls_41_25 {E : mO × tW} {K : tK} {x0 x1 x2 : Int} (hx0 : ofB x0) (p1 : 0 ≤ x1 ∧ x1 ≤ 5) (p2 : -2147483648 ≤ x2 ∧ x2 ≤ 2147483647) (N25 : Int) (r25 : Int → Int → mD → mD) (ih25 : ∀ (x3 x4 : Int) (d : mD), Safe d → (1 ≤ x4 ∧ x4 ≤ 16) → (x3 = x1 * 16) → (1 ≤ d (x0 + 6) x1) → 0 ≤ 16 - x4 → 16 - x4 < N25 → ((∀ b : Int, (b < x0 + 6 ∨ x0 + 7 < b) → (r25 x3 x4 d) b = d b) → Safe (r25 x3 x4 d) → K (.inl none) (r25 x3 x4 d)) → tRun E 41 (25, [.inr (3, x0), .inl (0, x1), .inl (0, x2), .inl (0, x3), .inl (0, x4)], [], 0, 0, d) K) (x3 x4 : Int) (d : mD) (hS : Safe d) (i0 : 1 ≤ x4 ∧ x4 ≤ 16) (i1 : x3 = x1 * 16) (i2 : 1 ≤ d (x0 + 6) x1) (hm : 16 - x4 ≤ N25) (h : (∀ b : Int, (b < x0 + 6 ∨ x0 + 7 < b) → (st_41_25 x0 x1 x2 r25 x3 x4 d) b = d b) → Safe (st_41_25 x0 x1 x2 r25 x3 x4 d) → K (.inl none) (st_41_25 x0 x1 x2 r25 x3 x4 d)) : tRun E 41 (25, [.inr (3, x0), .inl (0, x1), .inl (0, x2), .inl (0, x3), .inl (0, x4)], [], 0, 0, d) K := by
  refine t_41_25 ?_
  have q1 := r_3_6 hS hx0 x1
  refine ⟨by omega, ⟨m_inR (by omega) (by omega), m_inR (by omega) (by omega)⟩, fun c0 => ?_, fun c0 => ?_⟩
  · refine ⟨by omega, by omega, ?_⟩
    have hS1 : Safe (mset d (x0 + 6) x1 ((d (x0 + 6) x1) - 1)) := s_3_6 hS hx0 (by omega)
    have y0 : st_41_25 x0 x1 x2 r25 x3 x4 d = mset d (x0 + 6) x1 ((d (x0 + 6) x1) - 1) := by simp only [st_41_25, if_neg (show ¬ x4 < d (x0 + 6) x1 from Int.not_lt.mpr c0)]
    rw [y0] at h
    exact h (show ∀ b : Int, (b < x0 + 6 ∨ x0 + 7 < b) → (mset d (x0 + 6) x1 ((d (x0 + 6) x1) - 1)) b = d b from fun b hb => mset_ne (by omega)) hS1
  · have q2 := r_3_7 hS hx0 (x3 + x4)
    refine ⟨by omega, by omega, ?_⟩
    have hS2 : Safe (mset d (x0 + 7) ((x3 + x4) - 1) (d (x0 + 7) (x3 + x4))) := s_3_7 hS hx0 (by omega)
    have q3 : (mset d (x0 + 7) ((x3 + x4) - 1) (d (x0 + 7) (x3 + x4))) (x0 + 6) x1 = d (x0 + 6) x1 := congrFun (mset_ne (by omega)) x1
    refine ih25 x3 (x4 + 1)  (mset d (x0 + 7) ((x3 + x4) - 1) (d (x0 + 7) (x3 + x4))) hS2 (by omega) (by omega) (by omega) (by omega) (by omega) ?_
    intro F hS_
    have y0 : st_41_25 x0 x1 x2 r25 x3 x4 d = r25 x3 (x4 + 1) (mset d (x0 + 7) ((x3 + x4) - 1) (d (x0 + 7) (x3 + x4))) := by simp only [st_41_25, if_pos (show x4 < d (x0 + 6) x1 from c0)]
    rw [y0] at h
    exact h (fun b hb => (F b hb).trans ((show ∀ b : Int, (b < x0 + 6 ∨ x0 + 7 < b) → (mset d (x0 + 7) ((x3 + x4) - 1) (d (x0 + 7) (x3 + x4))) b = d b from fun b hb => mset_ne (by omega)) b hb)) hS_
theorem l_41_25 {E : mO × tW} {K : tK} {x0 x1 x2 : Int} (hx0 : ofB x0) (p1 : 0 ≤ x1 ∧ x1 ≤ 5) (p2 : -2147483648 ≤ x2 ∧ x2 ≤ 2147483647) : ∀ (n : Nat) (x3 x4 : Int) (d : mD), Safe d → (1 ≤ x4 ∧ x4 ≤ 16) → (x3 = x1 * 16) → (1 ≤ d (x0 + 6) x1) → 16 - x4 ≤ (n : Int) → ((∀ b : Int, (b < x0 + 6 ∨ x0 + 7 < b) → (lp_41_25 x0 x1 x2 n x3 x4 d) b = d b) → Safe (lp_41_25 x0 x1 x2 n x3 x4 d) → K (.inl none) (lp_41_25 x0 x1 x2 n x3 x4 d)) → tRun E 41 (25, [.inr (3, x0), .inl (0, x1), .inl (0, x2), .inl (0, x3), .inl (0, x4)], [], 0, 0, d) K := by
  intro n
  induction n with
  | zero =>
    intro x3 x4  d hS i0 i1 i2 hm  h
    exact ls_41_25 hx0 p1 p2 0 _ (fun _ _  _ _ _ _ _ m0 m1 _ => absurd m1 (by omega)) x3 x4  d hS i0 i1 i2 hm  h
  | succ n ih =>
    intro x3 x4  d hS i0 i1 i2 hm  h
    exact ls_41_25 hx0 p1 p2 ((n + 1 : Nat) : Int) _ (fun x3 x4  d hS i0 i1 i2  m0 m1 h => ih x3 x4  d hS i0 i1 i2 (by omega)  h) x3 x4  d hS i0 i1 i2 hm  h
def g_41 (x0 x1 x2 : Int) (d : mD) : mD := if x2 < 0 then d else if x2 < d (x0 + 6) x1 then lp_41_25 x0 x1 x2 (16 - (x2 + 1) : Int).toNat (x1 * 16) (x2 + 1) d else d
theorem k_41 {E : mO × tW} {K : tK} {d : mD} {x0 x1 x2 : Int} (hS : Safe d) (hx0 : ofB x0) (p1 : 0 ≤ x1 ∧ x1 ≤ 5) (p2 : -2147483648 ≤ x2 ∧ x2 ≤ 2147483647) (h : (∀ b : Int, (b < x0 + 6 ∨ x0 + 7 < b) → (g_41 x0 x1 x2 d) b = d b) → Safe (g_41 x0 x1 x2 d) → K (.inl none) (g_41 x0 x1 x2 d)) : tCall E 41 [.inr (3, x0), .inl (0, x1), .inl (0, x2)] d K := by
  refine t_41_0 ?_
  refine ⟨m_inR (by omega) (by omega), fun c0 => ?_, fun c0 => ?_⟩
  · have y0 : g_41 x0 x1 x2 d = d := by simp only [g_41, if_pos (show x2 < 0 from c0)]
    rw [y0] at h
    exact h (show ∀ b : Int, (b < x0 + 6 ∨ x0 + 7 < b) → d b = d b from fun _ _ => rfl) hS
  · have q4 := r_3_6 hS hx0 x1
    refine ⟨by omega, ⟨m_inR (by omega) (by omega), m_inR (by omega) (by omega)⟩, fun c1 => ?_, fun c1 => ?_⟩
    · refine l_41_25 hx0 p1 p2 (16 - (x2 + 1) : Int).toNat (x1 * 16) (x2 + 1)  d hS (by omega) (by omega) (by omega) (by omega) ?_
      intro F hS_
      have y0 : g_41 x0 x1 x2 d = lp_41_25 x0 x1 x2 (16 - (x2 + 1) : Int).toNat (x1 * 16) (x2 + 1) d := by simp only [g_41, if_neg (show ¬ x2 < 0 from Int.not_lt.mpr c0), if_pos (show x2 < d (x0 + 6) x1 from c1)]
      rw [y0] at h
      exact h F hS_
    · have y0 : g_41 x0 x1 x2 d = d := by simp only [g_41, if_neg (show ¬ x2 < 0 from Int.not_lt.mpr c0), if_neg (show ¬ x2 < d (x0 + 6) x1 from Int.not_lt.mpr c1)]
      rw [y0] at h
      exact h (show ∀ b : Int, (b < x0 + 6 ∨ x0 + 7 < b) → d b = d b from fun _ _ => rfl) hS
def v_42 (x0 x1 x2 : Int) (d : mD) : Int := if d (x0 + 5) x1 = 0 then 0 else if x2 % (mmax 1 (d (x0 + 3) x1)) = 0 then mmin (d (x0 + 2) x1) (d (x0 + 6) x1) else 0
theorem k_42 {E : mO × tW} {K : tK} {d : mD} {x0 x1 x2 : Int} (hS : Safe d) (hx0 : ofB x0) (p1 : 0 ≤ x1 ∧ x1 ≤ 5) (p2 : 0 ≤ x2 ∧ x2 ≤ 1199) (h : (0 ≤ (v_42 x0 x1 x2 d) ∧ (v_42 x0 x1 x2 d) ≤ 4) → K (.inl (some (0, (v_42 x0 x1 x2 d)))) d) : tCall E 42 [.inr (3, x0), .inl (0, x1), .inl (0, x2)] d K := by
  refine t_42_0 ?_
  have q1 := r_3_5 hS hx0 x1
  refine ⟨by omega, m_inR (by omega) (by omega), fun c0 => ?_, fun c0 => ?_⟩
  · have y0 : v_42 x0 x1 x2 d = 0 := by simp only [v_42, if_pos (show d (x0 + 5) x1 = 0 from c0)]
    rw [y0] at h
    exact h (show 0 ≤ ((0 : Int)) ∧ ((0 : Int)) ≤ 4 from (by omega))
  · have q2 := r_3_3 hS hx0 x1
    have q3 := mmax_r 1 (d (x0 + 3) x1)
    have q4 := mmod_r (x := x2) (y := mmax 1 (d (x0 + 3) x1)) (by omega) (by omega)
    refine ⟨by omega, ⟨m_inR (by omega) (by omega), m_inR (by omega) (by omega)⟩, by omega, m_inR (by omega) (by omega), fun c1 => ?_, fun c1 => ?_⟩
    · have q5 := r_3_2 hS hx0 x1
      have q6 := r_3_6 hS hx0 x1
      have q7 := mmin_r (d (x0 + 2) x1) (d (x0 + 6) x1)
      refine ⟨by omega, by omega, ⟨m_inR (by omega) (by omega), m_inR (by omega) (by omega)⟩, ?_⟩
      have y0 : v_42 x0 x1 x2 d = mmin (d (x0 + 2) x1) (d (x0 + 6) x1) := by simp only [v_42, if_neg (show ¬ d (x0 + 5) x1 = 0 from c0), if_pos (show x2 % (mmax 1 (d (x0 + 3) x1)) = 0 from c1)]
      rw [y0] at h
      exact h (show 0 ≤ (mmin (d (x0 + 2) x1) (d (x0 + 6) x1)) ∧ (mmin (d (x0 + 2) x1) (d (x0 + 6) x1)) ≤ 4 from (by omega))
    · have y0 : v_42 x0 x1 x2 d = 0 := by simp only [v_42, if_neg (show ¬ d (x0 + 5) x1 = 0 from c0), if_neg (show ¬ x2 % (mmax 1 (d (x0 + 3) x1)) = 0 from c1)]
      rw [y0] at h
      exact h (show 0 ≤ ((0 : Int)) ∧ ((0 : Int)) ≤ 4 from (by omega))
def v_43 (x0 x1 x2 x3 : Int) (d : mD) : Int := (((x3 / (mmax 1 (d (x0 + 3) x1))) + ((x2 / (mmax 1 (d (x0 + 2) x1))) + 1)) * (mmax 1 (d (x0 + 3) x1))) - x3
theorem k_43 {E : mO × tW} {K : tK} {d : mD} {x0 x1 x2 x3 : Int} (hS : Safe d) (hx0 : ofB x0) (p1 : 0 ≤ x1 ∧ x1 ≤ 5) (p2 : 0 ≤ x2 ∧ x2 ≤ 16) (p3 : 0 ≤ x3 ∧ x3 ≤ 1199) (h : (1 ≤ (v_43 x0 x1 x2 x3 d) ∧ (v_43 x0 x1 x2 x3 d) ≤ 102) → K (.inl (some (0, (v_43 x0 x1 x2 x3 d)))) d) : tCall E 43 [.inr (3, x0), .inl (0, x1), .inl (0, x2), .inl (0, x3)] d K := by
  refine t_43_0 ?_
  have q1 := r_3_3 hS hx0 x1
  have q2 := r_3_2 hS hx0 x1
  have q3 := mmax_r 1 (d (x0 + 2) x1)
  have q4 := mmax_r 1 (d (x0 + 3) x1)
  have q5 := mdiv_r (x := x3) (y := mmax 1 (d (x0 + 3) x1)) (by omega) (by omega)
  have q6 := mdiv_r (x := x2) (y := mmax 1 (d (x0 + 2) x1)) (by omega) (by omega)
  refine ⟨by omega, ⟨m_inR (by omega) (by omega), m_inR (by omega) (by omega)⟩, by omega, ⟨m_inR (by omega) (by omega), m_inR (by omega) (by omega)⟩, by omega, by omega, ?_⟩
  have y0 : v_43 x0 x1 x2 x3 d = (((x3 / (mmax 1 (d (x0 + 3) x1))) + ((x2 / (mmax 1 (d (x0 + 2) x1))) + 1)) * (mmax 1 (d (x0 + 3) x1))) - x3 := by simp only [v_43]
  rw [y0] at h
  exact h (show 1 ≤ ((((x3 / (mmax 1 (d (x0 + 3) x1))) + ((x2 / (mmax 1 (d (x0 + 2) x1))) + 1)) * (mmax 1 (d (x0 + 3) x1))) - x3) ∧ ((((x3 / (mmax 1 (d (x0 + 3) x1))) + ((x2 / (mmax 1 (d (x0 + 2) x1))) + 1)) * (mmax 1 (d (x0 + 3) x1))) - x3) ≤ 102 from (hus_r (by omega) (by omega) (by omega)))
def v_44 (x0 x1 x2 x3 : Int) (d : mD) : Int := mmax 0 ((d (x0 + 6) x1) - ((((x3 + x2) / (mmax 1 (d (x0 + 3) x1))) - (x3 / (mmax 1 (d (x0 + 3) x1)))) * (d (x0 + 2) x1)))
theorem k_44 {E : mO × tW} {K : tK} {d : mD} {x0 x1 x2 x3 : Int} (hS : Safe d) (hx0 : ofB x0) (p1 : 0 ≤ x1 ∧ x1 ≤ 5) (p2 : 0 ≤ x2 ∧ x2 ≤ 200) (p3 : 0 ≤ x3 ∧ x3 ≤ 1199) (h : (0 ≤ (v_44 x0 x1 x2 x3 d) ∧ (v_44 x0 x1 x2 x3 d) ≤ 16) → K (.inl (some (0, (v_44 x0 x1 x2 x3 d)))) d) : tCall E 44 [.inr (3, x0), .inl (0, x1), .inl (0, x2), .inl (0, x3)] d K := by
  refine t_44_0 ?_
  have w0 := mmax_r 1 (d (x0 + 3) x1)
  have w2 := r_3_2 hS hx0 x1
  have w1 := lin_r (b := mmax 1 (d (x0 + 3) x1)) (t := x3) (h := x2) (w := d (x0 + 2) x1) (by omega) (by omega) (by omega) (by omega)
  have q1 := r_3_3 hS hx0 x1
  have q2 := mmax_r 1 (d (x0 + 3) x1)
  have q3 := r_3_6 hS hx0 x1
  have q4 := mdiv_r (x := x3 + x2) (y := mmax 1 (d (x0 + 3) x1)) (by omega) (by omega)
  have q5 := mdiv_r (x := x3) (y := mmax 1 (d (x0 + 3) x1)) (by omega) (by omega)
  have q6 := r_3_2 hS hx0 x1
  have q7 := mmax_r 0 ((d (x0 + 6) x1) - ((((x3 + x2) / (mmax 1 (d (x0 + 3) x1))) - (x3 / (mmax 1 (d (x0 + 3) x1)))) * (d (x0 + 2) x1)))
  refine ⟨by omega, ⟨m_inR (by omega) (by omega), m_inR (by omega) (by omega)⟩, by omega, by omega, by omega, by omega, ⟨m_inR (by omega) (by omega), m_inR (by omega) (by omega)⟩, ?_⟩
  have y0 : v_44 x0 x1 x2 x3 d = mmax 0 ((d (x0 + 6) x1) - ((((x3 + x2) / (mmax 1 (d (x0 + 3) x1))) - (x3 / (mmax 1 (d (x0 + 3) x1)))) * (d (x0 + 2) x1))) := by simp only [v_44]
  rw [y0] at h
  exact h (show 0 ≤ (mmax 0 ((d (x0 + 6) x1) - ((((x3 + x2) / (mmax 1 (d (x0 + 3) x1))) - (x3 / (mmax 1 (d (x0 + 3) x1)))) * (d (x0 + 2) x1)))) ∧ (mmax 0 ((d (x0 + 6) x1) - ((((x3 + x2) / (mmax 1 (d (x0 + 3) x1))) - (x3 / (mmax 1 (d (x0 + 3) x1)))) * (d (x0 + 2) x1)))) ≤ 16 from (by omega))
