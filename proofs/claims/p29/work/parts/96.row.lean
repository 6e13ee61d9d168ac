/-! The law's row: a finite matter. -/
theorem row_true : f_L_row = some 1 := by decide +kernel
