/-! The law's store: a finite matter. -/
theorem store_true : f_L_store = some 1 := by decide +kernel
