/-! The law's texts: a finite matter. -/
theorem texts_true : f_L_texts = some 1 := by decide +kernel
