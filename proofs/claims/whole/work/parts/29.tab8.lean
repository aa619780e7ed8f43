theorem ly8 : lyS 8 40321 0 0 = true := by decide +kernel
