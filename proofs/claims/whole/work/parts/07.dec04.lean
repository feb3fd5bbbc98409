theorem jch_240 : jchkR 240 10 = true := by decide +kernel
theorem jch_250 : jchkR 250 10 = true := by decide +kernel
theorem jch_260 : jchkR 260 10 = true := by decide +kernel
theorem jch_270 : jchkR 270 10 = true := by decide +kernel
theorem jch_280 : jchkR 280 10 = true := by decide +kernel
theorem jch_290 : jchkR 290 10 = true := by decide +kernel
