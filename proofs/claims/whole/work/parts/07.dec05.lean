theorem jch_300 : jchkR 300 10 = true := by decide +kernel
theorem jch_310 : jchkR 310 10 = true := by decide +kernel
theorem jch_320 : jchkR 320 10 = true := by decide +kernel
theorem jch_330 : jchkR 330 10 = true := by decide +kernel
theorem jch_340 : jchkR 340 10 = true := by decide +kernel
theorem jch_350 : jchkR 350 9 = true := by decide +kernel
