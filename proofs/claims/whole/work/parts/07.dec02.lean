theorem jch_120 : jchkR 120 10 = true := by decide +kernel
theorem jch_130 : jchkR 130 10 = true := by decide +kernel
theorem jch_140 : jchkR 140 10 = true := by decide +kernel
theorem jch_150 : jchkR 150 10 = true := by decide +kernel
theorem jch_160 : jchkR 160 10 = true := by decide +kernel
theorem jch_170 : jchkR 170 10 = true := by decide +kernel
