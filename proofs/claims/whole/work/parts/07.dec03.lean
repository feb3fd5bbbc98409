theorem jch_180 : jchkR 180 10 = true := by decide +kernel
theorem jch_190 : jchkR 190 10 = true := by decide +kernel
theorem jch_200 : jchkR 200 10 = true := by decide +kernel
theorem jch_210 : jchkR 210 10 = true := by decide +kernel
theorem jch_220 : jchkR 220 10 = true := by decide +kernel
theorem jch_230 : jchkR 230 10 = true := by decide +kernel
