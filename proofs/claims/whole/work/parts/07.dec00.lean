theorem jch_0 : jchkR 0 10 = true := by decide +kernel
theorem jch_10 : jchkR 10 10 = true := by decide +kernel
theorem jch_20 : jchkR 20 10 = true := by decide +kernel
theorem jch_30 : jchkR 30 10 = true := by decide +kernel
theorem jch_40 : jchkR 40 10 = true := by decide +kernel
theorem jch_50 : jchkR 50 10 = true := by decide +kernel
