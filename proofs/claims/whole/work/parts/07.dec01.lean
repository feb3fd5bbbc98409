theorem jch_60 : jchkR 60 10 = true := by decide +kernel
theorem jch_70 : jchkR 70 10 = true := by decide +kernel
theorem jch_80 : jchkR 80 10 = true := by decide +kernel
theorem jch_90 : jchkR 90 10 = true := by decide +kernel
theorem jch_100 : jchkR 100 10 = true := by decide +kernel
theorem jch_110 : jchkR 110 10 = true := by decide +kernel
