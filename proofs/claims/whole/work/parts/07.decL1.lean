theorem jcl_900 : (List.range 100).all (fun i => jchk1 359 jI359 code (900 + i)) = true := by decide +kernel
theorem jcl_1000 : (List.range 100).all (fun i => jchk1 359 jI359 code (1000 + i)) = true := by decide +kernel
theorem jcl_1100 : (List.range 100).all (fun i => jchk1 359 jI359 code (1100 + i)) = true := by decide +kernel
theorem jcl_1200 : (List.range 100).all (fun i => jchk1 359 jI359 code (1200 + i)) = true := by decide +kernel
theorem jcl_1300 : (List.range 100).all (fun i => jchk1 359 jI359 code (1300 + i)) = true := by decide +kernel
theorem jcl_1400 : (List.range 100).all (fun i => jchk1 359 jI359 code (1400 + i)) = true := by decide +kernel
theorem jcl_1500 : (List.range 100).all (fun i => jchk1 359 jI359 code (1500 + i)) = true := by decide +kernel
theorem jcl_1600 : (List.range 87).all (fun i => jchk1 359 jI359 code (1600 + i)) = true := by decide +kernel
