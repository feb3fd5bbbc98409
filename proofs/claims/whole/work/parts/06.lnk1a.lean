theorem jm_0 : (List.range 60).all (fun i => jmOK (0 + i)) = true := by decide +kernel
