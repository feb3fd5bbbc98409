theorem jm_240 : (List.range 60).all (fun i => jmOK (240 + i)) = true := by decide +kernel
