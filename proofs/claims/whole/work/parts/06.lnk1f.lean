theorem jm_300 : (List.range 59).all (fun i => jmOK (300 + i)) = true := by decide +kernel
