theorem jm_180 : (List.range 60).all (fun i => jmOK (180 + i)) = true := by decide +kernel
