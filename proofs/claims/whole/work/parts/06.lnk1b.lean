theorem jm_60 : (List.range 60).all (fun i => jmOK (60 + i)) = true := by decide +kernel
