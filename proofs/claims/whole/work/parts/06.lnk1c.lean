theorem jm_120 : (List.range 60).all (fun i => jmOK (120 + i)) = true := by decide +kernel
