theorem ab_dc0 : (List.range 15).all (fun k => ab_dc (0 + k)) = true := by decide +kernel
theorem ab_dc15 : (List.range 15).all (fun k => ab_dc (15 + k)) = true := by decide +kernel
theorem ab_dc30 : (List.range 15).all (fun k => ab_dc (30 + k)) = true := by decide +kernel
theorem ab_dc45 : (List.range 15).all (fun k => ab_dc (45 + k)) = true := by decide +kernel
theorem ab_dc60 : (List.range 15).all (fun k => ab_dc (60 + k)) = true := by decide +kernel
theorem ab_dc75 : (List.range 15).all (fun k => ab_dc (75 + k)) = true := by decide +kernel
theorem ab_dc90 : (List.range 15).all (fun k => ab_dc (90 + k)) = true := by decide +kernel
