theorem ab_dc105 : (List.range 15).all (fun k => ab_dc (105 + k)) = true := by decide +kernel
theorem ab_dc120 : (List.range 15).all (fun k => ab_dc (120 + k)) = true := by decide +kernel
theorem ab_dc135 : (List.range 15).all (fun k => ab_dc (135 + k)) = true := by decide +kernel
theorem ab_dc150 : (List.range 15).all (fun k => ab_dc (150 + k)) = true := by decide +kernel
theorem ab_dc165 : (List.range 15).all (fun k => ab_dc (165 + k)) = true := by decide +kernel
theorem ab_dc180 : (List.range 15).all (fun k => ab_dc (180 + k)) = true := by decide +kernel
theorem ab_dc195 : (List.range 8).all (fun k => ab_dc (195 + k)) = true := by decide +kernel
theorem ab_dcs {y : Nat} (h : y < 203) : ab_dc y = true := by
  by_cases h0 : y < 15
  · have q := List.all_eq_true.mp ab_dc0 (y - 0) (List.mem_range.mpr (by omega))
    rwa [show 0 + (y - 0) = y by omega] at q
  by_cases h15 : y < 30
  · have q := List.all_eq_true.mp ab_dc15 (y - 15) (List.mem_range.mpr (by omega))
    rwa [show 15 + (y - 15) = y by omega] at q
  by_cases h30 : y < 45
  · have q := List.all_eq_true.mp ab_dc30 (y - 30) (List.mem_range.mpr (by omega))
    rwa [show 30 + (y - 30) = y by omega] at q
  by_cases h45 : y < 60
  · have q := List.all_eq_true.mp ab_dc45 (y - 45) (List.mem_range.mpr (by omega))
    rwa [show 45 + (y - 45) = y by omega] at q
  by_cases h60 : y < 75
  · have q := List.all_eq_true.mp ab_dc60 (y - 60) (List.mem_range.mpr (by omega))
    rwa [show 60 + (y - 60) = y by omega] at q
  by_cases h75 : y < 90
  · have q := List.all_eq_true.mp ab_dc75 (y - 75) (List.mem_range.mpr (by omega))
    rwa [show 75 + (y - 75) = y by omega] at q
  by_cases h90 : y < 105
  · have q := List.all_eq_true.mp ab_dc90 (y - 90) (List.mem_range.mpr (by omega))
    rwa [show 90 + (y - 90) = y by omega] at q
  by_cases h105 : y < 120
  · have q := List.all_eq_true.mp ab_dc105 (y - 105) (List.mem_range.mpr (by omega))
    rwa [show 105 + (y - 105) = y by omega] at q
  by_cases h120 : y < 135
  · have q := List.all_eq_true.mp ab_dc120 (y - 120) (List.mem_range.mpr (by omega))
    rwa [show 120 + (y - 120) = y by omega] at q
  by_cases h135 : y < 150
  · have q := List.all_eq_true.mp ab_dc135 (y - 135) (List.mem_range.mpr (by omega))
    rwa [show 135 + (y - 135) = y by omega] at q
  by_cases h150 : y < 165
  · have q := List.all_eq_true.mp ab_dc150 (y - 150) (List.mem_range.mpr (by omega))
    rwa [show 150 + (y - 150) = y by omega] at q
  by_cases h165 : y < 180
  · have q := List.all_eq_true.mp ab_dc165 (y - 165) (List.mem_range.mpr (by omega))
    rwa [show 165 + (y - 165) = y by omega] at q
  by_cases h180 : y < 195
  · have q := List.all_eq_true.mp ab_dc180 (y - 180) (List.mem_range.mpr (by omega))
    rwa [show 180 + (y - 180) = y by omega] at q
  by_cases h195 : y < 203
  · have q := List.all_eq_true.mp ab_dc195 (y - 195) (List.mem_range.mpr (by omega))
    rwa [show 195 + (y - 195) = y by omega] at q
  omega
