theorem am_mp15 : (List.range' 195 15).all am_mpB = true := by decide +kernel
theorem am_mp16 : (List.range' 210 15).all am_mpB = true := by decide +kernel
