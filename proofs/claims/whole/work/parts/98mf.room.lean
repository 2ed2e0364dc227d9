theorem am_mp13 : (List.range' 167 13).all am_mpB = true := by decide +kernel
theorem am_mp14 : (List.range' 180 15).all am_mpB = true := by decide +kernel
