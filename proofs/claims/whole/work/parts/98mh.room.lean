theorem am_mp17 : (List.range' 225 15).all am_mpB = true := by decide +kernel
theorem am_mp18 : (List.range' 240 15).all am_mpB = true := by decide +kernel
