theorem am_mp6 : (List.range' 90 15).all am_mpB = true := by decide +kernel
theorem am_mp7 : (List.range' 105 15).all am_mpB = true := by decide +kernel
theorem am_mp8 : (List.range' 120 15).all am_mpB = true := by decide +kernel
