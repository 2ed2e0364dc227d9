theorem am_mp9 : (List.range' 135 15).all am_mpB = true := by decide +kernel
theorem am_mp10 : (List.range' 150 15).all am_mpB = true := by decide +kernel
theorem am_mp11 : (List.range' 165 1).all am_mpB = true := by decide +kernel
