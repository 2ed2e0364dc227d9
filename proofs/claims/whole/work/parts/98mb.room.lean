theorem am_mp3 : (List.range' 45 15).all am_mpB = true := by decide +kernel
theorem am_mp4 : (List.range' 60 15).all am_mpB = true := by decide +kernel
theorem am_mp5 : (List.range' 75 15).all am_mpB = true := by decide +kernel
