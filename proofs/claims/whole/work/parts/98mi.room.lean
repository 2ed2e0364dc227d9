theorem am_mp19 : (List.range' 255 12).all am_mpB = true := by decide +kernel
