theorem am_k16 : ((List.range' 0 120).all (am_ok 166)) = true := by decide +kernel
theorem am_k17 : ((List.range' 120 120).all (am_ok 166)) = true := by decide +kernel
theorem am_k18 : ((List.range' 240 120).all (am_ok 166)) = true := by decide +kernel
theorem am_k19 : ((List.range' 360 120).all (am_ok 166)) = true := by decide +kernel
theorem am_k20 : ((List.range' 480 120).all (am_ok 166)) = true := by decide +kernel
theorem am_k21 : ((List.range' 600 120).all (am_ok 166)) = true := by decide +kernel
