theorem am_k22 : ((List.range' 720 120).all (am_ok 166)) = true := by decide +kernel
theorem am_k23 : ((List.range' 840 120).all (am_ok 166)) = true := by decide +kernel
theorem am_k24 : ((List.range' 960 120).all (am_ok 166)) = true := by decide +kernel
theorem am_k25 : ((List.range' 1080 109).all (am_ok 166)) = true := by decide +kernel
theorem am_k26 : ((List.range' 167 13).all fun M => (List.range ((am_ls[M]?).getD 0)).all (am_ok M)) = true := by decide +kernel
