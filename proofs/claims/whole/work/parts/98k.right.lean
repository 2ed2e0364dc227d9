theorem am_k44 : ((List.range' 240 120).all (am_ok 267)) = true := by decide +kernel
theorem am_k45 : ((List.range' 360 120).all (am_ok 267)) = true := by decide +kernel
theorem am_k46 : ((List.range' 480 120).all (am_ok 267)) = true := by decide +kernel
theorem am_k47 : ((List.range' 600 120).all (am_ok 267)) = true := by decide +kernel
theorem am_k48 : ((List.range' 720 120).all (am_ok 267)) = true := by decide +kernel
theorem am_k49 : ((List.range' 840 120).all (am_ok 267)) = true := by decide +kernel
