theorem am_k50 : ((List.range' 960 120).all (am_ok 267)) = true := by decide +kernel
theorem am_k51 : ((List.range' 1080 120).all (am_ok 267)) = true := by decide +kernel
theorem am_k52 : ((List.range' 1200 120).all (am_ok 267)) = true := by decide +kernel
theorem am_k53 : ((List.range' 1320 120).all (am_ok 267)) = true := by decide +kernel
theorem am_k54 : ((List.range' 1440 64).all (am_ok 267)) = true := by decide +kernel
