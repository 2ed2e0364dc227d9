theorem am_k38 : ((List.range' 360 45).all (am_ok 244)) = true := by decide +kernel
theorem am_k39 : ((List.range' 245 10).all fun M => (List.range ((am_ls[M]?).getD 0)).all (am_ok M)) = true := by decide +kernel
theorem am_k40 : ((List.range' 255 7).all fun M => (List.range ((am_ls[M]?).getD 0)).all (am_ok M)) = true := by decide +kernel
theorem am_k41 : ((List.range' 262 5).all fun M => (List.range ((am_ls[M]?).getD 0)).all (am_ok M)) = true := by decide +kernel
theorem am_k42 : ((List.range' 0 120).all (am_ok 267)) = true := by decide +kernel
theorem am_k43 : ((List.range' 120 120).all (am_ok 267)) = true := by decide +kernel
