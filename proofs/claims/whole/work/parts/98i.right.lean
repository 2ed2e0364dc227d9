theorem am_k33 : ((List.range' 233 7).all fun M => (List.range ((am_ls[M]?).getD 0)).all (am_ok M)) = true := by decide +kernel
theorem am_k34 : ((List.range' 240 4).all fun M => (List.range ((am_ls[M]?).getD 0)).all (am_ok M)) = true := by decide +kernel
theorem am_k35 : ((List.range' 0 120).all (am_ok 244)) = true := by decide +kernel
theorem am_k36 : ((List.range' 120 120).all (am_ok 244)) = true := by decide +kernel
theorem am_k37 : ((List.range' 240 120).all (am_ok 244)) = true := by decide +kernel
