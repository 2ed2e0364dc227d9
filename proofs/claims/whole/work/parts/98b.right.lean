theorem am_k4 : ((List.range' 47 16).all fun M => (List.range ((am_ls[M]?).getD 0)).all (am_ok M)) = true := by decide +kernel
theorem am_k5 : ((List.range' 63 19).all fun M => (List.range ((am_ls[M]?).getD 0)).all (am_ok M)) = true := by decide +kernel
theorem am_k6 : ((List.range' 82 14).all fun M => (List.range ((am_ls[M]?).getD 0)).all (am_ok M)) = true := by decide +kernel
theorem am_k7 : ((List.range' 0 120).all (am_ok 96)) = true := by decide +kernel
