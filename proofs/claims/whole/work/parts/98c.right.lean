theorem am_k8 : ((List.range' 120 120).all (am_ok 96)) = true := by decide +kernel
theorem am_k9 : ((List.range' 240 62).all (am_ok 96)) = true := by decide +kernel
theorem am_k10 : ((List.range' 97 9).all fun M => (List.range ((am_ls[M]?).getD 0)).all (am_ok M)) = true := by decide +kernel
theorem am_k11 : ((List.range' 106 9).all fun M => (List.range ((am_ls[M]?).getD 0)).all (am_ok M)) = true := by decide +kernel
