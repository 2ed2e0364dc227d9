theorem am_k12 : ((List.range' 115 12).all fun M => (List.range ((am_ls[M]?).getD 0)).all (am_ok M)) = true := by decide +kernel
theorem am_k13 : ((List.range' 127 18).all fun M => (List.range ((am_ls[M]?).getD 0)).all (am_ok M)) = true := by decide +kernel
theorem am_k14 : ((List.range' 145 16).all fun M => (List.range ((am_ls[M]?).getD 0)).all (am_ok M)) = true := by decide +kernel
theorem am_k15 : ((List.range' 161 5).all fun M => (List.range ((am_ls[M]?).getD 0)).all (am_ok M)) = true := by decide +kernel
