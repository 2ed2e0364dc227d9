theorem am_k30 : ((List.range' 209 6).all fun M => (List.range ((am_ls[M]?).getD 0)).all (am_ok M)) = true := by decide +kernel
theorem am_k31 : ((List.range' 215 7).all fun M => (List.range ((am_ls[M]?).getD 0)).all (am_ok M)) = true := by decide +kernel
theorem am_k32 : ((List.range' 222 11).all fun M => (List.range ((am_ls[M]?).getD 0)).all (am_ok M)) = true := by decide +kernel
