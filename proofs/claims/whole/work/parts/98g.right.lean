theorem am_k27 : ((List.range' 180 8).all fun M => (List.range ((am_ls[M]?).getD 0)).all (am_ok M)) = true := by decide +kernel
theorem am_k28 : ((List.range' 188 9).all fun M => (List.range ((am_ls[M]?).getD 0)).all (am_ok M)) = true := by decide +kernel
theorem am_k29 : ((List.range' 197 12).all fun M => (List.range ((am_ls[M]?).getD 0)).all (am_ok M)) = true := by decide +kernel
