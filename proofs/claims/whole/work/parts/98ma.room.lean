def am_mpB (M : Nat) : Bool := am_okM M && plainFor (am_mt M).2.1 && decide ((am_mt M).2.2.2.1 ≤ 80)
theorem am_mp0 : (List.range' 0 15).all am_mpB = true := by decide +kernel
theorem am_mp1 : (List.range' 15 15).all am_mpB = true := by decide +kernel
theorem am_mp2 : (List.range' 30 15).all am_mpB = true := by decide +kernel
