theorem am_o0 {pc : Nat} (h : 97 ≤ pc) : am_m0.2.2.2.2.2 pc = none := by
  show (if pc < 49 then (if pc < 15 then (am_f0_0 pc) else (if pc < 31 then (am_f0_1 pc) else (am_f0_2 pc))) else (if pc < 65 then (am_f0_3 pc) else (if pc < 81 then (am_f0_4 pc) else (am_f0_5 pc)))) = none
  rw [if_neg (show ¬ pc < 49 by omega), if_neg (show ¬ pc < 65 by omega), if_neg (show ¬ pc < 81 by omega)]
  unfold am_f0_5
  rw [if_neg (show ¬ pc = 81 by omega), if_neg (show ¬ pc = 83 by omega), if_neg (show ¬ pc = 85 by omega), if_neg (show ¬ pc = 88 by omega), if_neg (show ¬ pc = 89 by omega), if_neg (show ¬ pc = 91 by omega), if_neg (show ¬ pc = 93 by omega), if_neg (show ¬ pc = 96 by omega)]
theorem am_o1 {pc : Nat} (h : 21 ≤ pc) : am_m1.2.2.2.2.2 pc = none := by
  show (if pc < 15 then (am_f1_0 pc) else (am_f1_1 pc)) = none
  rw [if_neg (show ¬ pc < 15 by omega)]
  unfold am_f1_1
  rw [if_neg (show ¬ pc = 15 by omega), if_neg (show ¬ pc = 16 by omega), if_neg (show ¬ pc = 17 by omega), if_neg (show ¬ pc = 20 by omega)]
theorem am_o2 {pc : Nat} (h : 65 ≤ pc) : am_m2.2.2.2.2.2 pc = none := by
  show (if pc < 30 then (if pc < 14 then (am_f2_0 pc) else (am_f2_1 pc)) else (if pc < 42 then (am_f2_2 pc) else (if pc < 54 then (am_f2_3 pc) else (am_f2_4 pc)))) = none
  rw [if_neg (show ¬ pc < 30 by omega), if_neg (show ¬ pc < 42 by omega), if_neg (show ¬ pc < 54 by omega)]
  unfold am_f2_4
  rw [if_neg (show ¬ pc = 54 by omega), if_neg (show ¬ pc = 57 by omega), if_neg (show ¬ pc = 58 by omega), if_neg (show ¬ pc = 59 by omega), if_neg (show ¬ pc = 60 by omega), if_neg (show ¬ pc = 61 by omega), if_neg (show ¬ pc = 64 by omega)]
theorem am_o3 {pc : Nat} (h : 67 ≤ pc) : am_m3.2.2.2.2.2 pc = none := by
  show (if pc < 26 then (if pc < 14 then (am_f3_0 pc) else (am_f3_1 pc)) else (if pc < 38 then (am_f3_2 pc) else (if pc < 52 then (am_f3_3 pc) else (am_f3_4 pc)))) = none
  rw [if_neg (show ¬ pc < 26 by omega), if_neg (show ¬ pc < 38 by omega), if_neg (show ¬ pc < 52 by omega)]
  unfold am_f3_4
  rw [if_neg (show ¬ pc = 52 by omega), if_neg (show ¬ pc = 53 by omega), if_neg (show ¬ pc = 56 by omega), if_neg (show ¬ pc = 59 by omega), if_neg (show ¬ pc = 62 by omega), if_neg (show ¬ pc = 63 by omega), if_neg (show ¬ pc = 66 by omega)]
theorem am_o4 {pc : Nat} (h : 64 ≤ pc) : am_m4.2.2.2.2.2 pc = none := by
  show (if pc < 30 then (if pc < 14 then (am_f4_0 pc) else (am_f4_1 pc)) else (if pc < 40 then (am_f4_2 pc) else (if pc < 56 then (am_f4_3 pc) else (am_f4_4 pc)))) = none
  rw [if_neg (show ¬ pc < 30 by omega), if_neg (show ¬ pc < 40 by omega), if_neg (show ¬ pc < 56 by omega)]
  unfold am_f4_4
  rw [if_neg (show ¬ pc = 56 by omega), if_neg (show ¬ pc = 57 by omega), if_neg (show ¬ pc = 60 by omega), if_neg (show ¬ pc = 63 by omega)]
theorem am_o5 {pc : Nat} (h : 61 ≤ pc) : am_m5.2.2.2.2.2 pc = none := by
  show (if pc < 26 then (if pc < 14 then (am_f5_0 pc) else (am_f5_1 pc)) else (if pc < 38 then (am_f5_2 pc) else (if pc < 50 then (am_f5_3 pc) else (am_f5_4 pc)))) = none
  rw [if_neg (show ¬ pc < 26 by omega), if_neg (show ¬ pc < 38 by omega), if_neg (show ¬ pc < 50 by omega)]
  unfold am_f5_4
  rw [if_neg (show ¬ pc = 50 by omega), if_neg (show ¬ pc = 53 by omega), if_neg (show ¬ pc = 54 by omega), if_neg (show ¬ pc = 57 by omega), if_neg (show ¬ pc = 60 by omega)]
theorem am_o6 {pc : Nat} (h : 143 ≤ pc) : am_m6.2.2.2.2.2 pc = none := by
  show (if pc < 66 then (if pc < 26 then (if pc < 10 then (am_f6_0 pc) else (am_f6_1 pc)) else (if pc < 40 then (am_f6_2 pc) else (if pc < 52 then (am_f6_3 pc) else (am_f6_4 pc)))) else (if pc < 109 then (if pc < 79 then (am_f6_5 pc) else (if pc < 95 then (am_f6_6 pc) else (am_f6_7 pc))) else (if pc < 125 then (am_f6_8 pc) else (if pc < 135 then (am_f6_9 pc) else (am_f6_10 pc))))) = none
  rw [if_neg (show ¬ pc < 66 by omega), if_neg (show ¬ pc < 109 by omega), if_neg (show ¬ pc < 125 by omega), if_neg (show ¬ pc < 135 by omega)]
  unfold am_f6_10
  rw [if_neg (show ¬ pc = 135 by omega), if_neg (show ¬ pc = 136 by omega), if_neg (show ¬ pc = 139 by omega), if_neg (show ¬ pc = 142 by omega)]
theorem am_o7 {pc : Nat} (h : 84 ≤ pc) : am_m7.2.2.2.2.2 pc = none := by
  show (if pc < 36 then (if pc < 10 then (am_f7_0 pc) else (if pc < 24 then (am_f7_1 pc) else (am_f7_2 pc))) else (if pc < 62 then (if pc < 47 then (am_f7_3 pc) else (am_f7_4 pc)) else (if pc < 75 then (am_f7_5 pc) else (am_f7_6 pc)))) = none
  rw [if_neg (show ¬ pc < 36 by omega), if_neg (show ¬ pc < 62 by omega), if_neg (show ¬ pc < 75 by omega)]
  unfold am_f7_6
  rw [if_neg (show ¬ pc = 75 by omega), if_neg (show ¬ pc = 76 by omega), if_neg (show ¬ pc = 77 by omega), if_neg (show ¬ pc = 80 by omega), if_neg (show ¬ pc = 83 by omega)]
theorem am_o8 {pc : Nat} (h : 51 ≤ pc) : am_m8.2.2.2.2.2 pc = none := by
  show (if pc < 26 then (if pc < 12 then (am_f8_0 pc) else (am_f8_1 pc)) else (if pc < 38 then (am_f8_2 pc) else (am_f8_3 pc))) = none
  rw [if_neg (show ¬ pc < 26 by omega), if_neg (show ¬ pc < 38 by omega)]
  unfold am_f8_3
  rw [if_neg (show ¬ pc = 38 by omega), if_neg (show ¬ pc = 41 by omega), if_neg (show ¬ pc = 42 by omega), if_neg (show ¬ pc = 43 by omega), if_neg (show ¬ pc = 46 by omega), if_neg (show ¬ pc = 49 by omega), if_neg (show ¬ pc = 50 by omega)]
theorem am_o9 {pc : Nat} (h : 64 ≤ pc) : am_m9.2.2.2.2.2 pc = none := by
  show (if pc < 38 then (if pc < 14 then (am_f9_0 pc) else (if pc < 28 then (am_f9_1 pc) else (am_f9_2 pc))) else (if pc < 48 then (am_f9_3 pc) else (if pc < 60 then (am_f9_4 pc) else (am_f9_5 pc)))) = none
  rw [if_neg (show ¬ pc < 38 by omega), if_neg (show ¬ pc < 48 by omega), if_neg (show ¬ pc < 60 by omega)]
  unfold am_f9_5
  rw [if_neg (show ¬ pc = 60 by omega), if_neg (show ¬ pc = 63 by omega)]
theorem am_o10 {pc : Nat} (h : 81 ≤ pc) : am_m10.2.2.2.2.2 pc = none := by
  show (if pc < 39 then (if pc < 13 then (am_f10_0 pc) else (if pc < 25 then (am_f10_1 pc) else (am_f10_2 pc))) else (if pc < 65 then (if pc < 51 then (am_f10_3 pc) else (am_f10_4 pc)) else (if pc < 79 then (am_f10_5 pc) else (am_f10_6 pc)))) = none
  rw [if_neg (show ¬ pc < 39 by omega), if_neg (show ¬ pc < 65 by omega), if_neg (show ¬ pc < 79 by omega)]
  unfold am_f10_6
  rw [if_neg (show ¬ pc = 79 by omega), if_neg (show ¬ pc = 80 by omega)]
theorem am_o11 {pc : Nat} (h : 13 ≤ pc) : am_m11.2.2.2.2.2 pc = none := by
  show am_f11_0 pc = none
  unfold am_f11_0
  rw [if_neg (show ¬ pc = 0 by omega), if_neg (show ¬ pc = 1 by omega), if_neg (show ¬ pc = 4 by omega), if_neg (show ¬ pc = 5 by omega), if_neg (show ¬ pc = 7 by omega), if_neg (show ¬ pc = 9 by omega), if_neg (show ¬ pc = 12 by omega)]
theorem am_o12 {pc : Nat} (h : 16 ≤ pc) : am_m12.2.2.2.2.2 pc = none := by
  show (if pc < 15 then (am_f12_0 pc) else (am_f12_1 pc)) = none
  rw [if_neg (show ¬ pc < 15 by omega)]
  unfold am_f12_1
  rw [if_neg (show ¬ pc = 15 by omega)]
theorem am_o13 {pc : Nat} (h : 39 ≤ pc) : am_m13.2.2.2.2.2 pc = none := by
  show (if pc < 14 then (am_f13_0 pc) else (if pc < 30 then (am_f13_1 pc) else (am_f13_2 pc))) = none
  rw [if_neg (show ¬ pc < 14 by omega), if_neg (show ¬ pc < 30 by omega)]
  unfold am_f13_2
  rw [if_neg (show ¬ pc = 30 by omega), if_neg (show ¬ pc = 33 by omega), if_neg (show ¬ pc = 36 by omega), if_neg (show ¬ pc = 38 by omega)]
theorem am_o14 {pc : Nat} (h : 53 ≤ pc) : am_m14.2.2.2.2.2 pc = none := by
  show (if pc < 22 then (if pc < 10 then (am_f14_0 pc) else (am_f14_1 pc)) else (if pc < 37 then (am_f14_2 pc) else (if pc < 52 then (am_f14_3 pc) else (am_f14_4 pc)))) = none
  rw [if_neg (show ¬ pc < 22 by omega), if_neg (show ¬ pc < 37 by omega), if_neg (show ¬ pc < 52 by omega)]
  unfold am_f14_4
  rw [if_neg (show ¬ pc = 52 by omega)]
theorem am_o15 {pc : Nat} (h : 38 ≤ pc) : am_m15.2.2.2.2.2 pc = none := by
  show (if pc < 13 then (am_f15_0 pc) else (if pc < 24 then (am_f15_1 pc) else (am_f15_2 pc))) = none
  rw [if_neg (show ¬ pc < 13 by omega), if_neg (show ¬ pc < 24 by omega)]
  unfold am_f15_2
  rw [if_neg (show ¬ pc = 24 by omega), if_neg (show ¬ pc = 25 by omega), if_neg (show ¬ pc = 28 by omega), if_neg (show ¬ pc = 29 by omega), if_neg (show ¬ pc = 30 by omega), if_neg (show ¬ pc = 33 by omega), if_neg (show ¬ pc = 36 by omega), if_neg (show ¬ pc = 37 by omega)]
theorem am_o16 {pc : Nat} (h : 30 ≤ pc) : am_m16.2.2.2.2.2 pc = none := by
  show (if pc < 14 then (am_f16_0 pc) else (if pc < 26 then (am_f16_1 pc) else (am_f16_2 pc))) = none
  rw [if_neg (show ¬ pc < 14 by omega), if_neg (show ¬ pc < 26 by omega)]
  unfold am_f16_2
  rw [if_neg (show ¬ pc = 26 by omega), if_neg (show ¬ pc = 27 by omega), if_neg (show ¬ pc = 28 by omega), if_neg (show ¬ pc = 29 by omega)]
theorem am_o17 {pc : Nat} (h : 5 ≤ pc) : am_m17.2.2.2.2.2 pc = none := by
  show am_f17_0 pc = none
  unfold am_f17_0
  rw [if_neg (show ¬ pc = 0 by omega), if_neg (show ¬ pc = 1 by omega), if_neg (show ¬ pc = 4 by omega)]
theorem am_o18 {pc : Nat} (h : 16 ≤ pc) : am_m18.2.2.2.2.2 pc = none := by
  show (if pc < 12 then (am_f18_0 pc) else (am_f18_1 pc)) = none
  rw [if_neg (show ¬ pc < 12 by omega)]
  unfold am_f18_1
  rw [if_neg (show ¬ pc = 12 by omega), if_neg (show ¬ pc = 15 by omega)]
theorem am_o19 {pc : Nat} (h : 15 ≤ pc) : am_m19.2.2.2.2.2 pc = none := by
  show (if pc < 14 then (am_f19_0 pc) else (am_f19_1 pc)) = none
  rw [if_neg (show ¬ pc < 14 by omega)]
  unfold am_f19_1
  rw [if_neg (show ¬ pc = 14 by omega)]
theorem am_o20 {pc : Nat} (h : 11 ≤ pc) : am_m20.2.2.2.2.2 pc = none := by
  show am_f20_0 pc = none
  unfold am_f20_0
  rw [if_neg (show ¬ pc = 0 by omega), if_neg (show ¬ pc = 1 by omega), if_neg (show ¬ pc = 2 by omega), if_neg (show ¬ pc = 5 by omega), if_neg (show ¬ pc = 6 by omega), if_neg (show ¬ pc = 7 by omega), if_neg (show ¬ pc = 10 by omega)]
theorem am_o21 {pc : Nat} (h : 16 ≤ pc) : am_m21.2.2.2.2.2 pc = none := by
  show (if pc < 12 then (am_f21_0 pc) else (am_f21_1 pc)) = none
  rw [if_neg (show ¬ pc < 12 by omega)]
  unfold am_f21_1
  rw [if_neg (show ¬ pc = 12 by omega), if_neg (show ¬ pc = 15 by omega)]
theorem am_o22 {pc : Nat} (h : 30 ≤ pc) : am_m22.2.2.2.2.2 pc = none := by
  show (if pc < 16 then (am_f22_0 pc) else (am_f22_1 pc)) = none
  rw [if_neg (show ¬ pc < 16 by omega)]
  unfold am_f22_1
  rw [if_neg (show ¬ pc = 16 by omega), if_neg (show ¬ pc = 17 by omega), if_neg (show ¬ pc = 18 by omega), if_neg (show ¬ pc = 21 by omega), if_neg (show ¬ pc = 24 by omega), if_neg (show ¬ pc = 25 by omega), if_neg (show ¬ pc = 28 by omega), if_neg (show ¬ pc = 29 by omega)]
theorem am_o23 {pc : Nat} (h : 14 ≤ pc) : am_m23.2.2.2.2.2 pc = none := by
  show am_f23_0 pc = none
  unfold am_f23_0
  rw [if_neg (show ¬ pc = 0 by omega), if_neg (show ¬ pc = 1 by omega), if_neg (show ¬ pc = 4 by omega), if_neg (show ¬ pc = 5 by omega), if_neg (show ¬ pc = 8 by omega), if_neg (show ¬ pc = 9 by omega), if_neg (show ¬ pc = 12 by omega), if_neg (show ¬ pc = 13 by omega)]
theorem am_o24 {pc : Nat} (h : 30 ≤ pc) : am_m24.2.2.2.2.2 pc = none := by
  show (if pc < 16 then (am_f24_0 pc) else (am_f24_1 pc)) = none
  rw [if_neg (show ¬ pc < 16 by omega)]
  unfold am_f24_1
  rw [if_neg (show ¬ pc = 16 by omega), if_neg (show ¬ pc = 18 by omega), if_neg (show ¬ pc = 21 by omega), if_neg (show ¬ pc = 22 by omega), if_neg (show ¬ pc = 24 by omega), if_neg (show ¬ pc = 26 by omega), if_neg (show ¬ pc = 29 by omega)]
theorem am_o25 {pc : Nat} (h : 27 ≤ pc) : am_m25.2.2.2.2.2 pc = none := by
  show (if pc < 13 then (am_f25_0 pc) else (am_f25_1 pc)) = none
  rw [if_neg (show ¬ pc < 13 by omega)]
  unfold am_f25_1
  rw [if_neg (show ¬ pc = 13 by omega), if_neg (show ¬ pc = 14 by omega), if_neg (show ¬ pc = 17 by omega), if_neg (show ¬ pc = 18 by omega), if_neg (show ¬ pc = 19 by omega), if_neg (show ¬ pc = 20 by omega), if_neg (show ¬ pc = 23 by omega), if_neg (show ¬ pc = 26 by omega)]
theorem am_o26 {pc : Nat} (h : 33 ≤ pc) : am_m26.2.2.2.2.2 pc = none := by
  show (if pc < 16 then (am_f26_0 pc) else (if pc < 28 then (am_f26_1 pc) else (am_f26_2 pc))) = none
  rw [if_neg (show ¬ pc < 16 by omega), if_neg (show ¬ pc < 28 by omega)]
  unfold am_f26_2
  rw [if_neg (show ¬ pc = 28 by omega), if_neg (show ¬ pc = 29 by omega), if_neg (show ¬ pc = 32 by omega)]
theorem am_o27 {pc : Nat} (h : 170 ≤ pc) : am_m27.2.2.2.2.2 pc = none := by
  show (if pc < 78 then (if pc < 41 then (if pc < 15 then (am_f27_0 pc) else (if pc < 28 then (am_f27_1 pc) else (am_f27_2 pc))) else (if pc < 54 then (am_f27_3 pc) else (if pc < 66 then (am_f27_4 pc) else (am_f27_5 pc)))) else (if pc < 122 then (if pc < 91 then (am_f27_6 pc) else (if pc < 105 then (am_f27_7 pc) else (am_f27_8 pc))) else (if pc < 147 then (if pc < 134 then (am_f27_9 pc) else (am_f27_10 pc)) else (if pc < 163 then (am_f27_11 pc) else (am_f27_12 pc))))) = none
  rw [if_neg (show ¬ pc < 78 by omega), if_neg (show ¬ pc < 122 by omega), if_neg (show ¬ pc < 147 by omega), if_neg (show ¬ pc < 163 by omega)]
  unfold am_f27_12
  rw [if_neg (show ¬ pc = 163 by omega), if_neg (show ¬ pc = 164 by omega), if_neg (show ¬ pc = 167 by omega), if_neg (show ¬ pc = 168 by omega), if_neg (show ¬ pc = 169 by omega)]
theorem am_o28 {pc : Nat} (h : 36 ≤ pc) : am_m28.2.2.2.2.2 pc = none := by
  show (if pc < 11 then (am_f28_0 pc) else (if pc < 23 then (am_f28_1 pc) else (am_f28_2 pc))) = none
  rw [if_neg (show ¬ pc < 11 by omega), if_neg (show ¬ pc < 23 by omega)]
  unfold am_f28_2
  rw [if_neg (show ¬ pc = 23 by omega), if_neg (show ¬ pc = 26 by omega), if_neg (show ¬ pc = 27 by omega), if_neg (show ¬ pc = 28 by omega), if_neg (show ¬ pc = 31 by omega), if_neg (show ¬ pc = 34 by omega), if_neg (show ¬ pc = 35 by omega)]
theorem am_o29 {pc : Nat} (h : 26 ≤ pc) : am_m29.2.2.2.2.2 pc = none := by
  show (if pc < 14 then (am_f29_0 pc) else (if pc < 25 then (am_f29_1 pc) else (am_f29_2 pc))) = none
  rw [if_neg (show ¬ pc < 14 by omega), if_neg (show ¬ pc < 25 by omega)]
  unfold am_f29_2
  rw [if_neg (show ¬ pc = 25 by omega)]
theorem am_o30 {pc : Nat} (h : 30 ≤ pc) : am_m30.2.2.2.2.2 pc = none := by
  show (if pc < 17 then (am_f30_0 pc) else (am_f30_1 pc)) = none
  rw [if_neg (show ¬ pc < 17 by omega)]
  unfold am_f30_1
  rw [if_neg (show ¬ pc = 17 by omega), if_neg (show ¬ pc = 19 by omega), if_neg (show ¬ pc = 22 by omega), if_neg (show ¬ pc = 23 by omega), if_neg (show ¬ pc = 24 by omega), if_neg (show ¬ pc = 26 by omega), if_neg (show ¬ pc = 29 by omega)]
theorem am_o31 {pc : Nat} (h : 32 ≤ pc) : am_m31.2.2.2.2.2 pc = none := by
  show (if pc < 18 then (am_f31_0 pc) else (if pc < 28 then (am_f31_1 pc) else (am_f31_2 pc))) = none
  rw [if_neg (show ¬ pc < 18 by omega), if_neg (show ¬ pc < 28 by omega)]
  unfold am_f31_2
  rw [if_neg (show ¬ pc = 28 by omega), if_neg (show ¬ pc = 31 by omega)]
theorem am_o32 {pc : Nat} (h : 6 ≤ pc) : am_m32.2.2.2.2.2 pc = none := by
  show am_f32_0 pc = none
  unfold am_f32_0
  rw [if_neg (show ¬ pc = 0 by omega), if_neg (show ¬ pc = 1 by omega), if_neg (show ¬ pc = 2 by omega), if_neg (show ¬ pc = 5 by omega)]
theorem am_o33 {pc : Nat} (h : 170 ≤ pc) : am_m33.2.2.2.2.2 pc = none := by
  show (if pc < 86 then (if pc < 40 then (if pc < 12 then (am_f33_0 pc) else (if pc < 26 then (am_f33_1 pc) else (am_f33_2 pc))) else (if pc < 56 then (am_f33_3 pc) else (if pc < 69 then (am_f33_4 pc) else (am_f33_5 pc)))) else (if pc < 132 then (if pc < 100 then (am_f33_6 pc) else (if pc < 116 then (am_f33_7 pc) else (am_f33_8 pc))) else (if pc < 148 then (am_f33_9 pc) else (if pc < 162 then (am_f33_10 pc) else (am_f33_11 pc))))) = none
  rw [if_neg (show ¬ pc < 86 by omega), if_neg (show ¬ pc < 132 by omega), if_neg (show ¬ pc < 148 by omega), if_neg (show ¬ pc < 162 by omega)]
  unfold am_f33_11
  rw [if_neg (show ¬ pc = 162 by omega), if_neg (show ¬ pc = 163 by omega), if_neg (show ¬ pc = 166 by omega), if_neg (show ¬ pc = 169 by omega)]
theorem am_o34 {pc : Nat} (h : 56 ≤ pc) : am_m34.2.2.2.2.2 pc = none := by
  show (if pc < 29 then (if pc < 12 then (am_f34_0 pc) else (am_f34_1 pc)) else (if pc < 43 then (am_f34_2 pc) else (am_f34_3 pc))) = none
  rw [if_neg (show ¬ pc < 29 by omega), if_neg (show ¬ pc < 43 by omega)]
  unfold am_f34_3
  rw [if_neg (show ¬ pc = 43 by omega), if_neg (show ¬ pc = 45 by omega), if_neg (show ¬ pc = 48 by omega), if_neg (show ¬ pc = 51 by omega), if_neg (show ¬ pc = 54 by omega), if_neg (show ¬ pc = 55 by omega)]
theorem am_o35 {pc : Nat} (h : 56 ≤ pc) : am_m35.2.2.2.2.2 pc = none := by
  show (if pc < 29 then (if pc < 12 then (am_f35_0 pc) else (am_f35_1 pc)) else (if pc < 43 then (am_f35_2 pc) else (am_f35_3 pc))) = none
  rw [if_neg (show ¬ pc < 29 by omega), if_neg (show ¬ pc < 43 by omega)]
  unfold am_f35_3
  rw [if_neg (show ¬ pc = 43 by omega), if_neg (show ¬ pc = 45 by omega), if_neg (show ¬ pc = 48 by omega), if_neg (show ¬ pc = 51 by omega), if_neg (show ¬ pc = 54 by omega), if_neg (show ¬ pc = 55 by omega)]
theorem am_o36 {pc : Nat} (h : 47 ≤ pc) : am_m36.2.2.2.2.2 pc = none := by
  show (if pc < 28 then (if pc < 15 then (am_f36_0 pc) else (am_f36_1 pc)) else (if pc < 40 then (am_f36_2 pc) else (am_f36_3 pc))) = none
  rw [if_neg (show ¬ pc < 28 by omega), if_neg (show ¬ pc < 40 by omega)]
  unfold am_f36_3
  rw [if_neg (show ¬ pc = 40 by omega), if_neg (show ¬ pc = 42 by omega), if_neg (show ¬ pc = 45 by omega), if_neg (show ¬ pc = 46 by omega)]
theorem am_o37 {pc : Nat} (h : 62 ≤ pc) : am_m37.2.2.2.2.2 pc = none := by
  show (if pc < 28 then (if pc < 14 then (am_f37_0 pc) else (am_f37_1 pc)) else (if pc < 42 then (am_f37_2 pc) else (if pc < 57 then (am_f37_3 pc) else (am_f37_4 pc)))) = none
  rw [if_neg (show ¬ pc < 28 by omega), if_neg (show ¬ pc < 42 by omega), if_neg (show ¬ pc < 57 by omega)]
  unfold am_f37_4
  rw [if_neg (show ¬ pc = 57 by omega), if_neg (show ¬ pc = 60 by omega), if_neg (show ¬ pc = 61 by omega)]
theorem am_o38 {pc : Nat} (h : 81 ≤ pc) : am_m38.2.2.2.2.2 pc = none := by
  show (if pc < 46 then (if pc < 12 then (am_f38_0 pc) else (if pc < 29 then (am_f38_1 pc) else (am_f38_2 pc))) else (if pc < 58 then (am_f38_3 pc) else (if pc < 79 then (am_f38_4 pc) else (am_f38_5 pc)))) = none
  rw [if_neg (show ¬ pc < 46 by omega), if_neg (show ¬ pc < 58 by omega), if_neg (show ¬ pc < 79 by omega)]
  unfold am_f38_5
  rw [if_neg (show ¬ pc = 79 by omega), if_neg (show ¬ pc = 80 by omega)]
theorem am_o39 {pc : Nat} (h : 56 ≤ pc) : am_m39.2.2.2.2.2 pc = none := by
  show (if pc < 29 then (if pc < 12 then (am_f39_0 pc) else (am_f39_1 pc)) else (if pc < 43 then (am_f39_2 pc) else (am_f39_3 pc))) = none
  rw [if_neg (show ¬ pc < 29 by omega), if_neg (show ¬ pc < 43 by omega)]
  unfold am_f39_3
  rw [if_neg (show ¬ pc = 43 by omega), if_neg (show ¬ pc = 45 by omega), if_neg (show ¬ pc = 48 by omega), if_neg (show ¬ pc = 51 by omega), if_neg (show ¬ pc = 54 by omega), if_neg (show ¬ pc = 55 by omega)]
theorem am_o40 {pc : Nat} (h : 103 ≤ pc) : am_m40.2.2.2.2.2 pc = none := by
  show (if pc < 59 then (if pc < 29 then (if pc < 16 then (am_f40_0 pc) else (am_f40_1 pc)) else (if pc < 44 then (am_f40_2 pc) else (am_f40_3 pc))) else (if pc < 86 then (if pc < 74 then (am_f40_4 pc) else (am_f40_5 pc)) else (if pc < 101 then (am_f40_6 pc) else (am_f40_7 pc)))) = none
  rw [if_neg (show ¬ pc < 59 by omega), if_neg (show ¬ pc < 86 by omega), if_neg (show ¬ pc < 101 by omega)]
  unfold am_f40_7
  rw [if_neg (show ¬ pc = 101 by omega), if_neg (show ¬ pc = 102 by omega)]
theorem am_o41 {pc : Nat} (h : 68 ≤ pc) : am_m41.2.2.2.2.2 pc = none := by
  show (if pc < 30 then (if pc < 16 then (am_f41_0 pc) else (am_f41_1 pc)) else (if pc < 46 then (am_f41_2 pc) else (if pc < 60 then (am_f41_3 pc) else (am_f41_4 pc)))) = none
  rw [if_neg (show ¬ pc < 30 by omega), if_neg (show ¬ pc < 46 by omega), if_neg (show ¬ pc < 60 by omega)]
  unfold am_f41_4
  rw [if_neg (show ¬ pc = 60 by omega), if_neg (show ¬ pc = 63 by omega), if_neg (show ¬ pc = 64 by omega), if_neg (show ¬ pc = 67 by omega)]
theorem am_o42 {pc : Nat} (h : 16 ≤ pc) : am_m42.2.2.2.2.2 pc = none := by
  show (if pc < 14 then (am_f42_0 pc) else (am_f42_1 pc)) = none
  rw [if_neg (show ¬ pc < 14 by omega)]
  unfold am_f42_1
  rw [if_neg (show ¬ pc = 14 by omega), if_neg (show ¬ pc = 15 by omega)]
theorem am_o43 {pc : Nat} (h : 31 ≤ pc) : am_m43.2.2.2.2.2 pc = none := by
  show (if pc < 18 then (am_f43_0 pc) else (if pc < 30 then (am_f43_1 pc) else (am_f43_2 pc))) = none
  rw [if_neg (show ¬ pc < 18 by omega), if_neg (show ¬ pc < 30 by omega)]
  unfold am_f43_2
  rw [if_neg (show ¬ pc = 30 by omega)]
theorem am_o44 {pc : Nat} (h : 153 ≤ pc) : am_m44.2.2.2.2.2 pc = none := by
  show (if pc < 82 then (if pc < 32 then (if pc < 16 then (am_f44_0 pc) else (am_f44_1 pc)) else (if pc < 48 then (am_f44_2 pc) else (if pc < 66 then (am_f44_3 pc) else (am_f44_4 pc)))) else (if pc < 116 then (if pc < 100 then (am_f44_5 pc) else (am_f44_6 pc)) else (if pc < 134 then (am_f44_7 pc) else (if pc < 148 then (am_f44_8 pc) else (am_f44_9 pc))))) = none
  rw [if_neg (show ¬ pc < 82 by omega), if_neg (show ¬ pc < 116 by omega), if_neg (show ¬ pc < 134 by omega), if_neg (show ¬ pc < 148 by omega)]
  unfold am_f44_9
  rw [if_neg (show ¬ pc = 148 by omega), if_neg (show ¬ pc = 149 by omega), if_neg (show ¬ pc = 152 by omega)]
theorem am_o45 {pc : Nat} (h : 96 ≤ pc) : am_m45.2.2.2.2.2 pc = none := by
  show (if pc < 48 then (if pc < 16 then (am_f45_0 pc) else (if pc < 32 then (am_f45_1 pc) else (am_f45_2 pc))) else (if pc < 77 then (if pc < 63 then (am_f45_3 pc) else (am_f45_4 pc)) else (if pc < 92 then (am_f45_5 pc) else (am_f45_6 pc)))) = none
  rw [if_neg (show ¬ pc < 48 by omega), if_neg (show ¬ pc < 77 by omega), if_neg (show ¬ pc < 92 by omega)]
  unfold am_f45_6
  rw [if_neg (show ¬ pc = 92 by omega), if_neg (show ¬ pc = 95 by omega)]
theorem am_o46 {pc : Nat} (h : 94 ≤ pc) : am_m46.2.2.2.2.2 pc = none := by
  show (if pc < 45 then (if pc < 10 then (am_f46_0 pc) else (if pc < 28 then (am_f46_1 pc) else (am_f46_2 pc))) else (if pc < 70 then (if pc < 58 then (am_f46_3 pc) else (am_f46_4 pc)) else (if pc < 86 then (am_f46_5 pc) else (am_f46_6 pc)))) = none
  rw [if_neg (show ¬ pc < 45 by omega), if_neg (show ¬ pc < 70 by omega), if_neg (show ¬ pc < 86 by omega)]
  unfold am_f46_6
  rw [if_neg (show ¬ pc = 86 by omega), if_neg (show ¬ pc = 89 by omega), if_neg (show ¬ pc = 92 by omega), if_neg (show ¬ pc = 93 by omega)]
theorem am_o47 {pc : Nat} (h : 88 ≤ pc) : am_m47.2.2.2.2.2 pc = none := by
  show (if pc < 44 then (if pc < 14 then (am_f47_0 pc) else (if pc < 31 then (am_f47_1 pc) else (am_f47_2 pc))) else (if pc < 71 then (if pc < 56 then (am_f47_3 pc) else (am_f47_4 pc)) else (if pc < 87 then (am_f47_5 pc) else (am_f47_6 pc)))) = none
  rw [if_neg (show ¬ pc < 44 by omega), if_neg (show ¬ pc < 71 by omega), if_neg (show ¬ pc < 87 by omega)]
  unfold am_f47_6
  rw [if_neg (show ¬ pc = 87 by omega)]
theorem am_o48 {pc : Nat} (h : 18 ≤ pc) : am_m48.2.2.2.2.2 pc = none := by
  show (if pc < 16 then (am_f48_0 pc) else (am_f48_1 pc)) = none
  rw [if_neg (show ¬ pc < 16 by omega)]
  unfold am_f48_1
  rw [if_neg (show ¬ pc = 16 by omega), if_neg (show ¬ pc = 17 by omega)]
theorem am_o49 {pc : Nat} (h : 18 ≤ pc) : am_m49.2.2.2.2.2 pc = none := by
  show (if pc < 16 then (am_f49_0 pc) else (am_f49_1 pc)) = none
  rw [if_neg (show ¬ pc < 16 by omega)]
  unfold am_f49_1
  rw [if_neg (show ¬ pc = 16 by omega), if_neg (show ¬ pc = 17 by omega)]
theorem am_o50 {pc : Nat} (h : 18 ≤ pc) : am_m50.2.2.2.2.2 pc = none := by
  show (if pc < 16 then (am_f50_0 pc) else (am_f50_1 pc)) = none
  rw [if_neg (show ¬ pc < 16 by omega)]
  unfold am_f50_1
  rw [if_neg (show ¬ pc = 16 by omega), if_neg (show ¬ pc = 17 by omega)]
theorem am_o51 {pc : Nat} (h : 54 ≤ pc) : am_m51.2.2.2.2.2 pc = none := by
  show (if pc < 31 then (if pc < 15 then (am_f51_0 pc) else (am_f51_1 pc)) else (if pc < 48 then (am_f51_2 pc) else (am_f51_3 pc))) = none
  rw [if_neg (show ¬ pc < 31 by omega), if_neg (show ¬ pc < 48 by omega)]
  unfold am_f51_3
  rw [if_neg (show ¬ pc = 48 by omega), if_neg (show ¬ pc = 49 by omega), if_neg (show ¬ pc = 52 by omega), if_neg (show ¬ pc = 53 by omega)]
theorem am_o52 {pc : Nat} (h : 41 ≤ pc) : am_m52.2.2.2.2.2 pc = none := by
  show (if pc < 15 then (am_f52_0 pc) else (if pc < 30 then (am_f52_1 pc) else (am_f52_2 pc))) = none
  rw [if_neg (show ¬ pc < 15 by omega), if_neg (show ¬ pc < 30 by omega)]
  unfold am_f52_2
  rw [if_neg (show ¬ pc = 30 by omega), if_neg (show ¬ pc = 33 by omega), if_neg (show ¬ pc = 34 by omega), if_neg (show ¬ pc = 37 by omega), if_neg (show ¬ pc = 40 by omega)]
theorem am_o53 {pc : Nat} (h : 18 ≤ pc) : am_m53.2.2.2.2.2 pc = none := by
  show (if pc < 16 then (am_f53_0 pc) else (am_f53_1 pc)) = none
  rw [if_neg (show ¬ pc < 16 by omega)]
  unfold am_f53_1
  rw [if_neg (show ¬ pc = 16 by omega), if_neg (show ¬ pc = 17 by omega)]
theorem am_o54 {pc : Nat} (h : 17 ≤ pc) : am_m54.2.2.2.2.2 pc = none := by
  show (if pc < 15 then (am_f54_0 pc) else (am_f54_1 pc)) = none
  rw [if_neg (show ¬ pc < 15 by omega)]
  unfold am_f54_1
  rw [if_neg (show ¬ pc = 15 by omega), if_neg (show ¬ pc = 16 by omega)]
theorem am_o55 {pc : Nat} (h : 78 ≤ pc) : am_m55.2.2.2.2.2 pc = none := by
  show (if pc < 47 then (if pc < 15 then (am_f55_0 pc) else (if pc < 30 then (am_f55_1 pc) else (am_f55_2 pc))) else (if pc < 63 then (am_f55_3 pc) else (if pc < 77 then (am_f55_4 pc) else (am_f55_5 pc)))) = none
  rw [if_neg (show ¬ pc < 47 by omega), if_neg (show ¬ pc < 63 by omega), if_neg (show ¬ pc < 77 by omega)]
  unfold am_f55_5
  rw [if_neg (show ¬ pc = 77 by omega)]
theorem am_o56 {pc : Nat} (h : 46 ≤ pc) : am_m56.2.2.2.2.2 pc = none := by
  show (if pc < 28 then (if pc < 14 then (am_f56_0 pc) else (am_f56_1 pc)) else (if pc < 44 then (am_f56_2 pc) else (am_f56_3 pc))) = none
  rw [if_neg (show ¬ pc < 28 by omega), if_neg (show ¬ pc < 44 by omega)]
  unfold am_f56_3
  rw [if_neg (show ¬ pc = 44 by omega), if_neg (show ¬ pc = 45 by omega)]
theorem am_o57 {pc : Nat} (h : 46 ≤ pc) : am_m57.2.2.2.2.2 pc = none := by
  show (if pc < 28 then (if pc < 14 then (am_f57_0 pc) else (am_f57_1 pc)) else (if pc < 44 then (am_f57_2 pc) else (am_f57_3 pc))) = none
  rw [if_neg (show ¬ pc < 28 by omega), if_neg (show ¬ pc < 44 by omega)]
  unfold am_f57_3
  rw [if_neg (show ¬ pc = 44 by omega), if_neg (show ¬ pc = 45 by omega)]
theorem am_o58 {pc : Nat} (h : 67 ≤ pc) : am_m58.2.2.2.2.2 pc = none := by
  show (if pc < 29 then (if pc < 14 then (am_f58_0 pc) else (am_f58_1 pc)) else (if pc < 46 then (am_f58_2 pc) else (if pc < 65 then (am_f58_3 pc) else (am_f58_4 pc)))) = none
  rw [if_neg (show ¬ pc < 29 by omega), if_neg (show ¬ pc < 46 by omega), if_neg (show ¬ pc < 65 by omega)]
  unfold am_f58_4
  rw [if_neg (show ¬ pc = 65 by omega), if_neg (show ¬ pc = 66 by omega)]
theorem am_o59 {pc : Nat} (h : 36 ≤ pc) : am_m59.2.2.2.2.2 pc = none := by
  show (if pc < 12 then (am_f59_0 pc) else (if pc < 28 then (am_f59_1 pc) else (am_f59_2 pc))) = none
  rw [if_neg (show ¬ pc < 12 by omega), if_neg (show ¬ pc < 28 by omega)]
  unfold am_f59_2
  rw [if_neg (show ¬ pc = 28 by omega), if_neg (show ¬ pc = 31 by omega), if_neg (show ¬ pc = 34 by omega), if_neg (show ¬ pc = 35 by omega)]
theorem am_o60 {pc : Nat} (h : 31 ≤ pc) : am_m60.2.2.2.2.2 pc = none := by
  show (if pc < 12 then (am_f60_0 pc) else (if pc < 26 then (am_f60_1 pc) else (am_f60_2 pc))) = none
  rw [if_neg (show ¬ pc < 12 by omega), if_neg (show ¬ pc < 26 by omega)]
  unfold am_f60_2
  rw [if_neg (show ¬ pc = 26 by omega), if_neg (show ¬ pc = 29 by omega), if_neg (show ¬ pc = 30 by omega)]
theorem am_o61 {pc : Nat} (h : 79 ≤ pc) : am_m61.2.2.2.2.2 pc = none := by
  show (if pc < 39 then (if pc < 12 then (am_f61_0 pc) else (if pc < 24 then (am_f61_1 pc) else (am_f61_2 pc))) else (if pc < 58 then (am_f61_3 pc) else (if pc < 73 then (am_f61_4 pc) else (am_f61_5 pc)))) = none
  rw [if_neg (show ¬ pc < 39 by omega), if_neg (show ¬ pc < 58 by omega), if_neg (show ¬ pc < 73 by omega)]
  unfold am_f61_5
  rw [if_neg (show ¬ pc = 73 by omega), if_neg (show ¬ pc = 74 by omega), if_neg (show ¬ pc = 75 by omega), if_neg (show ¬ pc = 78 by omega)]
theorem am_o62 {pc : Nat} (h : 53 ≤ pc) : am_m62.2.2.2.2.2 pc = none := by
  show (if pc < 28 then (if pc < 14 then (am_f62_0 pc) else (am_f62_1 pc)) else (if pc < 42 then (am_f62_2 pc) else (am_f62_3 pc))) = none
  rw [if_neg (show ¬ pc < 28 by omega), if_neg (show ¬ pc < 42 by omega)]
  unfold am_f62_3
  rw [if_neg (show ¬ pc = 42 by omega), if_neg (show ¬ pc = 43 by omega), if_neg (show ¬ pc = 46 by omega), if_neg (show ¬ pc = 49 by omega), if_neg (show ¬ pc = 52 by omega)]
theorem am_o63 {pc : Nat} (h : 54 ≤ pc) : am_m63.2.2.2.2.2 pc = none := by
  show (if pc < 27 then (if pc < 14 then (am_f63_0 pc) else (am_f63_1 pc)) else (if pc < 44 then (am_f63_2 pc) else (am_f63_3 pc))) = none
  rw [if_neg (show ¬ pc < 27 by omega), if_neg (show ¬ pc < 44 by omega)]
  unfold am_f63_3
  rw [if_neg (show ¬ pc = 44 by omega), if_neg (show ¬ pc = 47 by omega), if_neg (show ¬ pc = 48 by omega), if_neg (show ¬ pc = 49 by omega), if_neg (show ¬ pc = 52 by omega), if_neg (show ¬ pc = 53 by omega)]
theorem am_o64 {pc : Nat} (h : 5 ≤ pc) : am_m64.2.2.2.2.2 pc = none := by
  show am_f64_0 pc = none
  unfold am_f64_0
  rw [if_neg (show ¬ pc = 0 by omega), if_neg (show ¬ pc = 1 by omega), if_neg (show ¬ pc = 4 by omega)]
theorem am_o65 {pc : Nat} (h : 30 ≤ pc) : am_m65.2.2.2.2.2 pc = none := by
  show (if pc < 16 then (am_f65_0 pc) else (am_f65_1 pc)) = none
  rw [if_neg (show ¬ pc < 16 by omega)]
  unfold am_f65_1
  rw [if_neg (show ¬ pc = 16 by omega), if_neg (show ¬ pc = 17 by omega), if_neg (show ¬ pc = 18 by omega), if_neg (show ¬ pc = 21 by omega), if_neg (show ¬ pc = 24 by omega), if_neg (show ¬ pc = 25 by omega), if_neg (show ¬ pc = 28 by omega), if_neg (show ¬ pc = 29 by omega)]
theorem am_o66 {pc : Nat} (h : 22 ≤ pc) : am_m66.2.2.2.2.2 pc = none := by
  show (if pc < 16 then (am_f66_0 pc) else (am_f66_1 pc)) = none
  rw [if_neg (show ¬ pc < 16 by omega)]
  unfold am_f66_1
  rw [if_neg (show ¬ pc = 16 by omega), if_neg (show ¬ pc = 17 by omega), if_neg (show ¬ pc = 20 by omega), if_neg (show ¬ pc = 21 by omega)]
theorem am_o67 {pc : Nat} (h : 22 ≤ pc) : am_m67.2.2.2.2.2 pc = none := by
  show (if pc < 16 then (am_f67_0 pc) else (am_f67_1 pc)) = none
  rw [if_neg (show ¬ pc < 16 by omega)]
  unfold am_f67_1
  rw [if_neg (show ¬ pc = 16 by omega), if_neg (show ¬ pc = 17 by omega), if_neg (show ¬ pc = 20 by omega), if_neg (show ¬ pc = 21 by omega)]
theorem am_o68 {pc : Nat} (h : 45 ≤ pc) : am_m68.2.2.2.2.2 pc = none := by
  show (if pc < 16 then (am_f68_0 pc) else (if pc < 32 then (am_f68_1 pc) else (am_f68_2 pc))) = none
  rw [if_neg (show ¬ pc < 16 by omega), if_neg (show ¬ pc < 32 by omega)]
  unfold am_f68_2
  rw [if_neg (show ¬ pc = 32 by omega), if_neg (show ¬ pc = 35 by omega), if_neg (show ¬ pc = 36 by omega), if_neg (show ¬ pc = 39 by omega), if_neg (show ¬ pc = 40 by omega), if_neg (show ¬ pc = 43 by omega), if_neg (show ¬ pc = 44 by omega)]
theorem am_o69 {pc : Nat} (h : 21 ≤ pc) : am_m69.2.2.2.2.2 pc = none := by
  show (if pc < 15 then (am_f69_0 pc) else (am_f69_1 pc)) = none
  rw [if_neg (show ¬ pc < 15 by omega)]
  unfold am_f69_1
  rw [if_neg (show ¬ pc = 15 by omega), if_neg (show ¬ pc = 17 by omega), if_neg (show ¬ pc = 20 by omega)]
theorem am_o70 {pc : Nat} (h : 58 ≤ pc) : am_m70.2.2.2.2.2 pc = none := by
  show (if pc < 26 then (if pc < 12 then (am_f70_0 pc) else (am_f70_1 pc)) else (if pc < 38 then (am_f70_2 pc) else (if pc < 57 then (am_f70_3 pc) else (am_f70_4 pc)))) = none
  rw [if_neg (show ¬ pc < 26 by omega), if_neg (show ¬ pc < 38 by omega), if_neg (show ¬ pc < 57 by omega)]
  unfold am_f70_4
  rw [if_neg (show ¬ pc = 57 by omega)]
theorem am_o71 {pc : Nat} (h : 100 ≤ pc) : am_m71.2.2.2.2.2 pc = none := by
  show (if pc < 42 then (if pc < 14 then (am_f71_0 pc) else (if pc < 27 then (am_f71_1 pc) else (am_f71_2 pc))) else (if pc < 71 then (if pc < 57 then (am_f71_3 pc) else (am_f71_4 pc)) else (if pc < 87 then (am_f71_5 pc) else (am_f71_6 pc)))) = none
  rw [if_neg (show ¬ pc < 42 by omega), if_neg (show ¬ pc < 71 by omega), if_neg (show ¬ pc < 87 by omega)]
  unfold am_f71_6
  rw [if_neg (show ¬ pc = 87 by omega), if_neg (show ¬ pc = 88 by omega), if_neg (show ¬ pc = 89 by omega), if_neg (show ¬ pc = 92 by omega), if_neg (show ¬ pc = 93 by omega), if_neg (show ¬ pc = 96 by omega), if_neg (show ¬ pc = 99 by omega)]
theorem am_o72 {pc : Nat} (h : 116 ≤ pc) : am_m72.2.2.2.2.2 pc = none := by
  show (if pc < 78 then (if pc < 52 then (am_f72_0 pc) else (if pc < 64 then (am_f72_1 pc) else (am_f72_2 pc))) else (if pc < 102 then (if pc < 90 then (am_f72_3 pc) else (am_f72_4 pc)) else (if pc < 110 then (am_f72_5 pc) else (am_f72_6 pc)))) = none
  rw [if_neg (show ¬ pc < 78 by omega), if_neg (show ¬ pc < 102 by omega), if_neg (show ¬ pc < 110 by omega)]
  unfold am_f72_6
  rw [if_neg (show ¬ pc = 110 by omega), if_neg (show ¬ pc = 111 by omega), if_neg (show ¬ pc = 112 by omega), if_neg (show ¬ pc = 113 by omega), if_neg (show ¬ pc = 114 by omega), if_neg (show ¬ pc = 115 by omega)]
theorem am_o73 {pc : Nat} (h : 30 ≤ pc) : am_m73.2.2.2.2.2 pc = none := by
  show (if pc < 17 then (am_f73_0 pc) else (if pc < 29 then (am_f73_1 pc) else (am_f73_2 pc))) = none
  rw [if_neg (show ¬ pc < 17 by omega), if_neg (show ¬ pc < 29 by omega)]
  unfold am_f73_2
  rw [if_neg (show ¬ pc = 29 by omega)]
theorem am_o74 {pc : Nat} (h : 30 ≤ pc) : am_m74.2.2.2.2.2 pc = none := by
  show (if pc < 12 then (am_f74_0 pc) else (if pc < 28 then (am_f74_1 pc) else (am_f74_2 pc))) = none
  rw [if_neg (show ¬ pc < 12 by omega), if_neg (show ¬ pc < 28 by omega)]
  unfold am_f74_2
  rw [if_neg (show ¬ pc = 28 by omega), if_neg (show ¬ pc = 29 by omega)]
theorem am_o75 {pc : Nat} (h : 41 ≤ pc) : am_m75.2.2.2.2.2 pc = none := by
  show (if pc < 13 then (am_f75_0 pc) else (if pc < 27 then (am_f75_1 pc) else (am_f75_2 pc))) = none
  rw [if_neg (show ¬ pc < 13 by omega), if_neg (show ¬ pc < 27 by omega)]
  unfold am_f75_2
  rw [if_neg (show ¬ pc = 27 by omega), if_neg (show ¬ pc = 30 by omega), if_neg (show ¬ pc = 31 by omega), if_neg (show ¬ pc = 32 by omega), if_neg (show ¬ pc = 35 by omega), if_neg (show ¬ pc = 36 by omega), if_neg (show ¬ pc = 37 by omega), if_neg (show ¬ pc = 40 by omega)]
theorem am_o76 {pc : Nat} (h : 45 ≤ pc) : am_m76.2.2.2.2.2 pc = none := by
  show (if pc < 16 then (am_f76_0 pc) else (if pc < 34 then (am_f76_1 pc) else (am_f76_2 pc))) = none
  rw [if_neg (show ¬ pc < 16 by omega), if_neg (show ¬ pc < 34 by omega)]
  unfold am_f76_2
  rw [if_neg (show ¬ pc = 34 by omega), if_neg (show ¬ pc = 35 by omega), if_neg (show ¬ pc = 36 by omega), if_neg (show ¬ pc = 39 by omega), if_neg (show ¬ pc = 40 by omega), if_neg (show ¬ pc = 41 by omega), if_neg (show ¬ pc = 44 by omega)]
theorem am_o77 {pc : Nat} (h : 14 ≤ pc) : am_m77.2.2.2.2.2 pc = none := by
  show am_f77_0 pc = none
  unfold am_f77_0
  rw [if_neg (show ¬ pc = 0 by omega), if_neg (show ¬ pc = 1 by omega), if_neg (show ¬ pc = 4 by omega), if_neg (show ¬ pc = 5 by omega), if_neg (show ¬ pc = 8 by omega), if_neg (show ¬ pc = 9 by omega), if_neg (show ¬ pc = 12 by omega), if_neg (show ¬ pc = 13 by omega)]
theorem am_o78 {pc : Nat} (h : 28 ≤ pc) : am_m78.2.2.2.2.2 pc = none := by
  show (if pc < 18 then (am_f78_0 pc) else (am_f78_1 pc)) = none
  rw [if_neg (show ¬ pc < 18 by omega)]
  unfold am_f78_1
  rw [if_neg (show ¬ pc = 18 by omega), if_neg (show ¬ pc = 19 by omega), if_neg (show ¬ pc = 22 by omega), if_neg (show ¬ pc = 23 by omega), if_neg (show ¬ pc = 26 by omega), if_neg (show ¬ pc = 27 by omega)]
theorem am_o79 {pc : Nat} (h : 22 ≤ pc) : am_m79.2.2.2.2.2 pc = none := by
  show (if pc < 12 then (am_f79_0 pc) else (am_f79_1 pc)) = none
  rw [if_neg (show ¬ pc < 12 by omega)]
  unfold am_f79_1
  rw [if_neg (show ¬ pc = 12 by omega), if_neg (show ¬ pc = 13 by omega), if_neg (show ¬ pc = 16 by omega), if_neg (show ¬ pc = 17 by omega), if_neg (show ¬ pc = 20 by omega), if_neg (show ¬ pc = 21 by omega)]
theorem am_o80 {pc : Nat} (h : 32 ≤ pc) : am_m80.2.2.2.2.2 pc = none := by
  show (if pc < 12 then (am_f80_0 pc) else (if pc < 26 then (am_f80_1 pc) else (am_f80_2 pc))) = none
  rw [if_neg (show ¬ pc < 12 by omega), if_neg (show ¬ pc < 26 by omega)]
  unfold am_f80_2
  rw [if_neg (show ¬ pc = 26 by omega), if_neg (show ¬ pc = 27 by omega), if_neg (show ¬ pc = 28 by omega), if_neg (show ¬ pc = 31 by omega)]
theorem am_o81 {pc : Nat} (h : 16 ≤ pc) : am_m81.2.2.2.2.2 pc = none := by
  show (if pc < 12 then (am_f81_0 pc) else (am_f81_1 pc)) = none
  rw [if_neg (show ¬ pc < 12 by omega)]
  unfold am_f81_1
  rw [if_neg (show ¬ pc = 12 by omega), if_neg (show ¬ pc = 15 by omega)]
theorem am_o82 {pc : Nat} (h : 20 ≤ pc) : am_m82.2.2.2.2.2 pc = none := by
  show (if pc < 14 then (am_f82_0 pc) else (am_f82_1 pc)) = none
  rw [if_neg (show ¬ pc < 14 by omega)]
  unfold am_f82_1
  rw [if_neg (show ¬ pc = 14 by omega), if_neg (show ¬ pc = 16 by omega), if_neg (show ¬ pc = 19 by omega)]
theorem am_o83 {pc : Nat} (h : 6 ≤ pc) : am_m83.2.2.2.2.2 pc = none := by
  show am_f83_0 pc = none
  unfold am_f83_0
  rw [if_neg (show ¬ pc = 0 by omega), if_neg (show ¬ pc = 1 by omega), if_neg (show ¬ pc = 2 by omega), if_neg (show ¬ pc = 5 by omega)]
theorem am_o84 {pc : Nat} (h : 22 ≤ pc) : am_m84.2.2.2.2.2 pc = none := by
  show (if pc < 14 then (am_f84_0 pc) else (am_f84_1 pc)) = none
  rw [if_neg (show ¬ pc < 14 by omega)]
  unfold am_f84_1
  rw [if_neg (show ¬ pc = 14 by omega), if_neg (show ¬ pc = 15 by omega), if_neg (show ¬ pc = 18 by omega), if_neg (show ¬ pc = 21 by omega)]
theorem am_o85 {pc : Nat} (h : 23 ≤ pc) : am_m85.2.2.2.2.2 pc = none := by
  show (if pc < 14 then (am_f85_0 pc) else (am_f85_1 pc)) = none
  rw [if_neg (show ¬ pc < 14 by omega)]
  unfold am_f85_1
  rw [if_neg (show ¬ pc = 14 by omega), if_neg (show ¬ pc = 15 by omega), if_neg (show ¬ pc = 18 by omega), if_neg (show ¬ pc = 19 by omega), if_neg (show ¬ pc = 22 by omega)]
theorem am_o86 {pc : Nat} (h : 44 ≤ pc) : am_m86.2.2.2.2.2 pc = none := by
  show (if pc < 29 then (if pc < 15 then (am_f86_0 pc) else (am_f86_1 pc)) else (if pc < 43 then (am_f86_2 pc) else (am_f86_3 pc))) = none
  rw [if_neg (show ¬ pc < 29 by omega), if_neg (show ¬ pc < 43 by omega)]
  unfold am_f86_3
  rw [if_neg (show ¬ pc = 43 by omega)]
theorem am_o87 {pc : Nat} (h : 16 ≤ pc) : am_m87.2.2.2.2.2 pc = none := by
  show (if pc < 12 then (am_f87_0 pc) else (am_f87_1 pc)) = none
  rw [if_neg (show ¬ pc < 12 by omega)]
  unfold am_f87_1
  rw [if_neg (show ¬ pc = 12 by omega), if_neg (show ¬ pc = 15 by omega)]
theorem am_o88 {pc : Nat} (h : 149 ≤ pc) : am_m88.2.2.2.2.2 pc = none := by
  show (if pc < 101 then (if pc < 72 then (if pc < 62 then (am_f88_0 pc) else (am_f88_1 pc)) else (if pc < 84 then (am_f88_2 pc) else (am_f88_3 pc))) else (if pc < 130 then (if pc < 113 then (am_f88_4 pc) else (am_f88_5 pc)) else (if pc < 143 then (am_f88_6 pc) else (am_f88_7 pc)))) = none
  rw [if_neg (show ¬ pc < 101 by omega), if_neg (show ¬ pc < 130 by omega), if_neg (show ¬ pc < 143 by omega)]
  unfold am_f88_7
  rw [if_neg (show ¬ pc = 143 by omega), if_neg (show ¬ pc = 144 by omega), if_neg (show ¬ pc = 145 by omega), if_neg (show ¬ pc = 148 by omega)]
theorem am_o89 {pc : Nat} (h : 7 ≤ pc) : am_m89.2.2.2.2.2 pc = none := by
  show am_f89_0 pc = none
  unfold am_f89_0
  rw [if_neg (show ¬ pc = 0 by omega), if_neg (show ¬ pc = 1 by omega), if_neg (show ¬ pc = 2 by omega), if_neg (show ¬ pc = 5 by omega), if_neg (show ¬ pc = 6 by omega)]
theorem am_o90 {pc : Nat} (h : 7 ≤ pc) : am_m90.2.2.2.2.2 pc = none := by
  show am_f90_0 pc = none
  unfold am_f90_0
  rw [if_neg (show ¬ pc = 0 by omega), if_neg (show ¬ pc = 1 by omega), if_neg (show ¬ pc = 2 by omega), if_neg (show ¬ pc = 5 by omega), if_neg (show ¬ pc = 6 by omega)]
theorem am_o91 {pc : Nat} (h : 40 ≤ pc) : am_m91.2.2.2.2.2 pc = none := by
  show (if pc < 15 then (am_f91_0 pc) else (if pc < 33 then (am_f91_1 pc) else (am_f91_2 pc))) = none
  rw [if_neg (show ¬ pc < 15 by omega), if_neg (show ¬ pc < 33 by omega)]
  unfold am_f91_2
  rw [if_neg (show ¬ pc = 33 by omega), if_neg (show ¬ pc = 34 by omega), if_neg (show ¬ pc = 36 by omega), if_neg (show ¬ pc = 39 by omega)]
theorem am_o92 {pc : Nat} (h : 39 ≤ pc) : am_m92.2.2.2.2.2 pc = none := by
  show (if pc < 14 then (am_f92_0 pc) else (if pc < 32 then (am_f92_1 pc) else (am_f92_2 pc))) = none
  rw [if_neg (show ¬ pc < 14 by omega), if_neg (show ¬ pc < 32 by omega)]
  unfold am_f92_2
  rw [if_neg (show ¬ pc = 32 by omega), if_neg (show ¬ pc = 33 by omega), if_neg (show ¬ pc = 35 by omega), if_neg (show ¬ pc = 38 by omega)]
theorem am_o93 {pc : Nat} (h : 39 ≤ pc) : am_m93.2.2.2.2.2 pc = none := by
  show (if pc < 16 then (am_f93_0 pc) else (if pc < 30 then (am_f93_1 pc) else (am_f93_2 pc))) = none
  rw [if_neg (show ¬ pc < 16 by omega), if_neg (show ¬ pc < 30 by omega)]
  unfold am_f93_2
  rw [if_neg (show ¬ pc = 30 by omega), if_neg (show ¬ pc = 33 by omega), if_neg (show ¬ pc = 34 by omega), if_neg (show ¬ pc = 37 by omega), if_neg (show ¬ pc = 38 by omega)]
theorem am_o94 {pc : Nat} (h : 112 ≤ pc) : am_m94.2.2.2.2.2 pc = none := by
  show (if pc < 47 then (if pc < 15 then (am_f94_0 pc) else (if pc < 30 then (am_f94_1 pc) else (am_f94_2 pc))) else (if pc < 95 then (if pc < 83 then (am_f94_3 pc) else (am_f94_4 pc)) else (if pc < 107 then (am_f94_5 pc) else (am_f94_6 pc)))) = none
  rw [if_neg (show ¬ pc < 47 by omega), if_neg (show ¬ pc < 95 by omega), if_neg (show ¬ pc < 107 by omega)]
  unfold am_f94_6
  rw [if_neg (show ¬ pc = 107 by omega), if_neg (show ¬ pc = 108 by omega), if_neg (show ¬ pc = 111 by omega)]
theorem am_o95 {pc : Nat} (h : 88 ≤ pc) : am_m95.2.2.2.2.2 pc = none := by
  show (if pc < 44 then (if pc < 15 then (am_f95_0 pc) else (if pc < 30 then (am_f95_1 pc) else (am_f95_2 pc))) else (if pc < 68 then (if pc < 58 then (am_f95_3 pc) else (am_f95_4 pc)) else (if pc < 82 then (am_f95_5 pc) else (am_f95_6 pc)))) = none
  rw [if_neg (show ¬ pc < 44 by omega), if_neg (show ¬ pc < 68 by omega), if_neg (show ¬ pc < 82 by omega)]
  unfold am_f95_6
  rw [if_neg (show ¬ pc = 82 by omega), if_neg (show ¬ pc = 83 by omega), if_neg (show ¬ pc = 84 by omega), if_neg (show ¬ pc = 87 by omega)]
theorem am_o96 {pc : Nat} (h : 302 ≤ pc) : am_m96.2.2.2.2.2 pc = none := by
  show (if pc < 149 then (if pc < 69 then (if pc < 34 then (if pc < 16 then (am_f96_0 pc) else (am_f96_1 pc)) else (if pc < 52 then (am_f96_2 pc) else (am_f96_3 pc))) else (if pc < 103 then (if pc < 85 then (am_f96_4 pc) else (am_f96_5 pc)) else (if pc < 120 then (am_f96_6 pc) else (if pc < 135 then (am_f96_7 pc) else (am_f96_8 pc))))) else (if pc < 228 then (if pc < 181 then (if pc < 166 then (am_f96_9 pc) else (am_f96_10 pc)) else (if pc < 197 then (am_f96_11 pc) else (if pc < 212 then (am_f96_12 pc) else (am_f96_13 pc)))) else (if pc < 264 then (if pc < 244 then (am_f96_14 pc) else (am_f96_15 pc)) else (if pc < 278 then (am_f96_16 pc) else (if pc < 290 then (am_f96_17 pc) else (am_f96_18 pc)))))) = none
  rw [if_neg (show ¬ pc < 149 by omega), if_neg (show ¬ pc < 228 by omega), if_neg (show ¬ pc < 264 by omega), if_neg (show ¬ pc < 278 by omega), if_neg (show ¬ pc < 290 by omega)]
  unfold am_f96_18
  rw [if_neg (show ¬ pc = 290 by omega), if_neg (show ¬ pc = 293 by omega), if_neg (show ¬ pc = 296 by omega), if_neg (show ¬ pc = 297 by omega), if_neg (show ¬ pc = 298 by omega), if_neg (show ¬ pc = 301 by omega)]
theorem am_o97 {pc : Nat} (h : 43 ≤ pc) : am_m97.2.2.2.2.2 pc = none := by
  show (if pc < 15 then (am_f97_0 pc) else (if pc < 29 then (am_f97_1 pc) else (am_f97_2 pc))) = none
  rw [if_neg (show ¬ pc < 15 by omega), if_neg (show ¬ pc < 29 by omega)]
  unfold am_f97_2
  rw [if_neg (show ¬ pc = 29 by omega), if_neg (show ¬ pc = 30 by omega), if_neg (show ¬ pc = 33 by omega), if_neg (show ¬ pc = 34 by omega), if_neg (show ¬ pc = 35 by omega), if_neg (show ¬ pc = 38 by omega), if_neg (show ¬ pc = 39 by omega), if_neg (show ¬ pc = 42 by omega)]
theorem am_o98 {pc : Nat} (h : 78 ≤ pc) : am_m98.2.2.2.2.2 pc = none := by
  show (if pc < 45 then (if pc < 14 then (am_f98_0 pc) else (if pc < 28 then (am_f98_1 pc) else (am_f98_2 pc))) else (if pc < 57 then (am_f98_3 pc) else (if pc < 71 then (am_f98_4 pc) else (am_f98_5 pc)))) = none
  rw [if_neg (show ¬ pc < 45 by omega), if_neg (show ¬ pc < 57 by omega), if_neg (show ¬ pc < 71 by omega)]
  unfold am_f98_5
  rw [if_neg (show ¬ pc = 71 by omega), if_neg (show ¬ pc = 72 by omega), if_neg (show ¬ pc = 75 by omega), if_neg (show ¬ pc = 76 by omega), if_neg (show ¬ pc = 77 by omega)]
theorem am_o99 {pc : Nat} (h : 56 ≤ pc) : am_m99.2.2.2.2.2 pc = none := by
  show (if pc < 31 then (if pc < 16 then (am_f99_0 pc) else (am_f99_1 pc)) else (if pc < 45 then (am_f99_2 pc) else (am_f99_3 pc))) = none
  rw [if_neg (show ¬ pc < 31 by omega), if_neg (show ¬ pc < 45 by omega)]
  unfold am_f99_3
  rw [if_neg (show ¬ pc = 45 by omega), if_neg (show ¬ pc = 46 by omega), if_neg (show ¬ pc = 49 by omega), if_neg (show ¬ pc = 50 by omega), if_neg (show ¬ pc = 53 by omega), if_neg (show ¬ pc = 54 by omega), if_neg (show ¬ pc = 55 by omega)]
theorem am_o100 {pc : Nat} (h : 51 ≤ pc) : am_m100.2.2.2.2.2 pc = none := by
  show (if pc < 30 then (if pc < 17 then (am_f100_0 pc) else (am_f100_1 pc)) else (if pc < 44 then (am_f100_2 pc) else (am_f100_3 pc))) = none
  rw [if_neg (show ¬ pc < 30 by omega), if_neg (show ¬ pc < 44 by omega)]
  unfold am_f100_3
  rw [if_neg (show ¬ pc = 44 by omega), if_neg (show ¬ pc = 45 by omega), if_neg (show ¬ pc = 46 by omega), if_neg (show ¬ pc = 49 by omega), if_neg (show ¬ pc = 50 by omega)]
theorem am_o101 {pc : Nat} (h : 103 ≤ pc) : am_m101.2.2.2.2.2 pc = none := by
  show (if pc < 46 then (if pc < 14 then (am_f101_0 pc) else (if pc < 31 then (am_f101_1 pc) else (am_f101_2 pc))) else (if pc < 76 then (if pc < 59 then (am_f101_3 pc) else (am_f101_4 pc)) else (if pc < 88 then (am_f101_5 pc) else (am_f101_6 pc)))) = none
  rw [if_neg (show ¬ pc < 46 by omega), if_neg (show ¬ pc < 76 by omega), if_neg (show ¬ pc < 88 by omega)]
  unfold am_f101_6
  rw [if_neg (show ¬ pc = 88 by omega), if_neg (show ¬ pc = 89 by omega), if_neg (show ¬ pc = 92 by omega), if_neg (show ¬ pc = 93 by omega), if_neg (show ¬ pc = 96 by omega), if_neg (show ¬ pc = 98 by omega), if_neg (show ¬ pc = 99 by omega), if_neg (show ¬ pc = 102 by omega)]
theorem am_o102 {pc : Nat} (h : 125 ≤ pc) : am_m102.2.2.2.2.2 pc = none := by
  show (if pc < 62 then (if pc < 31 then (if pc < 16 then (am_f102_0 pc) else (am_f102_1 pc)) else (if pc < 47 then (am_f102_2 pc) else (am_f102_3 pc))) else (if pc < 94 then (if pc < 79 then (am_f102_4 pc) else (am_f102_5 pc)) else (if pc < 108 then (am_f102_6 pc) else (if pc < 124 then (am_f102_7 pc) else (am_f102_8 pc))))) = none
  rw [if_neg (show ¬ pc < 62 by omega), if_neg (show ¬ pc < 94 by omega), if_neg (show ¬ pc < 108 by omega), if_neg (show ¬ pc < 124 by omega)]
  unfold am_f102_8
  rw [if_neg (show ¬ pc = 124 by omega)]
theorem am_o103 {pc : Nat} (h : 54 ≤ pc) : am_m103.2.2.2.2.2 pc = none := by
  show (if pc < 33 then (if pc < 15 then (am_f103_0 pc) else (am_f103_1 pc)) else (if pc < 46 then (am_f103_2 pc) else (am_f103_3 pc))) = none
  rw [if_neg (show ¬ pc < 33 by omega), if_neg (show ¬ pc < 46 by omega)]
  unfold am_f103_3
  rw [if_neg (show ¬ pc = 46 by omega), if_neg (show ¬ pc = 49 by omega), if_neg (show ¬ pc = 52 by omega), if_neg (show ¬ pc = 53 by omega)]
theorem am_o104 {pc : Nat} (h : 122 ≤ pc) : am_m104.2.2.2.2.2 pc = none := by
  show (if pc < 61 then (if pc < 30 then (if pc < 13 then (am_f104_0 pc) else (am_f104_1 pc)) else (if pc < 47 then (am_f104_2 pc) else (am_f104_3 pc))) else (if pc < 89 then (if pc < 77 then (am_f104_4 pc) else (am_f104_5 pc)) else (if pc < 105 then (am_f104_6 pc) else (if pc < 117 then (am_f104_7 pc) else (am_f104_8 pc))))) = none
  rw [if_neg (show ¬ pc < 61 by omega), if_neg (show ¬ pc < 89 by omega), if_neg (show ¬ pc < 105 by omega), if_neg (show ¬ pc < 117 by omega)]
  unfold am_f104_8
  rw [if_neg (show ¬ pc = 117 by omega), if_neg (show ¬ pc = 120 by omega), if_neg (show ¬ pc = 121 by omega)]
theorem am_o105 {pc : Nat} (h : 118 ≤ pc) : am_m105.2.2.2.2.2 pc = none := by
  show (if pc < 83 then (if pc < 15 then (am_f105_0 pc) else (if pc < 69 then (am_f105_1 pc) else (am_f105_2 pc))) else (if pc < 97 then (am_f105_3 pc) else (if pc < 113 then (am_f105_4 pc) else (am_f105_5 pc)))) = none
  rw [if_neg (show ¬ pc < 83 by omega), if_neg (show ¬ pc < 97 by omega), if_neg (show ¬ pc < 113 by omega)]
  unfold am_f105_5
  rw [if_neg (show ¬ pc = 113 by omega), if_neg (show ¬ pc = 114 by omega), if_neg (show ¬ pc = 115 by omega), if_neg (show ¬ pc = 117 by omega)]
theorem am_o106 {pc : Nat} (h : 58 ≤ pc) : am_m106.2.2.2.2.2 pc = none := by
  show (if pc < 31 then (if pc < 15 then (am_f106_0 pc) else (am_f106_1 pc)) else (if pc < 45 then (am_f106_2 pc) else (am_f106_3 pc))) = none
  rw [if_neg (show ¬ pc < 31 by omega), if_neg (show ¬ pc < 45 by omega)]
  unfold am_f106_3
  rw [if_neg (show ¬ pc = 45 by omega), if_neg (show ¬ pc = 46 by omega), if_neg (show ¬ pc = 49 by omega), if_neg (show ¬ pc = 50 by omega), if_neg (show ¬ pc = 51 by omega), if_neg (show ¬ pc = 54 by omega), if_neg (show ¬ pc = 55 by omega), if_neg (show ¬ pc = 57 by omega)]
theorem am_o107 {pc : Nat} (h : 124 ≤ pc) : am_m107.2.2.2.2.2 pc = none := by
  show (if pc < 77 then (if pc < 15 then (am_f107_0 pc) else (if pc < 65 then (am_f107_1 pc) else (am_f107_2 pc))) else (if pc < 107 then (if pc < 91 then (am_f107_3 pc) else (am_f107_4 pc)) else (if pc < 121 then (am_f107_5 pc) else (am_f107_6 pc)))) = none
  rw [if_neg (show ¬ pc < 77 by omega), if_neg (show ¬ pc < 107 by omega), if_neg (show ¬ pc < 121 by omega)]
  unfold am_f107_6
  rw [if_neg (show ¬ pc = 121 by omega), if_neg (show ¬ pc = 123 by omega)]
theorem am_o108 {pc : Nat} (h : 111 ≤ pc) : am_m108.2.2.2.2.2 pc = none := by
  show (if pc < 79 then (if pc < 15 then (am_f108_0 pc) else (if pc < 65 then (am_f108_1 pc) else (am_f108_2 pc))) else (if pc < 93 then (am_f108_3 pc) else (if pc < 107 then (am_f108_4 pc) else (am_f108_5 pc)))) = none
  rw [if_neg (show ¬ pc < 79 by omega), if_neg (show ¬ pc < 93 by omega), if_neg (show ¬ pc < 107 by omega)]
  unfold am_f108_5
  rw [if_neg (show ¬ pc = 107 by omega), if_neg (show ¬ pc = 108 by omega), if_neg (show ¬ pc = 110 by omega)]
theorem am_o109 {pc : Nat} (h : 70 ≤ pc) : am_m109.2.2.2.2.2 pc = none := by
  show (if pc < 31 then (if pc < 14 then (am_f109_0 pc) else (am_f109_1 pc)) else (if pc < 45 then (am_f109_2 pc) else (if pc < 59 then (am_f109_3 pc) else (am_f109_4 pc)))) = none
  rw [if_neg (show ¬ pc < 31 by omega), if_neg (show ¬ pc < 45 by omega), if_neg (show ¬ pc < 59 by omega)]
  unfold am_f109_4
  rw [if_neg (show ¬ pc = 59 by omega), if_neg (show ¬ pc = 62 by omega), if_neg (show ¬ pc = 63 by omega), if_neg (show ¬ pc = 66 by omega), if_neg (show ¬ pc = 69 by omega)]
theorem am_o110 {pc : Nat} (h : 105 ≤ pc) : am_m110.2.2.2.2.2 pc = none := by
  show (if pc < 52 then (if pc < 16 then (am_f110_0 pc) else (if pc < 32 then (am_f110_1 pc) else (am_f110_2 pc))) else (if pc < 82 then (if pc < 66 then (am_f110_3 pc) else (am_f110_4 pc)) else (if pc < 99 then (am_f110_5 pc) else (am_f110_6 pc)))) = none
  rw [if_neg (show ¬ pc < 52 by omega), if_neg (show ¬ pc < 82 by omega), if_neg (show ¬ pc < 99 by omega)]
  unfold am_f110_6
  rw [if_neg (show ¬ pc = 99 by omega), if_neg (show ¬ pc = 100 by omega), if_neg (show ¬ pc = 103 by omega), if_neg (show ¬ pc = 104 by omega)]
theorem am_o111 {pc : Nat} (h : 41 ≤ pc) : am_m111.2.2.2.2.2 pc = none := by
  show (if pc < 38 then (am_f111_0 pc) else (am_f111_1 pc)) = none
  rw [if_neg (show ¬ pc < 38 by omega)]
  unfold am_f111_1
  rw [if_neg (show ¬ pc = 38 by omega), if_neg (show ¬ pc = 40 by omega)]
theorem am_o112 {pc : Nat} (h : 79 ≤ pc) : am_m112.2.2.2.2.2 pc = none := by
  show (if pc < 29 then (if pc < 16 then (am_f112_0 pc) else (am_f112_1 pc)) else (if pc < 48 then (am_f112_2 pc) else (if pc < 65 then (am_f112_3 pc) else (am_f112_4 pc)))) = none
  rw [if_neg (show ¬ pc < 29 by omega), if_neg (show ¬ pc < 48 by omega), if_neg (show ¬ pc < 65 by omega)]
  unfold am_f112_4
  rw [if_neg (show ¬ pc = 65 by omega), if_neg (show ¬ pc = 66 by omega), if_neg (show ¬ pc = 67 by omega), if_neg (show ¬ pc = 70 by omega), if_neg (show ¬ pc = 72 by omega), if_neg (show ¬ pc = 75 by omega), if_neg (show ¬ pc = 78 by omega)]
theorem am_o113 {pc : Nat} (h : 101 ≤ pc) : am_m113.2.2.2.2.2 pc = none := by
  show (if pc < 47 then (if pc < 16 then (am_f113_0 pc) else (if pc < 31 then (am_f113_1 pc) else (am_f113_2 pc))) else (if pc < 76 then (if pc < 62 then (am_f113_3 pc) else (am_f113_4 pc)) else (if pc < 89 then (am_f113_5 pc) else (am_f113_6 pc)))) = none
  rw [if_neg (show ¬ pc < 47 by omega), if_neg (show ¬ pc < 76 by omega), if_neg (show ¬ pc < 89 by omega)]
  unfold am_f113_6
  rw [if_neg (show ¬ pc = 89 by omega), if_neg (show ¬ pc = 90 by omega), if_neg (show ¬ pc = 93 by omega), if_neg (show ¬ pc = 94 by omega), if_neg (show ¬ pc = 96 by omega), if_neg (show ¬ pc = 99 by omega), if_neg (show ¬ pc = 100 by omega)]
theorem am_o114 {pc : Nat} (h : 65 ≤ pc) : am_m114.2.2.2.2.2 pc = none := by
  show (if pc < 30 then (if pc < 15 then (am_f114_0 pc) else (am_f114_1 pc)) else (if pc < 42 then (am_f114_2 pc) else (if pc < 55 then (am_f114_3 pc) else (am_f114_4 pc)))) = none
  rw [if_neg (show ¬ pc < 30 by omega), if_neg (show ¬ pc < 42 by omega), if_neg (show ¬ pc < 55 by omega)]
  unfold am_f114_4
  rw [if_neg (show ¬ pc = 55 by omega), if_neg (show ¬ pc = 56 by omega), if_neg (show ¬ pc = 57 by omega), if_neg (show ¬ pc = 60 by omega), if_neg (show ¬ pc = 63 by omega), if_neg (show ¬ pc = 64 by omega)]
theorem am_o115 {pc : Nat} (h : 121 ≤ pc) : am_m115.2.2.2.2.2 pc = none := by
  show (if pc < 81 then (if pc < 15 then (am_f115_0 pc) else (if pc < 67 then (am_f115_1 pc) else (am_f115_2 pc))) else (if pc < 95 then (am_f115_3 pc) else (if pc < 111 then (am_f115_4 pc) else (am_f115_5 pc)))) = none
  rw [if_neg (show ¬ pc < 81 by omega), if_neg (show ¬ pc < 95 by omega), if_neg (show ¬ pc < 111 by omega)]
  unfold am_f115_5
  rw [if_neg (show ¬ pc = 111 by omega), if_neg (show ¬ pc = 112 by omega), if_neg (show ¬ pc = 113 by omega), if_neg (show ¬ pc = 116 by omega), if_neg (show ¬ pc = 117 by omega), if_neg (show ¬ pc = 118 by omega), if_neg (show ¬ pc = 120 by omega)]
theorem am_o116 {pc : Nat} (h : 18 ≤ pc) : am_m116.2.2.2.2.2 pc = none := by
  show (if pc < 17 then (am_f116_0 pc) else (am_f116_1 pc)) = none
  rw [if_neg (show ¬ pc < 17 by omega)]
  unfold am_f116_1
  rw [if_neg (show ¬ pc = 17 by omega)]
theorem am_o117 {pc : Nat} (h : 51 ≤ pc) : am_m117.2.2.2.2.2 pc = none := by
  show (if pc < 28 then (if pc < 13 then (am_f117_0 pc) else (am_f117_1 pc)) else (if pc < 42 then (am_f117_2 pc) else (am_f117_3 pc))) = none
  rw [if_neg (show ¬ pc < 28 by omega), if_neg (show ¬ pc < 42 by omega)]
  unfold am_f117_3
  rw [if_neg (show ¬ pc = 42 by omega), if_neg (show ¬ pc = 43 by omega), if_neg (show ¬ pc = 46 by omega), if_neg (show ¬ pc = 49 by omega), if_neg (show ¬ pc = 50 by omega)]
theorem am_o118 {pc : Nat} (h : 69 ≤ pc) : am_m118.2.2.2.2.2 pc = none := by
  show (if pc < 30 then (if pc < 16 then (am_f118_0 pc) else (am_f118_1 pc)) else (if pc < 44 then (am_f118_2 pc) else (if pc < 60 then (am_f118_3 pc) else (am_f118_4 pc)))) = none
  rw [if_neg (show ¬ pc < 30 by omega), if_neg (show ¬ pc < 44 by omega), if_neg (show ¬ pc < 60 by omega)]
  unfold am_f118_4
  rw [if_neg (show ¬ pc = 60 by omega), if_neg (show ¬ pc = 61 by omega), if_neg (show ¬ pc = 64 by omega), if_neg (show ¬ pc = 65 by omega), if_neg (show ¬ pc = 68 by omega)]
theorem am_o119 {pc : Nat} (h : 19 ≤ pc) : am_m119.2.2.2.2.2 pc = none := by
  show (if pc < 13 then (am_f119_0 pc) else (am_f119_1 pc)) = none
  rw [if_neg (show ¬ pc < 13 by omega)]
  unfold am_f119_1
  rw [if_neg (show ¬ pc = 13 by omega), if_neg (show ¬ pc = 14 by omega), if_neg (show ¬ pc = 15 by omega), if_neg (show ¬ pc = 18 by omega)]
theorem am_o120 {pc : Nat} (h : 60 ≤ pc) : am_m120.2.2.2.2.2 pc = none := by
  show (if pc < 31 then (if pc < 13 then (am_f120_0 pc) else (am_f120_1 pc)) else (if pc < 44 then (am_f120_2 pc) else (if pc < 56 then (am_f120_3 pc) else (am_f120_4 pc)))) = none
  rw [if_neg (show ¬ pc < 31 by omega), if_neg (show ¬ pc < 44 by omega), if_neg (show ¬ pc < 56 by omega)]
  unfold am_f120_4
  rw [if_neg (show ¬ pc = 56 by omega), if_neg (show ¬ pc = 59 by omega)]
theorem am_o121 {pc : Nat} (h : 129 ≤ pc) : am_m121.2.2.2.2.2 pc = none := by
  show (if pc < 66 then (if pc < 26 then (if pc < 13 then (am_f121_0 pc) else (am_f121_1 pc)) else (if pc < 40 then (am_f121_2 pc) else (if pc < 52 then (am_f121_3 pc) else (am_f121_4 pc)))) else (if pc < 97 then (if pc < 83 then (am_f121_5 pc) else (am_f121_6 pc)) else (if pc < 109 then (am_f121_7 pc) else (if pc < 121 then (am_f121_8 pc) else (am_f121_9 pc))))) = none
  rw [if_neg (show ¬ pc < 66 by omega), if_neg (show ¬ pc < 97 by omega), if_neg (show ¬ pc < 109 by omega), if_neg (show ¬ pc < 121 by omega)]
  unfold am_f121_9
  rw [if_neg (show ¬ pc = 121 by omega), if_neg (show ¬ pc = 124 by omega), if_neg (show ¬ pc = 125 by omega), if_neg (show ¬ pc = 128 by omega)]
theorem am_o122 {pc : Nat} (h : 38 ≤ pc) : am_m122.2.2.2.2.2 pc = none := by
  show (if pc < 15 then (am_f122_0 pc) else (if pc < 30 then (am_f122_1 pc) else (am_f122_2 pc))) = none
  rw [if_neg (show ¬ pc < 15 by omega), if_neg (show ¬ pc < 30 by omega)]
  unfold am_f122_2
  rw [if_neg (show ¬ pc = 30 by omega), if_neg (show ¬ pc = 31 by omega), if_neg (show ¬ pc = 32 by omega), if_neg (show ¬ pc = 33 by omega), if_neg (show ¬ pc = 36 by omega), if_neg (show ¬ pc = 37 by omega)]
theorem am_o123 {pc : Nat} (h : 88 ≤ pc) : am_m123.2.2.2.2.2 pc = none := by
  show (if pc < 45 then (if pc < 16 then (am_f123_0 pc) else (if pc < 30 then (am_f123_1 pc) else (am_f123_2 pc))) else (if pc < 68 then (if pc < 57 then (am_f123_3 pc) else (am_f123_4 pc)) else (if pc < 83 then (am_f123_5 pc) else (am_f123_6 pc)))) = none
  rw [if_neg (show ¬ pc < 45 by omega), if_neg (show ¬ pc < 68 by omega), if_neg (show ¬ pc < 83 by omega)]
  unfold am_f123_6
  rw [if_neg (show ¬ pc = 83 by omega), if_neg (show ¬ pc = 86 by omega), if_neg (show ¬ pc = 87 by omega)]
theorem am_o124 {pc : Nat} (h : 5 ≤ pc) : am_m124.2.2.2.2.2 pc = none := by
  show am_f124_0 pc = none
  unfold am_f124_0
  rw [if_neg (show ¬ pc = 0 by omega), if_neg (show ¬ pc = 1 by omega), if_neg (show ¬ pc = 4 by omega)]
theorem am_o125 {pc : Nat} (h : 26 ≤ pc) : am_m125.2.2.2.2.2 pc = none := by
  show (if pc < 15 then (am_f125_0 pc) else (am_f125_1 pc)) = none
  rw [if_neg (show ¬ pc < 15 by omega)]
  unfold am_f125_1
  rw [if_neg (show ¬ pc = 15 by omega), if_neg (show ¬ pc = 16 by omega), if_neg (show ¬ pc = 17 by omega), if_neg (show ¬ pc = 20 by omega), if_neg (show ¬ pc = 23 by omega), if_neg (show ¬ pc = 24 by omega), if_neg (show ¬ pc = 25 by omega)]
theorem am_o126 {pc : Nat} (h : 81 ≤ pc) : am_m126.2.2.2.2.2 pc = none := by
  show (if pc < 43 then (if pc < 16 then (am_f126_0 pc) else (if pc < 29 then (am_f126_1 pc) else (am_f126_2 pc))) else (if pc < 57 then (am_f126_3 pc) else (if pc < 73 then (am_f126_4 pc) else (am_f126_5 pc)))) = none
  rw [if_neg (show ¬ pc < 43 by omega), if_neg (show ¬ pc < 57 by omega), if_neg (show ¬ pc < 73 by omega)]
  unfold am_f126_5
  rw [if_neg (show ¬ pc = 73 by omega), if_neg (show ¬ pc = 76 by omega), if_neg (show ¬ pc = 79 by omega), if_neg (show ¬ pc = 80 by omega)]
theorem am_o127 {pc : Nat} (h : 131 ≤ pc) : am_m127.2.2.2.2.2 pc = none := by
  show (if pc < 59 then (if pc < 30 then (if pc < 14 then (am_f127_0 pc) else (am_f127_1 pc)) else (if pc < 47 then (am_f127_2 pc) else (am_f127_3 pc))) else (if pc < 91 then (if pc < 73 then (am_f127_4 pc) else (am_f127_5 pc)) else (if pc < 106 then (am_f127_6 pc) else (if pc < 120 then (am_f127_7 pc) else (am_f127_8 pc))))) = none
  rw [if_neg (show ¬ pc < 59 by omega), if_neg (show ¬ pc < 91 by omega), if_neg (show ¬ pc < 106 by omega), if_neg (show ¬ pc < 120 by omega)]
  unfold am_f127_8
  rw [if_neg (show ¬ pc = 120 by omega), if_neg (show ¬ pc = 123 by omega), if_neg (show ¬ pc = 126 by omega), if_neg (show ¬ pc = 129 by omega), if_neg (show ¬ pc = 130 by omega)]
theorem am_o128 {pc : Nat} (h : 36 ≤ pc) : am_m128.2.2.2.2.2 pc = none := by
  show (if pc < 16 then (am_f128_0 pc) else (if pc < 31 then (am_f128_1 pc) else (am_f128_2 pc))) = none
  rw [if_neg (show ¬ pc < 16 by omega), if_neg (show ¬ pc < 31 by omega)]
  unfold am_f128_2
  rw [if_neg (show ¬ pc = 31 by omega), if_neg (show ¬ pc = 32 by omega), if_neg (show ¬ pc = 35 by omega)]
theorem am_o129 {pc : Nat} (h : 45 ≤ pc) : am_m129.2.2.2.2.2 pc = none := by
  show (if pc < 30 then (if pc < 18 then (am_f129_0 pc) else (am_f129_1 pc)) else (if pc < 44 then (am_f129_2 pc) else (am_f129_3 pc))) = none
  rw [if_neg (show ¬ pc < 30 by omega), if_neg (show ¬ pc < 44 by omega)]
  unfold am_f129_3
  rw [if_neg (show ¬ pc = 44 by omega)]
theorem am_o130 {pc : Nat} (h : 43 ≤ pc) : am_m130.2.2.2.2.2 pc = none := by
  show (if pc < 18 then (am_f130_0 pc) else (if pc < 31 then (am_f130_1 pc) else (am_f130_2 pc))) = none
  rw [if_neg (show ¬ pc < 18 by omega), if_neg (show ¬ pc < 31 by omega)]
  unfold am_f130_2
  rw [if_neg (show ¬ pc = 31 by omega), if_neg (show ¬ pc = 32 by omega), if_neg (show ¬ pc = 35 by omega), if_neg (show ¬ pc = 38 by omega), if_neg (show ¬ pc = 39 by omega), if_neg (show ¬ pc = 40 by omega), if_neg (show ¬ pc = 41 by omega), if_neg (show ¬ pc = 42 by omega)]
theorem am_o131 {pc : Nat} (h : 31 ≤ pc) : am_m131.2.2.2.2.2 pc = none := by
  show (if pc < 14 then (am_f131_0 pc) else (if pc < 30 then (am_f131_1 pc) else (am_f131_2 pc))) = none
  rw [if_neg (show ¬ pc < 14 by omega), if_neg (show ¬ pc < 30 by omega)]
  unfold am_f131_2
  rw [if_neg (show ¬ pc = 30 by omega)]
theorem am_o132 {pc : Nat} (h : 8 ≤ pc) : am_m132.2.2.2.2.2 pc = none := by
  show am_f132_0 pc = none
  unfold am_f132_0
  rw [if_neg (show ¬ pc = 0 by omega), if_neg (show ¬ pc = 1 by omega), if_neg (show ¬ pc = 4 by omega), if_neg (show ¬ pc = 7 by omega)]
theorem am_o133 {pc : Nat} (h : 33 ≤ pc) : am_m133.2.2.2.2.2 pc = none := by
  show (if pc < 18 then (am_f133_0 pc) else (if pc < 32 then (am_f133_1 pc) else (am_f133_2 pc))) = none
  rw [if_neg (show ¬ pc < 18 by omega), if_neg (show ¬ pc < 32 by omega)]
  unfold am_f133_2
  rw [if_neg (show ¬ pc = 32 by omega)]
theorem am_o134 {pc : Nat} (h : 149 ≤ pc) : am_m134.2.2.2.2.2 pc = none := by
  show (if pc < 104 then (if pc < 74 then (am_f134_0 pc) else (if pc < 88 then (am_f134_1 pc) else (am_f134_2 pc))) else (if pc < 120 then (am_f134_3 pc) else (if pc < 134 then (am_f134_4 pc) else (am_f134_5 pc)))) = none
  rw [if_neg (show ¬ pc < 104 by omega), if_neg (show ¬ pc < 120 by omega), if_neg (show ¬ pc < 134 by omega)]
  unfold am_f134_5
  rw [if_neg (show ¬ pc = 134 by omega), if_neg (show ¬ pc = 137 by omega), if_neg (show ¬ pc = 138 by omega), if_neg (show ¬ pc = 139 by omega), if_neg (show ¬ pc = 142 by omega), if_neg (show ¬ pc = 145 by omega), if_neg (show ¬ pc = 146 by omega), if_neg (show ¬ pc = 148 by omega)]
theorem am_o135 {pc : Nat} (h : 160 ≤ pc) : am_m135.2.2.2.2.2 pc = none := by
  show (if pc < 90 then (if pc < 30 then (if pc < 16 then (am_f135_0 pc) else (am_f135_1 pc)) else (if pc < 43 then (am_f135_2 pc) else (am_f135_3 pc))) else (if pc < 121 then (if pc < 105 then (am_f135_4 pc) else (am_f135_5 pc)) else (if pc < 136 then (am_f135_6 pc) else (if pc < 151 then (am_f135_7 pc) else (am_f135_8 pc))))) = none
  rw [if_neg (show ¬ pc < 90 by omega), if_neg (show ¬ pc < 121 by omega), if_neg (show ¬ pc < 136 by omega), if_neg (show ¬ pc < 151 by omega)]
  unfold am_f135_8
  rw [if_neg (show ¬ pc = 151 by omega), if_neg (show ¬ pc = 152 by omega), if_neg (show ¬ pc = 153 by omega), if_neg (show ¬ pc = 154 by omega), if_neg (show ¬ pc = 155 by omega), if_neg (show ¬ pc = 158 by omega), if_neg (show ¬ pc = 159 by omega)]
theorem am_o136 {pc : Nat} (h : 55 ≤ pc) : am_m136.2.2.2.2.2 pc = none := by
  show (if pc < 30 then (if pc < 16 then (am_f136_0 pc) else (am_f136_1 pc)) else (if pc < 41 then (am_f136_2 pc) else (am_f136_3 pc))) = none
  rw [if_neg (show ¬ pc < 30 by omega), if_neg (show ¬ pc < 41 by omega)]
  unfold am_f136_3
  rw [if_neg (show ¬ pc = 41 by omega), if_neg (show ¬ pc = 44 by omega), if_neg (show ¬ pc = 45 by omega), if_neg (show ¬ pc = 46 by omega), if_neg (show ¬ pc = 49 by omega), if_neg (show ¬ pc = 52 by omega), if_neg (show ¬ pc = 54 by omega)]
theorem am_o137 {pc : Nat} (h : 5 ≤ pc) : am_m137.2.2.2.2.2 pc = none := by
  show am_f137_0 pc = none
  unfold am_f137_0
  rw [if_neg (show ¬ pc = 0 by omega), if_neg (show ¬ pc = 1 by omega), if_neg (show ¬ pc = 4 by omega)]
theorem am_o138 {pc : Nat} (h : 18 ≤ pc) : am_m138.2.2.2.2.2 pc = none := by
  show (if pc < 16 then (am_f138_0 pc) else (am_f138_1 pc)) = none
  rw [if_neg (show ¬ pc < 16 by omega)]
  unfold am_f138_1
  rw [if_neg (show ¬ pc = 16 by omega), if_neg (show ¬ pc = 17 by omega)]
theorem am_o139 {pc : Nat} (h : 18 ≤ pc) : am_m139.2.2.2.2.2 pc = none := by
  show (if pc < 16 then (am_f139_0 pc) else (am_f139_1 pc)) = none
  rw [if_neg (show ¬ pc < 16 by omega)]
  unfold am_f139_1
  rw [if_neg (show ¬ pc = 16 by omega), if_neg (show ¬ pc = 17 by omega)]
theorem am_o140 {pc : Nat} (h : 18 ≤ pc) : am_m140.2.2.2.2.2 pc = none := by
  show (if pc < 16 then (am_f140_0 pc) else (am_f140_1 pc)) = none
  rw [if_neg (show ¬ pc < 16 by omega)]
  unfold am_f140_1
  rw [if_neg (show ¬ pc = 16 by omega), if_neg (show ¬ pc = 17 by omega)]
theorem am_o141 {pc : Nat} (h : 16 ≤ pc) : am_m141.2.2.2.2.2 pc = none := by
  show (if pc < 15 then (am_f141_0 pc) else (am_f141_1 pc)) = none
  rw [if_neg (show ¬ pc < 15 by omega)]
  unfold am_f141_1
  rw [if_neg (show ¬ pc = 15 by omega)]
theorem am_o142 {pc : Nat} (h : 17 ≤ pc) : am_m142.2.2.2.2.2 pc = none := by
  show (if pc < 15 then (am_f142_0 pc) else (am_f142_1 pc)) = none
  rw [if_neg (show ¬ pc < 15 by omega)]
  unfold am_f142_1
  rw [if_neg (show ¬ pc = 15 by omega), if_neg (show ¬ pc = 16 by omega)]
theorem am_o143 {pc : Nat} (h : 17 ≤ pc) : am_m143.2.2.2.2.2 pc = none := by
  show (if pc < 16 then (am_f143_0 pc) else (am_f143_1 pc)) = none
  rw [if_neg (show ¬ pc < 16 by omega)]
  unfold am_f143_1
  rw [if_neg (show ¬ pc = 16 by omega)]
theorem am_o144 {pc : Nat} (h : 16 ≤ pc) : am_m144.2.2.2.2.2 pc = none := by
  show (if pc < 15 then (am_f144_0 pc) else (am_f144_1 pc)) = none
  rw [if_neg (show ¬ pc < 15 by omega)]
  unfold am_f144_1
  rw [if_neg (show ¬ pc = 15 by omega)]
theorem am_o145 {pc : Nat} (h : 34 ≤ pc) : am_m145.2.2.2.2.2 pc = none := by
  show (if pc < 16 then (am_f145_0 pc) else (if pc < 32 then (am_f145_1 pc) else (am_f145_2 pc))) = none
  rw [if_neg (show ¬ pc < 16 by omega), if_neg (show ¬ pc < 32 by omega)]
  unfold am_f145_2
  rw [if_neg (show ¬ pc = 32 by omega), if_neg (show ¬ pc = 33 by omega)]
theorem am_o146 {pc : Nat} (h : 14 ≤ pc) : am_m146.2.2.2.2.2 pc = none := by
  show am_f146_0 pc = none
  unfold am_f146_0
  rw [if_neg (show ¬ pc = 0 by omega), if_neg (show ¬ pc = 1 by omega), if_neg (show ¬ pc = 4 by omega), if_neg (show ¬ pc = 5 by omega), if_neg (show ¬ pc = 6 by omega), if_neg (show ¬ pc = 7 by omega), if_neg (show ¬ pc = 10 by omega), if_neg (show ¬ pc = 13 by omega)]
theorem am_o147 {pc : Nat} (h : 22 ≤ pc) : am_m147.2.2.2.2.2 pc = none := by
  show (if pc < 16 then (am_f147_0 pc) else (am_f147_1 pc)) = none
  rw [if_neg (show ¬ pc < 16 by omega)]
  unfold am_f147_1
  rw [if_neg (show ¬ pc = 16 by omega), if_neg (show ¬ pc = 17 by omega), if_neg (show ¬ pc = 20 by omega), if_neg (show ¬ pc = 21 by omega)]
theorem am_o148 {pc : Nat} (h : 34 ≤ pc) : am_m148.2.2.2.2.2 pc = none := by
  show (if pc < 12 then (am_f148_0 pc) else (if pc < 24 then (am_f148_1 pc) else (am_f148_2 pc))) = none
  rw [if_neg (show ¬ pc < 12 by omega), if_neg (show ¬ pc < 24 by omega)]
  unfold am_f148_2
  rw [if_neg (show ¬ pc = 24 by omega), if_neg (show ¬ pc = 25 by omega), if_neg (show ¬ pc = 26 by omega), if_neg (show ¬ pc = 29 by omega), if_neg (show ¬ pc = 32 by omega), if_neg (show ¬ pc = 33 by omega)]
theorem am_o149 {pc : Nat} (h : 35 ≤ pc) : am_m149.2.2.2.2.2 pc = none := by
  show (if pc < 14 then (am_f149_0 pc) else (if pc < 30 then (am_f149_1 pc) else (am_f149_2 pc))) = none
  rw [if_neg (show ¬ pc < 14 by omega), if_neg (show ¬ pc < 30 by omega)]
  unfold am_f149_2
  rw [if_neg (show ¬ pc = 30 by omega), if_neg (show ¬ pc = 31 by omega), if_neg (show ¬ pc = 34 by omega)]
theorem am_o150 {pc : Nat} (h : 56 ≤ pc) : am_m150.2.2.2.2.2 pc = none := by
  show (if pc < 27 then (if pc < 14 then (am_f150_0 pc) else (am_f150_1 pc)) else (if pc < 43 then (am_f150_2 pc) else (am_f150_3 pc))) = none
  rw [if_neg (show ¬ pc < 27 by omega), if_neg (show ¬ pc < 43 by omega)]
  unfold am_f150_3
  rw [if_neg (show ¬ pc = 43 by omega), if_neg (show ¬ pc = 44 by omega), if_neg (show ¬ pc = 47 by omega), if_neg (show ¬ pc = 50 by omega), if_neg (show ¬ pc = 51 by omega), if_neg (show ¬ pc = 54 by omega), if_neg (show ¬ pc = 55 by omega)]
theorem am_o151 {pc : Nat} (h : 31 ≤ pc) : am_m151.2.2.2.2.2 pc = none := by
  show (if pc < 12 then (am_f151_0 pc) else (if pc < 30 then (am_f151_1 pc) else (am_f151_2 pc))) = none
  rw [if_neg (show ¬ pc < 12 by omega), if_neg (show ¬ pc < 30 by omega)]
  unfold am_f151_2
  rw [if_neg (show ¬ pc = 30 by omega)]
theorem am_o152 {pc : Nat} (h : 35 ≤ pc) : am_m152.2.2.2.2.2 pc = none := by
  show (if pc < 12 then (am_f152_0 pc) else (if pc < 30 then (am_f152_1 pc) else (am_f152_2 pc))) = none
  rw [if_neg (show ¬ pc < 12 by omega), if_neg (show ¬ pc < 30 by omega)]
  unfold am_f152_2
  rw [if_neg (show ¬ pc = 30 by omega), if_neg (show ¬ pc = 33 by omega), if_neg (show ¬ pc = 34 by omega)]
theorem am_o153 {pc : Nat} (h : 38 ≤ pc) : am_m153.2.2.2.2.2 pc = none := by
  show (if pc < 12 then (am_f153_0 pc) else (if pc < 26 then (am_f153_1 pc) else (am_f153_2 pc))) = none
  rw [if_neg (show ¬ pc < 12 by omega), if_neg (show ¬ pc < 26 by omega)]
  unfold am_f153_2
  rw [if_neg (show ¬ pc = 26 by omega), if_neg (show ¬ pc = 27 by omega), if_neg (show ¬ pc = 28 by omega), if_neg (show ¬ pc = 29 by omega), if_neg (show ¬ pc = 30 by omega), if_neg (show ¬ pc = 33 by omega), if_neg (show ¬ pc = 36 by omega), if_neg (show ¬ pc = 37 by omega)]
theorem am_o154 {pc : Nat} (h : 56 ≤ pc) : am_m154.2.2.2.2.2 pc = none := by
  show (if pc < 26 then (if pc < 12 then (am_f154_0 pc) else (am_f154_1 pc)) else (if pc < 40 then (am_f154_2 pc) else (am_f154_3 pc))) = none
  rw [if_neg (show ¬ pc < 26 by omega), if_neg (show ¬ pc < 40 by omega)]
  unfold am_f154_3
  rw [if_neg (show ¬ pc = 40 by omega), if_neg (show ¬ pc = 43 by omega), if_neg (show ¬ pc = 46 by omega), if_neg (show ¬ pc = 47 by omega), if_neg (show ¬ pc = 48 by omega), if_neg (show ¬ pc = 51 by omega), if_neg (show ¬ pc = 54 by omega), if_neg (show ¬ pc = 55 by omega)]
theorem am_o155 {pc : Nat} (h : 68 ≤ pc) : am_m155.2.2.2.2.2 pc = none := by
  show (if pc < 26 then (if pc < 12 then (am_f155_0 pc) else (am_f155_1 pc)) else (if pc < 42 then (am_f155_2 pc) else (if pc < 60 then (am_f155_3 pc) else (am_f155_4 pc)))) = none
  rw [if_neg (show ¬ pc < 26 by omega), if_neg (show ¬ pc < 42 by omega), if_neg (show ¬ pc < 60 by omega)]
  unfold am_f155_4
  rw [if_neg (show ¬ pc = 60 by omega), if_neg (show ¬ pc = 63 by omega), if_neg (show ¬ pc = 66 by omega), if_neg (show ¬ pc = 67 by omega)]
theorem am_o156 {pc : Nat} (h : 37 ≤ pc) : am_m156.2.2.2.2.2 pc = none := by
  show (if pc < 15 then (am_f156_0 pc) else (if pc < 31 then (am_f156_1 pc) else (am_f156_2 pc))) = none
  rw [if_neg (show ¬ pc < 15 by omega), if_neg (show ¬ pc < 31 by omega)]
  unfold am_f156_2
  rw [if_neg (show ¬ pc = 31 by omega), if_neg (show ¬ pc = 32 by omega), if_neg (show ¬ pc = 33 by omega), if_neg (show ¬ pc = 36 by omega)]
theorem am_o157 {pc : Nat} (h : 84 ≤ pc) : am_m157.2.2.2.2.2 pc = none := by
  show (if pc < 44 then (if pc < 14 then (am_f157_0 pc) else (if pc < 30 then (am_f157_1 pc) else (am_f157_2 pc))) else (if pc < 58 then (am_f157_3 pc) else (if pc < 70 then (am_f157_4 pc) else (am_f157_5 pc)))) = none
  rw [if_neg (show ¬ pc < 44 by omega), if_neg (show ¬ pc < 58 by omega), if_neg (show ¬ pc < 70 by omega)]
  unfold am_f157_5
  rw [if_neg (show ¬ pc = 70 by omega), if_neg (show ¬ pc = 71 by omega), if_neg (show ¬ pc = 74 by omega), if_neg (show ¬ pc = 77 by omega), if_neg (show ¬ pc = 78 by omega), if_neg (show ¬ pc = 79 by omega), if_neg (show ¬ pc = 82 by omega), if_neg (show ¬ pc = 83 by omega)]
theorem am_o158 {pc : Nat} (h : 51 ≤ pc) : am_m158.2.2.2.2.2 pc = none := by
  show (if pc < 28 then (if pc < 14 then (am_f158_0 pc) else (am_f158_1 pc)) else (if pc < 42 then (am_f158_2 pc) else (am_f158_3 pc))) = none
  rw [if_neg (show ¬ pc < 28 by omega), if_neg (show ¬ pc < 42 by omega)]
  unfold am_f158_3
  rw [if_neg (show ¬ pc = 42 by omega), if_neg (show ¬ pc = 44 by omega), if_neg (show ¬ pc = 45 by omega), if_neg (show ¬ pc = 48 by omega), if_neg (show ¬ pc = 49 by omega), if_neg (show ¬ pc = 50 by omega)]
theorem am_o159 {pc : Nat} (h : 32 ≤ pc) : am_m159.2.2.2.2.2 pc = none := by
  show (if pc < 14 then (am_f159_0 pc) else (if pc < 30 then (am_f159_1 pc) else (am_f159_2 pc))) = none
  rw [if_neg (show ¬ pc < 14 by omega), if_neg (show ¬ pc < 30 by omega)]
  unfold am_f159_2
  rw [if_neg (show ¬ pc = 30 by omega), if_neg (show ¬ pc = 31 by omega)]
theorem am_o160 {pc : Nat} (h : 60 ≤ pc) : am_m160.2.2.2.2.2 pc = none := by
  show (if pc < 28 then (if pc < 13 then (am_f160_0 pc) else (am_f160_1 pc)) else (if pc < 42 then (am_f160_2 pc) else (if pc < 56 then (am_f160_3 pc) else (am_f160_4 pc)))) = none
  rw [if_neg (show ¬ pc < 28 by omega), if_neg (show ¬ pc < 42 by omega), if_neg (show ¬ pc < 56 by omega)]
  unfold am_f160_4
  rw [if_neg (show ¬ pc = 56 by omega), if_neg (show ¬ pc = 59 by omega)]
theorem am_o161 {pc : Nat} (h : 113 ≤ pc) : am_m161.2.2.2.2.2 pc = none := by
  show (if pc < 59 then (if pc < 27 then (if pc < 14 then (am_f161_0 pc) else (am_f161_1 pc)) else (if pc < 44 then (am_f161_2 pc) else (am_f161_3 pc))) else (if pc < 89 then (if pc < 74 then (am_f161_4 pc) else (am_f161_5 pc)) else (if pc < 101 then (am_f161_6 pc) else (am_f161_7 pc)))) = none
  rw [if_neg (show ¬ pc < 59 by omega), if_neg (show ¬ pc < 89 by omega), if_neg (show ¬ pc < 101 by omega)]
  unfold am_f161_7
  rw [if_neg (show ¬ pc = 101 by omega), if_neg (show ¬ pc = 102 by omega), if_neg (show ¬ pc = 104 by omega), if_neg (show ¬ pc = 107 by omega), if_neg (show ¬ pc = 110 by omega), if_neg (show ¬ pc = 112 by omega)]
theorem am_o162 {pc : Nat} (h : 44 ≤ pc) : am_m162.2.2.2.2.2 pc = none := by
  show (if pc < 22 then (if pc < 12 then (am_f162_0 pc) else (am_f162_1 pc)) else (if pc < 36 then (am_f162_2 pc) else (am_f162_3 pc))) = none
  rw [if_neg (show ¬ pc < 22 by omega), if_neg (show ¬ pc < 36 by omega)]
  unfold am_f162_3
  rw [if_neg (show ¬ pc = 36 by omega), if_neg (show ¬ pc = 39 by omega), if_neg (show ¬ pc = 42 by omega), if_neg (show ¬ pc = 43 by omega)]
theorem am_o163 {pc : Nat} (h : 65 ≤ pc) : am_m163.2.2.2.2.2 pc = none := by
  show (if pc < 26 then (if pc < 12 then (am_f163_0 pc) else (am_f163_1 pc)) else (if pc < 38 then (am_f163_2 pc) else (if pc < 52 then (am_f163_3 pc) else (am_f163_4 pc)))) = none
  rw [if_neg (show ¬ pc < 26 by omega), if_neg (show ¬ pc < 38 by omega), if_neg (show ¬ pc < 52 by omega)]
  unfold am_f163_4
  rw [if_neg (show ¬ pc = 52 by omega), if_neg (show ¬ pc = 53 by omega), if_neg (show ¬ pc = 56 by omega), if_neg (show ¬ pc = 59 by omega), if_neg (show ¬ pc = 60 by omega), if_neg (show ¬ pc = 63 by omega), if_neg (show ¬ pc = 64 by omega)]
theorem am_o164 {pc : Nat} (h : 109 ≤ pc) : am_m164.2.2.2.2.2 pc = none := by
  show (if pc < 58 then (if pc < 26 then (if pc < 16 then (am_f164_0 pc) else (am_f164_1 pc)) else (if pc < 44 then (am_f164_2 pc) else (am_f164_3 pc))) else (if pc < 88 then (if pc < 72 then (am_f164_4 pc) else (am_f164_5 pc)) else (if pc < 108 then (am_f164_6 pc) else (am_f164_7 pc)))) = none
  rw [if_neg (show ¬ pc < 58 by omega), if_neg (show ¬ pc < 88 by omega), if_neg (show ¬ pc < 108 by omega)]
  unfold am_f164_7
  rw [if_neg (show ¬ pc = 108 by omega)]
theorem am_o165 {pc : Nat} (h : 108 ≤ pc) : am_m165.2.2.2.2.2 pc = none := by
  show (if pc < 58 then (if pc < 28 then (if pc < 14 then (am_f165_0 pc) else (am_f165_1 pc)) else (if pc < 44 then (am_f165_2 pc) else (am_f165_3 pc))) else (if pc < 88 then (if pc < 74 then (am_f165_4 pc) else (am_f165_5 pc)) else (if pc < 104 then (am_f165_6 pc) else (am_f165_7 pc)))) = none
  rw [if_neg (show ¬ pc < 58 by omega), if_neg (show ¬ pc < 88 by omega), if_neg (show ¬ pc < 104 by omega)]
  unfold am_f165_7
  rw [if_neg (show ¬ pc = 104 by omega), if_neg (show ¬ pc = 107 by omega)]
theorem am_o166 {pc : Nat} (h : 1189 ≤ pc) : am_m166.2.2.2.2.2 pc = none := by
  show (if pc < 621 then (if pc < 350 then (if pc < 179 then (if pc < 79 then (if pc < 31 then (if pc < 15 then (am_f166_0 pc) else (am_f166_1 pc)) else (if pc < 47 then (am_f166_2 pc) else (if pc < 63 then (am_f166_3 pc) else (am_f166_4 pc)))) else (if pc < 127 then (if pc < 95 then (am_f166_5 pc) else (if pc < 111 then (am_f166_6 pc) else (am_f166_7 pc))) else (if pc < 144 then (am_f166_8 pc) else (if pc < 161 then (am_f166_9 pc) else (am_f166_10 pc))))) else (if pc < 275 then (if pc < 227 then (if pc < 195 then (am_f166_11 pc) else (if pc < 211 then (am_f166_12 pc) else (am_f166_13 pc))) else (if pc < 243 then (am_f166_14 pc) else (if pc < 259 then (am_f166_15 pc) else (am_f166_16 pc)))) else (if pc < 318 then (if pc < 291 then (am_f166_17 pc) else (if pc < 308 then (am_f166_18 pc) else (am_f166_19 pc))) else (if pc < 328 then (am_f166_20 pc) else (if pc < 338 then (am_f166_21 pc) else (am_f166_22 pc)))))) else (if pc < 482 then (if pc < 410 then (if pc < 374 then (if pc < 362 then (am_f166_23 pc) else (am_f166_24 pc)) else (if pc < 386 then (am_f166_25 pc) else (if pc < 398 then (am_f166_26 pc) else (am_f166_27 pc)))) else (if pc < 446 then (if pc < 422 then (am_f166_28 pc) else (if pc < 434 then (am_f166_29 pc) else (am_f166_30 pc))) else (if pc < 458 then (am_f166_31 pc) else (if pc < 470 then (am_f166_32 pc) else (am_f166_33 pc))))) else (if pc < 554 then (if pc < 518 then (if pc < 494 then (am_f166_34 pc) else (if pc < 506 then (am_f166_35 pc) else (am_f166_36 pc))) else (if pc < 530 then (am_f166_37 pc) else (if pc < 542 then (am_f166_38 pc) else (am_f166_39 pc)))) else (if pc < 587 then (if pc < 567 then (am_f166_40 pc) else (if pc < 577 then (am_f166_41 pc) else (am_f166_42 pc))) else (if pc < 597 then (am_f166_43 pc) else (if pc < 609 then (am_f166_44 pc) else (am_f166_45 pc))))))) else (if pc < 890 then (if pc < 749 then (if pc < 679 then (if pc < 644 then (if pc < 632 then (am_f166_46 pc) else (am_f166_47 pc)) else (if pc < 656 then (am_f166_48 pc) else (if pc < 667 then (am_f166_49 pc) else (am_f166_50 pc)))) else (if pc < 714 then (if pc < 691 then (am_f166_51 pc) else (if pc < 703 then (am_f166_52 pc) else (am_f166_53 pc))) else (if pc < 726 then (am_f166_54 pc) else (if pc < 737 then (am_f166_55 pc) else (am_f166_56 pc))))) else (if pc < 819 then (if pc < 784 then (if pc < 761 then (am_f166_57 pc) else (if pc < 772 then (am_f166_58 pc) else (am_f166_59 pc))) else (if pc < 796 then (am_f166_60 pc) else (if pc < 807 then (am_f166_61 pc) else (am_f166_62 pc)))) else (if pc < 854 then (if pc < 831 then (am_f166_63 pc) else (if pc < 843 then (am_f166_64 pc) else (am_f166_65 pc))) else (if pc < 866 then (am_f166_66 pc) else (if pc < 878 then (am_f166_67 pc) else (am_f166_68 pc)))))) else (if pc < 1028 then (if pc < 959 then (if pc < 924 then (if pc < 901 then (am_f166_69 pc) else (if pc < 913 then (am_f166_70 pc) else (am_f166_71 pc))) else (if pc < 936 then (am_f166_72 pc) else (if pc < 948 then (am_f166_73 pc) else (am_f166_74 pc)))) else (if pc < 994 then (if pc < 971 then (am_f166_75 pc) else (if pc < 983 then (am_f166_76 pc) else (am_f166_77 pc))) else (if pc < 1005 then (am_f166_78 pc) else (if pc < 1017 then (am_f166_79 pc) else (am_f166_80 pc))))) else (if pc < 1116 then (if pc < 1068 then (if pc < 1040 then (am_f166_81 pc) else (if pc < 1051 then (am_f166_82 pc) else (am_f166_83 pc))) else (if pc < 1084 then (am_f166_84 pc) else (if pc < 1100 then (am_f166_85 pc) else (am_f166_86 pc)))) else (if pc < 1158 then (if pc < 1130 then (am_f166_87 pc) else (if pc < 1142 then (am_f166_88 pc) else (am_f166_89 pc))) else (if pc < 1170 then (am_f166_90 pc) else (if pc < 1180 then (am_f166_91 pc) else (am_f166_92 pc)))))))) = none
  rw [if_neg (show ¬ pc < 621 by omega), if_neg (show ¬ pc < 890 by omega), if_neg (show ¬ pc < 1028 by omega), if_neg (show ¬ pc < 1116 by omega), if_neg (show ¬ pc < 1158 by omega), if_neg (show ¬ pc < 1170 by omega), if_neg (show ¬ pc < 1180 by omega)]
  unfold am_f166_92
  rw [if_neg (show ¬ pc = 1180 by omega), if_neg (show ¬ pc = 1183 by omega), if_neg (show ¬ pc = 1184 by omega), if_neg (show ¬ pc = 1185 by omega), if_neg (show ¬ pc = 1188 by omega)]
theorem am_o167 {pc : Nat} (h : 16 ≤ pc) : am_m167.2.2.2.2.2 pc = none := by
  show (if pc < 14 then (am_f167_0 pc) else (am_f167_1 pc)) = none
  rw [if_neg (show ¬ pc < 14 by omega)]
  unfold am_f167_1
  rw [if_neg (show ¬ pc = 14 by omega), if_neg (show ¬ pc = 15 by omega)]
theorem am_o168 {pc : Nat} (h : 12 ≤ pc) : am_m168.2.2.2.2.2 pc = none := by
  show am_f168_0 pc = none
  unfold am_f168_0
  rw [if_neg (show ¬ pc = 0 by omega), if_neg (show ¬ pc = 1 by omega), if_neg (show ¬ pc = 2 by omega), if_neg (show ¬ pc = 3 by omega), if_neg (show ¬ pc = 6 by omega), if_neg (show ¬ pc = 7 by omega), if_neg (show ¬ pc = 8 by omega), if_neg (show ¬ pc = 11 by omega)]
theorem am_o169 {pc : Nat} (h : 12 ≤ pc) : am_m169.2.2.2.2.2 pc = none := by
  show am_f169_0 pc = none
  unfold am_f169_0
  rw [if_neg (show ¬ pc = 0 by omega), if_neg (show ¬ pc = 1 by omega), if_neg (show ¬ pc = 2 by omega), if_neg (show ¬ pc = 3 by omega), if_neg (show ¬ pc = 6 by omega), if_neg (show ¬ pc = 7 by omega), if_neg (show ¬ pc = 8 by omega), if_neg (show ¬ pc = 11 by omega)]
theorem am_o170 {pc : Nat} (h : 16 ≤ pc) : am_m170.2.2.2.2.2 pc = none := by
  show (if pc < 14 then (am_f170_0 pc) else (am_f170_1 pc)) = none
  rw [if_neg (show ¬ pc < 14 by omega)]
  unfold am_f170_1
  rw [if_neg (show ¬ pc = 14 by omega), if_neg (show ¬ pc = 15 by omega)]
theorem am_o171 {pc : Nat} (h : 36 ≤ pc) : am_m171.2.2.2.2.2 pc = none := by
  show (if pc < 14 then (am_f171_0 pc) else (if pc < 26 then (am_f171_1 pc) else (am_f171_2 pc))) = none
  rw [if_neg (show ¬ pc < 14 by omega), if_neg (show ¬ pc < 26 by omega)]
  unfold am_f171_2
  rw [if_neg (show ¬ pc = 26 by omega), if_neg (show ¬ pc = 27 by omega), if_neg (show ¬ pc = 30 by omega), if_neg (show ¬ pc = 31 by omega), if_neg (show ¬ pc = 34 by omega), if_neg (show ¬ pc = 35 by omega)]
theorem am_o172 {pc : Nat} (h : 36 ≤ pc) : am_m172.2.2.2.2.2 pc = none := by
  show (if pc < 14 then (am_f172_0 pc) else (if pc < 26 then (am_f172_1 pc) else (am_f172_2 pc))) = none
  rw [if_neg (show ¬ pc < 14 by omega), if_neg (show ¬ pc < 26 by omega)]
  unfold am_f172_2
  rw [if_neg (show ¬ pc = 26 by omega), if_neg (show ¬ pc = 27 by omega), if_neg (show ¬ pc = 30 by omega), if_neg (show ¬ pc = 31 by omega), if_neg (show ¬ pc = 34 by omega), if_neg (show ¬ pc = 35 by omega)]
theorem am_o173 {pc : Nat} (h : 49 ≤ pc) : am_m173.2.2.2.2.2 pc = none := by
  show (if pc < 26 then (if pc < 14 then (am_f173_0 pc) else (am_f173_1 pc)) else (if pc < 40 then (am_f173_2 pc) else (am_f173_3 pc))) = none
  rw [if_neg (show ¬ pc < 26 by omega), if_neg (show ¬ pc < 40 by omega)]
  unfold am_f173_3
  rw [if_neg (show ¬ pc = 40 by omega), if_neg (show ¬ pc = 41 by omega), if_neg (show ¬ pc = 44 by omega), if_neg (show ¬ pc = 47 by omega), if_neg (show ¬ pc = 48 by omega)]
theorem am_o174 {pc : Nat} (h : 48 ≤ pc) : am_m174.2.2.2.2.2 pc = none := by
  show (if pc < 26 then (if pc < 14 then (am_f174_0 pc) else (am_f174_1 pc)) else (if pc < 40 then (am_f174_2 pc) else (am_f174_3 pc))) = none
  rw [if_neg (show ¬ pc < 26 by omega), if_neg (show ¬ pc < 40 by omega)]
  unfold am_f174_3
  rw [if_neg (show ¬ pc = 40 by omega), if_neg (show ¬ pc = 43 by omega), if_neg (show ¬ pc = 46 by omega), if_neg (show ¬ pc = 47 by omega)]
theorem am_o175 {pc : Nat} (h : 82 ≤ pc) : am_m175.2.2.2.2.2 pc = none := by
  show (if pc < 41 then (if pc < 14 then (am_f175_0 pc) else (if pc < 28 then (am_f175_1 pc) else (am_f175_2 pc))) else (if pc < 55 then (am_f175_3 pc) else (if pc < 70 then (am_f175_4 pc) else (am_f175_5 pc)))) = none
  rw [if_neg (show ¬ pc < 41 by omega), if_neg (show ¬ pc < 55 by omega), if_neg (show ¬ pc < 70 by omega)]
  unfold am_f175_5
  rw [if_neg (show ¬ pc = 70 by omega), if_neg (show ¬ pc = 71 by omega), if_neg (show ¬ pc = 72 by omega), if_neg (show ¬ pc = 75 by omega), if_neg (show ¬ pc = 76 by omega), if_neg (show ¬ pc = 79 by omega), if_neg (show ¬ pc = 80 by omega), if_neg (show ¬ pc = 81 by omega)]
theorem am_o176 {pc : Nat} (h : 43 ≤ pc) : am_m176.2.2.2.2.2 pc = none := by
  show (if pc < 15 then (am_f176_0 pc) else (if pc < 29 then (am_f176_1 pc) else (am_f176_2 pc))) = none
  rw [if_neg (show ¬ pc < 15 by omega), if_neg (show ¬ pc < 29 by omega)]
  unfold am_f176_2
  rw [if_neg (show ¬ pc = 29 by omega), if_neg (show ¬ pc = 30 by omega), if_neg (show ¬ pc = 33 by omega), if_neg (show ¬ pc = 34 by omega), if_neg (show ¬ pc = 35 by omega), if_neg (show ¬ pc = 38 by omega), if_neg (show ¬ pc = 39 by omega), if_neg (show ¬ pc = 42 by omega)]
theorem am_o177 {pc : Nat} (h : 91 ≤ pc) : am_m177.2.2.2.2.2 pc = none := by
  show (if pc < 45 then (if pc < 13 then (am_f177_0 pc) else (if pc < 31 then (am_f177_1 pc) else (am_f177_2 pc))) else (if pc < 73 then (if pc < 59 then (am_f177_3 pc) else (am_f177_4 pc)) else (if pc < 85 then (am_f177_5 pc) else (am_f177_6 pc)))) = none
  rw [if_neg (show ¬ pc < 45 by omega), if_neg (show ¬ pc < 73 by omega), if_neg (show ¬ pc < 85 by omega)]
  unfold am_f177_6
  rw [if_neg (show ¬ pc = 85 by omega), if_neg (show ¬ pc = 88 by omega), if_neg (show ¬ pc = 89 by omega), if_neg (show ¬ pc = 90 by omega)]
theorem am_o178 {pc : Nat} (h : 85 ≤ pc) : am_m178.2.2.2.2.2 pc = none := by
  show (if pc < 44 then (if pc < 14 then (am_f178_0 pc) else (if pc < 30 then (am_f178_1 pc) else (am_f178_2 pc))) else (if pc < 70 then (if pc < 58 then (am_f178_3 pc) else (am_f178_4 pc)) else (if pc < 84 then (am_f178_5 pc) else (am_f178_6 pc)))) = none
  rw [if_neg (show ¬ pc < 44 by omega), if_neg (show ¬ pc < 70 by omega), if_neg (show ¬ pc < 84 by omega)]
  unfold am_f178_6
  rw [if_neg (show ¬ pc = 84 by omega)]
theorem am_o179 {pc : Nat} (h : 48 ≤ pc) : am_m179.2.2.2.2.2 pc = none := by
  show (if pc < 31 then (if pc < 15 then (am_f179_0 pc) else (am_f179_1 pc)) else (if pc < 43 then (am_f179_2 pc) else (am_f179_3 pc))) = none
  rw [if_neg (show ¬ pc < 31 by omega), if_neg (show ¬ pc < 43 by omega)]
  unfold am_f179_3
  rw [if_neg (show ¬ pc = 43 by omega), if_neg (show ¬ pc = 44 by omega), if_neg (show ¬ pc = 45 by omega), if_neg (show ¬ pc = 46 by omega), if_neg (show ¬ pc = 47 by omega)]
theorem am_o180 {pc : Nat} (h : 188 ≤ pc) : am_m180.2.2.2.2.2 pc = none := by
  show (if pc < 91 then (if pc < 45 then (if pc < 13 then (am_f180_0 pc) else (if pc < 32 then (am_f180_1 pc) else (am_f180_2 pc))) else (if pc < 64 then (am_f180_3 pc) else (if pc < 78 then (am_f180_4 pc) else (am_f180_5 pc)))) else (if pc < 136 then (if pc < 107 then (am_f180_6 pc) else (if pc < 122 then (am_f180_7 pc) else (am_f180_8 pc))) else (if pc < 166 then (if pc < 150 then (am_f180_9 pc) else (am_f180_10 pc)) else (if pc < 178 then (am_f180_11 pc) else (am_f180_12 pc))))) = none
  rw [if_neg (show ¬ pc < 91 by omega), if_neg (show ¬ pc < 136 by omega), if_neg (show ¬ pc < 166 by omega), if_neg (show ¬ pc < 178 by omega)]
  unfold am_f180_12
  rw [if_neg (show ¬ pc = 178 by omega), if_neg (show ¬ pc = 181 by omega), if_neg (show ¬ pc = 183 by omega), if_neg (show ¬ pc = 184 by omega), if_neg (show ¬ pc = 187 by omega)]
theorem am_o181 {pc : Nat} (h : 12 ≤ pc) : am_m181.2.2.2.2.2 pc = none := by
  show am_f181_0 pc = none
  unfold am_f181_0
  rw [if_neg (show ¬ pc = 0 by omega), if_neg (show ¬ pc = 1 by omega), if_neg (show ¬ pc = 2 by omega), if_neg (show ¬ pc = 3 by omega), if_neg (show ¬ pc = 6 by omega), if_neg (show ¬ pc = 7 by omega), if_neg (show ¬ pc = 8 by omega), if_neg (show ¬ pc = 11 by omega)]
theorem am_o182 {pc : Nat} (h : 106 ≤ pc) : am_m182.2.2.2.2.2 pc = none := by
  show (if pc < 61 then (if pc < 29 then (if pc < 16 then (am_f182_0 pc) else (am_f182_1 pc)) else (if pc < 45 then (am_f182_2 pc) else (am_f182_3 pc))) else (if pc < 88 then (if pc < 76 then (am_f182_4 pc) else (am_f182_5 pc)) else (if pc < 100 then (am_f182_6 pc) else (am_f182_7 pc)))) = none
  rw [if_neg (show ¬ pc < 61 by omega), if_neg (show ¬ pc < 88 by omega), if_neg (show ¬ pc < 100 by omega)]
  unfold am_f182_7
  rw [if_neg (show ¬ pc = 100 by omega), if_neg (show ¬ pc = 101 by omega), if_neg (show ¬ pc = 102 by omega), if_neg (show ¬ pc = 105 by omega)]
theorem am_o183 {pc : Nat} (h : 38 ≤ pc) : am_m183.2.2.2.2.2 pc = none := by
  show (if pc < 13 then (am_f183_0 pc) else (if pc < 30 then (am_f183_1 pc) else (am_f183_2 pc))) = none
  rw [if_neg (show ¬ pc < 13 by omega), if_neg (show ¬ pc < 30 by omega)]
  unfold am_f183_2
  rw [if_neg (show ¬ pc = 30 by omega), if_neg (show ¬ pc = 31 by omega), if_neg (show ¬ pc = 32 by omega), if_neg (show ¬ pc = 35 by omega), if_neg (show ¬ pc = 36 by omega), if_neg (show ¬ pc = 37 by omega)]
theorem am_o184 {pc : Nat} (h : 80 ≤ pc) : am_m184.2.2.2.2.2 pc = none := by
  show (if pc < 38 then (if pc < 12 then (am_f184_0 pc) else (if pc < 26 then (am_f184_1 pc) else (am_f184_2 pc))) else (if pc < 64 then (if pc < 50 then (am_f184_3 pc) else (am_f184_4 pc)) else (if pc < 78 then (am_f184_5 pc) else (am_f184_6 pc)))) = none
  rw [if_neg (show ¬ pc < 38 by omega), if_neg (show ¬ pc < 64 by omega), if_neg (show ¬ pc < 78 by omega)]
  unfold am_f184_6
  rw [if_neg (show ¬ pc = 78 by omega), if_neg (show ¬ pc = 79 by omega)]
theorem am_o185 {pc : Nat} (h : 31 ≤ pc) : am_m185.2.2.2.2.2 pc = none := by
  show (if pc < 12 then (am_f185_0 pc) else (if pc < 26 then (am_f185_1 pc) else (am_f185_2 pc))) = none
  rw [if_neg (show ¬ pc < 12 by omega), if_neg (show ¬ pc < 26 by omega)]
  unfold am_f185_2
  rw [if_neg (show ¬ pc = 26 by omega), if_neg (show ¬ pc = 29 by omega), if_neg (show ¬ pc = 30 by omega)]
theorem am_o186 {pc : Nat} (h : 132 ≤ pc) : am_m186.2.2.2.2.2 pc = none := by
  show (if pc < 72 then (if pc < 30 then (if pc < 13 then (am_f186_0 pc) else (am_f186_1 pc)) else (if pc < 44 then (am_f186_2 pc) else (if pc < 58 then (am_f186_3 pc) else (am_f186_4 pc)))) else (if pc < 100 then (if pc < 84 then (am_f186_5 pc) else (am_f186_6 pc)) else (if pc < 116 then (am_f186_7 pc) else (if pc < 128 then (am_f186_8 pc) else (am_f186_9 pc))))) = none
  rw [if_neg (show ¬ pc < 72 by omega), if_neg (show ¬ pc < 100 by omega), if_neg (show ¬ pc < 116 by omega), if_neg (show ¬ pc < 128 by omega)]
  unfold am_f186_9
  rw [if_neg (show ¬ pc = 128 by omega), if_neg (show ¬ pc = 129 by omega), if_neg (show ¬ pc = 130 by omega), if_neg (show ¬ pc = 131 by omega)]
theorem am_o187 {pc : Nat} (h : 120 ≤ pc) : am_m187.2.2.2.2.2 pc = none := by
  show (if pc < 75 then (if pc < 15 then (am_f187_0 pc) else (if pc < 65 then (am_f187_1 pc) else (am_f187_2 pc))) else (if pc < 99 then (if pc < 87 then (am_f187_3 pc) else (am_f187_4 pc)) else (if pc < 111 then (am_f187_5 pc) else (am_f187_6 pc)))) = none
  rw [if_neg (show ¬ pc < 75 by omega), if_neg (show ¬ pc < 99 by omega), if_neg (show ¬ pc < 111 by omega)]
  unfold am_f187_6
  rw [if_neg (show ¬ pc = 111 by omega), if_neg (show ¬ pc = 114 by omega), if_neg (show ¬ pc = 115 by omega), if_neg (show ¬ pc = 118 by omega), if_neg (show ¬ pc = 119 by omega)]
theorem am_o188 {pc : Nat} (h : 70 ≤ pc) : am_m188.2.2.2.2.2 pc = none := by
  show (if pc < 30 then (if pc < 14 then (am_f188_0 pc) else (am_f188_1 pc)) else (if pc < 47 then (am_f188_2 pc) else (if pc < 60 then (am_f188_3 pc) else (am_f188_4 pc)))) = none
  rw [if_neg (show ¬ pc < 30 by omega), if_neg (show ¬ pc < 47 by omega), if_neg (show ¬ pc < 60 by omega)]
  unfold am_f188_4
  rw [if_neg (show ¬ pc = 60 by omega), if_neg (show ¬ pc = 63 by omega), if_neg (show ¬ pc = 64 by omega), if_neg (show ¬ pc = 65 by omega), if_neg (show ¬ pc = 66 by omega), if_neg (show ¬ pc = 69 by omega)]
theorem am_o189 {pc : Nat} (h : 186 ≤ pc) : am_m189.2.2.2.2.2 pc = none := by
  show (if pc < 101 then (if pc < 65 then (if pc < 15 then (am_f189_0 pc) else (am_f189_1 pc)) else (if pc < 75 then (am_f189_2 pc) else (if pc < 87 then (am_f189_3 pc) else (am_f189_4 pc)))) else (if pc < 142 then (if pc < 115 then (am_f189_5 pc) else (if pc < 126 then (am_f189_6 pc) else (am_f189_7 pc))) else (if pc < 155 then (am_f189_8 pc) else (if pc < 172 then (am_f189_9 pc) else (am_f189_10 pc))))) = none
  rw [if_neg (show ¬ pc < 101 by omega), if_neg (show ¬ pc < 142 by omega), if_neg (show ¬ pc < 155 by omega), if_neg (show ¬ pc < 172 by omega)]
  unfold am_f189_10
  rw [if_neg (show ¬ pc = 172 by omega), if_neg (show ¬ pc = 175 by omega), if_neg (show ¬ pc = 176 by omega), if_neg (show ¬ pc = 177 by omega), if_neg (show ¬ pc = 178 by omega), if_neg (show ¬ pc = 181 by omega), if_neg (show ¬ pc = 184 by omega), if_neg (show ¬ pc = 185 by omega)]
theorem am_o190 {pc : Nat} (h : 26 ≤ pc) : am_m190.2.2.2.2.2 pc = none := by
  show (if pc < 11 then (am_f190_0 pc) else (if pc < 21 then (am_f190_1 pc) else (am_f190_2 pc))) = none
  rw [if_neg (show ¬ pc < 11 by omega), if_neg (show ¬ pc < 21 by omega)]
  unfold am_f190_2
  rw [if_neg (show ¬ pc = 21 by omega), if_neg (show ¬ pc = 24 by omega), if_neg (show ¬ pc = 25 by omega)]
theorem am_o191 {pc : Nat} (h : 138 ≤ pc) : am_m191.2.2.2.2.2 pc = none := by
  show (if pc < 87 then (if pc < 65 then (if pc < 15 then (am_f191_0 pc) else (am_f191_1 pc)) else (if pc < 75 then (am_f191_2 pc) else (am_f191_3 pc))) else (if pc < 113 then (if pc < 99 then (am_f191_4 pc) else (am_f191_5 pc)) else (if pc < 125 then (am_f191_6 pc) else (am_f191_7 pc)))) = none
  rw [if_neg (show ¬ pc < 87 by omega), if_neg (show ¬ pc < 113 by omega), if_neg (show ¬ pc < 125 by omega)]
  unfold am_f191_7
  rw [if_neg (show ¬ pc = 125 by omega), if_neg (show ¬ pc = 126 by omega), if_neg (show ¬ pc = 129 by omega), if_neg (show ¬ pc = 132 by omega), if_neg (show ¬ pc = 133 by omega), if_neg (show ¬ pc = 136 by omega), if_neg (show ¬ pc = 137 by omega)]
theorem am_o192 {pc : Nat} (h : 33 ≤ pc) : am_m192.2.2.2.2.2 pc = none := by
  show (if pc < 14 then (am_f192_0 pc) else (if pc < 28 then (am_f192_1 pc) else (am_f192_2 pc))) = none
  rw [if_neg (show ¬ pc < 14 by omega), if_neg (show ¬ pc < 28 by omega)]
  unfold am_f192_2
  rw [if_neg (show ¬ pc = 28 by omega), if_neg (show ¬ pc = 31 by omega), if_neg (show ¬ pc = 32 by omega)]
theorem am_o193 {pc : Nat} (h : 18 ≤ pc) : am_m193.2.2.2.2.2 pc = none := by
  show (if pc < 16 then (am_f193_0 pc) else (am_f193_1 pc)) = none
  rw [if_neg (show ¬ pc < 16 by omega)]
  unfold am_f193_1
  rw [if_neg (show ¬ pc = 16 by omega), if_neg (show ¬ pc = 17 by omega)]
theorem am_o194 {pc : Nat} (h : 18 ≤ pc) : am_m194.2.2.2.2.2 pc = none := by
  show (if pc < 16 then (am_f194_0 pc) else (am_f194_1 pc)) = none
  rw [if_neg (show ¬ pc < 16 by omega)]
  unfold am_f194_1
  rw [if_neg (show ¬ pc = 16 by omega), if_neg (show ¬ pc = 17 by omega)]
theorem am_o195 {pc : Nat} (h : 175 ≤ pc) : am_m195.2.2.2.2.2 pc = none := by
  show (if pc < 98 then (if pc < 48 then (if pc < 15 then (am_f195_0 pc) else (if pc < 32 then (am_f195_1 pc) else (am_f195_2 pc))) else (if pc < 62 then (am_f195_3 pc) else (if pc < 80 then (am_f195_4 pc) else (am_f195_5 pc)))) else (if pc < 146 then (if pc < 115 then (am_f195_6 pc) else (if pc < 130 then (am_f195_7 pc) else (am_f195_8 pc))) else (if pc < 160 then (am_f195_9 pc) else (if pc < 174 then (am_f195_10 pc) else (am_f195_11 pc))))) = none
  rw [if_neg (show ¬ pc < 98 by omega), if_neg (show ¬ pc < 146 by omega), if_neg (show ¬ pc < 160 by omega), if_neg (show ¬ pc < 174 by omega)]
  unfold am_f195_11
  rw [if_neg (show ¬ pc = 174 by omega)]
theorem am_o196 {pc : Nat} (h : 100 ≤ pc) : am_m196.2.2.2.2.2 pc = none := by
  show (if pc < 46 then (if pc < 16 then (am_f196_0 pc) else (if pc < 31 then (am_f196_1 pc) else (am_f196_2 pc))) else (if pc < 77 then (if pc < 63 then (am_f196_3 pc) else (am_f196_4 pc)) else (if pc < 92 then (am_f196_5 pc) else (am_f196_6 pc)))) = none
  rw [if_neg (show ¬ pc < 46 by omega), if_neg (show ¬ pc < 77 by omega), if_neg (show ¬ pc < 92 by omega)]
  unfold am_f196_6
  rw [if_neg (show ¬ pc = 92 by omega), if_neg (show ¬ pc = 95 by omega), if_neg (show ¬ pc = 96 by omega), if_neg (show ¬ pc = 99 by omega)]
theorem am_o197 {pc : Nat} (h : 168 ≤ pc) : am_m197.2.2.2.2.2 pc = none := by
  show (if pc < 86 then (if pc < 41 then (if pc < 16 then (am_f197_0 pc) else (if pc < 30 then (am_f197_1 pc) else (am_f197_2 pc))) else (if pc < 57 then (am_f197_3 pc) else (if pc < 71 then (am_f197_4 pc) else (am_f197_5 pc)))) else (if pc < 129 then (if pc < 101 then (am_f197_6 pc) else (if pc < 115 then (am_f197_7 pc) else (am_f197_8 pc))) else (if pc < 144 then (am_f197_9 pc) else (if pc < 158 then (am_f197_10 pc) else (am_f197_11 pc))))) = none
  rw [if_neg (show ¬ pc < 86 by omega), if_neg (show ¬ pc < 129 by omega), if_neg (show ¬ pc < 144 by omega), if_neg (show ¬ pc < 158 by omega)]
  unfold am_f197_11
  rw [if_neg (show ¬ pc = 158 by omega), if_neg (show ¬ pc = 161 by omega), if_neg (show ¬ pc = 164 by omega), if_neg (show ¬ pc = 167 by omega)]
theorem am_o198 {pc : Nat} (h : 14 ≤ pc) : am_m198.2.2.2.2.2 pc = none := by
  show am_f198_0 pc = none
  unfold am_f198_0
  rw [if_neg (show ¬ pc = 0 by omega), if_neg (show ¬ pc = 1 by omega), if_neg (show ¬ pc = 4 by omega), if_neg (show ¬ pc = 5 by omega), if_neg (show ¬ pc = 8 by omega), if_neg (show ¬ pc = 9 by omega), if_neg (show ¬ pc = 12 by omega), if_neg (show ¬ pc = 13 by omega)]
theorem am_o199 {pc : Nat} (h : 24 ≤ pc) : am_m199.2.2.2.2.2 pc = none := by
  show (if pc < 16 then (am_f199_0 pc) else (am_f199_1 pc)) = none
  rw [if_neg (show ¬ pc < 16 by omega)]
  unfold am_f199_1
  rw [if_neg (show ¬ pc = 16 by omega), if_neg (show ¬ pc = 17 by omega), if_neg (show ¬ pc = 20 by omega), if_neg (show ¬ pc = 23 by omega)]
theorem am_o200 {pc : Nat} (h : 28 ≤ pc) : am_m200.2.2.2.2.2 pc = none := by
  show (if pc < 16 then (am_f200_0 pc) else (am_f200_1 pc)) = none
  rw [if_neg (show ¬ pc < 16 by omega)]
  unfold am_f200_1
  rw [if_neg (show ¬ pc = 16 by omega), if_neg (show ¬ pc = 17 by omega), if_neg (show ¬ pc = 20 by omega), if_neg (show ¬ pc = 23 by omega), if_neg (show ¬ pc = 24 by omega), if_neg (show ¬ pc = 27 by omega)]
theorem am_o201 {pc : Nat} (h : 35 ≤ pc) : am_m201.2.2.2.2.2 pc = none := by
  show (if pc < 15 then (am_f201_0 pc) else (if pc < 31 then (am_f201_1 pc) else (am_f201_2 pc))) = none
  rw [if_neg (show ¬ pc < 15 by omega), if_neg (show ¬ pc < 31 by omega)]
  unfold am_f201_2
  rw [if_neg (show ¬ pc = 31 by omega), if_neg (show ¬ pc = 34 by omega)]
theorem am_o202 {pc : Nat} (h : 49 ≤ pc) : am_m202.2.2.2.2.2 pc = none := by
  show (if pc < 30 then (if pc < 16 then (am_f202_0 pc) else (am_f202_1 pc)) else (if pc < 40 then (am_f202_2 pc) else (am_f202_3 pc))) = none
  rw [if_neg (show ¬ pc < 30 by omega), if_neg (show ¬ pc < 40 by omega)]
  unfold am_f202_3
  rw [if_neg (show ¬ pc = 40 by omega), if_neg (show ¬ pc = 43 by omega), if_neg (show ¬ pc = 44 by omega), if_neg (show ¬ pc = 45 by omega), if_neg (show ¬ pc = 48 by omega)]
theorem am_o203 {pc : Nat} (h : 105 ≤ pc) : am_m203.2.2.2.2.2 pc = none := by
  show (if pc < 50 then (if pc < 26 then (if pc < 12 then (am_f203_0 pc) else (am_f203_1 pc)) else (if pc < 38 then (am_f203_2 pc) else (am_f203_3 pc))) else (if pc < 79 then (if pc < 64 then (am_f203_4 pc) else (am_f203_5 pc)) else (if pc < 93 then (am_f203_6 pc) else (am_f203_7 pc)))) = none
  rw [if_neg (show ¬ pc < 50 by omega), if_neg (show ¬ pc < 79 by omega), if_neg (show ¬ pc < 93 by omega)]
  unfold am_f203_7
  rw [if_neg (show ¬ pc = 93 by omega), if_neg (show ¬ pc = 94 by omega), if_neg (show ¬ pc = 95 by omega), if_neg (show ¬ pc = 98 by omega), if_neg (show ¬ pc = 99 by omega), if_neg (show ¬ pc = 100 by omega), if_neg (show ¬ pc = 101 by omega), if_neg (show ¬ pc = 104 by omega)]
theorem am_o204 {pc : Nat} (h : 39 ≤ pc) : am_m204.2.2.2.2.2 pc = none := by
  show (if pc < 18 then (am_f204_0 pc) else (if pc < 32 then (am_f204_1 pc) else (am_f204_2 pc))) = none
  rw [if_neg (show ¬ pc < 18 by omega), if_neg (show ¬ pc < 32 by omega)]
  unfold am_f204_2
  rw [if_neg (show ¬ pc = 32 by omega), if_neg (show ¬ pc = 35 by omega), if_neg (show ¬ pc = 38 by omega)]
theorem am_o205 {pc : Nat} (h : 39 ≤ pc) : am_m205.2.2.2.2.2 pc = none := by
  show (if pc < 18 then (am_f205_0 pc) else (if pc < 32 then (am_f205_1 pc) else (am_f205_2 pc))) = none
  rw [if_neg (show ¬ pc < 18 by omega), if_neg (show ¬ pc < 32 by omega)]
  unfold am_f205_2
  rw [if_neg (show ¬ pc = 32 by omega), if_neg (show ¬ pc = 35 by omega), if_neg (show ¬ pc = 38 by omega)]
theorem am_o206 {pc : Nat} (h : 103 ≤ pc) : am_m206.2.2.2.2.2 pc = none := by
  show (if pc < 44 then (if pc < 18 then (am_f206_0 pc) else (if pc < 32 then (am_f206_1 pc) else (am_f206_2 pc))) else (if pc < 81 then (if pc < 63 then (am_f206_3 pc) else (am_f206_4 pc)) else (if pc < 96 then (am_f206_5 pc) else (am_f206_6 pc)))) = none
  rw [if_neg (show ¬ pc < 44 by omega), if_neg (show ¬ pc < 81 by omega), if_neg (show ¬ pc < 96 by omega)]
  unfold am_f206_6
  rw [if_neg (show ¬ pc = 96 by omega), if_neg (show ¬ pc = 97 by omega), if_neg (show ¬ pc = 98 by omega), if_neg (show ¬ pc = 99 by omega), if_neg (show ¬ pc = 102 by omega)]
theorem am_o207 {pc : Nat} (h : 64 ≤ pc) : am_m207.2.2.2.2.2 pc = none := by
  show (if pc < 35 then (if pc < 17 then (am_f207_0 pc) else (am_f207_1 pc)) else (if pc < 51 then (am_f207_2 pc) else (am_f207_3 pc))) = none
  rw [if_neg (show ¬ pc < 35 by omega), if_neg (show ¬ pc < 51 by omega)]
  unfold am_f207_3
  rw [if_neg (show ¬ pc = 51 by omega), if_neg (show ¬ pc = 54 by omega), if_neg (show ¬ pc = 55 by omega), if_neg (show ¬ pc = 56 by omega), if_neg (show ¬ pc = 57 by omega), if_neg (show ¬ pc = 60 by omega), if_neg (show ¬ pc = 63 by omega)]
theorem am_o208 {pc : Nat} (h : 39 ≤ pc) : am_m208.2.2.2.2.2 pc = none := by
  show (if pc < 17 then (am_f208_0 pc) else (if pc < 32 then (am_f208_1 pc) else (am_f208_2 pc))) = none
  rw [if_neg (show ¬ pc < 17 by omega), if_neg (show ¬ pc < 32 by omega)]
  unfold am_f208_2
  rw [if_neg (show ¬ pc = 32 by omega), if_neg (show ¬ pc = 35 by omega), if_neg (show ¬ pc = 38 by omega)]
theorem am_o209 {pc : Nat} (h : 69 ≤ pc) : am_m209.2.2.2.2.2 pc = none := by
  show (if pc < 29 then (if pc < 15 then (am_f209_0 pc) else (am_f209_1 pc)) else (if pc < 44 then (am_f209_2 pc) else (if pc < 58 then (am_f209_3 pc) else (am_f209_4 pc)))) = none
  rw [if_neg (show ¬ pc < 29 by omega), if_neg (show ¬ pc < 44 by omega), if_neg (show ¬ pc < 58 by omega)]
  unfold am_f209_4
  rw [if_neg (show ¬ pc = 58 by omega), if_neg (show ¬ pc = 60 by omega), if_neg (show ¬ pc = 63 by omega), if_neg (show ¬ pc = 64 by omega), if_neg (show ¬ pc = 67 by omega), if_neg (show ¬ pc = 68 by omega)]
theorem am_o210 {pc : Nat} (h : 168 ≤ pc) : am_m210.2.2.2.2.2 pc = none := by
  show (if pc < 80 then (if pc < 32 then (if pc < 16 then (am_f210_0 pc) else (am_f210_1 pc)) else (if pc < 46 then (am_f210_2 pc) else (if pc < 64 then (am_f210_3 pc) else (am_f210_4 pc)))) else (if pc < 128 then (if pc < 99 then (am_f210_5 pc) else (if pc < 113 then (am_f210_6 pc) else (am_f210_7 pc))) else (if pc < 145 then (am_f210_8 pc) else (if pc < 160 then (am_f210_9 pc) else (am_f210_10 pc))))) = none
  rw [if_neg (show ¬ pc < 80 by omega), if_neg (show ¬ pc < 128 by omega), if_neg (show ¬ pc < 145 by omega), if_neg (show ¬ pc < 160 by omega)]
  unfold am_f210_10
  rw [if_neg (show ¬ pc = 160 by omega), if_neg (show ¬ pc = 163 by omega), if_neg (show ¬ pc = 164 by omega), if_neg (show ¬ pc = 167 by omega)]
theorem am_o211 {pc : Nat} (h : 138 ≤ pc) : am_m211.2.2.2.2.2 pc = none := by
  show (if pc < 92 then (if pc < 68 then (if pc < 54 then (am_f211_0 pc) else (am_f211_1 pc)) else (if pc < 80 then (am_f211_2 pc) else (am_f211_3 pc))) else (if pc < 114 then (if pc < 104 then (am_f211_4 pc) else (am_f211_5 pc)) else (if pc < 124 then (am_f211_6 pc) else (if pc < 136 then (am_f211_7 pc) else (am_f211_8 pc))))) = none
  rw [if_neg (show ¬ pc < 92 by omega), if_neg (show ¬ pc < 114 by omega), if_neg (show ¬ pc < 124 by omega), if_neg (show ¬ pc < 136 by omega)]
  unfold am_f211_8
  rw [if_neg (show ¬ pc = 136 by omega), if_neg (show ¬ pc = 137 by omega)]
theorem am_o212 {pc : Nat} (h : 116 ≤ pc) : am_m212.2.2.2.2.2 pc = none := by
  show (if pc < 78 then (if pc < 52 then (am_f212_0 pc) else (if pc < 64 then (am_f212_1 pc) else (am_f212_2 pc))) else (if pc < 102 then (if pc < 90 then (am_f212_3 pc) else (am_f212_4 pc)) else (if pc < 110 then (am_f212_5 pc) else (am_f212_6 pc)))) = none
  rw [if_neg (show ¬ pc < 78 by omega), if_neg (show ¬ pc < 102 by omega), if_neg (show ¬ pc < 110 by omega)]
  unfold am_f212_6
  rw [if_neg (show ¬ pc = 110 by omega), if_neg (show ¬ pc = 111 by omega), if_neg (show ¬ pc = 112 by omega), if_neg (show ¬ pc = 113 by omega), if_neg (show ¬ pc = 114 by omega), if_neg (show ¬ pc = 115 by omega)]
theorem am_o213 {pc : Nat} (h : 231 ≤ pc) : am_m213.2.2.2.2.2 pc = none := by
  show (if pc < 112 then (if pc < 53 then (if pc < 26 then (if pc < 14 then (am_f213_0 pc) else (am_f213_1 pc)) else (if pc < 38 then (am_f213_2 pc) else (am_f213_3 pc))) else (if pc < 81 then (if pc < 67 then (am_f213_4 pc) else (am_f213_5 pc)) else (if pc < 98 then (am_f213_6 pc) else (am_f213_7 pc)))) else (if pc < 170 then (if pc < 141 then (if pc < 129 then (am_f213_8 pc) else (am_f213_9 pc)) else (if pc < 153 then (am_f213_10 pc) else (am_f213_11 pc))) else (if pc < 196 then (if pc < 181 then (am_f213_12 pc) else (am_f213_13 pc)) else (if pc < 208 then (am_f213_14 pc) else (if pc < 225 then (am_f213_15 pc) else (am_f213_16 pc)))))) = none
  rw [if_neg (show ¬ pc < 112 by omega), if_neg (show ¬ pc < 170 by omega), if_neg (show ¬ pc < 196 by omega), if_neg (show ¬ pc < 208 by omega), if_neg (show ¬ pc < 225 by omega)]
  unfold am_f213_16
  rw [if_neg (show ¬ pc = 225 by omega), if_neg (show ¬ pc = 228 by omega), if_neg (show ¬ pc = 229 by omega), if_neg (show ¬ pc = 230 by omega)]
theorem am_o214 {pc : Nat} (h : 36 ≤ pc) : am_m214.2.2.2.2.2 pc = none := by
  show (if pc < 12 then (am_f214_0 pc) else (if pc < 26 then (am_f214_1 pc) else (am_f214_2 pc))) = none
  rw [if_neg (show ¬ pc < 12 by omega), if_neg (show ¬ pc < 26 by omega)]
  unfold am_f214_2
  rw [if_neg (show ¬ pc = 26 by omega), if_neg (show ¬ pc = 27 by omega), if_neg (show ¬ pc = 28 by omega), if_neg (show ¬ pc = 31 by omega), if_neg (show ¬ pc = 34 by omega), if_neg (show ¬ pc = 35 by omega)]
theorem am_o215 {pc : Nat} (h : 69 ≤ pc) : am_m215.2.2.2.2.2 pc = none := by
  show (if pc < 40 then (if pc < 12 then (am_f215_0 pc) else (if pc < 26 then (am_f215_1 pc) else (am_f215_2 pc))) else (if pc < 52 then (am_f215_3 pc) else (if pc < 68 then (am_f215_4 pc) else (am_f215_5 pc)))) = none
  rw [if_neg (show ¬ pc < 40 by omega), if_neg (show ¬ pc < 52 by omega), if_neg (show ¬ pc < 68 by omega)]
  unfold am_f215_5
  rw [if_neg (show ¬ pc = 68 by omega)]
theorem am_o216 {pc : Nat} (h : 79 ≤ pc) : am_m216.2.2.2.2.2 pc = none := by
  show (if pc < 45 then (if pc < 14 then (am_f216_0 pc) else (if pc < 29 then (am_f216_1 pc) else (am_f216_2 pc))) else (if pc < 57 then (am_f216_3 pc) else (if pc < 71 then (am_f216_4 pc) else (am_f216_5 pc)))) = none
  rw [if_neg (show ¬ pc < 45 by omega), if_neg (show ¬ pc < 57 by omega), if_neg (show ¬ pc < 71 by omega)]
  unfold am_f216_5
  rw [if_neg (show ¬ pc = 71 by omega), if_neg (show ¬ pc = 74 by omega), if_neg (show ¬ pc = 75 by omega), if_neg (show ¬ pc = 78 by omega)]
theorem am_o217 {pc : Nat} (h : 199 ≤ pc) : am_m217.2.2.2.2.2 pc = none := by
  show (if pc < 100 then (if pc < 42 then (if pc < 16 then (am_f217_0 pc) else (if pc < 28 then (am_f217_1 pc) else (am_f217_2 pc))) else (if pc < 68 then (if pc < 56 then (am_f217_3 pc) else (am_f217_4 pc)) else (if pc < 84 then (am_f217_5 pc) else (am_f217_6 pc)))) else (if pc < 157 then (if pc < 133 then (if pc < 116 then (am_f217_7 pc) else (am_f217_8 pc)) else (if pc < 145 then (am_f217_9 pc) else (am_f217_10 pc))) else (if pc < 179 then (if pc < 167 then (am_f217_11 pc) else (am_f217_12 pc)) else (if pc < 189 then (am_f217_13 pc) else (am_f217_14 pc))))) = none
  rw [if_neg (show ¬ pc < 100 by omega), if_neg (show ¬ pc < 157 by omega), if_neg (show ¬ pc < 179 by omega), if_neg (show ¬ pc < 189 by omega)]
  unfold am_f217_14
  rw [if_neg (show ¬ pc = 189 by omega), if_neg (show ¬ pc = 192 by omega), if_neg (show ¬ pc = 193 by omega), if_neg (show ¬ pc = 194 by omega), if_neg (show ¬ pc = 197 by omega), if_neg (show ¬ pc = 198 by omega)]
theorem am_o218 {pc : Nat} (h : 26 ≤ pc) : am_m218.2.2.2.2.2 pc = none := by
  show (if pc < 16 then (am_f218_0 pc) else (am_f218_1 pc)) = none
  rw [if_neg (show ¬ pc < 16 by omega)]
  unfold am_f218_1
  rw [if_neg (show ¬ pc = 16 by omega), if_neg (show ¬ pc = 17 by omega), if_neg (show ¬ pc = 20 by omega), if_neg (show ¬ pc = 23 by omega), if_neg (show ¬ pc = 25 by omega)]
theorem am_o219 {pc : Nat} (h : 12 ≤ pc) : am_m219.2.2.2.2.2 pc = none := by
  show am_f219_0 pc = none
  unfold am_f219_0
  rw [if_neg (show ¬ pc = 0 by omega), if_neg (show ¬ pc = 1 by omega), if_neg (show ¬ pc = 2 by omega), if_neg (show ¬ pc = 3 by omega), if_neg (show ¬ pc = 6 by omega), if_neg (show ¬ pc = 7 by omega), if_neg (show ¬ pc = 8 by omega), if_neg (show ¬ pc = 11 by omega)]
theorem am_o220 {pc : Nat} (h : 120 ≤ pc) : am_m220.2.2.2.2.2 pc = none := by
  show (if pc < 56 then (if pc < 28 then (if pc < 16 then (am_f220_0 pc) else (am_f220_1 pc)) else (if pc < 42 then (am_f220_2 pc) else (am_f220_3 pc))) else (if pc < 80 then (if pc < 69 then (am_f220_4 pc) else (am_f220_5 pc)) else (if pc < 95 then (am_f220_6 pc) else (if pc < 108 then (am_f220_7 pc) else (am_f220_8 pc))))) = none
  rw [if_neg (show ¬ pc < 56 by omega), if_neg (show ¬ pc < 80 by omega), if_neg (show ¬ pc < 95 by omega), if_neg (show ¬ pc < 108 by omega)]
  unfold am_f220_8
  rw [if_neg (show ¬ pc = 108 by omega), if_neg (show ¬ pc = 109 by omega), if_neg (show ¬ pc = 110 by omega), if_neg (show ¬ pc = 111 by omega), if_neg (show ¬ pc = 114 by omega), if_neg (show ¬ pc = 115 by omega), if_neg (show ¬ pc = 116 by omega), if_neg (show ¬ pc = 119 by omega)]
theorem am_o221 {pc : Nat} (h : 118 ≤ pc) : am_m221.2.2.2.2.2 pc = none := by
  show (if pc < 57 then (if pc < 30 then (if pc < 15 then (am_f221_0 pc) else (am_f221_1 pc)) else (if pc < 45 then (am_f221_2 pc) else (am_f221_3 pc))) else (if pc < 83 then (if pc < 69 then (am_f221_4 pc) else (am_f221_5 pc)) else (if pc < 95 then (am_f221_6 pc) else (if pc < 107 then (am_f221_7 pc) else (am_f221_8 pc))))) = none
  rw [if_neg (show ¬ pc < 57 by omega), if_neg (show ¬ pc < 83 by omega), if_neg (show ¬ pc < 95 by omega), if_neg (show ¬ pc < 107 by omega)]
  unfold am_f221_8
  rw [if_neg (show ¬ pc = 107 by omega), if_neg (show ¬ pc = 108 by omega), if_neg (show ¬ pc = 111 by omega), if_neg (show ¬ pc = 112 by omega), if_neg (show ¬ pc = 113 by omega), if_neg (show ¬ pc = 116 by omega), if_neg (show ¬ pc = 117 by omega)]
theorem am_o222 {pc : Nat} (h : 116 ≤ pc) : am_m222.2.2.2.2.2 pc = none := by
  show (if pc < 50 then (if pc < 28 then (if pc < 15 then (am_f222_0 pc) else (am_f222_1 pc)) else (if pc < 38 then (am_f222_2 pc) else (am_f222_3 pc))) else (if pc < 82 then (if pc < 67 then (am_f222_4 pc) else (am_f222_5 pc)) else (if pc < 98 then (am_f222_6 pc) else (if pc < 114 then (am_f222_7 pc) else (am_f222_8 pc))))) = none
  rw [if_neg (show ¬ pc < 50 by omega), if_neg (show ¬ pc < 82 by omega), if_neg (show ¬ pc < 98 by omega), if_neg (show ¬ pc < 114 by omega)]
  unfold am_f222_8
  rw [if_neg (show ¬ pc = 114 by omega), if_neg (show ¬ pc = 115 by omega)]
theorem am_o223 {pc : Nat} (h : 131 ≤ pc) : am_m223.2.2.2.2.2 pc = none := by
  show (if pc < 91 then (if pc < 65 then (if pc < 15 then (am_f223_0 pc) else (am_f223_1 pc)) else (if pc < 79 then (am_f223_2 pc) else (am_f223_3 pc))) else (if pc < 117 then (if pc < 103 then (am_f223_4 pc) else (am_f223_5 pc)) else (if pc < 129 then (am_f223_6 pc) else (am_f223_7 pc)))) = none
  rw [if_neg (show ¬ pc < 91 by omega), if_neg (show ¬ pc < 117 by omega), if_neg (show ¬ pc < 129 by omega)]
  unfold am_f223_7
  rw [if_neg (show ¬ pc = 129 by omega), if_neg (show ¬ pc = 130 by omega)]
theorem am_o224 {pc : Nat} (h : 21 ≤ pc) : am_m224.2.2.2.2.2 pc = none := by
  show (if pc < 15 then (am_f224_0 pc) else (am_f224_1 pc)) = none
  rw [if_neg (show ¬ pc < 15 by omega)]
  unfold am_f224_1
  rw [if_neg (show ¬ pc = 15 by omega), if_neg (show ¬ pc = 18 by omega), if_neg (show ¬ pc = 20 by omega)]
theorem am_o225 {pc : Nat} (h : 46 ≤ pc) : am_m225.2.2.2.2.2 pc = none := by
  show (if pc < 28 then (if pc < 13 then (am_f225_0 pc) else (am_f225_1 pc)) else (if pc < 40 then (am_f225_2 pc) else (am_f225_3 pc))) = none
  rw [if_neg (show ¬ pc < 28 by omega), if_neg (show ¬ pc < 40 by omega)]
  unfold am_f225_3
  rw [if_neg (show ¬ pc = 40 by omega), if_neg (show ¬ pc = 43 by omega), if_neg (show ¬ pc = 44 by omega), if_neg (show ¬ pc = 45 by omega)]
theorem am_o226 {pc : Nat} (h : 39 ≤ pc) : am_m226.2.2.2.2.2 pc = none := by
  show (if pc < 16 then (am_f226_0 pc) else (if pc < 28 then (am_f226_1 pc) else (am_f226_2 pc))) = none
  rw [if_neg (show ¬ pc < 16 by omega), if_neg (show ¬ pc < 28 by omega)]
  unfold am_f226_2
  rw [if_neg (show ¬ pc = 28 by omega), if_neg (show ¬ pc = 29 by omega), if_neg (show ¬ pc = 32 by omega), if_neg (show ¬ pc = 35 by omega), if_neg (show ¬ pc = 38 by omega)]
theorem am_o227 {pc : Nat} (h : 28 ≤ pc) : am_m227.2.2.2.2.2 pc = none := by
  show (if pc < 12 then (am_f227_0 pc) else (if pc < 26 then (am_f227_1 pc) else (am_f227_2 pc))) = none
  rw [if_neg (show ¬ pc < 12 by omega), if_neg (show ¬ pc < 26 by omega)]
  unfold am_f227_2
  rw [if_neg (show ¬ pc = 26 by omega), if_neg (show ¬ pc = 27 by omega)]
theorem am_o228 {pc : Nat} (h : 91 ≤ pc) : am_m228.2.2.2.2.2 pc = none := by
  show (if pc < 42 then (if pc < 11 then (am_f228_0 pc) else (if pc < 26 then (am_f228_1 pc) else (am_f228_2 pc))) else (if pc < 68 then (if pc < 54 then (am_f228_3 pc) else (am_f228_4 pc)) else (if pc < 82 then (am_f228_5 pc) else (am_f228_6 pc)))) = none
  rw [if_neg (show ¬ pc < 42 by omega), if_neg (show ¬ pc < 68 by omega), if_neg (show ¬ pc < 82 by omega)]
  unfold am_f228_6
  rw [if_neg (show ¬ pc = 82 by omega), if_neg (show ¬ pc = 85 by omega), if_neg (show ¬ pc = 86 by omega), if_neg (show ¬ pc = 89 by omega), if_neg (show ¬ pc = 90 by omega)]
theorem am_o229 {pc : Nat} (h : 57 ≤ pc) : am_m229.2.2.2.2.2 pc = none := by
  show (if pc < 28 then (if pc < 14 then (am_f229_0 pc) else (am_f229_1 pc)) else (if pc < 43 then (am_f229_2 pc) else (am_f229_3 pc))) = none
  rw [if_neg (show ¬ pc < 28 by omega), if_neg (show ¬ pc < 43 by omega)]
  unfold am_f229_3
  rw [if_neg (show ¬ pc = 43 by omega), if_neg (show ¬ pc = 46 by omega), if_neg (show ¬ pc = 47 by omega), if_neg (show ¬ pc = 48 by omega), if_neg (show ¬ pc = 49 by omega), if_neg (show ¬ pc = 52 by omega), if_neg (show ¬ pc = 55 by omega), if_neg (show ¬ pc = 56 by omega)]
theorem am_o230 {pc : Nat} (h : 50 ≤ pc) : am_m230.2.2.2.2.2 pc = none := by
  show (if pc < 27 then (if pc < 13 then (am_f230_0 pc) else (am_f230_1 pc)) else (if pc < 41 then (am_f230_2 pc) else (am_f230_3 pc))) = none
  rw [if_neg (show ¬ pc < 27 by omega), if_neg (show ¬ pc < 41 by omega)]
  unfold am_f230_3
  rw [if_neg (show ¬ pc = 41 by omega), if_neg (show ¬ pc = 42 by omega), if_neg (show ¬ pc = 45 by omega), if_neg (show ¬ pc = 48 by omega), if_neg (show ¬ pc = 49 by omega)]
theorem am_o231 {pc : Nat} (h : 84 ≤ pc) : am_m231.2.2.2.2.2 pc = none := by
  show (if pc < 36 then (if pc < 12 then (am_f231_0 pc) else (if pc < 26 then (am_f231_1 pc) else (am_f231_2 pc))) else (if pc < 64 then (if pc < 52 then (am_f231_3 pc) else (am_f231_4 pc)) else (if pc < 82 then (am_f231_5 pc) else (am_f231_6 pc)))) = none
  rw [if_neg (show ¬ pc < 36 by omega), if_neg (show ¬ pc < 64 by omega), if_neg (show ¬ pc < 82 by omega)]
  unfold am_f231_6
  rw [if_neg (show ¬ pc = 82 by omega), if_neg (show ¬ pc = 83 by omega)]
theorem am_o232 {pc : Nat} (h : 56 ≤ pc) : am_m232.2.2.2.2.2 pc = none := by
  show (if pc < 29 then (if pc < 13 then (am_f232_0 pc) else (am_f232_1 pc)) else (if pc < 42 then (am_f232_2 pc) else (if pc < 52 then (am_f232_3 pc) else (am_f232_4 pc)))) = none
  rw [if_neg (show ¬ pc < 29 by omega), if_neg (show ¬ pc < 42 by omega), if_neg (show ¬ pc < 52 by omega)]
  unfold am_f232_4
  rw [if_neg (show ¬ pc = 52 by omega), if_neg (show ¬ pc = 55 by omega)]
theorem am_o233 {pc : Nat} (h : 103 ≤ pc) : am_m233.2.2.2.2.2 pc = none := by
  show (if pc < 48 then (if pc < 26 then (if pc < 13 then (am_f233_0 pc) else (am_f233_1 pc)) else (if pc < 38 then (am_f233_2 pc) else (am_f233_3 pc))) else (if pc < 78 then (if pc < 64 then (am_f233_4 pc) else (am_f233_5 pc)) else (if pc < 90 then (am_f233_6 pc) else (if pc < 98 then (am_f233_7 pc) else (am_f233_8 pc))))) = none
  rw [if_neg (show ¬ pc < 48 by omega), if_neg (show ¬ pc < 78 by omega), if_neg (show ¬ pc < 90 by omega), if_neg (show ¬ pc < 98 by omega)]
  unfold am_f233_8
  rw [if_neg (show ¬ pc = 98 by omega), if_neg (show ¬ pc = 99 by omega), if_neg (show ¬ pc = 102 by omega)]
theorem am_o234 {pc : Nat} (h : 32 ≤ pc) : am_m234.2.2.2.2.2 pc = none := by
  show (if pc < 15 then (am_f234_0 pc) else (if pc < 28 then (am_f234_1 pc) else (am_f234_2 pc))) = none
  rw [if_neg (show ¬ pc < 15 by omega), if_neg (show ¬ pc < 28 by omega)]
  unfold am_f234_2
  rw [if_neg (show ¬ pc = 28 by omega), if_neg (show ¬ pc = 29 by omega), if_neg (show ¬ pc = 30 by omega), if_neg (show ¬ pc = 31 by omega)]
theorem am_o235 {pc : Nat} (h : 82 ≤ pc) : am_m235.2.2.2.2.2 pc = none := by
  show (if pc < 43 then (if pc < 16 then (am_f235_0 pc) else (if pc < 30 then (am_f235_1 pc) else (am_f235_2 pc))) else (if pc < 65 then (if pc < 56 then (am_f235_3 pc) else (am_f235_4 pc)) else (if pc < 80 then (am_f235_5 pc) else (am_f235_6 pc)))) = none
  rw [if_neg (show ¬ pc < 43 by omega), if_neg (show ¬ pc < 65 by omega), if_neg (show ¬ pc < 80 by omega)]
  unfold am_f235_6
  rw [if_neg (show ¬ pc = 80 by omega), if_neg (show ¬ pc = 81 by omega)]
theorem am_o236 {pc : Nat} (h : 51 ≤ pc) : am_m236.2.2.2.2.2 pc = none := by
  show (if pc < 26 then (if pc < 12 then (am_f236_0 pc) else (am_f236_1 pc)) else (if pc < 40 then (am_f236_2 pc) else (am_f236_3 pc))) = none
  rw [if_neg (show ¬ pc < 26 by omega), if_neg (show ¬ pc < 40 by omega)]
  unfold am_f236_3
  rw [if_neg (show ¬ pc = 40 by omega), if_neg (show ¬ pc = 41 by omega), if_neg (show ¬ pc = 42 by omega), if_neg (show ¬ pc = 45 by omega), if_neg (show ¬ pc = 46 by omega), if_neg (show ¬ pc = 49 by omega), if_neg (show ¬ pc = 50 by omega)]
theorem am_o237 {pc : Nat} (h : 152 ≤ pc) : am_m237.2.2.2.2.2 pc = none := by
  show (if pc < 68 then (if pc < 26 then (if pc < 12 then (am_f237_0 pc) else (am_f237_1 pc)) else (if pc < 42 then (am_f237_2 pc) else (if pc < 54 then (am_f237_3 pc) else (am_f237_4 pc)))) else (if pc < 114 then (if pc < 86 then (am_f237_5 pc) else (if pc < 100 then (am_f237_6 pc) else (am_f237_7 pc))) else (if pc < 126 then (am_f237_8 pc) else (if pc < 140 then (am_f237_9 pc) else (am_f237_10 pc))))) = none
  rw [if_neg (show ¬ pc < 68 by omega), if_neg (show ¬ pc < 114 by omega), if_neg (show ¬ pc < 126 by omega), if_neg (show ¬ pc < 140 by omega)]
  unfold am_f237_10
  rw [if_neg (show ¬ pc = 140 by omega), if_neg (show ¬ pc = 141 by omega), if_neg (show ¬ pc = 142 by omega), if_neg (show ¬ pc = 145 by omega), if_neg (show ¬ pc = 148 by omega), if_neg (show ¬ pc = 151 by omega)]
theorem am_o238 {pc : Nat} (h : 120 ≤ pc) : am_m238.2.2.2.2.2 pc = none := by
  show (if pc < 54 then (if pc < 28 then (if pc < 16 then (am_f238_0 pc) else (am_f238_1 pc)) else (if pc < 42 then (am_f238_2 pc) else (am_f238_3 pc))) else (if pc < 86 then (if pc < 69 then (am_f238_4 pc) else (am_f238_5 pc)) else (if pc < 102 then (am_f238_6 pc) else (if pc < 116 then (am_f238_7 pc) else (am_f238_8 pc))))) = none
  rw [if_neg (show ¬ pc < 54 by omega), if_neg (show ¬ pc < 86 by omega), if_neg (show ¬ pc < 102 by omega), if_neg (show ¬ pc < 116 by omega)]
  unfold am_f238_8
  rw [if_neg (show ¬ pc = 116 by omega), if_neg (show ¬ pc = 119 by omega)]
theorem am_o239 {pc : Nat} (h : 114 ≤ pc) : am_m239.2.2.2.2.2 pc = none := by
  show (if pc < 62 then (if pc < 22 then (if pc < 12 then (am_f239_0 pc) else (am_f239_1 pc)) else (if pc < 38 then (am_f239_2 pc) else (if pc < 46 then (am_f239_3 pc) else (am_f239_4 pc)))) else (if pc < 85 then (if pc < 74 then (am_f239_5 pc) else (am_f239_6 pc)) else (if pc < 99 then (am_f239_7 pc) else (if pc < 113 then (am_f239_8 pc) else (am_f239_9 pc))))) = none
  rw [if_neg (show ¬ pc < 62 by omega), if_neg (show ¬ pc < 85 by omega), if_neg (show ¬ pc < 99 by omega), if_neg (show ¬ pc < 113 by omega)]
  unfold am_f239_9
  rw [if_neg (show ¬ pc = 113 by omega)]
theorem am_o240 {pc : Nat} (h : 122 ≤ pc) : am_m240.2.2.2.2.2 pc = none := by
  show (if pc < 65 then (if pc < 28 then (if pc < 12 then (am_f240_0 pc) else (am_f240_1 pc)) else (if pc < 38 then (am_f240_2 pc) else (if pc < 50 then (am_f240_3 pc) else (am_f240_4 pc)))) else (if pc < 95 then (if pc < 78 then (am_f240_5 pc) else (am_f240_6 pc)) else (if pc < 107 then (am_f240_7 pc) else (if pc < 121 then (am_f240_8 pc) else (am_f240_9 pc))))) = none
  rw [if_neg (show ¬ pc < 65 by omega), if_neg (show ¬ pc < 95 by omega), if_neg (show ¬ pc < 107 by omega), if_neg (show ¬ pc < 121 by omega)]
  unfold am_f240_9
  rw [if_neg (show ¬ pc = 121 by omega)]
theorem am_o241 {pc : Nat} (h : 11 ≤ pc) : am_m241.2.2.2.2.2 pc = none := by
  show am_f241_0 pc = none
  unfold am_f241_0
  rw [if_neg (show ¬ pc = 0 by omega), if_neg (show ¬ pc = 1 by omega), if_neg (show ¬ pc = 4 by omega), if_neg (show ¬ pc = 5 by omega), if_neg (show ¬ pc = 8 by omega), if_neg (show ¬ pc = 9 by omega), if_neg (show ¬ pc = 10 by omega)]
theorem am_o242 {pc : Nat} (h : 65 ≤ pc) : am_m242.2.2.2.2.2 pc = none := by
  show (if pc < 29 then (if pc < 15 then (am_f242_0 pc) else (am_f242_1 pc)) else (if pc < 41 then (am_f242_2 pc) else (if pc < 55 then (am_f242_3 pc) else (am_f242_4 pc)))) = none
  rw [if_neg (show ¬ pc < 29 by omega), if_neg (show ¬ pc < 41 by omega), if_neg (show ¬ pc < 55 by omega)]
  unfold am_f242_4
  rw [if_neg (show ¬ pc = 55 by omega), if_neg (show ¬ pc = 56 by omega), if_neg (show ¬ pc = 57 by omega), if_neg (show ¬ pc = 60 by omega), if_neg (show ¬ pc = 63 by omega), if_neg (show ¬ pc = 64 by omega)]
theorem am_o243 {pc : Nat} (h : 162 ≤ pc) : am_m243.2.2.2.2.2 pc = none := by
  show (if pc < 82 then (if pc < 40 then (if pc < 12 then (am_f243_0 pc) else (if pc < 26 then (am_f243_1 pc) else (am_f243_2 pc))) else (if pc < 52 then (am_f243_3 pc) else (if pc < 66 then (am_f243_4 pc) else (am_f243_5 pc)))) else (if pc < 120 then (if pc < 96 then (am_f243_6 pc) else (if pc < 108 then (am_f243_7 pc) else (am_f243_8 pc))) else (if pc < 146 then (if pc < 132 then (am_f243_9 pc) else (am_f243_10 pc)) else (if pc < 160 then (am_f243_11 pc) else (am_f243_12 pc))))) = none
  rw [if_neg (show ¬ pc < 82 by omega), if_neg (show ¬ pc < 120 by omega), if_neg (show ¬ pc < 146 by omega), if_neg (show ¬ pc < 160 by omega)]
  unfold am_f243_12
  rw [if_neg (show ¬ pc = 160 by omega), if_neg (show ¬ pc = 161 by omega)]
theorem am_o244 {pc : Nat} (h : 405 ≤ pc) : am_m244.2.2.2.2.2 pc = none := by
  show (if pc < 203 then (if pc < 107 then (if pc < 45 then (if pc < 14 then (am_f244_0 pc) else (if pc < 28 then (am_f244_1 pc) else (am_f244_2 pc))) else (if pc < 74 then (if pc < 58 then (am_f244_3 pc) else (am_f244_4 pc)) else (if pc < 91 then (am_f244_5 pc) else (am_f244_6 pc)))) else (if pc < 150 then (if pc < 119 then (am_f244_7 pc) else (if pc < 136 then (am_f244_8 pc) else (am_f244_9 pc))) else (if pc < 182 then (if pc < 166 then (am_f244_10 pc) else (am_f244_11 pc)) else (if pc < 192 then (am_f244_12 pc) else (am_f244_13 pc))))) else (if pc < 305 then (if pc < 244 then (if pc < 215 then (am_f244_14 pc) else (if pc < 227 then (am_f244_15 pc) else (am_f244_16 pc))) else (if pc < 275 then (if pc < 261 then (am_f244_17 pc) else (am_f244_18 pc)) else (if pc < 294 then (am_f244_19 pc) else (am_f244_20 pc)))) else (if pc < 364 then (if pc < 334 then (if pc < 318 then (am_f244_21 pc) else (am_f244_22 pc)) else (if pc < 351 then (am_f244_23 pc) else (am_f244_24 pc))) else (if pc < 390 then (if pc < 378 then (am_f244_25 pc) else (am_f244_26 pc)) else (if pc < 404 then (am_f244_27 pc) else (am_f244_28 pc)))))) = none
  rw [if_neg (show ¬ pc < 203 by omega), if_neg (show ¬ pc < 305 by omega), if_neg (show ¬ pc < 364 by omega), if_neg (show ¬ pc < 390 by omega), if_neg (show ¬ pc < 404 by omega)]
  unfold am_f244_28
  rw [if_neg (show ¬ pc = 404 by omega)]
theorem am_o245 {pc : Nat} (h : 39 ≤ pc) : am_m245.2.2.2.2.2 pc = none := by
  show (if pc < 14 then (am_f245_0 pc) else (if pc < 29 then (am_f245_1 pc) else (am_f245_2 pc))) = none
  rw [if_neg (show ¬ pc < 14 by omega), if_neg (show ¬ pc < 29 by omega)]
  unfold am_f245_2
  rw [if_neg (show ¬ pc = 29 by omega), if_neg (show ¬ pc = 30 by omega), if_neg (show ¬ pc = 31 by omega), if_neg (show ¬ pc = 32 by omega), if_neg (show ¬ pc = 33 by omega), if_neg (show ¬ pc = 36 by omega), if_neg (show ¬ pc = 38 by omega)]
theorem am_o246 {pc : Nat} (h : 40 ≤ pc) : am_m246.2.2.2.2.2 pc = none := by
  show (if pc < 29 then (if pc < 15 then (am_f246_0 pc) else (am_f246_1 pc)) else (if pc < 39 then (am_f246_2 pc) else (am_f246_3 pc))) = none
  rw [if_neg (show ¬ pc < 29 by omega), if_neg (show ¬ pc < 39 by omega)]
  unfold am_f246_3
  rw [if_neg (show ¬ pc = 39 by omega)]
theorem am_o247 {pc : Nat} (h : 39 ≤ pc) : am_m247.2.2.2.2.2 pc = none := by
  show (if pc < 14 then (am_f247_0 pc) else (if pc < 29 then (am_f247_1 pc) else (am_f247_2 pc))) = none
  rw [if_neg (show ¬ pc < 14 by omega), if_neg (show ¬ pc < 29 by omega)]
  unfold am_f247_2
  rw [if_neg (show ¬ pc = 29 by omega), if_neg (show ¬ pc = 30 by omega), if_neg (show ¬ pc = 31 by omega), if_neg (show ¬ pc = 34 by omega), if_neg (show ¬ pc = 35 by omega), if_neg (show ¬ pc = 36 by omega), if_neg (show ¬ pc = 37 by omega), if_neg (show ¬ pc = 38 by omega)]
theorem am_o248 {pc : Nat} (h : 25 ≤ pc) : am_m248.2.2.2.2.2 pc = none := by
  show (if pc < 14 then (am_f248_0 pc) else (am_f248_1 pc)) = none
  rw [if_neg (show ¬ pc < 14 by omega)]
  unfold am_f248_1
  rw [if_neg (show ¬ pc = 14 by omega), if_neg (show ¬ pc = 17 by omega), if_neg (show ¬ pc = 18 by omega), if_neg (show ¬ pc = 19 by omega), if_neg (show ¬ pc = 20 by omega), if_neg (show ¬ pc = 23 by omega), if_neg (show ¬ pc = 24 by omega)]
theorem am_o249 {pc : Nat} (h : 75 ≤ pc) : am_m249.2.2.2.2.2 pc = none := by
  show (if pc < 34 then (if pc < 12 then (am_f249_0 pc) else (if pc < 22 then (am_f249_1 pc) else (am_f249_2 pc))) else (if pc < 45 then (am_f249_3 pc) else (if pc < 57 then (am_f249_4 pc) else (am_f249_5 pc)))) = none
  rw [if_neg (show ¬ pc < 34 by omega), if_neg (show ¬ pc < 45 by omega), if_neg (show ¬ pc < 57 by omega)]
  unfold am_f249_5
  rw [if_neg (show ¬ pc = 57 by omega), if_neg (show ¬ pc = 60 by omega), if_neg (show ¬ pc = 61 by omega), if_neg (show ¬ pc = 64 by omega), if_neg (show ¬ pc = 67 by omega), if_neg (show ¬ pc = 70 by omega), if_neg (show ¬ pc = 73 by omega), if_neg (show ¬ pc = 74 by omega)]
theorem am_o250 {pc : Nat} (h : 47 ≤ pc) : am_m250.2.2.2.2.2 pc = none := by
  show (if pc < 20 then (if pc < 11 then (am_f250_0 pc) else (am_f250_1 pc)) else (if pc < 34 then (am_f250_2 pc) else (if pc < 46 then (am_f250_3 pc) else (am_f250_4 pc)))) = none
  rw [if_neg (show ¬ pc < 20 by omega), if_neg (show ¬ pc < 34 by omega), if_neg (show ¬ pc < 46 by omega)]
  unfold am_f250_4
  rw [if_neg (show ¬ pc = 46 by omega)]
theorem am_o251 {pc : Nat} (h : 33 ≤ pc) : am_m251.2.2.2.2.2 pc = none := by
  show (if pc < 14 then (am_f251_0 pc) else (if pc < 32 then (am_f251_1 pc) else (am_f251_2 pc))) = none
  rw [if_neg (show ¬ pc < 14 by omega), if_neg (show ¬ pc < 32 by omega)]
  unfold am_f251_2
  rw [if_neg (show ¬ pc = 32 by omega)]
theorem am_o252 {pc : Nat} (h : 221 ≤ pc) : am_m252.2.2.2.2.2 pc = none := by
  show (if pc < 138 then (if pc < 96 then (if pc < 70 then (am_f252_0 pc) else (if pc < 84 then (am_f252_1 pc) else (am_f252_2 pc))) else (if pc < 112 then (am_f252_3 pc) else (if pc < 126 then (am_f252_4 pc) else (am_f252_5 pc)))) else (if pc < 178 then (if pc < 152 then (am_f252_6 pc) else (if pc < 164 then (am_f252_7 pc) else (am_f252_8 pc))) else (if pc < 204 then (if pc < 190 then (am_f252_9 pc) else (am_f252_10 pc)) else (if pc < 218 then (am_f252_11 pc) else (am_f252_12 pc))))) = none
  rw [if_neg (show ¬ pc < 138 by omega), if_neg (show ¬ pc < 178 by omega), if_neg (show ¬ pc < 204 by omega), if_neg (show ¬ pc < 218 by omega)]
  unfold am_f252_12
  rw [if_neg (show ¬ pc = 218 by omega), if_neg (show ¬ pc = 220 by omega)]
theorem am_o253 {pc : Nat} (h : 7 ≤ pc) : am_m253.2.2.2.2.2 pc = none := by
  show am_f253_0 pc = none
  unfold am_f253_0
  rw [if_neg (show ¬ pc = 0 by omega), if_neg (show ¬ pc = 1 by omega), if_neg (show ¬ pc = 2 by omega), if_neg (show ¬ pc = 5 by omega), if_neg (show ¬ pc = 6 by omega)]
theorem am_o254 {pc : Nat} (h : 7 ≤ pc) : am_m254.2.2.2.2.2 pc = none := by
  show am_f254_0 pc = none
  unfold am_f254_0
  rw [if_neg (show ¬ pc = 0 by omega), if_neg (show ¬ pc = 1 by omega), if_neg (show ¬ pc = 2 by omega), if_neg (show ¬ pc = 5 by omega), if_neg (show ¬ pc = 6 by omega)]
theorem am_o255 {pc : Nat} (h : 203 ≤ pc) : am_m255.2.2.2.2.2 pc = none := by
  show (if pc < 100 then (if pc < 42 then (if pc < 12 then (am_f255_0 pc) else (if pc < 28 then (am_f255_1 pc) else (am_f255_2 pc))) else (if pc < 67 then (if pc < 52 then (am_f255_3 pc) else (am_f255_4 pc)) else (if pc < 82 then (am_f255_5 pc) else (am_f255_6 pc)))) else (if pc < 156 then (if pc < 129 then (if pc < 112 then (am_f255_7 pc) else (am_f255_8 pc)) else (if pc < 142 then (am_f255_9 pc) else (am_f255_10 pc))) else (if pc < 186 then (if pc < 171 then (am_f255_11 pc) else (am_f255_12 pc)) else (if pc < 202 then (am_f255_13 pc) else (am_f255_14 pc))))) = none
  rw [if_neg (show ¬ pc < 100 by omega), if_neg (show ¬ pc < 156 by omega), if_neg (show ¬ pc < 186 by omega), if_neg (show ¬ pc < 202 by omega)]
  unfold am_f255_14
  rw [if_neg (show ¬ pc = 202 by omega)]
theorem am_o256 {pc : Nat} (h : 25 ≤ pc) : am_m256.2.2.2.2.2 pc = none := by
  show (if pc < 14 then (am_f256_0 pc) else (am_f256_1 pc)) = none
  rw [if_neg (show ¬ pc < 14 by omega)]
  unfold am_f256_1
  rw [if_neg (show ¬ pc = 14 by omega), if_neg (show ¬ pc = 15 by omega), if_neg (show ¬ pc = 16 by omega), if_neg (show ¬ pc = 19 by omega), if_neg (show ¬ pc = 20 by omega), if_neg (show ¬ pc = 23 by omega), if_neg (show ¬ pc = 24 by omega)]
theorem am_o257 {pc : Nat} (h : 85 ≤ pc) : am_m257.2.2.2.2.2 pc = none := by
  show (if pc < 43 then (if pc < 15 then (am_f257_0 pc) else (if pc < 29 then (am_f257_1 pc) else (am_f257_2 pc))) else (if pc < 60 then (am_f257_3 pc) else (if pc < 74 then (am_f257_4 pc) else (am_f257_5 pc)))) = none
  rw [if_neg (show ¬ pc < 43 by omega), if_neg (show ¬ pc < 60 by omega), if_neg (show ¬ pc < 74 by omega)]
  unfold am_f257_5
  rw [if_neg (show ¬ pc = 74 by omega), if_neg (show ¬ pc = 75 by omega), if_neg (show ¬ pc = 78 by omega), if_neg (show ¬ pc = 79 by omega), if_neg (show ¬ pc = 80 by omega), if_neg (show ¬ pc = 81 by omega), if_neg (show ¬ pc = 84 by omega)]
theorem am_o258 {pc : Nat} (h : 76 ≤ pc) : am_m258.2.2.2.2.2 pc = none := by
  show (if pc < 40 then (if pc < 15 then (am_f258_0 pc) else (if pc < 27 then (am_f258_1 pc) else (am_f258_2 pc))) else (if pc < 54 then (am_f258_3 pc) else (if pc < 66 then (am_f258_4 pc) else (am_f258_5 pc)))) = none
  rw [if_neg (show ¬ pc < 40 by omega), if_neg (show ¬ pc < 54 by omega), if_neg (show ¬ pc < 66 by omega)]
  unfold am_f258_5
  rw [if_neg (show ¬ pc = 66 by omega), if_neg (show ¬ pc = 69 by omega), if_neg (show ¬ pc = 70 by omega), if_neg (show ¬ pc = 72 by omega), if_neg (show ¬ pc = 75 by omega)]
theorem am_o259 {pc : Nat} (h : 106 ≤ pc) : am_m259.2.2.2.2.2 pc = none := by
  show (if pc < 52 then (if pc < 27 then (if pc < 15 then (am_f259_0 pc) else (am_f259_1 pc)) else (if pc < 40 then (am_f259_2 pc) else (am_f259_3 pc))) else (if pc < 80 then (if pc < 66 then (am_f259_4 pc) else (am_f259_5 pc)) else (if pc < 91 then (am_f259_6 pc) else (if pc < 105 then (am_f259_7 pc) else (am_f259_8 pc))))) = none
  rw [if_neg (show ¬ pc < 52 by omega), if_neg (show ¬ pc < 80 by omega), if_neg (show ¬ pc < 91 by omega), if_neg (show ¬ pc < 105 by omega)]
  unfold am_f259_8
  rw [if_neg (show ¬ pc = 105 by omega)]
theorem am_o260 {pc : Nat} (h : 188 ≤ pc) : am_m260.2.2.2.2.2 pc = none := by
  show (if pc < 108 then (if pc < 31 then (if pc < 13 then (am_f260_0 pc) else (am_f260_1 pc)) else (if pc < 87 then (am_f260_2 pc) else (if pc < 98 then (am_f260_3 pc) else (am_f260_4 pc)))) else (if pc < 145 then (if pc < 118 then (am_f260_5 pc) else (if pc < 133 then (am_f260_6 pc) else (am_f260_7 pc))) else (if pc < 158 then (am_f260_8 pc) else (if pc < 175 then (am_f260_9 pc) else (am_f260_10 pc))))) = none
  rw [if_neg (show ¬ pc < 108 by omega), if_neg (show ¬ pc < 145 by omega), if_neg (show ¬ pc < 158 by omega), if_neg (show ¬ pc < 175 by omega)]
  unfold am_f260_10
  rw [if_neg (show ¬ pc = 175 by omega), if_neg (show ¬ pc = 176 by omega), if_neg (show ¬ pc = 177 by omega), if_neg (show ¬ pc = 180 by omega), if_neg (show ¬ pc = 181 by omega), if_neg (show ¬ pc = 182 by omega), if_neg (show ¬ pc = 184 by omega), if_neg (show ¬ pc = 187 by omega)]
theorem am_o261 {pc : Nat} (h : 5 ≤ pc) : am_m261.2.2.2.2.2 pc = none := by
  show am_f261_0 pc = none
  unfold am_f261_0
  rw [if_neg (show ¬ pc = 0 by omega), if_neg (show ¬ pc = 1 by omega), if_neg (show ¬ pc = 4 by omega)]
theorem am_o262 {pc : Nat} (h : 53 ≤ pc) : am_m262.2.2.2.2.2 pc = none := by
  show (if pc < 32 then (if pc < 10 then (am_f262_0 pc) else (if pc < 22 then (am_f262_1 pc) else (am_f262_2 pc))) else (if pc < 41 then (am_f262_3 pc) else (if pc < 51 then (am_f262_4 pc) else (am_f262_5 pc)))) = none
  rw [if_neg (show ¬ pc < 32 by omega), if_neg (show ¬ pc < 41 by omega), if_neg (show ¬ pc < 51 by omega)]
  unfold am_f262_5
  rw [if_neg (show ¬ pc = 51 by omega), if_neg (show ¬ pc = 52 by omega)]
theorem am_o263 {pc : Nat} (h : 20 ≤ pc) : am_m263.2.2.2.2.2 pc = none := by
  show (if pc < 10 then (am_f263_0 pc) else (am_f263_1 pc)) = none
  rw [if_neg (show ¬ pc < 10 by omega)]
  unfold am_f263_1
  rw [if_neg (show ¬ pc = 10 by omega), if_neg (show ¬ pc = 11 by omega), if_neg (show ¬ pc = 14 by omega), if_neg (show ¬ pc = 15 by omega), if_neg (show ¬ pc = 16 by omega), if_neg (show ¬ pc = 17 by omega), if_neg (show ¬ pc = 18 by omega), if_neg (show ¬ pc = 19 by omega)]
theorem am_o264 {pc : Nat} (h : 12 ≤ pc) : am_m264.2.2.2.2.2 pc = none := by
  show am_f264_0 pc = none
  unfold am_f264_0
  rw [if_neg (show ¬ pc = 0 by omega), if_neg (show ¬ pc = 1 by omega), if_neg (show ¬ pc = 2 by omega), if_neg (show ¬ pc = 3 by omega), if_neg (show ¬ pc = 6 by omega), if_neg (show ¬ pc = 7 by omega), if_neg (show ¬ pc = 10 by omega), if_neg (show ¬ pc = 11 by omega)]
theorem am_o265 {pc : Nat} (h : 11 ≤ pc) : am_m265.2.2.2.2.2 pc = none := by
  show am_f265_0 pc = none
  unfold am_f265_0
  rw [if_neg (show ¬ pc = 0 by omega), if_neg (show ¬ pc = 1 by omega), if_neg (show ¬ pc = 2 by omega), if_neg (show ¬ pc = 5 by omega), if_neg (show ¬ pc = 6 by omega), if_neg (show ¬ pc = 9 by omega), if_neg (show ¬ pc = 10 by omega)]
theorem am_o266 {pc : Nat} (h : 12 ≤ pc) : am_m266.2.2.2.2.2 pc = none := by
  show am_f266_0 pc = none
  unfold am_f266_0
  rw [if_neg (show ¬ pc = 0 by omega), if_neg (show ¬ pc = 1 by omega), if_neg (show ¬ pc = 2 by omega), if_neg (show ¬ pc = 3 by omega), if_neg (show ¬ pc = 6 by omega), if_neg (show ¬ pc = 7 by omega), if_neg (show ¬ pc = 10 by omega), if_neg (show ¬ pc = 11 by omega)]
theorem am_o267 {pc : Nat} (h : 1504 ≤ pc) : am_m267.2.2.2.2.2 pc = none := by
  show (if pc < 832 then (if pc < 500 then (if pc < 342 then (if pc < 262 then (if pc < 224 then (if pc < 26 then (if pc < 16 then (am_f267_0 pc) else (am_f267_1 pc)) else (if pc < 214 then (am_f267_2 pc) else (am_f267_3 pc))) else (if pc < 244 then (if pc < 236 then (am_f267_4 pc) else (am_f267_5 pc)) else (if pc < 254 then (am_f267_6 pc) else (am_f267_7 pc)))) else (if pc < 304 then (if pc < 282 then (if pc < 270 then (am_f267_8 pc) else (am_f267_9 pc)) else (if pc < 292 then (am_f267_10 pc) else (am_f267_11 pc))) else (if pc < 322 then (if pc < 312 then (am_f267_12 pc) else (am_f267_13 pc)) else (if pc < 334 then (am_f267_14 pc) else (am_f267_15 pc))))) else (if pc < 418 then (if pc < 376 then (if pc < 360 then (if pc < 350 then (am_f267_16 pc) else (am_f267_17 pc)) else (if pc < 368 then (am_f267_18 pc) else (am_f267_19 pc))) else (if pc < 396 then (if pc < 388 then (am_f267_20 pc) else (am_f267_21 pc)) else (if pc < 406 then (am_f267_22 pc) else (am_f267_23 pc)))) else (if pc < 458 then (if pc < 438 then (if pc < 426 then (am_f267_24 pc) else (am_f267_25 pc)) else (if pc < 448 then (am_f267_26 pc) else (am_f267_27 pc))) else (if pc < 480 then (if pc < 470 then (am_f267_28 pc) else (am_f267_29 pc)) else (if pc < 488 then (am_f267_30 pc) else (am_f267_31 pc)))))) else (if pc < 652 then (if pc < 576 then (if pc < 534 then (if pc < 518 then (if pc < 508 then (am_f267_32 pc) else (am_f267_33 pc)) else (if pc < 526 then (am_f267_34 pc) else (am_f267_35 pc))) else (if pc < 556 then (if pc < 546 then (am_f267_36 pc) else (am_f267_37 pc)) else (if pc < 564 then (am_f267_38 pc) else (am_f267_39 pc)))) else (if pc < 614 then (if pc < 594 then (if pc < 584 then (am_f267_40 pc) else (am_f267_41 pc)) else (if pc < 606 then (am_f267_42 pc) else (am_f267_43 pc))) else (if pc < 633 then (if pc < 623 then (am_f267_44 pc) else (am_f267_45 pc)) else (if pc < 643 then (am_f267_46 pc) else (am_f267_47 pc))))) else (if pc < 740 then (if pc < 698 then (if pc < 676 then (if pc < 662 then (am_f267_48 pc) else (am_f267_49 pc)) else (if pc < 688 then (am_f267_50 pc) else (am_f267_51 pc))) else (if pc < 718 then (if pc < 710 then (am_f267_52 pc) else (am_f267_53 pc)) else (if pc < 730 then (am_f267_54 pc) else (am_f267_55 pc)))) else (if pc < 782 then (if pc < 764 then (if pc < 748 then (am_f267_56 pc) else (am_f267_57 pc)) else (if pc < 772 then (am_f267_58 pc) else (am_f267_59 pc))) else (if pc < 802 then (if pc < 790 then (am_f267_60 pc) else (am_f267_61 pc)) else (if pc < 812 then (am_f267_62 pc) else (if pc < 824 then (am_f267_63 pc) else (am_f267_64 pc)))))))) else (if pc < 1172 then (if pc < 992 then (if pc < 914 then (if pc < 876 then (if pc < 854 then (if pc < 842 then (am_f267_65 pc) else (am_f267_66 pc)) else (if pc < 864 then (am_f267_67 pc) else (am_f267_68 pc))) else (if pc < 896 then (if pc < 884 then (am_f267_69 pc) else (am_f267_70 pc)) else (if pc < 906 then (am_f267_71 pc) else (am_f267_72 pc)))) else (if pc < 952 then (if pc < 932 then (if pc < 924 then (am_f267_73 pc) else (am_f267_74 pc)) else (if pc < 944 then (am_f267_75 pc) else (am_f267_76 pc))) else (if pc < 970 then (if pc < 962 then (am_f267_77 pc) else (am_f267_78 pc)) else (if pc < 982 then (am_f267_79 pc) else (am_f267_80 pc))))) else (if pc < 1080 then (if pc < 1034 then (if pc < 1012 then (if pc < 1004 then (am_f267_81 pc) else (am_f267_82 pc)) else (if pc < 1026 then (am_f267_83 pc) else (am_f267_84 pc))) else (if pc < 1060 then (if pc < 1050 then (am_f267_85 pc) else (am_f267_86 pc)) else (if pc < 1072 then (am_f267_87 pc) else (am_f267_88 pc)))) else (if pc < 1120 then (if pc < 1102 then (if pc < 1088 then (am_f267_89 pc) else (am_f267_90 pc)) else (if pc < 1110 then (am_f267_91 pc) else (am_f267_92 pc))) else (if pc < 1148 then (if pc < 1136 then (am_f267_93 pc) else (am_f267_94 pc)) else (if pc < 1158 then (am_f267_95 pc) else (am_f267_96 pc)))))) else (if pc < 1340 then (if pc < 1254 then (if pc < 1214 then (if pc < 1194 then (if pc < 1184 then (am_f267_97 pc) else (am_f267_98 pc)) else (if pc < 1206 then (am_f267_99 pc) else (am_f267_100 pc))) else (if pc < 1236 then (if pc < 1224 then (am_f267_101 pc) else (am_f267_102 pc)) else (if pc < 1244 then (am_f267_103 pc) else (am_f267_104 pc)))) else (if pc < 1292 then (if pc < 1274 then (if pc < 1262 then (am_f267_105 pc) else (am_f267_106 pc)) else (if pc < 1282 then (am_f267_107 pc) else (am_f267_108 pc))) else (if pc < 1314 then (if pc < 1304 then (am_f267_109 pc) else (am_f267_110 pc)) else (if pc < 1326 then (am_f267_111 pc) else (am_f267_112 pc))))) else (if pc < 1418 then (if pc < 1378 then (if pc < 1358 then (if pc < 1348 then (am_f267_113 pc) else (am_f267_114 pc)) else (if pc < 1368 then (am_f267_115 pc) else (am_f267_116 pc))) else (if pc < 1400 then (if pc < 1388 then (am_f267_117 pc) else (am_f267_118 pc)) else (if pc < 1408 then (am_f267_119 pc) else (am_f267_120 pc)))) else (if pc < 1454 then (if pc < 1438 then (if pc < 1426 then (am_f267_121 pc) else (am_f267_122 pc)) else (if pc < 1446 then (am_f267_123 pc) else (am_f267_124 pc))) else (if pc < 1472 then (if pc < 1464 then (am_f267_125 pc) else (am_f267_126 pc)) else (if pc < 1484 then (am_f267_127 pc) else (if pc < 1502 then (am_f267_128 pc) else (am_f267_129 pc))))))))) = none
  rw [if_neg (show ¬ pc < 832 by omega), if_neg (show ¬ pc < 1172 by omega), if_neg (show ¬ pc < 1340 by omega), if_neg (show ¬ pc < 1418 by omega), if_neg (show ¬ pc < 1454 by omega), if_neg (show ¬ pc < 1472 by omega), if_neg (show ¬ pc < 1484 by omega), if_neg (show ¬ pc < 1502 by omega)]
  unfold am_f267_129
  rw [if_neg (show ¬ pc = 1502 by omega), if_neg (show ¬ pc = 1503 by omega)]
