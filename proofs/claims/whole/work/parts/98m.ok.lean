theorem am_use {lo n M pc : Nat} (h : ((List.range' lo n).all fun M => (List.range ((am_ls[M]?).getD 0)).all (am_ok M)) = true) (h1 : lo ≤ M) (h2 : M < lo + n) (h3 : pc < (am_ls[M]?).getD 0) : am_ok M pc = true :=
  List.all_eq_true.mp (List.all_eq_true.mp h M (List.mem_range'_1.mpr ⟨h1, h2⟩)) pc (List.mem_range.mpr h3)
theorem am_use2 {lo n M pc : Nat} (h : ((List.range' lo n).all (am_ok M)) = true) (h1 : lo ≤ pc) (h2 : pc < lo + n) : am_ok M pc = true := List.all_eq_true.mp h pc (List.mem_range'_1.mpr ⟨h1, h2⟩)
theorem am_non (M : Nat) (hM : M < 268) : ∀ pc, (am_ls[M]?).getD 0 ≤ pc → (am_mt M).2.2.2.2.2 pc = none := by
  match M, hM with
  | 0, _ => exact fun pc h => am_o0 h
  | 1, _ => exact fun pc h => am_o1 h
  | 2, _ => exact fun pc h => am_o2 h
  | 3, _ => exact fun pc h => am_o3 h
  | 4, _ => exact fun pc h => am_o4 h
  | 5, _ => exact fun pc h => am_o5 h
  | 6, _ => exact fun pc h => am_o6 h
  | 7, _ => exact fun pc h => am_o7 h
  | 8, _ => exact fun pc h => am_o8 h
  | 9, _ => exact fun pc h => am_o9 h
  | 10, _ => exact fun pc h => am_o10 h
  | 11, _ => exact fun pc h => am_o11 h
  | 12, _ => exact fun pc h => am_o12 h
  | 13, _ => exact fun pc h => am_o13 h
  | 14, _ => exact fun pc h => am_o14 h
  | 15, _ => exact fun pc h => am_o15 h
  | 16, _ => exact fun pc h => am_o16 h
  | 17, _ => exact fun pc h => am_o17 h
  | 18, _ => exact fun pc h => am_o18 h
  | 19, _ => exact fun pc h => am_o19 h
  | 20, _ => exact fun pc h => am_o20 h
  | 21, _ => exact fun pc h => am_o21 h
  | 22, _ => exact fun pc h => am_o22 h
  | 23, _ => exact fun pc h => am_o23 h
  | 24, _ => exact fun pc h => am_o24 h
  | 25, _ => exact fun pc h => am_o25 h
  | 26, _ => exact fun pc h => am_o26 h
  | 27, _ => exact fun pc h => am_o27 h
  | 28, _ => exact fun pc h => am_o28 h
  | 29, _ => exact fun pc h => am_o29 h
  | 30, _ => exact fun pc h => am_o30 h
  | 31, _ => exact fun pc h => am_o31 h
  | 32, _ => exact fun pc h => am_o32 h
  | 33, _ => exact fun pc h => am_o33 h
  | 34, _ => exact fun pc h => am_o34 h
  | 35, _ => exact fun pc h => am_o35 h
  | 36, _ => exact fun pc h => am_o36 h
  | 37, _ => exact fun pc h => am_o37 h
  | 38, _ => exact fun pc h => am_o38 h
  | 39, _ => exact fun pc h => am_o39 h
  | 40, _ => exact fun pc h => am_o40 h
  | 41, _ => exact fun pc h => am_o41 h
  | 42, _ => exact fun pc h => am_o42 h
  | 43, _ => exact fun pc h => am_o43 h
  | 44, _ => exact fun pc h => am_o44 h
  | 45, _ => exact fun pc h => am_o45 h
  | 46, _ => exact fun pc h => am_o46 h
  | 47, _ => exact fun pc h => am_o47 h
  | 48, _ => exact fun pc h => am_o48 h
  | 49, _ => exact fun pc h => am_o49 h
  | 50, _ => exact fun pc h => am_o50 h
  | 51, _ => exact fun pc h => am_o51 h
  | 52, _ => exact fun pc h => am_o52 h
  | 53, _ => exact fun pc h => am_o53 h
  | 54, _ => exact fun pc h => am_o54 h
  | 55, _ => exact fun pc h => am_o55 h
  | 56, _ => exact fun pc h => am_o56 h
  | 57, _ => exact fun pc h => am_o57 h
  | 58, _ => exact fun pc h => am_o58 h
  | 59, _ => exact fun pc h => am_o59 h
  | 60, _ => exact fun pc h => am_o60 h
  | 61, _ => exact fun pc h => am_o61 h
  | 62, _ => exact fun pc h => am_o62 h
  | 63, _ => exact fun pc h => am_o63 h
  | 64, _ => exact fun pc h => am_o64 h
  | 65, _ => exact fun pc h => am_o65 h
  | 66, _ => exact fun pc h => am_o66 h
  | 67, _ => exact fun pc h => am_o67 h
  | 68, _ => exact fun pc h => am_o68 h
  | 69, _ => exact fun pc h => am_o69 h
  | 70, _ => exact fun pc h => am_o70 h
  | 71, _ => exact fun pc h => am_o71 h
  | 72, _ => exact fun pc h => am_o72 h
  | 73, _ => exact fun pc h => am_o73 h
  | 74, _ => exact fun pc h => am_o74 h
  | 75, _ => exact fun pc h => am_o75 h
  | 76, _ => exact fun pc h => am_o76 h
  | 77, _ => exact fun pc h => am_o77 h
  | 78, _ => exact fun pc h => am_o78 h
  | 79, _ => exact fun pc h => am_o79 h
  | 80, _ => exact fun pc h => am_o80 h
  | 81, _ => exact fun pc h => am_o81 h
  | 82, _ => exact fun pc h => am_o82 h
  | 83, _ => exact fun pc h => am_o83 h
  | 84, _ => exact fun pc h => am_o84 h
  | 85, _ => exact fun pc h => am_o85 h
  | 86, _ => exact fun pc h => am_o86 h
  | 87, _ => exact fun pc h => am_o87 h
  | 88, _ => exact fun pc h => am_o88 h
  | 89, _ => exact fun pc h => am_o89 h
  | 90, _ => exact fun pc h => am_o90 h
  | 91, _ => exact fun pc h => am_o91 h
  | 92, _ => exact fun pc h => am_o92 h
  | 93, _ => exact fun pc h => am_o93 h
  | 94, _ => exact fun pc h => am_o94 h
  | 95, _ => exact fun pc h => am_o95 h
  | 96, _ => exact fun pc h => am_o96 h
  | 97, _ => exact fun pc h => am_o97 h
  | 98, _ => exact fun pc h => am_o98 h
  | 99, _ => exact fun pc h => am_o99 h
  | 100, _ => exact fun pc h => am_o100 h
  | 101, _ => exact fun pc h => am_o101 h
  | 102, _ => exact fun pc h => am_o102 h
  | 103, _ => exact fun pc h => am_o103 h
  | 104, _ => exact fun pc h => am_o104 h
  | 105, _ => exact fun pc h => am_o105 h
  | 106, _ => exact fun pc h => am_o106 h
  | 107, _ => exact fun pc h => am_o107 h
  | 108, _ => exact fun pc h => am_o108 h
  | 109, _ => exact fun pc h => am_o109 h
  | 110, _ => exact fun pc h => am_o110 h
  | 111, _ => exact fun pc h => am_o111 h
  | 112, _ => exact fun pc h => am_o112 h
  | 113, _ => exact fun pc h => am_o113 h
  | 114, _ => exact fun pc h => am_o114 h
  | 115, _ => exact fun pc h => am_o115 h
  | 116, _ => exact fun pc h => am_o116 h
  | 117, _ => exact fun pc h => am_o117 h
  | 118, _ => exact fun pc h => am_o118 h
  | 119, _ => exact fun pc h => am_o119 h
  | 120, _ => exact fun pc h => am_o120 h
  | 121, _ => exact fun pc h => am_o121 h
  | 122, _ => exact fun pc h => am_o122 h
  | 123, _ => exact fun pc h => am_o123 h
  | 124, _ => exact fun pc h => am_o124 h
  | 125, _ => exact fun pc h => am_o125 h
  | 126, _ => exact fun pc h => am_o126 h
  | 127, _ => exact fun pc h => am_o127 h
  | 128, _ => exact fun pc h => am_o128 h
  | 129, _ => exact fun pc h => am_o129 h
  | 130, _ => exact fun pc h => am_o130 h
  | 131, _ => exact fun pc h => am_o131 h
  | 132, _ => exact fun pc h => am_o132 h
  | 133, _ => exact fun pc h => am_o133 h
  | 134, _ => exact fun pc h => am_o134 h
  | 135, _ => exact fun pc h => am_o135 h
  | 136, _ => exact fun pc h => am_o136 h
  | 137, _ => exact fun pc h => am_o137 h
  | 138, _ => exact fun pc h => am_o138 h
  | 139, _ => exact fun pc h => am_o139 h
  | 140, _ => exact fun pc h => am_o140 h
  | 141, _ => exact fun pc h => am_o141 h
  | 142, _ => exact fun pc h => am_o142 h
  | 143, _ => exact fun pc h => am_o143 h
  | 144, _ => exact fun pc h => am_o144 h
  | 145, _ => exact fun pc h => am_o145 h
  | 146, _ => exact fun pc h => am_o146 h
  | 147, _ => exact fun pc h => am_o147 h
  | 148, _ => exact fun pc h => am_o148 h
  | 149, _ => exact fun pc h => am_o149 h
  | 150, _ => exact fun pc h => am_o150 h
  | 151, _ => exact fun pc h => am_o151 h
  | 152, _ => exact fun pc h => am_o152 h
  | 153, _ => exact fun pc h => am_o153 h
  | 154, _ => exact fun pc h => am_o154 h
  | 155, _ => exact fun pc h => am_o155 h
  | 156, _ => exact fun pc h => am_o156 h
  | 157, _ => exact fun pc h => am_o157 h
  | 158, _ => exact fun pc h => am_o158 h
  | 159, _ => exact fun pc h => am_o159 h
  | 160, _ => exact fun pc h => am_o160 h
  | 161, _ => exact fun pc h => am_o161 h
  | 162, _ => exact fun pc h => am_o162 h
  | 163, _ => exact fun pc h => am_o163 h
  | 164, _ => exact fun pc h => am_o164 h
  | 165, _ => exact fun pc h => am_o165 h
  | 166, _ => exact fun pc h => am_o166 h
  | 167, _ => exact fun pc h => am_o167 h
  | 168, _ => exact fun pc h => am_o168 h
  | 169, _ => exact fun pc h => am_o169 h
  | 170, _ => exact fun pc h => am_o170 h
  | 171, _ => exact fun pc h => am_o171 h
  | 172, _ => exact fun pc h => am_o172 h
  | 173, _ => exact fun pc h => am_o173 h
  | 174, _ => exact fun pc h => am_o174 h
  | 175, _ => exact fun pc h => am_o175 h
  | 176, _ => exact fun pc h => am_o176 h
  | 177, _ => exact fun pc h => am_o177 h
  | 178, _ => exact fun pc h => am_o178 h
  | 179, _ => exact fun pc h => am_o179 h
  | 180, _ => exact fun pc h => am_o180 h
  | 181, _ => exact fun pc h => am_o181 h
  | 182, _ => exact fun pc h => am_o182 h
  | 183, _ => exact fun pc h => am_o183 h
  | 184, _ => exact fun pc h => am_o184 h
  | 185, _ => exact fun pc h => am_o185 h
  | 186, _ => exact fun pc h => am_o186 h
  | 187, _ => exact fun pc h => am_o187 h
  | 188, _ => exact fun pc h => am_o188 h
  | 189, _ => exact fun pc h => am_o189 h
  | 190, _ => exact fun pc h => am_o190 h
  | 191, _ => exact fun pc h => am_o191 h
  | 192, _ => exact fun pc h => am_o192 h
  | 193, _ => exact fun pc h => am_o193 h
  | 194, _ => exact fun pc h => am_o194 h
  | 195, _ => exact fun pc h => am_o195 h
  | 196, _ => exact fun pc h => am_o196 h
  | 197, _ => exact fun pc h => am_o197 h
  | 198, _ => exact fun pc h => am_o198 h
  | 199, _ => exact fun pc h => am_o199 h
  | 200, _ => exact fun pc h => am_o200 h
  | 201, _ => exact fun pc h => am_o201 h
  | 202, _ => exact fun pc h => am_o202 h
  | 203, _ => exact fun pc h => am_o203 h
  | 204, _ => exact fun pc h => am_o204 h
  | 205, _ => exact fun pc h => am_o205 h
  | 206, _ => exact fun pc h => am_o206 h
  | 207, _ => exact fun pc h => am_o207 h
  | 208, _ => exact fun pc h => am_o208 h
  | 209, _ => exact fun pc h => am_o209 h
  | 210, _ => exact fun pc h => am_o210 h
  | 211, _ => exact fun pc h => am_o211 h
  | 212, _ => exact fun pc h => am_o212 h
  | 213, _ => exact fun pc h => am_o213 h
  | 214, _ => exact fun pc h => am_o214 h
  | 215, _ => exact fun pc h => am_o215 h
  | 216, _ => exact fun pc h => am_o216 h
  | 217, _ => exact fun pc h => am_o217 h
  | 218, _ => exact fun pc h => am_o218 h
  | 219, _ => exact fun pc h => am_o219 h
  | 220, _ => exact fun pc h => am_o220 h
  | 221, _ => exact fun pc h => am_o221 h
  | 222, _ => exact fun pc h => am_o222 h
  | 223, _ => exact fun pc h => am_o223 h
  | 224, _ => exact fun pc h => am_o224 h
  | 225, _ => exact fun pc h => am_o225 h
  | 226, _ => exact fun pc h => am_o226 h
  | 227, _ => exact fun pc h => am_o227 h
  | 228, _ => exact fun pc h => am_o228 h
  | 229, _ => exact fun pc h => am_o229 h
  | 230, _ => exact fun pc h => am_o230 h
  | 231, _ => exact fun pc h => am_o231 h
  | 232, _ => exact fun pc h => am_o232 h
  | 233, _ => exact fun pc h => am_o233 h
  | 234, _ => exact fun pc h => am_o234 h
  | 235, _ => exact fun pc h => am_o235 h
  | 236, _ => exact fun pc h => am_o236 h
  | 237, _ => exact fun pc h => am_o237 h
  | 238, _ => exact fun pc h => am_o238 h
  | 239, _ => exact fun pc h => am_o239 h
  | 240, _ => exact fun pc h => am_o240 h
  | 241, _ => exact fun pc h => am_o241 h
  | 242, _ => exact fun pc h => am_o242 h
  | 243, _ => exact fun pc h => am_o243 h
  | 244, _ => exact fun pc h => am_o244 h
  | 245, _ => exact fun pc h => am_o245 h
  | 246, _ => exact fun pc h => am_o246 h
  | 247, _ => exact fun pc h => am_o247 h
  | 248, _ => exact fun pc h => am_o248 h
  | 249, _ => exact fun pc h => am_o249 h
  | 250, _ => exact fun pc h => am_o250 h
  | 251, _ => exact fun pc h => am_o251 h
  | 252, _ => exact fun pc h => am_o252 h
  | 253, _ => exact fun pc h => am_o253 h
  | 254, _ => exact fun pc h => am_o254 h
  | 255, _ => exact fun pc h => am_o255 h
  | 256, _ => exact fun pc h => am_o256 h
  | 257, _ => exact fun pc h => am_o257 h
  | 258, _ => exact fun pc h => am_o258 h
  | 259, _ => exact fun pc h => am_o259 h
  | 260, _ => exact fun pc h => am_o260 h
  | 261, _ => exact fun pc h => am_o261 h
  | 262, _ => exact fun pc h => am_o262 h
  | 263, _ => exact fun pc h => am_o263 h
  | 264, _ => exact fun pc h => am_o264 h
  | 265, _ => exact fun pc h => am_o265 h
  | 266, _ => exact fun pc h => am_o266 h
  | 267, _ => exact fun pc h => am_o267 h
  | n + 268, h => exact absurd h (by omega)
theorem am_rig (M : Nat) (hM : M < 268) (pc : Nat) (hp : pc < (am_ls[M]?).getD 0) : am_ok M pc = true := by
  by_cases h0 : M < 9
  · exact am_use am_k0 (by omega) (by omega) hp
  by_cases h1 : M < 27
  · exact am_use am_k1 (by omega) (by omega) hp
  by_cases h2 : M < 38
  · exact am_use am_k2 (by omega) (by omega) hp
  by_cases h3 : M < 47
  · exact am_use am_k3 (by omega) (by omega) hp
  by_cases h4 : M < 63
  · exact am_use am_k4 (by omega) (by omega) hp
  by_cases h5 : M < 82
  · exact am_use am_k5 (by omega) (by omega) hp
  by_cases h6 : M < 96
  · exact am_use am_k6 (by omega) (by omega) hp
  by_cases h7 : M < 97
  · obtain rfl : M = 96 := by omega
    have hp2 : pc < 302 := hp
    by_cases k7 : pc < 120
    · exact am_use2 am_k7 (by omega) (by omega)
    by_cases k8 : pc < 240
    · exact am_use2 am_k8 (by omega) (by omega)
    by_cases k9 : pc < 302
    · exact am_use2 am_k9 (by omega) (by omega)
    omega
  by_cases h10 : M < 106
  · exact am_use am_k10 (by omega) (by omega) hp
  by_cases h11 : M < 115
  · exact am_use am_k11 (by omega) (by omega) hp
  by_cases h12 : M < 127
  · exact am_use am_k12 (by omega) (by omega) hp
  by_cases h13 : M < 145
  · exact am_use am_k13 (by omega) (by omega) hp
  by_cases h14 : M < 161
  · exact am_use am_k14 (by omega) (by omega) hp
  by_cases h15 : M < 166
  · exact am_use am_k15 (by omega) (by omega) hp
  by_cases h16 : M < 167
  · obtain rfl : M = 166 := by omega
    have hp2 : pc < 1189 := hp
    by_cases k16 : pc < 120
    · exact am_use2 am_k16 (by omega) (by omega)
    by_cases k17 : pc < 240
    · exact am_use2 am_k17 (by omega) (by omega)
    by_cases k18 : pc < 360
    · exact am_use2 am_k18 (by omega) (by omega)
    by_cases k19 : pc < 480
    · exact am_use2 am_k19 (by omega) (by omega)
    by_cases k20 : pc < 600
    · exact am_use2 am_k20 (by omega) (by omega)
    by_cases k21 : pc < 720
    · exact am_use2 am_k21 (by omega) (by omega)
    by_cases k22 : pc < 840
    · exact am_use2 am_k22 (by omega) (by omega)
    by_cases k23 : pc < 960
    · exact am_use2 am_k23 (by omega) (by omega)
    by_cases k24 : pc < 1080
    · exact am_use2 am_k24 (by omega) (by omega)
    by_cases k25 : pc < 1189
    · exact am_use2 am_k25 (by omega) (by omega)
    omega
  by_cases h26 : M < 180
  · exact am_use am_k26 (by omega) (by omega) hp
  by_cases h27 : M < 188
  · exact am_use am_k27 (by omega) (by omega) hp
  by_cases h28 : M < 197
  · exact am_use am_k28 (by omega) (by omega) hp
  by_cases h29 : M < 209
  · exact am_use am_k29 (by omega) (by omega) hp
  by_cases h30 : M < 215
  · exact am_use am_k30 (by omega) (by omega) hp
  by_cases h31 : M < 222
  · exact am_use am_k31 (by omega) (by omega) hp
  by_cases h32 : M < 233
  · exact am_use am_k32 (by omega) (by omega) hp
  by_cases h33 : M < 240
  · exact am_use am_k33 (by omega) (by omega) hp
  by_cases h34 : M < 244
  · exact am_use am_k34 (by omega) (by omega) hp
  by_cases h35 : M < 245
  · obtain rfl : M = 244 := by omega
    have hp2 : pc < 405 := hp
    by_cases k35 : pc < 120
    · exact am_use2 am_k35 (by omega) (by omega)
    by_cases k36 : pc < 240
    · exact am_use2 am_k36 (by omega) (by omega)
    by_cases k37 : pc < 360
    · exact am_use2 am_k37 (by omega) (by omega)
    by_cases k38 : pc < 405
    · exact am_use2 am_k38 (by omega) (by omega)
    omega
  by_cases h39 : M < 255
  · exact am_use am_k39 (by omega) (by omega) hp
  by_cases h40 : M < 262
  · exact am_use am_k40 (by omega) (by omega) hp
  by_cases h41 : M < 267
  · exact am_use am_k41 (by omega) (by omega) hp
  by_cases h42 : M < 268
  · obtain rfl : M = 267 := by omega
    have hp2 : pc < 1504 := hp
    by_cases k42 : pc < 120
    · exact am_use2 am_k42 (by omega) (by omega)
    by_cases k43 : pc < 240
    · exact am_use2 am_k43 (by omega) (by omega)
    by_cases k44 : pc < 360
    · exact am_use2 am_k44 (by omega) (by omega)
    by_cases k45 : pc < 480
    · exact am_use2 am_k45 (by omega) (by omega)
    by_cases k46 : pc < 600
    · exact am_use2 am_k46 (by omega) (by omega)
    by_cases k47 : pc < 720
    · exact am_use2 am_k47 (by omega) (by omega)
    by_cases k48 : pc < 840
    · exact am_use2 am_k48 (by omega) (by omega)
    by_cases k49 : pc < 960
    · exact am_use2 am_k49 (by omega) (by omega)
    by_cases k50 : pc < 1080
    · exact am_use2 am_k50 (by omega) (by omega)
    by_cases k51 : pc < 1200
    · exact am_use2 am_k51 (by omega) (by omega)
    by_cases k52 : pc < 1320
    · exact am_use2 am_k52 (by omega) (by omega)
    by_cases k53 : pc < 1440
    · exact am_use2 am_k53 (by omega) (by omega)
    by_cases k54 : pc < 1504
    · exact am_use2 am_k54 (by omega) (by omega)
    omega
  omega
theorem am_OK (M : Nat) (hM : M < 268) (pc : Nat) : am_ok M pc = true := by
  rcases Nat.lt_or_ge pc ((am_ls[M]?).getD 0) with h | h
  · exact am_rig M hM pc h
  · unfold am_ok
    rw [am_non M hM pc h]
