/-- the kinds and lengths of the cells that stay: by number -/
def ly_T : List (Nat × Nat × Nat) := [(6, 11, 0), (7, 104, 12), (8, 105, 24), (9, 6, 0), (10, 106, 60), (71, 5, 0), (72, 102, 400), (73, 100, 400), (74, 100, 5), (75, 8, 0), (76, 101, 8), (77, 101, 64), (78, 107, 12), (79, 101, 24), (80, 0, 0), (81, 100, 24), (82, 100, 13), (83, 100, 13), (84, 100, 13), (85, 109, 13), (99, 101, 13), (100, 101, 13), (101, 101, 13), (102, 100, 13), (103, 103, 13), (104, 100, 13), (105, 4, 0), (106, 100, 360), (107, 101, 12), (108, 101, 12), (109, 1, 0), (110, 100, 40), (111, 108, 6), (216, 12, 0), (217, 100, 12), (218, 100, 12), (219, 100, 12), (220, 103, 12), (221, 100, 12), (222, 100, 24), (223, 100, 24), (224, 100, 24), (225, 100, 24), (226, 100, 24), (227, 101, 24), (228, 100, 60), (229, 100, 60), (230, 100, 60), (231, 100, 60), (232, 100, 60), (233, 100, 60), (234, 100, 400), (235, 100, 13), (236, 100, 5200), (237, 100, 5200), (238, 100, 5200), (239, 100, 65), (240, 103, 13), (241, 103, 13), (242, 100, 13), (243, 100, 13), (244, 100, 13), (245, 100, 13), (246, 100, 13), (247, 100, 360), (248, 100, 40), (249, 100, 6), (250, 100, 6), (251, 100, 6), (252, 101, 2400), (253, 100, 42), (254, 100, 85), (255, 101, 420), (256, 100, 24), (257, 100, 24), (258, 100, 24), (259, 100, 53248), (260, 100, 24), (261, 101, 12), (262, 101, 12)]
/-- their references: cell, place, cell -/
def ly_R : List (Nat × Nat × Nat) := [(6, 1, 7), (6, 3, 8), (6, 5, 9), (6, 6, 71), (6, 7, 75), (6, 8, 78), (6, 13, 79), (6, 14, 80), (6, 15, 105), (6, 16, 109), (6, 17, 111), (9, 0, 10), (71, 0, 72), (71, 2, 73), (71, 4, 74), (75, 0, 76), (75, 1, 77), (80, 0, 81), (80, 1, 82), (80, 2, 83), (80, 3, 84), (80, 4, 85), (80, 5, 99), (80, 6, 100), (80, 7, 101), (80, 8, 102), (80, 9, 103), (80, 10, 104), (105, 0, 106), (105, 2, 107), (105, 3, 108), (109, 0, 110), (216, 2, 217), (216, 3, 218), (216, 4, 219), (216, 5, 220), (216, 6, 221), (216, 8, 222), (216, 9, 223), (216, 10, 224), (216, 11, 225), (216, 12, 226), (216, 13, 227), (216, 15, 228), (216, 16, 229), (216, 17, 230), (216, 18, 231), (216, 19, 232), (216, 20, 233), (216, 21, 234), (216, 24, 235), (216, 25, 236), (216, 26, 237), (216, 27, 238), (216, 28, 239), (216, 29, 240), (216, 30, 241), (216, 31, 242), (216, 32, 243), (216, 33, 244), (216, 34, 245), (216, 35, 246), (216, 40, 247), (216, 41, 248), (216, 43, 249), (216, 44, 250), (216, 45, 251), (216, 46, 252), (216, 48, 253), (216, 49, 254), (216, 60, 255), (216, 62, 256), (216, 63, 257), (216, 64, 258), (216, 65, 259), (216, 67, 260), (216, 68, 261), (216, 69, 262)]
def Lay (h : AH) : Prop := 263 ≤ am_sz h ∧ (∀ q ∈ ly_T, am_kd h q.1 = q.2.1 ∧ am_ln h q.1 = q.2.2) ∧ (∀ q ∈ ly_R, am_gr h q.1 q.2.1 = some q.2.2) ∧ ((∀ i, i < 12 → am_kd h (112 + i) = 2) ∧ (∀ i, i < 24 → am_kd h (124 + i) = 3) ∧ (∀ i, i < 60 → am_kd h (11 + i) = 7) ∧ (∀ i, i < 12 → am_kd h (148 + 4 * i) = 9) ∧ (∀ i, i < 12 → am_kd h (151 + 4 * i) = 100 ∧ am_ln h (151 + 4 * i) = 5) ∧ (∀ i, i < 6 → am_kd h (196 + 3 * i) = 10) ∧ (∀ i, i < 6 → am_kd h (198 + 3 * i) = 101 ∧ am_ln h (198 + 3 * i) = 24) ∧ (∀ i, i < 13 → am_kd h (86 + i) = 101 ∧ am_ln h (86 + i) = 13)) ∧ ((∀ i, i < 12 → am_gr h 7 i = some (112 + i)) ∧ (∀ i, i < 24 → am_gr h 8 i = some (124 + i)) ∧ (∀ i, i < 60 → am_gr h 10 i = some (11 + i)) ∧ (∀ i, i < 12 → am_gr h 78 i = some (148 + 4 * i)) ∧ (∀ i, i < 6 → am_gr h 111 i = some (196 + 3 * i)) ∧ (∀ i, i < 13 → am_gr h 85 i = some (86 + i))) ∧ (∀ i, i < 12 → am_gr h (148 + 4 * i) 2 = some (151 + 4 * i)) ∧ (∀ i, i < 6 → am_gr h (196 + 3 * i) 4 = some (198 + 3 * i))
theorem Lay.k {h : AH} (L : Lay h) (a : Nat) {k n : Nat} (i : Nat) (e : ly_T[i]? = some (a, k, n)) : am_kd h a = k := (L.2.1 (a, k, n) (List.mem_of_getElem? e)).1
theorem Lay.n {h : AH} (L : Lay h) (a : Nat) {k n : Nat} (i : Nat) (e : ly_T[i]? = some (a, k, n)) : am_ln h a = n := (L.2.1 (a, k, n) (List.mem_of_getElem? e)).2
theorem Lay.r {h : AH} (L : Lay h) (a k : Nat) {v : Nat} (i : Nat) (e : ly_R[i]? = some (a, k, v)) : am_gr h a k = some v := L.2.2.1 (a, k, v) (List.mem_of_getElem? e)
theorem lk6 {h : AH} (L : Lay h) : am_kd h 6 = 11 := L.k 6 0 rfl
theorem lk7 {h : AH} (L : Lay h) : am_kd h 7 = 104 := L.k 7 1 rfl
theorem ln7 {h : AH} (L : Lay h) : am_ln h 7 = 12 := L.n 7 1 rfl
theorem lk8 {h : AH} (L : Lay h) : am_kd h 8 = 105 := L.k 8 2 rfl
theorem ln8 {h : AH} (L : Lay h) : am_ln h 8 = 24 := L.n 8 2 rfl
theorem lk9 {h : AH} (L : Lay h) : am_kd h 9 = 6 := L.k 9 3 rfl
theorem lk10 {h : AH} (L : Lay h) : am_kd h 10 = 106 := L.k 10 4 rfl
theorem ln10 {h : AH} (L : Lay h) : am_ln h 10 = 60 := L.n 10 4 rfl
theorem lk71 {h : AH} (L : Lay h) : am_kd h 71 = 5 := L.k 71 5 rfl
theorem lk72 {h : AH} (L : Lay h) : am_kd h 72 = 102 := L.k 72 6 rfl
theorem ln72 {h : AH} (L : Lay h) : am_ln h 72 = 400 := L.n 72 6 rfl
theorem lk73 {h : AH} (L : Lay h) : am_kd h 73 = 100 := L.k 73 7 rfl
theorem ln73 {h : AH} (L : Lay h) : am_ln h 73 = 400 := L.n 73 7 rfl
theorem lk74 {h : AH} (L : Lay h) : am_kd h 74 = 100 := L.k 74 8 rfl
theorem ln74 {h : AH} (L : Lay h) : am_ln h 74 = 5 := L.n 74 8 rfl
theorem lk75 {h : AH} (L : Lay h) : am_kd h 75 = 8 := L.k 75 9 rfl
theorem lk76 {h : AH} (L : Lay h) : am_kd h 76 = 101 := L.k 76 10 rfl
theorem ln76 {h : AH} (L : Lay h) : am_ln h 76 = 8 := L.n 76 10 rfl
theorem lk77 {h : AH} (L : Lay h) : am_kd h 77 = 101 := L.k 77 11 rfl
theorem ln77 {h : AH} (L : Lay h) : am_ln h 77 = 64 := L.n 77 11 rfl
theorem lk78 {h : AH} (L : Lay h) : am_kd h 78 = 107 := L.k 78 12 rfl
theorem ln78 {h : AH} (L : Lay h) : am_ln h 78 = 12 := L.n 78 12 rfl
theorem lk79 {h : AH} (L : Lay h) : am_kd h 79 = 101 := L.k 79 13 rfl
theorem ln79 {h : AH} (L : Lay h) : am_ln h 79 = 24 := L.n 79 13 rfl
theorem lk80 {h : AH} (L : Lay h) : am_kd h 80 = 0 := L.k 80 14 rfl
theorem lk81 {h : AH} (L : Lay h) : am_kd h 81 = 100 := L.k 81 15 rfl
theorem ln81 {h : AH} (L : Lay h) : am_ln h 81 = 24 := L.n 81 15 rfl
theorem lk82 {h : AH} (L : Lay h) : am_kd h 82 = 100 := L.k 82 16 rfl
theorem ln82 {h : AH} (L : Lay h) : am_ln h 82 = 13 := L.n 82 16 rfl
theorem lk83 {h : AH} (L : Lay h) : am_kd h 83 = 100 := L.k 83 17 rfl
theorem ln83 {h : AH} (L : Lay h) : am_ln h 83 = 13 := L.n 83 17 rfl
theorem lk84 {h : AH} (L : Lay h) : am_kd h 84 = 100 := L.k 84 18 rfl
theorem ln84 {h : AH} (L : Lay h) : am_ln h 84 = 13 := L.n 84 18 rfl
theorem lk85 {h : AH} (L : Lay h) : am_kd h 85 = 109 := L.k 85 19 rfl
theorem ln85 {h : AH} (L : Lay h) : am_ln h 85 = 13 := L.n 85 19 rfl
theorem lk99 {h : AH} (L : Lay h) : am_kd h 99 = 101 := L.k 99 20 rfl
theorem ln99 {h : AH} (L : Lay h) : am_ln h 99 = 13 := L.n 99 20 rfl
theorem lk100 {h : AH} (L : Lay h) : am_kd h 100 = 101 := L.k 100 21 rfl
theorem ln100 {h : AH} (L : Lay h) : am_ln h 100 = 13 := L.n 100 21 rfl
theorem lk101 {h : AH} (L : Lay h) : am_kd h 101 = 101 := L.k 101 22 rfl
theorem ln101 {h : AH} (L : Lay h) : am_ln h 101 = 13 := L.n 101 22 rfl
theorem lk102 {h : AH} (L : Lay h) : am_kd h 102 = 100 := L.k 102 23 rfl
theorem ln102 {h : AH} (L : Lay h) : am_ln h 102 = 13 := L.n 102 23 rfl
theorem lk103 {h : AH} (L : Lay h) : am_kd h 103 = 103 := L.k 103 24 rfl
theorem ln103 {h : AH} (L : Lay h) : am_ln h 103 = 13 := L.n 103 24 rfl
theorem lk104 {h : AH} (L : Lay h) : am_kd h 104 = 100 := L.k 104 25 rfl
theorem ln104 {h : AH} (L : Lay h) : am_ln h 104 = 13 := L.n 104 25 rfl
theorem lk105 {h : AH} (L : Lay h) : am_kd h 105 = 4 := L.k 105 26 rfl
theorem lk106 {h : AH} (L : Lay h) : am_kd h 106 = 100 := L.k 106 27 rfl
theorem ln106 {h : AH} (L : Lay h) : am_ln h 106 = 360 := L.n 106 27 rfl
theorem lk107 {h : AH} (L : Lay h) : am_kd h 107 = 101 := L.k 107 28 rfl
theorem ln107 {h : AH} (L : Lay h) : am_ln h 107 = 12 := L.n 107 28 rfl
theorem lk108 {h : AH} (L : Lay h) : am_kd h 108 = 101 := L.k 108 29 rfl
theorem ln108 {h : AH} (L : Lay h) : am_ln h 108 = 12 := L.n 108 29 rfl
theorem lk109 {h : AH} (L : Lay h) : am_kd h 109 = 1 := L.k 109 30 rfl
theorem lk110 {h : AH} (L : Lay h) : am_kd h 110 = 100 := L.k 110 31 rfl
theorem ln110 {h : AH} (L : Lay h) : am_ln h 110 = 40 := L.n 110 31 rfl
theorem lk111 {h : AH} (L : Lay h) : am_kd h 111 = 108 := L.k 111 32 rfl
theorem ln111 {h : AH} (L : Lay h) : am_ln h 111 = 6 := L.n 111 32 rfl
theorem lk216 {h : AH} (L : Lay h) : am_kd h 216 = 12 := L.k 216 33 rfl
theorem lk217 {h : AH} (L : Lay h) : am_kd h 217 = 100 := L.k 217 34 rfl
theorem ln217 {h : AH} (L : Lay h) : am_ln h 217 = 12 := L.n 217 34 rfl
theorem lk218 {h : AH} (L : Lay h) : am_kd h 218 = 100 := L.k 218 35 rfl
theorem ln218 {h : AH} (L : Lay h) : am_ln h 218 = 12 := L.n 218 35 rfl
theorem lk219 {h : AH} (L : Lay h) : am_kd h 219 = 100 := L.k 219 36 rfl
theorem ln219 {h : AH} (L : Lay h) : am_ln h 219 = 12 := L.n 219 36 rfl
theorem lk220 {h : AH} (L : Lay h) : am_kd h 220 = 103 := L.k 220 37 rfl
theorem ln220 {h : AH} (L : Lay h) : am_ln h 220 = 12 := L.n 220 37 rfl
theorem lk221 {h : AH} (L : Lay h) : am_kd h 221 = 100 := L.k 221 38 rfl
theorem ln221 {h : AH} (L : Lay h) : am_ln h 221 = 12 := L.n 221 38 rfl
theorem lk222 {h : AH} (L : Lay h) : am_kd h 222 = 100 := L.k 222 39 rfl
theorem ln222 {h : AH} (L : Lay h) : am_ln h 222 = 24 := L.n 222 39 rfl
theorem lk223 {h : AH} (L : Lay h) : am_kd h 223 = 100 := L.k 223 40 rfl
theorem ln223 {h : AH} (L : Lay h) : am_ln h 223 = 24 := L.n 223 40 rfl
theorem lk224 {h : AH} (L : Lay h) : am_kd h 224 = 100 := L.k 224 41 rfl
theorem ln224 {h : AH} (L : Lay h) : am_ln h 224 = 24 := L.n 224 41 rfl
theorem lk225 {h : AH} (L : Lay h) : am_kd h 225 = 100 := L.k 225 42 rfl
theorem ln225 {h : AH} (L : Lay h) : am_ln h 225 = 24 := L.n 225 42 rfl
theorem lk226 {h : AH} (L : Lay h) : am_kd h 226 = 100 := L.k 226 43 rfl
theorem ln226 {h : AH} (L : Lay h) : am_ln h 226 = 24 := L.n 226 43 rfl
theorem lk227 {h : AH} (L : Lay h) : am_kd h 227 = 101 := L.k 227 44 rfl
theorem ln227 {h : AH} (L : Lay h) : am_ln h 227 = 24 := L.n 227 44 rfl
theorem lk228 {h : AH} (L : Lay h) : am_kd h 228 = 100 := L.k 228 45 rfl
theorem ln228 {h : AH} (L : Lay h) : am_ln h 228 = 60 := L.n 228 45 rfl
theorem lk229 {h : AH} (L : Lay h) : am_kd h 229 = 100 := L.k 229 46 rfl
theorem ln229 {h : AH} (L : Lay h) : am_ln h 229 = 60 := L.n 229 46 rfl
theorem lk230 {h : AH} (L : Lay h) : am_kd h 230 = 100 := L.k 230 47 rfl
theorem ln230 {h : AH} (L : Lay h) : am_ln h 230 = 60 := L.n 230 47 rfl
theorem lk231 {h : AH} (L : Lay h) : am_kd h 231 = 100 := L.k 231 48 rfl
theorem ln231 {h : AH} (L : Lay h) : am_ln h 231 = 60 := L.n 231 48 rfl
theorem lk232 {h : AH} (L : Lay h) : am_kd h 232 = 100 := L.k 232 49 rfl
theorem ln232 {h : AH} (L : Lay h) : am_ln h 232 = 60 := L.n 232 49 rfl
theorem lk233 {h : AH} (L : Lay h) : am_kd h 233 = 100 := L.k 233 50 rfl
theorem ln233 {h : AH} (L : Lay h) : am_ln h 233 = 60 := L.n 233 50 rfl
theorem lk234 {h : AH} (L : Lay h) : am_kd h 234 = 100 := L.k 234 51 rfl
theorem ln234 {h : AH} (L : Lay h) : am_ln h 234 = 400 := L.n 234 51 rfl
theorem lk235 {h : AH} (L : Lay h) : am_kd h 235 = 100 := L.k 235 52 rfl
theorem ln235 {h : AH} (L : Lay h) : am_ln h 235 = 13 := L.n 235 52 rfl
theorem lk236 {h : AH} (L : Lay h) : am_kd h 236 = 100 := L.k 236 53 rfl
theorem ln236 {h : AH} (L : Lay h) : am_ln h 236 = 5200 := L.n 236 53 rfl
theorem lk237 {h : AH} (L : Lay h) : am_kd h 237 = 100 := L.k 237 54 rfl
theorem ln237 {h : AH} (L : Lay h) : am_ln h 237 = 5200 := L.n 237 54 rfl
theorem lk238 {h : AH} (L : Lay h) : am_kd h 238 = 100 := L.k 238 55 rfl
theorem ln238 {h : AH} (L : Lay h) : am_ln h 238 = 5200 := L.n 238 55 rfl
theorem lk239 {h : AH} (L : Lay h) : am_kd h 239 = 100 := L.k 239 56 rfl
theorem ln239 {h : AH} (L : Lay h) : am_ln h 239 = 65 := L.n 239 56 rfl
theorem lk240 {h : AH} (L : Lay h) : am_kd h 240 = 103 := L.k 240 57 rfl
theorem ln240 {h : AH} (L : Lay h) : am_ln h 240 = 13 := L.n 240 57 rfl
theorem lk241 {h : AH} (L : Lay h) : am_kd h 241 = 103 := L.k 241 58 rfl
theorem ln241 {h : AH} (L : Lay h) : am_ln h 241 = 13 := L.n 241 58 rfl
theorem lk242 {h : AH} (L : Lay h) : am_kd h 242 = 100 := L.k 242 59 rfl
theorem ln242 {h : AH} (L : Lay h) : am_ln h 242 = 13 := L.n 242 59 rfl
theorem lk243 {h : AH} (L : Lay h) : am_kd h 243 = 100 := L.k 243 60 rfl
theorem ln243 {h : AH} (L : Lay h) : am_ln h 243 = 13 := L.n 243 60 rfl
theorem lk244 {h : AH} (L : Lay h) : am_kd h 244 = 100 := L.k 244 61 rfl
theorem ln244 {h : AH} (L : Lay h) : am_ln h 244 = 13 := L.n 244 61 rfl
theorem lk245 {h : AH} (L : Lay h) : am_kd h 245 = 100 := L.k 245 62 rfl
theorem ln245 {h : AH} (L : Lay h) : am_ln h 245 = 13 := L.n 245 62 rfl
theorem lk246 {h : AH} (L : Lay h) : am_kd h 246 = 100 := L.k 246 63 rfl
theorem ln246 {h : AH} (L : Lay h) : am_ln h 246 = 13 := L.n 246 63 rfl
theorem lk247 {h : AH} (L : Lay h) : am_kd h 247 = 100 := L.k 247 64 rfl
theorem ln247 {h : AH} (L : Lay h) : am_ln h 247 = 360 := L.n 247 64 rfl
theorem lk248 {h : AH} (L : Lay h) : am_kd h 248 = 100 := L.k 248 65 rfl
theorem ln248 {h : AH} (L : Lay h) : am_ln h 248 = 40 := L.n 248 65 rfl
theorem lk249 {h : AH} (L : Lay h) : am_kd h 249 = 100 := L.k 249 66 rfl
theorem ln249 {h : AH} (L : Lay h) : am_ln h 249 = 6 := L.n 249 66 rfl
theorem lk250 {h : AH} (L : Lay h) : am_kd h 250 = 100 := L.k 250 67 rfl
theorem ln250 {h : AH} (L : Lay h) : am_ln h 250 = 6 := L.n 250 67 rfl
theorem lk251 {h : AH} (L : Lay h) : am_kd h 251 = 100 := L.k 251 68 rfl
theorem ln251 {h : AH} (L : Lay h) : am_ln h 251 = 6 := L.n 251 68 rfl
theorem lk252 {h : AH} (L : Lay h) : am_kd h 252 = 101 := L.k 252 69 rfl
theorem ln252 {h : AH} (L : Lay h) : am_ln h 252 = 2400 := L.n 252 69 rfl
theorem lk253 {h : AH} (L : Lay h) : am_kd h 253 = 100 := L.k 253 70 rfl
theorem ln253 {h : AH} (L : Lay h) : am_ln h 253 = 42 := L.n 253 70 rfl
theorem lk254 {h : AH} (L : Lay h) : am_kd h 254 = 100 := L.k 254 71 rfl
theorem ln254 {h : AH} (L : Lay h) : am_ln h 254 = 85 := L.n 254 71 rfl
theorem lk255 {h : AH} (L : Lay h) : am_kd h 255 = 101 := L.k 255 72 rfl
theorem ln255 {h : AH} (L : Lay h) : am_ln h 255 = 420 := L.n 255 72 rfl
theorem lk256 {h : AH} (L : Lay h) : am_kd h 256 = 100 := L.k 256 73 rfl
theorem ln256 {h : AH} (L : Lay h) : am_ln h 256 = 24 := L.n 256 73 rfl
theorem lk257 {h : AH} (L : Lay h) : am_kd h 257 = 100 := L.k 257 74 rfl
theorem ln257 {h : AH} (L : Lay h) : am_ln h 257 = 24 := L.n 257 74 rfl
theorem lk258 {h : AH} (L : Lay h) : am_kd h 258 = 100 := L.k 258 75 rfl
theorem ln258 {h : AH} (L : Lay h) : am_ln h 258 = 24 := L.n 258 75 rfl
theorem lk259 {h : AH} (L : Lay h) : am_kd h 259 = 100 := L.k 259 76 rfl
theorem ln259 {h : AH} (L : Lay h) : am_ln h 259 = 53248 := L.n 259 76 rfl
theorem lk260 {h : AH} (L : Lay h) : am_kd h 260 = 100 := L.k 260 77 rfl
theorem ln260 {h : AH} (L : Lay h) : am_ln h 260 = 24 := L.n 260 77 rfl
theorem lk261 {h : AH} (L : Lay h) : am_kd h 261 = 101 := L.k 261 78 rfl
theorem ln261 {h : AH} (L : Lay h) : am_ln h 261 = 12 := L.n 261 78 rfl
theorem lk262 {h : AH} (L : Lay h) : am_kd h 262 = 101 := L.k 262 79 rfl
theorem ln262 {h : AH} (L : Lay h) : am_ln h 262 = 12 := L.n 262 79 rfl
theorem lr6_1 {h : AH} (L : Lay h) : am_gr h 6 1 = some 7 := L.r 6 1 0 rfl
theorem lr6_3 {h : AH} (L : Lay h) : am_gr h 6 3 = some 8 := L.r 6 3 1 rfl
theorem lr6_5 {h : AH} (L : Lay h) : am_gr h 6 5 = some 9 := L.r 6 5 2 rfl
theorem lr6_6 {h : AH} (L : Lay h) : am_gr h 6 6 = some 71 := L.r 6 6 3 rfl
theorem lr6_7 {h : AH} (L : Lay h) : am_gr h 6 7 = some 75 := L.r 6 7 4 rfl
theorem lr6_8 {h : AH} (L : Lay h) : am_gr h 6 8 = some 78 := L.r 6 8 5 rfl
theorem lr6_13 {h : AH} (L : Lay h) : am_gr h 6 13 = some 79 := L.r 6 13 6 rfl
theorem lr6_14 {h : AH} (L : Lay h) : am_gr h 6 14 = some 80 := L.r 6 14 7 rfl
theorem lr6_15 {h : AH} (L : Lay h) : am_gr h 6 15 = some 105 := L.r 6 15 8 rfl
theorem lr6_16 {h : AH} (L : Lay h) : am_gr h 6 16 = some 109 := L.r 6 16 9 rfl
theorem lr6_17 {h : AH} (L : Lay h) : am_gr h 6 17 = some 111 := L.r 6 17 10 rfl
theorem lr9_0 {h : AH} (L : Lay h) : am_gr h 9 0 = some 10 := L.r 9 0 11 rfl
theorem lr71_0 {h : AH} (L : Lay h) : am_gr h 71 0 = some 72 := L.r 71 0 12 rfl
theorem lr71_2 {h : AH} (L : Lay h) : am_gr h 71 2 = some 73 := L.r 71 2 13 rfl
theorem lr71_4 {h : AH} (L : Lay h) : am_gr h 71 4 = some 74 := L.r 71 4 14 rfl
theorem lr75_0 {h : AH} (L : Lay h) : am_gr h 75 0 = some 76 := L.r 75 0 15 rfl
theorem lr75_1 {h : AH} (L : Lay h) : am_gr h 75 1 = some 77 := L.r 75 1 16 rfl
theorem lr80_0 {h : AH} (L : Lay h) : am_gr h 80 0 = some 81 := L.r 80 0 17 rfl
theorem lr80_1 {h : AH} (L : Lay h) : am_gr h 80 1 = some 82 := L.r 80 1 18 rfl
theorem lr80_2 {h : AH} (L : Lay h) : am_gr h 80 2 = some 83 := L.r 80 2 19 rfl
theorem lr80_3 {h : AH} (L : Lay h) : am_gr h 80 3 = some 84 := L.r 80 3 20 rfl
theorem lr80_4 {h : AH} (L : Lay h) : am_gr h 80 4 = some 85 := L.r 80 4 21 rfl
theorem lr80_5 {h : AH} (L : Lay h) : am_gr h 80 5 = some 99 := L.r 80 5 22 rfl
theorem lr80_6 {h : AH} (L : Lay h) : am_gr h 80 6 = some 100 := L.r 80 6 23 rfl
theorem lr80_7 {h : AH} (L : Lay h) : am_gr h 80 7 = some 101 := L.r 80 7 24 rfl
theorem lr80_8 {h : AH} (L : Lay h) : am_gr h 80 8 = some 102 := L.r 80 8 25 rfl
theorem lr80_9 {h : AH} (L : Lay h) : am_gr h 80 9 = some 103 := L.r 80 9 26 rfl
theorem lr80_10 {h : AH} (L : Lay h) : am_gr h 80 10 = some 104 := L.r 80 10 27 rfl
theorem lr105_0 {h : AH} (L : Lay h) : am_gr h 105 0 = some 106 := L.r 105 0 28 rfl
theorem lr105_2 {h : AH} (L : Lay h) : am_gr h 105 2 = some 107 := L.r 105 2 29 rfl
theorem lr105_3 {h : AH} (L : Lay h) : am_gr h 105 3 = some 108 := L.r 105 3 30 rfl
theorem lr109_0 {h : AH} (L : Lay h) : am_gr h 109 0 = some 110 := L.r 109 0 31 rfl
theorem lr216_2 {h : AH} (L : Lay h) : am_gr h 216 2 = some 217 := L.r 216 2 32 rfl
theorem lr216_3 {h : AH} (L : Lay h) : am_gr h 216 3 = some 218 := L.r 216 3 33 rfl
theorem lr216_4 {h : AH} (L : Lay h) : am_gr h 216 4 = some 219 := L.r 216 4 34 rfl
theorem lr216_5 {h : AH} (L : Lay h) : am_gr h 216 5 = some 220 := L.r 216 5 35 rfl
theorem lr216_6 {h : AH} (L : Lay h) : am_gr h 216 6 = some 221 := L.r 216 6 36 rfl
theorem lr216_8 {h : AH} (L : Lay h) : am_gr h 216 8 = some 222 := L.r 216 8 37 rfl
theorem lr216_9 {h : AH} (L : Lay h) : am_gr h 216 9 = some 223 := L.r 216 9 38 rfl
theorem lr216_10 {h : AH} (L : Lay h) : am_gr h 216 10 = some 224 := L.r 216 10 39 rfl
theorem lr216_11 {h : AH} (L : Lay h) : am_gr h 216 11 = some 225 := L.r 216 11 40 rfl
theorem lr216_12 {h : AH} (L : Lay h) : am_gr h 216 12 = some 226 := L.r 216 12 41 rfl
theorem lr216_13 {h : AH} (L : Lay h) : am_gr h 216 13 = some 227 := L.r 216 13 42 rfl
theorem lr216_15 {h : AH} (L : Lay h) : am_gr h 216 15 = some 228 := L.r 216 15 43 rfl
theorem lr216_16 {h : AH} (L : Lay h) : am_gr h 216 16 = some 229 := L.r 216 16 44 rfl
theorem lr216_17 {h : AH} (L : Lay h) : am_gr h 216 17 = some 230 := L.r 216 17 45 rfl
theorem lr216_18 {h : AH} (L : Lay h) : am_gr h 216 18 = some 231 := L.r 216 18 46 rfl
theorem lr216_19 {h : AH} (L : Lay h) : am_gr h 216 19 = some 232 := L.r 216 19 47 rfl
theorem lr216_20 {h : AH} (L : Lay h) : am_gr h 216 20 = some 233 := L.r 216 20 48 rfl
theorem lr216_21 {h : AH} (L : Lay h) : am_gr h 216 21 = some 234 := L.r 216 21 49 rfl
theorem lr216_24 {h : AH} (L : Lay h) : am_gr h 216 24 = some 235 := L.r 216 24 50 rfl
theorem lr216_25 {h : AH} (L : Lay h) : am_gr h 216 25 = some 236 := L.r 216 25 51 rfl
theorem lr216_26 {h : AH} (L : Lay h) : am_gr h 216 26 = some 237 := L.r 216 26 52 rfl
theorem lr216_27 {h : AH} (L : Lay h) : am_gr h 216 27 = some 238 := L.r 216 27 53 rfl
theorem lr216_28 {h : AH} (L : Lay h) : am_gr h 216 28 = some 239 := L.r 216 28 54 rfl
theorem lr216_29 {h : AH} (L : Lay h) : am_gr h 216 29 = some 240 := L.r 216 29 55 rfl
theorem lr216_30 {h : AH} (L : Lay h) : am_gr h 216 30 = some 241 := L.r 216 30 56 rfl
theorem lr216_31 {h : AH} (L : Lay h) : am_gr h 216 31 = some 242 := L.r 216 31 57 rfl
theorem lr216_32 {h : AH} (L : Lay h) : am_gr h 216 32 = some 243 := L.r 216 32 58 rfl
theorem lr216_33 {h : AH} (L : Lay h) : am_gr h 216 33 = some 244 := L.r 216 33 59 rfl
theorem lr216_34 {h : AH} (L : Lay h) : am_gr h 216 34 = some 245 := L.r 216 34 60 rfl
theorem lr216_35 {h : AH} (L : Lay h) : am_gr h 216 35 = some 246 := L.r 216 35 61 rfl
theorem lr216_40 {h : AH} (L : Lay h) : am_gr h 216 40 = some 247 := L.r 216 40 62 rfl
theorem lr216_41 {h : AH} (L : Lay h) : am_gr h 216 41 = some 248 := L.r 216 41 63 rfl
theorem lr216_43 {h : AH} (L : Lay h) : am_gr h 216 43 = some 249 := L.r 216 43 64 rfl
theorem lr216_44 {h : AH} (L : Lay h) : am_gr h 216 44 = some 250 := L.r 216 44 65 rfl
theorem lr216_45 {h : AH} (L : Lay h) : am_gr h 216 45 = some 251 := L.r 216 45 66 rfl
theorem lr216_46 {h : AH} (L : Lay h) : am_gr h 216 46 = some 252 := L.r 216 46 67 rfl
theorem lr216_48 {h : AH} (L : Lay h) : am_gr h 216 48 = some 253 := L.r 216 48 68 rfl
theorem lr216_49 {h : AH} (L : Lay h) : am_gr h 216 49 = some 254 := L.r 216 49 69 rfl
theorem lr216_60 {h : AH} (L : Lay h) : am_gr h 216 60 = some 255 := L.r 216 60 70 rfl
theorem lr216_62 {h : AH} (L : Lay h) : am_gr h 216 62 = some 256 := L.r 216 62 71 rfl
theorem lr216_63 {h : AH} (L : Lay h) : am_gr h 216 63 = some 257 := L.r 216 63 72 rfl
theorem lr216_64 {h : AH} (L : Lay h) : am_gr h 216 64 = some 258 := L.r 216 64 73 rfl
theorem lr216_65 {h : AH} (L : Lay h) : am_gr h 216 65 = some 259 := L.r 216 65 74 rfl
theorem lr216_67 {h : AH} (L : Lay h) : am_gr h 216 67 = some 260 := L.r 216 67 75 rfl
theorem lr216_68 {h : AH} (L : Lay h) : am_gr h 216 68 = some 261 := L.r 216 68 76 rfl
theorem lr216_69 {h : AH} (L : Lay h) : am_gr h 216 69 = some 262 := L.r 216 69 77 rfl
theorem lk_home {h : AH} (L : Lay h) {i : Nat} (hi : i < 12) : am_kd h (112 + i) = 2 := L.2.2.2.1.1 i hi
theorem lk_member {h : AH} (L : Lay h) {i : Nat} (hi : i < 24) : am_kd h (124 + i) = 3 := L.2.2.2.1.2.1 i hi
theorem lk_right {h : AH} (L : Lay h) {i : Nat} (hi : i < 60) : am_kd h (11 + i) = 7 := L.2.2.2.1.2.2.1 i hi
theorem lk_text {h : AH} (L : Lay h) {i : Nat} (hi : i < 12) : am_kd h (148 + 4 * i) = 9 := L.2.2.2.1.2.2.2.1 i hi
theorem lk_starts {h : AH} (L : Lay h) {i : Nat} (hi : i < 12) : am_kd h (151 + 4 * i) = 100 := (L.2.2.2.1.2.2.2.2.1 i hi).1
theorem ln_starts {h : AH} (L : Lay h) {i : Nat} (hi : i < 12) : am_ln h (151 + 4 * i) = 5 := (L.2.2.2.1.2.2.2.2.1 i hi).2
theorem lk_tray {h : AH} (L : Lay h) {i : Nat} (hi : i < 6) : am_kd h (196 + 3 * i) = 10 := L.2.2.2.1.2.2.2.2.2.1 i hi
theorem lk_debts {h : AH} (L : Lay h) {i : Nat} (hi : i < 6) : am_kd h (198 + 3 * i) = 101 := (L.2.2.2.1.2.2.2.2.2.2.1 i hi).1
theorem ln_debts {h : AH} (L : Lay h) {i : Nat} (hi : i < 6) : am_ln h (198 + 3 * i) = 24 := (L.2.2.2.1.2.2.2.2.2.2.1 i hi).2
theorem lk_price {h : AH} (L : Lay h) {i : Nat} (hi : i < 13) : am_kd h (86 + i) = 101 := (L.2.2.2.1.2.2.2.2.2.2.2 i hi).1
theorem ln_price {h : AH} (L : Lay h) {i : Nat} (hi : i < 13) : am_ln h (86 + i) = 13 := (L.2.2.2.1.2.2.2.2.2.2.2 i hi).2
theorem lr_home {h : AH} (L : Lay h) {i : Nat} (hi : i < 12) : am_gr h 7 i = some (112 + i) := L.2.2.2.2.1.1 i hi
theorem lr_member {h : AH} (L : Lay h) {i : Nat} (hi : i < 24) : am_gr h 8 i = some (124 + i) := L.2.2.2.2.1.2.1 i hi
theorem lr_right {h : AH} (L : Lay h) {i : Nat} (hi : i < 60) : am_gr h 10 i = some (11 + i) := L.2.2.2.2.1.2.2.1 i hi
theorem lr_text {h : AH} (L : Lay h) {i : Nat} (hi : i < 12) : am_gr h 78 i = some (148 + 4 * i) := L.2.2.2.2.1.2.2.2.1 i hi
theorem lr_tray {h : AH} (L : Lay h) {i : Nat} (hi : i < 6) : am_gr h 111 i = some (196 + 3 * i) := L.2.2.2.2.1.2.2.2.2.1 i hi
theorem lr_price {h : AH} (L : Lay h) {i : Nat} (hi : i < 13) : am_gr h 85 i = some (86 + i) := L.2.2.2.2.1.2.2.2.2.2 i hi
theorem lr_starts {h : AH} (L : Lay h) {i : Nat} (hi : i < 12) : am_gr h (148 + 4 * i) 2 = some (151 + 4 * i) := L.2.2.2.2.2.1 i hi
theorem lr_debts {h : AH} (L : Lay h) {i : Nat} (hi : i < 6) : am_gr h (196 + 3 * i) 4 = some (198 + 3 * i) := L.2.2.2.2.2.2 i hi
theorem Lay.si {h : AH} (L : Lay h) (a k : Nat) (v : Int32) : Lay (am_si h a k v) := L
theorem Lay.sl {h : AH} (L : Lay h) (a k : Nat) (v : Int64) : Lay (am_sl h a k v) := L
theorem Lay.sw {h : AH} (L : Lay h) (a : Nat) (g : Nat → Int32) : Lay (am_sw h a g) := L
theorem Lay.nw {h : AH} (L : Lay h) (k n w : Nat) : Lay (am_nw h k n w) := by
  have hz := L.1
  have hT : ∀ q ∈ ly_T, q.1 < 263 := by decide +kernel
  have hR : ∀ q ∈ ly_R, q.1 < 263 := by decide +kernel
  have ek : ∀ a, a < 263 → am_kd (am_nw h k n w) a = am_kd h a := fun a ha => am_nw_kd (by omega)
  have el : ∀ a, a < 263 → am_ln (am_nw h k n w) a = am_ln h a := fun a ha => am_nw_ln (by omega)
  have er : ∀ a, a < 263 → am_gr (am_nw h k n w) a = am_gr h a := fun a ha => am_nw_gr (by omega)
  obtain ⟨h1, h2, h3, ⟨f1, f2, f3, f4, f5, f6, f7, f8⟩, ⟨r1, r2, r3, r4, r5, r6⟩, s1, s2⟩ := L
  refine ⟨by show 263 ≤ am_sz h + 1; omega, fun q hq => by rw [ek _ (hT q hq), el _ (hT q hq)]; exact h2 q hq, fun q hq => by rw [er _ (hR q hq)]; exact h3 q hq, ⟨?_, ?_, ?_, ?_, ?_, ?_, ?_, ?_⟩, ⟨?_, ?_, ?_, ?_, ?_, ?_⟩, ?_, ?_⟩
  · exact fun i hi => by rw [ek _ (by omega)]; exact f1 i hi
  · exact fun i hi => by rw [ek _ (by omega)]; exact f2 i hi
  · exact fun i hi => by rw [ek _ (by omega)]; exact f3 i hi
  · exact fun i hi => by rw [ek _ (by omega)]; exact f4 i hi
  · exact fun i hi => by rw [ek _ (by omega), el _ (by omega)]; exact f5 i hi
  · exact fun i hi => by rw [ek _ (by omega)]; exact f6 i hi
  · exact fun i hi => by rw [ek _ (by omega), el _ (by omega)]; exact f7 i hi
  · exact fun i hi => by rw [ek _ (by omega), el _ (by omega)]; exact f8 i hi
  · exact fun i hi => by rw [er _ (by omega)]; exact r1 i hi
  · exact fun i hi => by rw [er _ (by omega)]; exact r2 i hi
  · exact fun i hi => by rw [er _ (by omega)]; exact r3 i hi
  · exact fun i hi => by rw [er _ (by omega)]; exact r4 i hi
  · exact fun i hi => by rw [er _ (by omega)]; exact r5 i hi
  · exact fun i hi => by rw [er _ (by omega)]; exact r6 i hi
  · exact fun i hi => by rw [er _ (by omega)]; exact s1 i hi
  · exact fun i hi => by rw [er _ (by omega)]; exact s2 i hi
theorem Lay.sr_text {h : AH} (L : Lay h) {j k : Nat} {v : Option Nat} (hj : j < 12) (hk : k < 2) : Lay (am_sr h (148 + 4 * j) k v) := by
  have hR : ∀ q ∈ ly_R, q.1 < 111 ∨ q.1 = 216 := by decide +kernel
  have er : ∀ a b, (a ≠ 148 + 4 * j ∨ b ≠ k) → am_gr (am_sr h (148 + 4 * j) k v) a b = am_gr h a b := fun a b hab => by rw [am_sr_gr, if_neg (fun z => hab.elim (fun w => w z.1) (fun w => w z.2))]
  obtain ⟨h1, h2, h3, hf, ⟨r1, r2, r3, r4, r5, r6⟩, s1, s2⟩ := L
  refine ⟨h1, h2, fun q hq => ?_, hf, ⟨fun i hi => ?_, fun i hi => ?_, fun i hi => ?_, fun i hi => ?_, fun i hi => ?_, fun i hi => ?_⟩, fun i hi => ?_, fun i hi => ?_⟩
  · rw [er _ _ (Or.inl (by have := hR q hq; omega))]; exact h3 q hq
  · rw [er _ _ (Or.inl (by omega))]; exact r1 i hi
  · rw [er _ _ (Or.inl (by omega))]; exact r2 i hi
  · rw [er _ _ (Or.inl (by omega))]; exact r3 i hi
  · rw [er _ _ (Or.inl (by omega))]; exact r4 i hi
  · rw [er _ _ (Or.inl (by omega))]; exact r5 i hi
  · rw [er _ _ (Or.inl (by omega))]; exact r6 i hi
  · rw [er _ _ (by omega)]; exact s1 i hi
  · rw [er _ _ (by omega)]; exact s2 i hi
theorem Lay.sr_tray {h : AH} (L : Lay h) {j k : Nat} {v : Option Nat} (hj : j < 6) (hk : k = 3) : Lay (am_sr h (196 + 3 * j) k v) := by
  have hR : ∀ q ∈ ly_R, q.1 < 111 ∨ q.1 = 216 := by decide +kernel
  have er : ∀ a b, (a ≠ 196 + 3 * j ∨ b ≠ k) → am_gr (am_sr h (196 + 3 * j) k v) a b = am_gr h a b := fun a b hab => by rw [am_sr_gr, if_neg (fun z => hab.elim (fun w => w z.1) (fun w => w z.2))]
  obtain ⟨h1, h2, h3, hf, ⟨r1, r2, r3, r4, r5, r6⟩, s1, s2⟩ := L
  refine ⟨h1, h2, fun q hq => ?_, hf, ⟨fun i hi => ?_, fun i hi => ?_, fun i hi => ?_, fun i hi => ?_, fun i hi => ?_, fun i hi => ?_⟩, fun i hi => ?_, fun i hi => ?_⟩
  · rw [er _ _ (Or.inl (by have := hR q hq; omega))]; exact h3 q hq
  · rw [er _ _ (Or.inl (by omega))]; exact r1 i hi
  · rw [er _ _ (Or.inl (by omega))]; exact r2 i hi
  · rw [er _ _ (Or.inl (by omega))]; exact r3 i hi
  · rw [er _ _ (Or.inl (by omega))]; exact r4 i hi
  · rw [er _ _ (Or.inl (by omega))]; exact r5 i hi
  · rw [er _ _ (Or.inl (by omega))]; exact r6 i hi
  · rw [er _ _ (by omega)]; exact s1 i hi
  · rw [er _ _ (by omega)]; exact s2 i hi
theorem am_inl {h : AH} {a n : Nat} {i : Int32} (e : am_ln h a = n) (g : am_in i n) : am_in i (am_ln h a) := by rw [e]; exact g
theorem am_rng {h : AH} {a k lo hi : Nat} (e : am_kd h a = k) (g : lo ≤ k ∧ k ≤ hi) : lo ≤ am_kd h a ∧ am_kd h a ≤ hi := by rw [e]; exact g
theorem am_in_lt2 {i : Int32} {n : Nat} (h : am_in i n) : i.toNatClampNeg < n := Nat.not_le.mp fun q => h (Or.inr q)
