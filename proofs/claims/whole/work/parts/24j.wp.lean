/-! 166: X12_init -/
theorem am_q166 : (am_mt 166).2.2.2.2.2 = am_m166.2.2.2.2.2 := rfl
set_option maxRecDepth 20000 in
set_option maxHeartbeats 2000000 in
theorem wp166 {d : Nat} (a0 : Nat) {h : AH} {Q : Option Value → AH → Prop} (H : (¬ (12 : Int32) < (0 : Int32) ∧ (Int32.toNatClampNeg (12 : Int32)) ≤ 100000) ∧ ∀ b3, b3 = am_sz h → ∀ h2, h2 = am_nw h 100 (Int32.toNatClampNeg (12 : Int32)) (Int32.toNatClampNeg (12 : Int32)) → am_kd h2 a0 = 12 ∧ ∀ h6, h6 = am_sr h2 a0 2 (some b3) → (¬ (12 : Int32) < (0 : Int32) ∧ (Int32.toNatClampNeg (12 : Int32)) ≤ 100000) ∧ ∀ b8, b8 = am_sz h6 → ∀ h7, h7 = am_nw h6 100 (Int32.toNatClampNeg (12 : Int32)) (Int32.toNatClampNeg (12 : Int32)) → am_kd h7 a0 = 12 ∧ ∀ h11, h11 = am_sr h7 a0 3 (some b8) → (¬ (12 : Int32) < (0 : Int32) ∧ (Int32.toNatClampNeg (12 : Int32)) ≤ 100000) ∧ ∀ b13, b13 = am_sz h11 → ∀ h12, h12 = am_nw h11 100 (Int32.toNatClampNeg (12 : Int32)) (Int32.toNatClampNeg (12 : Int32)) → am_kd h12 a0 = 12 ∧ ∀ h16, h16 = am_sr h12 a0 4 (some b13) → (¬ (12 : Int32) < (0 : Int32) ∧ (Int32.toNatClampNeg (12 : Int32)) ≤ 100000) ∧ ∀ b18, b18 = am_sz h16 → ∀ h17, h17 = am_nw h16 103 (Int32.toNatClampNeg (12 : Int32)) (Int32.toNatClampNeg (12 : Int32)) → am_kd h17 a0 = 12 ∧ ∀ h21, h21 = am_sr h17 a0 5 (some b18) → (¬ (12 : Int32) < (0 : Int32) ∧ (Int32.toNatClampNeg (12 : Int32)) ≤ 100000) ∧ ∀ b23, b23 = am_sz h21 → ∀ h22, h22 = am_nw h21 100 (Int32.toNatClampNeg (12 : Int32)) (Int32.toNatClampNeg (12 : Int32)) → am_kd h22 a0 = 12 ∧ ∀ h26, h26 = am_sr h22 a0 6 (some b23) → (¬ (24 : Int32) < (0 : Int32) ∧ (Int32.toNatClampNeg (24 : Int32)) ≤ 100000) ∧ ∀ b28, b28 = am_sz h26 → ∀ h27, h27 = am_nw h26 100 (Int32.toNatClampNeg (24 : Int32)) (Int32.toNatClampNeg (24 : Int32)) → am_kd h27 a0 = 12 ∧ ∀ h31, h31 = am_sr h27 a0 8 (some b28) → (¬ (24 : Int32) < (0 : Int32) ∧ (Int32.toNatClampNeg (24 : Int32)) ≤ 100000) ∧ ∀ b33, b33 = am_sz h31 → ∀ h32, h32 = am_nw h31 100 (Int32.toNatClampNeg (24 : Int32)) (Int32.toNatClampNeg (24 : Int32)) → am_kd h32 a0 = 12 ∧ ∀ h36, h36 = am_sr h32 a0 9 (some b33) → (¬ (24 : Int32) < (0 : Int32) ∧ (Int32.toNatClampNeg (24 : Int32)) ≤ 100000) ∧ ∀ b38, b38 = am_sz h36 → ∀ h37, h37 = am_nw h36 100 (Int32.toNatClampNeg (24 : Int32)) (Int32.toNatClampNeg (24 : Int32)) → am_kd h37 a0 = 12 ∧ ∀ h41, h41 = am_sr h37 a0 10 (some b38) → (¬ (24 : Int32) < (0 : Int32) ∧ (Int32.toNatClampNeg (24 : Int32)) ≤ 100000) ∧ ∀ b43, b43 = am_sz h41 → ∀ h42, h42 = am_nw h41 100 (Int32.toNatClampNeg (24 : Int32)) (Int32.toNatClampNeg (24 : Int32)) → am_kd h42 a0 = 12 ∧ ∀ h46, h46 = am_sr h42 a0 11 (some b43) → (¬ (24 : Int32) < (0 : Int32) ∧ (Int32.toNatClampNeg (24 : Int32)) ≤ 100000) ∧ ∀ b48, b48 = am_sz h46 → ∀ h47, h47 = am_nw h46 100 (Int32.toNatClampNeg (24 : Int32)) (Int32.toNatClampNeg (24 : Int32)) → am_kd h47 a0 = 12 ∧ ∀ h51, h51 = am_sr h47 a0 12 (some b48) → (¬ (24 : Int32) < (0 : Int32) ∧ (Int32.toNatClampNeg (24 : Int32)) ≤ 100000) ∧ ∀ b53, b53 = am_sz h51 → ∀ h52, h52 = am_nw h51 101 (Int32.toNatClampNeg (24 : Int32)) (Int32.toNatClampNeg (24 : Int32)) → am_kd h52 a0 = 12 ∧ ∀ h56, h56 = am_sr h52 a0 13 (some b53) → (¬ (60 : Int32) < (0 : Int32) ∧ (Int32.toNatClampNeg (60 : Int32)) ≤ 100000) ∧ ∀ b58, b58 = am_sz h56 → ∀ h57, h57 = am_nw h56 100 (Int32.toNatClampNeg (60 : Int32)) (Int32.toNatClampNeg (60 : Int32)) → am_kd h57 a0 = 12 ∧ ∀ h61, h61 = am_sr h57 a0 15 (some b58) → (¬ (60 : Int32) < (0 : Int32) ∧ (Int32.toNatClampNeg (60 : Int32)) ≤ 100000) ∧ ∀ b63, b63 = am_sz h61 → ∀ h62, h62 = am_nw h61 100 (Int32.toNatClampNeg (60 : Int32)) (Int32.toNatClampNeg (60 : Int32)) → am_kd h62 a0 = 12 ∧ ∀ h66, h66 = am_sr h62 a0 16 (some b63) → (¬ (60 : Int32) < (0 : Int32) ∧ (Int32.toNatClampNeg (60 : Int32)) ≤ 100000) ∧ ∀ b68, b68 = am_sz h66 → ∀ h67, h67 = am_nw h66 100 (Int32.toNatClampNeg (60 : Int32)) (Int32.toNatClampNeg (60 : Int32)) → am_kd h67 a0 = 12 ∧ ∀ h71, h71 = am_sr h67 a0 17 (some b68) → (¬ (60 : Int32) < (0 : Int32) ∧ (Int32.toNatClampNeg (60 : Int32)) ≤ 100000) ∧ ∀ b73, b73 = am_sz h71 → ∀ h72, h72 = am_nw h71 100 (Int32.toNatClampNeg (60 : Int32)) (Int32.toNatClampNeg (60 : Int32)) → am_kd h72 a0 = 12 ∧ ∀ h76, h76 = am_sr h72 a0 18 (some b73) → (¬ (60 : Int32) < (0 : Int32) ∧ (Int32.toNatClampNeg (60 : Int32)) ≤ 100000) ∧ ∀ b78, b78 = am_sz h76 → ∀ h77, h77 = am_nw h76 100 (Int32.toNatClampNeg (60 : Int32)) (Int32.toNatClampNeg (60 : Int32)) → am_kd h77 a0 = 12 ∧ ∀ h81, h81 = am_sr h77 a0 19 (some b78) → (¬ (60 : Int32) < (0 : Int32) ∧ (Int32.toNatClampNeg (60 : Int32)) ≤ 100000) ∧ ∀ b83, b83 = am_sz h81 → ∀ h82, h82 = am_nw h81 100 (Int32.toNatClampNeg (60 : Int32)) (Int32.toNatClampNeg (60 : Int32)) → am_kd h82 a0 = 12 ∧ ∀ h86, h86 = am_sr h82 a0 20 (some b83) → (¬ (400 : Int32) < (0 : Int32) ∧ (Int32.toNatClampNeg (400 : Int32)) ≤ 100000) ∧ ∀ b88, b88 = am_sz h86 → ∀ h87, h87 = am_nw h86 100 (Int32.toNatClampNeg (400 : Int32)) (Int32.toNatClampNeg (400 : Int32)) → am_kd h87 a0 = 12 ∧ ∀ h91, h91 = am_sr h87 a0 21 (some b88) → (¬ (13 : Int32) < (0 : Int32) ∧ (Int32.toNatClampNeg (13 : Int32)) ≤ 100000) ∧ ∀ b93, b93 = am_sz h91 → ∀ h92, h92 = am_nw h91 100 (Int32.toNatClampNeg (13 : Int32)) (Int32.toNatClampNeg (13 : Int32)) → am_kd h92 a0 = 12 ∧ ∀ h96, h96 = am_sr h92 a0 24 (some b93) → (¬ (5200 : Int32) < (0 : Int32) ∧ (Int32.toNatClampNeg (5200 : Int32)) ≤ 100000) ∧ ∀ b98, b98 = am_sz h96 → ∀ h97, h97 = am_nw h96 100 (Int32.toNatClampNeg (5200 : Int32)) (Int32.toNatClampNeg (5200 : Int32)) → am_kd h97 a0 = 12 ∧ ∀ h101, h101 = am_sr h97 a0 25 (some b98) → (¬ (5200 : Int32) < (0 : Int32) ∧ (Int32.toNatClampNeg (5200 : Int32)) ≤ 100000) ∧ ∀ b103, b103 = am_sz h101 → ∀ h102, h102 = am_nw h101 100 (Int32.toNatClampNeg (5200 : Int32)) (Int32.toNatClampNeg (5200 : Int32)) → am_kd h102 a0 = 12 ∧ ∀ h106, h106 = am_sr h102 a0 26 (some b103) → (¬ (5200 : Int32) < (0 : Int32) ∧ (Int32.toNatClampNeg (5200 : Int32)) ≤ 100000) ∧ ∀ b108, b108 = am_sz h106 → ∀ h107, h107 = am_nw h106 100 (Int32.toNatClampNeg (5200 : Int32)) (Int32.toNatClampNeg (5200 : Int32)) → am_kd h107 a0 = 12 ∧ ∀ h111, h111 = am_sr h107 a0 27 (some b108) → (¬ (65 : Int32) < (0 : Int32) ∧ (Int32.toNatClampNeg (65 : Int32)) ≤ 100000) ∧ ∀ b113, b113 = am_sz h111 → ∀ h112, h112 = am_nw h111 100 (Int32.toNatClampNeg (65 : Int32)) (Int32.toNatClampNeg (65 : Int32)) → am_kd h112 a0 = 12 ∧ ∀ h116, h116 = am_sr h112 a0 28 (some b113) → (¬ (13 : Int32) < (0 : Int32) ∧ (Int32.toNatClampNeg (13 : Int32)) ≤ 100000) ∧ ∀ b118, b118 = am_sz h116 → ∀ h117, h117 = am_nw h116 103 (Int32.toNatClampNeg (13 : Int32)) (Int32.toNatClampNeg (13 : Int32)) → am_kd h117 a0 = 12 ∧ ∀ h121, h121 = am_sr h117 a0 29 (some b118) → (¬ (13 : Int32) < (0 : Int32) ∧ (Int32.toNatClampNeg (13 : Int32)) ≤ 100000) ∧ ∀ b123, b123 = am_sz h121 → ∀ h122, h122 = am_nw h121 103 (Int32.toNatClampNeg (13 : Int32)) (Int32.toNatClampNeg (13 : Int32)) → am_kd h122 a0 = 12 ∧ ∀ h126, h126 = am_sr h122 a0 30 (some b123) → (¬ (13 : Int32) < (0 : Int32) ∧ (Int32.toNatClampNeg (13 : Int32)) ≤ 100000) ∧ ∀ b128, b128 = am_sz h126 → ∀ h127, h127 = am_nw h126 100 (Int32.toNatClampNeg (13 : Int32)) (Int32.toNatClampNeg (13 : Int32)) → am_kd h127 a0 = 12 ∧ ∀ h131, h131 = am_sr h127 a0 31 (some b128) → (¬ (13 : Int32) < (0 : Int32) ∧ (Int32.toNatClampNeg (13 : Int32)) ≤ 100000) ∧ ∀ b133, b133 = am_sz h131 → ∀ h132, h132 = am_nw h131 100 (Int32.toNatClampNeg (13 : Int32)) (Int32.toNatClampNeg (13 : Int32)) → am_kd h132 a0 = 12 ∧ ∀ h136, h136 = am_sr h132 a0 32 (some b133) → (¬ (13 : Int32) < (0 : Int32) ∧ (Int32.toNatClampNeg (13 : Int32)) ≤ 100000) ∧ ∀ b138, b138 = am_sz h136 → ∀ h137, h137 = am_nw h136 100 (Int32.toNatClampNeg (13 : Int32)) (Int32.toNatClampNeg (13 : Int32)) → am_kd h137 a0 = 12 ∧ ∀ h141, h141 = am_sr h137 a0 33 (some b138) → (¬ (13 : Int32) < (0 : Int32) ∧ (Int32.toNatClampNeg (13 : Int32)) ≤ 100000) ∧ ∀ b143, b143 = am_sz h141 → ∀ h142, h142 = am_nw h141 100 (Int32.toNatClampNeg (13 : Int32)) (Int32.toNatClampNeg (13 : Int32)) → am_kd h142 a0 = 12 ∧ ∀ h146, h146 = am_sr h142 a0 34 (some b143) → (¬ (13 : Int32) < (0 : Int32) ∧ (Int32.toNatClampNeg (13 : Int32)) ≤ 100000) ∧ ∀ b148, b148 = am_sz h146 → ∀ h147, h147 = am_nw h146 100 (Int32.toNatClampNeg (13 : Int32)) (Int32.toNatClampNeg (13 : Int32)) → am_kd h147 a0 = 12 ∧ ∀ h151, h151 = am_sr h147 a0 35 (some b148) → am_kd h151 a0 = 12 ∧ ∀ h153, h153 = am_si h151 a0 38 (-1 : Int32) → (¬ (360 : Int32) < (0 : Int32) ∧ (Int32.toNatClampNeg (360 : Int32)) ≤ 100000) ∧ ∀ b155, b155 = am_sz h153 → ∀ h154, h154 = am_nw h153 100 (Int32.toNatClampNeg (360 : Int32)) (Int32.toNatClampNeg (360 : Int32)) → am_kd h154 a0 = 12 ∧ ∀ h158, h158 = am_sr h154 a0 40 (some b155) → (¬ (40 : Int32) < (0 : Int32) ∧ (Int32.toNatClampNeg (40 : Int32)) ≤ 100000) ∧ ∀ b160, b160 = am_sz h158 → ∀ h159, h159 = am_nw h158 100 (Int32.toNatClampNeg (40 : Int32)) (Int32.toNatClampNeg (40 : Int32)) → am_kd h159 a0 = 12 ∧ ∀ h163, h163 = am_sr h159 a0 41 (some b160) → (¬ (6 : Int32) < (0 : Int32) ∧ (Int32.toNatClampNeg (6 : Int32)) ≤ 100000) ∧ ∀ b165, b165 = am_sz h163 → ∀ h164, h164 = am_nw h163 100 (Int32.toNatClampNeg (6 : Int32)) (Int32.toNatClampNeg (6 : Int32)) → am_kd h164 a0 = 12 ∧ ∀ h168, h168 = am_sr h164 a0 43 (some b165) → (¬ (6 : Int32) < (0 : Int32) ∧ (Int32.toNatClampNeg (6 : Int32)) ≤ 100000) ∧ ∀ b170, b170 = am_sz h168 → ∀ h169, h169 = am_nw h168 100 (Int32.toNatClampNeg (6 : Int32)) (Int32.toNatClampNeg (6 : Int32)) → am_kd h169 a0 = 12 ∧ ∀ h173, h173 = am_sr h169 a0 44 (some b170) → (¬ (6 : Int32) < (0 : Int32) ∧ (Int32.toNatClampNeg (6 : Int32)) ≤ 100000) ∧ ∀ b175, b175 = am_sz h173 → ∀ h174, h174 = am_nw h173 100 (Int32.toNatClampNeg (6 : Int32)) (Int32.toNatClampNeg (6 : Int32)) → am_kd h174 a0 = 12 ∧ ∀ h178, h178 = am_sr h174 a0 45 (some b175) → (¬ (2400 : Int32) < (0 : Int32) ∧ (Int32.toNatClampNeg (2400 : Int32)) ≤ 100000) ∧ ∀ b180, b180 = am_sz h178 → ∀ h179, h179 = am_nw h178 101 (Int32.toNatClampNeg (2400 : Int32)) (Int32.toNatClampNeg (2400 : Int32)) → am_kd h179 a0 = 12 ∧ ∀ h183, h183 = am_sr h179 a0 46 (some b180) → (¬ (42 : Int32) < (0 : Int32) ∧ (Int32.toNatClampNeg (42 : Int32)) ≤ 100000) ∧ ∀ b185, b185 = am_sz h183 → ∀ h184, h184 = am_nw h183 100 (Int32.toNatClampNeg (42 : Int32)) (Int32.toNatClampNeg (42 : Int32)) → (am_kd h184 b185 = 100 ∧ 6 ≤ b185) ∧ am_in (0 : Int32) (am_ln h184 b185) ∧ ∀ h189, h189 = am_si h184 b185 (Int32.toNatClampNeg (0 : Int32)) (112 : Int32) → (am_kd h189 b185 = 100 ∧ 6 ≤ b185) ∧ am_in (1 : Int32) (am_ln h189 b185) ∧ ∀ h192, h192 = am_si h189 b185 (Int32.toNatClampNeg (1 : Int32)) (111 : Int32) → (am_kd h192 b185 = 100 ∧ 6 ≤ b185) ∧ am_in (2 : Int32) (am_ln h192 b185) ∧ ∀ h195, h195 = am_si h192 b185 (Int32.toNatClampNeg (2 : Int32)) (105 : Int32) → (am_kd h195 b185 = 100 ∧ 6 ≤ b185) ∧ am_in (3 : Int32) (am_ln h195 b185) ∧ ∀ h198, h198 = am_si h195 b185 (Int32.toNatClampNeg (3 : Int32)) (110 : Int32) → (am_kd h198 b185 = 100 ∧ 6 ≤ b185) ∧ am_in (4 : Int32) (am_ln h198 b185) ∧ ∀ h201, h201 = am_si h198 b185 (Int32.toNatClampNeg (4 : Int32)) (116 : Int32) → (am_kd h201 b185 = 100 ∧ 6 ≤ b185) ∧ am_in (5 : Int32) (am_ln h201 b185) ∧ ∀ h204, h204 = am_si h201 b185 (Int32.toNatClampNeg (5 : Int32)) (115 : Int32) → (am_kd h204 b185 = 100 ∧ 6 ≤ b185) ∧ am_in (6 : Int32) (am_ln h204 b185) ∧ ∀ h207, h207 = am_si h204 b185 (Int32.toNatClampNeg (6 : Int32)) (32 : Int32) → (am_kd h207 b185 = 100 ∧ 6 ≤ b185) ∧ am_in (7 : Int32) (am_ln h207 b185) ∧ ∀ h210, h210 = am_si h207 b185 (Int32.toNatClampNeg (7 : Int32)) (119 : Int32) → (am_kd h210 b185 = 100 ∧ 6 ≤ b185) ∧ am_in (8 : Int32) (am_ln h210 b185) ∧ ∀ h213, h213 = am_si h210 b185 (Int32.toNatClampNeg (8 : Int32)) (97 : Int32) → (am_kd h213 b185 = 100 ∧ 6 ≤ b185) ∧ am_in (9 : Int32) (am_ln h213 b185) ∧ ∀ h216, h216 = am_si h213 b185 (Int32.toNatClampNeg (9 : Int32)) (105 : Int32) → (am_kd h216 b185 = 100 ∧ 6 ≤ b185) ∧ am_in (10 : Int32) (am_ln h216 b185) ∧ ∀ h219, h219 = am_si h216 b185 (Int32.toNatClampNeg (10 : Int32)) (116 : Int32) → (am_kd h219 b185 = 100 ∧ 6 ≤ b185) ∧ am_in (11 : Int32) (am_ln h219 b185) ∧ ∀ h222, h222 = am_si h219 b185 (Int32.toNatClampNeg (11 : Int32)) (115 : Int32) → (am_kd h222 b185 = 100 ∧ 6 ≤ b185) ∧ am_in (12 : Int32) (am_ln h222 b185) ∧ ∀ h225, h225 = am_si h222 b185 (Int32.toNatClampNeg (12 : Int32)) (32 : Int32) → (am_kd h225 b185 = 100 ∧ 6 ≤ b185) ∧ am_in (13 : Int32) (am_ln h225 b185) ∧ ∀ h228, h228 = am_si h225 b185 (Int32.toNatClampNeg (13 : Int32)) (59 : Int32) → (am_kd h228 b185 = 100 ∧ 6 ≤ b185) ∧ am_in (14 : Int32) (am_ln h228 b185) ∧ ∀ h231, h231 = am_si h228 b185 (Int32.toNatClampNeg (14 : Int32)) (32 : Int32) → (am_kd h231 b185 = 100 ∧ 6 ≤ b185) ∧ am_in (15 : Int32) (am_ln h231 b185) ∧ ∀ h234, h234 = am_si h231 b185 (Int32.toNatClampNeg (15 : Int32)) (109 : Int32) → (am_kd h234 b185 = 100 ∧ 6 ≤ b185) ∧ am_in (16 : Int32) (am_ln h234 b185) ∧ ∀ h237, h237 = am_si h234 b185 (Int32.toNatClampNeg (16 : Int32)) (97 : Int32) → (am_kd h237 b185 = 100 ∧ 6 ≤ b185) ∧ am_in (17 : Int32) (am_ln h237 b185) ∧ ∀ h240, h240 = am_si h237 b185 (Int32.toNatClampNeg (17 : Int32)) (121 : Int32) → (am_kd h240 b185 = 100 ∧ 6 ≤ b185) ∧ am_in (18 : Int32) (am_ln h240 b185) ∧ ∀ h243, h243 = am_si h240 b185 (Int32.toNatClampNeg (18 : Int32)) (32 : Int32) → (am_kd h243 b185 = 100 ∧ 6 ≤ b185) ∧ am_in (19 : Int32) (am_ln h243 b185) ∧ ∀ h246, h246 = am_si h243 b185 (Int32.toNatClampNeg (19 : Int32)) (49 : Int32) → (am_kd h246 b185 = 100 ∧ 6 ≤ b185) ∧ am_in (20 : Int32) (am_ln h246 b185) ∧ ∀ h249, h249 = am_si h246 b185 (Int32.toNatClampNeg (20 : Int32)) (32 : Int32) → (am_kd h249 b185 = 100 ∧ 6 ≤ b185) ∧ am_in (21 : Int32) (am_ln h249 b185) ∧ ∀ h252, h252 = am_si h249 b185 (Int32.toNatClampNeg (21 : Int32)) (59 : Int32) → (am_kd h252 b185 = 100 ∧ 6 ≤ b185) ∧ am_in (22 : Int32) (am_ln h252 b185) ∧ ∀ h255, h255 = am_si h252 b185 (Int32.toNatClampNeg (22 : Int32)) (32 : Int32) → (am_kd h255 b185 = 100 ∧ 6 ≤ b185) ∧ am_in (23 : Int32) (am_ln h255 b185) ∧ ∀ h258, h258 = am_si h255 b185 (Int32.toNatClampNeg (23 : Int32)) (118 : Int32) → (am_kd h258 b185 = 100 ∧ 6 ≤ b185) ∧ am_in (24 : Int32) (am_ln h258 b185) ∧ ∀ h261, h261 = am_si h258 b185 (Int32.toNatClampNeg (24 : Int32)) (111 : Int32) → (am_kd h261 b185 = 100 ∧ 6 ≤ b185) ∧ am_in (25 : Int32) (am_ln h261 b185) ∧ ∀ h264, h264 = am_si h261 b185 (Int32.toNatClampNeg (25 : Int32)) (116 : Int32) → (am_kd h264 b185 = 100 ∧ 6 ≤ b185) ∧ am_in (26 : Int32) (am_ln h264 b185) ∧ ∀ h267, h267 = am_si h264 b185 (Int32.toNatClampNeg (26 : Int32)) (101 : Int32) → (am_kd h267 b185 = 100 ∧ 6 ≤ b185) ∧ am_in (27 : Int32) (am_ln h267 b185) ∧ ∀ h270, h270 = am_si h267 b185 (Int32.toNatClampNeg (27 : Int32)) (115 : Int32) → (am_kd h270 b185 = 100 ∧ 6 ≤ b185) ∧ am_in (28 : Int32) (am_ln h270 b185) ∧ ∀ h273, h273 = am_si h270 b185 (Int32.toNatClampNeg (28 : Int32)) (32 : Int32) → (am_kd h273 b185 = 100 ∧ 6 ≤ b185) ∧ am_in (29 : Int32) (am_ln h273 b185) ∧ ∀ h276, h276 = am_si h273 b185 (Int32.toNatClampNeg (29 : Int32)) (49 : Int32) → (am_kd h276 b185 = 100 ∧ 6 ≤ b185) ∧ am_in (30 : Int32) (am_ln h276 b185) ∧ ∀ h279, h279 = am_si h276 b185 (Int32.toNatClampNeg (30 : Int32)) (32 : Int32) → (am_kd h279 b185 = 100 ∧ 6 ≤ b185) ∧ am_in (31 : Int32) (am_ln h279 b185) ∧ ∀ h282, h282 = am_si h279 b185 (Int32.toNatClampNeg (31 : Int32)) (59 : Int32) → (am_kd h282 b185 = 100 ∧ 6 ≤ b185) ∧ am_in (32 : Int32) (am_ln h282 b185) ∧ ∀ h285, h285 = am_si h282 b185 (Int32.toNatClampNeg (32 : Int32)) (32 : Int32) → (am_kd h285 b185 = 100 ∧ 6 ≤ b185) ∧ am_in (33 : Int32) (am_ln h285 b185) ∧ ∀ h288, h288 = am_si h285 b185 (Int32.toNatClampNeg (33 : Int32)) (99 : Int32) → (am_kd h288 b185 = 100 ∧ 6 ≤ b185) ∧ am_in (34 : Int32) (am_ln h288 b185) ∧ ∀ h291, h291 = am_si h288 b185 (Int32.toNatClampNeg (34 : Int32)) (111 : Int32) → (am_kd h291 b185 = 100 ∧ 6 ≤ b185) ∧ am_in (35 : Int32) (am_ln h291 b185) ∧ ∀ h294, h294 = am_si h291 b185 (Int32.toNatClampNeg (35 : Int32)) (115 : Int32) → (am_kd h294 b185 = 100 ∧ 6 ≤ b185) ∧ am_in (36 : Int32) (am_ln h294 b185) ∧ ∀ h297, h297 = am_si h294 b185 (Int32.toNatClampNeg (36 : Int32)) (116 : Int32) → (am_kd h297 b185 = 100 ∧ 6 ≤ b185) ∧ am_in (37 : Int32) (am_ln h297 b185) ∧ ∀ h300, h300 = am_si h297 b185 (Int32.toNatClampNeg (37 : Int32)) (115 : Int32) → (am_kd h300 b185 = 100 ∧ 6 ≤ b185) ∧ am_in (38 : Int32) (am_ln h300 b185) ∧ ∀ h303, h303 = am_si h300 b185 (Int32.toNatClampNeg (38 : Int32)) (32 : Int32) → (am_kd h303 b185 = 100 ∧ 6 ≤ b185) ∧ am_in (39 : Int32) (am_ln h303 b185) ∧ ∀ h306, h306 = am_si h303 b185 (Int32.toNatClampNeg (39 : Int32)) (49 : Int32) → (am_kd h306 b185 = 100 ∧ 6 ≤ b185) ∧ am_in (40 : Int32) (am_ln h306 b185) ∧ ∀ h309, h309 = am_si h306 b185 (Int32.toNatClampNeg (40 : Int32)) (32 : Int32) → (am_kd h309 b185 = 100 ∧ 6 ≤ b185) ∧ am_in (41 : Int32) (am_ln h309 b185) ∧ ∀ h312, h312 = am_si h309 b185 (Int32.toNatClampNeg (41 : Int32)) (59 : Int32) → am_kd h312 a0 = 12 ∧ ∀ h314, h314 = am_sr h312 a0 48 (some b185) → (¬ (85 : Int32) < (0 : Int32) ∧ (Int32.toNatClampNeg (85 : Int32)) ≤ 100000) ∧ ∀ b316, b316 = am_sz h314 → ∀ h315, h315 = am_nw h314 100 (Int32.toNatClampNeg (85 : Int32)) (Int32.toNatClampNeg (85 : Int32)) → (am_kd h315 b316 = 100 ∧ 6 ≤ b316) ∧ am_in (0 : Int32) (am_ln h315 b316) ∧ ∀ h320, h320 = am_si h315 b316 (Int32.toNatClampNeg (0 : Int32)) (119 : Int32) → (am_kd h320 b316 = 100 ∧ 6 ≤ b316) ∧ am_in (1 : Int32) (am_ln h320 b316) ∧ ∀ h323, h323 = am_si h320 b316 (Int32.toNatClampNeg (1 : Int32)) (97 : Int32) → (am_kd h323 b316 = 100 ∧ 6 ≤ b316) ∧ am_in (2 : Int32) (am_ln h323 b316) ∧ ∀ h326, h326 = am_si h323 b316 (Int32.toNatClampNeg (2 : Int32)) (105 : Int32) → (am_kd h326 b316 = 100 ∧ 6 ≤ b316) ∧ am_in (3 : Int32) (am_ln h326 b316) ∧ ∀ h329, h329 = am_si h326 b316 (Int32.toNatClampNeg (3 : Int32)) (116 : Int32) → (am_kd h329 b316 = 100 ∧ 6 ≤ b316) ∧ am_in (4 : Int32) (am_ln h329 b316) ∧ ∀ h332, h332 = am_si h329 b316 (Int32.toNatClampNeg (4 : Int32)) (115 : Int32) → (am_kd h332 b316 = 100 ∧ 6 ≤ b316) ∧ am_in (5 : Int32) (am_ln h332 b316) ∧ ∀ h335, h335 = am_si h332 b316 (Int32.toNatClampNeg (5 : Int32)) (0 : Int32) → (am_kd h335 b316 = 100 ∧ 6 ≤ b316) ∧ am_in (6 : Int32) (am_ln h335 b316) ∧ ∀ h338, h338 = am_si h335 b316 (Int32.toNatClampNeg (6 : Int32)) (102 : Int32) → (am_kd h338 b316 = 100 ∧ 6 ≤ b316) ∧ am_in (7 : Int32) (am_ln h338 b316) ∧ ∀ h341, h341 = am_si h338 b316 (Int32.toNatClampNeg (7 : Int32)) (97 : Int32) → (am_kd h341 b316 = 100 ∧ 6 ≤ b316) ∧ am_in (8 : Int32) (am_ln h341 b316) ∧ ∀ h344, h344 = am_si h341 b316 (Int32.toNatClampNeg (8 : Int32)) (109 : Int32) → (am_kd h344 b316 = 100 ∧ 6 ≤ b316) ∧ am_in (9 : Int32) (am_ln h344 b316) ∧ ∀ h347, h347 = am_si h344 b316 (Int32.toNatClampNeg (9 : Int32)) (105 : Int32) → (am_kd h347 b316 = 100 ∧ 6 ≤ b316) ∧ am_in (10 : Int32) (am_ln h347 b316) ∧ ∀ h350, h350 = am_si h347 b316 (Int32.toNatClampNeg (10 : Int32)) (108 : Int32) → (am_kd h350 b316 = 100 ∧ 6 ≤ b316) ∧ am_in (11 : Int32) (am_ln h350 b316) ∧ ∀ h353, h353 = am_si h350 b316 (Int32.toNatClampNeg (11 : Int32)) (121 : Int32) → (am_kd h353 b316 = 100 ∧ 6 ≤ b316) ∧ am_in (12 : Int32) (am_ln h353 b316) ∧ ∀ h356, h356 = am_si h353 b316 (Int32.toNatClampNeg (12 : Int32)) (0 : Int32) → (am_kd h356 b316 = 100 ∧ 6 ≤ b316) ∧ am_in (13 : Int32) (am_ln h356 b316) ∧ ∀ h359, h359 = am_si h356 b316 (Int32.toNatClampNeg (13 : Int32)) (114 : Int32) → (am_kd h359 b316 = 100 ∧ 6 ≤ b316) ∧ am_in (14 : Int32) (am_ln h359 b316) ∧ ∀ h362, h362 = am_si h359 b316 (Int32.toNatClampNeg (14 : Int32)) (111 : Int32) → (am_kd h362 b316 = 100 ∧ 6 ≤ b316) ∧ am_in (15 : Int32) (am_ln h362 b316) ∧ ∀ h365, h365 = am_si h362 b316 (Int32.toNatClampNeg (15 : Int32)) (111 : Int32) → (am_kd h365 b316 = 100 ∧ 6 ≤ b316) ∧ am_in (16 : Int32) (am_ln h365 b316) ∧ ∀ h368, h368 = am_si h365 b316 (Int32.toNatClampNeg (16 : Int32)) (109 : Int32) → (am_kd h368 b316 = 100 ∧ 6 ≤ b316) ∧ am_in (17 : Int32) (am_ln h368 b316) ∧ ∀ h371, h371 = am_si h368 b316 (Int32.toNatClampNeg (17 : Int32)) (115 : Int32) → (am_kd h371 b316 = 100 ∧ 6 ≤ b316) ∧ am_in (18 : Int32) (am_ln h371 b316) ∧ ∀ h374, h374 = am_si h371 b316 (Int32.toNatClampNeg (18 : Int32)) (0 : Int32) → (am_kd h374 b316 = 100 ∧ 6 ≤ b316) ∧ am_in (19 : Int32) (am_ln h374 b316) ∧ ∀ h377, h377 = am_si h374 b316 (Int32.toNatClampNeg (19 : Int32)) (106 : Int32) → (am_kd h377 b316 = 100 ∧ 6 ≤ b316) ∧ am_in (20 : Int32) (am_ln h377 b316) ∧ ∀ h380, h380 = am_si h377 b316 (Int32.toNatClampNeg (20 : Int32)) (111 : Int32) → (am_kd h380 b316 = 100 ∧ 6 ≤ b316) ∧ am_in (21 : Int32) (am_ln h380 b316) ∧ ∀ h383, h383 = am_si h380 b316 (Int32.toNatClampNeg (21 : Int32)) (105 : Int32) → (am_kd h383 b316 = 100 ∧ 6 ≤ b316) ∧ am_in (22 : Int32) (am_ln h383 b316) ∧ ∀ h386, h386 = am_si h383 b316 (Int32.toNatClampNeg (22 : Int32)) (110 : Int32) → (am_kd h386 b316 = 100 ∧ 6 ≤ b316) ∧ am_in (23 : Int32) (am_ln h386 b316) ∧ ∀ h389, h389 = am_si h386 b316 (Int32.toNatClampNeg (23 : Int32)) (101 : Int32) → (am_kd h389 b316 = 100 ∧ 6 ≤ b316) ∧ am_in (24 : Int32) (am_ln h389 b316) ∧ ∀ h392, h392 = am_si h389 b316 (Int32.toNatClampNeg (24 : Int32)) (100 : Int32) → (am_kd h392 b316 = 100 ∧ 6 ≤ b316) ∧ am_in (25 : Int32) (am_ln h392 b316) ∧ ∀ h395, h395 = am_si h392 b316 (Int32.toNatClampNeg (25 : Int32)) (0 : Int32) → (am_kd h395 b316 = 100 ∧ 6 ≤ b316) ∧ am_in (26 : Int32) (am_ln h395 b316) ∧ ∀ h398, h398 = am_si h395 b316 (Int32.toNatClampNeg (26 : Int32)) (100 : Int32) → (am_kd h398 b316 = 100 ∧ 6 ≤ b316) ∧ am_in (27 : Int32) (am_ln h398 b316) ∧ ∀ h401, h401 = am_si h398 b316 (Int32.toNatClampNeg (27 : Int32)) (101 : Int32) → (am_kd h401 b316 = 100 ∧ 6 ≤ b316) ∧ am_in (28 : Int32) (am_ln h401 b316) ∧ ∀ h404, h404 = am_si h401 b316 (Int32.toNatClampNeg (28 : Int32)) (98 : Int32) → (am_kd h404 b316 = 100 ∧ 6 ≤ b316) ∧ am_in (29 : Int32) (am_ln h404 b316) ∧ ∀ h407, h407 = am_si h404 b316 (Int32.toNatClampNeg (29 : Int32)) (116 : Int32) → (am_kd h407 b316 = 100 ∧ 6 ≤ b316) ∧ am_in (30 : Int32) (am_ln h407 b316) ∧ ∀ h410, h410 = am_si h407 b316 (Int32.toNatClampNeg (30 : Int32)) (0 : Int32) → (am_kd h410 b316 = 100 ∧ 6 ≤ b316) ∧ am_in (31 : Int32) (am_ln h410 b316) ∧ ∀ h413, h413 = am_si h410 b316 (Int32.toNatClampNeg (31 : Int32)) (115 : Int32) → (am_kd h413 b316 = 100 ∧ 6 ≤ b316) ∧ am_in (32 : Int32) (am_ln h413 b316) ∧ ∀ h416, h416 = am_si h413 b316 (Int32.toNatClampNeg (32 : Int32)) (116 : Int32) → (am_kd h416 b316 = 100 ∧ 6 ≤ b316) ∧ am_in (33 : Int32) (am_ln h416 b316) ∧ ∀ h419, h419 = am_si h416 b316 (Int32.toNatClampNeg (33 : Int32)) (97 : Int32) → (am_kd h419 b316 = 100 ∧ 6 ≤ b316) ∧ am_in (34 : Int32) (am_ln h419 b316) ∧ ∀ h422, h422 = am_si h419 b316 (Int32.toNatClampNeg (34 : Int32)) (105 : Int32) → (am_kd h422 b316 = 100 ∧ 6 ≤ b316) ∧ am_in (35 : Int32) (am_ln h422 b316) ∧ ∀ h425, h425 = am_si h422 b316 (Int32.toNatClampNeg (35 : Int32)) (114 : Int32) → (am_kd h425 b316 = 100 ∧ 6 ≤ b316) ∧ am_in (36 : Int32) (am_ln h425 b316) ∧ ∀ h428, h428 = am_si h425 b316 (Int32.toNatClampNeg (36 : Int32)) (0 : Int32) → (am_kd h428 b316 = 100 ∧ 6 ≤ b316) ∧ am_in (37 : Int32) (am_ln h428 b316) ∧ ∀ h431, h431 = am_si h428 b316 (Int32.toNatClampNeg (37 : Int32)) (115 : Int32) → (am_kd h431 b316 = 100 ∧ 6 ≤ b316) ∧ am_in (38 : Int32) (am_ln h431 b316) ∧ ∀ h434, h434 = am_si h431 b316 (Int32.toNatClampNeg (38 : Int32)) (104 : Int32) → (am_kd h434 b316 = 100 ∧ 6 ≤ b316) ∧ am_in (39 : Int32) (am_ln h434 b316) ∧ ∀ h437, h437 = am_si h434 b316 (Int32.toNatClampNeg (39 : Int32)) (97 : Int32) → (am_kd h437 b316 = 100 ∧ 6 ≤ b316) ∧ am_in (40 : Int32) (am_ln h437 b316) ∧ ∀ h440, h440 = am_si h437 b316 (Int32.toNatClampNeg (40 : Int32)) (114 : Int32) → (am_kd h440 b316 = 100 ∧ 6 ≤ b316) ∧ am_in (41 : Int32) (am_ln h440 b316) ∧ ∀ h443, h443 = am_si h440 b316 (Int32.toNatClampNeg (41 : Int32)) (101 : Int32) → (am_kd h443 b316 = 100 ∧ 6 ≤ b316) ∧ am_in (42 : Int32) (am_ln h443 b316) ∧ ∀ h446, h446 = am_si h443 b316 (Int32.toNatClampNeg (42 : Int32)) (0 : Int32) → (am_kd h446 b316 = 100 ∧ 6 ≤ b316) ∧ am_in (43 : Int32) (am_ln h446 b316) ∧ ∀ h449, h449 = am_si h446 b316 (Int32.toNatClampNeg (43 : Int32)) (109 : Int32) → (am_kd h449 b316 = 100 ∧ 6 ≤ b316) ∧ am_in (44 : Int32) (am_ln h449 b316) ∧ ∀ h452, h452 = am_si h449 b316 (Int32.toNatClampNeg (44 : Int32)) (101 : Int32) → (am_kd h452 b316 = 100 ∧ 6 ≤ b316) ∧ am_in (45 : Int32) (am_ln h452 b316) ∧ ∀ h455, h455 = am_si h452 b316 (Int32.toNatClampNeg (45 : Int32)) (109 : Int32) → (am_kd h455 b316 = 100 ∧ 6 ≤ b316) ∧ am_in (46 : Int32) (am_ln h455 b316) ∧ ∀ h458, h458 = am_si h455 b316 (Int32.toNatClampNeg (46 : Int32)) (98 : Int32) → (am_kd h458 b316 = 100 ∧ 6 ≤ b316) ∧ am_in (47 : Int32) (am_ln h458 b316) ∧ ∀ h461, h461 = am_si h458 b316 (Int32.toNatClampNeg (47 : Int32)) (101 : Int32) → (am_kd h461 b316 = 100 ∧ 6 ≤ b316) ∧ am_in (48 : Int32) (am_ln h461 b316) ∧ ∀ h464, h464 = am_si h461 b316 (Int32.toNatClampNeg (48 : Int32)) (114 : Int32) → (am_kd h464 b316 = 100 ∧ 6 ≤ b316) ∧ am_in (49 : Int32) (am_ln h464 b316) ∧ ∀ h467, h467 = am_si h464 b316 (Int32.toNatClampNeg (49 : Int32)) (115 : Int32) → (am_kd h467 b316 = 100 ∧ 6 ≤ b316) ∧ am_in (50 : Int32) (am_ln h467 b316) ∧ ∀ h470, h470 = am_si h467 b316 (Int32.toNatClampNeg (50 : Int32)) (0 : Int32) → (am_kd h470 b316 = 100 ∧ 6 ≤ b316) ∧ am_in (51 : Int32) (am_ln h470 b316) ∧ ∀ h473, h473 = am_si h470 b316 (Int32.toNatClampNeg (51 : Int32)) (112 : Int32) → (am_kd h473 b316 = 100 ∧ 6 ≤ b316) ∧ am_in (52 : Int32) (am_ln h473 b316) ∧ ∀ h476, h476 = am_si h473 b316 (Int32.toNatClampNeg (52 : Int32)) (111 : Int32) → (am_kd h476 b316 = 100 ∧ 6 ≤ b316) ∧ am_in (53 : Int32) (am_ln h476 b316) ∧ ∀ h479, h479 = am_si h476 b316 (Int32.toNatClampNeg (53 : Int32)) (105 : Int32) → (am_kd h479 b316 = 100 ∧ 6 ≤ b316) ∧ am_in (54 : Int32) (am_ln h479 b316) ∧ ∀ h482, h482 = am_si h479 b316 (Int32.toNatClampNeg (54 : Int32)) (110 : Int32) → (am_kd h482 b316 = 100 ∧ 6 ≤ b316) ∧ am_in (55 : Int32) (am_ln h482 b316) ∧ ∀ h485, h485 = am_si h482 b316 (Int32.toNatClampNeg (55 : Int32)) (116 : Int32) → (am_kd h485 b316 = 100 ∧ 6 ≤ b316) ∧ am_in (56 : Int32) (am_ln h485 b316) ∧ ∀ h488, h488 = am_si h485 b316 (Int32.toNatClampNeg (56 : Int32)) (115 : Int32) → (am_kd h488 b316 = 100 ∧ 6 ≤ b316) ∧ am_in (57 : Int32) (am_ln h488 b316) ∧ ∀ h491, h491 = am_si h488 b316 (Int32.toNatClampNeg (57 : Int32)) (0 : Int32) → (am_kd h491 b316 = 100 ∧ 6 ≤ b316) ∧ am_in (58 : Int32) (am_ln h491 b316) ∧ ∀ h494, h494 = am_si h491 b316 (Int32.toNatClampNeg (58 : Int32)) (109 : Int32) → (am_kd h494 b316 = 100 ∧ 6 ≤ b316) ∧ am_in (59 : Int32) (am_ln h494 b316) ∧ ∀ h497, h497 = am_si h494 b316 (Int32.toNatClampNeg (59 : Int32)) (97 : Int32) → (am_kd h497 b316 = 100 ∧ 6 ≤ b316) ∧ am_in (60 : Int32) (am_ln h497 b316) ∧ ∀ h500, h500 = am_si h497 b316 (Int32.toNatClampNeg (60 : Int32)) (121 : Int32) → (am_kd h500 b316 = 100 ∧ 6 ≤ b316) ∧ am_in (61 : Int32) (am_ln h500 b316) ∧ ∀ h503, h503 = am_si h500 b316 (Int32.toNatClampNeg (61 : Int32)) (0 : Int32) → (am_kd h503 b316 = 100 ∧ 6 ≤ b316) ∧ am_in (62 : Int32) (am_ln h503 b316) ∧ ∀ h506, h506 = am_si h503 b316 (Int32.toNatClampNeg (62 : Int32)) (118 : Int32) → (am_kd h506 b316 = 100 ∧ 6 ≤ b316) ∧ am_in (63 : Int32) (am_ln h506 b316) ∧ ∀ h509, h509 = am_si h506 b316 (Int32.toNatClampNeg (63 : Int32)) (111 : Int32) → (am_kd h509 b316 = 100 ∧ 6 ≤ b316) ∧ am_in (64 : Int32) (am_ln h509 b316) ∧ ∀ h512, h512 = am_si h509 b316 (Int32.toNatClampNeg (64 : Int32)) (116 : Int32) → (am_kd h512 b316 = 100 ∧ 6 ≤ b316) ∧ am_in (65 : Int32) (am_ln h512 b316) ∧ ∀ h515, h515 = am_si h512 b316 (Int32.toNatClampNeg (65 : Int32)) (101 : Int32) → (am_kd h515 b316 = 100 ∧ 6 ≤ b316) ∧ am_in (66 : Int32) (am_ln h515 b316) ∧ ∀ h518, h518 = am_si h515 b316 (Int32.toNatClampNeg (66 : Int32)) (115 : Int32) → (am_kd h518 b316 = 100 ∧ 6 ≤ b316) ∧ am_in (67 : Int32) (am_ln h518 b316) ∧ ∀ h521, h521 = am_si h518 b316 (Int32.toNatClampNeg (67 : Int32)) (0 : Int32) → (am_kd h521 b316 = 100 ∧ 6 ≤ b316) ∧ am_in (68 : Int32) (am_ln h521 b316) ∧ ∀ h524, h524 = am_si h521 b316 (Int32.toNatClampNeg (68 : Int32)) (99 : Int32) → (am_kd h524 b316 = 100 ∧ 6 ≤ b316) ∧ am_in (69 : Int32) (am_ln h524 b316) ∧ ∀ h527, h527 = am_si h524 b316 (Int32.toNatClampNeg (69 : Int32)) (111 : Int32) → (am_kd h527 b316 = 100 ∧ 6 ≤ b316) ∧ am_in (70 : Int32) (am_ln h527 b316) ∧ ∀ h530, h530 = am_si h527 b316 (Int32.toNatClampNeg (70 : Int32)) (115 : Int32) → (am_kd h530 b316 = 100 ∧ 6 ≤ b316) ∧ am_in (71 : Int32) (am_ln h530 b316) ∧ ∀ h533, h533 = am_si h530 b316 (Int32.toNatClampNeg (71 : Int32)) (116 : Int32) → (am_kd h533 b316 = 100 ∧ 6 ≤ b316) ∧ am_in (72 : Int32) (am_ln h533 b316) ∧ ∀ h536, h536 = am_si h533 b316 (Int32.toNatClampNeg (72 : Int32)) (115 : Int32) → (am_kd h536 b316 = 100 ∧ 6 ≤ b316) ∧ am_in (73 : Int32) (am_ln h536 b316) ∧ ∀ h539, h539 = am_si h536 b316 (Int32.toNatClampNeg (73 : Int32)) (0 : Int32) → (am_kd h539 b316 = 100 ∧ 6 ≤ b316) ∧ am_in (74 : Int32) (am_ln h539 b316) ∧ ∀ h542, h542 = am_si h539 b316 (Int32.toNatClampNeg (74 : Int32)) (111 : Int32) → (am_kd h542 b316 = 100 ∧ 6 ≤ b316) ∧ am_in (75 : Int32) (am_ln h542 b316) ∧ ∀ h545, h545 = am_si h542 b316 (Int32.toNatClampNeg (75 : Int32)) (114 : Int32) → (am_kd h545 b316 = 100 ∧ 6 ≤ b316) ∧ am_in (76 : Int32) (am_ln h545 b316) ∧ ∀ h548, h548 = am_si h545 b316 (Int32.toNatClampNeg (76 : Int32)) (0 : Int32) → (am_kd h548 b316 = 100 ∧ 6 ≤ b316) ∧ am_in (77 : Int32) (am_ln h548 b316) ∧ ∀ h551, h551 = am_si h548 b316 (Int32.toNatClampNeg (77 : Int32)) (97 : Int32) → (am_kd h551 b316 = 100 ∧ 6 ≤ b316) ∧ am_in (78 : Int32) (am_ln h551 b316) ∧ ∀ h554, h554 = am_si h551 b316 (Int32.toNatClampNeg (78 : Int32)) (110 : Int32) → (am_kd h554 b316 = 100 ∧ 6 ≤ b316) ∧ am_in (79 : Int32) (am_ln h554 b316) ∧ ∀ h557, h557 = am_si h554 b316 (Int32.toNatClampNeg (79 : Int32)) (100 : Int32) → (am_kd h557 b316 = 100 ∧ 6 ≤ b316) ∧ am_in (80 : Int32) (am_ln h557 b316) ∧ ∀ h560, h560 = am_si h557 b316 (Int32.toNatClampNeg (80 : Int32)) (0 : Int32) → (am_kd h560 b316 = 100 ∧ 6 ≤ b316) ∧ am_in (81 : Int32) (am_ln h560 b316) ∧ ∀ h563, h563 = am_si h560 b316 (Int32.toNatClampNeg (81 : Int32)) (110 : Int32) → (am_kd h563 b316 = 100 ∧ 6 ≤ b316) ∧ am_in (82 : Int32) (am_ln h563 b316) ∧ ∀ h566, h566 = am_si h563 b316 (Int32.toNatClampNeg (82 : Int32)) (111 : Int32) → (am_kd h566 b316 = 100 ∧ 6 ≤ b316) ∧ am_in (83 : Int32) (am_ln h566 b316) ∧ ∀ h569, h569 = am_si h566 b316 (Int32.toNatClampNeg (83 : Int32)) (116 : Int32) → (am_kd h569 b316 = 100 ∧ 6 ≤ b316) ∧ am_in (84 : Int32) (am_ln h569 b316) ∧ ∀ h572, h572 = am_si h569 b316 (Int32.toNatClampNeg (84 : Int32)) (0 : Int32) → am_kd h572 a0 = 12 ∧ ∀ h574, h574 = am_sr h572 a0 49 (some b316) → (¬ (420 : Int32) < (0 : Int32) ∧ (Int32.toNatClampNeg (420 : Int32)) ≤ 100000) ∧ ∀ b576, b576 = am_sz h574 → ∀ h575, h575 = am_nw h574 101 (Int32.toNatClampNeg (420 : Int32)) (Int32.toNatClampNeg (420 : Int32)) → am_kd h575 a0 = 12 ∧ ∀ h579, h579 = am_sr h575 a0 60 (some b576) → (¬ (24 : Int32) < (0 : Int32) ∧ (Int32.toNatClampNeg (24 : Int32)) ≤ 100000) ∧ ∀ b581, b581 = am_sz h579 → ∀ h580, h580 = am_nw h579 100 (Int32.toNatClampNeg (24 : Int32)) (Int32.toNatClampNeg (24 : Int32)) → am_kd h580 a0 = 12 ∧ ∀ h584, h584 = am_sr h580 a0 62 (some b581) → (¬ (24 : Int32) < (0 : Int32) ∧ (Int32.toNatClampNeg (24 : Int32)) ≤ 100000) ∧ ∀ b586, b586 = am_sz h584 → ∀ h585, h585 = am_nw h584 100 (Int32.toNatClampNeg (24 : Int32)) (Int32.toNatClampNeg (24 : Int32)) → am_kd h585 a0 = 12 ∧ ∀ h589, h589 = am_sr h585 a0 63 (some b586) → (¬ (24 : Int32) < (0 : Int32) ∧ (Int32.toNatClampNeg (24 : Int32)) ≤ 100000) ∧ ∀ b591, b591 = am_sz h589 → ∀ h590, h590 = am_nw h589 100 (Int32.toNatClampNeg (24 : Int32)) (Int32.toNatClampNeg (24 : Int32)) → am_kd h590 a0 = 12 ∧ ∀ h594, h594 = am_sr h590 a0 64 (some b591) → (¬ (53248 : Int32) < (0 : Int32) ∧ (Int32.toNatClampNeg (53248 : Int32)) ≤ 100000) ∧ ∀ b596, b596 = am_sz h594 → ∀ h595, h595 = am_nw h594 100 (Int32.toNatClampNeg (53248 : Int32)) (Int32.toNatClampNeg (53248 : Int32)) → am_kd h595 a0 = 12 ∧ ∀ h599, h599 = am_sr h595 a0 65 (some b596) → (¬ (24 : Int32) < (0 : Int32) ∧ (Int32.toNatClampNeg (24 : Int32)) ≤ 100000) ∧ ∀ b601, b601 = am_sz h599 → ∀ h600, h600 = am_nw h599 100 (Int32.toNatClampNeg (24 : Int32)) (Int32.toNatClampNeg (24 : Int32)) → am_kd h600 a0 = 12 ∧ ∀ h604, h604 = am_sr h600 a0 67 (some b601) → (¬ (12 : Int32) < (0 : Int32) ∧ (Int32.toNatClampNeg (12 : Int32)) ≤ 100000) ∧ ∀ b606, b606 = am_sz h604 → ∀ h605, h605 = am_nw h604 101 (Int32.toNatClampNeg (12 : Int32)) (Int32.toNatClampNeg (12 : Int32)) → am_kd h605 a0 = 12 ∧ ∀ h609, h609 = am_sr h605 a0 68 (some b606) → (¬ (12 : Int32) < (0 : Int32) ∧ (Int32.toNatClampNeg (12 : Int32)) ≤ 100000) ∧ ∀ b611, b611 = am_sz h609 → ∀ h610, h610 = am_nw h609 101 (Int32.toNatClampNeg (12 : Int32)) (Int32.toNatClampNeg (12 : Int32)) → am_kd h610 a0 = 12 ∧ ∀ h614, h614 = am_sr h610 a0 69 (some b611) → Ev (d + 1) 166 1121 [.ref a0, .int (0 : Int32)] [] h614 Q) : Cl (d + 1) 166 [.ref a0] h Q := by
  show Ev (d + 1) 166 0 [.ref a0, .null] [] h Q
  refine ev_p (pc' := 1) (loc' := [.ref a0, .null]) (st' := [.ref a0]) 1 am_q166 rfl ?_
  refine ev_b (st' := []) (h1 := h) am_q166 rfl rfl rfl rfl (rfl) rfl ?_
  refine ev_p (pc' := 7) (loc' := [.ref a0, .null]) (st' := [.int (12 : Int32), .ref a0]) 2 am_q166 rfl ?_
  obtain ⟨g4, H⟩ := H
  refine ev_s (pc' := 9) (loc' := [.ref a0, .null]) (st' := [.ref (am_sz h), .ref a0]) (h1 := am_nw h 100 (Int32.toNatClampNeg (12 : Int32)) (Int32.toNatClampNeg (12 : Int32))) am_q166 rfl rfl rfl (if_pos (e := none) g4) ?_
  replace H := H _ rfl _ rfl
  generalize am_nw h 100 (Int32.toNatClampNeg (12 : Int32)) (Int32.toNatClampNeg (12 : Int32)) = h2 at H ⊢
  generalize am_sz h = b3 at H ⊢
  obtain ⟨g5, H⟩ := H
  refine ev_s (pc' := 12) (loc' := [.ref a0, .null]) (st' := []) (h1 := am_sr h2 a0 2 (some b3)) am_q166 rfl rfl rfl (if_pos (e := none) g5) ?_
  replace H := H _ rfl
  generalize am_sr h2 a0 2 (some b3) = h6 at H ⊢
  refine ev_p (pc' := 15) (loc' := [.ref a0, .null]) (st' := [.int (12 : Int32), .ref a0]) 2 am_q166 rfl ?_
  obtain ⟨g9, H⟩ := H
  refine ev_s (pc' := 17) (loc' := [.ref a0, .null]) (st' := [.ref (am_sz h6), .ref a0]) (h1 := am_nw h6 100 (Int32.toNatClampNeg (12 : Int32)) (Int32.toNatClampNeg (12 : Int32))) am_q166 rfl rfl rfl (if_pos (e := none) g9) ?_
  replace H := H _ rfl _ rfl
  generalize am_nw h6 100 (Int32.toNatClampNeg (12 : Int32)) (Int32.toNatClampNeg (12 : Int32)) = h7 at H ⊢
  generalize am_sz h6 = b8 at H ⊢
  obtain ⟨g10, H⟩ := H
  refine ev_s (pc' := 20) (loc' := [.ref a0, .null]) (st' := []) (h1 := am_sr h7 a0 3 (some b8)) am_q166 rfl rfl rfl (if_pos (e := none) g10) ?_
  replace H := H _ rfl
  generalize am_sr h7 a0 3 (some b8) = h11 at H ⊢
  refine ev_p (pc' := 23) (loc' := [.ref a0, .null]) (st' := [.int (12 : Int32), .ref a0]) 2 am_q166 rfl ?_
  obtain ⟨g14, H⟩ := H
  refine ev_s (pc' := 25) (loc' := [.ref a0, .null]) (st' := [.ref (am_sz h11), .ref a0]) (h1 := am_nw h11 100 (Int32.toNatClampNeg (12 : Int32)) (Int32.toNatClampNeg (12 : Int32))) am_q166 rfl rfl rfl (if_pos (e := none) g14) ?_
  replace H := H _ rfl _ rfl
  generalize am_nw h11 100 (Int32.toNatClampNeg (12 : Int32)) (Int32.toNatClampNeg (12 : Int32)) = h12 at H ⊢
  generalize am_sz h11 = b13 at H ⊢
  obtain ⟨g15, H⟩ := H
  refine ev_s (pc' := 28) (loc' := [.ref a0, .null]) (st' := []) (h1 := am_sr h12 a0 4 (some b13)) am_q166 rfl rfl rfl (if_pos (e := none) g15) ?_
  replace H := H _ rfl
  generalize am_sr h12 a0 4 (some b13) = h16 at H ⊢
  refine ev_p (pc' := 31) (loc' := [.ref a0, .null]) (st' := [.int (12 : Int32), .ref a0]) 2 am_q166 rfl ?_
  obtain ⟨g19, H⟩ := H
  refine ev_s (pc' := 33) (loc' := [.ref a0, .null]) (st' := [.ref (am_sz h16), .ref a0]) (h1 := am_nw h16 103 (Int32.toNatClampNeg (12 : Int32)) (Int32.toNatClampNeg (12 : Int32))) am_q166 rfl rfl rfl (if_pos (e := none) g19) ?_
  replace H := H _ rfl _ rfl
  generalize am_nw h16 103 (Int32.toNatClampNeg (12 : Int32)) (Int32.toNatClampNeg (12 : Int32)) = h17 at H ⊢
  generalize am_sz h16 = b18 at H ⊢
  obtain ⟨g20, H⟩ := H
  refine ev_s (pc' := 36) (loc' := [.ref a0, .null]) (st' := []) (h1 := am_sr h17 a0 5 (some b18)) am_q166 rfl rfl rfl (if_pos (e := none) g20) ?_
  replace H := H _ rfl
  generalize am_sr h17 a0 5 (some b18) = h21 at H ⊢
  refine ev_p (pc' := 39) (loc' := [.ref a0, .null]) (st' := [.int (12 : Int32), .ref a0]) 2 am_q166 rfl ?_
  obtain ⟨g24, H⟩ := H
  refine ev_s (pc' := 41) (loc' := [.ref a0, .null]) (st' := [.ref (am_sz h21), .ref a0]) (h1 := am_nw h21 100 (Int32.toNatClampNeg (12 : Int32)) (Int32.toNatClampNeg (12 : Int32))) am_q166 rfl rfl rfl (if_pos (e := none) g24) ?_
  replace H := H _ rfl _ rfl
  generalize am_nw h21 100 (Int32.toNatClampNeg (12 : Int32)) (Int32.toNatClampNeg (12 : Int32)) = h22 at H ⊢
  generalize am_sz h21 = b23 at H ⊢
  obtain ⟨g25, H⟩ := H
  refine ev_s (pc' := 44) (loc' := [.ref a0, .null]) (st' := []) (h1 := am_sr h22 a0 6 (some b23)) am_q166 rfl rfl rfl (if_pos (e := none) g25) ?_
  replace H := H _ rfl
  generalize am_sr h22 a0 6 (some b23) = h26 at H ⊢
  refine ev_p (pc' := 47) (loc' := [.ref a0, .null]) (st' := [.int (24 : Int32), .ref a0]) 2 am_q166 rfl ?_
  obtain ⟨g29, H⟩ := H
  refine ev_s (pc' := 49) (loc' := [.ref a0, .null]) (st' := [.ref (am_sz h26), .ref a0]) (h1 := am_nw h26 100 (Int32.toNatClampNeg (24 : Int32)) (Int32.toNatClampNeg (24 : Int32))) am_q166 rfl rfl rfl (if_pos (e := none) g29) ?_
  replace H := H _ rfl _ rfl
  generalize am_nw h26 100 (Int32.toNatClampNeg (24 : Int32)) (Int32.toNatClampNeg (24 : Int32)) = h27 at H ⊢
  generalize am_sz h26 = b28 at H ⊢
  obtain ⟨g30, H⟩ := H
  refine ev_s (pc' := 52) (loc' := [.ref a0, .null]) (st' := []) (h1 := am_sr h27 a0 8 (some b28)) am_q166 rfl rfl rfl (if_pos (e := none) g30) ?_
  replace H := H _ rfl
  generalize am_sr h27 a0 8 (some b28) = h31 at H ⊢
  refine ev_p (pc' := 55) (loc' := [.ref a0, .null]) (st' := [.int (24 : Int32), .ref a0]) 2 am_q166 rfl ?_
  obtain ⟨g34, H⟩ := H
  refine ev_s (pc' := 57) (loc' := [.ref a0, .null]) (st' := [.ref (am_sz h31), .ref a0]) (h1 := am_nw h31 100 (Int32.toNatClampNeg (24 : Int32)) (Int32.toNatClampNeg (24 : Int32))) am_q166 rfl rfl rfl (if_pos (e := none) g34) ?_
  replace H := H _ rfl _ rfl
  generalize am_nw h31 100 (Int32.toNatClampNeg (24 : Int32)) (Int32.toNatClampNeg (24 : Int32)) = h32 at H ⊢
  generalize am_sz h31 = b33 at H ⊢
  obtain ⟨g35, H⟩ := H
  refine ev_s (pc' := 60) (loc' := [.ref a0, .null]) (st' := []) (h1 := am_sr h32 a0 9 (some b33)) am_q166 rfl rfl rfl (if_pos (e := none) g35) ?_
  replace H := H _ rfl
  generalize am_sr h32 a0 9 (some b33) = h36 at H ⊢
  refine ev_p (pc' := 63) (loc' := [.ref a0, .null]) (st' := [.int (24 : Int32), .ref a0]) 2 am_q166 rfl ?_
  obtain ⟨g39, H⟩ := H
  refine ev_s (pc' := 65) (loc' := [.ref a0, .null]) (st' := [.ref (am_sz h36), .ref a0]) (h1 := am_nw h36 100 (Int32.toNatClampNeg (24 : Int32)) (Int32.toNatClampNeg (24 : Int32))) am_q166 rfl rfl rfl (if_pos (e := none) g39) ?_
  replace H := H _ rfl _ rfl
  generalize am_nw h36 100 (Int32.toNatClampNeg (24 : Int32)) (Int32.toNatClampNeg (24 : Int32)) = h37 at H ⊢
  generalize am_sz h36 = b38 at H ⊢
  obtain ⟨g40, H⟩ := H
  refine ev_s (pc' := 68) (loc' := [.ref a0, .null]) (st' := []) (h1 := am_sr h37 a0 10 (some b38)) am_q166 rfl rfl rfl (if_pos (e := none) g40) ?_
  replace H := H _ rfl
  generalize am_sr h37 a0 10 (some b38) = h41 at H ⊢
  refine ev_p (pc' := 71) (loc' := [.ref a0, .null]) (st' := [.int (24 : Int32), .ref a0]) 2 am_q166 rfl ?_
  obtain ⟨g44, H⟩ := H
  refine ev_s (pc' := 73) (loc' := [.ref a0, .null]) (st' := [.ref (am_sz h41), .ref a0]) (h1 := am_nw h41 100 (Int32.toNatClampNeg (24 : Int32)) (Int32.toNatClampNeg (24 : Int32))) am_q166 rfl rfl rfl (if_pos (e := none) g44) ?_
  replace H := H _ rfl _ rfl
  generalize am_nw h41 100 (Int32.toNatClampNeg (24 : Int32)) (Int32.toNatClampNeg (24 : Int32)) = h42 at H ⊢
  generalize am_sz h41 = b43 at H ⊢
  obtain ⟨g45, H⟩ := H
  refine ev_s (pc' := 76) (loc' := [.ref a0, .null]) (st' := []) (h1 := am_sr h42 a0 11 (some b43)) am_q166 rfl rfl rfl (if_pos (e := none) g45) ?_
  replace H := H _ rfl
  generalize am_sr h42 a0 11 (some b43) = h46 at H ⊢
  refine ev_p (pc' := 79) (loc' := [.ref a0, .null]) (st' := [.int (24 : Int32), .ref a0]) 2 am_q166 rfl ?_
  obtain ⟨g49, H⟩ := H
  refine ev_s (pc' := 81) (loc' := [.ref a0, .null]) (st' := [.ref (am_sz h46), .ref a0]) (h1 := am_nw h46 100 (Int32.toNatClampNeg (24 : Int32)) (Int32.toNatClampNeg (24 : Int32))) am_q166 rfl rfl rfl (if_pos (e := none) g49) ?_
  replace H := H _ rfl _ rfl
  generalize am_nw h46 100 (Int32.toNatClampNeg (24 : Int32)) (Int32.toNatClampNeg (24 : Int32)) = h47 at H ⊢
  generalize am_sz h46 = b48 at H ⊢
  obtain ⟨g50, H⟩ := H
  refine ev_s (pc' := 84) (loc' := [.ref a0, .null]) (st' := []) (h1 := am_sr h47 a0 12 (some b48)) am_q166 rfl rfl rfl (if_pos (e := none) g50) ?_
  replace H := H _ rfl
  generalize am_sr h47 a0 12 (some b48) = h51 at H ⊢
  refine ev_p (pc' := 87) (loc' := [.ref a0, .null]) (st' := [.int (24 : Int32), .ref a0]) 2 am_q166 rfl ?_
  obtain ⟨g54, H⟩ := H
  refine ev_s (pc' := 89) (loc' := [.ref a0, .null]) (st' := [.ref (am_sz h51), .ref a0]) (h1 := am_nw h51 101 (Int32.toNatClampNeg (24 : Int32)) (Int32.toNatClampNeg (24 : Int32))) am_q166 rfl rfl rfl (if_pos (e := none) g54) ?_
  replace H := H _ rfl _ rfl
  generalize am_nw h51 101 (Int32.toNatClampNeg (24 : Int32)) (Int32.toNatClampNeg (24 : Int32)) = h52 at H ⊢
  generalize am_sz h51 = b53 at H ⊢
  obtain ⟨g55, H⟩ := H
  refine ev_s (pc' := 92) (loc' := [.ref a0, .null]) (st' := []) (h1 := am_sr h52 a0 13 (some b53)) am_q166 rfl rfl rfl (if_pos (e := none) g55) ?_
  replace H := H _ rfl
  generalize am_sr h52 a0 13 (some b53) = h56 at H ⊢
  refine ev_p (pc' := 95) (loc' := [.ref a0, .null]) (st' := [.int (60 : Int32), .ref a0]) 2 am_q166 rfl ?_
  obtain ⟨g59, H⟩ := H
  refine ev_s (pc' := 97) (loc' := [.ref a0, .null]) (st' := [.ref (am_sz h56), .ref a0]) (h1 := am_nw h56 100 (Int32.toNatClampNeg (60 : Int32)) (Int32.toNatClampNeg (60 : Int32))) am_q166 rfl rfl rfl (if_pos (e := none) g59) ?_
  replace H := H _ rfl _ rfl
  generalize am_nw h56 100 (Int32.toNatClampNeg (60 : Int32)) (Int32.toNatClampNeg (60 : Int32)) = h57 at H ⊢
  generalize am_sz h56 = b58 at H ⊢
  obtain ⟨g60, H⟩ := H
  refine ev_s (pc' := 100) (loc' := [.ref a0, .null]) (st' := []) (h1 := am_sr h57 a0 15 (some b58)) am_q166 rfl rfl rfl (if_pos (e := none) g60) ?_
  replace H := H _ rfl
  generalize am_sr h57 a0 15 (some b58) = h61 at H ⊢
  refine ev_p (pc' := 103) (loc' := [.ref a0, .null]) (st' := [.int (60 : Int32), .ref a0]) 2 am_q166 rfl ?_
  obtain ⟨g64, H⟩ := H
  refine ev_s (pc' := 105) (loc' := [.ref a0, .null]) (st' := [.ref (am_sz h61), .ref a0]) (h1 := am_nw h61 100 (Int32.toNatClampNeg (60 : Int32)) (Int32.toNatClampNeg (60 : Int32))) am_q166 rfl rfl rfl (if_pos (e := none) g64) ?_
  replace H := H _ rfl _ rfl
  generalize am_nw h61 100 (Int32.toNatClampNeg (60 : Int32)) (Int32.toNatClampNeg (60 : Int32)) = h62 at H ⊢
  generalize am_sz h61 = b63 at H ⊢
  obtain ⟨g65, H⟩ := H
  refine ev_s (pc' := 108) (loc' := [.ref a0, .null]) (st' := []) (h1 := am_sr h62 a0 16 (some b63)) am_q166 rfl rfl rfl (if_pos (e := none) g65) ?_
  replace H := H _ rfl
  generalize am_sr h62 a0 16 (some b63) = h66 at H ⊢
  refine ev_p (pc' := 111) (loc' := [.ref a0, .null]) (st' := [.int (60 : Int32), .ref a0]) 2 am_q166 rfl ?_
  obtain ⟨g69, H⟩ := H
  refine ev_s (pc' := 113) (loc' := [.ref a0, .null]) (st' := [.ref (am_sz h66), .ref a0]) (h1 := am_nw h66 100 (Int32.toNatClampNeg (60 : Int32)) (Int32.toNatClampNeg (60 : Int32))) am_q166 rfl rfl rfl (if_pos (e := none) g69) ?_
  replace H := H _ rfl _ rfl
  generalize am_nw h66 100 (Int32.toNatClampNeg (60 : Int32)) (Int32.toNatClampNeg (60 : Int32)) = h67 at H ⊢
  generalize am_sz h66 = b68 at H ⊢
  obtain ⟨g70, H⟩ := H
  refine ev_s (pc' := 116) (loc' := [.ref a0, .null]) (st' := []) (h1 := am_sr h67 a0 17 (some b68)) am_q166 rfl rfl rfl (if_pos (e := none) g70) ?_
  replace H := H _ rfl
  generalize am_sr h67 a0 17 (some b68) = h71 at H ⊢
  refine ev_p (pc' := 119) (loc' := [.ref a0, .null]) (st' := [.int (60 : Int32), .ref a0]) 2 am_q166 rfl ?_
  obtain ⟨g74, H⟩ := H
  refine ev_s (pc' := 121) (loc' := [.ref a0, .null]) (st' := [.ref (am_sz h71), .ref a0]) (h1 := am_nw h71 100 (Int32.toNatClampNeg (60 : Int32)) (Int32.toNatClampNeg (60 : Int32))) am_q166 rfl rfl rfl (if_pos (e := none) g74) ?_
  replace H := H _ rfl _ rfl
  generalize am_nw h71 100 (Int32.toNatClampNeg (60 : Int32)) (Int32.toNatClampNeg (60 : Int32)) = h72 at H ⊢
  generalize am_sz h71 = b73 at H ⊢
  obtain ⟨g75, H⟩ := H
  refine ev_s (pc' := 124) (loc' := [.ref a0, .null]) (st' := []) (h1 := am_sr h72 a0 18 (some b73)) am_q166 rfl rfl rfl (if_pos (e := none) g75) ?_
  replace H := H _ rfl
  generalize am_sr h72 a0 18 (some b73) = h76 at H ⊢
  refine ev_p (pc' := 127) (loc' := [.ref a0, .null]) (st' := [.int (60 : Int32), .ref a0]) 2 am_q166 rfl ?_
  obtain ⟨g79, H⟩ := H
  refine ev_s (pc' := 129) (loc' := [.ref a0, .null]) (st' := [.ref (am_sz h76), .ref a0]) (h1 := am_nw h76 100 (Int32.toNatClampNeg (60 : Int32)) (Int32.toNatClampNeg (60 : Int32))) am_q166 rfl rfl rfl (if_pos (e := none) g79) ?_
  replace H := H _ rfl _ rfl
  generalize am_nw h76 100 (Int32.toNatClampNeg (60 : Int32)) (Int32.toNatClampNeg (60 : Int32)) = h77 at H ⊢
  generalize am_sz h76 = b78 at H ⊢
  obtain ⟨g80, H⟩ := H
  refine ev_s (pc' := 132) (loc' := [.ref a0, .null]) (st' := []) (h1 := am_sr h77 a0 19 (some b78)) am_q166 rfl rfl rfl (if_pos (e := none) g80) ?_
  replace H := H _ rfl
  generalize am_sr h77 a0 19 (some b78) = h81 at H ⊢
  refine ev_p (pc' := 135) (loc' := [.ref a0, .null]) (st' := [.int (60 : Int32), .ref a0]) 2 am_q166 rfl ?_
  obtain ⟨g84, H⟩ := H
  refine ev_s (pc' := 137) (loc' := [.ref a0, .null]) (st' := [.ref (am_sz h81), .ref a0]) (h1 := am_nw h81 100 (Int32.toNatClampNeg (60 : Int32)) (Int32.toNatClampNeg (60 : Int32))) am_q166 rfl rfl rfl (if_pos (e := none) g84) ?_
  replace H := H _ rfl _ rfl
  generalize am_nw h81 100 (Int32.toNatClampNeg (60 : Int32)) (Int32.toNatClampNeg (60 : Int32)) = h82 at H ⊢
  generalize am_sz h81 = b83 at H ⊢
  obtain ⟨g85, H⟩ := H
  refine ev_s (pc' := 140) (loc' := [.ref a0, .null]) (st' := []) (h1 := am_sr h82 a0 20 (some b83)) am_q166 rfl rfl rfl (if_pos (e := none) g85) ?_
  replace H := H _ rfl
  generalize am_sr h82 a0 20 (some b83) = h86 at H ⊢
  refine ev_p (pc' := 144) (loc' := [.ref a0, .null]) (st' := [.int (400 : Int32), .ref a0]) 2 am_q166 rfl ?_
  obtain ⟨g89, H⟩ := H
  refine ev_s (pc' := 146) (loc' := [.ref a0, .null]) (st' := [.ref (am_sz h86), .ref a0]) (h1 := am_nw h86 100 (Int32.toNatClampNeg (400 : Int32)) (Int32.toNatClampNeg (400 : Int32))) am_q166 rfl rfl rfl (if_pos (e := none) g89) ?_
  replace H := H _ rfl _ rfl
  generalize am_nw h86 100 (Int32.toNatClampNeg (400 : Int32)) (Int32.toNatClampNeg (400 : Int32)) = h87 at H ⊢
  generalize am_sz h86 = b88 at H ⊢
  obtain ⟨g90, H⟩ := H
  refine ev_s (pc' := 149) (loc' := [.ref a0, .null]) (st' := []) (h1 := am_sr h87 a0 21 (some b88)) am_q166 rfl rfl rfl (if_pos (e := none) g90) ?_
  replace H := H _ rfl
  generalize am_sr h87 a0 21 (some b88) = h91 at H ⊢
  refine ev_p (pc' := 152) (loc' := [.ref a0, .null]) (st' := [.int (13 : Int32), .ref a0]) 2 am_q166 rfl ?_
  obtain ⟨g94, H⟩ := H
  refine ev_s (pc' := 154) (loc' := [.ref a0, .null]) (st' := [.ref (am_sz h91), .ref a0]) (h1 := am_nw h91 100 (Int32.toNatClampNeg (13 : Int32)) (Int32.toNatClampNeg (13 : Int32))) am_q166 rfl rfl rfl (if_pos (e := none) g94) ?_
  replace H := H _ rfl _ rfl
  generalize am_nw h91 100 (Int32.toNatClampNeg (13 : Int32)) (Int32.toNatClampNeg (13 : Int32)) = h92 at H ⊢
  generalize am_sz h91 = b93 at H ⊢
  obtain ⟨g95, H⟩ := H
  refine ev_s (pc' := 157) (loc' := [.ref a0, .null]) (st' := []) (h1 := am_sr h92 a0 24 (some b93)) am_q166 rfl rfl rfl (if_pos (e := none) g95) ?_
  replace H := H _ rfl
  generalize am_sr h92 a0 24 (some b93) = h96 at H ⊢
  refine ev_p (pc' := 161) (loc' := [.ref a0, .null]) (st' := [.int (5200 : Int32), .ref a0]) 2 am_q166 rfl ?_
  obtain ⟨g99, H⟩ := H
  refine ev_s (pc' := 163) (loc' := [.ref a0, .null]) (st' := [.ref (am_sz h96), .ref a0]) (h1 := am_nw h96 100 (Int32.toNatClampNeg (5200 : Int32)) (Int32.toNatClampNeg (5200 : Int32))) am_q166 rfl rfl rfl (if_pos (e := none) g99) ?_
  replace H := H _ rfl _ rfl
  generalize am_nw h96 100 (Int32.toNatClampNeg (5200 : Int32)) (Int32.toNatClampNeg (5200 : Int32)) = h97 at H ⊢
  generalize am_sz h96 = b98 at H ⊢
  obtain ⟨g100, H⟩ := H
  refine ev_s (pc' := 166) (loc' := [.ref a0, .null]) (st' := []) (h1 := am_sr h97 a0 25 (some b98)) am_q166 rfl rfl rfl (if_pos (e := none) g100) ?_
  replace H := H _ rfl
  generalize am_sr h97 a0 25 (some b98) = h101 at H ⊢
  refine ev_p (pc' := 170) (loc' := [.ref a0, .null]) (st' := [.int (5200 : Int32), .ref a0]) 2 am_q166 rfl ?_
  obtain ⟨g104, H⟩ := H
  refine ev_s (pc' := 172) (loc' := [.ref a0, .null]) (st' := [.ref (am_sz h101), .ref a0]) (h1 := am_nw h101 100 (Int32.toNatClampNeg (5200 : Int32)) (Int32.toNatClampNeg (5200 : Int32))) am_q166 rfl rfl rfl (if_pos (e := none) g104) ?_
  replace H := H _ rfl _ rfl
  generalize am_nw h101 100 (Int32.toNatClampNeg (5200 : Int32)) (Int32.toNatClampNeg (5200 : Int32)) = h102 at H ⊢
  generalize am_sz h101 = b103 at H ⊢
  obtain ⟨g105, H⟩ := H
  refine ev_s (pc' := 175) (loc' := [.ref a0, .null]) (st' := []) (h1 := am_sr h102 a0 26 (some b103)) am_q166 rfl rfl rfl (if_pos (e := none) g105) ?_
  replace H := H _ rfl
  generalize am_sr h102 a0 26 (some b103) = h106 at H ⊢
  refine ev_p (pc' := 179) (loc' := [.ref a0, .null]) (st' := [.int (5200 : Int32), .ref a0]) 2 am_q166 rfl ?_
  obtain ⟨g109, H⟩ := H
  refine ev_s (pc' := 181) (loc' := [.ref a0, .null]) (st' := [.ref (am_sz h106), .ref a0]) (h1 := am_nw h106 100 (Int32.toNatClampNeg (5200 : Int32)) (Int32.toNatClampNeg (5200 : Int32))) am_q166 rfl rfl rfl (if_pos (e := none) g109) ?_
  replace H := H _ rfl _ rfl
  generalize am_nw h106 100 (Int32.toNatClampNeg (5200 : Int32)) (Int32.toNatClampNeg (5200 : Int32)) = h107 at H ⊢
  generalize am_sz h106 = b108 at H ⊢
  obtain ⟨g110, H⟩ := H
  refine ev_s (pc' := 184) (loc' := [.ref a0, .null]) (st' := []) (h1 := am_sr h107 a0 27 (some b108)) am_q166 rfl rfl rfl (if_pos (e := none) g110) ?_
  replace H := H _ rfl
  generalize am_sr h107 a0 27 (some b108) = h111 at H ⊢
  refine ev_p (pc' := 187) (loc' := [.ref a0, .null]) (st' := [.int (65 : Int32), .ref a0]) 2 am_q166 rfl ?_
  obtain ⟨g114, H⟩ := H
  refine ev_s (pc' := 189) (loc' := [.ref a0, .null]) (st' := [.ref (am_sz h111), .ref a0]) (h1 := am_nw h111 100 (Int32.toNatClampNeg (65 : Int32)) (Int32.toNatClampNeg (65 : Int32))) am_q166 rfl rfl rfl (if_pos (e := none) g114) ?_
  replace H := H _ rfl _ rfl
  generalize am_nw h111 100 (Int32.toNatClampNeg (65 : Int32)) (Int32.toNatClampNeg (65 : Int32)) = h112 at H ⊢
  generalize am_sz h111 = b113 at H ⊢
  obtain ⟨g115, H⟩ := H
  refine ev_s (pc' := 192) (loc' := [.ref a0, .null]) (st' := []) (h1 := am_sr h112 a0 28 (some b113)) am_q166 rfl rfl rfl (if_pos (e := none) g115) ?_
  replace H := H _ rfl
  generalize am_sr h112 a0 28 (some b113) = h116 at H ⊢
  refine ev_p (pc' := 195) (loc' := [.ref a0, .null]) (st' := [.int (13 : Int32), .ref a0]) 2 am_q166 rfl ?_
  obtain ⟨g119, H⟩ := H
  refine ev_s (pc' := 197) (loc' := [.ref a0, .null]) (st' := [.ref (am_sz h116), .ref a0]) (h1 := am_nw h116 103 (Int32.toNatClampNeg (13 : Int32)) (Int32.toNatClampNeg (13 : Int32))) am_q166 rfl rfl rfl (if_pos (e := none) g119) ?_
  replace H := H _ rfl _ rfl
  generalize am_nw h116 103 (Int32.toNatClampNeg (13 : Int32)) (Int32.toNatClampNeg (13 : Int32)) = h117 at H ⊢
  generalize am_sz h116 = b118 at H ⊢
  obtain ⟨g120, H⟩ := H
  refine ev_s (pc' := 200) (loc' := [.ref a0, .null]) (st' := []) (h1 := am_sr h117 a0 29 (some b118)) am_q166 rfl rfl rfl (if_pos (e := none) g120) ?_
  replace H := H _ rfl
  generalize am_sr h117 a0 29 (some b118) = h121 at H ⊢
  refine ev_p (pc' := 203) (loc' := [.ref a0, .null]) (st' := [.int (13 : Int32), .ref a0]) 2 am_q166 rfl ?_
  obtain ⟨g124, H⟩ := H
  refine ev_s (pc' := 205) (loc' := [.ref a0, .null]) (st' := [.ref (am_sz h121), .ref a0]) (h1 := am_nw h121 103 (Int32.toNatClampNeg (13 : Int32)) (Int32.toNatClampNeg (13 : Int32))) am_q166 rfl rfl rfl (if_pos (e := none) g124) ?_
  replace H := H _ rfl _ rfl
  generalize am_nw h121 103 (Int32.toNatClampNeg (13 : Int32)) (Int32.toNatClampNeg (13 : Int32)) = h122 at H ⊢
  generalize am_sz h121 = b123 at H ⊢
  obtain ⟨g125, H⟩ := H
  refine ev_s (pc' := 208) (loc' := [.ref a0, .null]) (st' := []) (h1 := am_sr h122 a0 30 (some b123)) am_q166 rfl rfl rfl (if_pos (e := none) g125) ?_
  replace H := H _ rfl
  generalize am_sr h122 a0 30 (some b123) = h126 at H ⊢
  refine ev_p (pc' := 211) (loc' := [.ref a0, .null]) (st' := [.int (13 : Int32), .ref a0]) 2 am_q166 rfl ?_
  obtain ⟨g129, H⟩ := H
  refine ev_s (pc' := 213) (loc' := [.ref a0, .null]) (st' := [.ref (am_sz h126), .ref a0]) (h1 := am_nw h126 100 (Int32.toNatClampNeg (13 : Int32)) (Int32.toNatClampNeg (13 : Int32))) am_q166 rfl rfl rfl (if_pos (e := none) g129) ?_
  replace H := H _ rfl _ rfl
  generalize am_nw h126 100 (Int32.toNatClampNeg (13 : Int32)) (Int32.toNatClampNeg (13 : Int32)) = h127 at H ⊢
  generalize am_sz h126 = b128 at H ⊢
  obtain ⟨g130, H⟩ := H
  refine ev_s (pc' := 216) (loc' := [.ref a0, .null]) (st' := []) (h1 := am_sr h127 a0 31 (some b128)) am_q166 rfl rfl rfl (if_pos (e := none) g130) ?_
  replace H := H _ rfl
  generalize am_sr h127 a0 31 (some b128) = h131 at H ⊢
  refine ev_p (pc' := 219) (loc' := [.ref a0, .null]) (st' := [.int (13 : Int32), .ref a0]) 2 am_q166 rfl ?_
  obtain ⟨g134, H⟩ := H
  refine ev_s (pc' := 221) (loc' := [.ref a0, .null]) (st' := [.ref (am_sz h131), .ref a0]) (h1 := am_nw h131 100 (Int32.toNatClampNeg (13 : Int32)) (Int32.toNatClampNeg (13 : Int32))) am_q166 rfl rfl rfl (if_pos (e := none) g134) ?_
  replace H := H _ rfl _ rfl
  generalize am_nw h131 100 (Int32.toNatClampNeg (13 : Int32)) (Int32.toNatClampNeg (13 : Int32)) = h132 at H ⊢
  generalize am_sz h131 = b133 at H ⊢
  obtain ⟨g135, H⟩ := H
  refine ev_s (pc' := 224) (loc' := [.ref a0, .null]) (st' := []) (h1 := am_sr h132 a0 32 (some b133)) am_q166 rfl rfl rfl (if_pos (e := none) g135) ?_
  replace H := H _ rfl
  generalize am_sr h132 a0 32 (some b133) = h136 at H ⊢
  refine ev_p (pc' := 227) (loc' := [.ref a0, .null]) (st' := [.int (13 : Int32), .ref a0]) 2 am_q166 rfl ?_
  obtain ⟨g139, H⟩ := H
  refine ev_s (pc' := 229) (loc' := [.ref a0, .null]) (st' := [.ref (am_sz h136), .ref a0]) (h1 := am_nw h136 100 (Int32.toNatClampNeg (13 : Int32)) (Int32.toNatClampNeg (13 : Int32))) am_q166 rfl rfl rfl (if_pos (e := none) g139) ?_
  replace H := H _ rfl _ rfl
  generalize am_nw h136 100 (Int32.toNatClampNeg (13 : Int32)) (Int32.toNatClampNeg (13 : Int32)) = h137 at H ⊢
  generalize am_sz h136 = b138 at H ⊢
  obtain ⟨g140, H⟩ := H
  refine ev_s (pc' := 232) (loc' := [.ref a0, .null]) (st' := []) (h1 := am_sr h137 a0 33 (some b138)) am_q166 rfl rfl rfl (if_pos (e := none) g140) ?_
  replace H := H _ rfl
  generalize am_sr h137 a0 33 (some b138) = h141 at H ⊢
  refine ev_p (pc' := 235) (loc' := [.ref a0, .null]) (st' := [.int (13 : Int32), .ref a0]) 2 am_q166 rfl ?_
  obtain ⟨g144, H⟩ := H
  refine ev_s (pc' := 237) (loc' := [.ref a0, .null]) (st' := [.ref (am_sz h141), .ref a0]) (h1 := am_nw h141 100 (Int32.toNatClampNeg (13 : Int32)) (Int32.toNatClampNeg (13 : Int32))) am_q166 rfl rfl rfl (if_pos (e := none) g144) ?_
  replace H := H _ rfl _ rfl
  generalize am_nw h141 100 (Int32.toNatClampNeg (13 : Int32)) (Int32.toNatClampNeg (13 : Int32)) = h142 at H ⊢
  generalize am_sz h141 = b143 at H ⊢
  obtain ⟨g145, H⟩ := H
  refine ev_s (pc' := 240) (loc' := [.ref a0, .null]) (st' := []) (h1 := am_sr h142 a0 34 (some b143)) am_q166 rfl rfl rfl (if_pos (e := none) g145) ?_
  replace H := H _ rfl
  generalize am_sr h142 a0 34 (some b143) = h146 at H ⊢
  refine ev_p (pc' := 243) (loc' := [.ref a0, .null]) (st' := [.int (13 : Int32), .ref a0]) 2 am_q166 rfl ?_
  obtain ⟨g149, H⟩ := H
  refine ev_s (pc' := 245) (loc' := [.ref a0, .null]) (st' := [.ref (am_sz h146), .ref a0]) (h1 := am_nw h146 100 (Int32.toNatClampNeg (13 : Int32)) (Int32.toNatClampNeg (13 : Int32))) am_q166 rfl rfl rfl (if_pos (e := none) g149) ?_
  replace H := H _ rfl _ rfl
  generalize am_nw h146 100 (Int32.toNatClampNeg (13 : Int32)) (Int32.toNatClampNeg (13 : Int32)) = h147 at H ⊢
  generalize am_sz h146 = b148 at H ⊢
  obtain ⟨g150, H⟩ := H
  refine ev_s (pc' := 248) (loc' := [.ref a0, .null]) (st' := []) (h1 := am_sr h147 a0 35 (some b148)) am_q166 rfl rfl rfl (if_pos (e := none) g150) ?_
  replace H := H _ rfl
  generalize am_sr h147 a0 35 (some b148) = h151 at H ⊢
  refine ev_p (pc' := 250) (loc' := [.ref a0, .null]) (st' := [.int (-1 : Int32), .ref a0]) 2 am_q166 rfl ?_
  obtain ⟨g152, H⟩ := H
  refine ev_s (pc' := 253) (loc' := [.ref a0, .null]) (st' := []) (h1 := am_si h151 a0 38 (-1 : Int32)) am_q166 rfl rfl rfl (if_pos (e := none) g152) ?_
  replace H := H _ rfl
  generalize am_si h151 a0 38 (-1 : Int32) = h153 at H ⊢
  refine ev_p (pc' := 257) (loc' := [.ref a0, .null]) (st' := [.int (360 : Int32), .ref a0]) 2 am_q166 rfl ?_
  obtain ⟨g156, H⟩ := H
  refine ev_s (pc' := 259) (loc' := [.ref a0, .null]) (st' := [.ref (am_sz h153), .ref a0]) (h1 := am_nw h153 100 (Int32.toNatClampNeg (360 : Int32)) (Int32.toNatClampNeg (360 : Int32))) am_q166 rfl rfl rfl (if_pos (e := none) g156) ?_
  replace H := H _ rfl _ rfl
  generalize am_nw h153 100 (Int32.toNatClampNeg (360 : Int32)) (Int32.toNatClampNeg (360 : Int32)) = h154 at H ⊢
  generalize am_sz h153 = b155 at H ⊢
  obtain ⟨g157, H⟩ := H
  refine ev_s (pc' := 262) (loc' := [.ref a0, .null]) (st' := []) (h1 := am_sr h154 a0 40 (some b155)) am_q166 rfl rfl rfl (if_pos (e := none) g157) ?_
  replace H := H _ rfl
  generalize am_sr h154 a0 40 (some b155) = h158 at H ⊢
  refine ev_p (pc' := 265) (loc' := [.ref a0, .null]) (st' := [.int (40 : Int32), .ref a0]) 2 am_q166 rfl ?_
  obtain ⟨g161, H⟩ := H
  refine ev_s (pc' := 267) (loc' := [.ref a0, .null]) (st' := [.ref (am_sz h158), .ref a0]) (h1 := am_nw h158 100 (Int32.toNatClampNeg (40 : Int32)) (Int32.toNatClampNeg (40 : Int32))) am_q166 rfl rfl rfl (if_pos (e := none) g161) ?_
  replace H := H _ rfl _ rfl
  generalize am_nw h158 100 (Int32.toNatClampNeg (40 : Int32)) (Int32.toNatClampNeg (40 : Int32)) = h159 at H ⊢
  generalize am_sz h158 = b160 at H ⊢
  obtain ⟨g162, H⟩ := H
  refine ev_s (pc' := 270) (loc' := [.ref a0, .null]) (st' := []) (h1 := am_sr h159 a0 41 (some b160)) am_q166 rfl rfl rfl (if_pos (e := none) g162) ?_
  replace H := H _ rfl
  generalize am_sr h159 a0 41 (some b160) = h163 at H ⊢
  refine ev_p (pc' := 273) (loc' := [.ref a0, .null]) (st' := [.int (6 : Int32), .ref a0]) 2 am_q166 rfl ?_
  obtain ⟨g166, H⟩ := H
  refine ev_s (pc' := 275) (loc' := [.ref a0, .null]) (st' := [.ref (am_sz h163), .ref a0]) (h1 := am_nw h163 100 (Int32.toNatClampNeg (6 : Int32)) (Int32.toNatClampNeg (6 : Int32))) am_q166 rfl rfl rfl (if_pos (e := none) g166) ?_
  replace H := H _ rfl _ rfl
  generalize am_nw h163 100 (Int32.toNatClampNeg (6 : Int32)) (Int32.toNatClampNeg (6 : Int32)) = h164 at H ⊢
  generalize am_sz h163 = b165 at H ⊢
  obtain ⟨g167, H⟩ := H
  refine ev_s (pc' := 278) (loc' := [.ref a0, .null]) (st' := []) (h1 := am_sr h164 a0 43 (some b165)) am_q166 rfl rfl rfl (if_pos (e := none) g167) ?_
  replace H := H _ rfl
  generalize am_sr h164 a0 43 (some b165) = h168 at H ⊢
  refine ev_p (pc' := 281) (loc' := [.ref a0, .null]) (st' := [.int (6 : Int32), .ref a0]) 2 am_q166 rfl ?_
  obtain ⟨g171, H⟩ := H
  refine ev_s (pc' := 283) (loc' := [.ref a0, .null]) (st' := [.ref (am_sz h168), .ref a0]) (h1 := am_nw h168 100 (Int32.toNatClampNeg (6 : Int32)) (Int32.toNatClampNeg (6 : Int32))) am_q166 rfl rfl rfl (if_pos (e := none) g171) ?_
  replace H := H _ rfl _ rfl
  generalize am_nw h168 100 (Int32.toNatClampNeg (6 : Int32)) (Int32.toNatClampNeg (6 : Int32)) = h169 at H ⊢
  generalize am_sz h168 = b170 at H ⊢
  obtain ⟨g172, H⟩ := H
  refine ev_s (pc' := 286) (loc' := [.ref a0, .null]) (st' := []) (h1 := am_sr h169 a0 44 (some b170)) am_q166 rfl rfl rfl (if_pos (e := none) g172) ?_
  replace H := H _ rfl
  generalize am_sr h169 a0 44 (some b170) = h173 at H ⊢
  refine ev_p (pc' := 289) (loc' := [.ref a0, .null]) (st' := [.int (6 : Int32), .ref a0]) 2 am_q166 rfl ?_
  obtain ⟨g176, H⟩ := H
  refine ev_s (pc' := 291) (loc' := [.ref a0, .null]) (st' := [.ref (am_sz h173), .ref a0]) (h1 := am_nw h173 100 (Int32.toNatClampNeg (6 : Int32)) (Int32.toNatClampNeg (6 : Int32))) am_q166 rfl rfl rfl (if_pos (e := none) g176) ?_
  replace H := H _ rfl _ rfl
  generalize am_nw h173 100 (Int32.toNatClampNeg (6 : Int32)) (Int32.toNatClampNeg (6 : Int32)) = h174 at H ⊢
  generalize am_sz h173 = b175 at H ⊢
  obtain ⟨g177, H⟩ := H
  refine ev_s (pc' := 294) (loc' := [.ref a0, .null]) (st' := []) (h1 := am_sr h174 a0 45 (some b175)) am_q166 rfl rfl rfl (if_pos (e := none) g177) ?_
  replace H := H _ rfl
  generalize am_sr h174 a0 45 (some b175) = h178 at H ⊢
  refine ev_p (pc' := 298) (loc' := [.ref a0, .null]) (st' := [.int (2400 : Int32), .ref a0]) 2 am_q166 rfl ?_
  obtain ⟨g181, H⟩ := H
  refine ev_s (pc' := 300) (loc' := [.ref a0, .null]) (st' := [.ref (am_sz h178), .ref a0]) (h1 := am_nw h178 101 (Int32.toNatClampNeg (2400 : Int32)) (Int32.toNatClampNeg (2400 : Int32))) am_q166 rfl rfl rfl (if_pos (e := none) g181) ?_
  replace H := H _ rfl _ rfl
  generalize am_nw h178 101 (Int32.toNatClampNeg (2400 : Int32)) (Int32.toNatClampNeg (2400 : Int32)) = h179 at H ⊢
  generalize am_sz h178 = b180 at H ⊢
  obtain ⟨g182, H⟩ := H
  refine ev_s (pc' := 303) (loc' := [.ref a0, .null]) (st' := []) (h1 := am_sr h179 a0 46 (some b180)) am_q166 rfl rfl rfl (if_pos (e := none) g182) ?_
  replace H := H _ rfl
  generalize am_sr h179 a0 46 (some b180) = h183 at H ⊢
  refine ev_p (pc' := 306) (loc' := [.ref a0, .null]) (st' := [.int (42 : Int32), .ref a0]) 2 am_q166 rfl ?_
  obtain ⟨g186, H⟩ := H
  refine ev_s (pc' := 308) (loc' := [.ref a0, .null]) (st' := [.ref (am_sz h183), .ref a0]) (h1 := am_nw h183 100 (Int32.toNatClampNeg (42 : Int32)) (Int32.toNatClampNeg (42 : Int32))) am_q166 rfl rfl rfl (if_pos (e := none) g186) ?_
  replace H := H _ rfl _ rfl
  generalize am_nw h183 100 (Int32.toNatClampNeg (42 : Int32)) (Int32.toNatClampNeg (42 : Int32)) = h184 at H ⊢
  generalize am_sz h183 = b185 at H ⊢
  refine ev_p (pc' := 312) (loc' := [.ref a0, .null]) (st' := [.int (112 : Int32), .int (0 : Int32), .ref b185, .ref b185, .ref a0]) 3 am_q166 rfl ?_
  obtain ⟨g187, g188, H⟩ := H
  refine ev_s (pc' := 313) (loc' := [.ref a0, .null]) (st' := [.ref b185, .ref a0]) (h1 := am_si h184 b185 (Int32.toNatClampNeg (0 : Int32)) (112 : Int32)) am_q166 rfl rfl rfl (am_xx g187 g188) ?_
  replace H := H _ rfl
  generalize am_si h184 b185 (Int32.toNatClampNeg (0 : Int32)) (112 : Int32) = h189 at H ⊢
  refine ev_p (pc' := 317) (loc' := [.ref a0, .null]) (st' := [.int (111 : Int32), .int (1 : Int32), .ref b185, .ref b185, .ref a0]) 3 am_q166 rfl ?_
  obtain ⟨g190, g191, H⟩ := H
  refine ev_s (pc' := 318) (loc' := [.ref a0, .null]) (st' := [.ref b185, .ref a0]) (h1 := am_si h189 b185 (Int32.toNatClampNeg (1 : Int32)) (111 : Int32)) am_q166 rfl rfl rfl (am_xx g190 g191) ?_
  replace H := H _ rfl
  generalize am_si h189 b185 (Int32.toNatClampNeg (1 : Int32)) (111 : Int32) = h192 at H ⊢
  refine ev_p (pc' := 322) (loc' := [.ref a0, .null]) (st' := [.int (105 : Int32), .int (2 : Int32), .ref b185, .ref b185, .ref a0]) 3 am_q166 rfl ?_
  obtain ⟨g193, g194, H⟩ := H
  refine ev_s (pc' := 323) (loc' := [.ref a0, .null]) (st' := [.ref b185, .ref a0]) (h1 := am_si h192 b185 (Int32.toNatClampNeg (2 : Int32)) (105 : Int32)) am_q166 rfl rfl rfl (am_xx g193 g194) ?_
  replace H := H _ rfl
  generalize am_si h192 b185 (Int32.toNatClampNeg (2 : Int32)) (105 : Int32) = h195 at H ⊢
  refine ev_p (pc' := 327) (loc' := [.ref a0, .null]) (st' := [.int (110 : Int32), .int (3 : Int32), .ref b185, .ref b185, .ref a0]) 3 am_q166 rfl ?_
  obtain ⟨g196, g197, H⟩ := H
  refine ev_s (pc' := 328) (loc' := [.ref a0, .null]) (st' := [.ref b185, .ref a0]) (h1 := am_si h195 b185 (Int32.toNatClampNeg (3 : Int32)) (110 : Int32)) am_q166 rfl rfl rfl (am_xx g196 g197) ?_
  replace H := H _ rfl
  generalize am_si h195 b185 (Int32.toNatClampNeg (3 : Int32)) (110 : Int32) = h198 at H ⊢
  refine ev_p (pc' := 332) (loc' := [.ref a0, .null]) (st' := [.int (116 : Int32), .int (4 : Int32), .ref b185, .ref b185, .ref a0]) 3 am_q166 rfl ?_
  obtain ⟨g199, g200, H⟩ := H
  refine ev_s (pc' := 333) (loc' := [.ref a0, .null]) (st' := [.ref b185, .ref a0]) (h1 := am_si h198 b185 (Int32.toNatClampNeg (4 : Int32)) (116 : Int32)) am_q166 rfl rfl rfl (am_xx g199 g200) ?_
  replace H := H _ rfl
  generalize am_si h198 b185 (Int32.toNatClampNeg (4 : Int32)) (116 : Int32) = h201 at H ⊢
  refine ev_p (pc' := 337) (loc' := [.ref a0, .null]) (st' := [.int (115 : Int32), .int (5 : Int32), .ref b185, .ref b185, .ref a0]) 3 am_q166 rfl ?_
  obtain ⟨g202, g203, H⟩ := H
  refine ev_s (pc' := 338) (loc' := [.ref a0, .null]) (st' := [.ref b185, .ref a0]) (h1 := am_si h201 b185 (Int32.toNatClampNeg (5 : Int32)) (115 : Int32)) am_q166 rfl rfl rfl (am_xx g202 g203) ?_
  replace H := H _ rfl
  generalize am_si h201 b185 (Int32.toNatClampNeg (5 : Int32)) (115 : Int32) = h204 at H ⊢
  refine ev_p (pc' := 343) (loc' := [.ref a0, .null]) (st' := [.int (32 : Int32), .int (6 : Int32), .ref b185, .ref b185, .ref a0]) 3 am_q166 rfl ?_
  obtain ⟨g205, g206, H⟩ := H
  refine ev_s (pc' := 344) (loc' := [.ref a0, .null]) (st' := [.ref b185, .ref a0]) (h1 := am_si h204 b185 (Int32.toNatClampNeg (6 : Int32)) (32 : Int32)) am_q166 rfl rfl rfl (am_xx g205 g206) ?_
  replace H := H _ rfl
  generalize am_si h204 b185 (Int32.toNatClampNeg (6 : Int32)) (32 : Int32) = h207 at H ⊢
  refine ev_p (pc' := 349) (loc' := [.ref a0, .null]) (st' := [.int (119 : Int32), .int (7 : Int32), .ref b185, .ref b185, .ref a0]) 3 am_q166 rfl ?_
  obtain ⟨g208, g209, H⟩ := H
  refine ev_s (pc' := 350) (loc' := [.ref a0, .null]) (st' := [.ref b185, .ref a0]) (h1 := am_si h207 b185 (Int32.toNatClampNeg (7 : Int32)) (119 : Int32)) am_q166 rfl rfl rfl (am_xx g208 g209) ?_
  replace H := H _ rfl
  generalize am_si h207 b185 (Int32.toNatClampNeg (7 : Int32)) (119 : Int32) = h210 at H ⊢
  refine ev_p (pc' := 355) (loc' := [.ref a0, .null]) (st' := [.int (97 : Int32), .int (8 : Int32), .ref b185, .ref b185, .ref a0]) 3 am_q166 rfl ?_
  obtain ⟨g211, g212, H⟩ := H
  refine ev_s (pc' := 356) (loc' := [.ref a0, .null]) (st' := [.ref b185, .ref a0]) (h1 := am_si h210 b185 (Int32.toNatClampNeg (8 : Int32)) (97 : Int32)) am_q166 rfl rfl rfl (am_xx g211 g212) ?_
  replace H := H _ rfl
  generalize am_si h210 b185 (Int32.toNatClampNeg (8 : Int32)) (97 : Int32) = h213 at H ⊢
  refine ev_p (pc' := 361) (loc' := [.ref a0, .null]) (st' := [.int (105 : Int32), .int (9 : Int32), .ref b185, .ref b185, .ref a0]) 3 am_q166 rfl ?_
  obtain ⟨g214, g215, H⟩ := H
  refine ev_s (pc' := 362) (loc' := [.ref a0, .null]) (st' := [.ref b185, .ref a0]) (h1 := am_si h213 b185 (Int32.toNatClampNeg (9 : Int32)) (105 : Int32)) am_q166 rfl rfl rfl (am_xx g214 g215) ?_
  replace H := H _ rfl
  generalize am_si h213 b185 (Int32.toNatClampNeg (9 : Int32)) (105 : Int32) = h216 at H ⊢
  refine ev_p (pc' := 367) (loc' := [.ref a0, .null]) (st' := [.int (116 : Int32), .int (10 : Int32), .ref b185, .ref b185, .ref a0]) 3 am_q166 rfl ?_
  obtain ⟨g217, g218, H⟩ := H
  refine ev_s (pc' := 368) (loc' := [.ref a0, .null]) (st' := [.ref b185, .ref a0]) (h1 := am_si h216 b185 (Int32.toNatClampNeg (10 : Int32)) (116 : Int32)) am_q166 rfl rfl rfl (am_xx g217 g218) ?_
  replace H := H _ rfl
  generalize am_si h216 b185 (Int32.toNatClampNeg (10 : Int32)) (116 : Int32) = h219 at H ⊢
  refine ev_p (pc' := 373) (loc' := [.ref a0, .null]) (st' := [.int (115 : Int32), .int (11 : Int32), .ref b185, .ref b185, .ref a0]) 3 am_q166 rfl ?_
  obtain ⟨g220, g221, H⟩ := H
  refine ev_s (pc' := 374) (loc' := [.ref a0, .null]) (st' := [.ref b185, .ref a0]) (h1 := am_si h219 b185 (Int32.toNatClampNeg (11 : Int32)) (115 : Int32)) am_q166 rfl rfl rfl (am_xx g220 g221) ?_
  replace H := H _ rfl
  generalize am_si h219 b185 (Int32.toNatClampNeg (11 : Int32)) (115 : Int32) = h222 at H ⊢
  refine ev_p (pc' := 379) (loc' := [.ref a0, .null]) (st' := [.int (32 : Int32), .int (12 : Int32), .ref b185, .ref b185, .ref a0]) 3 am_q166 rfl ?_
  obtain ⟨g223, g224, H⟩ := H
  refine ev_s (pc' := 380) (loc' := [.ref a0, .null]) (st' := [.ref b185, .ref a0]) (h1 := am_si h222 b185 (Int32.toNatClampNeg (12 : Int32)) (32 : Int32)) am_q166 rfl rfl rfl (am_xx g223 g224) ?_
  replace H := H _ rfl
  generalize am_si h222 b185 (Int32.toNatClampNeg (12 : Int32)) (32 : Int32) = h225 at H ⊢
  refine ev_p (pc' := 385) (loc' := [.ref a0, .null]) (st' := [.int (59 : Int32), .int (13 : Int32), .ref b185, .ref b185, .ref a0]) 3 am_q166 rfl ?_
  obtain ⟨g226, g227, H⟩ := H
  refine ev_s (pc' := 386) (loc' := [.ref a0, .null]) (st' := [.ref b185, .ref a0]) (h1 := am_si h225 b185 (Int32.toNatClampNeg (13 : Int32)) (59 : Int32)) am_q166 rfl rfl rfl (am_xx g226 g227) ?_
  replace H := H _ rfl
  generalize am_si h225 b185 (Int32.toNatClampNeg (13 : Int32)) (59 : Int32) = h228 at H ⊢
  refine ev_p (pc' := 391) (loc' := [.ref a0, .null]) (st' := [.int (32 : Int32), .int (14 : Int32), .ref b185, .ref b185, .ref a0]) 3 am_q166 rfl ?_
  obtain ⟨g229, g230, H⟩ := H
  refine ev_s (pc' := 392) (loc' := [.ref a0, .null]) (st' := [.ref b185, .ref a0]) (h1 := am_si h228 b185 (Int32.toNatClampNeg (14 : Int32)) (32 : Int32)) am_q166 rfl rfl rfl (am_xx g229 g230) ?_
  replace H := H _ rfl
  generalize am_si h228 b185 (Int32.toNatClampNeg (14 : Int32)) (32 : Int32) = h231 at H ⊢
  refine ev_p (pc' := 397) (loc' := [.ref a0, .null]) (st' := [.int (109 : Int32), .int (15 : Int32), .ref b185, .ref b185, .ref a0]) 3 am_q166 rfl ?_
  obtain ⟨g232, g233, H⟩ := H
  refine ev_s (pc' := 398) (loc' := [.ref a0, .null]) (st' := [.ref b185, .ref a0]) (h1 := am_si h231 b185 (Int32.toNatClampNeg (15 : Int32)) (109 : Int32)) am_q166 rfl rfl rfl (am_xx g232 g233) ?_
  replace H := H _ rfl
  generalize am_si h231 b185 (Int32.toNatClampNeg (15 : Int32)) (109 : Int32) = h234 at H ⊢
  refine ev_p (pc' := 403) (loc' := [.ref a0, .null]) (st' := [.int (97 : Int32), .int (16 : Int32), .ref b185, .ref b185, .ref a0]) 3 am_q166 rfl ?_
  obtain ⟨g235, g236, H⟩ := H
  refine ev_s (pc' := 404) (loc' := [.ref a0, .null]) (st' := [.ref b185, .ref a0]) (h1 := am_si h234 b185 (Int32.toNatClampNeg (16 : Int32)) (97 : Int32)) am_q166 rfl rfl rfl (am_xx g235 g236) ?_
  replace H := H _ rfl
  generalize am_si h234 b185 (Int32.toNatClampNeg (16 : Int32)) (97 : Int32) = h237 at H ⊢
  refine ev_p (pc' := 409) (loc' := [.ref a0, .null]) (st' := [.int (121 : Int32), .int (17 : Int32), .ref b185, .ref b185, .ref a0]) 3 am_q166 rfl ?_
  obtain ⟨g238, g239, H⟩ := H
  refine ev_s (pc' := 410) (loc' := [.ref a0, .null]) (st' := [.ref b185, .ref a0]) (h1 := am_si h237 b185 (Int32.toNatClampNeg (17 : Int32)) (121 : Int32)) am_q166 rfl rfl rfl (am_xx g238 g239) ?_
  replace H := H _ rfl
  generalize am_si h237 b185 (Int32.toNatClampNeg (17 : Int32)) (121 : Int32) = h240 at H ⊢
  refine ev_p (pc' := 415) (loc' := [.ref a0, .null]) (st' := [.int (32 : Int32), .int (18 : Int32), .ref b185, .ref b185, .ref a0]) 3 am_q166 rfl ?_
  obtain ⟨g241, g242, H⟩ := H
  refine ev_s (pc' := 416) (loc' := [.ref a0, .null]) (st' := [.ref b185, .ref a0]) (h1 := am_si h240 b185 (Int32.toNatClampNeg (18 : Int32)) (32 : Int32)) am_q166 rfl rfl rfl (am_xx g241 g242) ?_
  replace H := H _ rfl
  generalize am_si h240 b185 (Int32.toNatClampNeg (18 : Int32)) (32 : Int32) = h243 at H ⊢
  refine ev_p (pc' := 421) (loc' := [.ref a0, .null]) (st' := [.int (49 : Int32), .int (19 : Int32), .ref b185, .ref b185, .ref a0]) 3 am_q166 rfl ?_
  obtain ⟨g244, g245, H⟩ := H
  refine ev_s (pc' := 422) (loc' := [.ref a0, .null]) (st' := [.ref b185, .ref a0]) (h1 := am_si h243 b185 (Int32.toNatClampNeg (19 : Int32)) (49 : Int32)) am_q166 rfl rfl rfl (am_xx g244 g245) ?_
  replace H := H _ rfl
  generalize am_si h243 b185 (Int32.toNatClampNeg (19 : Int32)) (49 : Int32) = h246 at H ⊢
  refine ev_p (pc' := 427) (loc' := [.ref a0, .null]) (st' := [.int (32 : Int32), .int (20 : Int32), .ref b185, .ref b185, .ref a0]) 3 am_q166 rfl ?_
  obtain ⟨g247, g248, H⟩ := H
  refine ev_s (pc' := 428) (loc' := [.ref a0, .null]) (st' := [.ref b185, .ref a0]) (h1 := am_si h246 b185 (Int32.toNatClampNeg (20 : Int32)) (32 : Int32)) am_q166 rfl rfl rfl (am_xx g247 g248) ?_
  replace H := H _ rfl
  generalize am_si h246 b185 (Int32.toNatClampNeg (20 : Int32)) (32 : Int32) = h249 at H ⊢
  refine ev_p (pc' := 433) (loc' := [.ref a0, .null]) (st' := [.int (59 : Int32), .int (21 : Int32), .ref b185, .ref b185, .ref a0]) 3 am_q166 rfl ?_
  obtain ⟨g250, g251, H⟩ := H
  refine ev_s (pc' := 434) (loc' := [.ref a0, .null]) (st' := [.ref b185, .ref a0]) (h1 := am_si h249 b185 (Int32.toNatClampNeg (21 : Int32)) (59 : Int32)) am_q166 rfl rfl rfl (am_xx g250 g251) ?_
  replace H := H _ rfl
  generalize am_si h249 b185 (Int32.toNatClampNeg (21 : Int32)) (59 : Int32) = h252 at H ⊢
  refine ev_p (pc' := 439) (loc' := [.ref a0, .null]) (st' := [.int (32 : Int32), .int (22 : Int32), .ref b185, .ref b185, .ref a0]) 3 am_q166 rfl ?_
  obtain ⟨g253, g254, H⟩ := H
  refine ev_s (pc' := 440) (loc' := [.ref a0, .null]) (st' := [.ref b185, .ref a0]) (h1 := am_si h252 b185 (Int32.toNatClampNeg (22 : Int32)) (32 : Int32)) am_q166 rfl rfl rfl (am_xx g253 g254) ?_
  replace H := H _ rfl
  generalize am_si h252 b185 (Int32.toNatClampNeg (22 : Int32)) (32 : Int32) = h255 at H ⊢
  refine ev_p (pc' := 445) (loc' := [.ref a0, .null]) (st' := [.int (118 : Int32), .int (23 : Int32), .ref b185, .ref b185, .ref a0]) 3 am_q166 rfl ?_
  obtain ⟨g256, g257, H⟩ := H
  refine ev_s (pc' := 446) (loc' := [.ref a0, .null]) (st' := [.ref b185, .ref a0]) (h1 := am_si h255 b185 (Int32.toNatClampNeg (23 : Int32)) (118 : Int32)) am_q166 rfl rfl rfl (am_xx g256 g257) ?_
  replace H := H _ rfl
  generalize am_si h255 b185 (Int32.toNatClampNeg (23 : Int32)) (118 : Int32) = h258 at H ⊢
  refine ev_p (pc' := 451) (loc' := [.ref a0, .null]) (st' := [.int (111 : Int32), .int (24 : Int32), .ref b185, .ref b185, .ref a0]) 3 am_q166 rfl ?_
  obtain ⟨g259, g260, H⟩ := H
  refine ev_s (pc' := 452) (loc' := [.ref a0, .null]) (st' := [.ref b185, .ref a0]) (h1 := am_si h258 b185 (Int32.toNatClampNeg (24 : Int32)) (111 : Int32)) am_q166 rfl rfl rfl (am_xx g259 g260) ?_
  replace H := H _ rfl
  generalize am_si h258 b185 (Int32.toNatClampNeg (24 : Int32)) (111 : Int32) = h261 at H ⊢
  refine ev_p (pc' := 457) (loc' := [.ref a0, .null]) (st' := [.int (116 : Int32), .int (25 : Int32), .ref b185, .ref b185, .ref a0]) 3 am_q166 rfl ?_
  obtain ⟨g262, g263, H⟩ := H
  refine ev_s (pc' := 458) (loc' := [.ref a0, .null]) (st' := [.ref b185, .ref a0]) (h1 := am_si h261 b185 (Int32.toNatClampNeg (25 : Int32)) (116 : Int32)) am_q166 rfl rfl rfl (am_xx g262 g263) ?_
  replace H := H _ rfl
  generalize am_si h261 b185 (Int32.toNatClampNeg (25 : Int32)) (116 : Int32) = h264 at H ⊢
  refine ev_p (pc' := 463) (loc' := [.ref a0, .null]) (st' := [.int (101 : Int32), .int (26 : Int32), .ref b185, .ref b185, .ref a0]) 3 am_q166 rfl ?_
  obtain ⟨g265, g266, H⟩ := H
  refine ev_s (pc' := 464) (loc' := [.ref a0, .null]) (st' := [.ref b185, .ref a0]) (h1 := am_si h264 b185 (Int32.toNatClampNeg (26 : Int32)) (101 : Int32)) am_q166 rfl rfl rfl (am_xx g265 g266) ?_
  replace H := H _ rfl
  generalize am_si h264 b185 (Int32.toNatClampNeg (26 : Int32)) (101 : Int32) = h267 at H ⊢
  refine ev_p (pc' := 469) (loc' := [.ref a0, .null]) (st' := [.int (115 : Int32), .int (27 : Int32), .ref b185, .ref b185, .ref a0]) 3 am_q166 rfl ?_
  obtain ⟨g268, g269, H⟩ := H
  refine ev_s (pc' := 470) (loc' := [.ref a0, .null]) (st' := [.ref b185, .ref a0]) (h1 := am_si h267 b185 (Int32.toNatClampNeg (27 : Int32)) (115 : Int32)) am_q166 rfl rfl rfl (am_xx g268 g269) ?_
  replace H := H _ rfl
  generalize am_si h267 b185 (Int32.toNatClampNeg (27 : Int32)) (115 : Int32) = h270 at H ⊢
  refine ev_p (pc' := 475) (loc' := [.ref a0, .null]) (st' := [.int (32 : Int32), .int (28 : Int32), .ref b185, .ref b185, .ref a0]) 3 am_q166 rfl ?_
  obtain ⟨g271, g272, H⟩ := H
  refine ev_s (pc' := 476) (loc' := [.ref a0, .null]) (st' := [.ref b185, .ref a0]) (h1 := am_si h270 b185 (Int32.toNatClampNeg (28 : Int32)) (32 : Int32)) am_q166 rfl rfl rfl (am_xx g271 g272) ?_
  replace H := H _ rfl
  generalize am_si h270 b185 (Int32.toNatClampNeg (28 : Int32)) (32 : Int32) = h273 at H ⊢
  refine ev_p (pc' := 481) (loc' := [.ref a0, .null]) (st' := [.int (49 : Int32), .int (29 : Int32), .ref b185, .ref b185, .ref a0]) 3 am_q166 rfl ?_
  obtain ⟨g274, g275, H⟩ := H
  refine ev_s (pc' := 482) (loc' := [.ref a0, .null]) (st' := [.ref b185, .ref a0]) (h1 := am_si h273 b185 (Int32.toNatClampNeg (29 : Int32)) (49 : Int32)) am_q166 rfl rfl rfl (am_xx g274 g275) ?_
  replace H := H _ rfl
  generalize am_si h273 b185 (Int32.toNatClampNeg (29 : Int32)) (49 : Int32) = h276 at H ⊢
  refine ev_p (pc' := 487) (loc' := [.ref a0, .null]) (st' := [.int (32 : Int32), .int (30 : Int32), .ref b185, .ref b185, .ref a0]) 3 am_q166 rfl ?_
  obtain ⟨g277, g278, H⟩ := H
  refine ev_s (pc' := 488) (loc' := [.ref a0, .null]) (st' := [.ref b185, .ref a0]) (h1 := am_si h276 b185 (Int32.toNatClampNeg (30 : Int32)) (32 : Int32)) am_q166 rfl rfl rfl (am_xx g277 g278) ?_
  replace H := H _ rfl
  generalize am_si h276 b185 (Int32.toNatClampNeg (30 : Int32)) (32 : Int32) = h279 at H ⊢
  refine ev_p (pc' := 493) (loc' := [.ref a0, .null]) (st' := [.int (59 : Int32), .int (31 : Int32), .ref b185, .ref b185, .ref a0]) 3 am_q166 rfl ?_
  obtain ⟨g280, g281, H⟩ := H
  refine ev_s (pc' := 494) (loc' := [.ref a0, .null]) (st' := [.ref b185, .ref a0]) (h1 := am_si h279 b185 (Int32.toNatClampNeg (31 : Int32)) (59 : Int32)) am_q166 rfl rfl rfl (am_xx g280 g281) ?_
  replace H := H _ rfl
  generalize am_si h279 b185 (Int32.toNatClampNeg (31 : Int32)) (59 : Int32) = h282 at H ⊢
  refine ev_p (pc' := 499) (loc' := [.ref a0, .null]) (st' := [.int (32 : Int32), .int (32 : Int32), .ref b185, .ref b185, .ref a0]) 3 am_q166 rfl ?_
  obtain ⟨g283, g284, H⟩ := H
  refine ev_s (pc' := 500) (loc' := [.ref a0, .null]) (st' := [.ref b185, .ref a0]) (h1 := am_si h282 b185 (Int32.toNatClampNeg (32 : Int32)) (32 : Int32)) am_q166 rfl rfl rfl (am_xx g283 g284) ?_
  replace H := H _ rfl
  generalize am_si h282 b185 (Int32.toNatClampNeg (32 : Int32)) (32 : Int32) = h285 at H ⊢
  refine ev_p (pc' := 505) (loc' := [.ref a0, .null]) (st' := [.int (99 : Int32), .int (33 : Int32), .ref b185, .ref b185, .ref a0]) 3 am_q166 rfl ?_
  obtain ⟨g286, g287, H⟩ := H
  refine ev_s (pc' := 506) (loc' := [.ref a0, .null]) (st' := [.ref b185, .ref a0]) (h1 := am_si h285 b185 (Int32.toNatClampNeg (33 : Int32)) (99 : Int32)) am_q166 rfl rfl rfl (am_xx g286 g287) ?_
  replace H := H _ rfl
  generalize am_si h285 b185 (Int32.toNatClampNeg (33 : Int32)) (99 : Int32) = h288 at H ⊢
  refine ev_p (pc' := 511) (loc' := [.ref a0, .null]) (st' := [.int (111 : Int32), .int (34 : Int32), .ref b185, .ref b185, .ref a0]) 3 am_q166 rfl ?_
  obtain ⟨g289, g290, H⟩ := H
  refine ev_s (pc' := 512) (loc' := [.ref a0, .null]) (st' := [.ref b185, .ref a0]) (h1 := am_si h288 b185 (Int32.toNatClampNeg (34 : Int32)) (111 : Int32)) am_q166 rfl rfl rfl (am_xx g289 g290) ?_
  replace H := H _ rfl
  generalize am_si h288 b185 (Int32.toNatClampNeg (34 : Int32)) (111 : Int32) = h291 at H ⊢
  refine ev_p (pc' := 517) (loc' := [.ref a0, .null]) (st' := [.int (115 : Int32), .int (35 : Int32), .ref b185, .ref b185, .ref a0]) 3 am_q166 rfl ?_
  obtain ⟨g292, g293, H⟩ := H
  refine ev_s (pc' := 518) (loc' := [.ref a0, .null]) (st' := [.ref b185, .ref a0]) (h1 := am_si h291 b185 (Int32.toNatClampNeg (35 : Int32)) (115 : Int32)) am_q166 rfl rfl rfl (am_xx g292 g293) ?_
  replace H := H _ rfl
  generalize am_si h291 b185 (Int32.toNatClampNeg (35 : Int32)) (115 : Int32) = h294 at H ⊢
  refine ev_p (pc' := 523) (loc' := [.ref a0, .null]) (st' := [.int (116 : Int32), .int (36 : Int32), .ref b185, .ref b185, .ref a0]) 3 am_q166 rfl ?_
  obtain ⟨g295, g296, H⟩ := H
  refine ev_s (pc' := 524) (loc' := [.ref a0, .null]) (st' := [.ref b185, .ref a0]) (h1 := am_si h294 b185 (Int32.toNatClampNeg (36 : Int32)) (116 : Int32)) am_q166 rfl rfl rfl (am_xx g295 g296) ?_
  replace H := H _ rfl
  generalize am_si h294 b185 (Int32.toNatClampNeg (36 : Int32)) (116 : Int32) = h297 at H ⊢
  refine ev_p (pc' := 529) (loc' := [.ref a0, .null]) (st' := [.int (115 : Int32), .int (37 : Int32), .ref b185, .ref b185, .ref a0]) 3 am_q166 rfl ?_
  obtain ⟨g298, g299, H⟩ := H
  refine ev_s (pc' := 530) (loc' := [.ref a0, .null]) (st' := [.ref b185, .ref a0]) (h1 := am_si h297 b185 (Int32.toNatClampNeg (37 : Int32)) (115 : Int32)) am_q166 rfl rfl rfl (am_xx g298 g299) ?_
  replace H := H _ rfl
  generalize am_si h297 b185 (Int32.toNatClampNeg (37 : Int32)) (115 : Int32) = h300 at H ⊢
  refine ev_p (pc' := 535) (loc' := [.ref a0, .null]) (st' := [.int (32 : Int32), .int (38 : Int32), .ref b185, .ref b185, .ref a0]) 3 am_q166 rfl ?_
  obtain ⟨g301, g302, H⟩ := H
  refine ev_s (pc' := 536) (loc' := [.ref a0, .null]) (st' := [.ref b185, .ref a0]) (h1 := am_si h300 b185 (Int32.toNatClampNeg (38 : Int32)) (32 : Int32)) am_q166 rfl rfl rfl (am_xx g301 g302) ?_
  replace H := H _ rfl
  generalize am_si h300 b185 (Int32.toNatClampNeg (38 : Int32)) (32 : Int32) = h303 at H ⊢
  refine ev_p (pc' := 541) (loc' := [.ref a0, .null]) (st' := [.int (49 : Int32), .int (39 : Int32), .ref b185, .ref b185, .ref a0]) 3 am_q166 rfl ?_
  obtain ⟨g304, g305, H⟩ := H
  refine ev_s (pc' := 542) (loc' := [.ref a0, .null]) (st' := [.ref b185, .ref a0]) (h1 := am_si h303 b185 (Int32.toNatClampNeg (39 : Int32)) (49 : Int32)) am_q166 rfl rfl rfl (am_xx g304 g305) ?_
  replace H := H _ rfl
  generalize am_si h303 b185 (Int32.toNatClampNeg (39 : Int32)) (49 : Int32) = h306 at H ⊢
  refine ev_p (pc' := 547) (loc' := [.ref a0, .null]) (st' := [.int (32 : Int32), .int (40 : Int32), .ref b185, .ref b185, .ref a0]) 3 am_q166 rfl ?_
  obtain ⟨g307, g308, H⟩ := H
  refine ev_s (pc' := 548) (loc' := [.ref a0, .null]) (st' := [.ref b185, .ref a0]) (h1 := am_si h306 b185 (Int32.toNatClampNeg (40 : Int32)) (32 : Int32)) am_q166 rfl rfl rfl (am_xx g307 g308) ?_
  replace H := H _ rfl
  generalize am_si h306 b185 (Int32.toNatClampNeg (40 : Int32)) (32 : Int32) = h309 at H ⊢
  refine ev_p (pc' := 553) (loc' := [.ref a0, .null]) (st' := [.int (59 : Int32), .int (41 : Int32), .ref b185, .ref b185, .ref a0]) 3 am_q166 rfl ?_
  obtain ⟨g310, g311, H⟩ := H
  refine ev_s (pc' := 554) (loc' := [.ref a0, .null]) (st' := [.ref b185, .ref a0]) (h1 := am_si h309 b185 (Int32.toNatClampNeg (41 : Int32)) (59 : Int32)) am_q166 rfl rfl rfl (am_xx g310 g311) ?_
  replace H := H _ rfl
  generalize am_si h309 b185 (Int32.toNatClampNeg (41 : Int32)) (59 : Int32) = h312 at H ⊢
  obtain ⟨g313, H⟩ := H
  refine ev_s (pc' := 557) (loc' := [.ref a0, .null]) (st' := []) (h1 := am_sr h312 a0 48 (some b185)) am_q166 rfl rfl rfl (if_pos (e := none) g313) ?_
  replace H := H _ rfl
  generalize am_sr h312 a0 48 (some b185) = h314 at H ⊢
  refine ev_p (pc' := 560) (loc' := [.ref a0, .null]) (st' := [.int (85 : Int32), .ref a0]) 2 am_q166 rfl ?_
  obtain ⟨g317, H⟩ := H
  refine ev_s (pc' := 562) (loc' := [.ref a0, .null]) (st' := [.ref (am_sz h314), .ref a0]) (h1 := am_nw h314 100 (Int32.toNatClampNeg (85 : Int32)) (Int32.toNatClampNeg (85 : Int32))) am_q166 rfl rfl rfl (if_pos (e := none) g317) ?_
  replace H := H _ rfl _ rfl
  generalize am_nw h314 100 (Int32.toNatClampNeg (85 : Int32)) (Int32.toNatClampNeg (85 : Int32)) = h315 at H ⊢
  generalize am_sz h314 = b316 at H ⊢
  refine ev_p (pc' := 566) (loc' := [.ref a0, .null]) (st' := [.int (119 : Int32), .int (0 : Int32), .ref b316, .ref b316, .ref a0]) 3 am_q166 rfl ?_
  obtain ⟨g318, g319, H⟩ := H
  refine ev_s (pc' := 567) (loc' := [.ref a0, .null]) (st' := [.ref b316, .ref a0]) (h1 := am_si h315 b316 (Int32.toNatClampNeg (0 : Int32)) (119 : Int32)) am_q166 rfl rfl rfl (am_xx g318 g319) ?_
  replace H := H _ rfl
  generalize am_si h315 b316 (Int32.toNatClampNeg (0 : Int32)) (119 : Int32) = h320 at H ⊢
  refine ev_p (pc' := 571) (loc' := [.ref a0, .null]) (st' := [.int (97 : Int32), .int (1 : Int32), .ref b316, .ref b316, .ref a0]) 3 am_q166 rfl ?_
  obtain ⟨g321, g322, H⟩ := H
  refine ev_s (pc' := 572) (loc' := [.ref a0, .null]) (st' := [.ref b316, .ref a0]) (h1 := am_si h320 b316 (Int32.toNatClampNeg (1 : Int32)) (97 : Int32)) am_q166 rfl rfl rfl (am_xx g321 g322) ?_
  replace H := H _ rfl
  generalize am_si h320 b316 (Int32.toNatClampNeg (1 : Int32)) (97 : Int32) = h323 at H ⊢
  refine ev_p (pc' := 576) (loc' := [.ref a0, .null]) (st' := [.int (105 : Int32), .int (2 : Int32), .ref b316, .ref b316, .ref a0]) 3 am_q166 rfl ?_
  obtain ⟨g324, g325, H⟩ := H
  refine ev_s (pc' := 577) (loc' := [.ref a0, .null]) (st' := [.ref b316, .ref a0]) (h1 := am_si h323 b316 (Int32.toNatClampNeg (2 : Int32)) (105 : Int32)) am_q166 rfl rfl rfl (am_xx g324 g325) ?_
  replace H := H _ rfl
  generalize am_si h323 b316 (Int32.toNatClampNeg (2 : Int32)) (105 : Int32) = h326 at H ⊢
  refine ev_p (pc' := 581) (loc' := [.ref a0, .null]) (st' := [.int (116 : Int32), .int (3 : Int32), .ref b316, .ref b316, .ref a0]) 3 am_q166 rfl ?_
  obtain ⟨g327, g328, H⟩ := H
  refine ev_s (pc' := 582) (loc' := [.ref a0, .null]) (st' := [.ref b316, .ref a0]) (h1 := am_si h326 b316 (Int32.toNatClampNeg (3 : Int32)) (116 : Int32)) am_q166 rfl rfl rfl (am_xx g327 g328) ?_
  replace H := H _ rfl
  generalize am_si h326 b316 (Int32.toNatClampNeg (3 : Int32)) (116 : Int32) = h329 at H ⊢
  refine ev_p (pc' := 586) (loc' := [.ref a0, .null]) (st' := [.int (115 : Int32), .int (4 : Int32), .ref b316, .ref b316, .ref a0]) 3 am_q166 rfl ?_
  obtain ⟨g330, g331, H⟩ := H
  refine ev_s (pc' := 587) (loc' := [.ref a0, .null]) (st' := [.ref b316, .ref a0]) (h1 := am_si h329 b316 (Int32.toNatClampNeg (4 : Int32)) (115 : Int32)) am_q166 rfl rfl rfl (am_xx g330 g331) ?_
  replace H := H _ rfl
  generalize am_si h329 b316 (Int32.toNatClampNeg (4 : Int32)) (115 : Int32) = h332 at H ⊢
  refine ev_p (pc' := 590) (loc' := [.ref a0, .null]) (st' := [.int (0 : Int32), .int (5 : Int32), .ref b316, .ref b316, .ref a0]) 3 am_q166 rfl ?_
  obtain ⟨g333, g334, H⟩ := H
  refine ev_s (pc' := 591) (loc' := [.ref a0, .null]) (st' := [.ref b316, .ref a0]) (h1 := am_si h332 b316 (Int32.toNatClampNeg (5 : Int32)) (0 : Int32)) am_q166 rfl rfl rfl (am_xx g333 g334) ?_
  replace H := H _ rfl
  generalize am_si h332 b316 (Int32.toNatClampNeg (5 : Int32)) (0 : Int32) = h335 at H ⊢
  refine ev_p (pc' := 596) (loc' := [.ref a0, .null]) (st' := [.int (102 : Int32), .int (6 : Int32), .ref b316, .ref b316, .ref a0]) 3 am_q166 rfl ?_
  obtain ⟨g336, g337, H⟩ := H
  refine ev_s (pc' := 597) (loc' := [.ref a0, .null]) (st' := [.ref b316, .ref a0]) (h1 := am_si h335 b316 (Int32.toNatClampNeg (6 : Int32)) (102 : Int32)) am_q166 rfl rfl rfl (am_xx g336 g337) ?_
  replace H := H _ rfl
  generalize am_si h335 b316 (Int32.toNatClampNeg (6 : Int32)) (102 : Int32) = h338 at H ⊢
  refine ev_p (pc' := 602) (loc' := [.ref a0, .null]) (st' := [.int (97 : Int32), .int (7 : Int32), .ref b316, .ref b316, .ref a0]) 3 am_q166 rfl ?_
  obtain ⟨g339, g340, H⟩ := H
  refine ev_s (pc' := 603) (loc' := [.ref a0, .null]) (st' := [.ref b316, .ref a0]) (h1 := am_si h338 b316 (Int32.toNatClampNeg (7 : Int32)) (97 : Int32)) am_q166 rfl rfl rfl (am_xx g339 g340) ?_
  replace H := H _ rfl
  generalize am_si h338 b316 (Int32.toNatClampNeg (7 : Int32)) (97 : Int32) = h341 at H ⊢
  refine ev_p (pc' := 608) (loc' := [.ref a0, .null]) (st' := [.int (109 : Int32), .int (8 : Int32), .ref b316, .ref b316, .ref a0]) 3 am_q166 rfl ?_
  obtain ⟨g342, g343, H⟩ := H
  refine ev_s (pc' := 609) (loc' := [.ref a0, .null]) (st' := [.ref b316, .ref a0]) (h1 := am_si h341 b316 (Int32.toNatClampNeg (8 : Int32)) (109 : Int32)) am_q166 rfl rfl rfl (am_xx g342 g343) ?_
  replace H := H _ rfl
  generalize am_si h341 b316 (Int32.toNatClampNeg (8 : Int32)) (109 : Int32) = h344 at H ⊢
  refine ev_p (pc' := 614) (loc' := [.ref a0, .null]) (st' := [.int (105 : Int32), .int (9 : Int32), .ref b316, .ref b316, .ref a0]) 3 am_q166 rfl ?_
  obtain ⟨g345, g346, H⟩ := H
  refine ev_s (pc' := 615) (loc' := [.ref a0, .null]) (st' := [.ref b316, .ref a0]) (h1 := am_si h344 b316 (Int32.toNatClampNeg (9 : Int32)) (105 : Int32)) am_q166 rfl rfl rfl (am_xx g345 g346) ?_
  replace H := H _ rfl
  generalize am_si h344 b316 (Int32.toNatClampNeg (9 : Int32)) (105 : Int32) = h347 at H ⊢
  refine ev_p (pc' := 620) (loc' := [.ref a0, .null]) (st' := [.int (108 : Int32), .int (10 : Int32), .ref b316, .ref b316, .ref a0]) 3 am_q166 rfl ?_
  obtain ⟨g348, g349, H⟩ := H
  refine ev_s (pc' := 621) (loc' := [.ref a0, .null]) (st' := [.ref b316, .ref a0]) (h1 := am_si h347 b316 (Int32.toNatClampNeg (10 : Int32)) (108 : Int32)) am_q166 rfl rfl rfl (am_xx g348 g349) ?_
  replace H := H _ rfl
  generalize am_si h347 b316 (Int32.toNatClampNeg (10 : Int32)) (108 : Int32) = h350 at H ⊢
  refine ev_p (pc' := 626) (loc' := [.ref a0, .null]) (st' := [.int (121 : Int32), .int (11 : Int32), .ref b316, .ref b316, .ref a0]) 3 am_q166 rfl ?_
  obtain ⟨g351, g352, H⟩ := H
  refine ev_s (pc' := 627) (loc' := [.ref a0, .null]) (st' := [.ref b316, .ref a0]) (h1 := am_si h350 b316 (Int32.toNatClampNeg (11 : Int32)) (121 : Int32)) am_q166 rfl rfl rfl (am_xx g351 g352) ?_
  replace H := H _ rfl
  generalize am_si h350 b316 (Int32.toNatClampNeg (11 : Int32)) (121 : Int32) = h353 at H ⊢
  refine ev_p (pc' := 631) (loc' := [.ref a0, .null]) (st' := [.int (0 : Int32), .int (12 : Int32), .ref b316, .ref b316, .ref a0]) 3 am_q166 rfl ?_
  obtain ⟨g354, g355, H⟩ := H
  refine ev_s (pc' := 632) (loc' := [.ref a0, .null]) (st' := [.ref b316, .ref a0]) (h1 := am_si h353 b316 (Int32.toNatClampNeg (12 : Int32)) (0 : Int32)) am_q166 rfl rfl rfl (am_xx g354 g355) ?_
  replace H := H _ rfl
  generalize am_si h353 b316 (Int32.toNatClampNeg (12 : Int32)) (0 : Int32) = h356 at H ⊢
  refine ev_p (pc' := 637) (loc' := [.ref a0, .null]) (st' := [.int (114 : Int32), .int (13 : Int32), .ref b316, .ref b316, .ref a0]) 3 am_q166 rfl ?_
  obtain ⟨g357, g358, H⟩ := H
  refine ev_s (pc' := 638) (loc' := [.ref a0, .null]) (st' := [.ref b316, .ref a0]) (h1 := am_si h356 b316 (Int32.toNatClampNeg (13 : Int32)) (114 : Int32)) am_q166 rfl rfl rfl (am_xx g357 g358) ?_
  replace H := H _ rfl
  generalize am_si h356 b316 (Int32.toNatClampNeg (13 : Int32)) (114 : Int32) = h359 at H ⊢
  refine ev_p (pc' := 643) (loc' := [.ref a0, .null]) (st' := [.int (111 : Int32), .int (14 : Int32), .ref b316, .ref b316, .ref a0]) 3 am_q166 rfl ?_
  obtain ⟨g360, g361, H⟩ := H
  refine ev_s (pc' := 644) (loc' := [.ref a0, .null]) (st' := [.ref b316, .ref a0]) (h1 := am_si h359 b316 (Int32.toNatClampNeg (14 : Int32)) (111 : Int32)) am_q166 rfl rfl rfl (am_xx g360 g361) ?_
  replace H := H _ rfl
  generalize am_si h359 b316 (Int32.toNatClampNeg (14 : Int32)) (111 : Int32) = h362 at H ⊢
  refine ev_p (pc' := 649) (loc' := [.ref a0, .null]) (st' := [.int (111 : Int32), .int (15 : Int32), .ref b316, .ref b316, .ref a0]) 3 am_q166 rfl ?_
  obtain ⟨g363, g364, H⟩ := H
  refine ev_s (pc' := 650) (loc' := [.ref a0, .null]) (st' := [.ref b316, .ref a0]) (h1 := am_si h362 b316 (Int32.toNatClampNeg (15 : Int32)) (111 : Int32)) am_q166 rfl rfl rfl (am_xx g363 g364) ?_
  replace H := H _ rfl
  generalize am_si h362 b316 (Int32.toNatClampNeg (15 : Int32)) (111 : Int32) = h365 at H ⊢
  refine ev_p (pc' := 655) (loc' := [.ref a0, .null]) (st' := [.int (109 : Int32), .int (16 : Int32), .ref b316, .ref b316, .ref a0]) 3 am_q166 rfl ?_
  obtain ⟨g366, g367, H⟩ := H
  refine ev_s (pc' := 656) (loc' := [.ref a0, .null]) (st' := [.ref b316, .ref a0]) (h1 := am_si h365 b316 (Int32.toNatClampNeg (16 : Int32)) (109 : Int32)) am_q166 rfl rfl rfl (am_xx g366 g367) ?_
  replace H := H _ rfl
  generalize am_si h365 b316 (Int32.toNatClampNeg (16 : Int32)) (109 : Int32) = h368 at H ⊢
  refine ev_p (pc' := 661) (loc' := [.ref a0, .null]) (st' := [.int (115 : Int32), .int (17 : Int32), .ref b316, .ref b316, .ref a0]) 3 am_q166 rfl ?_
  obtain ⟨g369, g370, H⟩ := H
  refine ev_s (pc' := 662) (loc' := [.ref a0, .null]) (st' := [.ref b316, .ref a0]) (h1 := am_si h368 b316 (Int32.toNatClampNeg (17 : Int32)) (115 : Int32)) am_q166 rfl rfl rfl (am_xx g369 g370) ?_
  replace H := H _ rfl
  generalize am_si h368 b316 (Int32.toNatClampNeg (17 : Int32)) (115 : Int32) = h371 at H ⊢
  refine ev_p (pc' := 666) (loc' := [.ref a0, .null]) (st' := [.int (0 : Int32), .int (18 : Int32), .ref b316, .ref b316, .ref a0]) 3 am_q166 rfl ?_
  obtain ⟨g372, g373, H⟩ := H
  refine ev_s (pc' := 667) (loc' := [.ref a0, .null]) (st' := [.ref b316, .ref a0]) (h1 := am_si h371 b316 (Int32.toNatClampNeg (18 : Int32)) (0 : Int32)) am_q166 rfl rfl rfl (am_xx g372 g373) ?_
  replace H := H _ rfl
  generalize am_si h371 b316 (Int32.toNatClampNeg (18 : Int32)) (0 : Int32) = h374 at H ⊢
  refine ev_p (pc' := 672) (loc' := [.ref a0, .null]) (st' := [.int (106 : Int32), .int (19 : Int32), .ref b316, .ref b316, .ref a0]) 3 am_q166 rfl ?_
  obtain ⟨g375, g376, H⟩ := H
  refine ev_s (pc' := 673) (loc' := [.ref a0, .null]) (st' := [.ref b316, .ref a0]) (h1 := am_si h374 b316 (Int32.toNatClampNeg (19 : Int32)) (106 : Int32)) am_q166 rfl rfl rfl (am_xx g375 g376) ?_
  replace H := H _ rfl
  generalize am_si h374 b316 (Int32.toNatClampNeg (19 : Int32)) (106 : Int32) = h377 at H ⊢
  refine ev_p (pc' := 678) (loc' := [.ref a0, .null]) (st' := [.int (111 : Int32), .int (20 : Int32), .ref b316, .ref b316, .ref a0]) 3 am_q166 rfl ?_
  obtain ⟨g378, g379, H⟩ := H
  refine ev_s (pc' := 679) (loc' := [.ref a0, .null]) (st' := [.ref b316, .ref a0]) (h1 := am_si h377 b316 (Int32.toNatClampNeg (20 : Int32)) (111 : Int32)) am_q166 rfl rfl rfl (am_xx g378 g379) ?_
  replace H := H _ rfl
  generalize am_si h377 b316 (Int32.toNatClampNeg (20 : Int32)) (111 : Int32) = h380 at H ⊢
  refine ev_p (pc' := 684) (loc' := [.ref a0, .null]) (st' := [.int (105 : Int32), .int (21 : Int32), .ref b316, .ref b316, .ref a0]) 3 am_q166 rfl ?_
  obtain ⟨g381, g382, H⟩ := H
  refine ev_s (pc' := 685) (loc' := [.ref a0, .null]) (st' := [.ref b316, .ref a0]) (h1 := am_si h380 b316 (Int32.toNatClampNeg (21 : Int32)) (105 : Int32)) am_q166 rfl rfl rfl (am_xx g381 g382) ?_
  replace H := H _ rfl
  generalize am_si h380 b316 (Int32.toNatClampNeg (21 : Int32)) (105 : Int32) = h383 at H ⊢
  refine ev_p (pc' := 690) (loc' := [.ref a0, .null]) (st' := [.int (110 : Int32), .int (22 : Int32), .ref b316, .ref b316, .ref a0]) 3 am_q166 rfl ?_
  obtain ⟨g384, g385, H⟩ := H
  refine ev_s (pc' := 691) (loc' := [.ref a0, .null]) (st' := [.ref b316, .ref a0]) (h1 := am_si h383 b316 (Int32.toNatClampNeg (22 : Int32)) (110 : Int32)) am_q166 rfl rfl rfl (am_xx g384 g385) ?_
  replace H := H _ rfl
  generalize am_si h383 b316 (Int32.toNatClampNeg (22 : Int32)) (110 : Int32) = h386 at H ⊢
  refine ev_p (pc' := 696) (loc' := [.ref a0, .null]) (st' := [.int (101 : Int32), .int (23 : Int32), .ref b316, .ref b316, .ref a0]) 3 am_q166 rfl ?_
  obtain ⟨g387, g388, H⟩ := H
  refine ev_s (pc' := 697) (loc' := [.ref a0, .null]) (st' := [.ref b316, .ref a0]) (h1 := am_si h386 b316 (Int32.toNatClampNeg (23 : Int32)) (101 : Int32)) am_q166 rfl rfl rfl (am_xx g387 g388) ?_
  replace H := H _ rfl
  generalize am_si h386 b316 (Int32.toNatClampNeg (23 : Int32)) (101 : Int32) = h389 at H ⊢
  refine ev_p (pc' := 702) (loc' := [.ref a0, .null]) (st' := [.int (100 : Int32), .int (24 : Int32), .ref b316, .ref b316, .ref a0]) 3 am_q166 rfl ?_
  obtain ⟨g390, g391, H⟩ := H
  refine ev_s (pc' := 703) (loc' := [.ref a0, .null]) (st' := [.ref b316, .ref a0]) (h1 := am_si h389 b316 (Int32.toNatClampNeg (24 : Int32)) (100 : Int32)) am_q166 rfl rfl rfl (am_xx g390 g391) ?_
  replace H := H _ rfl
  generalize am_si h389 b316 (Int32.toNatClampNeg (24 : Int32)) (100 : Int32) = h392 at H ⊢
  refine ev_p (pc' := 707) (loc' := [.ref a0, .null]) (st' := [.int (0 : Int32), .int (25 : Int32), .ref b316, .ref b316, .ref a0]) 3 am_q166 rfl ?_
  obtain ⟨g393, g394, H⟩ := H
  refine ev_s (pc' := 708) (loc' := [.ref a0, .null]) (st' := [.ref b316, .ref a0]) (h1 := am_si h392 b316 (Int32.toNatClampNeg (25 : Int32)) (0 : Int32)) am_q166 rfl rfl rfl (am_xx g393 g394) ?_
  replace H := H _ rfl
  generalize am_si h392 b316 (Int32.toNatClampNeg (25 : Int32)) (0 : Int32) = h395 at H ⊢
  refine ev_p (pc' := 713) (loc' := [.ref a0, .null]) (st' := [.int (100 : Int32), .int (26 : Int32), .ref b316, .ref b316, .ref a0]) 3 am_q166 rfl ?_
  obtain ⟨g396, g397, H⟩ := H
  refine ev_s (pc' := 714) (loc' := [.ref a0, .null]) (st' := [.ref b316, .ref a0]) (h1 := am_si h395 b316 (Int32.toNatClampNeg (26 : Int32)) (100 : Int32)) am_q166 rfl rfl rfl (am_xx g396 g397) ?_
  replace H := H _ rfl
  generalize am_si h395 b316 (Int32.toNatClampNeg (26 : Int32)) (100 : Int32) = h398 at H ⊢
  refine ev_p (pc' := 719) (loc' := [.ref a0, .null]) (st' := [.int (101 : Int32), .int (27 : Int32), .ref b316, .ref b316, .ref a0]) 3 am_q166 rfl ?_
  obtain ⟨g399, g400, H⟩ := H
  refine ev_s (pc' := 720) (loc' := [.ref a0, .null]) (st' := [.ref b316, .ref a0]) (h1 := am_si h398 b316 (Int32.toNatClampNeg (27 : Int32)) (101 : Int32)) am_q166 rfl rfl rfl (am_xx g399 g400) ?_
  replace H := H _ rfl
  generalize am_si h398 b316 (Int32.toNatClampNeg (27 : Int32)) (101 : Int32) = h401 at H ⊢
  refine ev_p (pc' := 725) (loc' := [.ref a0, .null]) (st' := [.int (98 : Int32), .int (28 : Int32), .ref b316, .ref b316, .ref a0]) 3 am_q166 rfl ?_
  obtain ⟨g402, g403, H⟩ := H
  refine ev_s (pc' := 726) (loc' := [.ref a0, .null]) (st' := [.ref b316, .ref a0]) (h1 := am_si h401 b316 (Int32.toNatClampNeg (28 : Int32)) (98 : Int32)) am_q166 rfl rfl rfl (am_xx g402 g403) ?_
  replace H := H _ rfl
  generalize am_si h401 b316 (Int32.toNatClampNeg (28 : Int32)) (98 : Int32) = h404 at H ⊢
  refine ev_p (pc' := 731) (loc' := [.ref a0, .null]) (st' := [.int (116 : Int32), .int (29 : Int32), .ref b316, .ref b316, .ref a0]) 3 am_q166 rfl ?_
  obtain ⟨g405, g406, H⟩ := H
  refine ev_s (pc' := 732) (loc' := [.ref a0, .null]) (st' := [.ref b316, .ref a0]) (h1 := am_si h404 b316 (Int32.toNatClampNeg (29 : Int32)) (116 : Int32)) am_q166 rfl rfl rfl (am_xx g405 g406) ?_
  replace H := H _ rfl
  generalize am_si h404 b316 (Int32.toNatClampNeg (29 : Int32)) (116 : Int32) = h407 at H ⊢
  refine ev_p (pc' := 736) (loc' := [.ref a0, .null]) (st' := [.int (0 : Int32), .int (30 : Int32), .ref b316, .ref b316, .ref a0]) 3 am_q166 rfl ?_
  obtain ⟨g408, g409, H⟩ := H
  refine ev_s (pc' := 737) (loc' := [.ref a0, .null]) (st' := [.ref b316, .ref a0]) (h1 := am_si h407 b316 (Int32.toNatClampNeg (30 : Int32)) (0 : Int32)) am_q166 rfl rfl rfl (am_xx g408 g409) ?_
  replace H := H _ rfl
  generalize am_si h407 b316 (Int32.toNatClampNeg (30 : Int32)) (0 : Int32) = h410 at H ⊢
  refine ev_p (pc' := 742) (loc' := [.ref a0, .null]) (st' := [.int (115 : Int32), .int (31 : Int32), .ref b316, .ref b316, .ref a0]) 3 am_q166 rfl ?_
  obtain ⟨g411, g412, H⟩ := H
  refine ev_s (pc' := 743) (loc' := [.ref a0, .null]) (st' := [.ref b316, .ref a0]) (h1 := am_si h410 b316 (Int32.toNatClampNeg (31 : Int32)) (115 : Int32)) am_q166 rfl rfl rfl (am_xx g411 g412) ?_
  replace H := H _ rfl
  generalize am_si h410 b316 (Int32.toNatClampNeg (31 : Int32)) (115 : Int32) = h413 at H ⊢
  refine ev_p (pc' := 748) (loc' := [.ref a0, .null]) (st' := [.int (116 : Int32), .int (32 : Int32), .ref b316, .ref b316, .ref a0]) 3 am_q166 rfl ?_
  obtain ⟨g414, g415, H⟩ := H
  refine ev_s (pc' := 749) (loc' := [.ref a0, .null]) (st' := [.ref b316, .ref a0]) (h1 := am_si h413 b316 (Int32.toNatClampNeg (32 : Int32)) (116 : Int32)) am_q166 rfl rfl rfl (am_xx g414 g415) ?_
  replace H := H _ rfl
  generalize am_si h413 b316 (Int32.toNatClampNeg (32 : Int32)) (116 : Int32) = h416 at H ⊢
  refine ev_p (pc' := 754) (loc' := [.ref a0, .null]) (st' := [.int (97 : Int32), .int (33 : Int32), .ref b316, .ref b316, .ref a0]) 3 am_q166 rfl ?_
  obtain ⟨g417, g418, H⟩ := H
  refine ev_s (pc' := 755) (loc' := [.ref a0, .null]) (st' := [.ref b316, .ref a0]) (h1 := am_si h416 b316 (Int32.toNatClampNeg (33 : Int32)) (97 : Int32)) am_q166 rfl rfl rfl (am_xx g417 g418) ?_
  replace H := H _ rfl
  generalize am_si h416 b316 (Int32.toNatClampNeg (33 : Int32)) (97 : Int32) = h419 at H ⊢
  refine ev_p (pc' := 760) (loc' := [.ref a0, .null]) (st' := [.int (105 : Int32), .int (34 : Int32), .ref b316, .ref b316, .ref a0]) 3 am_q166 rfl ?_
  obtain ⟨g420, g421, H⟩ := H
  refine ev_s (pc' := 761) (loc' := [.ref a0, .null]) (st' := [.ref b316, .ref a0]) (h1 := am_si h419 b316 (Int32.toNatClampNeg (34 : Int32)) (105 : Int32)) am_q166 rfl rfl rfl (am_xx g420 g421) ?_
  replace H := H _ rfl
  generalize am_si h419 b316 (Int32.toNatClampNeg (34 : Int32)) (105 : Int32) = h422 at H ⊢
  refine ev_p (pc' := 766) (loc' := [.ref a0, .null]) (st' := [.int (114 : Int32), .int (35 : Int32), .ref b316, .ref b316, .ref a0]) 3 am_q166 rfl ?_
  obtain ⟨g423, g424, H⟩ := H
  refine ev_s (pc' := 767) (loc' := [.ref a0, .null]) (st' := [.ref b316, .ref a0]) (h1 := am_si h422 b316 (Int32.toNatClampNeg (35 : Int32)) (114 : Int32)) am_q166 rfl rfl rfl (am_xx g423 g424) ?_
  replace H := H _ rfl
  generalize am_si h422 b316 (Int32.toNatClampNeg (35 : Int32)) (114 : Int32) = h425 at H ⊢
  refine ev_p (pc' := 771) (loc' := [.ref a0, .null]) (st' := [.int (0 : Int32), .int (36 : Int32), .ref b316, .ref b316, .ref a0]) 3 am_q166 rfl ?_
  obtain ⟨g426, g427, H⟩ := H
  refine ev_s (pc' := 772) (loc' := [.ref a0, .null]) (st' := [.ref b316, .ref a0]) (h1 := am_si h425 b316 (Int32.toNatClampNeg (36 : Int32)) (0 : Int32)) am_q166 rfl rfl rfl (am_xx g426 g427) ?_
  replace H := H _ rfl
  generalize am_si h425 b316 (Int32.toNatClampNeg (36 : Int32)) (0 : Int32) = h428 at H ⊢
  refine ev_p (pc' := 777) (loc' := [.ref a0, .null]) (st' := [.int (115 : Int32), .int (37 : Int32), .ref b316, .ref b316, .ref a0]) 3 am_q166 rfl ?_
  obtain ⟨g429, g430, H⟩ := H
  refine ev_s (pc' := 778) (loc' := [.ref a0, .null]) (st' := [.ref b316, .ref a0]) (h1 := am_si h428 b316 (Int32.toNatClampNeg (37 : Int32)) (115 : Int32)) am_q166 rfl rfl rfl (am_xx g429 g430) ?_
  replace H := H _ rfl
  generalize am_si h428 b316 (Int32.toNatClampNeg (37 : Int32)) (115 : Int32) = h431 at H ⊢
  refine ev_p (pc' := 783) (loc' := [.ref a0, .null]) (st' := [.int (104 : Int32), .int (38 : Int32), .ref b316, .ref b316, .ref a0]) 3 am_q166 rfl ?_
  obtain ⟨g432, g433, H⟩ := H
  refine ev_s (pc' := 784) (loc' := [.ref a0, .null]) (st' := [.ref b316, .ref a0]) (h1 := am_si h431 b316 (Int32.toNatClampNeg (38 : Int32)) (104 : Int32)) am_q166 rfl rfl rfl (am_xx g432 g433) ?_
  replace H := H _ rfl
  generalize am_si h431 b316 (Int32.toNatClampNeg (38 : Int32)) (104 : Int32) = h434 at H ⊢
  refine ev_p (pc' := 789) (loc' := [.ref a0, .null]) (st' := [.int (97 : Int32), .int (39 : Int32), .ref b316, .ref b316, .ref a0]) 3 am_q166 rfl ?_
  obtain ⟨g435, g436, H⟩ := H
  refine ev_s (pc' := 790) (loc' := [.ref a0, .null]) (st' := [.ref b316, .ref a0]) (h1 := am_si h434 b316 (Int32.toNatClampNeg (39 : Int32)) (97 : Int32)) am_q166 rfl rfl rfl (am_xx g435 g436) ?_
  replace H := H _ rfl
  generalize am_si h434 b316 (Int32.toNatClampNeg (39 : Int32)) (97 : Int32) = h437 at H ⊢
  refine ev_p (pc' := 795) (loc' := [.ref a0, .null]) (st' := [.int (114 : Int32), .int (40 : Int32), .ref b316, .ref b316, .ref a0]) 3 am_q166 rfl ?_
  obtain ⟨g438, g439, H⟩ := H
  refine ev_s (pc' := 796) (loc' := [.ref a0, .null]) (st' := [.ref b316, .ref a0]) (h1 := am_si h437 b316 (Int32.toNatClampNeg (40 : Int32)) (114 : Int32)) am_q166 rfl rfl rfl (am_xx g438 g439) ?_
  replace H := H _ rfl
  generalize am_si h437 b316 (Int32.toNatClampNeg (40 : Int32)) (114 : Int32) = h440 at H ⊢
  refine ev_p (pc' := 801) (loc' := [.ref a0, .null]) (st' := [.int (101 : Int32), .int (41 : Int32), .ref b316, .ref b316, .ref a0]) 3 am_q166 rfl ?_
  obtain ⟨g441, g442, H⟩ := H
  refine ev_s (pc' := 802) (loc' := [.ref a0, .null]) (st' := [.ref b316, .ref a0]) (h1 := am_si h440 b316 (Int32.toNatClampNeg (41 : Int32)) (101 : Int32)) am_q166 rfl rfl rfl (am_xx g441 g442) ?_
  replace H := H _ rfl
  generalize am_si h440 b316 (Int32.toNatClampNeg (41 : Int32)) (101 : Int32) = h443 at H ⊢
  refine ev_p (pc' := 806) (loc' := [.ref a0, .null]) (st' := [.int (0 : Int32), .int (42 : Int32), .ref b316, .ref b316, .ref a0]) 3 am_q166 rfl ?_
  obtain ⟨g444, g445, H⟩ := H
  refine ev_s (pc' := 807) (loc' := [.ref a0, .null]) (st' := [.ref b316, .ref a0]) (h1 := am_si h443 b316 (Int32.toNatClampNeg (42 : Int32)) (0 : Int32)) am_q166 rfl rfl rfl (am_xx g444 g445) ?_
  replace H := H _ rfl
  generalize am_si h443 b316 (Int32.toNatClampNeg (42 : Int32)) (0 : Int32) = h446 at H ⊢
  refine ev_p (pc' := 812) (loc' := [.ref a0, .null]) (st' := [.int (109 : Int32), .int (43 : Int32), .ref b316, .ref b316, .ref a0]) 3 am_q166 rfl ?_
  obtain ⟨g447, g448, H⟩ := H
  refine ev_s (pc' := 813) (loc' := [.ref a0, .null]) (st' := [.ref b316, .ref a0]) (h1 := am_si h446 b316 (Int32.toNatClampNeg (43 : Int32)) (109 : Int32)) am_q166 rfl rfl rfl (am_xx g447 g448) ?_
  replace H := H _ rfl
  generalize am_si h446 b316 (Int32.toNatClampNeg (43 : Int32)) (109 : Int32) = h449 at H ⊢
  refine ev_p (pc' := 818) (loc' := [.ref a0, .null]) (st' := [.int (101 : Int32), .int (44 : Int32), .ref b316, .ref b316, .ref a0]) 3 am_q166 rfl ?_
  obtain ⟨g450, g451, H⟩ := H
  refine ev_s (pc' := 819) (loc' := [.ref a0, .null]) (st' := [.ref b316, .ref a0]) (h1 := am_si h449 b316 (Int32.toNatClampNeg (44 : Int32)) (101 : Int32)) am_q166 rfl rfl rfl (am_xx g450 g451) ?_
  replace H := H _ rfl
  generalize am_si h449 b316 (Int32.toNatClampNeg (44 : Int32)) (101 : Int32) = h452 at H ⊢
  refine ev_p (pc' := 824) (loc' := [.ref a0, .null]) (st' := [.int (109 : Int32), .int (45 : Int32), .ref b316, .ref b316, .ref a0]) 3 am_q166 rfl ?_
  obtain ⟨g453, g454, H⟩ := H
  refine ev_s (pc' := 825) (loc' := [.ref a0, .null]) (st' := [.ref b316, .ref a0]) (h1 := am_si h452 b316 (Int32.toNatClampNeg (45 : Int32)) (109 : Int32)) am_q166 rfl rfl rfl (am_xx g453 g454) ?_
  replace H := H _ rfl
  generalize am_si h452 b316 (Int32.toNatClampNeg (45 : Int32)) (109 : Int32) = h455 at H ⊢
  refine ev_p (pc' := 830) (loc' := [.ref a0, .null]) (st' := [.int (98 : Int32), .int (46 : Int32), .ref b316, .ref b316, .ref a0]) 3 am_q166 rfl ?_
  obtain ⟨g456, g457, H⟩ := H
  refine ev_s (pc' := 831) (loc' := [.ref a0, .null]) (st' := [.ref b316, .ref a0]) (h1 := am_si h455 b316 (Int32.toNatClampNeg (46 : Int32)) (98 : Int32)) am_q166 rfl rfl rfl (am_xx g456 g457) ?_
  replace H := H _ rfl
  generalize am_si h455 b316 (Int32.toNatClampNeg (46 : Int32)) (98 : Int32) = h458 at H ⊢
  refine ev_p (pc' := 836) (loc' := [.ref a0, .null]) (st' := [.int (101 : Int32), .int (47 : Int32), .ref b316, .ref b316, .ref a0]) 3 am_q166 rfl ?_
  obtain ⟨g459, g460, H⟩ := H
  refine ev_s (pc' := 837) (loc' := [.ref a0, .null]) (st' := [.ref b316, .ref a0]) (h1 := am_si h458 b316 (Int32.toNatClampNeg (47 : Int32)) (101 : Int32)) am_q166 rfl rfl rfl (am_xx g459 g460) ?_
  replace H := H _ rfl
  generalize am_si h458 b316 (Int32.toNatClampNeg (47 : Int32)) (101 : Int32) = h461 at H ⊢
  refine ev_p (pc' := 842) (loc' := [.ref a0, .null]) (st' := [.int (114 : Int32), .int (48 : Int32), .ref b316, .ref b316, .ref a0]) 3 am_q166 rfl ?_
  obtain ⟨g462, g463, H⟩ := H
  refine ev_s (pc' := 843) (loc' := [.ref a0, .null]) (st' := [.ref b316, .ref a0]) (h1 := am_si h461 b316 (Int32.toNatClampNeg (48 : Int32)) (114 : Int32)) am_q166 rfl rfl rfl (am_xx g462 g463) ?_
  replace H := H _ rfl
  generalize am_si h461 b316 (Int32.toNatClampNeg (48 : Int32)) (114 : Int32) = h464 at H ⊢
  refine ev_p (pc' := 848) (loc' := [.ref a0, .null]) (st' := [.int (115 : Int32), .int (49 : Int32), .ref b316, .ref b316, .ref a0]) 3 am_q166 rfl ?_
  obtain ⟨g465, g466, H⟩ := H
  refine ev_s (pc' := 849) (loc' := [.ref a0, .null]) (st' := [.ref b316, .ref a0]) (h1 := am_si h464 b316 (Int32.toNatClampNeg (49 : Int32)) (115 : Int32)) am_q166 rfl rfl rfl (am_xx g465 g466) ?_
  replace H := H _ rfl
  generalize am_si h464 b316 (Int32.toNatClampNeg (49 : Int32)) (115 : Int32) = h467 at H ⊢
  refine ev_p (pc' := 853) (loc' := [.ref a0, .null]) (st' := [.int (0 : Int32), .int (50 : Int32), .ref b316, .ref b316, .ref a0]) 3 am_q166 rfl ?_
  obtain ⟨g468, g469, H⟩ := H
  refine ev_s (pc' := 854) (loc' := [.ref a0, .null]) (st' := [.ref b316, .ref a0]) (h1 := am_si h467 b316 (Int32.toNatClampNeg (50 : Int32)) (0 : Int32)) am_q166 rfl rfl rfl (am_xx g468 g469) ?_
  replace H := H _ rfl
  generalize am_si h467 b316 (Int32.toNatClampNeg (50 : Int32)) (0 : Int32) = h470 at H ⊢
  refine ev_p (pc' := 859) (loc' := [.ref a0, .null]) (st' := [.int (112 : Int32), .int (51 : Int32), .ref b316, .ref b316, .ref a0]) 3 am_q166 rfl ?_
  obtain ⟨g471, g472, H⟩ := H
  refine ev_s (pc' := 860) (loc' := [.ref a0, .null]) (st' := [.ref b316, .ref a0]) (h1 := am_si h470 b316 (Int32.toNatClampNeg (51 : Int32)) (112 : Int32)) am_q166 rfl rfl rfl (am_xx g471 g472) ?_
  replace H := H _ rfl
  generalize am_si h470 b316 (Int32.toNatClampNeg (51 : Int32)) (112 : Int32) = h473 at H ⊢
  refine ev_p (pc' := 865) (loc' := [.ref a0, .null]) (st' := [.int (111 : Int32), .int (52 : Int32), .ref b316, .ref b316, .ref a0]) 3 am_q166 rfl ?_
  obtain ⟨g474, g475, H⟩ := H
  refine ev_s (pc' := 866) (loc' := [.ref a0, .null]) (st' := [.ref b316, .ref a0]) (h1 := am_si h473 b316 (Int32.toNatClampNeg (52 : Int32)) (111 : Int32)) am_q166 rfl rfl rfl (am_xx g474 g475) ?_
  replace H := H _ rfl
  generalize am_si h473 b316 (Int32.toNatClampNeg (52 : Int32)) (111 : Int32) = h476 at H ⊢
  refine ev_p (pc' := 871) (loc' := [.ref a0, .null]) (st' := [.int (105 : Int32), .int (53 : Int32), .ref b316, .ref b316, .ref a0]) 3 am_q166 rfl ?_
  obtain ⟨g477, g478, H⟩ := H
  refine ev_s (pc' := 872) (loc' := [.ref a0, .null]) (st' := [.ref b316, .ref a0]) (h1 := am_si h476 b316 (Int32.toNatClampNeg (53 : Int32)) (105 : Int32)) am_q166 rfl rfl rfl (am_xx g477 g478) ?_
  replace H := H _ rfl
  generalize am_si h476 b316 (Int32.toNatClampNeg (53 : Int32)) (105 : Int32) = h479 at H ⊢
  refine ev_p (pc' := 877) (loc' := [.ref a0, .null]) (st' := [.int (110 : Int32), .int (54 : Int32), .ref b316, .ref b316, .ref a0]) 3 am_q166 rfl ?_
  obtain ⟨g480, g481, H⟩ := H
  refine ev_s (pc' := 878) (loc' := [.ref a0, .null]) (st' := [.ref b316, .ref a0]) (h1 := am_si h479 b316 (Int32.toNatClampNeg (54 : Int32)) (110 : Int32)) am_q166 rfl rfl rfl (am_xx g480 g481) ?_
  replace H := H _ rfl
  generalize am_si h479 b316 (Int32.toNatClampNeg (54 : Int32)) (110 : Int32) = h482 at H ⊢
  refine ev_p (pc' := 883) (loc' := [.ref a0, .null]) (st' := [.int (116 : Int32), .int (55 : Int32), .ref b316, .ref b316, .ref a0]) 3 am_q166 rfl ?_
  obtain ⟨g483, g484, H⟩ := H
  refine ev_s (pc' := 884) (loc' := [.ref a0, .null]) (st' := [.ref b316, .ref a0]) (h1 := am_si h482 b316 (Int32.toNatClampNeg (55 : Int32)) (116 : Int32)) am_q166 rfl rfl rfl (am_xx g483 g484) ?_
  replace H := H _ rfl
  generalize am_si h482 b316 (Int32.toNatClampNeg (55 : Int32)) (116 : Int32) = h485 at H ⊢
  refine ev_p (pc' := 889) (loc' := [.ref a0, .null]) (st' := [.int (115 : Int32), .int (56 : Int32), .ref b316, .ref b316, .ref a0]) 3 am_q166 rfl ?_
  obtain ⟨g486, g487, H⟩ := H
  refine ev_s (pc' := 890) (loc' := [.ref a0, .null]) (st' := [.ref b316, .ref a0]) (h1 := am_si h485 b316 (Int32.toNatClampNeg (56 : Int32)) (115 : Int32)) am_q166 rfl rfl rfl (am_xx g486 g487) ?_
  replace H := H _ rfl
  generalize am_si h485 b316 (Int32.toNatClampNeg (56 : Int32)) (115 : Int32) = h488 at H ⊢
  refine ev_p (pc' := 894) (loc' := [.ref a0, .null]) (st' := [.int (0 : Int32), .int (57 : Int32), .ref b316, .ref b316, .ref a0]) 3 am_q166 rfl ?_
  obtain ⟨g489, g490, H⟩ := H
  refine ev_s (pc' := 895) (loc' := [.ref a0, .null]) (st' := [.ref b316, .ref a0]) (h1 := am_si h488 b316 (Int32.toNatClampNeg (57 : Int32)) (0 : Int32)) am_q166 rfl rfl rfl (am_xx g489 g490) ?_
  replace H := H _ rfl
  generalize am_si h488 b316 (Int32.toNatClampNeg (57 : Int32)) (0 : Int32) = h491 at H ⊢
  refine ev_p (pc' := 900) (loc' := [.ref a0, .null]) (st' := [.int (109 : Int32), .int (58 : Int32), .ref b316, .ref b316, .ref a0]) 3 am_q166 rfl ?_
  obtain ⟨g492, g493, H⟩ := H
  refine ev_s (pc' := 901) (loc' := [.ref a0, .null]) (st' := [.ref b316, .ref a0]) (h1 := am_si h491 b316 (Int32.toNatClampNeg (58 : Int32)) (109 : Int32)) am_q166 rfl rfl rfl (am_xx g492 g493) ?_
  replace H := H _ rfl
  generalize am_si h491 b316 (Int32.toNatClampNeg (58 : Int32)) (109 : Int32) = h494 at H ⊢
  refine ev_p (pc' := 906) (loc' := [.ref a0, .null]) (st' := [.int (97 : Int32), .int (59 : Int32), .ref b316, .ref b316, .ref a0]) 3 am_q166 rfl ?_
  obtain ⟨g495, g496, H⟩ := H
  refine ev_s (pc' := 907) (loc' := [.ref a0, .null]) (st' := [.ref b316, .ref a0]) (h1 := am_si h494 b316 (Int32.toNatClampNeg (59 : Int32)) (97 : Int32)) am_q166 rfl rfl rfl (am_xx g495 g496) ?_
  replace H := H _ rfl
  generalize am_si h494 b316 (Int32.toNatClampNeg (59 : Int32)) (97 : Int32) = h497 at H ⊢
  refine ev_p (pc' := 912) (loc' := [.ref a0, .null]) (st' := [.int (121 : Int32), .int (60 : Int32), .ref b316, .ref b316, .ref a0]) 3 am_q166 rfl ?_
  obtain ⟨g498, g499, H⟩ := H
  refine ev_s (pc' := 913) (loc' := [.ref a0, .null]) (st' := [.ref b316, .ref a0]) (h1 := am_si h497 b316 (Int32.toNatClampNeg (60 : Int32)) (121 : Int32)) am_q166 rfl rfl rfl (am_xx g498 g499) ?_
  replace H := H _ rfl
  generalize am_si h497 b316 (Int32.toNatClampNeg (60 : Int32)) (121 : Int32) = h500 at H ⊢
  refine ev_p (pc' := 917) (loc' := [.ref a0, .null]) (st' := [.int (0 : Int32), .int (61 : Int32), .ref b316, .ref b316, .ref a0]) 3 am_q166 rfl ?_
  obtain ⟨g501, g502, H⟩ := H
  refine ev_s (pc' := 918) (loc' := [.ref a0, .null]) (st' := [.ref b316, .ref a0]) (h1 := am_si h500 b316 (Int32.toNatClampNeg (61 : Int32)) (0 : Int32)) am_q166 rfl rfl rfl (am_xx g501 g502) ?_
  replace H := H _ rfl
  generalize am_si h500 b316 (Int32.toNatClampNeg (61 : Int32)) (0 : Int32) = h503 at H ⊢
  refine ev_p (pc' := 923) (loc' := [.ref a0, .null]) (st' := [.int (118 : Int32), .int (62 : Int32), .ref b316, .ref b316, .ref a0]) 3 am_q166 rfl ?_
  obtain ⟨g504, g505, H⟩ := H
  refine ev_s (pc' := 924) (loc' := [.ref a0, .null]) (st' := [.ref b316, .ref a0]) (h1 := am_si h503 b316 (Int32.toNatClampNeg (62 : Int32)) (118 : Int32)) am_q166 rfl rfl rfl (am_xx g504 g505) ?_
  replace H := H _ rfl
  generalize am_si h503 b316 (Int32.toNatClampNeg (62 : Int32)) (118 : Int32) = h506 at H ⊢
  refine ev_p (pc' := 929) (loc' := [.ref a0, .null]) (st' := [.int (111 : Int32), .int (63 : Int32), .ref b316, .ref b316, .ref a0]) 3 am_q166 rfl ?_
  obtain ⟨g507, g508, H⟩ := H
  refine ev_s (pc' := 930) (loc' := [.ref a0, .null]) (st' := [.ref b316, .ref a0]) (h1 := am_si h506 b316 (Int32.toNatClampNeg (63 : Int32)) (111 : Int32)) am_q166 rfl rfl rfl (am_xx g507 g508) ?_
  replace H := H _ rfl
  generalize am_si h506 b316 (Int32.toNatClampNeg (63 : Int32)) (111 : Int32) = h509 at H ⊢
  refine ev_p (pc' := 935) (loc' := [.ref a0, .null]) (st' := [.int (116 : Int32), .int (64 : Int32), .ref b316, .ref b316, .ref a0]) 3 am_q166 rfl ?_
  obtain ⟨g510, g511, H⟩ := H
  refine ev_s (pc' := 936) (loc' := [.ref a0, .null]) (st' := [.ref b316, .ref a0]) (h1 := am_si h509 b316 (Int32.toNatClampNeg (64 : Int32)) (116 : Int32)) am_q166 rfl rfl rfl (am_xx g510 g511) ?_
  replace H := H _ rfl
  generalize am_si h509 b316 (Int32.toNatClampNeg (64 : Int32)) (116 : Int32) = h512 at H ⊢
  refine ev_p (pc' := 941) (loc' := [.ref a0, .null]) (st' := [.int (101 : Int32), .int (65 : Int32), .ref b316, .ref b316, .ref a0]) 3 am_q166 rfl ?_
  obtain ⟨g513, g514, H⟩ := H
  refine ev_s (pc' := 942) (loc' := [.ref a0, .null]) (st' := [.ref b316, .ref a0]) (h1 := am_si h512 b316 (Int32.toNatClampNeg (65 : Int32)) (101 : Int32)) am_q166 rfl rfl rfl (am_xx g513 g514) ?_
  replace H := H _ rfl
  generalize am_si h512 b316 (Int32.toNatClampNeg (65 : Int32)) (101 : Int32) = h515 at H ⊢
  refine ev_p (pc' := 947) (loc' := [.ref a0, .null]) (st' := [.int (115 : Int32), .int (66 : Int32), .ref b316, .ref b316, .ref a0]) 3 am_q166 rfl ?_
  obtain ⟨g516, g517, H⟩ := H
  refine ev_s (pc' := 948) (loc' := [.ref a0, .null]) (st' := [.ref b316, .ref a0]) (h1 := am_si h515 b316 (Int32.toNatClampNeg (66 : Int32)) (115 : Int32)) am_q166 rfl rfl rfl (am_xx g516 g517) ?_
  replace H := H _ rfl
  generalize am_si h515 b316 (Int32.toNatClampNeg (66 : Int32)) (115 : Int32) = h518 at H ⊢
  refine ev_p (pc' := 952) (loc' := [.ref a0, .null]) (st' := [.int (0 : Int32), .int (67 : Int32), .ref b316, .ref b316, .ref a0]) 3 am_q166 rfl ?_
  obtain ⟨g519, g520, H⟩ := H
  refine ev_s (pc' := 953) (loc' := [.ref a0, .null]) (st' := [.ref b316, .ref a0]) (h1 := am_si h518 b316 (Int32.toNatClampNeg (67 : Int32)) (0 : Int32)) am_q166 rfl rfl rfl (am_xx g519 g520) ?_
  replace H := H _ rfl
  generalize am_si h518 b316 (Int32.toNatClampNeg (67 : Int32)) (0 : Int32) = h521 at H ⊢
  refine ev_p (pc' := 958) (loc' := [.ref a0, .null]) (st' := [.int (99 : Int32), .int (68 : Int32), .ref b316, .ref b316, .ref a0]) 3 am_q166 rfl ?_
  obtain ⟨g522, g523, H⟩ := H
  refine ev_s (pc' := 959) (loc' := [.ref a0, .null]) (st' := [.ref b316, .ref a0]) (h1 := am_si h521 b316 (Int32.toNatClampNeg (68 : Int32)) (99 : Int32)) am_q166 rfl rfl rfl (am_xx g522 g523) ?_
  replace H := H _ rfl
  generalize am_si h521 b316 (Int32.toNatClampNeg (68 : Int32)) (99 : Int32) = h524 at H ⊢
  refine ev_p (pc' := 964) (loc' := [.ref a0, .null]) (st' := [.int (111 : Int32), .int (69 : Int32), .ref b316, .ref b316, .ref a0]) 3 am_q166 rfl ?_
  obtain ⟨g525, g526, H⟩ := H
  refine ev_s (pc' := 965) (loc' := [.ref a0, .null]) (st' := [.ref b316, .ref a0]) (h1 := am_si h524 b316 (Int32.toNatClampNeg (69 : Int32)) (111 : Int32)) am_q166 rfl rfl rfl (am_xx g525 g526) ?_
  replace H := H _ rfl
  generalize am_si h524 b316 (Int32.toNatClampNeg (69 : Int32)) (111 : Int32) = h527 at H ⊢
  refine ev_p (pc' := 970) (loc' := [.ref a0, .null]) (st' := [.int (115 : Int32), .int (70 : Int32), .ref b316, .ref b316, .ref a0]) 3 am_q166 rfl ?_
  obtain ⟨g528, g529, H⟩ := H
  refine ev_s (pc' := 971) (loc' := [.ref a0, .null]) (st' := [.ref b316, .ref a0]) (h1 := am_si h527 b316 (Int32.toNatClampNeg (70 : Int32)) (115 : Int32)) am_q166 rfl rfl rfl (am_xx g528 g529) ?_
  replace H := H _ rfl
  generalize am_si h527 b316 (Int32.toNatClampNeg (70 : Int32)) (115 : Int32) = h530 at H ⊢
  refine ev_p (pc' := 976) (loc' := [.ref a0, .null]) (st' := [.int (116 : Int32), .int (71 : Int32), .ref b316, .ref b316, .ref a0]) 3 am_q166 rfl ?_
  obtain ⟨g531, g532, H⟩ := H
  refine ev_s (pc' := 977) (loc' := [.ref a0, .null]) (st' := [.ref b316, .ref a0]) (h1 := am_si h530 b316 (Int32.toNatClampNeg (71 : Int32)) (116 : Int32)) am_q166 rfl rfl rfl (am_xx g531 g532) ?_
  replace H := H _ rfl
  generalize am_si h530 b316 (Int32.toNatClampNeg (71 : Int32)) (116 : Int32) = h533 at H ⊢
  refine ev_p (pc' := 982) (loc' := [.ref a0, .null]) (st' := [.int (115 : Int32), .int (72 : Int32), .ref b316, .ref b316, .ref a0]) 3 am_q166 rfl ?_
  obtain ⟨g534, g535, H⟩ := H
  refine ev_s (pc' := 983) (loc' := [.ref a0, .null]) (st' := [.ref b316, .ref a0]) (h1 := am_si h533 b316 (Int32.toNatClampNeg (72 : Int32)) (115 : Int32)) am_q166 rfl rfl rfl (am_xx g534 g535) ?_
  replace H := H _ rfl
  generalize am_si h533 b316 (Int32.toNatClampNeg (72 : Int32)) (115 : Int32) = h536 at H ⊢
  refine ev_p (pc' := 987) (loc' := [.ref a0, .null]) (st' := [.int (0 : Int32), .int (73 : Int32), .ref b316, .ref b316, .ref a0]) 3 am_q166 rfl ?_
  obtain ⟨g537, g538, H⟩ := H
  refine ev_s (pc' := 988) (loc' := [.ref a0, .null]) (st' := [.ref b316, .ref a0]) (h1 := am_si h536 b316 (Int32.toNatClampNeg (73 : Int32)) (0 : Int32)) am_q166 rfl rfl rfl (am_xx g537 g538) ?_
  replace H := H _ rfl
  generalize am_si h536 b316 (Int32.toNatClampNeg (73 : Int32)) (0 : Int32) = h539 at H ⊢
  refine ev_p (pc' := 993) (loc' := [.ref a0, .null]) (st' := [.int (111 : Int32), .int (74 : Int32), .ref b316, .ref b316, .ref a0]) 3 am_q166 rfl ?_
  obtain ⟨g540, g541, H⟩ := H
  refine ev_s (pc' := 994) (loc' := [.ref a0, .null]) (st' := [.ref b316, .ref a0]) (h1 := am_si h539 b316 (Int32.toNatClampNeg (74 : Int32)) (111 : Int32)) am_q166 rfl rfl rfl (am_xx g540 g541) ?_
  replace H := H _ rfl
  generalize am_si h539 b316 (Int32.toNatClampNeg (74 : Int32)) (111 : Int32) = h542 at H ⊢
  refine ev_p (pc' := 999) (loc' := [.ref a0, .null]) (st' := [.int (114 : Int32), .int (75 : Int32), .ref b316, .ref b316, .ref a0]) 3 am_q166 rfl ?_
  obtain ⟨g543, g544, H⟩ := H
  refine ev_s (pc' := 1000) (loc' := [.ref a0, .null]) (st' := [.ref b316, .ref a0]) (h1 := am_si h542 b316 (Int32.toNatClampNeg (75 : Int32)) (114 : Int32)) am_q166 rfl rfl rfl (am_xx g543 g544) ?_
  replace H := H _ rfl
  generalize am_si h542 b316 (Int32.toNatClampNeg (75 : Int32)) (114 : Int32) = h545 at H ⊢
  refine ev_p (pc' := 1004) (loc' := [.ref a0, .null]) (st' := [.int (0 : Int32), .int (76 : Int32), .ref b316, .ref b316, .ref a0]) 3 am_q166 rfl ?_
  obtain ⟨g546, g547, H⟩ := H
  refine ev_s (pc' := 1005) (loc' := [.ref a0, .null]) (st' := [.ref b316, .ref a0]) (h1 := am_si h545 b316 (Int32.toNatClampNeg (76 : Int32)) (0 : Int32)) am_q166 rfl rfl rfl (am_xx g546 g547) ?_
  replace H := H _ rfl
  generalize am_si h545 b316 (Int32.toNatClampNeg (76 : Int32)) (0 : Int32) = h548 at H ⊢
  refine ev_p (pc' := 1010) (loc' := [.ref a0, .null]) (st' := [.int (97 : Int32), .int (77 : Int32), .ref b316, .ref b316, .ref a0]) 3 am_q166 rfl ?_
  obtain ⟨g549, g550, H⟩ := H
  refine ev_s (pc' := 1011) (loc' := [.ref a0, .null]) (st' := [.ref b316, .ref a0]) (h1 := am_si h548 b316 (Int32.toNatClampNeg (77 : Int32)) (97 : Int32)) am_q166 rfl rfl rfl (am_xx g549 g550) ?_
  replace H := H _ rfl
  generalize am_si h548 b316 (Int32.toNatClampNeg (77 : Int32)) (97 : Int32) = h551 at H ⊢
  refine ev_p (pc' := 1016) (loc' := [.ref a0, .null]) (st' := [.int (110 : Int32), .int (78 : Int32), .ref b316, .ref b316, .ref a0]) 3 am_q166 rfl ?_
  obtain ⟨g552, g553, H⟩ := H
  refine ev_s (pc' := 1017) (loc' := [.ref a0, .null]) (st' := [.ref b316, .ref a0]) (h1 := am_si h551 b316 (Int32.toNatClampNeg (78 : Int32)) (110 : Int32)) am_q166 rfl rfl rfl (am_xx g552 g553) ?_
  replace H := H _ rfl
  generalize am_si h551 b316 (Int32.toNatClampNeg (78 : Int32)) (110 : Int32) = h554 at H ⊢
  refine ev_p (pc' := 1022) (loc' := [.ref a0, .null]) (st' := [.int (100 : Int32), .int (79 : Int32), .ref b316, .ref b316, .ref a0]) 3 am_q166 rfl ?_
  obtain ⟨g555, g556, H⟩ := H
  refine ev_s (pc' := 1023) (loc' := [.ref a0, .null]) (st' := [.ref b316, .ref a0]) (h1 := am_si h554 b316 (Int32.toNatClampNeg (79 : Int32)) (100 : Int32)) am_q166 rfl rfl rfl (am_xx g555 g556) ?_
  replace H := H _ rfl
  generalize am_si h554 b316 (Int32.toNatClampNeg (79 : Int32)) (100 : Int32) = h557 at H ⊢
  refine ev_p (pc' := 1027) (loc' := [.ref a0, .null]) (st' := [.int (0 : Int32), .int (80 : Int32), .ref b316, .ref b316, .ref a0]) 3 am_q166 rfl ?_
  obtain ⟨g558, g559, H⟩ := H
  refine ev_s (pc' := 1028) (loc' := [.ref a0, .null]) (st' := [.ref b316, .ref a0]) (h1 := am_si h557 b316 (Int32.toNatClampNeg (80 : Int32)) (0 : Int32)) am_q166 rfl rfl rfl (am_xx g558 g559) ?_
  replace H := H _ rfl
  generalize am_si h557 b316 (Int32.toNatClampNeg (80 : Int32)) (0 : Int32) = h560 at H ⊢
  refine ev_p (pc' := 1033) (loc' := [.ref a0, .null]) (st' := [.int (110 : Int32), .int (81 : Int32), .ref b316, .ref b316, .ref a0]) 3 am_q166 rfl ?_
  obtain ⟨g561, g562, H⟩ := H
  refine ev_s (pc' := 1034) (loc' := [.ref a0, .null]) (st' := [.ref b316, .ref a0]) (h1 := am_si h560 b316 (Int32.toNatClampNeg (81 : Int32)) (110 : Int32)) am_q166 rfl rfl rfl (am_xx g561 g562) ?_
  replace H := H _ rfl
  generalize am_si h560 b316 (Int32.toNatClampNeg (81 : Int32)) (110 : Int32) = h563 at H ⊢
  refine ev_p (pc' := 1039) (loc' := [.ref a0, .null]) (st' := [.int (111 : Int32), .int (82 : Int32), .ref b316, .ref b316, .ref a0]) 3 am_q166 rfl ?_
  obtain ⟨g564, g565, H⟩ := H
  refine ev_s (pc' := 1040) (loc' := [.ref a0, .null]) (st' := [.ref b316, .ref a0]) (h1 := am_si h563 b316 (Int32.toNatClampNeg (82 : Int32)) (111 : Int32)) am_q166 rfl rfl rfl (am_xx g564 g565) ?_
  replace H := H _ rfl
  generalize am_si h563 b316 (Int32.toNatClampNeg (82 : Int32)) (111 : Int32) = h566 at H ⊢
  refine ev_p (pc' := 1045) (loc' := [.ref a0, .null]) (st' := [.int (116 : Int32), .int (83 : Int32), .ref b316, .ref b316, .ref a0]) 3 am_q166 rfl ?_
  obtain ⟨g567, g568, H⟩ := H
  refine ev_s (pc' := 1046) (loc' := [.ref a0, .null]) (st' := [.ref b316, .ref a0]) (h1 := am_si h566 b316 (Int32.toNatClampNeg (83 : Int32)) (116 : Int32)) am_q166 rfl rfl rfl (am_xx g567 g568) ?_
  replace H := H _ rfl
  generalize am_si h566 b316 (Int32.toNatClampNeg (83 : Int32)) (116 : Int32) = h569 at H ⊢
  refine ev_p (pc' := 1050) (loc' := [.ref a0, .null]) (st' := [.int (0 : Int32), .int (84 : Int32), .ref b316, .ref b316, .ref a0]) 3 am_q166 rfl ?_
  obtain ⟨g570, g571, H⟩ := H
  refine ev_s (pc' := 1051) (loc' := [.ref a0, .null]) (st' := [.ref b316, .ref a0]) (h1 := am_si h569 b316 (Int32.toNatClampNeg (84 : Int32)) (0 : Int32)) am_q166 rfl rfl rfl (am_xx g570 g571) ?_
  replace H := H _ rfl
  generalize am_si h569 b316 (Int32.toNatClampNeg (84 : Int32)) (0 : Int32) = h572 at H ⊢
  obtain ⟨g573, H⟩ := H
  refine ev_s (pc' := 1054) (loc' := [.ref a0, .null]) (st' := []) (h1 := am_sr h572 a0 49 (some b316)) am_q166 rfl rfl rfl (if_pos (e := none) g573) ?_
  replace H := H _ rfl
  generalize am_sr h572 a0 49 (some b316) = h574 at H ⊢
  refine ev_p (pc' := 1058) (loc' := [.ref a0, .null]) (st' := [.int (420 : Int32), .ref a0]) 2 am_q166 rfl ?_
  obtain ⟨g577, H⟩ := H
  refine ev_s (pc' := 1060) (loc' := [.ref a0, .null]) (st' := [.ref (am_sz h574), .ref a0]) (h1 := am_nw h574 101 (Int32.toNatClampNeg (420 : Int32)) (Int32.toNatClampNeg (420 : Int32))) am_q166 rfl rfl rfl (if_pos (e := none) g577) ?_
  replace H := H _ rfl _ rfl
  generalize am_nw h574 101 (Int32.toNatClampNeg (420 : Int32)) (Int32.toNatClampNeg (420 : Int32)) = h575 at H ⊢
  generalize am_sz h574 = b576 at H ⊢
  obtain ⟨g578, H⟩ := H
  refine ev_s (pc' := 1063) (loc' := [.ref a0, .null]) (st' := []) (h1 := am_sr h575 a0 60 (some b576)) am_q166 rfl rfl rfl (if_pos (e := none) g578) ?_
  replace H := H _ rfl
  generalize am_sr h575 a0 60 (some b576) = h579 at H ⊢
  refine ev_p (pc' := 1066) (loc' := [.ref a0, .null]) (st' := [.int (24 : Int32), .ref a0]) 2 am_q166 rfl ?_
  obtain ⟨g582, H⟩ := H
  refine ev_s (pc' := 1068) (loc' := [.ref a0, .null]) (st' := [.ref (am_sz h579), .ref a0]) (h1 := am_nw h579 100 (Int32.toNatClampNeg (24 : Int32)) (Int32.toNatClampNeg (24 : Int32))) am_q166 rfl rfl rfl (if_pos (e := none) g582) ?_
  replace H := H _ rfl _ rfl
  generalize am_nw h579 100 (Int32.toNatClampNeg (24 : Int32)) (Int32.toNatClampNeg (24 : Int32)) = h580 at H ⊢
  generalize am_sz h579 = b581 at H ⊢
  obtain ⟨g583, H⟩ := H
  refine ev_s (pc' := 1071) (loc' := [.ref a0, .null]) (st' := []) (h1 := am_sr h580 a0 62 (some b581)) am_q166 rfl rfl rfl (if_pos (e := none) g583) ?_
  replace H := H _ rfl
  generalize am_sr h580 a0 62 (some b581) = h584 at H ⊢
  refine ev_p (pc' := 1074) (loc' := [.ref a0, .null]) (st' := [.int (24 : Int32), .ref a0]) 2 am_q166 rfl ?_
  obtain ⟨g587, H⟩ := H
  refine ev_s (pc' := 1076) (loc' := [.ref a0, .null]) (st' := [.ref (am_sz h584), .ref a0]) (h1 := am_nw h584 100 (Int32.toNatClampNeg (24 : Int32)) (Int32.toNatClampNeg (24 : Int32))) am_q166 rfl rfl rfl (if_pos (e := none) g587) ?_
  replace H := H _ rfl _ rfl
  generalize am_nw h584 100 (Int32.toNatClampNeg (24 : Int32)) (Int32.toNatClampNeg (24 : Int32)) = h585 at H ⊢
  generalize am_sz h584 = b586 at H ⊢
  obtain ⟨g588, H⟩ := H
  refine ev_s (pc' := 1079) (loc' := [.ref a0, .null]) (st' := []) (h1 := am_sr h585 a0 63 (some b586)) am_q166 rfl rfl rfl (if_pos (e := none) g588) ?_
  replace H := H _ rfl
  generalize am_sr h585 a0 63 (some b586) = h589 at H ⊢
  refine ev_p (pc' := 1082) (loc' := [.ref a0, .null]) (st' := [.int (24 : Int32), .ref a0]) 2 am_q166 rfl ?_
  obtain ⟨g592, H⟩ := H
  refine ev_s (pc' := 1084) (loc' := [.ref a0, .null]) (st' := [.ref (am_sz h589), .ref a0]) (h1 := am_nw h589 100 (Int32.toNatClampNeg (24 : Int32)) (Int32.toNatClampNeg (24 : Int32))) am_q166 rfl rfl rfl (if_pos (e := none) g592) ?_
  replace H := H _ rfl _ rfl
  generalize am_nw h589 100 (Int32.toNatClampNeg (24 : Int32)) (Int32.toNatClampNeg (24 : Int32)) = h590 at H ⊢
  generalize am_sz h589 = b591 at H ⊢
  obtain ⟨g593, H⟩ := H
  refine ev_s (pc' := 1087) (loc' := [.ref a0, .null]) (st' := []) (h1 := am_sr h590 a0 64 (some b591)) am_q166 rfl rfl rfl (if_pos (e := none) g593) ?_
  replace H := H _ rfl
  generalize am_sr h590 a0 64 (some b591) = h594 at H ⊢
  refine ev_p (pc' := 1090) (loc' := [.ref a0, .null]) (st' := [.int (53248 : Int32), .ref a0]) 2 am_q166 rfl ?_
  obtain ⟨g597, H⟩ := H
  refine ev_s (pc' := 1092) (loc' := [.ref a0, .null]) (st' := [.ref (am_sz h594), .ref a0]) (h1 := am_nw h594 100 (Int32.toNatClampNeg (53248 : Int32)) (Int32.toNatClampNeg (53248 : Int32))) am_q166 rfl rfl rfl (if_pos (e := none) g597) ?_
  replace H := H _ rfl _ rfl
  generalize am_nw h594 100 (Int32.toNatClampNeg (53248 : Int32)) (Int32.toNatClampNeg (53248 : Int32)) = h595 at H ⊢
  generalize am_sz h594 = b596 at H ⊢
  obtain ⟨g598, H⟩ := H
  refine ev_s (pc' := 1095) (loc' := [.ref a0, .null]) (st' := []) (h1 := am_sr h595 a0 65 (some b596)) am_q166 rfl rfl rfl (if_pos (e := none) g598) ?_
  replace H := H _ rfl
  generalize am_sr h595 a0 65 (some b596) = h599 at H ⊢
  refine ev_p (pc' := 1098) (loc' := [.ref a0, .null]) (st' := [.int (24 : Int32), .ref a0]) 2 am_q166 rfl ?_
  obtain ⟨g602, H⟩ := H
  refine ev_s (pc' := 1100) (loc' := [.ref a0, .null]) (st' := [.ref (am_sz h599), .ref a0]) (h1 := am_nw h599 100 (Int32.toNatClampNeg (24 : Int32)) (Int32.toNatClampNeg (24 : Int32))) am_q166 rfl rfl rfl (if_pos (e := none) g602) ?_
  replace H := H _ rfl _ rfl
  generalize am_nw h599 100 (Int32.toNatClampNeg (24 : Int32)) (Int32.toNatClampNeg (24 : Int32)) = h600 at H ⊢
  generalize am_sz h599 = b601 at H ⊢
  obtain ⟨g603, H⟩ := H
  refine ev_s (pc' := 1103) (loc' := [.ref a0, .null]) (st' := []) (h1 := am_sr h600 a0 67 (some b601)) am_q166 rfl rfl rfl (if_pos (e := none) g603) ?_
  replace H := H _ rfl
  generalize am_sr h600 a0 67 (some b601) = h604 at H ⊢
  refine ev_p (pc' := 1106) (loc' := [.ref a0, .null]) (st' := [.int (12 : Int32), .ref a0]) 2 am_q166 rfl ?_
  obtain ⟨g607, H⟩ := H
  refine ev_s (pc' := 1108) (loc' := [.ref a0, .null]) (st' := [.ref (am_sz h604), .ref a0]) (h1 := am_nw h604 101 (Int32.toNatClampNeg (12 : Int32)) (Int32.toNatClampNeg (12 : Int32))) am_q166 rfl rfl rfl (if_pos (e := none) g607) ?_
  replace H := H _ rfl _ rfl
  generalize am_nw h604 101 (Int32.toNatClampNeg (12 : Int32)) (Int32.toNatClampNeg (12 : Int32)) = h605 at H ⊢
  generalize am_sz h604 = b606 at H ⊢
  obtain ⟨g608, H⟩ := H
  refine ev_s (pc' := 1111) (loc' := [.ref a0, .null]) (st' := []) (h1 := am_sr h605 a0 68 (some b606)) am_q166 rfl rfl rfl (if_pos (e := none) g608) ?_
  replace H := H _ rfl
  generalize am_sr h605 a0 68 (some b606) = h609 at H ⊢
  refine ev_p (pc' := 1114) (loc' := [.ref a0, .null]) (st' := [.int (12 : Int32), .ref a0]) 2 am_q166 rfl ?_
  obtain ⟨g612, H⟩ := H
  refine ev_s (pc' := 1116) (loc' := [.ref a0, .null]) (st' := [.ref (am_sz h609), .ref a0]) (h1 := am_nw h609 101 (Int32.toNatClampNeg (12 : Int32)) (Int32.toNatClampNeg (12 : Int32))) am_q166 rfl rfl rfl (if_pos (e := none) g612) ?_
  replace H := H _ rfl _ rfl
  generalize am_nw h609 101 (Int32.toNatClampNeg (12 : Int32)) (Int32.toNatClampNeg (12 : Int32)) = h610 at H ⊢
  generalize am_sz h609 = b611 at H ⊢
  obtain ⟨g613, H⟩ := H
  refine ev_s (pc' := 1119) (loc' := [.ref a0, .null]) (st' := []) (h1 := am_sr h610 a0 69 (some b611)) am_q166 rfl rfl rfl (if_pos (e := none) g613) ?_
  replace H := H _ rfl
  generalize am_sr h610 a0 69 (some b611) = h614 at H ⊢
  refine ev_p (pc' := 1121) (loc' := [.ref a0, .int (0 : Int32)]) (st' := []) 2 am_q166 rfl ?_
  exact ev_m (loc' := [.ref a0, .int (0 : Int32)]) am_q166 rfl rfl H
set_option maxRecDepth 20000 in
set_option maxHeartbeats 2000000 in
theorem wp166_1121 {d : Nat} (a0 : Nat) (i1 : Int32) {h : AH} {Q : Option Value → AH → Prop} (H : am_kd h a0 = 12 ∧ ∃ b2, am_gr h a0 48 = some b2 ∧ (100 ≤ am_kd h b2 ∧ am_kd h b2 ≤ 109) ∧ ((Int32.ofNat (am_ln h b2)) ≤ i1 → am_kd h a0 = 12 ∧ ∃ b6, am_gr h a0 24 = some b6 ∧ am_kd h a0 = 12 ∧ ∃ b9, am_gr h a0 48 = some b9 ∧ (100 ≤ am_kd h b9 ∧ am_kd h b9 ≤ 109) ∧ (am_kd h b6 = 100 ∧ 6 ≤ b6) ∧ am_in (0 : Int32) (am_ln h b6) ∧ ∀ h14, h14 = am_si h b6 (Int32.toNatClampNeg (0 : Int32)) (Int32.ofNat (am_ln h b9)) → am_kd h14 a0 = 12 ∧ Cl d 203 [.ref a0, .int (0 : Int32)] h14 (fun r16 h15 => r16 = none ∧ am_kd h15 a0 = 12 ∧ ∃ b19, am_gr h15 a0 29 = some b19 ∧ (am_kd h15 b19 = 103 ∧ ((1 : Int32) = (0 : Int32) ∨ (1 : Int32) = (1 : Int32))) ∧ am_in (0 : Int32) (am_ln h15 b19) ∧ ∀ h23, h23 = am_si h15 b19 (Int32.toNatClampNeg (0 : Int32)) (1 : Int32) → am_kd h23 a0 = 12 ∧ ∃ b25, am_gr h23 a0 33 = some b25 ∧ (am_kd h23 b25 = 100 ∧ 6 ≤ b25) ∧ am_in (0 : Int32) (am_ln h23 b25) ∧ ∀ h29, h29 = am_si h23 b25 (Int32.toNatClampNeg (0 : Int32)) (-1 : Int32) → am_kd h29 a0 = 12 ∧ ∀ h31, h31 = am_si h29 a0 23 (1 : Int32) → am_kd h31 a0 = 12 ∧ ∀ h33, h33 = am_si h31 a0 36 (1 : Int32) → Q none h33)) ∧ (¬ (Int32.ofNat (am_ln h b2)) ≤ i1 → am_kd h a0 = 12 ∧ ∃ b35, am_gr h a0 25 = some b35 ∧ am_kd h a0 = 12 ∧ ∃ b38, am_gr h a0 48 = some b38 ∧ am_kd h b38 = 100 ∧ am_in i1 (am_ln h b38) ∧ (am_kd h b35 = 100 ∧ 6 ≤ b35) ∧ am_in i1 (am_ln h b35) ∧ ∀ h44, h44 = am_si h b35 (Int32.toNatClampNeg i1) (am_gi h b38 (Int32.toNatClampNeg i1)) → Ev (d + 1) 166 1121 [.ref a0, .int (i1 + (1 : Int32))] [] h44 Q)) : Ev (d + 1) 166 1121 [.ref a0, .int i1] [] h Q := by
  refine ev_p (pc' := 1123) (loc' := [.ref a0, .int i1]) (st' := [.ref a0, .int i1]) 2 am_q166 rfl ?_
  obtain ⟨g1, b2, e3, H⟩ := H
  refine ev_s (pc' := 1126) (loc' := [.ref a0, .int i1]) (st' := [.ref b2, .int i1]) (h1 := h) am_q166 rfl rfl rfl (am_gf2 g1 e3) ?_
  obtain ⟨g4, H⟩ := H
  refine ev_s (pc' := 1127) (loc' := [.ref a0, .int i1]) (st' := [.int (Int32.ofNat (am_ln h b2)), .int i1]) (h1 := h) am_q166 rfl rfl rfl (if_pos (e := none) g4) ?_
  refine ev_jc (t := 1148) am_q166 rfl rfl (fun hq => ?_) (fun hq => ?_)
  · replace H := H.1 hq
    refine ev_p (pc' := 1149) (loc' := [.ref a0, .int i1]) (st' := [.ref a0]) 1 am_q166 rfl ?_
    obtain ⟨g5, b6, e7, H⟩ := H
    refine ev_s (pc' := 1152) (loc' := [.ref a0, .int i1]) (st' := [.ref b6]) (h1 := h) am_q166 rfl rfl rfl (am_gf2 g5 e7) ?_
    refine ev_p (pc' := 1154) (loc' := [.ref a0, .int i1]) (st' := [.ref a0, .int (0 : Int32), .ref b6]) 2 am_q166 rfl ?_
    obtain ⟨g8, b9, e10, H⟩ := H
    refine ev_s (pc' := 1157) (loc' := [.ref a0, .int i1]) (st' := [.ref b9, .int (0 : Int32), .ref b6]) (h1 := h) am_q166 rfl rfl rfl (am_gf2 g8 e10) ?_
    obtain ⟨g11, H⟩ := H
    refine ev_s (pc' := 1158) (loc' := [.ref a0, .int i1]) (st' := [.int (Int32.ofNat (am_ln h b9)), .int (0 : Int32), .ref b6]) (h1 := h) am_q166 rfl rfl rfl (if_pos (e := none) g11) ?_
    obtain ⟨g12, g13, H⟩ := H
    refine ev_s (pc' := 1159) (loc' := [.ref a0, .int i1]) (st' := []) (h1 := am_si h b6 (Int32.toNatClampNeg (0 : Int32)) (Int32.ofNat (am_ln h b9))) am_q166 rfl rfl rfl (am_xx g12 g13) ?_
    replace H := H _ rfl
    generalize am_si h b6 (Int32.toNatClampNeg (0 : Int32)) (Int32.ofNat (am_ln h b9)) = h14 at H ⊢
    refine ev_p (pc' := 1161) (loc' := [.ref a0, .int i1]) (st' := [.int (0 : Int32), .ref a0]) 2 am_q166 rfl ?_
    obtain ⟨g17, H⟩ := H
    refine ev_c (vs := [.ref a0, .int (0 : Int32)]) (rest := []) 203 am_q166 rfl rfl rfl rfl rfl rfl rfl rfl rfl rfl rfl rfl (Or.inr (congrArg some g17)) (Cl.mono H (Nat.le_refl _) (fun r16 h15 H => ?_))
    obtain ⟨rfl, H⟩ := H
    refine ev_p (pc' := 1165) (loc' := [.ref a0, .int i1]) (st' := [.ref a0]) 1 am_q166 rfl ?_
    obtain ⟨g18, b19, e20, H⟩ := H
    refine ev_s (pc' := 1168) (loc' := [.ref a0, .int i1]) (st' := [.ref b19]) (h1 := h15) am_q166 rfl rfl rfl (am_gf2 g18 e20) ?_
    refine ev_p (pc' := 1170) (loc' := [.ref a0, .int i1]) (st' := [.int (1 : Int32), .int (0 : Int32), .ref b19]) 2 am_q166 rfl ?_
    obtain ⟨g21, g22, H⟩ := H
    refine ev_s (pc' := 1171) (loc' := [.ref a0, .int i1]) (st' := []) (h1 := am_si h15 b19 (Int32.toNatClampNeg (0 : Int32)) (1 : Int32)) am_q166 rfl rfl rfl (am_yz g21 g22) ?_
    replace H := H _ rfl
    generalize am_si h15 b19 (Int32.toNatClampNeg (0 : Int32)) (1 : Int32) = h23 at H ⊢
    refine ev_p (pc' := 1172) (loc' := [.ref a0, .int i1]) (st' := [.ref a0]) 1 am_q166 rfl ?_
    obtain ⟨g24, b25, e26, H⟩ := H
    refine ev_s (pc' := 1175) (loc' := [.ref a0, .int i1]) (st' := [.ref b25]) (h1 := h23) am_q166 rfl rfl rfl (am_gf2 g24 e26) ?_
    refine ev_p (pc' := 1177) (loc' := [.ref a0, .int i1]) (st' := [.int (-1 : Int32), .int (0 : Int32), .ref b25]) 2 am_q166 rfl ?_
    obtain ⟨g27, g28, H⟩ := H
    refine ev_s (pc' := 1178) (loc' := [.ref a0, .int i1]) (st' := []) (h1 := am_si h23 b25 (Int32.toNatClampNeg (0 : Int32)) (-1 : Int32)) am_q166 rfl rfl rfl (am_xx g27 g28) ?_
    replace H := H _ rfl
    generalize am_si h23 b25 (Int32.toNatClampNeg (0 : Int32)) (-1 : Int32) = h29 at H ⊢
    refine ev_p (pc' := 1180) (loc' := [.ref a0, .int i1]) (st' := [.int (1 : Int32), .ref a0]) 2 am_q166 rfl ?_
    obtain ⟨g30, H⟩ := H
    refine ev_s (pc' := 1183) (loc' := [.ref a0, .int i1]) (st' := []) (h1 := am_si h29 a0 23 (1 : Int32)) am_q166 rfl rfl rfl (if_pos (e := none) g30) ?_
    replace H := H _ rfl
    generalize am_si h29 a0 23 (1 : Int32) = h31 at H ⊢
    refine ev_p (pc' := 1185) (loc' := [.ref a0, .int i1]) (st' := [.int (1 : Int32), .ref a0]) 2 am_q166 rfl ?_
    obtain ⟨g32, H⟩ := H
    refine ev_s (pc' := 1188) (loc' := [.ref a0, .int i1]) (st' := []) (h1 := am_si h31 a0 36 (1 : Int32)) am_q166 rfl rfl rfl (if_pos (e := none) g32) ?_
    replace H := H _ rfl
    generalize am_si h31 a0 36 (1 : Int32) = h33 at H ⊢
    exact ev_r (v := none) am_q166 rfl rfl rfl rfl H
  · replace H := H.2 hq
    refine ev_p (pc' := 1131) (loc' := [.ref a0, .int i1]) (st' := [.ref a0]) 1 am_q166 rfl ?_
    obtain ⟨g34, b35, e36, H⟩ := H
    refine ev_s (pc' := 1134) (loc' := [.ref a0, .int i1]) (st' := [.ref b35]) (h1 := h) am_q166 rfl rfl rfl (am_gf2 g34 e36) ?_
    refine ev_p (pc' := 1136) (loc' := [.ref a0, .int i1]) (st' := [.ref a0, .int i1, .ref b35]) 2 am_q166 rfl ?_
    obtain ⟨g37, b38, e39, H⟩ := H
    refine ev_s (pc' := 1139) (loc' := [.ref a0, .int i1]) (st' := [.ref b38, .int i1, .ref b35]) (h1 := h) am_q166 rfl rfl rfl (am_gf2 g37 e39) ?_
    refine ev_p (pc' := 1140) (loc' := [.ref a0, .int i1]) (st' := [.int i1, .ref b38, .int i1, .ref b35]) 1 am_q166 rfl ?_
    obtain ⟨g40, g41, H⟩ := H
    refine ev_s (pc' := 1141) (loc' := [.ref a0, .int i1]) (st' := [.int (am_gi h b38 (Int32.toNatClampNeg i1)), .int i1, .ref b35]) (h1 := h) am_q166 rfl rfl rfl (am_xx g40 g41) ?_
    obtain ⟨g42, g43, H⟩ := H
    refine ev_s (pc' := 1142) (loc' := [.ref a0, .int i1]) (st' := []) (h1 := am_si h b35 (Int32.toNatClampNeg i1) (am_gi h b38 (Int32.toNatClampNeg i1))) am_q166 rfl rfl rfl (am_xx g42 g43) ?_
    replace H := H _ rfl
    generalize am_si h b35 (Int32.toNatClampNeg i1) (am_gi h b38 (Int32.toNatClampNeg i1)) = h44 at H ⊢
    refine ev_p (pc' := 1121) (loc' := [.ref a0, .int (i1 + (1 : Int32))]) (st' := []) 2 am_q166 rfl ?_
    exact ev_m (loc' := [.ref a0, .int (i1 + (1 : Int32))]) am_q166 rfl rfl H
