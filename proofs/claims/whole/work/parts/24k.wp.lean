/-! 267: L_law -/
theorem am_q267 : (am_mt 267).2.2.2.2.2 = am_m267.2.2.2.2.2 := rfl
set_option maxRecDepth 20000 in
set_option maxHeartbeats 2000000 in
theorem wp267 {d : Nat} (a0 : Nat) {h : AH} {Q : Option Value → AH → Prop} (H : ∀ b2, b2 = am_sz h → ∀ h1, h1 = am_nw h 11 0 19 → am_kd h1 b2 = 11 ∧ Cl d 96 [.ref b2] h1 (fun r4 h3 => r4 = none ∧ ∀ b7, b7 = am_sz h3 → ∀ h6, h6 = am_nw h3 12 0 71 → am_kd h6 b7 = 12 ∧ Cl d 166 [.ref b7] h6 (fun r9 h8 => r9 = none ∧ Ev (d + 1) 267 18 [.ref a0, .ref b2, .ref b7, .int (0 : Int32)] [] h8 Q))) : Cl (d + 1) 267 [.ref a0] h Q := by
  show Ev (d + 1) 267 0 [.ref a0, .null, .null, .null] [] h Q
  refine ev_s (pc' := 3) (loc' := [.ref a0, .null, .null, .null]) (st' := [.ref (am_sz h)]) (h1 := am_nw h 11 0 19) am_q267 rfl rfl rfl (rfl) ?_
  replace H := H _ rfl _ rfl
  generalize am_nw h 11 0 19 = h1 at H ⊢
  generalize am_sz h = b2 at H ⊢
  refine ev_p (pc' := 4) (loc' := [.ref a0, .null, .null, .null]) (st' := [.ref b2, .ref b2]) 1 am_q267 rfl ?_
  obtain ⟨g5, H⟩ := H
  refine ev_c (vs := [.ref b2]) (rest := [.ref b2]) 96 am_q267 rfl rfl rfl rfl rfl rfl rfl rfl rfl rfl rfl rfl (Or.inr (congrArg some g5)) (Cl.mono H (Nat.le_refl _) (fun r4 h3 H => ?_))
  obtain ⟨rfl, H⟩ := H
  refine ev_p (pc' := 8) (loc' := [.ref a0, .ref b2, .null, .null]) (st' := []) 1 am_q267 rfl ?_
  refine ev_s (pc' := 11) (loc' := [.ref a0, .ref b2, .null, .null]) (st' := [.ref (am_sz h3)]) (h1 := am_nw h3 12 0 71) am_q267 rfl rfl rfl (rfl) ?_
  replace H := H _ rfl _ rfl
  generalize am_nw h3 12 0 71 = h6 at H ⊢
  generalize am_sz h3 = b7 at H ⊢
  refine ev_p (pc' := 12) (loc' := [.ref a0, .ref b2, .null, .null]) (st' := [.ref b7, .ref b7]) 1 am_q267 rfl ?_
  obtain ⟨g10, H⟩ := H
  refine ev_c (vs := [.ref b7]) (rest := [.ref b7]) 166 am_q267 rfl rfl rfl rfl rfl rfl rfl rfl rfl rfl rfl rfl (Or.inr (congrArg some g10)) (Cl.mono H (Nat.le_refl _) (fun r9 h8 H => ?_))
  obtain ⟨rfl, H⟩ := H
  refine ev_p (pc' := 18) (loc' := [.ref a0, .ref b2, .ref b7, .int (0 : Int32)]) (st' := []) 3 am_q267 rfl ?_
  exact ev_m (loc' := [.ref a0, .ref b2, .ref b7, .int (0 : Int32)]) am_q267 rfl rfl H
set_option maxRecDepth 20000 in
set_option maxHeartbeats 2000000 in
theorem wp267_18 {d : Nat} (a0 : Nat) (a1 : Nat) (a2 : Nat) (i3 : Int32) {h : AH} {Q : Option Value → AH → Prop} (H : (100 ≤ am_kd h a0 ∧ am_kd h a0 ≤ 109) ∧ (((Int32.ofNat (am_ln h a0)) - (5 : Int32)) < i3 → Q (some (.int (1 : Int32))) h) ∧ (¬ ((Int32.ofNat (am_ln h a0)) - (5 : Int32)) < i3 → am_kd h a0 = 100 ∧ am_in i3 (am_ln h a0) ∧ ((am_gi h a0 (Int32.toNatClampNeg i3)) &&& (63 : Int32) = (0 : Int32) → am_kd h a0 = 100 ∧ am_in (i3 + (1 : Int32)) (am_ln h a0) ∧ am_kd h a1 = 11 ∧ Cl d 97 [.ref a1, .int (am_gi h a0 (Int32.toNatClampNeg (i3 + (1 : Int32))))] h (fun r7 h6 => ∃ x9, r7 = some (.int x9) ∧ am_kd h6 a0 = 100 ∧ am_in (i3 + (1 : Int32)) (am_ln h6 a0) ∧ am_kd h6 a2 = 12 ∧ Cl d 176 [.ref a2, .int (am_gi h6 a0 (Int32.toNatClampNeg (i3 + (1 : Int32))))] h6 (fun r13 h12 => ∃ x15, r13 = some (.int x15) ∧ (x9 = x15 → Ev (d + 1) 267 1496 [.ref a0, .ref a1, .ref a2, .int i3] [] h12 Q) ∧ (¬ x9 = x15 → Q (some (.int (0 : Int32))) h12)))) ∧ ((am_gi h a0 (Int32.toNatClampNeg i3)) &&& (63 : Int32) = (1 : Int32) → am_kd h a0 = 100 ∧ am_in (i3 + (1 : Int32)) (am_ln h a0) ∧ am_kd h a0 = 100 ∧ am_in (i3 + (2 : Int32)) (am_ln h a0) ∧ am_kd h a0 = 100 ∧ am_in (i3 + (3 : Int32)) (am_ln h a0) ∧ am_kd h a1 = 11 ∧ Cl d 98 [.ref a1, .int (am_gi h a0 (Int32.toNatClampNeg (i3 + (1 : Int32)))), .int (am_gi h a0 (Int32.toNatClampNeg (i3 + (2 : Int32)))), .int (am_gi h a0 (Int32.toNatClampNeg (i3 + (3 : Int32))))] h (fun r24 h23 => ∃ x26, r24 = some (.int x26) ∧ am_kd h23 a0 = 100 ∧ am_in (i3 + (1 : Int32)) (am_ln h23 a0) ∧ am_kd h23 a0 = 100 ∧ am_in (i3 + (2 : Int32)) (am_ln h23 a0) ∧ am_kd h23 a0 = 100 ∧ am_in (i3 + (3 : Int32)) (am_ln h23 a0) ∧ am_kd h23 a2 = 12 ∧ Cl d 177 [.ref a2, .int (am_gi h23 a0 (Int32.toNatClampNeg (i3 + (1 : Int32)))), .int (am_gi h23 a0 (Int32.toNatClampNeg (i3 + (2 : Int32)))), .int (am_gi h23 a0 (Int32.toNatClampNeg (i3 + (3 : Int32))))] h23 (fun r34 h33 => ∃ x36, r34 = some (.int x36) ∧ (x26 = x36 → Ev (d + 1) 267 1496 [.ref a0, .ref a1, .ref a2, .int i3] [] h33 Q) ∧ (¬ x26 = x36 → Q (some (.int (0 : Int32))) h33)))) ∧ ((am_gi h a0 (Int32.toNatClampNeg i3)) &&& (63 : Int32) = (2 : Int32) → am_kd h a0 = 100 ∧ am_in (i3 + (1 : Int32)) (am_ln h a0) ∧ am_kd h a1 = 11 ∧ Cl d 99 [.ref a1, .int (am_gi h a0 (Int32.toNatClampNeg (i3 + (1 : Int32))))] h (fun r41 h40 => ∃ x43, r41 = some (.int x43) ∧ am_kd h40 a0 = 100 ∧ am_in (i3 + (1 : Int32)) (am_ln h40 a0) ∧ am_kd h40 a2 = 12 ∧ Cl d 178 [.ref a2, .int (am_gi h40 a0 (Int32.toNatClampNeg (i3 + (1 : Int32))))] h40 (fun r47 h46 => ∃ x49, r47 = some (.int x49) ∧ (x43 = x49 → Ev (d + 1) 267 1496 [.ref a0, .ref a1, .ref a2, .int i3] [] h46 Q) ∧ (¬ x43 = x49 → Q (some (.int (0 : Int32))) h46)))) ∧ ((am_gi h a0 (Int32.toNatClampNeg i3)) &&& (63 : Int32) = (3 : Int32) → am_kd h a0 = 100 ∧ am_in (i3 + (1 : Int32)) (am_ln h a0) ∧ am_kd h a0 = 100 ∧ am_in (i3 + (2 : Int32)) (am_ln h a0) ∧ am_kd h a1 = 11 ∧ Cl d 100 [.ref a1, .int (am_gi h a0 (Int32.toNatClampNeg (i3 + (1 : Int32)))), .int (am_gi h a0 (Int32.toNatClampNeg (i3 + (2 : Int32))))] h (fun r56 h55 => ∃ x58, r56 = some (.int x58) ∧ am_kd h55 a0 = 100 ∧ am_in (i3 + (1 : Int32)) (am_ln h55 a0) ∧ am_kd h55 a0 = 100 ∧ am_in (i3 + (2 : Int32)) (am_ln h55 a0) ∧ am_kd h55 a2 = 12 ∧ Cl d 179 [.ref a2, .int (am_gi h55 a0 (Int32.toNatClampNeg (i3 + (1 : Int32)))), .int (am_gi h55 a0 (Int32.toNatClampNeg (i3 + (2 : Int32))))] h55 (fun r64 h63 => ∃ x66, r64 = some (.int x66) ∧ (x58 = x66 → Ev (d + 1) 267 1496 [.ref a0, .ref a1, .ref a2, .int i3] [] h63 Q) ∧ (¬ x58 = x66 → Q (some (.int (0 : Int32))) h63)))) ∧ ((am_gi h a0 (Int32.toNatClampNeg i3)) &&& (63 : Int32) = (4 : Int32) → am_kd h a0 = 100 ∧ am_in (i3 + (1 : Int32)) (am_ln h a0) ∧ am_kd h a0 = 100 ∧ am_in (i3 + (2 : Int32)) (am_ln h a0) ∧ am_kd h a0 = 100 ∧ am_in (i3 + (3 : Int32)) (am_ln h a0) ∧ am_kd h a0 = 100 ∧ am_in (i3 + (4 : Int32)) (am_ln h a0) ∧ am_kd h a1 = 11 ∧ Cl d 101 [.ref a1, .int (am_gi h a0 (Int32.toNatClampNeg (i3 + (1 : Int32)))), .int (am_gi h a0 (Int32.toNatClampNeg (i3 + (2 : Int32)))), .int (am_gi h a0 (Int32.toNatClampNeg (i3 + (3 : Int32)))), .int (am_gi h a0 (Int32.toNatClampNeg (i3 + (4 : Int32))))] h (fun r77 h76 => ∃ x79, r77 = some (.int x79) ∧ am_kd h76 a0 = 100 ∧ am_in (i3 + (1 : Int32)) (am_ln h76 a0) ∧ am_kd h76 a0 = 100 ∧ am_in (i3 + (2 : Int32)) (am_ln h76 a0) ∧ am_kd h76 a0 = 100 ∧ am_in (i3 + (3 : Int32)) (am_ln h76 a0) ∧ am_kd h76 a0 = 100 ∧ am_in (i3 + (4 : Int32)) (am_ln h76 a0) ∧ am_kd h76 a2 = 12 ∧ Cl d 180 [.ref a2, .int (am_gi h76 a0 (Int32.toNatClampNeg (i3 + (1 : Int32)))), .int (am_gi h76 a0 (Int32.toNatClampNeg (i3 + (2 : Int32)))), .int (am_gi h76 a0 (Int32.toNatClampNeg (i3 + (3 : Int32)))), .int (am_gi h76 a0 (Int32.toNatClampNeg (i3 + (4 : Int32))))] h76 (fun r89 h88 => ∃ x91, r89 = some (.int x91) ∧ (x79 = x91 → Ev (d + 1) 267 1496 [.ref a0, .ref a1, .ref a2, .int i3] [] h88 Q) ∧ (¬ x79 = x91 → Q (some (.int (0 : Int32))) h88)))) ∧ ((am_gi h a0 (Int32.toNatClampNeg i3)) &&& (63 : Int32) = (5 : Int32) → am_kd h a0 = 100 ∧ am_in (i3 + (1 : Int32)) (am_ln h a0) ∧ am_kd h a0 = 100 ∧ am_in (i3 + (2 : Int32)) (am_ln h a0) ∧ am_kd h a1 = 11 ∧ Cl d 102 [.ref a1, .int (am_gi h a0 (Int32.toNatClampNeg (i3 + (1 : Int32)))), .int (am_gi h a0 (Int32.toNatClampNeg (i3 + (2 : Int32))))] h (fun r98 h97 => ∃ x100, r98 = some (.int x100) ∧ am_kd h97 a0 = 100 ∧ am_in (i3 + (1 : Int32)) (am_ln h97 a0) ∧ am_kd h97 a0 = 100 ∧ am_in (i3 + (2 : Int32)) (am_ln h97 a0) ∧ am_kd h97 a2 = 12 ∧ Cl d 182 [.ref a2, .int (am_gi h97 a0 (Int32.toNatClampNeg (i3 + (1 : Int32)))), .int (am_gi h97 a0 (Int32.toNatClampNeg (i3 + (2 : Int32))))] h97 (fun r106 h105 => ∃ x108, r106 = some (.int x108) ∧ (x100 = x108 → Ev (d + 1) 267 1496 [.ref a0, .ref a1, .ref a2, .int i3] [] h105 Q) ∧ (¬ x100 = x108 → Q (some (.int (0 : Int32))) h105)))) ∧ ((am_gi h a0 (Int32.toNatClampNeg i3)) &&& (63 : Int32) = (6 : Int32) → am_kd h a0 = 100 ∧ am_in (i3 + (1 : Int32)) (am_ln h a0) ∧ am_kd h a1 = 11 ∧ Cl d 103 [.ref a1, .int (am_gi h a0 (Int32.toNatClampNeg (i3 + (1 : Int32))))] h (fun r113 h112 => ∃ x115, r113 = some (.int x115) ∧ am_kd h112 a0 = 100 ∧ am_in (i3 + (1 : Int32)) (am_ln h112 a0) ∧ am_kd h112 a2 = 12 ∧ Cl d 183 [.ref a2, .int (am_gi h112 a0 (Int32.toNatClampNeg (i3 + (1 : Int32))))] h112 (fun r119 h118 => ∃ x121, r119 = some (.int x121) ∧ (x115 = x121 → Ev (d + 1) 267 1496 [.ref a0, .ref a1, .ref a2, .int i3] [] h118 Q) ∧ (¬ x115 = x121 → Q (some (.int (0 : Int32))) h118)))) ∧ ((am_gi h a0 (Int32.toNatClampNeg i3)) &&& (63 : Int32) = (7 : Int32) → am_kd h a0 = 100 ∧ am_in (i3 + (1 : Int32)) (am_ln h a0) ∧ am_kd h a1 = 11 ∧ Cl d 104 [.ref a1, .int (am_gi h a0 (Int32.toNatClampNeg (i3 + (1 : Int32))))] h (fun r126 h125 => ∃ x128, r126 = some (.int x128) ∧ am_kd h125 a0 = 100 ∧ am_in (i3 + (1 : Int32)) (am_ln h125 a0) ∧ am_kd h125 a2 = 12 ∧ Cl d 186 [.ref a2, .int (am_gi h125 a0 (Int32.toNatClampNeg (i3 + (1 : Int32))))] h125 (fun r132 h131 => ∃ x134, r132 = some (.int x134) ∧ (x128 = x134 → Ev (d + 1) 267 1496 [.ref a0, .ref a1, .ref a2, .int i3] [] h131 Q) ∧ (¬ x128 = x134 → Q (some (.int (0 : Int32))) h131)))) ∧ ((am_gi h a0 (Int32.toNatClampNeg i3)) &&& (63 : Int32) = (8 : Int32) → am_kd h a0 = 100 ∧ am_in (i3 + (1 : Int32)) (am_ln h a0) ∧ am_kd h a0 = 100 ∧ am_in (i3 + (2 : Int32)) (am_ln h a0) ∧ am_kd h a1 = 11 ∧ Cl d 105 [.ref a1, .int (am_gi h a0 (Int32.toNatClampNeg (i3 + (1 : Int32)))), .int (am_gi h a0 (Int32.toNatClampNeg (i3 + (2 : Int32))))] h (fun r141 h140 => ∃ x143, r141 = some (.int x143) ∧ am_kd h140 a0 = 100 ∧ am_in (i3 + (1 : Int32)) (am_ln h140 a0) ∧ am_kd h140 a0 = 100 ∧ am_in (i3 + (2 : Int32)) (am_ln h140 a0) ∧ am_kd h140 a2 = 12 ∧ Cl d 187 [.ref a2, .int (am_gi h140 a0 (Int32.toNatClampNeg (i3 + (1 : Int32)))), .int (am_gi h140 a0 (Int32.toNatClampNeg (i3 + (2 : Int32))))] h140 (fun r149 h148 => ∃ x151, r149 = some (.int x151) ∧ (x143 = x151 → Ev (d + 1) 267 1496 [.ref a0, .ref a1, .ref a2, .int i3] [] h148 Q) ∧ (¬ x143 = x151 → Q (some (.int (0 : Int32))) h148)))) ∧ ((am_gi h a0 (Int32.toNatClampNeg i3)) &&& (63 : Int32) = (9 : Int32) → am_kd h a0 = 100 ∧ am_in (i3 + (1 : Int32)) (am_ln h a0) ∧ am_kd h a0 = 100 ∧ am_in (i3 + (2 : Int32)) (am_ln h a0) ∧ am_kd h a0 = 100 ∧ am_in (i3 + (3 : Int32)) (am_ln h a0) ∧ am_kd h a1 = 11 ∧ Cl d 106 [.ref a1, .int (am_gi h a0 (Int32.toNatClampNeg (i3 + (1 : Int32)))), .int (am_gi h a0 (Int32.toNatClampNeg (i3 + (2 : Int32)))), .int (am_gi h a0 (Int32.toNatClampNeg (i3 + (3 : Int32))))] h (fun r160 h159 => ∃ x162, r160 = some (.int x162) ∧ am_kd h159 a0 = 100 ∧ am_in (i3 + (1 : Int32)) (am_ln h159 a0) ∧ am_kd h159 a0 = 100 ∧ am_in (i3 + (2 : Int32)) (am_ln h159 a0) ∧ am_kd h159 a0 = 100 ∧ am_in (i3 + (3 : Int32)) (am_ln h159 a0) ∧ am_kd h159 a2 = 12 ∧ Cl d 188 [.ref a2, .int (am_gi h159 a0 (Int32.toNatClampNeg (i3 + (1 : Int32)))), .int (am_gi h159 a0 (Int32.toNatClampNeg (i3 + (2 : Int32)))), .int (am_gi h159 a0 (Int32.toNatClampNeg (i3 + (3 : Int32))))] h159 (fun r170 h169 => ∃ x172, r170 = some (.int x172) ∧ (x162 = x172 → Ev (d + 1) 267 1496 [.ref a0, .ref a1, .ref a2, .int i3] [] h169 Q) ∧ (¬ x162 = x172 → Q (some (.int (0 : Int32))) h169)))) ∧ ((am_gi h a0 (Int32.toNatClampNeg i3)) &&& (63 : Int32) = (10 : Int32) → am_kd h a0 = 100 ∧ am_in (i3 + (1 : Int32)) (am_ln h a0) ∧ am_kd h a0 = 100 ∧ am_in (i3 + (2 : Int32)) (am_ln h a0) ∧ am_kd h a1 = 11 ∧ Cl d 107 [.ref a1, .int (am_gi h a0 (Int32.toNatClampNeg (i3 + (1 : Int32)))), .int (am_gi h a0 (Int32.toNatClampNeg (i3 + (2 : Int32))))] h (fun r179 h178 => ∃ x181, r179 = some (.int x181) ∧ am_kd h178 a0 = 100 ∧ am_in (i3 + (1 : Int32)) (am_ln h178 a0) ∧ am_kd h178 a0 = 100 ∧ am_in (i3 + (2 : Int32)) (am_ln h178 a0) ∧ am_kd h178 a2 = 12 ∧ Cl d 189 [.ref a2, .int (am_gi h178 a0 (Int32.toNatClampNeg (i3 + (1 : Int32)))), .int (am_gi h178 a0 (Int32.toNatClampNeg (i3 + (2 : Int32))))] h178 (fun r187 h186 => ∃ x189, r187 = some (.int x189) ∧ (x181 = x189 → Ev (d + 1) 267 1496 [.ref a0, .ref a1, .ref a2, .int i3] [] h186 Q) ∧ (¬ x181 = x189 → Q (some (.int (0 : Int32))) h186)))) ∧ ((am_gi h a0 (Int32.toNatClampNeg i3)) &&& (63 : Int32) = (11 : Int32) → am_kd h a0 = 100 ∧ am_in (i3 + (1 : Int32)) (am_ln h a0) ∧ am_kd h a0 = 100 ∧ am_in (i3 + (2 : Int32)) (am_ln h a0) ∧ am_kd h a1 = 11 ∧ Cl d 108 [.ref a1, .int (am_gi h a0 (Int32.toNatClampNeg (i3 + (1 : Int32)))), .int (am_gi h a0 (Int32.toNatClampNeg (i3 + (2 : Int32))))] h (fun r196 h195 => ∃ x198, r196 = some (.int x198) ∧ am_kd h195 a0 = 100 ∧ am_in (i3 + (1 : Int32)) (am_ln h195 a0) ∧ am_kd h195 a0 = 100 ∧ am_in (i3 + (2 : Int32)) (am_ln h195 a0) ∧ am_kd h195 a2 = 12 ∧ Cl d 191 [.ref a2, .int (am_gi h195 a0 (Int32.toNatClampNeg (i3 + (1 : Int32)))), .int (am_gi h195 a0 (Int32.toNatClampNeg (i3 + (2 : Int32))))] h195 (fun r204 h203 => ∃ x206, r204 = some (.int x206) ∧ (x198 = x206 → Ev (d + 1) 267 1496 [.ref a0, .ref a1, .ref a2, .int i3] [] h203 Q) ∧ (¬ x198 = x206 → Q (some (.int (0 : Int32))) h203)))) ∧ ((am_gi h a0 (Int32.toNatClampNeg i3)) &&& (63 : Int32) = (12 : Int32) → am_kd h a0 = 100 ∧ am_in (i3 + (1 : Int32)) (am_ln h a0) ∧ am_kd h a0 = 100 ∧ am_in (i3 + (2 : Int32)) (am_ln h a0) ∧ am_kd h a0 = 100 ∧ am_in (i3 + (3 : Int32)) (am_ln h a0) ∧ am_kd h a1 = 11 ∧ Cl d 109 [.ref a1, .int (am_gi h a0 (Int32.toNatClampNeg (i3 + (1 : Int32)))), .long (((Int32.toInt64 (am_gi h a0 (Int32.toNatClampNeg (i3 + (2 : Int32))))) <<< (Int32.toInt64 (32 : Int32) &&& 63)) ||| ((Int32.toInt64 (am_gi h a0 (Int32.toNatClampNeg (i3 + (3 : Int32))))) &&& (4294967295 : Int64)))] h (fun r215 h214 => ∃ x217, r215 = some (.int x217) ∧ am_kd h214 a0 = 100 ∧ am_in (i3 + (1 : Int32)) (am_ln h214 a0) ∧ am_kd h214 a0 = 100 ∧ am_in (i3 + (2 : Int32)) (am_ln h214 a0) ∧ am_kd h214 a0 = 100 ∧ am_in (i3 + (3 : Int32)) (am_ln h214 a0) ∧ am_kd h214 a2 = 12 ∧ Cl d 216 [.ref a2, .int (am_gi h214 a0 (Int32.toNatClampNeg (i3 + (1 : Int32)))), .long (((Int32.toInt64 (am_gi h214 a0 (Int32.toNatClampNeg (i3 + (2 : Int32))))) <<< (Int32.toInt64 (32 : Int32) &&& 63)) ||| ((Int32.toInt64 (am_gi h214 a0 (Int32.toNatClampNeg (i3 + (3 : Int32))))) &&& (4294967295 : Int64)))] h214 (fun r225 h224 => ∃ x227, r225 = some (.int x227) ∧ (x217 = x227 → Ev (d + 1) 267 1496 [.ref a0, .ref a1, .ref a2, .int i3] [] h224 Q) ∧ (¬ x217 = x227 → Q (some (.int (0 : Int32))) h224)))) ∧ ((am_gi h a0 (Int32.toNatClampNeg i3)) &&& (63 : Int32) = (13 : Int32) → am_kd h a1 = 11 ∧ Cl d 110 [.ref a1] h (fun r230 h229 => ∃ x232, r230 = some (.int x232) ∧ am_kd h229 a2 = 12 ∧ Cl d 217 [.ref a2] h229 (fun r234 h233 => ∃ x236, r234 = some (.int x236) ∧ (x232 = x236 → Ev (d + 1) 267 1496 [.ref a0, .ref a1, .ref a2, .int i3] [] h233 Q) ∧ (¬ x232 = x236 → Q (some (.int (0 : Int32))) h233)))) ∧ ((am_gi h a0 (Int32.toNatClampNeg i3)) &&& (63 : Int32) = (14 : Int32) → am_kd h a0 = 100 ∧ am_in (i3 + (1 : Int32)) (am_ln h a0) ∧ am_kd h a1 = 11 ∧ Cl d 111 [.ref a1, .int (am_gi h a0 (Int32.toNatClampNeg (i3 + (1 : Int32))))] h (fun r241 h240 => ∃ x243, r241 = some (.int x243) ∧ am_kd h240 a0 = 100 ∧ am_in (i3 + (1 : Int32)) (am_ln h240 a0) ∧ am_kd h240 a2 = 12 ∧ Cl d 218 [.ref a2, .int (am_gi h240 a0 (Int32.toNatClampNeg (i3 + (1 : Int32))))] h240 (fun r247 h246 => ∃ x249, r247 = some (.int x249) ∧ (x243 = x249 → Ev (d + 1) 267 1496 [.ref a0, .ref a1, .ref a2, .int i3] [] h246 Q) ∧ (¬ x243 = x249 → Q (some (.int (0 : Int32))) h246)))) ∧ ((am_gi h a0 (Int32.toNatClampNeg i3)) &&& (63 : Int32) = (15 : Int32) → am_kd h a0 = 100 ∧ am_in (i3 + (1 : Int32)) (am_ln h a0) ∧ am_kd h a0 = 100 ∧ am_in (i3 + (2 : Int32)) (am_ln h a0) ∧ am_kd h a0 = 100 ∧ am_in (i3 + (3 : Int32)) (am_ln h a0) ∧ ((am_gi h a0 (Int32.toNatClampNeg (i3 + (3 : Int32)))) = (0 : Int32) → Ev (d + 1) 267 731 [.ref a0, .ref a1, .ref a2, .int i3] [.int (0 : Int32), .int (am_gi h a0 (Int32.toNatClampNeg (i3 + (2 : Int32)))), .int (am_gi h a0 (Int32.toNatClampNeg (i3 + (1 : Int32)))), .ref a1] h Q) ∧ (¬ (am_gi h a0 (Int32.toNatClampNeg (i3 + (3 : Int32)))) = (0 : Int32) → Ev (d + 1) 267 731 [.ref a0, .ref a1, .ref a2, .int i3] [.int (1 : Int32), .int (am_gi h a0 (Int32.toNatClampNeg (i3 + (2 : Int32)))), .int (am_gi h a0 (Int32.toNatClampNeg (i3 + (1 : Int32)))), .ref a1] h Q)) ∧ ((am_gi h a0 (Int32.toNatClampNeg i3)) &&& (63 : Int32) = (16 : Int32) → am_kd h a0 = 100 ∧ am_in (i3 + (1 : Int32)) (am_ln h a0) ∧ am_kd h a0 = 100 ∧ am_in (i3 + (2 : Int32)) (am_ln h a0) ∧ am_kd h a1 = 11 ∧ Cl d 113 [.ref a1, .int (am_gi h a0 (Int32.toNatClampNeg (i3 + (1 : Int32)))), .int (am_gi h a0 (Int32.toNatClampNeg (i3 + (2 : Int32))))] h (fun r263 h262 => ∃ x265, r263 = some (.int x265) ∧ am_kd h262 a0 = 100 ∧ am_in (i3 + (1 : Int32)) (am_ln h262 a0) ∧ am_kd h262 a0 = 100 ∧ am_in (i3 + (2 : Int32)) (am_ln h262 a0) ∧ am_kd h262 a2 = 12 ∧ Cl d 221 [.ref a2, .int (am_gi h262 a0 (Int32.toNatClampNeg (i3 + (1 : Int32)))), .int (am_gi h262 a0 (Int32.toNatClampNeg (i3 + (2 : Int32))))] h262 (fun r271 h270 => ∃ x273, r271 = some (.int x273) ∧ (x265 = x273 → Ev (d + 1) 267 1496 [.ref a0, .ref a1, .ref a2, .int i3] [] h270 Q) ∧ (¬ x265 = x273 → Q (some (.int (0 : Int32))) h270)))) ∧ ((am_gi h a0 (Int32.toNatClampNeg i3)) &&& (63 : Int32) = (17 : Int32) → am_kd h a0 = 100 ∧ am_in (i3 + (1 : Int32)) (am_ln h a0) ∧ am_kd h a1 = 11 ∧ Cl d 114 [.ref a1, .int (am_gi h a0 (Int32.toNatClampNeg (i3 + (1 : Int32))))] h (fun r278 h277 => ∃ x280, r278 = some (.int x280) ∧ am_kd h277 a0 = 100 ∧ am_in (i3 + (1 : Int32)) (am_ln h277 a0) ∧ am_kd h277 a2 = 12 ∧ Cl d 222 [.ref a2, .int (am_gi h277 a0 (Int32.toNatClampNeg (i3 + (1 : Int32))))] h277 (fun r284 h283 => ∃ x286, r284 = some (.int x286) ∧ (x280 = x286 → Ev (d + 1) 267 1496 [.ref a0, .ref a1, .ref a2, .int i3] [] h283 Q) ∧ (¬ x280 = x286 → Q (some (.int (0 : Int32))) h283)))) ∧ ((am_gi h a0 (Int32.toNatClampNeg i3)) &&& (63 : Int32) = (18 : Int32) → am_kd h a0 = 100 ∧ am_in (i3 + (1 : Int32)) (am_ln h a0) ∧ am_kd h a0 = 100 ∧ am_in (i3 + (2 : Int32)) (am_ln h a0) ∧ am_kd h a1 = 11 ∧ Cl d 115 [.ref a1, .int (am_gi h a0 (Int32.toNatClampNeg (i3 + (1 : Int32)))), .int (am_gi h a0 (Int32.toNatClampNeg (i3 + (2 : Int32))))] h (fun r293 h292 => ∃ x295, r293 = some (.int x295) ∧ am_kd h292 a0 = 100 ∧ am_in (i3 + (1 : Int32)) (am_ln h292 a0) ∧ am_kd h292 a0 = 100 ∧ am_in (i3 + (2 : Int32)) (am_ln h292 a0) ∧ am_kd h292 a2 = 12 ∧ Cl d 223 [.ref a2, .int (am_gi h292 a0 (Int32.toNatClampNeg (i3 + (1 : Int32)))), .int (am_gi h292 a0 (Int32.toNatClampNeg (i3 + (2 : Int32))))] h292 (fun r301 h300 => ∃ x303, r301 = some (.int x303) ∧ (x295 = x303 → Ev (d + 1) 267 1496 [.ref a0, .ref a1, .ref a2, .int i3] [] h300 Q) ∧ (¬ x295 = x303 → Q (some (.int (0 : Int32))) h300)))) ∧ ((am_gi h a0 (Int32.toNatClampNeg i3)) &&& (63 : Int32) = (19 : Int32) → am_kd h a0 = 100 ∧ am_in (i3 + (1 : Int32)) (am_ln h a0) ∧ am_kd h a1 = 11 ∧ Cl d 116 [.ref a1, .int (am_gi h a0 (Int32.toNatClampNeg (i3 + (1 : Int32))))] h (fun r308 h307 => ∃ x310, r308 = some (.int x310) ∧ am_kd h307 a0 = 100 ∧ am_in (i3 + (1 : Int32)) (am_ln h307 a0) ∧ am_kd h307 a2 = 12 ∧ Cl d 224 [.ref a2, .int (am_gi h307 a0 (Int32.toNatClampNeg (i3 + (1 : Int32))))] h307 (fun r314 h313 => ∃ x316, r314 = some (.int x316) ∧ (x310 = x316 → Ev (d + 1) 267 1496 [.ref a0, .ref a1, .ref a2, .int i3] [] h313 Q) ∧ (¬ x310 = x316 → Q (some (.int (0 : Int32))) h313)))) ∧ ((am_gi h a0 (Int32.toNatClampNeg i3)) &&& (63 : Int32) = (20 : Int32) → am_kd h a0 = 100 ∧ am_in (i3 + (1 : Int32)) (am_ln h a0) ∧ am_kd h a1 = 11 ∧ Cl d 117 [.ref a1, .int (am_gi h a0 (Int32.toNatClampNeg (i3 + (1 : Int32))))] h (fun r321 h320 => ∃ x323, r321 = some (.int x323) ∧ am_kd h320 a0 = 100 ∧ am_in (i3 + (1 : Int32)) (am_ln h320 a0) ∧ am_kd h320 a2 = 12 ∧ Cl d 225 [.ref a2, .int (am_gi h320 a0 (Int32.toNatClampNeg (i3 + (1 : Int32))))] h320 (fun r327 h326 => ∃ x329, r327 = some (.int x329) ∧ (x323 = x329 → Ev (d + 1) 267 1496 [.ref a0, .ref a1, .ref a2, .int i3] [] h326 Q) ∧ (¬ x323 = x329 → Q (some (.int (0 : Int32))) h326)))) ∧ ((am_gi h a0 (Int32.toNatClampNeg i3)) &&& (63 : Int32) = (21 : Int32) → am_kd h a0 = 100 ∧ am_in (i3 + (1 : Int32)) (am_ln h a0) ∧ am_kd h a0 = 100 ∧ am_in (i3 + (2 : Int32)) (am_ln h a0) ∧ am_kd h a0 = 100 ∧ am_in (i3 + (3 : Int32)) (am_ln h a0) ∧ am_kd h a1 = 11 ∧ Cl d 118 [.ref a1, .int (am_gi h a0 (Int32.toNatClampNeg (i3 + (1 : Int32)))), .int (am_gi h a0 (Int32.toNatClampNeg (i3 + (2 : Int32)))), .int (am_gi h a0 (Int32.toNatClampNeg (i3 + (3 : Int32))))] h (fun r338 h337 => ∃ y340, r338 = some (.long y340) ∧ am_kd h337 a0 = 100 ∧ am_in (i3 + (1 : Int32)) (am_ln h337 a0) ∧ am_kd h337 a0 = 100 ∧ am_in (i3 + (2 : Int32)) (am_ln h337 a0) ∧ am_kd h337 a0 = 100 ∧ am_in (i3 + (3 : Int32)) (am_ln h337 a0) ∧ am_kd h337 a2 = 12 ∧ Cl d 226 [.ref a2, .int (am_gi h337 a0 (Int32.toNatClampNeg (i3 + (1 : Int32)))), .int (am_gi h337 a0 (Int32.toNatClampNeg (i3 + (2 : Int32)))), .int (am_gi h337 a0 (Int32.toNatClampNeg (i3 + (3 : Int32))))] h337 (fun r348 h347 => ∃ y350, r348 = some (.long y350) ∧ ((lg_cmp y340 y350) = (0 : Int32) → Ev (d + 1) 267 1496 [.ref a0, .ref a1, .ref a2, .int i3] [] h347 Q) ∧ (¬ (lg_cmp y340 y350) = (0 : Int32) → Q (some (.int (0 : Int32))) h347)))) ∧ ((am_gi h a0 (Int32.toNatClampNeg i3)) &&& (63 : Int32) = (22 : Int32) → am_kd h a0 = 100 ∧ am_in (i3 + (1 : Int32)) (am_ln h a0) ∧ am_kd h a0 = 100 ∧ am_in (i3 + (2 : Int32)) (am_ln h a0) ∧ am_kd h a1 = 11 ∧ Cl d 119 [.ref a1, .int (am_gi h a0 (Int32.toNatClampNeg (i3 + (1 : Int32)))), .int (am_gi h a0 (Int32.toNatClampNeg (i3 + (2 : Int32))))] h (fun r357 h356 => ∃ x359, r357 = some (.int x359) ∧ am_kd h356 a0 = 100 ∧ am_in (i3 + (1 : Int32)) (am_ln h356 a0) ∧ am_kd h356 a0 = 100 ∧ am_in (i3 + (2 : Int32)) (am_ln h356 a0) ∧ am_kd h356 a2 = 12 ∧ Cl d 230 [.ref a2, .int (am_gi h356 a0 (Int32.toNatClampNeg (i3 + (1 : Int32)))), .int (am_gi h356 a0 (Int32.toNatClampNeg (i3 + (2 : Int32))))] h356 (fun r365 h364 => ∃ x367, r365 = some (.int x367) ∧ (x359 = x367 → Ev (d + 1) 267 1496 [.ref a0, .ref a1, .ref a2, .int i3] [] h364 Q) ∧ (¬ x359 = x367 → Q (some (.int (0 : Int32))) h364)))) ∧ ((am_gi h a0 (Int32.toNatClampNeg i3)) &&& (63 : Int32) = (23 : Int32) → am_kd h a0 = 100 ∧ am_in (i3 + (1 : Int32)) (am_ln h a0) ∧ am_kd h a1 = 11 ∧ Cl d 120 [.ref a1, .int (am_gi h a0 (Int32.toNatClampNeg (i3 + (1 : Int32))))] h (fun r372 h371 => ∃ x374, r372 = some (.int x374) ∧ am_kd h371 a0 = 100 ∧ am_in (i3 + (1 : Int32)) (am_ln h371 a0) ∧ am_kd h371 a2 = 12 ∧ Cl d 232 [.ref a2, .int (am_gi h371 a0 (Int32.toNatClampNeg (i3 + (1 : Int32))))] h371 (fun r378 h377 => ∃ x380, r378 = some (.int x380) ∧ (x374 = x380 → Ev (d + 1) 267 1496 [.ref a0, .ref a1, .ref a2, .int i3] [] h377 Q) ∧ (¬ x374 = x380 → Q (some (.int (0 : Int32))) h377)))) ∧ ((am_gi h a0 (Int32.toNatClampNeg i3)) &&& (63 : Int32) = (24 : Int32) → am_kd h a0 = 100 ∧ am_in (i3 + (1 : Int32)) (am_ln h a0) ∧ am_kd h a0 = 100 ∧ am_in (i3 + (2 : Int32)) (am_ln h a0) ∧ ((am_gi h a0 (Int32.toNatClampNeg (i3 + (2 : Int32)))) = (0 : Int32) → Ev (d + 1) 267 1020 [.ref a0, .ref a1, .ref a2, .int i3] [.int (0 : Int32), .int (am_gi h a0 (Int32.toNatClampNeg (i3 + (1 : Int32)))), .ref a1] h Q) ∧ (¬ (am_gi h a0 (Int32.toNatClampNeg (i3 + (2 : Int32)))) = (0 : Int32) → Ev (d + 1) 267 1020 [.ref a0, .ref a1, .ref a2, .int i3] [.int (1 : Int32), .int (am_gi h a0 (Int32.toNatClampNeg (i3 + (1 : Int32)))), .ref a1] h Q)) ∧ ((am_gi h a0 (Int32.toNatClampNeg i3)) &&& (63 : Int32) = (25 : Int32) → am_kd h a0 = 100 ∧ am_in (i3 + (1 : Int32)) (am_ln h a0) ∧ am_kd h a1 = 11 ∧ Cl d 122 [.ref a1, .int (am_gi h a0 (Int32.toNatClampNeg (i3 + (1 : Int32))))] h (fun r390 h389 => ∃ x392, r390 = some (.int x392) ∧ am_kd h389 a0 = 100 ∧ am_in (i3 + (1 : Int32)) (am_ln h389 a0) ∧ am_kd h389 a2 = 12 ∧ Cl d 234 [.ref a2, .int (am_gi h389 a0 (Int32.toNatClampNeg (i3 + (1 : Int32))))] h389 (fun r396 h395 => ∃ x398, r396 = some (.int x398) ∧ (x392 = x398 → Ev (d + 1) 267 1496 [.ref a0, .ref a1, .ref a2, .int i3] [] h395 Q) ∧ (¬ x392 = x398 → Q (some (.int (0 : Int32))) h395)))) ∧ ((am_gi h a0 (Int32.toNatClampNeg i3)) &&& (63 : Int32) = (26 : Int32) → am_kd h a0 = 100 ∧ am_in (i3 + (1 : Int32)) (am_ln h a0) ∧ am_kd h a0 = 100 ∧ am_in (i3 + (2 : Int32)) (am_ln h a0) ∧ am_kd h a0 = 100 ∧ am_in (i3 + (3 : Int32)) (am_ln h a0) ∧ ((am_gi h a0 (Int32.toNatClampNeg (i3 + (3 : Int32)))) = (0 : Int32) → Ev (d + 1) 267 1097 [.ref a0, .ref a1, .ref a2, .int i3] [.int (0 : Int32), .int (am_gi h a0 (Int32.toNatClampNeg (i3 + (2 : Int32)))), .int (am_gi h a0 (Int32.toNatClampNeg (i3 + (1 : Int32)))), .ref a1] h Q) ∧ (¬ (am_gi h a0 (Int32.toNatClampNeg (i3 + (3 : Int32)))) = (0 : Int32) → Ev (d + 1) 267 1097 [.ref a0, .ref a1, .ref a2, .int i3] [.int (1 : Int32), .int (am_gi h a0 (Int32.toNatClampNeg (i3 + (2 : Int32)))), .int (am_gi h a0 (Int32.toNatClampNeg (i3 + (1 : Int32)))), .ref a1] h Q)) ∧ ((am_gi h a0 (Int32.toNatClampNeg i3)) &&& (63 : Int32) = (27 : Int32) → am_kd h a1 = 11 ∧ Cl d 124 [.ref a1] h (fun r408 h407 => ∃ x410, r408 = some (.int x410) ∧ am_kd h407 a2 = 12 ∧ Cl d 241 [.ref a2] h407 (fun r412 h411 => ∃ x414, r412 = some (.int x414) ∧ (x410 = x414 → Ev (d + 1) 267 1496 [.ref a0, .ref a1, .ref a2, .int i3] [] h411 Q) ∧ (¬ x410 = x414 → Q (some (.int (0 : Int32))) h411)))) ∧ ((am_gi h a0 (Int32.toNatClampNeg i3)) &&& (63 : Int32) = (28 : Int32) → am_kd h a0 = 100 ∧ am_in (i3 + (1 : Int32)) (am_ln h a0) ∧ am_kd h a1 = 11 ∧ Cl d 125 [.ref a1, .int (am_gi h a0 (Int32.toNatClampNeg (i3 + (1 : Int32))))] h (fun r419 h418 => ∃ x421, r419 = some (.int x421) ∧ am_kd h418 a0 = 100 ∧ am_in (i3 + (1 : Int32)) (am_ln h418 a0) ∧ am_kd h418 a2 = 12 ∧ Cl d 242 [.ref a2, .int (am_gi h418 a0 (Int32.toNatClampNeg (i3 + (1 : Int32))))] h418 (fun r425 h424 => ∃ x427, r425 = some (.int x427) ∧ (x421 = x427 → Ev (d + 1) 267 1496 [.ref a0, .ref a1, .ref a2, .int i3] [] h424 Q) ∧ (¬ x421 = x427 → Q (some (.int (0 : Int32))) h424)))) ∧ ((am_gi h a0 (Int32.toNatClampNeg i3)) &&& (63 : Int32) = (29 : Int32) → am_kd h a1 = 11 ∧ Cl d 126 [.ref a1] h (fun r430 h429 => ∃ x432, r430 = some (.int x432) ∧ am_kd h429 a2 = 12 ∧ Cl d 243 [.ref a2] h429 (fun r434 h433 => ∃ x436, r434 = some (.int x436) ∧ (x432 = x436 → Ev (d + 1) 267 1496 [.ref a0, .ref a1, .ref a2, .int i3] [] h433 Q) ∧ (¬ x432 = x436 → Q (some (.int (0 : Int32))) h433)))) ∧ ((am_gi h a0 (Int32.toNatClampNeg i3)) &&& (63 : Int32) = (30 : Int32) → am_kd h a0 = 100 ∧ am_in (i3 + (1 : Int32)) (am_ln h a0) ∧ am_kd h a1 = 11 ∧ Cl d 127 [.ref a1, .int (am_gi h a0 (Int32.toNatClampNeg (i3 + (1 : Int32))))] h (fun r441 h440 => ∃ x443, r441 = some (.int x443) ∧ am_kd h440 a0 = 100 ∧ am_in (i3 + (1 : Int32)) (am_ln h440 a0) ∧ am_kd h440 a2 = 12 ∧ Cl d 244 [.ref a2, .int (am_gi h440 a0 (Int32.toNatClampNeg (i3 + (1 : Int32))))] h440 (fun r447 h446 => ∃ x449, r447 = some (.int x449) ∧ (x443 = x449 → Ev (d + 1) 267 1496 [.ref a0, .ref a1, .ref a2, .int i3] [] h446 Q) ∧ (¬ x443 = x449 → Q (some (.int (0 : Int32))) h446)))) ∧ ((am_gi h a0 (Int32.toNatClampNeg i3)) &&& (63 : Int32) = (31 : Int32) → am_kd h a0 = 100 ∧ am_in (i3 + (1 : Int32)) (am_ln h a0) ∧ am_kd h a0 = 100 ∧ am_in (i3 + (2 : Int32)) (am_ln h a0) ∧ am_kd h a1 = 11 ∧ Cl d 128 [.ref a1, .int (am_gi h a0 (Int32.toNatClampNeg (i3 + (1 : Int32)))), .int (am_gi h a0 (Int32.toNatClampNeg (i3 + (2 : Int32))))] h (fun r456 h455 => ∃ x458, r456 = some (.int x458) ∧ am_kd h455 a0 = 100 ∧ am_in (i3 + (1 : Int32)) (am_ln h455 a0) ∧ am_kd h455 a0 = 100 ∧ am_in (i3 + (2 : Int32)) (am_ln h455 a0) ∧ am_kd h455 a2 = 12 ∧ Cl d 245 [.ref a2, .int (am_gi h455 a0 (Int32.toNatClampNeg (i3 + (1 : Int32)))), .int (am_gi h455 a0 (Int32.toNatClampNeg (i3 + (2 : Int32))))] h455 (fun r464 h463 => ∃ x466, r464 = some (.int x466) ∧ (x458 = x466 → Ev (d + 1) 267 1496 [.ref a0, .ref a1, .ref a2, .int i3] [] h463 Q) ∧ (¬ x458 = x466 → Q (some (.int (0 : Int32))) h463)))) ∧ ((am_gi h a0 (Int32.toNatClampNeg i3)) &&& (63 : Int32) = (32 : Int32) → am_kd h a0 = 100 ∧ am_in (i3 + (1 : Int32)) (am_ln h a0) ∧ am_kd h a0 = 100 ∧ am_in (i3 + (2 : Int32)) (am_ln h a0) ∧ am_kd h a1 = 11 ∧ Cl d 129 [.ref a1, .int (am_gi h a0 (Int32.toNatClampNeg (i3 + (1 : Int32)))), .int (am_gi h a0 (Int32.toNatClampNeg (i3 + (2 : Int32))))] h (fun r473 h472 => ∃ y475, r473 = some (.long y475) ∧ am_kd h472 a0 = 100 ∧ am_in (i3 + (1 : Int32)) (am_ln h472 a0) ∧ am_kd h472 a0 = 100 ∧ am_in (i3 + (2 : Int32)) (am_ln h472 a0) ∧ am_kd h472 a2 = 12 ∧ Cl d 246 [.ref a2, .int (am_gi h472 a0 (Int32.toNatClampNeg (i3 + (1 : Int32)))), .int (am_gi h472 a0 (Int32.toNatClampNeg (i3 + (2 : Int32))))] h472 (fun r481 h480 => ∃ y483, r481 = some (.long y483) ∧ ((lg_cmp y475 y483) = (0 : Int32) → Ev (d + 1) 267 1496 [.ref a0, .ref a1, .ref a2, .int i3] [] h480 Q) ∧ (¬ (lg_cmp y475 y483) = (0 : Int32) → Q (some (.int (0 : Int32))) h480)))) ∧ ((am_gi h a0 (Int32.toNatClampNeg i3)) &&& (63 : Int32) = (33 : Int32) → am_kd h a0 = 100 ∧ am_in (i3 + (1 : Int32)) (am_ln h a0) ∧ am_kd h a0 = 100 ∧ am_in (i3 + (2 : Int32)) (am_ln h a0) ∧ am_kd h a1 = 11 ∧ Cl d 130 [.ref a1, .int (am_gi h a0 (Int32.toNatClampNeg (i3 + (1 : Int32)))), .int (am_gi h a0 (Int32.toNatClampNeg (i3 + (2 : Int32))))] h (fun r490 h489 => ∃ x492, r490 = some (.int x492) ∧ am_kd h489 a0 = 100 ∧ am_in (i3 + (1 : Int32)) (am_ln h489 a0) ∧ am_kd h489 a0 = 100 ∧ am_in (i3 + (2 : Int32)) (am_ln h489 a0) ∧ am_kd h489 a2 = 12 ∧ Cl d 247 [.ref a2, .int (am_gi h489 a0 (Int32.toNatClampNeg (i3 + (1 : Int32)))), .int (am_gi h489 a0 (Int32.toNatClampNeg (i3 + (2 : Int32))))] h489 (fun r498 h497 => ∃ x500, r498 = some (.int x500) ∧ (x492 = x500 → Ev (d + 1) 267 1496 [.ref a0, .ref a1, .ref a2, .int i3] [] h497 Q) ∧ (¬ x492 = x500 → Q (some (.int (0 : Int32))) h497)))) ∧ ((am_gi h a0 (Int32.toNatClampNeg i3)) &&& (63 : Int32) = (34 : Int32) → am_kd h a0 = 100 ∧ am_in (i3 + (1 : Int32)) (am_ln h a0) ∧ am_kd h a1 = 11 ∧ Cl d 131 [.ref a1, .int (am_gi h a0 (Int32.toNatClampNeg (i3 + (1 : Int32))))] h (fun r505 h504 => ∃ x507, r505 = some (.int x507) ∧ am_kd h504 a0 = 100 ∧ am_in (i3 + (1 : Int32)) (am_ln h504 a0) ∧ am_kd h504 a2 = 12 ∧ Cl d 248 [.ref a2, .int (am_gi h504 a0 (Int32.toNatClampNeg (i3 + (1 : Int32))))] h504 (fun r511 h510 => ∃ x513, r511 = some (.int x513) ∧ (x507 = x513 → Ev (d + 1) 267 1496 [.ref a0, .ref a1, .ref a2, .int i3] [] h510 Q) ∧ (¬ x507 = x513 → Q (some (.int (0 : Int32))) h510)))) ∧ ((am_gi h a0 (Int32.toNatClampNeg i3)) &&& (63 : Int32) = (35 : Int32) → am_kd h a1 = 11 ∧ Cl d 132 [.ref a1] h (fun r516 h515 => ∃ x518, r516 = some (.int x518) ∧ am_kd h515 a2 = 12 ∧ Cl d 250 [.ref a2] h515 (fun r520 h519 => ∃ x522, r520 = some (.int x522) ∧ (x518 = x522 → Ev (d + 1) 267 1496 [.ref a0, .ref a1, .ref a2, .int i3] [] h519 Q) ∧ (¬ x518 = x522 → Q (some (.int (0 : Int32))) h519)))) ∧ ((am_gi h a0 (Int32.toNatClampNeg i3)) &&& (63 : Int32) = (36 : Int32) → am_kd h a0 = 100 ∧ am_in (i3 + (1 : Int32)) (am_ln h a0) ∧ am_kd h a0 = 100 ∧ am_in (i3 + (2 : Int32)) (am_ln h a0) ∧ am_kd h a1 = 11 ∧ Cl d 133 [.ref a1, .int (am_gi h a0 (Int32.toNatClampNeg (i3 + (1 : Int32)))), .int (am_gi h a0 (Int32.toNatClampNeg (i3 + (2 : Int32))))] h (fun r529 h528 => ∃ y531, r529 = some (.long y531) ∧ am_kd h528 a0 = 100 ∧ am_in (i3 + (1 : Int32)) (am_ln h528 a0) ∧ am_kd h528 a0 = 100 ∧ am_in (i3 + (2 : Int32)) (am_ln h528 a0) ∧ am_kd h528 a2 = 12 ∧ Cl d 251 [.ref a2, .int (am_gi h528 a0 (Int32.toNatClampNeg (i3 + (1 : Int32)))), .int (am_gi h528 a0 (Int32.toNatClampNeg (i3 + (2 : Int32))))] h528 (fun r537 h536 => ∃ y539, r537 = some (.long y539) ∧ ((lg_cmp y531 y539) = (0 : Int32) → Ev (d + 1) 267 1496 [.ref a0, .ref a1, .ref a2, .int i3] [] h536 Q) ∧ (¬ (lg_cmp y531 y539) = (0 : Int32) → Q (some (.int (0 : Int32))) h536)))) ∧ ((am_gi h a0 (Int32.toNatClampNeg i3)) &&& (63 : Int32) = (37 : Int32) → am_kd h a0 = 100 ∧ am_in (i3 + (1 : Int32)) (am_ln h a0) ∧ am_kd h a1 = 11 ∧ Cl d 134 [.ref a1, .int (am_gi h a0 (Int32.toNatClampNeg (i3 + (1 : Int32))))] h (fun r544 h543 => ∃ x546, r544 = some (.int x546) ∧ am_kd h543 a0 = 100 ∧ am_in (i3 + (1 : Int32)) (am_ln h543 a0) ∧ am_kd h543 a2 = 12 ∧ Cl d 252 [.ref a2, .int (am_gi h543 a0 (Int32.toNatClampNeg (i3 + (1 : Int32))))] h543 (fun r550 h549 => ∃ x552, r550 = some (.int x552) ∧ (x546 = x552 → Ev (d + 1) 267 1496 [.ref a0, .ref a1, .ref a2, .int i3] [] h549 Q) ∧ (¬ x546 = x552 → Q (some (.int (0 : Int32))) h549)))) ∧ ((am_gi h a0 (Int32.toNatClampNeg i3)) &&& (63 : Int32) = (38 : Int32) → am_kd h a0 = 100 ∧ am_in (i3 + (1 : Int32)) (am_ln h a0) ∧ am_kd h a0 = 100 ∧ am_in (i3 + (2 : Int32)) (am_ln h a0) ∧ am_kd h a0 = 100 ∧ am_in (i3 + (3 : Int32)) (am_ln h a0) ∧ am_kd h a1 = 11 ∧ Cl d 135 [.ref a1, .int (am_gi h a0 (Int32.toNatClampNeg (i3 + (1 : Int32)))), .int (am_gi h a0 (Int32.toNatClampNeg (i3 + (2 : Int32)))), .int (am_gi h a0 (Int32.toNatClampNeg (i3 + (3 : Int32))))] h (fun r561 h560 => ∃ x563, r561 = some (.int x563) ∧ am_kd h560 a0 = 100 ∧ am_in (i3 + (1 : Int32)) (am_ln h560 a0) ∧ am_kd h560 a0 = 100 ∧ am_in (i3 + (2 : Int32)) (am_ln h560 a0) ∧ am_kd h560 a0 = 100 ∧ am_in (i3 + (3 : Int32)) (am_ln h560 a0) ∧ am_kd h560 a2 = 12 ∧ Cl d 255 [.ref a2, .int (am_gi h560 a0 (Int32.toNatClampNeg (i3 + (1 : Int32)))), .int (am_gi h560 a0 (Int32.toNatClampNeg (i3 + (2 : Int32)))), .int (am_gi h560 a0 (Int32.toNatClampNeg (i3 + (3 : Int32))))] h560 (fun r571 h570 => ∃ x573, r571 = some (.int x573) ∧ (x563 = x573 → Ev (d + 1) 267 1496 [.ref a0, .ref a1, .ref a2, .int i3] [] h570 Q) ∧ (¬ x563 = x573 → Q (some (.int (0 : Int32))) h570)))) ∧ ((am_gi h a0 (Int32.toNatClampNeg i3)) &&& (63 : Int32) = (39 : Int32) → am_kd h a0 = 100 ∧ am_in (i3 + (1 : Int32)) (am_ln h a0) ∧ am_kd h a0 = 100 ∧ am_in (i3 + (2 : Int32)) (am_ln h a0) ∧ am_kd h a0 = 100 ∧ am_in (i3 + (3 : Int32)) (am_ln h a0) ∧ am_kd h a1 = 11 ∧ Cl d 136 [.ref a1, .int (am_gi h a0 (Int32.toNatClampNeg (i3 + (1 : Int32)))), .int (am_gi h a0 (Int32.toNatClampNeg (i3 + (2 : Int32)))), .int (am_gi h a0 (Int32.toNatClampNeg (i3 + (3 : Int32))))] h (fun r582 h581 => ∃ x584, r582 = some (.int x584) ∧ am_kd h581 a0 = 100 ∧ am_in (i3 + (1 : Int32)) (am_ln h581 a0) ∧ am_kd h581 a0 = 100 ∧ am_in (i3 + (2 : Int32)) (am_ln h581 a0) ∧ am_kd h581 a0 = 100 ∧ am_in (i3 + (3 : Int32)) (am_ln h581 a0) ∧ am_kd h581 a2 = 12 ∧ Cl d 260 [.ref a2, .int (am_gi h581 a0 (Int32.toNatClampNeg (i3 + (1 : Int32)))), .int (am_gi h581 a0 (Int32.toNatClampNeg (i3 + (2 : Int32)))), .int (am_gi h581 a0 (Int32.toNatClampNeg (i3 + (3 : Int32))))] h581 (fun r592 h591 => ∃ x594, r592 = some (.int x594) ∧ (x584 = x594 → Ev (d + 1) 267 1496 [.ref a0, .ref a1, .ref a2, .int i3] [] h591 Q) ∧ (¬ x584 = x594 → Q (some (.int (0 : Int32))) h591)))) ∧ ((am_gi h a0 (Int32.toNatClampNeg i3)) &&& (63 : Int32) = (40 : Int32) → am_kd h a1 = 11 ∧ Cl d 137 [.ref a1] h (fun r597 h596 => ∃ x599, r597 = some (.int x599) ∧ am_kd h596 a2 = 12 ∧ Cl d 261 [.ref a2] h596 (fun r601 h600 => ∃ x603, r601 = some (.int x603) ∧ (x599 = x603 → Ev (d + 1) 267 1496 [.ref a0, .ref a1, .ref a2, .int i3] [] h600 Q) ∧ (¬ x599 = x603 → Q (some (.int (0 : Int32))) h600)))) ∧ (¬ (am_gi h a0 (Int32.toNatClampNeg i3)) &&& (63 : Int32) = (0 : Int32) ∧ ¬ (am_gi h a0 (Int32.toNatClampNeg i3)) &&& (63 : Int32) = (1 : Int32) ∧ ¬ (am_gi h a0 (Int32.toNatClampNeg i3)) &&& (63 : Int32) = (2 : Int32) ∧ ¬ (am_gi h a0 (Int32.toNatClampNeg i3)) &&& (63 : Int32) = (3 : Int32) ∧ ¬ (am_gi h a0 (Int32.toNatClampNeg i3)) &&& (63 : Int32) = (4 : Int32) ∧ ¬ (am_gi h a0 (Int32.toNatClampNeg i3)) &&& (63 : Int32) = (5 : Int32) ∧ ¬ (am_gi h a0 (Int32.toNatClampNeg i3)) &&& (63 : Int32) = (6 : Int32) ∧ ¬ (am_gi h a0 (Int32.toNatClampNeg i3)) &&& (63 : Int32) = (7 : Int32) ∧ ¬ (am_gi h a0 (Int32.toNatClampNeg i3)) &&& (63 : Int32) = (8 : Int32) ∧ ¬ (am_gi h a0 (Int32.toNatClampNeg i3)) &&& (63 : Int32) = (9 : Int32) ∧ ¬ (am_gi h a0 (Int32.toNatClampNeg i3)) &&& (63 : Int32) = (10 : Int32) ∧ ¬ (am_gi h a0 (Int32.toNatClampNeg i3)) &&& (63 : Int32) = (11 : Int32) ∧ ¬ (am_gi h a0 (Int32.toNatClampNeg i3)) &&& (63 : Int32) = (12 : Int32) ∧ ¬ (am_gi h a0 (Int32.toNatClampNeg i3)) &&& (63 : Int32) = (13 : Int32) ∧ ¬ (am_gi h a0 (Int32.toNatClampNeg i3)) &&& (63 : Int32) = (14 : Int32) ∧ ¬ (am_gi h a0 (Int32.toNatClampNeg i3)) &&& (63 : Int32) = (15 : Int32) ∧ ¬ (am_gi h a0 (Int32.toNatClampNeg i3)) &&& (63 : Int32) = (16 : Int32) ∧ ¬ (am_gi h a0 (Int32.toNatClampNeg i3)) &&& (63 : Int32) = (17 : Int32) ∧ ¬ (am_gi h a0 (Int32.toNatClampNeg i3)) &&& (63 : Int32) = (18 : Int32) ∧ ¬ (am_gi h a0 (Int32.toNatClampNeg i3)) &&& (63 : Int32) = (19 : Int32) ∧ ¬ (am_gi h a0 (Int32.toNatClampNeg i3)) &&& (63 : Int32) = (20 : Int32) ∧ ¬ (am_gi h a0 (Int32.toNatClampNeg i3)) &&& (63 : Int32) = (21 : Int32) ∧ ¬ (am_gi h a0 (Int32.toNatClampNeg i3)) &&& (63 : Int32) = (22 : Int32) ∧ ¬ (am_gi h a0 (Int32.toNatClampNeg i3)) &&& (63 : Int32) = (23 : Int32) ∧ ¬ (am_gi h a0 (Int32.toNatClampNeg i3)) &&& (63 : Int32) = (24 : Int32) ∧ ¬ (am_gi h a0 (Int32.toNatClampNeg i3)) &&& (63 : Int32) = (25 : Int32) ∧ ¬ (am_gi h a0 (Int32.toNatClampNeg i3)) &&& (63 : Int32) = (26 : Int32) ∧ ¬ (am_gi h a0 (Int32.toNatClampNeg i3)) &&& (63 : Int32) = (27 : Int32) ∧ ¬ (am_gi h a0 (Int32.toNatClampNeg i3)) &&& (63 : Int32) = (28 : Int32) ∧ ¬ (am_gi h a0 (Int32.toNatClampNeg i3)) &&& (63 : Int32) = (29 : Int32) ∧ ¬ (am_gi h a0 (Int32.toNatClampNeg i3)) &&& (63 : Int32) = (30 : Int32) ∧ ¬ (am_gi h a0 (Int32.toNatClampNeg i3)) &&& (63 : Int32) = (31 : Int32) ∧ ¬ (am_gi h a0 (Int32.toNatClampNeg i3)) &&& (63 : Int32) = (32 : Int32) ∧ ¬ (am_gi h a0 (Int32.toNatClampNeg i3)) &&& (63 : Int32) = (33 : Int32) ∧ ¬ (am_gi h a0 (Int32.toNatClampNeg i3)) &&& (63 : Int32) = (34 : Int32) ∧ ¬ (am_gi h a0 (Int32.toNatClampNeg i3)) &&& (63 : Int32) = (35 : Int32) ∧ ¬ (am_gi h a0 (Int32.toNatClampNeg i3)) &&& (63 : Int32) = (36 : Int32) ∧ ¬ (am_gi h a0 (Int32.toNatClampNeg i3)) &&& (63 : Int32) = (37 : Int32) ∧ ¬ (am_gi h a0 (Int32.toNatClampNeg i3)) &&& (63 : Int32) = (38 : Int32) ∧ ¬ (am_gi h a0 (Int32.toNatClampNeg i3)) &&& (63 : Int32) = (39 : Int32) ∧ ¬ (am_gi h a0 (Int32.toNatClampNeg i3)) &&& (63 : Int32) = (40 : Int32) → Ev (d + 1) 267 1496 [.ref a0, .ref a1, .ref a2, .int i3] [] h Q))) : Ev (d + 1) 267 18 [.ref a0, .ref a1, .ref a2, .int i3] [] h Q := by
  refine ev_p (pc' := 20) (loc' := [.ref a0, .ref a1, .ref a2, .int i3]) (st' := [.ref a0, .int i3]) 2 am_q267 rfl ?_
  obtain ⟨g1, H⟩ := H
  refine ev_s (pc' := 21) (loc' := [.ref a0, .ref a1, .ref a2, .int i3]) (st' := [.int (Int32.ofNat (am_ln h a0)), .int i3]) (h1 := h) am_q267 rfl rfl rfl (if_pos (e := none) g1) ?_
  refine ev_p (pc' := 23) (loc' := [.ref a0, .ref a1, .ref a2, .int i3]) (st' := [.int ((Int32.ofNat (am_ln h a0)) - (5 : Int32)), .int i3]) 2 am_q267 rfl ?_
  refine ev_jc (t := 1502) am_q267 rfl rfl (fun hq => ?_) (fun hq => ?_)
  · replace H := H.1 hq
    refine ev_p (pc' := 1503) (loc' := [.ref a0, .ref a1, .ref a2, .int i3]) (st' := [.int (1 : Int32)]) 1 am_q267 rfl ?_
    exact ev_r (v := some (.int (1 : Int32))) am_q267 rfl rfl rfl rfl H
  · replace H := H.2 hq
    refine ev_p (pc' := 28) (loc' := [.ref a0, .ref a1, .ref a2, .int i3]) (st' := [.int i3, .ref a0]) 2 am_q267 rfl ?_
    obtain ⟨g2, g3, H⟩ := H
    refine ev_s (pc' := 29) (loc' := [.ref a0, .ref a1, .ref a2, .int i3]) (st' := [.int (am_gi h a0 (Int32.toNatClampNeg i3))]) (h1 := h) am_q267 rfl rfl rfl (am_xx g2 g3) ?_
    refine ev_p (pc' := 32) (loc' := [.ref a0, .ref a1, .ref a2, .int i3]) (st' := [.int ((am_gi h a0 (Int32.toNatClampNeg i3)) &&& (63 : Int32))]) 2 am_q267 rfl ?_
    by_cases k16 : (am_gi h a0 (Int32.toNatClampNeg i3)) &&& (63 : Int32) = (0 : Int32)
    · replace H := H.1 k16
      refine ev_s (pc' := 212) (loc' := [.ref a0, .ref a1, .ref a2, .int i3]) (st' := []) (h1 := h) am_q267 rfl rfl rfl (by rw [k16]; rfl) ?_
      refine ev_p (pc' := 217) (loc' := [.ref a0, .ref a1, .ref a2, .int i3]) (st' := [.int (i3 + (1 : Int32)), .ref a0, .ref a1]) 5 am_q267 rfl ?_
      obtain ⟨g4, g5, H⟩ := H
      refine ev_s (pc' := 218) (loc' := [.ref a0, .ref a1, .ref a2, .int i3]) (st' := [.int (am_gi h a0 (Int32.toNatClampNeg (i3 + (1 : Int32)))), .ref a1]) (h1 := h) am_q267 rfl rfl rfl (am_xx g4 g5) ?_
      obtain ⟨g8, H⟩ := H
      refine ev_c (vs := [.ref a1, .int (am_gi h a0 (Int32.toNatClampNeg (i3 + (1 : Int32))))]) (rest := []) 97 am_q267 rfl rfl rfl rfl rfl rfl rfl rfl rfl rfl rfl rfl (Or.inr (congrArg some g8)) (Cl.mono H (Nat.le_refl _) (fun r7 h6 H => ?_))
      obtain ⟨x9, rfl, H⟩ := H
      refine ev_p (pc' := 226) (loc' := [.ref a0, .ref a1, .ref a2, .int i3]) (st' := [.int (i3 + (1 : Int32)), .ref a0, .ref a2, .int x9]) 5 am_q267 rfl ?_
      obtain ⟨g10, g11, H⟩ := H
      refine ev_s (pc' := 227) (loc' := [.ref a0, .ref a1, .ref a2, .int i3]) (st' := [.int (am_gi h6 a0 (Int32.toNatClampNeg (i3 + (1 : Int32)))), .ref a2, .int x9]) (h1 := h6) am_q267 rfl rfl rfl (am_xx g10 g11) ?_
      obtain ⟨g14, H⟩ := H
      refine ev_c (vs := [.ref a2, .int (am_gi h6 a0 (Int32.toNatClampNeg (i3 + (1 : Int32))))]) (rest := [.int x9]) 176 am_q267 rfl rfl rfl rfl rfl rfl rfl rfl rfl rfl rfl rfl (Or.inr (congrArg some g14)) (Cl.mono H (Nat.le_refl _) (fun r13 h12 H => ?_))
      obtain ⟨x15, rfl, H⟩ := H
      refine ev_jc (t := 1496) am_q267 rfl rfl (fun hq => ?_) (fun hq => ?_)
      · replace H := H.1 hq
        exact ev_m (loc' := [.ref a0, .ref a1, .ref a2, .int i3]) am_q267 rfl rfl H
      · replace H := H.2 hq
        refine ev_p (pc' := 234) (loc' := [.ref a0, .ref a1, .ref a2, .int i3]) (st' := [.int (0 : Int32)]) 1 am_q267 rfl ?_
        exact ev_r (v := some (.int (0 : Int32))) am_q267 rfl rfl rfl rfl H
    replace H := H.2
    by_cases k37 : (am_gi h a0 (Int32.toNatClampNeg i3)) &&& (63 : Int32) = (1 : Int32)
    · replace H := H.1 k37
      refine ev_s (pc' := 235) (loc' := [.ref a0, .ref a1, .ref a2, .int i3]) (st' := []) (h1 := h) am_q267 rfl rfl rfl (by rw [k37]; rfl) ?_
      refine ev_p (pc' := 240) (loc' := [.ref a0, .ref a1, .ref a2, .int i3]) (st' := [.int (i3 + (1 : Int32)), .ref a0, .ref a1]) 5 am_q267 rfl ?_
      obtain ⟨g17, g18, H⟩ := H
      refine ev_s (pc' := 241) (loc' := [.ref a0, .ref a1, .ref a2, .int i3]) (st' := [.int (am_gi h a0 (Int32.toNatClampNeg (i3 + (1 : Int32)))), .ref a1]) (h1 := h) am_q267 rfl rfl rfl (am_xx g17 g18) ?_
      refine ev_p (pc' := 245) (loc' := [.ref a0, .ref a1, .ref a2, .int i3]) (st' := [.int (i3 + (2 : Int32)), .ref a0, .int (am_gi h a0 (Int32.toNatClampNeg (i3 + (1 : Int32)))), .ref a1]) 4 am_q267 rfl ?_
      obtain ⟨g19, g20, H⟩ := H
      refine ev_s (pc' := 246) (loc' := [.ref a0, .ref a1, .ref a2, .int i3]) (st' := [.int (am_gi h a0 (Int32.toNatClampNeg (i3 + (2 : Int32)))), .int (am_gi h a0 (Int32.toNatClampNeg (i3 + (1 : Int32)))), .ref a1]) (h1 := h) am_q267 rfl rfl rfl (am_xx g19 g20) ?_
      refine ev_p (pc' := 250) (loc' := [.ref a0, .ref a1, .ref a2, .int i3]) (st' := [.int (i3 + (3 : Int32)), .ref a0, .int (am_gi h a0 (Int32.toNatClampNeg (i3 + (2 : Int32)))), .int (am_gi h a0 (Int32.toNatClampNeg (i3 + (1 : Int32)))), .ref a1]) 4 am_q267 rfl ?_
      obtain ⟨g21, g22, H⟩ := H
      refine ev_s (pc' := 251) (loc' := [.ref a0, .ref a1, .ref a2, .int i3]) (st' := [.int (am_gi h a0 (Int32.toNatClampNeg (i3 + (3 : Int32)))), .int (am_gi h a0 (Int32.toNatClampNeg (i3 + (2 : Int32)))), .int (am_gi h a0 (Int32.toNatClampNeg (i3 + (1 : Int32)))), .ref a1]) (h1 := h) am_q267 rfl rfl rfl (am_xx g21 g22) ?_
      obtain ⟨g25, H⟩ := H
      refine ev_c (vs := [.ref a1, .int (am_gi h a0 (Int32.toNatClampNeg (i3 + (1 : Int32)))), .int (am_gi h a0 (Int32.toNatClampNeg (i3 + (2 : Int32)))), .int (am_gi h a0 (Int32.toNatClampNeg (i3 + (3 : Int32))))]) (rest := []) 98 am_q267 rfl rfl rfl rfl rfl rfl rfl rfl rfl rfl rfl rfl (Or.inr (congrArg some g25)) (Cl.mono H (Nat.le_refl _) (fun r24 h23 H => ?_))
      obtain ⟨x26, rfl, H⟩ := H
      refine ev_p (pc' := 259) (loc' := [.ref a0, .ref a1, .ref a2, .int i3]) (st' := [.int (i3 + (1 : Int32)), .ref a0, .ref a2, .int x26]) 5 am_q267 rfl ?_
      obtain ⟨g27, g28, H⟩ := H
      refine ev_s (pc' := 260) (loc' := [.ref a0, .ref a1, .ref a2, .int i3]) (st' := [.int (am_gi h23 a0 (Int32.toNatClampNeg (i3 + (1 : Int32)))), .ref a2, .int x26]) (h1 := h23) am_q267 rfl rfl rfl (am_xx g27 g28) ?_
      refine ev_p (pc' := 264) (loc' := [.ref a0, .ref a1, .ref a2, .int i3]) (st' := [.int (i3 + (2 : Int32)), .ref a0, .int (am_gi h23 a0 (Int32.toNatClampNeg (i3 + (1 : Int32)))), .ref a2, .int x26]) 4 am_q267 rfl ?_
      obtain ⟨g29, g30, H⟩ := H
      refine ev_s (pc' := 265) (loc' := [.ref a0, .ref a1, .ref a2, .int i3]) (st' := [.int (am_gi h23 a0 (Int32.toNatClampNeg (i3 + (2 : Int32)))), .int (am_gi h23 a0 (Int32.toNatClampNeg (i3 + (1 : Int32)))), .ref a2, .int x26]) (h1 := h23) am_q267 rfl rfl rfl (am_xx g29 g30) ?_
      refine ev_p (pc' := 269) (loc' := [.ref a0, .ref a1, .ref a2, .int i3]) (st' := [.int (i3 + (3 : Int32)), .ref a0, .int (am_gi h23 a0 (Int32.toNatClampNeg (i3 + (2 : Int32)))), .int (am_gi h23 a0 (Int32.toNatClampNeg (i3 + (1 : Int32)))), .ref a2, .int x26]) 4 am_q267 rfl ?_
      obtain ⟨g31, g32, H⟩ := H
      refine ev_s (pc' := 270) (loc' := [.ref a0, .ref a1, .ref a2, .int i3]) (st' := [.int (am_gi h23 a0 (Int32.toNatClampNeg (i3 + (3 : Int32)))), .int (am_gi h23 a0 (Int32.toNatClampNeg (i3 + (2 : Int32)))), .int (am_gi h23 a0 (Int32.toNatClampNeg (i3 + (1 : Int32)))), .ref a2, .int x26]) (h1 := h23) am_q267 rfl rfl rfl (am_xx g31 g32) ?_
      obtain ⟨g35, H⟩ := H
      refine ev_c (vs := [.ref a2, .int (am_gi h23 a0 (Int32.toNatClampNeg (i3 + (1 : Int32)))), .int (am_gi h23 a0 (Int32.toNatClampNeg (i3 + (2 : Int32)))), .int (am_gi h23 a0 (Int32.toNatClampNeg (i3 + (3 : Int32))))]) (rest := [.int x26]) 177 am_q267 rfl rfl rfl rfl rfl rfl rfl rfl rfl rfl rfl rfl (Or.inr (congrArg some g35)) (Cl.mono H (Nat.le_refl _) (fun r34 h33 H => ?_))
      obtain ⟨x36, rfl, H⟩ := H
      refine ev_jc (t := 1496) am_q267 rfl rfl (fun hq => ?_) (fun hq => ?_)
      · replace H := H.1 hq
        exact ev_m (loc' := [.ref a0, .ref a1, .ref a2, .int i3]) am_q267 rfl rfl H
      · replace H := H.2 hq
        refine ev_p (pc' := 277) (loc' := [.ref a0, .ref a1, .ref a2, .int i3]) (st' := [.int (0 : Int32)]) 1 am_q267 rfl ?_
        exact ev_r (v := some (.int (0 : Int32))) am_q267 rfl rfl rfl rfl H
    replace H := H.2
    by_cases k50 : (am_gi h a0 (Int32.toNatClampNeg i3)) &&& (63 : Int32) = (2 : Int32)
    · replace H := H.1 k50
      refine ev_s (pc' := 278) (loc' := [.ref a0, .ref a1, .ref a2, .int i3]) (st' := []) (h1 := h) am_q267 rfl rfl rfl (by rw [k50]; rfl) ?_
      refine ev_p (pc' := 283) (loc' := [.ref a0, .ref a1, .ref a2, .int i3]) (st' := [.int (i3 + (1 : Int32)), .ref a0, .ref a1]) 5 am_q267 rfl ?_
      obtain ⟨g38, g39, H⟩ := H
      refine ev_s (pc' := 284) (loc' := [.ref a0, .ref a1, .ref a2, .int i3]) (st' := [.int (am_gi h a0 (Int32.toNatClampNeg (i3 + (1 : Int32)))), .ref a1]) (h1 := h) am_q267 rfl rfl rfl (am_xx g38 g39) ?_
      obtain ⟨g42, H⟩ := H
      refine ev_c (vs := [.ref a1, .int (am_gi h a0 (Int32.toNatClampNeg (i3 + (1 : Int32))))]) (rest := []) 99 am_q267 rfl rfl rfl rfl rfl rfl rfl rfl rfl rfl rfl rfl (Or.inr (congrArg some g42)) (Cl.mono H (Nat.le_refl _) (fun r41 h40 H => ?_))
      obtain ⟨x43, rfl, H⟩ := H
      refine ev_p (pc' := 292) (loc' := [.ref a0, .ref a1, .ref a2, .int i3]) (st' := [.int (i3 + (1 : Int32)), .ref a0, .ref a2, .int x43]) 5 am_q267 rfl ?_
      obtain ⟨g44, g45, H⟩ := H
      refine ev_s (pc' := 293) (loc' := [.ref a0, .ref a1, .ref a2, .int i3]) (st' := [.int (am_gi h40 a0 (Int32.toNatClampNeg (i3 + (1 : Int32)))), .ref a2, .int x43]) (h1 := h40) am_q267 rfl rfl rfl (am_xx g44 g45) ?_
      obtain ⟨g48, H⟩ := H
      refine ev_c (vs := [.ref a2, .int (am_gi h40 a0 (Int32.toNatClampNeg (i3 + (1 : Int32))))]) (rest := [.int x43]) 178 am_q267 rfl rfl rfl rfl rfl rfl rfl rfl rfl rfl rfl rfl (Or.inr (congrArg some g48)) (Cl.mono H (Nat.le_refl _) (fun r47 h46 H => ?_))
      obtain ⟨x49, rfl, H⟩ := H
      refine ev_jc (t := 1496) am_q267 rfl rfl (fun hq => ?_) (fun hq => ?_)
      · replace H := H.1 hq
        exact ev_m (loc' := [.ref a0, .ref a1, .ref a2, .int i3]) am_q267 rfl rfl H
      · replace H := H.2 hq
        refine ev_p (pc' := 300) (loc' := [.ref a0, .ref a1, .ref a2, .int i3]) (st' := [.int (0 : Int32)]) 1 am_q267 rfl ?_
        exact ev_r (v := some (.int (0 : Int32))) am_q267 rfl rfl rfl rfl H
    replace H := H.2
    by_cases k67 : (am_gi h a0 (Int32.toNatClampNeg i3)) &&& (63 : Int32) = (3 : Int32)
    · replace H := H.1 k67
      refine ev_s (pc' := 301) (loc' := [.ref a0, .ref a1, .ref a2, .int i3]) (st' := []) (h1 := h) am_q267 rfl rfl rfl (by rw [k67]; rfl) ?_
      refine ev_p (pc' := 306) (loc' := [.ref a0, .ref a1, .ref a2, .int i3]) (st' := [.int (i3 + (1 : Int32)), .ref a0, .ref a1]) 5 am_q267 rfl ?_
      obtain ⟨g51, g52, H⟩ := H
      refine ev_s (pc' := 307) (loc' := [.ref a0, .ref a1, .ref a2, .int i3]) (st' := [.int (am_gi h a0 (Int32.toNatClampNeg (i3 + (1 : Int32)))), .ref a1]) (h1 := h) am_q267 rfl rfl rfl (am_xx g51 g52) ?_
      refine ev_p (pc' := 311) (loc' := [.ref a0, .ref a1, .ref a2, .int i3]) (st' := [.int (i3 + (2 : Int32)), .ref a0, .int (am_gi h a0 (Int32.toNatClampNeg (i3 + (1 : Int32)))), .ref a1]) 4 am_q267 rfl ?_
      obtain ⟨g53, g54, H⟩ := H
      refine ev_s (pc' := 312) (loc' := [.ref a0, .ref a1, .ref a2, .int i3]) (st' := [.int (am_gi h a0 (Int32.toNatClampNeg (i3 + (2 : Int32)))), .int (am_gi h a0 (Int32.toNatClampNeg (i3 + (1 : Int32)))), .ref a1]) (h1 := h) am_q267 rfl rfl rfl (am_xx g53 g54) ?_
      obtain ⟨g57, H⟩ := H
      refine ev_c (vs := [.ref a1, .int (am_gi h a0 (Int32.toNatClampNeg (i3 + (1 : Int32)))), .int (am_gi h a0 (Int32.toNatClampNeg (i3 + (2 : Int32))))]) (rest := []) 100 am_q267 rfl rfl rfl rfl rfl rfl rfl rfl rfl rfl rfl rfl (Or.inr (congrArg some g57)) (Cl.mono H (Nat.le_refl _) (fun r56 h55 H => ?_))
      obtain ⟨x58, rfl, H⟩ := H
      refine ev_p (pc' := 320) (loc' := [.ref a0, .ref a1, .ref a2, .int i3]) (st' := [.int (i3 + (1 : Int32)), .ref a0, .ref a2, .int x58]) 5 am_q267 rfl ?_
      obtain ⟨g59, g60, H⟩ := H
      refine ev_s (pc' := 321) (loc' := [.ref a0, .ref a1, .ref a2, .int i3]) (st' := [.int (am_gi h55 a0 (Int32.toNatClampNeg (i3 + (1 : Int32)))), .ref a2, .int x58]) (h1 := h55) am_q267 rfl rfl rfl (am_xx g59 g60) ?_
      refine ev_p (pc' := 325) (loc' := [.ref a0, .ref a1, .ref a2, .int i3]) (st' := [.int (i3 + (2 : Int32)), .ref a0, .int (am_gi h55 a0 (Int32.toNatClampNeg (i3 + (1 : Int32)))), .ref a2, .int x58]) 4 am_q267 rfl ?_
      obtain ⟨g61, g62, H⟩ := H
      refine ev_s (pc' := 326) (loc' := [.ref a0, .ref a1, .ref a2, .int i3]) (st' := [.int (am_gi h55 a0 (Int32.toNatClampNeg (i3 + (2 : Int32)))), .int (am_gi h55 a0 (Int32.toNatClampNeg (i3 + (1 : Int32)))), .ref a2, .int x58]) (h1 := h55) am_q267 rfl rfl rfl (am_xx g61 g62) ?_
      obtain ⟨g65, H⟩ := H
      refine ev_c (vs := [.ref a2, .int (am_gi h55 a0 (Int32.toNatClampNeg (i3 + (1 : Int32)))), .int (am_gi h55 a0 (Int32.toNatClampNeg (i3 + (2 : Int32))))]) (rest := [.int x58]) 179 am_q267 rfl rfl rfl rfl rfl rfl rfl rfl rfl rfl rfl rfl (Or.inr (congrArg some g65)) (Cl.mono H (Nat.le_refl _) (fun r64 h63 H => ?_))
      obtain ⟨x66, rfl, H⟩ := H
      refine ev_jc (t := 1496) am_q267 rfl rfl (fun hq => ?_) (fun hq => ?_)
      · replace H := H.1 hq
        exact ev_m (loc' := [.ref a0, .ref a1, .ref a2, .int i3]) am_q267 rfl rfl H
      · replace H := H.2 hq
        refine ev_p (pc' := 333) (loc' := [.ref a0, .ref a1, .ref a2, .int i3]) (st' := [.int (0 : Int32)]) 1 am_q267 rfl ?_
        exact ev_r (v := some (.int (0 : Int32))) am_q267 rfl rfl rfl rfl H
    replace H := H.2
    by_cases k92 : (am_gi h a0 (Int32.toNatClampNeg i3)) &&& (63 : Int32) = (4 : Int32)
    · replace H := H.1 k92
      refine ev_s (pc' := 334) (loc' := [.ref a0, .ref a1, .ref a2, .int i3]) (st' := []) (h1 := h) am_q267 rfl rfl rfl (by rw [k92]; rfl) ?_
      refine ev_p (pc' := 339) (loc' := [.ref a0, .ref a1, .ref a2, .int i3]) (st' := [.int (i3 + (1 : Int32)), .ref a0, .ref a1]) 5 am_q267 rfl ?_
      obtain ⟨g68, g69, H⟩ := H
      refine ev_s (pc' := 340) (loc' := [.ref a0, .ref a1, .ref a2, .int i3]) (st' := [.int (am_gi h a0 (Int32.toNatClampNeg (i3 + (1 : Int32)))), .ref a1]) (h1 := h) am_q267 rfl rfl rfl (am_xx g68 g69) ?_
      refine ev_p (pc' := 344) (loc' := [.ref a0, .ref a1, .ref a2, .int i3]) (st' := [.int (i3 + (2 : Int32)), .ref a0, .int (am_gi h a0 (Int32.toNatClampNeg (i3 + (1 : Int32)))), .ref a1]) 4 am_q267 rfl ?_
      obtain ⟨g70, g71, H⟩ := H
      refine ev_s (pc' := 345) (loc' := [.ref a0, .ref a1, .ref a2, .int i3]) (st' := [.int (am_gi h a0 (Int32.toNatClampNeg (i3 + (2 : Int32)))), .int (am_gi h a0 (Int32.toNatClampNeg (i3 + (1 : Int32)))), .ref a1]) (h1 := h) am_q267 rfl rfl rfl (am_xx g70 g71) ?_
      refine ev_p (pc' := 349) (loc' := [.ref a0, .ref a1, .ref a2, .int i3]) (st' := [.int (i3 + (3 : Int32)), .ref a0, .int (am_gi h a0 (Int32.toNatClampNeg (i3 + (2 : Int32)))), .int (am_gi h a0 (Int32.toNatClampNeg (i3 + (1 : Int32)))), .ref a1]) 4 am_q267 rfl ?_
      obtain ⟨g72, g73, H⟩ := H
      refine ev_s (pc' := 350) (loc' := [.ref a0, .ref a1, .ref a2, .int i3]) (st' := [.int (am_gi h a0 (Int32.toNatClampNeg (i3 + (3 : Int32)))), .int (am_gi h a0 (Int32.toNatClampNeg (i3 + (2 : Int32)))), .int (am_gi h a0 (Int32.toNatClampNeg (i3 + (1 : Int32)))), .ref a1]) (h1 := h) am_q267 rfl rfl rfl (am_xx g72 g73) ?_
      refine ev_p (pc' := 354) (loc' := [.ref a0, .ref a1, .ref a2, .int i3]) (st' := [.int (i3 + (4 : Int32)), .ref a0, .int (am_gi h a0 (Int32.toNatClampNeg (i3 + (3 : Int32)))), .int (am_gi h a0 (Int32.toNatClampNeg (i3 + (2 : Int32)))), .int (am_gi h a0 (Int32.toNatClampNeg (i3 + (1 : Int32)))), .ref a1]) 4 am_q267 rfl ?_
      obtain ⟨g74, g75, H⟩ := H
      refine ev_s (pc' := 355) (loc' := [.ref a0, .ref a1, .ref a2, .int i3]) (st' := [.int (am_gi h a0 (Int32.toNatClampNeg (i3 + (4 : Int32)))), .int (am_gi h a0 (Int32.toNatClampNeg (i3 + (3 : Int32)))), .int (am_gi h a0 (Int32.toNatClampNeg (i3 + (2 : Int32)))), .int (am_gi h a0 (Int32.toNatClampNeg (i3 + (1 : Int32)))), .ref a1]) (h1 := h) am_q267 rfl rfl rfl (am_xx g74 g75) ?_
      obtain ⟨g78, H⟩ := H
      refine ev_c (vs := [.ref a1, .int (am_gi h a0 (Int32.toNatClampNeg (i3 + (1 : Int32)))), .int (am_gi h a0 (Int32.toNatClampNeg (i3 + (2 : Int32)))), .int (am_gi h a0 (Int32.toNatClampNeg (i3 + (3 : Int32)))), .int (am_gi h a0 (Int32.toNatClampNeg (i3 + (4 : Int32))))]) (rest := []) 101 am_q267 rfl rfl rfl rfl rfl rfl rfl rfl rfl rfl rfl rfl (Or.inr (congrArg some g78)) (Cl.mono H (Nat.le_refl _) (fun r77 h76 H => ?_))
      obtain ⟨x79, rfl, H⟩ := H
      refine ev_p (pc' := 363) (loc' := [.ref a0, .ref a1, .ref a2, .int i3]) (st' := [.int (i3 + (1 : Int32)), .ref a0, .ref a2, .int x79]) 5 am_q267 rfl ?_
      obtain ⟨g80, g81, H⟩ := H
      refine ev_s (pc' := 364) (loc' := [.ref a0, .ref a1, .ref a2, .int i3]) (st' := [.int (am_gi h76 a0 (Int32.toNatClampNeg (i3 + (1 : Int32)))), .ref a2, .int x79]) (h1 := h76) am_q267 rfl rfl rfl (am_xx g80 g81) ?_
      refine ev_p (pc' := 368) (loc' := [.ref a0, .ref a1, .ref a2, .int i3]) (st' := [.int (i3 + (2 : Int32)), .ref a0, .int (am_gi h76 a0 (Int32.toNatClampNeg (i3 + (1 : Int32)))), .ref a2, .int x79]) 4 am_q267 rfl ?_
      obtain ⟨g82, g83, H⟩ := H
      refine ev_s (pc' := 369) (loc' := [.ref a0, .ref a1, .ref a2, .int i3]) (st' := [.int (am_gi h76 a0 (Int32.toNatClampNeg (i3 + (2 : Int32)))), .int (am_gi h76 a0 (Int32.toNatClampNeg (i3 + (1 : Int32)))), .ref a2, .int x79]) (h1 := h76) am_q267 rfl rfl rfl (am_xx g82 g83) ?_
      refine ev_p (pc' := 373) (loc' := [.ref a0, .ref a1, .ref a2, .int i3]) (st' := [.int (i3 + (3 : Int32)), .ref a0, .int (am_gi h76 a0 (Int32.toNatClampNeg (i3 + (2 : Int32)))), .int (am_gi h76 a0 (Int32.toNatClampNeg (i3 + (1 : Int32)))), .ref a2, .int x79]) 4 am_q267 rfl ?_
      obtain ⟨g84, g85, H⟩ := H
      refine ev_s (pc' := 374) (loc' := [.ref a0, .ref a1, .ref a2, .int i3]) (st' := [.int (am_gi h76 a0 (Int32.toNatClampNeg (i3 + (3 : Int32)))), .int (am_gi h76 a0 (Int32.toNatClampNeg (i3 + (2 : Int32)))), .int (am_gi h76 a0 (Int32.toNatClampNeg (i3 + (1 : Int32)))), .ref a2, .int x79]) (h1 := h76) am_q267 rfl rfl rfl (am_xx g84 g85) ?_
      refine ev_p (pc' := 378) (loc' := [.ref a0, .ref a1, .ref a2, .int i3]) (st' := [.int (i3 + (4 : Int32)), .ref a0, .int (am_gi h76 a0 (Int32.toNatClampNeg (i3 + (3 : Int32)))), .int (am_gi h76 a0 (Int32.toNatClampNeg (i3 + (2 : Int32)))), .int (am_gi h76 a0 (Int32.toNatClampNeg (i3 + (1 : Int32)))), .ref a2, .int x79]) 4 am_q267 rfl ?_
      obtain ⟨g86, g87, H⟩ := H
      refine ev_s (pc' := 379) (loc' := [.ref a0, .ref a1, .ref a2, .int i3]) (st' := [.int (am_gi h76 a0 (Int32.toNatClampNeg (i3 + (4 : Int32)))), .int (am_gi h76 a0 (Int32.toNatClampNeg (i3 + (3 : Int32)))), .int (am_gi h76 a0 (Int32.toNatClampNeg (i3 + (2 : Int32)))), .int (am_gi h76 a0 (Int32.toNatClampNeg (i3 + (1 : Int32)))), .ref a2, .int x79]) (h1 := h76) am_q267 rfl rfl rfl (am_xx g86 g87) ?_
      obtain ⟨g90, H⟩ := H
      refine ev_c (vs := [.ref a2, .int (am_gi h76 a0 (Int32.toNatClampNeg (i3 + (1 : Int32)))), .int (am_gi h76 a0 (Int32.toNatClampNeg (i3 + (2 : Int32)))), .int (am_gi h76 a0 (Int32.toNatClampNeg (i3 + (3 : Int32)))), .int (am_gi h76 a0 (Int32.toNatClampNeg (i3 + (4 : Int32))))]) (rest := [.int x79]) 180 am_q267 rfl rfl rfl rfl rfl rfl rfl rfl rfl rfl rfl rfl (Or.inr (congrArg some g90)) (Cl.mono H (Nat.le_refl _) (fun r89 h88 H => ?_))
      obtain ⟨x91, rfl, H⟩ := H
      refine ev_jc (t := 1496) am_q267 rfl rfl (fun hq => ?_) (fun hq => ?_)
      · replace H := H.1 hq
        exact ev_m (loc' := [.ref a0, .ref a1, .ref a2, .int i3]) am_q267 rfl rfl H
      · replace H := H.2 hq
        refine ev_p (pc' := 386) (loc' := [.ref a0, .ref a1, .ref a2, .int i3]) (st' := [.int (0 : Int32)]) 1 am_q267 rfl ?_
        exact ev_r (v := some (.int (0 : Int32))) am_q267 rfl rfl rfl rfl H
    replace H := H.2
    by_cases k109 : (am_gi h a0 (Int32.toNatClampNeg i3)) &&& (63 : Int32) = (5 : Int32)
    · replace H := H.1 k109
      refine ev_s (pc' := 387) (loc' := [.ref a0, .ref a1, .ref a2, .int i3]) (st' := []) (h1 := h) am_q267 rfl rfl rfl (by rw [k109]; rfl) ?_
      refine ev_p (pc' := 392) (loc' := [.ref a0, .ref a1, .ref a2, .int i3]) (st' := [.int (i3 + (1 : Int32)), .ref a0, .ref a1]) 5 am_q267 rfl ?_
      obtain ⟨g93, g94, H⟩ := H
      refine ev_s (pc' := 393) (loc' := [.ref a0, .ref a1, .ref a2, .int i3]) (st' := [.int (am_gi h a0 (Int32.toNatClampNeg (i3 + (1 : Int32)))), .ref a1]) (h1 := h) am_q267 rfl rfl rfl (am_xx g93 g94) ?_
      refine ev_p (pc' := 397) (loc' := [.ref a0, .ref a1, .ref a2, .int i3]) (st' := [.int (i3 + (2 : Int32)), .ref a0, .int (am_gi h a0 (Int32.toNatClampNeg (i3 + (1 : Int32)))), .ref a1]) 4 am_q267 rfl ?_
      obtain ⟨g95, g96, H⟩ := H
      refine ev_s (pc' := 398) (loc' := [.ref a0, .ref a1, .ref a2, .int i3]) (st' := [.int (am_gi h a0 (Int32.toNatClampNeg (i3 + (2 : Int32)))), .int (am_gi h a0 (Int32.toNatClampNeg (i3 + (1 : Int32)))), .ref a1]) (h1 := h) am_q267 rfl rfl rfl (am_xx g95 g96) ?_
      obtain ⟨g99, H⟩ := H
      refine ev_c (vs := [.ref a1, .int (am_gi h a0 (Int32.toNatClampNeg (i3 + (1 : Int32)))), .int (am_gi h a0 (Int32.toNatClampNeg (i3 + (2 : Int32))))]) (rest := []) 102 am_q267 rfl rfl rfl rfl rfl rfl rfl rfl rfl rfl rfl rfl (Or.inr (congrArg some g99)) (Cl.mono H (Nat.le_refl _) (fun r98 h97 H => ?_))
      obtain ⟨x100, rfl, H⟩ := H
      refine ev_p (pc' := 406) (loc' := [.ref a0, .ref a1, .ref a2, .int i3]) (st' := [.int (i3 + (1 : Int32)), .ref a0, .ref a2, .int x100]) 5 am_q267 rfl ?_
      obtain ⟨g101, g102, H⟩ := H
      refine ev_s (pc' := 407) (loc' := [.ref a0, .ref a1, .ref a2, .int i3]) (st' := [.int (am_gi h97 a0 (Int32.toNatClampNeg (i3 + (1 : Int32)))), .ref a2, .int x100]) (h1 := h97) am_q267 rfl rfl rfl (am_xx g101 g102) ?_
      refine ev_p (pc' := 411) (loc' := [.ref a0, .ref a1, .ref a2, .int i3]) (st' := [.int (i3 + (2 : Int32)), .ref a0, .int (am_gi h97 a0 (Int32.toNatClampNeg (i3 + (1 : Int32)))), .ref a2, .int x100]) 4 am_q267 rfl ?_
      obtain ⟨g103, g104, H⟩ := H
      refine ev_s (pc' := 412) (loc' := [.ref a0, .ref a1, .ref a2, .int i3]) (st' := [.int (am_gi h97 a0 (Int32.toNatClampNeg (i3 + (2 : Int32)))), .int (am_gi h97 a0 (Int32.toNatClampNeg (i3 + (1 : Int32)))), .ref a2, .int x100]) (h1 := h97) am_q267 rfl rfl rfl (am_xx g103 g104) ?_
      obtain ⟨g107, H⟩ := H
      refine ev_c (vs := [.ref a2, .int (am_gi h97 a0 (Int32.toNatClampNeg (i3 + (1 : Int32)))), .int (am_gi h97 a0 (Int32.toNatClampNeg (i3 + (2 : Int32))))]) (rest := [.int x100]) 182 am_q267 rfl rfl rfl rfl rfl rfl rfl rfl rfl rfl rfl rfl (Or.inr (congrArg some g107)) (Cl.mono H (Nat.le_refl _) (fun r106 h105 H => ?_))
      obtain ⟨x108, rfl, H⟩ := H
      refine ev_jc (t := 1496) am_q267 rfl rfl (fun hq => ?_) (fun hq => ?_)
      · replace H := H.1 hq
        exact ev_m (loc' := [.ref a0, .ref a1, .ref a2, .int i3]) am_q267 rfl rfl H
      · replace H := H.2 hq
        refine ev_p (pc' := 419) (loc' := [.ref a0, .ref a1, .ref a2, .int i3]) (st' := [.int (0 : Int32)]) 1 am_q267 rfl ?_
        exact ev_r (v := some (.int (0 : Int32))) am_q267 rfl rfl rfl rfl H
    replace H := H.2
    by_cases k122 : (am_gi h a0 (Int32.toNatClampNeg i3)) &&& (63 : Int32) = (6 : Int32)
    · replace H := H.1 k122
      refine ev_s (pc' := 420) (loc' := [.ref a0, .ref a1, .ref a2, .int i3]) (st' := []) (h1 := h) am_q267 rfl rfl rfl (by rw [k122]; rfl) ?_
      refine ev_p (pc' := 425) (loc' := [.ref a0, .ref a1, .ref a2, .int i3]) (st' := [.int (i3 + (1 : Int32)), .ref a0, .ref a1]) 5 am_q267 rfl ?_
      obtain ⟨g110, g111, H⟩ := H
      refine ev_s (pc' := 426) (loc' := [.ref a0, .ref a1, .ref a2, .int i3]) (st' := [.int (am_gi h a0 (Int32.toNatClampNeg (i3 + (1 : Int32)))), .ref a1]) (h1 := h) am_q267 rfl rfl rfl (am_xx g110 g111) ?_
      obtain ⟨g114, H⟩ := H
      refine ev_c (vs := [.ref a1, .int (am_gi h a0 (Int32.toNatClampNeg (i3 + (1 : Int32))))]) (rest := []) 103 am_q267 rfl rfl rfl rfl rfl rfl rfl rfl rfl rfl rfl rfl (Or.inr (congrArg some g114)) (Cl.mono H (Nat.le_refl _) (fun r113 h112 H => ?_))
      obtain ⟨x115, rfl, H⟩ := H
      refine ev_p (pc' := 434) (loc' := [.ref a0, .ref a1, .ref a2, .int i3]) (st' := [.int (i3 + (1 : Int32)), .ref a0, .ref a2, .int x115]) 5 am_q267 rfl ?_
      obtain ⟨g116, g117, H⟩ := H
      refine ev_s (pc' := 435) (loc' := [.ref a0, .ref a1, .ref a2, .int i3]) (st' := [.int (am_gi h112 a0 (Int32.toNatClampNeg (i3 + (1 : Int32)))), .ref a2, .int x115]) (h1 := h112) am_q267 rfl rfl rfl (am_xx g116 g117) ?_
      obtain ⟨g120, H⟩ := H
      refine ev_c (vs := [.ref a2, .int (am_gi h112 a0 (Int32.toNatClampNeg (i3 + (1 : Int32))))]) (rest := [.int x115]) 183 am_q267 rfl rfl rfl rfl rfl rfl rfl rfl rfl rfl rfl rfl (Or.inr (congrArg some g120)) (Cl.mono H (Nat.le_refl _) (fun r119 h118 H => ?_))
      obtain ⟨x121, rfl, H⟩ := H
      refine ev_jc (t := 1496) am_q267 rfl rfl (fun hq => ?_) (fun hq => ?_)
      · replace H := H.1 hq
        exact ev_m (loc' := [.ref a0, .ref a1, .ref a2, .int i3]) am_q267 rfl rfl H
      · replace H := H.2 hq
        refine ev_p (pc' := 442) (loc' := [.ref a0, .ref a1, .ref a2, .int i3]) (st' := [.int (0 : Int32)]) 1 am_q267 rfl ?_
        exact ev_r (v := some (.int (0 : Int32))) am_q267 rfl rfl rfl rfl H
    replace H := H.2
    by_cases k135 : (am_gi h a0 (Int32.toNatClampNeg i3)) &&& (63 : Int32) = (7 : Int32)
    · replace H := H.1 k135
      refine ev_s (pc' := 443) (loc' := [.ref a0, .ref a1, .ref a2, .int i3]) (st' := []) (h1 := h) am_q267 rfl rfl rfl (by rw [k135]; rfl) ?_
      refine ev_p (pc' := 448) (loc' := [.ref a0, .ref a1, .ref a2, .int i3]) (st' := [.int (i3 + (1 : Int32)), .ref a0, .ref a1]) 5 am_q267 rfl ?_
      obtain ⟨g123, g124, H⟩ := H
      refine ev_s (pc' := 449) (loc' := [.ref a0, .ref a1, .ref a2, .int i3]) (st' := [.int (am_gi h a0 (Int32.toNatClampNeg (i3 + (1 : Int32)))), .ref a1]) (h1 := h) am_q267 rfl rfl rfl (am_xx g123 g124) ?_
      obtain ⟨g127, H⟩ := H
      refine ev_c (vs := [.ref a1, .int (am_gi h a0 (Int32.toNatClampNeg (i3 + (1 : Int32))))]) (rest := []) 104 am_q267 rfl rfl rfl rfl rfl rfl rfl rfl rfl rfl rfl rfl (Or.inr (congrArg some g127)) (Cl.mono H (Nat.le_refl _) (fun r126 h125 H => ?_))
      obtain ⟨x128, rfl, H⟩ := H
      refine ev_p (pc' := 457) (loc' := [.ref a0, .ref a1, .ref a2, .int i3]) (st' := [.int (i3 + (1 : Int32)), .ref a0, .ref a2, .int x128]) 5 am_q267 rfl ?_
      obtain ⟨g129, g130, H⟩ := H
      refine ev_s (pc' := 458) (loc' := [.ref a0, .ref a1, .ref a2, .int i3]) (st' := [.int (am_gi h125 a0 (Int32.toNatClampNeg (i3 + (1 : Int32)))), .ref a2, .int x128]) (h1 := h125) am_q267 rfl rfl rfl (am_xx g129 g130) ?_
      obtain ⟨g133, H⟩ := H
      refine ev_c (vs := [.ref a2, .int (am_gi h125 a0 (Int32.toNatClampNeg (i3 + (1 : Int32))))]) (rest := [.int x128]) 186 am_q267 rfl rfl rfl rfl rfl rfl rfl rfl rfl rfl rfl rfl (Or.inr (congrArg some g133)) (Cl.mono H (Nat.le_refl _) (fun r132 h131 H => ?_))
      obtain ⟨x134, rfl, H⟩ := H
      refine ev_jc (t := 1496) am_q267 rfl rfl (fun hq => ?_) (fun hq => ?_)
      · replace H := H.1 hq
        exact ev_m (loc' := [.ref a0, .ref a1, .ref a2, .int i3]) am_q267 rfl rfl H
      · replace H := H.2 hq
        refine ev_p (pc' := 465) (loc' := [.ref a0, .ref a1, .ref a2, .int i3]) (st' := [.int (0 : Int32)]) 1 am_q267 rfl ?_
        exact ev_r (v := some (.int (0 : Int32))) am_q267 rfl rfl rfl rfl H
    replace H := H.2
    by_cases k152 : (am_gi h a0 (Int32.toNatClampNeg i3)) &&& (63 : Int32) = (8 : Int32)
    · replace H := H.1 k152
      refine ev_s (pc' := 466) (loc' := [.ref a0, .ref a1, .ref a2, .int i3]) (st' := []) (h1 := h) am_q267 rfl rfl rfl (by rw [k152]; rfl) ?_
      refine ev_p (pc' := 471) (loc' := [.ref a0, .ref a1, .ref a2, .int i3]) (st' := [.int (i3 + (1 : Int32)), .ref a0, .ref a1]) 5 am_q267 rfl ?_
      obtain ⟨g136, g137, H⟩ := H
      refine ev_s (pc' := 472) (loc' := [.ref a0, .ref a1, .ref a2, .int i3]) (st' := [.int (am_gi h a0 (Int32.toNatClampNeg (i3 + (1 : Int32)))), .ref a1]) (h1 := h) am_q267 rfl rfl rfl (am_xx g136 g137) ?_
      refine ev_p (pc' := 476) (loc' := [.ref a0, .ref a1, .ref a2, .int i3]) (st' := [.int (i3 + (2 : Int32)), .ref a0, .int (am_gi h a0 (Int32.toNatClampNeg (i3 + (1 : Int32)))), .ref a1]) 4 am_q267 rfl ?_
      obtain ⟨g138, g139, H⟩ := H
      refine ev_s (pc' := 477) (loc' := [.ref a0, .ref a1, .ref a2, .int i3]) (st' := [.int (am_gi h a0 (Int32.toNatClampNeg (i3 + (2 : Int32)))), .int (am_gi h a0 (Int32.toNatClampNeg (i3 + (1 : Int32)))), .ref a1]) (h1 := h) am_q267 rfl rfl rfl (am_xx g138 g139) ?_
      obtain ⟨g142, H⟩ := H
      refine ev_c (vs := [.ref a1, .int (am_gi h a0 (Int32.toNatClampNeg (i3 + (1 : Int32)))), .int (am_gi h a0 (Int32.toNatClampNeg (i3 + (2 : Int32))))]) (rest := []) 105 am_q267 rfl rfl rfl rfl rfl rfl rfl rfl rfl rfl rfl rfl (Or.inr (congrArg some g142)) (Cl.mono H (Nat.le_refl _) (fun r141 h140 H => ?_))
      obtain ⟨x143, rfl, H⟩ := H
      refine ev_p (pc' := 485) (loc' := [.ref a0, .ref a1, .ref a2, .int i3]) (st' := [.int (i3 + (1 : Int32)), .ref a0, .ref a2, .int x143]) 5 am_q267 rfl ?_
      obtain ⟨g144, g145, H⟩ := H
      refine ev_s (pc' := 486) (loc' := [.ref a0, .ref a1, .ref a2, .int i3]) (st' := [.int (am_gi h140 a0 (Int32.toNatClampNeg (i3 + (1 : Int32)))), .ref a2, .int x143]) (h1 := h140) am_q267 rfl rfl rfl (am_xx g144 g145) ?_
      refine ev_p (pc' := 490) (loc' := [.ref a0, .ref a1, .ref a2, .int i3]) (st' := [.int (i3 + (2 : Int32)), .ref a0, .int (am_gi h140 a0 (Int32.toNatClampNeg (i3 + (1 : Int32)))), .ref a2, .int x143]) 4 am_q267 rfl ?_
      obtain ⟨g146, g147, H⟩ := H
      refine ev_s (pc' := 491) (loc' := [.ref a0, .ref a1, .ref a2, .int i3]) (st' := [.int (am_gi h140 a0 (Int32.toNatClampNeg (i3 + (2 : Int32)))), .int (am_gi h140 a0 (Int32.toNatClampNeg (i3 + (1 : Int32)))), .ref a2, .int x143]) (h1 := h140) am_q267 rfl rfl rfl (am_xx g146 g147) ?_
      obtain ⟨g150, H⟩ := H
      refine ev_c (vs := [.ref a2, .int (am_gi h140 a0 (Int32.toNatClampNeg (i3 + (1 : Int32)))), .int (am_gi h140 a0 (Int32.toNatClampNeg (i3 + (2 : Int32))))]) (rest := [.int x143]) 187 am_q267 rfl rfl rfl rfl rfl rfl rfl rfl rfl rfl rfl rfl (Or.inr (congrArg some g150)) (Cl.mono H (Nat.le_refl _) (fun r149 h148 H => ?_))
      obtain ⟨x151, rfl, H⟩ := H
      refine ev_jc (t := 1496) am_q267 rfl rfl (fun hq => ?_) (fun hq => ?_)
      · replace H := H.1 hq
        exact ev_m (loc' := [.ref a0, .ref a1, .ref a2, .int i3]) am_q267 rfl rfl H
      · replace H := H.2 hq
        refine ev_p (pc' := 498) (loc' := [.ref a0, .ref a1, .ref a2, .int i3]) (st' := [.int (0 : Int32)]) 1 am_q267 rfl ?_
        exact ev_r (v := some (.int (0 : Int32))) am_q267 rfl rfl rfl rfl H
    replace H := H.2
    by_cases k173 : (am_gi h a0 (Int32.toNatClampNeg i3)) &&& (63 : Int32) = (9 : Int32)
    · replace H := H.1 k173
      refine ev_s (pc' := 499) (loc' := [.ref a0, .ref a1, .ref a2, .int i3]) (st' := []) (h1 := h) am_q267 rfl rfl rfl (by rw [k173]; rfl) ?_
      refine ev_p (pc' := 504) (loc' := [.ref a0, .ref a1, .ref a2, .int i3]) (st' := [.int (i3 + (1 : Int32)), .ref a0, .ref a1]) 5 am_q267 rfl ?_
      obtain ⟨g153, g154, H⟩ := H
      refine ev_s (pc' := 505) (loc' := [.ref a0, .ref a1, .ref a2, .int i3]) (st' := [.int (am_gi h a0 (Int32.toNatClampNeg (i3 + (1 : Int32)))), .ref a1]) (h1 := h) am_q267 rfl rfl rfl (am_xx g153 g154) ?_
      refine ev_p (pc' := 509) (loc' := [.ref a0, .ref a1, .ref a2, .int i3]) (st' := [.int (i3 + (2 : Int32)), .ref a0, .int (am_gi h a0 (Int32.toNatClampNeg (i3 + (1 : Int32)))), .ref a1]) 4 am_q267 rfl ?_
      obtain ⟨g155, g156, H⟩ := H
      refine ev_s (pc' := 510) (loc' := [.ref a0, .ref a1, .ref a2, .int i3]) (st' := [.int (am_gi h a0 (Int32.toNatClampNeg (i3 + (2 : Int32)))), .int (am_gi h a0 (Int32.toNatClampNeg (i3 + (1 : Int32)))), .ref a1]) (h1 := h) am_q267 rfl rfl rfl (am_xx g155 g156) ?_
      refine ev_p (pc' := 514) (loc' := [.ref a0, .ref a1, .ref a2, .int i3]) (st' := [.int (i3 + (3 : Int32)), .ref a0, .int (am_gi h a0 (Int32.toNatClampNeg (i3 + (2 : Int32)))), .int (am_gi h a0 (Int32.toNatClampNeg (i3 + (1 : Int32)))), .ref a1]) 4 am_q267 rfl ?_
      obtain ⟨g157, g158, H⟩ := H
      refine ev_s (pc' := 515) (loc' := [.ref a0, .ref a1, .ref a2, .int i3]) (st' := [.int (am_gi h a0 (Int32.toNatClampNeg (i3 + (3 : Int32)))), .int (am_gi h a0 (Int32.toNatClampNeg (i3 + (2 : Int32)))), .int (am_gi h a0 (Int32.toNatClampNeg (i3 + (1 : Int32)))), .ref a1]) (h1 := h) am_q267 rfl rfl rfl (am_xx g157 g158) ?_
      obtain ⟨g161, H⟩ := H
      refine ev_c (vs := [.ref a1, .int (am_gi h a0 (Int32.toNatClampNeg (i3 + (1 : Int32)))), .int (am_gi h a0 (Int32.toNatClampNeg (i3 + (2 : Int32)))), .int (am_gi h a0 (Int32.toNatClampNeg (i3 + (3 : Int32))))]) (rest := []) 106 am_q267 rfl rfl rfl rfl rfl rfl rfl rfl rfl rfl rfl rfl (Or.inr (congrArg some g161)) (Cl.mono H (Nat.le_refl _) (fun r160 h159 H => ?_))
      obtain ⟨x162, rfl, H⟩ := H
      refine ev_p (pc' := 523) (loc' := [.ref a0, .ref a1, .ref a2, .int i3]) (st' := [.int (i3 + (1 : Int32)), .ref a0, .ref a2, .int x162]) 5 am_q267 rfl ?_
      obtain ⟨g163, g164, H⟩ := H
      refine ev_s (pc' := 524) (loc' := [.ref a0, .ref a1, .ref a2, .int i3]) (st' := [.int (am_gi h159 a0 (Int32.toNatClampNeg (i3 + (1 : Int32)))), .ref a2, .int x162]) (h1 := h159) am_q267 rfl rfl rfl (am_xx g163 g164) ?_
      refine ev_p (pc' := 528) (loc' := [.ref a0, .ref a1, .ref a2, .int i3]) (st' := [.int (i3 + (2 : Int32)), .ref a0, .int (am_gi h159 a0 (Int32.toNatClampNeg (i3 + (1 : Int32)))), .ref a2, .int x162]) 4 am_q267 rfl ?_
      obtain ⟨g165, g166, H⟩ := H
      refine ev_s (pc' := 529) (loc' := [.ref a0, .ref a1, .ref a2, .int i3]) (st' := [.int (am_gi h159 a0 (Int32.toNatClampNeg (i3 + (2 : Int32)))), .int (am_gi h159 a0 (Int32.toNatClampNeg (i3 + (1 : Int32)))), .ref a2, .int x162]) (h1 := h159) am_q267 rfl rfl rfl (am_xx g165 g166) ?_
      refine ev_p (pc' := 533) (loc' := [.ref a0, .ref a1, .ref a2, .int i3]) (st' := [.int (i3 + (3 : Int32)), .ref a0, .int (am_gi h159 a0 (Int32.toNatClampNeg (i3 + (2 : Int32)))), .int (am_gi h159 a0 (Int32.toNatClampNeg (i3 + (1 : Int32)))), .ref a2, .int x162]) 4 am_q267 rfl ?_
      obtain ⟨g167, g168, H⟩ := H
      refine ev_s (pc' := 534) (loc' := [.ref a0, .ref a1, .ref a2, .int i3]) (st' := [.int (am_gi h159 a0 (Int32.toNatClampNeg (i3 + (3 : Int32)))), .int (am_gi h159 a0 (Int32.toNatClampNeg (i3 + (2 : Int32)))), .int (am_gi h159 a0 (Int32.toNatClampNeg (i3 + (1 : Int32)))), .ref a2, .int x162]) (h1 := h159) am_q267 rfl rfl rfl (am_xx g167 g168) ?_
      obtain ⟨g171, H⟩ := H
      refine ev_c (vs := [.ref a2, .int (am_gi h159 a0 (Int32.toNatClampNeg (i3 + (1 : Int32)))), .int (am_gi h159 a0 (Int32.toNatClampNeg (i3 + (2 : Int32)))), .int (am_gi h159 a0 (Int32.toNatClampNeg (i3 + (3 : Int32))))]) (rest := [.int x162]) 188 am_q267 rfl rfl rfl rfl rfl rfl rfl rfl rfl rfl rfl rfl (Or.inr (congrArg some g171)) (Cl.mono H (Nat.le_refl _) (fun r170 h169 H => ?_))
      obtain ⟨x172, rfl, H⟩ := H
      refine ev_jc (t := 1496) am_q267 rfl rfl (fun hq => ?_) (fun hq => ?_)
      · replace H := H.1 hq
        exact ev_m (loc' := [.ref a0, .ref a1, .ref a2, .int i3]) am_q267 rfl rfl H
      · replace H := H.2 hq
        refine ev_p (pc' := 541) (loc' := [.ref a0, .ref a1, .ref a2, .int i3]) (st' := [.int (0 : Int32)]) 1 am_q267 rfl ?_
        exact ev_r (v := some (.int (0 : Int32))) am_q267 rfl rfl rfl rfl H
    replace H := H.2
    by_cases k190 : (am_gi h a0 (Int32.toNatClampNeg i3)) &&& (63 : Int32) = (10 : Int32)
    · replace H := H.1 k190
      refine ev_s (pc' := 542) (loc' := [.ref a0, .ref a1, .ref a2, .int i3]) (st' := []) (h1 := h) am_q267 rfl rfl rfl (by rw [k190]; rfl) ?_
      refine ev_p (pc' := 547) (loc' := [.ref a0, .ref a1, .ref a2, .int i3]) (st' := [.int (i3 + (1 : Int32)), .ref a0, .ref a1]) 5 am_q267 rfl ?_
      obtain ⟨g174, g175, H⟩ := H
      refine ev_s (pc' := 548) (loc' := [.ref a0, .ref a1, .ref a2, .int i3]) (st' := [.int (am_gi h a0 (Int32.toNatClampNeg (i3 + (1 : Int32)))), .ref a1]) (h1 := h) am_q267 rfl rfl rfl (am_xx g174 g175) ?_
      refine ev_p (pc' := 552) (loc' := [.ref a0, .ref a1, .ref a2, .int i3]) (st' := [.int (i3 + (2 : Int32)), .ref a0, .int (am_gi h a0 (Int32.toNatClampNeg (i3 + (1 : Int32)))), .ref a1]) 4 am_q267 rfl ?_
      obtain ⟨g176, g177, H⟩ := H
      refine ev_s (pc' := 553) (loc' := [.ref a0, .ref a1, .ref a2, .int i3]) (st' := [.int (am_gi h a0 (Int32.toNatClampNeg (i3 + (2 : Int32)))), .int (am_gi h a0 (Int32.toNatClampNeg (i3 + (1 : Int32)))), .ref a1]) (h1 := h) am_q267 rfl rfl rfl (am_xx g176 g177) ?_
      obtain ⟨g180, H⟩ := H
      refine ev_c (vs := [.ref a1, .int (am_gi h a0 (Int32.toNatClampNeg (i3 + (1 : Int32)))), .int (am_gi h a0 (Int32.toNatClampNeg (i3 + (2 : Int32))))]) (rest := []) 107 am_q267 rfl rfl rfl rfl rfl rfl rfl rfl rfl rfl rfl rfl (Or.inr (congrArg some g180)) (Cl.mono H (Nat.le_refl _) (fun r179 h178 H => ?_))
      obtain ⟨x181, rfl, H⟩ := H
      refine ev_p (pc' := 561) (loc' := [.ref a0, .ref a1, .ref a2, .int i3]) (st' := [.int (i3 + (1 : Int32)), .ref a0, .ref a2, .int x181]) 5 am_q267 rfl ?_
      obtain ⟨g182, g183, H⟩ := H
      refine ev_s (pc' := 562) (loc' := [.ref a0, .ref a1, .ref a2, .int i3]) (st' := [.int (am_gi h178 a0 (Int32.toNatClampNeg (i3 + (1 : Int32)))), .ref a2, .int x181]) (h1 := h178) am_q267 rfl rfl rfl (am_xx g182 g183) ?_
      refine ev_p (pc' := 566) (loc' := [.ref a0, .ref a1, .ref a2, .int i3]) (st' := [.int (i3 + (2 : Int32)), .ref a0, .int (am_gi h178 a0 (Int32.toNatClampNeg (i3 + (1 : Int32)))), .ref a2, .int x181]) 4 am_q267 rfl ?_
      obtain ⟨g184, g185, H⟩ := H
      refine ev_s (pc' := 567) (loc' := [.ref a0, .ref a1, .ref a2, .int i3]) (st' := [.int (am_gi h178 a0 (Int32.toNatClampNeg (i3 + (2 : Int32)))), .int (am_gi h178 a0 (Int32.toNatClampNeg (i3 + (1 : Int32)))), .ref a2, .int x181]) (h1 := h178) am_q267 rfl rfl rfl (am_xx g184 g185) ?_
      obtain ⟨g188, H⟩ := H
      refine ev_c (vs := [.ref a2, .int (am_gi h178 a0 (Int32.toNatClampNeg (i3 + (1 : Int32)))), .int (am_gi h178 a0 (Int32.toNatClampNeg (i3 + (2 : Int32))))]) (rest := [.int x181]) 189 am_q267 rfl rfl rfl rfl rfl rfl rfl rfl rfl rfl rfl rfl (Or.inr (congrArg some g188)) (Cl.mono H (Nat.le_refl _) (fun r187 h186 H => ?_))
      obtain ⟨x189, rfl, H⟩ := H
      refine ev_jc (t := 1496) am_q267 rfl rfl (fun hq => ?_) (fun hq => ?_)
      · replace H := H.1 hq
        exact ev_m (loc' := [.ref a0, .ref a1, .ref a2, .int i3]) am_q267 rfl rfl H
      · replace H := H.2 hq
        refine ev_p (pc' := 574) (loc' := [.ref a0, .ref a1, .ref a2, .int i3]) (st' := [.int (0 : Int32)]) 1 am_q267 rfl ?_
        exact ev_r (v := some (.int (0 : Int32))) am_q267 rfl rfl rfl rfl H
    replace H := H.2
    by_cases k207 : (am_gi h a0 (Int32.toNatClampNeg i3)) &&& (63 : Int32) = (11 : Int32)
    · replace H := H.1 k207
      refine ev_s (pc' := 575) (loc' := [.ref a0, .ref a1, .ref a2, .int i3]) (st' := []) (h1 := h) am_q267 rfl rfl rfl (by rw [k207]; rfl) ?_
      refine ev_p (pc' := 580) (loc' := [.ref a0, .ref a1, .ref a2, .int i3]) (st' := [.int (i3 + (1 : Int32)), .ref a0, .ref a1]) 5 am_q267 rfl ?_
      obtain ⟨g191, g192, H⟩ := H
      refine ev_s (pc' := 581) (loc' := [.ref a0, .ref a1, .ref a2, .int i3]) (st' := [.int (am_gi h a0 (Int32.toNatClampNeg (i3 + (1 : Int32)))), .ref a1]) (h1 := h) am_q267 rfl rfl rfl (am_xx g191 g192) ?_
      refine ev_p (pc' := 585) (loc' := [.ref a0, .ref a1, .ref a2, .int i3]) (st' := [.int (i3 + (2 : Int32)), .ref a0, .int (am_gi h a0 (Int32.toNatClampNeg (i3 + (1 : Int32)))), .ref a1]) 4 am_q267 rfl ?_
      obtain ⟨g193, g194, H⟩ := H
      refine ev_s (pc' := 586) (loc' := [.ref a0, .ref a1, .ref a2, .int i3]) (st' := [.int (am_gi h a0 (Int32.toNatClampNeg (i3 + (2 : Int32)))), .int (am_gi h a0 (Int32.toNatClampNeg (i3 + (1 : Int32)))), .ref a1]) (h1 := h) am_q267 rfl rfl rfl (am_xx g193 g194) ?_
      obtain ⟨g197, H⟩ := H
      refine ev_c (vs := [.ref a1, .int (am_gi h a0 (Int32.toNatClampNeg (i3 + (1 : Int32)))), .int (am_gi h a0 (Int32.toNatClampNeg (i3 + (2 : Int32))))]) (rest := []) 108 am_q267 rfl rfl rfl rfl rfl rfl rfl rfl rfl rfl rfl rfl (Or.inr (congrArg some g197)) (Cl.mono H (Nat.le_refl _) (fun r196 h195 H => ?_))
      obtain ⟨x198, rfl, H⟩ := H
      refine ev_p (pc' := 594) (loc' := [.ref a0, .ref a1, .ref a2, .int i3]) (st' := [.int (i3 + (1 : Int32)), .ref a0, .ref a2, .int x198]) 5 am_q267 rfl ?_
      obtain ⟨g199, g200, H⟩ := H
      refine ev_s (pc' := 595) (loc' := [.ref a0, .ref a1, .ref a2, .int i3]) (st' := [.int (am_gi h195 a0 (Int32.toNatClampNeg (i3 + (1 : Int32)))), .ref a2, .int x198]) (h1 := h195) am_q267 rfl rfl rfl (am_xx g199 g200) ?_
      refine ev_p (pc' := 599) (loc' := [.ref a0, .ref a1, .ref a2, .int i3]) (st' := [.int (i3 + (2 : Int32)), .ref a0, .int (am_gi h195 a0 (Int32.toNatClampNeg (i3 + (1 : Int32)))), .ref a2, .int x198]) 4 am_q267 rfl ?_
      obtain ⟨g201, g202, H⟩ := H
      refine ev_s (pc' := 600) (loc' := [.ref a0, .ref a1, .ref a2, .int i3]) (st' := [.int (am_gi h195 a0 (Int32.toNatClampNeg (i3 + (2 : Int32)))), .int (am_gi h195 a0 (Int32.toNatClampNeg (i3 + (1 : Int32)))), .ref a2, .int x198]) (h1 := h195) am_q267 rfl rfl rfl (am_xx g201 g202) ?_
      obtain ⟨g205, H⟩ := H
      refine ev_c (vs := [.ref a2, .int (am_gi h195 a0 (Int32.toNatClampNeg (i3 + (1 : Int32)))), .int (am_gi h195 a0 (Int32.toNatClampNeg (i3 + (2 : Int32))))]) (rest := [.int x198]) 191 am_q267 rfl rfl rfl rfl rfl rfl rfl rfl rfl rfl rfl rfl (Or.inr (congrArg some g205)) (Cl.mono H (Nat.le_refl _) (fun r204 h203 H => ?_))
      obtain ⟨x206, rfl, H⟩ := H
      refine ev_jc (t := 1496) am_q267 rfl rfl (fun hq => ?_) (fun hq => ?_)
      · replace H := H.1 hq
        exact ev_m (loc' := [.ref a0, .ref a1, .ref a2, .int i3]) am_q267 rfl rfl H
      · replace H := H.2 hq
        refine ev_p (pc' := 607) (loc' := [.ref a0, .ref a1, .ref a2, .int i3]) (st' := [.int (0 : Int32)]) 1 am_q267 rfl ?_
        exact ev_r (v := some (.int (0 : Int32))) am_q267 rfl rfl rfl rfl H
    replace H := H.2
    by_cases k228 : (am_gi h a0 (Int32.toNatClampNeg i3)) &&& (63 : Int32) = (12 : Int32)
    · replace H := H.1 k228
      refine ev_s (pc' := 608) (loc' := [.ref a0, .ref a1, .ref a2, .int i3]) (st' := []) (h1 := h) am_q267 rfl rfl rfl (by rw [k228]; rfl) ?_
      refine ev_p (pc' := 613) (loc' := [.ref a0, .ref a1, .ref a2, .int i3]) (st' := [.int (i3 + (1 : Int32)), .ref a0, .ref a1]) 5 am_q267 rfl ?_
      obtain ⟨g208, g209, H⟩ := H
      refine ev_s (pc' := 614) (loc' := [.ref a0, .ref a1, .ref a2, .int i3]) (st' := [.int (am_gi h a0 (Int32.toNatClampNeg (i3 + (1 : Int32)))), .ref a1]) (h1 := h) am_q267 rfl rfl rfl (am_xx g208 g209) ?_
      refine ev_p (pc' := 618) (loc' := [.ref a0, .ref a1, .ref a2, .int i3]) (st' := [.int (i3 + (2 : Int32)), .ref a0, .int (am_gi h a0 (Int32.toNatClampNeg (i3 + (1 : Int32)))), .ref a1]) 4 am_q267 rfl ?_
      obtain ⟨g210, g211, H⟩ := H
      refine ev_s (pc' := 619) (loc' := [.ref a0, .ref a1, .ref a2, .int i3]) (st' := [.int (am_gi h a0 (Int32.toNatClampNeg (i3 + (2 : Int32)))), .int (am_gi h a0 (Int32.toNatClampNeg (i3 + (1 : Int32)))), .ref a1]) (h1 := h) am_q267 rfl rfl rfl (am_xx g210 g211) ?_
      refine ev_p (pc' := 627) (loc' := [.ref a0, .ref a1, .ref a2, .int i3]) (st' := [.int (i3 + (3 : Int32)), .ref a0, .long ((Int32.toInt64 (am_gi h a0 (Int32.toNatClampNeg (i3 + (2 : Int32))))) <<< (Int32.toInt64 (32 : Int32) &&& 63)), .int (am_gi h a0 (Int32.toNatClampNeg (i3 + (1 : Int32)))), .ref a1]) 7 am_q267 rfl ?_
      obtain ⟨g212, g213, H⟩ := H
      refine ev_s (pc' := 628) (loc' := [.ref a0, .ref a1, .ref a2, .int i3]) (st' := [.int (am_gi h a0 (Int32.toNatClampNeg (i3 + (3 : Int32)))), .long ((Int32.toInt64 (am_gi h a0 (Int32.toNatClampNeg (i3 + (2 : Int32))))) <<< (Int32.toInt64 (32 : Int32) &&& 63)), .int (am_gi h a0 (Int32.toNatClampNeg (i3 + (1 : Int32)))), .ref a1]) (h1 := h) am_q267 rfl rfl rfl (am_xx g212 g213) ?_
      refine ev_p (pc' := 634) (loc' := [.ref a0, .ref a1, .ref a2, .int i3]) (st' := [.long (((Int32.toInt64 (am_gi h a0 (Int32.toNatClampNeg (i3 + (2 : Int32))))) <<< (Int32.toInt64 (32 : Int32) &&& 63)) ||| ((Int32.toInt64 (am_gi h a0 (Int32.toNatClampNeg (i3 + (3 : Int32))))) &&& (4294967295 : Int64))), .int (am_gi h a0 (Int32.toNatClampNeg (i3 + (1 : Int32)))), .ref a1]) 4 am_q267 rfl ?_
      obtain ⟨g216, H⟩ := H
      refine ev_c (vs := [.ref a1, .int (am_gi h a0 (Int32.toNatClampNeg (i3 + (1 : Int32)))), .long (((Int32.toInt64 (am_gi h a0 (Int32.toNatClampNeg (i3 + (2 : Int32))))) <<< (Int32.toInt64 (32 : Int32) &&& 63)) ||| ((Int32.toInt64 (am_gi h a0 (Int32.toNatClampNeg (i3 + (3 : Int32))))) &&& (4294967295 : Int64)))]) (rest := []) 109 am_q267 rfl rfl rfl rfl rfl rfl rfl rfl rfl rfl rfl rfl (Or.inr (congrArg some g216)) (Cl.mono H (Nat.le_refl _) (fun r215 h214 H => ?_))
      obtain ⟨x217, rfl, H⟩ := H
      refine ev_p (pc' := 642) (loc' := [.ref a0, .ref a1, .ref a2, .int i3]) (st' := [.int (i3 + (1 : Int32)), .ref a0, .ref a2, .int x217]) 5 am_q267 rfl ?_
      obtain ⟨g218, g219, H⟩ := H
      refine ev_s (pc' := 643) (loc' := [.ref a0, .ref a1, .ref a2, .int i3]) (st' := [.int (am_gi h214 a0 (Int32.toNatClampNeg (i3 + (1 : Int32)))), .ref a2, .int x217]) (h1 := h214) am_q267 rfl rfl rfl (am_xx g218 g219) ?_
      refine ev_p (pc' := 647) (loc' := [.ref a0, .ref a1, .ref a2, .int i3]) (st' := [.int (i3 + (2 : Int32)), .ref a0, .int (am_gi h214 a0 (Int32.toNatClampNeg (i3 + (1 : Int32)))), .ref a2, .int x217]) 4 am_q267 rfl ?_
      obtain ⟨g220, g221, H⟩ := H
      refine ev_s (pc' := 648) (loc' := [.ref a0, .ref a1, .ref a2, .int i3]) (st' := [.int (am_gi h214 a0 (Int32.toNatClampNeg (i3 + (2 : Int32)))), .int (am_gi h214 a0 (Int32.toNatClampNeg (i3 + (1 : Int32)))), .ref a2, .int x217]) (h1 := h214) am_q267 rfl rfl rfl (am_xx g220 g221) ?_
      refine ev_p (pc' := 656) (loc' := [.ref a0, .ref a1, .ref a2, .int i3]) (st' := [.int (i3 + (3 : Int32)), .ref a0, .long ((Int32.toInt64 (am_gi h214 a0 (Int32.toNatClampNeg (i3 + (2 : Int32))))) <<< (Int32.toInt64 (32 : Int32) &&& 63)), .int (am_gi h214 a0 (Int32.toNatClampNeg (i3 + (1 : Int32)))), .ref a2, .int x217]) 7 am_q267 rfl ?_
      obtain ⟨g222, g223, H⟩ := H
      refine ev_s (pc' := 657) (loc' := [.ref a0, .ref a1, .ref a2, .int i3]) (st' := [.int (am_gi h214 a0 (Int32.toNatClampNeg (i3 + (3 : Int32)))), .long ((Int32.toInt64 (am_gi h214 a0 (Int32.toNatClampNeg (i3 + (2 : Int32))))) <<< (Int32.toInt64 (32 : Int32) &&& 63)), .int (am_gi h214 a0 (Int32.toNatClampNeg (i3 + (1 : Int32)))), .ref a2, .int x217]) (h1 := h214) am_q267 rfl rfl rfl (am_xx g222 g223) ?_
      refine ev_p (pc' := 663) (loc' := [.ref a0, .ref a1, .ref a2, .int i3]) (st' := [.long (((Int32.toInt64 (am_gi h214 a0 (Int32.toNatClampNeg (i3 + (2 : Int32))))) <<< (Int32.toInt64 (32 : Int32) &&& 63)) ||| ((Int32.toInt64 (am_gi h214 a0 (Int32.toNatClampNeg (i3 + (3 : Int32))))) &&& (4294967295 : Int64))), .int (am_gi h214 a0 (Int32.toNatClampNeg (i3 + (1 : Int32)))), .ref a2, .int x217]) 4 am_q267 rfl ?_
      obtain ⟨g226, H⟩ := H
      refine ev_c (vs := [.ref a2, .int (am_gi h214 a0 (Int32.toNatClampNeg (i3 + (1 : Int32)))), .long (((Int32.toInt64 (am_gi h214 a0 (Int32.toNatClampNeg (i3 + (2 : Int32))))) <<< (Int32.toInt64 (32 : Int32) &&& 63)) ||| ((Int32.toInt64 (am_gi h214 a0 (Int32.toNatClampNeg (i3 + (3 : Int32))))) &&& (4294967295 : Int64)))]) (rest := [.int x217]) 216 am_q267 rfl rfl rfl rfl rfl rfl rfl rfl rfl rfl rfl rfl (Or.inr (congrArg some g226)) (Cl.mono H (Nat.le_refl _) (fun r225 h224 H => ?_))
      obtain ⟨x227, rfl, H⟩ := H
      refine ev_jc (t := 1496) am_q267 rfl rfl (fun hq => ?_) (fun hq => ?_)
      · replace H := H.1 hq
        exact ev_m (loc' := [.ref a0, .ref a1, .ref a2, .int i3]) am_q267 rfl rfl H
      · replace H := H.2 hq
        refine ev_p (pc' := 670) (loc' := [.ref a0, .ref a1, .ref a2, .int i3]) (st' := [.int (0 : Int32)]) 1 am_q267 rfl ?_
        exact ev_r (v := some (.int (0 : Int32))) am_q267 rfl rfl rfl rfl H
    replace H := H.2
    by_cases k237 : (am_gi h a0 (Int32.toNatClampNeg i3)) &&& (63 : Int32) = (13 : Int32)
    · replace H := H.1 k237
      refine ev_s (pc' := 671) (loc' := [.ref a0, .ref a1, .ref a2, .int i3]) (st' := []) (h1 := h) am_q267 rfl rfl rfl (by rw [k237]; rfl) ?_
      refine ev_p (pc' := 672) (loc' := [.ref a0, .ref a1, .ref a2, .int i3]) (st' := [.ref a1]) 1 am_q267 rfl ?_
      obtain ⟨g231, H⟩ := H
      refine ev_c (vs := [.ref a1]) (rest := []) 110 am_q267 rfl rfl rfl rfl rfl rfl rfl rfl rfl rfl rfl rfl (Or.inr (congrArg some g231)) (Cl.mono H (Nat.le_refl _) (fun r230 h229 H => ?_))
      obtain ⟨x232, rfl, H⟩ := H
      refine ev_p (pc' := 676) (loc' := [.ref a0, .ref a1, .ref a2, .int i3]) (st' := [.ref a2, .int x232]) 1 am_q267 rfl ?_
      obtain ⟨g235, H⟩ := H
      refine ev_c (vs := [.ref a2]) (rest := [.int x232]) 217 am_q267 rfl rfl rfl rfl rfl rfl rfl rfl rfl rfl rfl rfl (Or.inr (congrArg some g235)) (Cl.mono H (Nat.le_refl _) (fun r234 h233 H => ?_))
      obtain ⟨x236, rfl, H⟩ := H
      refine ev_jc (t := 1496) am_q267 rfl rfl (fun hq => ?_) (fun hq => ?_)
      · replace H := H.1 hq
        exact ev_m (loc' := [.ref a0, .ref a1, .ref a2, .int i3]) am_q267 rfl rfl H
      · replace H := H.2 hq
        refine ev_p (pc' := 683) (loc' := [.ref a0, .ref a1, .ref a2, .int i3]) (st' := [.int (0 : Int32)]) 1 am_q267 rfl ?_
        exact ev_r (v := some (.int (0 : Int32))) am_q267 rfl rfl rfl rfl H
    replace H := H.2
    by_cases k250 : (am_gi h a0 (Int32.toNatClampNeg i3)) &&& (63 : Int32) = (14 : Int32)
    · replace H := H.1 k250
      refine ev_s (pc' := 684) (loc' := [.ref a0, .ref a1, .ref a2, .int i3]) (st' := []) (h1 := h) am_q267 rfl rfl rfl (by rw [k250]; rfl) ?_
      refine ev_p (pc' := 689) (loc' := [.ref a0, .ref a1, .ref a2, .int i3]) (st' := [.int (i3 + (1 : Int32)), .ref a0, .ref a1]) 5 am_q267 rfl ?_
      obtain ⟨g238, g239, H⟩ := H
      refine ev_s (pc' := 690) (loc' := [.ref a0, .ref a1, .ref a2, .int i3]) (st' := [.int (am_gi h a0 (Int32.toNatClampNeg (i3 + (1 : Int32)))), .ref a1]) (h1 := h) am_q267 rfl rfl rfl (am_xx g238 g239) ?_
      obtain ⟨g242, H⟩ := H
      refine ev_c (vs := [.ref a1, .int (am_gi h a0 (Int32.toNatClampNeg (i3 + (1 : Int32))))]) (rest := []) 111 am_q267 rfl rfl rfl rfl rfl rfl rfl rfl rfl rfl rfl rfl (Or.inr (congrArg some g242)) (Cl.mono H (Nat.le_refl _) (fun r241 h240 H => ?_))
      obtain ⟨x243, rfl, H⟩ := H
      refine ev_p (pc' := 698) (loc' := [.ref a0, .ref a1, .ref a2, .int i3]) (st' := [.int (i3 + (1 : Int32)), .ref a0, .ref a2, .int x243]) 5 am_q267 rfl ?_
      obtain ⟨g244, g245, H⟩ := H
      refine ev_s (pc' := 699) (loc' := [.ref a0, .ref a1, .ref a2, .int i3]) (st' := [.int (am_gi h240 a0 (Int32.toNatClampNeg (i3 + (1 : Int32)))), .ref a2, .int x243]) (h1 := h240) am_q267 rfl rfl rfl (am_xx g244 g245) ?_
      obtain ⟨g248, H⟩ := H
      refine ev_c (vs := [.ref a2, .int (am_gi h240 a0 (Int32.toNatClampNeg (i3 + (1 : Int32))))]) (rest := [.int x243]) 218 am_q267 rfl rfl rfl rfl rfl rfl rfl rfl rfl rfl rfl rfl (Or.inr (congrArg some g248)) (Cl.mono H (Nat.le_refl _) (fun r247 h246 H => ?_))
      obtain ⟨x249, rfl, H⟩ := H
      refine ev_jc (t := 1496) am_q267 rfl rfl (fun hq => ?_) (fun hq => ?_)
      · replace H := H.1 hq
        exact ev_m (loc' := [.ref a0, .ref a1, .ref a2, .int i3]) am_q267 rfl rfl H
      · replace H := H.2 hq
        refine ev_p (pc' := 706) (loc' := [.ref a0, .ref a1, .ref a2, .int i3]) (st' := [.int (0 : Int32)]) 1 am_q267 rfl ?_
        exact ev_r (v := some (.int (0 : Int32))) am_q267 rfl rfl rfl rfl H
    replace H := H.2
    by_cases k257 : (am_gi h a0 (Int32.toNatClampNeg i3)) &&& (63 : Int32) = (15 : Int32)
    · replace H := H.1 k257
      refine ev_s (pc' := 707) (loc' := [.ref a0, .ref a1, .ref a2, .int i3]) (st' := []) (h1 := h) am_q267 rfl rfl rfl (by rw [k257]; rfl) ?_
      refine ev_p (pc' := 712) (loc' := [.ref a0, .ref a1, .ref a2, .int i3]) (st' := [.int (i3 + (1 : Int32)), .ref a0, .ref a1]) 5 am_q267 rfl ?_
      obtain ⟨g251, g252, H⟩ := H
      refine ev_s (pc' := 713) (loc' := [.ref a0, .ref a1, .ref a2, .int i3]) (st' := [.int (am_gi h a0 (Int32.toNatClampNeg (i3 + (1 : Int32)))), .ref a1]) (h1 := h) am_q267 rfl rfl rfl (am_xx g251 g252) ?_
      refine ev_p (pc' := 717) (loc' := [.ref a0, .ref a1, .ref a2, .int i3]) (st' := [.int (i3 + (2 : Int32)), .ref a0, .int (am_gi h a0 (Int32.toNatClampNeg (i3 + (1 : Int32)))), .ref a1]) 4 am_q267 rfl ?_
      obtain ⟨g253, g254, H⟩ := H
      refine ev_s (pc' := 718) (loc' := [.ref a0, .ref a1, .ref a2, .int i3]) (st' := [.int (am_gi h a0 (Int32.toNatClampNeg (i3 + (2 : Int32)))), .int (am_gi h a0 (Int32.toNatClampNeg (i3 + (1 : Int32)))), .ref a1]) (h1 := h) am_q267 rfl rfl rfl (am_xx g253 g254) ?_
      refine ev_p (pc' := 722) (loc' := [.ref a0, .ref a1, .ref a2, .int i3]) (st' := [.int (i3 + (3 : Int32)), .ref a0, .int (am_gi h a0 (Int32.toNatClampNeg (i3 + (2 : Int32)))), .int (am_gi h a0 (Int32.toNatClampNeg (i3 + (1 : Int32)))), .ref a1]) 4 am_q267 rfl ?_
      obtain ⟨g255, g256, H⟩ := H
      refine ev_s (pc' := 723) (loc' := [.ref a0, .ref a1, .ref a2, .int i3]) (st' := [.int (am_gi h a0 (Int32.toNatClampNeg (i3 + (3 : Int32)))), .int (am_gi h a0 (Int32.toNatClampNeg (i3 + (2 : Int32)))), .int (am_gi h a0 (Int32.toNatClampNeg (i3 + (1 : Int32)))), .ref a1]) (h1 := h) am_q267 rfl rfl rfl (am_xx g255 g256) ?_
      refine ev_jz (t := 730) am_q267 rfl rfl (fun hq => ?_) (fun hq => ?_)
      · replace H := H.1 hq
        refine ev_p (pc' := 731) (loc' := [.ref a0, .ref a1, .ref a2, .int i3]) (st' := [.int (0 : Int32), .int (am_gi h a0 (Int32.toNatClampNeg (i3 + (2 : Int32)))), .int (am_gi h a0 (Int32.toNatClampNeg (i3 + (1 : Int32)))), .ref a1]) 1 am_q267 rfl ?_
        exact ev_m (loc' := [.ref a0, .ref a1, .ref a2, .int i3]) am_q267 rfl rfl H
      · replace H := H.2 hq
        refine ev_p (pc' := 731) (loc' := [.ref a0, .ref a1, .ref a2, .int i3]) (st' := [.int (1 : Int32), .int (am_gi h a0 (Int32.toNatClampNeg (i3 + (2 : Int32)))), .int (am_gi h a0 (Int32.toNatClampNeg (i3 + (1 : Int32)))), .ref a1]) 2 am_q267 rfl ?_
        exact ev_m (loc' := [.ref a0, .ref a1, .ref a2, .int i3]) am_q267 rfl rfl H
    replace H := H.2
    by_cases k274 : (am_gi h a0 (Int32.toNatClampNeg i3)) &&& (63 : Int32) = (16 : Int32)
    · replace H := H.1 k274
      refine ev_s (pc' := 766) (loc' := [.ref a0, .ref a1, .ref a2, .int i3]) (st' := []) (h1 := h) am_q267 rfl rfl rfl (by rw [k274]; rfl) ?_
      refine ev_p (pc' := 771) (loc' := [.ref a0, .ref a1, .ref a2, .int i3]) (st' := [.int (i3 + (1 : Int32)), .ref a0, .ref a1]) 5 am_q267 rfl ?_
      obtain ⟨g258, g259, H⟩ := H
      refine ev_s (pc' := 772) (loc' := [.ref a0, .ref a1, .ref a2, .int i3]) (st' := [.int (am_gi h a0 (Int32.toNatClampNeg (i3 + (1 : Int32)))), .ref a1]) (h1 := h) am_q267 rfl rfl rfl (am_xx g258 g259) ?_
      refine ev_p (pc' := 776) (loc' := [.ref a0, .ref a1, .ref a2, .int i3]) (st' := [.int (i3 + (2 : Int32)), .ref a0, .int (am_gi h a0 (Int32.toNatClampNeg (i3 + (1 : Int32)))), .ref a1]) 4 am_q267 rfl ?_
      obtain ⟨g260, g261, H⟩ := H
      refine ev_s (pc' := 777) (loc' := [.ref a0, .ref a1, .ref a2, .int i3]) (st' := [.int (am_gi h a0 (Int32.toNatClampNeg (i3 + (2 : Int32)))), .int (am_gi h a0 (Int32.toNatClampNeg (i3 + (1 : Int32)))), .ref a1]) (h1 := h) am_q267 rfl rfl rfl (am_xx g260 g261) ?_
      obtain ⟨g264, H⟩ := H
      refine ev_c (vs := [.ref a1, .int (am_gi h a0 (Int32.toNatClampNeg (i3 + (1 : Int32)))), .int (am_gi h a0 (Int32.toNatClampNeg (i3 + (2 : Int32))))]) (rest := []) 113 am_q267 rfl rfl rfl rfl rfl rfl rfl rfl rfl rfl rfl rfl (Or.inr (congrArg some g264)) (Cl.mono H (Nat.le_refl _) (fun r263 h262 H => ?_))
      obtain ⟨x265, rfl, H⟩ := H
      refine ev_p (pc' := 785) (loc' := [.ref a0, .ref a1, .ref a2, .int i3]) (st' := [.int (i3 + (1 : Int32)), .ref a0, .ref a2, .int x265]) 5 am_q267 rfl ?_
      obtain ⟨g266, g267, H⟩ := H
      refine ev_s (pc' := 786) (loc' := [.ref a0, .ref a1, .ref a2, .int i3]) (st' := [.int (am_gi h262 a0 (Int32.toNatClampNeg (i3 + (1 : Int32)))), .ref a2, .int x265]) (h1 := h262) am_q267 rfl rfl rfl (am_xx g266 g267) ?_
      refine ev_p (pc' := 790) (loc' := [.ref a0, .ref a1, .ref a2, .int i3]) (st' := [.int (i3 + (2 : Int32)), .ref a0, .int (am_gi h262 a0 (Int32.toNatClampNeg (i3 + (1 : Int32)))), .ref a2, .int x265]) 4 am_q267 rfl ?_
      obtain ⟨g268, g269, H⟩ := H
      refine ev_s (pc' := 791) (loc' := [.ref a0, .ref a1, .ref a2, .int i3]) (st' := [.int (am_gi h262 a0 (Int32.toNatClampNeg (i3 + (2 : Int32)))), .int (am_gi h262 a0 (Int32.toNatClampNeg (i3 + (1 : Int32)))), .ref a2, .int x265]) (h1 := h262) am_q267 rfl rfl rfl (am_xx g268 g269) ?_
      obtain ⟨g272, H⟩ := H
      refine ev_c (vs := [.ref a2, .int (am_gi h262 a0 (Int32.toNatClampNeg (i3 + (1 : Int32)))), .int (am_gi h262 a0 (Int32.toNatClampNeg (i3 + (2 : Int32))))]) (rest := [.int x265]) 221 am_q267 rfl rfl rfl rfl rfl rfl rfl rfl rfl rfl rfl rfl (Or.inr (congrArg some g272)) (Cl.mono H (Nat.le_refl _) (fun r271 h270 H => ?_))
      obtain ⟨x273, rfl, H⟩ := H
      refine ev_jc (t := 1496) am_q267 rfl rfl (fun hq => ?_) (fun hq => ?_)
      · replace H := H.1 hq
        exact ev_m (loc' := [.ref a0, .ref a1, .ref a2, .int i3]) am_q267 rfl rfl H
      · replace H := H.2 hq
        refine ev_p (pc' := 798) (loc' := [.ref a0, .ref a1, .ref a2, .int i3]) (st' := [.int (0 : Int32)]) 1 am_q267 rfl ?_
        exact ev_r (v := some (.int (0 : Int32))) am_q267 rfl rfl rfl rfl H
    replace H := H.2
    by_cases k287 : (am_gi h a0 (Int32.toNatClampNeg i3)) &&& (63 : Int32) = (17 : Int32)
    · replace H := H.1 k287
      refine ev_s (pc' := 799) (loc' := [.ref a0, .ref a1, .ref a2, .int i3]) (st' := []) (h1 := h) am_q267 rfl rfl rfl (by rw [k287]; rfl) ?_
      refine ev_p (pc' := 804) (loc' := [.ref a0, .ref a1, .ref a2, .int i3]) (st' := [.int (i3 + (1 : Int32)), .ref a0, .ref a1]) 5 am_q267 rfl ?_
      obtain ⟨g275, g276, H⟩ := H
      refine ev_s (pc' := 805) (loc' := [.ref a0, .ref a1, .ref a2, .int i3]) (st' := [.int (am_gi h a0 (Int32.toNatClampNeg (i3 + (1 : Int32)))), .ref a1]) (h1 := h) am_q267 rfl rfl rfl (am_xx g275 g276) ?_
      obtain ⟨g279, H⟩ := H
      refine ev_c (vs := [.ref a1, .int (am_gi h a0 (Int32.toNatClampNeg (i3 + (1 : Int32))))]) (rest := []) 114 am_q267 rfl rfl rfl rfl rfl rfl rfl rfl rfl rfl rfl rfl (Or.inr (congrArg some g279)) (Cl.mono H (Nat.le_refl _) (fun r278 h277 H => ?_))
      obtain ⟨x280, rfl, H⟩ := H
      refine ev_p (pc' := 813) (loc' := [.ref a0, .ref a1, .ref a2, .int i3]) (st' := [.int (i3 + (1 : Int32)), .ref a0, .ref a2, .int x280]) 5 am_q267 rfl ?_
      obtain ⟨g281, g282, H⟩ := H
      refine ev_s (pc' := 814) (loc' := [.ref a0, .ref a1, .ref a2, .int i3]) (st' := [.int (am_gi h277 a0 (Int32.toNatClampNeg (i3 + (1 : Int32)))), .ref a2, .int x280]) (h1 := h277) am_q267 rfl rfl rfl (am_xx g281 g282) ?_
      obtain ⟨g285, H⟩ := H
      refine ev_c (vs := [.ref a2, .int (am_gi h277 a0 (Int32.toNatClampNeg (i3 + (1 : Int32))))]) (rest := [.int x280]) 222 am_q267 rfl rfl rfl rfl rfl rfl rfl rfl rfl rfl rfl rfl (Or.inr (congrArg some g285)) (Cl.mono H (Nat.le_refl _) (fun r284 h283 H => ?_))
      obtain ⟨x286, rfl, H⟩ := H
      refine ev_jc (t := 1496) am_q267 rfl rfl (fun hq => ?_) (fun hq => ?_)
      · replace H := H.1 hq
        exact ev_m (loc' := [.ref a0, .ref a1, .ref a2, .int i3]) am_q267 rfl rfl H
      · replace H := H.2 hq
        refine ev_p (pc' := 821) (loc' := [.ref a0, .ref a1, .ref a2, .int i3]) (st' := [.int (0 : Int32)]) 1 am_q267 rfl ?_
        exact ev_r (v := some (.int (0 : Int32))) am_q267 rfl rfl rfl rfl H
    replace H := H.2
    by_cases k304 : (am_gi h a0 (Int32.toNatClampNeg i3)) &&& (63 : Int32) = (18 : Int32)
    · replace H := H.1 k304
      refine ev_s (pc' := 822) (loc' := [.ref a0, .ref a1, .ref a2, .int i3]) (st' := []) (h1 := h) am_q267 rfl rfl rfl (by rw [k304]; rfl) ?_
      refine ev_p (pc' := 827) (loc' := [.ref a0, .ref a1, .ref a2, .int i3]) (st' := [.int (i3 + (1 : Int32)), .ref a0, .ref a1]) 5 am_q267 rfl ?_
      obtain ⟨g288, g289, H⟩ := H
      refine ev_s (pc' := 828) (loc' := [.ref a0, .ref a1, .ref a2, .int i3]) (st' := [.int (am_gi h a0 (Int32.toNatClampNeg (i3 + (1 : Int32)))), .ref a1]) (h1 := h) am_q267 rfl rfl rfl (am_xx g288 g289) ?_
      refine ev_p (pc' := 832) (loc' := [.ref a0, .ref a1, .ref a2, .int i3]) (st' := [.int (i3 + (2 : Int32)), .ref a0, .int (am_gi h a0 (Int32.toNatClampNeg (i3 + (1 : Int32)))), .ref a1]) 4 am_q267 rfl ?_
      obtain ⟨g290, g291, H⟩ := H
      refine ev_s (pc' := 833) (loc' := [.ref a0, .ref a1, .ref a2, .int i3]) (st' := [.int (am_gi h a0 (Int32.toNatClampNeg (i3 + (2 : Int32)))), .int (am_gi h a0 (Int32.toNatClampNeg (i3 + (1 : Int32)))), .ref a1]) (h1 := h) am_q267 rfl rfl rfl (am_xx g290 g291) ?_
      obtain ⟨g294, H⟩ := H
      refine ev_c (vs := [.ref a1, .int (am_gi h a0 (Int32.toNatClampNeg (i3 + (1 : Int32)))), .int (am_gi h a0 (Int32.toNatClampNeg (i3 + (2 : Int32))))]) (rest := []) 115 am_q267 rfl rfl rfl rfl rfl rfl rfl rfl rfl rfl rfl rfl (Or.inr (congrArg some g294)) (Cl.mono H (Nat.le_refl _) (fun r293 h292 H => ?_))
      obtain ⟨x295, rfl, H⟩ := H
      refine ev_p (pc' := 841) (loc' := [.ref a0, .ref a1, .ref a2, .int i3]) (st' := [.int (i3 + (1 : Int32)), .ref a0, .ref a2, .int x295]) 5 am_q267 rfl ?_
      obtain ⟨g296, g297, H⟩ := H
      refine ev_s (pc' := 842) (loc' := [.ref a0, .ref a1, .ref a2, .int i3]) (st' := [.int (am_gi h292 a0 (Int32.toNatClampNeg (i3 + (1 : Int32)))), .ref a2, .int x295]) (h1 := h292) am_q267 rfl rfl rfl (am_xx g296 g297) ?_
      refine ev_p (pc' := 846) (loc' := [.ref a0, .ref a1, .ref a2, .int i3]) (st' := [.int (i3 + (2 : Int32)), .ref a0, .int (am_gi h292 a0 (Int32.toNatClampNeg (i3 + (1 : Int32)))), .ref a2, .int x295]) 4 am_q267 rfl ?_
      obtain ⟨g298, g299, H⟩ := H
      refine ev_s (pc' := 847) (loc' := [.ref a0, .ref a1, .ref a2, .int i3]) (st' := [.int (am_gi h292 a0 (Int32.toNatClampNeg (i3 + (2 : Int32)))), .int (am_gi h292 a0 (Int32.toNatClampNeg (i3 + (1 : Int32)))), .ref a2, .int x295]) (h1 := h292) am_q267 rfl rfl rfl (am_xx g298 g299) ?_
      obtain ⟨g302, H⟩ := H
      refine ev_c (vs := [.ref a2, .int (am_gi h292 a0 (Int32.toNatClampNeg (i3 + (1 : Int32)))), .int (am_gi h292 a0 (Int32.toNatClampNeg (i3 + (2 : Int32))))]) (rest := [.int x295]) 223 am_q267 rfl rfl rfl rfl rfl rfl rfl rfl rfl rfl rfl rfl (Or.inr (congrArg some g302)) (Cl.mono H (Nat.le_refl _) (fun r301 h300 H => ?_))
      obtain ⟨x303, rfl, H⟩ := H
      refine ev_jc (t := 1496) am_q267 rfl rfl (fun hq => ?_) (fun hq => ?_)
      · replace H := H.1 hq
        exact ev_m (loc' := [.ref a0, .ref a1, .ref a2, .int i3]) am_q267 rfl rfl H
      · replace H := H.2 hq
        refine ev_p (pc' := 854) (loc' := [.ref a0, .ref a1, .ref a2, .int i3]) (st' := [.int (0 : Int32)]) 1 am_q267 rfl ?_
        exact ev_r (v := some (.int (0 : Int32))) am_q267 rfl rfl rfl rfl H
    replace H := H.2
    by_cases k317 : (am_gi h a0 (Int32.toNatClampNeg i3)) &&& (63 : Int32) = (19 : Int32)
    · replace H := H.1 k317
      refine ev_s (pc' := 855) (loc' := [.ref a0, .ref a1, .ref a2, .int i3]) (st' := []) (h1 := h) am_q267 rfl rfl rfl (by rw [k317]; rfl) ?_
      refine ev_p (pc' := 860) (loc' := [.ref a0, .ref a1, .ref a2, .int i3]) (st' := [.int (i3 + (1 : Int32)), .ref a0, .ref a1]) 5 am_q267 rfl ?_
      obtain ⟨g305, g306, H⟩ := H
      refine ev_s (pc' := 861) (loc' := [.ref a0, .ref a1, .ref a2, .int i3]) (st' := [.int (am_gi h a0 (Int32.toNatClampNeg (i3 + (1 : Int32)))), .ref a1]) (h1 := h) am_q267 rfl rfl rfl (am_xx g305 g306) ?_
      obtain ⟨g309, H⟩ := H
      refine ev_c (vs := [.ref a1, .int (am_gi h a0 (Int32.toNatClampNeg (i3 + (1 : Int32))))]) (rest := []) 116 am_q267 rfl rfl rfl rfl rfl rfl rfl rfl rfl rfl rfl rfl (Or.inr (congrArg some g309)) (Cl.mono H (Nat.le_refl _) (fun r308 h307 H => ?_))
      obtain ⟨x310, rfl, H⟩ := H
      refine ev_p (pc' := 869) (loc' := [.ref a0, .ref a1, .ref a2, .int i3]) (st' := [.int (i3 + (1 : Int32)), .ref a0, .ref a2, .int x310]) 5 am_q267 rfl ?_
      obtain ⟨g311, g312, H⟩ := H
      refine ev_s (pc' := 870) (loc' := [.ref a0, .ref a1, .ref a2, .int i3]) (st' := [.int (am_gi h307 a0 (Int32.toNatClampNeg (i3 + (1 : Int32)))), .ref a2, .int x310]) (h1 := h307) am_q267 rfl rfl rfl (am_xx g311 g312) ?_
      obtain ⟨g315, H⟩ := H
      refine ev_c (vs := [.ref a2, .int (am_gi h307 a0 (Int32.toNatClampNeg (i3 + (1 : Int32))))]) (rest := [.int x310]) 224 am_q267 rfl rfl rfl rfl rfl rfl rfl rfl rfl rfl rfl rfl (Or.inr (congrArg some g315)) (Cl.mono H (Nat.le_refl _) (fun r314 h313 H => ?_))
      obtain ⟨x316, rfl, H⟩ := H
      refine ev_jc (t := 1496) am_q267 rfl rfl (fun hq => ?_) (fun hq => ?_)
      · replace H := H.1 hq
        exact ev_m (loc' := [.ref a0, .ref a1, .ref a2, .int i3]) am_q267 rfl rfl H
      · replace H := H.2 hq
        refine ev_p (pc' := 877) (loc' := [.ref a0, .ref a1, .ref a2, .int i3]) (st' := [.int (0 : Int32)]) 1 am_q267 rfl ?_
        exact ev_r (v := some (.int (0 : Int32))) am_q267 rfl rfl rfl rfl H
    replace H := H.2
    by_cases k330 : (am_gi h a0 (Int32.toNatClampNeg i3)) &&& (63 : Int32) = (20 : Int32)
    · replace H := H.1 k330
      refine ev_s (pc' := 878) (loc' := [.ref a0, .ref a1, .ref a2, .int i3]) (st' := []) (h1 := h) am_q267 rfl rfl rfl (by rw [k330]; rfl) ?_
      refine ev_p (pc' := 883) (loc' := [.ref a0, .ref a1, .ref a2, .int i3]) (st' := [.int (i3 + (1 : Int32)), .ref a0, .ref a1]) 5 am_q267 rfl ?_
      obtain ⟨g318, g319, H⟩ := H
      refine ev_s (pc' := 884) (loc' := [.ref a0, .ref a1, .ref a2, .int i3]) (st' := [.int (am_gi h a0 (Int32.toNatClampNeg (i3 + (1 : Int32)))), .ref a1]) (h1 := h) am_q267 rfl rfl rfl (am_xx g318 g319) ?_
      obtain ⟨g322, H⟩ := H
      refine ev_c (vs := [.ref a1, .int (am_gi h a0 (Int32.toNatClampNeg (i3 + (1 : Int32))))]) (rest := []) 117 am_q267 rfl rfl rfl rfl rfl rfl rfl rfl rfl rfl rfl rfl (Or.inr (congrArg some g322)) (Cl.mono H (Nat.le_refl _) (fun r321 h320 H => ?_))
      obtain ⟨x323, rfl, H⟩ := H
      refine ev_p (pc' := 892) (loc' := [.ref a0, .ref a1, .ref a2, .int i3]) (st' := [.int (i3 + (1 : Int32)), .ref a0, .ref a2, .int x323]) 5 am_q267 rfl ?_
      obtain ⟨g324, g325, H⟩ := H
      refine ev_s (pc' := 893) (loc' := [.ref a0, .ref a1, .ref a2, .int i3]) (st' := [.int (am_gi h320 a0 (Int32.toNatClampNeg (i3 + (1 : Int32)))), .ref a2, .int x323]) (h1 := h320) am_q267 rfl rfl rfl (am_xx g324 g325) ?_
      obtain ⟨g328, H⟩ := H
      refine ev_c (vs := [.ref a2, .int (am_gi h320 a0 (Int32.toNatClampNeg (i3 + (1 : Int32))))]) (rest := [.int x323]) 225 am_q267 rfl rfl rfl rfl rfl rfl rfl rfl rfl rfl rfl rfl (Or.inr (congrArg some g328)) (Cl.mono H (Nat.le_refl _) (fun r327 h326 H => ?_))
      obtain ⟨x329, rfl, H⟩ := H
      refine ev_jc (t := 1496) am_q267 rfl rfl (fun hq => ?_) (fun hq => ?_)
      · replace H := H.1 hq
        exact ev_m (loc' := [.ref a0, .ref a1, .ref a2, .int i3]) am_q267 rfl rfl H
      · replace H := H.2 hq
        refine ev_p (pc' := 900) (loc' := [.ref a0, .ref a1, .ref a2, .int i3]) (st' := [.int (0 : Int32)]) 1 am_q267 rfl ?_
        exact ev_r (v := some (.int (0 : Int32))) am_q267 rfl rfl rfl rfl H
    replace H := H.2
    by_cases k351 : (am_gi h a0 (Int32.toNatClampNeg i3)) &&& (63 : Int32) = (21 : Int32)
    · replace H := H.1 k351
      refine ev_s (pc' := 901) (loc' := [.ref a0, .ref a1, .ref a2, .int i3]) (st' := []) (h1 := h) am_q267 rfl rfl rfl (by rw [k351]; rfl) ?_
      refine ev_p (pc' := 906) (loc' := [.ref a0, .ref a1, .ref a2, .int i3]) (st' := [.int (i3 + (1 : Int32)), .ref a0, .ref a1]) 5 am_q267 rfl ?_
      obtain ⟨g331, g332, H⟩ := H
      refine ev_s (pc' := 907) (loc' := [.ref a0, .ref a1, .ref a2, .int i3]) (st' := [.int (am_gi h a0 (Int32.toNatClampNeg (i3 + (1 : Int32)))), .ref a1]) (h1 := h) am_q267 rfl rfl rfl (am_xx g331 g332) ?_
      refine ev_p (pc' := 911) (loc' := [.ref a0, .ref a1, .ref a2, .int i3]) (st' := [.int (i3 + (2 : Int32)), .ref a0, .int (am_gi h a0 (Int32.toNatClampNeg (i3 + (1 : Int32)))), .ref a1]) 4 am_q267 rfl ?_
      obtain ⟨g333, g334, H⟩ := H
      refine ev_s (pc' := 912) (loc' := [.ref a0, .ref a1, .ref a2, .int i3]) (st' := [.int (am_gi h a0 (Int32.toNatClampNeg (i3 + (2 : Int32)))), .int (am_gi h a0 (Int32.toNatClampNeg (i3 + (1 : Int32)))), .ref a1]) (h1 := h) am_q267 rfl rfl rfl (am_xx g333 g334) ?_
      refine ev_p (pc' := 916) (loc' := [.ref a0, .ref a1, .ref a2, .int i3]) (st' := [.int (i3 + (3 : Int32)), .ref a0, .int (am_gi h a0 (Int32.toNatClampNeg (i3 + (2 : Int32)))), .int (am_gi h a0 (Int32.toNatClampNeg (i3 + (1 : Int32)))), .ref a1]) 4 am_q267 rfl ?_
      obtain ⟨g335, g336, H⟩ := H
      refine ev_s (pc' := 917) (loc' := [.ref a0, .ref a1, .ref a2, .int i3]) (st' := [.int (am_gi h a0 (Int32.toNatClampNeg (i3 + (3 : Int32)))), .int (am_gi h a0 (Int32.toNatClampNeg (i3 + (2 : Int32)))), .int (am_gi h a0 (Int32.toNatClampNeg (i3 + (1 : Int32)))), .ref a1]) (h1 := h) am_q267 rfl rfl rfl (am_xx g335 g336) ?_
      obtain ⟨g339, H⟩ := H
      refine ev_c (vs := [.ref a1, .int (am_gi h a0 (Int32.toNatClampNeg (i3 + (1 : Int32)))), .int (am_gi h a0 (Int32.toNatClampNeg (i3 + (2 : Int32)))), .int (am_gi h a0 (Int32.toNatClampNeg (i3 + (3 : Int32))))]) (rest := []) 118 am_q267 rfl rfl rfl rfl rfl rfl rfl rfl rfl rfl rfl rfl (Or.inr (congrArg some g339)) (Cl.mono H (Nat.le_refl _) (fun r338 h337 H => ?_))
      obtain ⟨y340, rfl, H⟩ := H
      refine ev_p (pc' := 925) (loc' := [.ref a0, .ref a1, .ref a2, .int i3]) (st' := [.int (i3 + (1 : Int32)), .ref a0, .ref a2, .long y340]) 5 am_q267 rfl ?_
      obtain ⟨g341, g342, H⟩ := H
      refine ev_s (pc' := 926) (loc' := [.ref a0, .ref a1, .ref a2, .int i3]) (st' := [.int (am_gi h337 a0 (Int32.toNatClampNeg (i3 + (1 : Int32)))), .ref a2, .long y340]) (h1 := h337) am_q267 rfl rfl rfl (am_xx g341 g342) ?_
      refine ev_p (pc' := 930) (loc' := [.ref a0, .ref a1, .ref a2, .int i3]) (st' := [.int (i3 + (2 : Int32)), .ref a0, .int (am_gi h337 a0 (Int32.toNatClampNeg (i3 + (1 : Int32)))), .ref a2, .long y340]) 4 am_q267 rfl ?_
      obtain ⟨g343, g344, H⟩ := H
      refine ev_s (pc' := 931) (loc' := [.ref a0, .ref a1, .ref a2, .int i3]) (st' := [.int (am_gi h337 a0 (Int32.toNatClampNeg (i3 + (2 : Int32)))), .int (am_gi h337 a0 (Int32.toNatClampNeg (i3 + (1 : Int32)))), .ref a2, .long y340]) (h1 := h337) am_q267 rfl rfl rfl (am_xx g343 g344) ?_
      refine ev_p (pc' := 935) (loc' := [.ref a0, .ref a1, .ref a2, .int i3]) (st' := [.int (i3 + (3 : Int32)), .ref a0, .int (am_gi h337 a0 (Int32.toNatClampNeg (i3 + (2 : Int32)))), .int (am_gi h337 a0 (Int32.toNatClampNeg (i3 + (1 : Int32)))), .ref a2, .long y340]) 4 am_q267 rfl ?_
      obtain ⟨g345, g346, H⟩ := H
      refine ev_s (pc' := 936) (loc' := [.ref a0, .ref a1, .ref a2, .int i3]) (st' := [.int (am_gi h337 a0 (Int32.toNatClampNeg (i3 + (3 : Int32)))), .int (am_gi h337 a0 (Int32.toNatClampNeg (i3 + (2 : Int32)))), .int (am_gi h337 a0 (Int32.toNatClampNeg (i3 + (1 : Int32)))), .ref a2, .long y340]) (h1 := h337) am_q267 rfl rfl rfl (am_xx g345 g346) ?_
      obtain ⟨g349, H⟩ := H
      refine ev_c (vs := [.ref a2, .int (am_gi h337 a0 (Int32.toNatClampNeg (i3 + (1 : Int32)))), .int (am_gi h337 a0 (Int32.toNatClampNeg (i3 + (2 : Int32)))), .int (am_gi h337 a0 (Int32.toNatClampNeg (i3 + (3 : Int32))))]) (rest := [.long y340]) 226 am_q267 rfl rfl rfl rfl rfl rfl rfl rfl rfl rfl rfl rfl (Or.inr (congrArg some g349)) (Cl.mono H (Nat.le_refl _) (fun r348 h347 H => ?_))
      obtain ⟨y350, rfl, H⟩ := H
      refine ev_p (pc' := 940) (loc' := [.ref a0, .ref a1, .ref a2, .int i3]) (st' := [.int (lg_cmp y340 y350)]) 1 am_q267 rfl ?_
      refine ev_jz (t := 1496) am_q267 rfl rfl (fun hq => ?_) (fun hq => ?_)
      · replace H := H.1 hq
        exact ev_m (loc' := [.ref a0, .ref a1, .ref a2, .int i3]) am_q267 rfl rfl H
      · replace H := H.2 hq
        refine ev_p (pc' := 944) (loc' := [.ref a0, .ref a1, .ref a2, .int i3]) (st' := [.int (0 : Int32)]) 1 am_q267 rfl ?_
        exact ev_r (v := some (.int (0 : Int32))) am_q267 rfl rfl rfl rfl H
    replace H := H.2
    by_cases k368 : (am_gi h a0 (Int32.toNatClampNeg i3)) &&& (63 : Int32) = (22 : Int32)
    · replace H := H.1 k368
      refine ev_s (pc' := 945) (loc' := [.ref a0, .ref a1, .ref a2, .int i3]) (st' := []) (h1 := h) am_q267 rfl rfl rfl (by rw [k368]; rfl) ?_
      refine ev_p (pc' := 950) (loc' := [.ref a0, .ref a1, .ref a2, .int i3]) (st' := [.int (i3 + (1 : Int32)), .ref a0, .ref a1]) 5 am_q267 rfl ?_
      obtain ⟨g352, g353, H⟩ := H
      refine ev_s (pc' := 951) (loc' := [.ref a0, .ref a1, .ref a2, .int i3]) (st' := [.int (am_gi h a0 (Int32.toNatClampNeg (i3 + (1 : Int32)))), .ref a1]) (h1 := h) am_q267 rfl rfl rfl (am_xx g352 g353) ?_
      refine ev_p (pc' := 955) (loc' := [.ref a0, .ref a1, .ref a2, .int i3]) (st' := [.int (i3 + (2 : Int32)), .ref a0, .int (am_gi h a0 (Int32.toNatClampNeg (i3 + (1 : Int32)))), .ref a1]) 4 am_q267 rfl ?_
      obtain ⟨g354, g355, H⟩ := H
      refine ev_s (pc' := 956) (loc' := [.ref a0, .ref a1, .ref a2, .int i3]) (st' := [.int (am_gi h a0 (Int32.toNatClampNeg (i3 + (2 : Int32)))), .int (am_gi h a0 (Int32.toNatClampNeg (i3 + (1 : Int32)))), .ref a1]) (h1 := h) am_q267 rfl rfl rfl (am_xx g354 g355) ?_
      obtain ⟨g358, H⟩ := H
      refine ev_c (vs := [.ref a1, .int (am_gi h a0 (Int32.toNatClampNeg (i3 + (1 : Int32)))), .int (am_gi h a0 (Int32.toNatClampNeg (i3 + (2 : Int32))))]) (rest := []) 119 am_q267 rfl rfl rfl rfl rfl rfl rfl rfl rfl rfl rfl rfl (Or.inr (congrArg some g358)) (Cl.mono H (Nat.le_refl _) (fun r357 h356 H => ?_))
      obtain ⟨x359, rfl, H⟩ := H
      refine ev_p (pc' := 964) (loc' := [.ref a0, .ref a1, .ref a2, .int i3]) (st' := [.int (i3 + (1 : Int32)), .ref a0, .ref a2, .int x359]) 5 am_q267 rfl ?_
      obtain ⟨g360, g361, H⟩ := H
      refine ev_s (pc' := 965) (loc' := [.ref a0, .ref a1, .ref a2, .int i3]) (st' := [.int (am_gi h356 a0 (Int32.toNatClampNeg (i3 + (1 : Int32)))), .ref a2, .int x359]) (h1 := h356) am_q267 rfl rfl rfl (am_xx g360 g361) ?_
      refine ev_p (pc' := 969) (loc' := [.ref a0, .ref a1, .ref a2, .int i3]) (st' := [.int (i3 + (2 : Int32)), .ref a0, .int (am_gi h356 a0 (Int32.toNatClampNeg (i3 + (1 : Int32)))), .ref a2, .int x359]) 4 am_q267 rfl ?_
      obtain ⟨g362, g363, H⟩ := H
      refine ev_s (pc' := 970) (loc' := [.ref a0, .ref a1, .ref a2, .int i3]) (st' := [.int (am_gi h356 a0 (Int32.toNatClampNeg (i3 + (2 : Int32)))), .int (am_gi h356 a0 (Int32.toNatClampNeg (i3 + (1 : Int32)))), .ref a2, .int x359]) (h1 := h356) am_q267 rfl rfl rfl (am_xx g362 g363) ?_
      obtain ⟨g366, H⟩ := H
      refine ev_c (vs := [.ref a2, .int (am_gi h356 a0 (Int32.toNatClampNeg (i3 + (1 : Int32)))), .int (am_gi h356 a0 (Int32.toNatClampNeg (i3 + (2 : Int32))))]) (rest := [.int x359]) 230 am_q267 rfl rfl rfl rfl rfl rfl rfl rfl rfl rfl rfl rfl (Or.inr (congrArg some g366)) (Cl.mono H (Nat.le_refl _) (fun r365 h364 H => ?_))
      obtain ⟨x367, rfl, H⟩ := H
      refine ev_jc (t := 1496) am_q267 rfl rfl (fun hq => ?_) (fun hq => ?_)
      · replace H := H.1 hq
        exact ev_m (loc' := [.ref a0, .ref a1, .ref a2, .int i3]) am_q267 rfl rfl H
      · replace H := H.2 hq
        refine ev_p (pc' := 977) (loc' := [.ref a0, .ref a1, .ref a2, .int i3]) (st' := [.int (0 : Int32)]) 1 am_q267 rfl ?_
        exact ev_r (v := some (.int (0 : Int32))) am_q267 rfl rfl rfl rfl H
    replace H := H.2
    by_cases k381 : (am_gi h a0 (Int32.toNatClampNeg i3)) &&& (63 : Int32) = (23 : Int32)
    · replace H := H.1 k381
      refine ev_s (pc' := 978) (loc' := [.ref a0, .ref a1, .ref a2, .int i3]) (st' := []) (h1 := h) am_q267 rfl rfl rfl (by rw [k381]; rfl) ?_
      refine ev_p (pc' := 983) (loc' := [.ref a0, .ref a1, .ref a2, .int i3]) (st' := [.int (i3 + (1 : Int32)), .ref a0, .ref a1]) 5 am_q267 rfl ?_
      obtain ⟨g369, g370, H⟩ := H
      refine ev_s (pc' := 984) (loc' := [.ref a0, .ref a1, .ref a2, .int i3]) (st' := [.int (am_gi h a0 (Int32.toNatClampNeg (i3 + (1 : Int32)))), .ref a1]) (h1 := h) am_q267 rfl rfl rfl (am_xx g369 g370) ?_
      obtain ⟨g373, H⟩ := H
      refine ev_c (vs := [.ref a1, .int (am_gi h a0 (Int32.toNatClampNeg (i3 + (1 : Int32))))]) (rest := []) 120 am_q267 rfl rfl rfl rfl rfl rfl rfl rfl rfl rfl rfl rfl (Or.inr (congrArg some g373)) (Cl.mono H (Nat.le_refl _) (fun r372 h371 H => ?_))
      obtain ⟨x374, rfl, H⟩ := H
      refine ev_p (pc' := 992) (loc' := [.ref a0, .ref a1, .ref a2, .int i3]) (st' := [.int (i3 + (1 : Int32)), .ref a0, .ref a2, .int x374]) 5 am_q267 rfl ?_
      obtain ⟨g375, g376, H⟩ := H
      refine ev_s (pc' := 993) (loc' := [.ref a0, .ref a1, .ref a2, .int i3]) (st' := [.int (am_gi h371 a0 (Int32.toNatClampNeg (i3 + (1 : Int32)))), .ref a2, .int x374]) (h1 := h371) am_q267 rfl rfl rfl (am_xx g375 g376) ?_
      obtain ⟨g379, H⟩ := H
      refine ev_c (vs := [.ref a2, .int (am_gi h371 a0 (Int32.toNatClampNeg (i3 + (1 : Int32))))]) (rest := [.int x374]) 232 am_q267 rfl rfl rfl rfl rfl rfl rfl rfl rfl rfl rfl rfl (Or.inr (congrArg some g379)) (Cl.mono H (Nat.le_refl _) (fun r378 h377 H => ?_))
      obtain ⟨x380, rfl, H⟩ := H
      refine ev_jc (t := 1496) am_q267 rfl rfl (fun hq => ?_) (fun hq => ?_)
      · replace H := H.1 hq
        exact ev_m (loc' := [.ref a0, .ref a1, .ref a2, .int i3]) am_q267 rfl rfl H
      · replace H := H.2 hq
        refine ev_p (pc' := 1000) (loc' := [.ref a0, .ref a1, .ref a2, .int i3]) (st' := [.int (0 : Int32)]) 1 am_q267 rfl ?_
        exact ev_r (v := some (.int (0 : Int32))) am_q267 rfl rfl rfl rfl H
    replace H := H.2
    by_cases k386 : (am_gi h a0 (Int32.toNatClampNeg i3)) &&& (63 : Int32) = (24 : Int32)
    · replace H := H.1 k386
      refine ev_s (pc' := 1001) (loc' := [.ref a0, .ref a1, .ref a2, .int i3]) (st' := []) (h1 := h) am_q267 rfl rfl rfl (by rw [k386]; rfl) ?_
      refine ev_p (pc' := 1006) (loc' := [.ref a0, .ref a1, .ref a2, .int i3]) (st' := [.int (i3 + (1 : Int32)), .ref a0, .ref a1]) 5 am_q267 rfl ?_
      obtain ⟨g382, g383, H⟩ := H
      refine ev_s (pc' := 1007) (loc' := [.ref a0, .ref a1, .ref a2, .int i3]) (st' := [.int (am_gi h a0 (Int32.toNatClampNeg (i3 + (1 : Int32)))), .ref a1]) (h1 := h) am_q267 rfl rfl rfl (am_xx g382 g383) ?_
      refine ev_p (pc' := 1011) (loc' := [.ref a0, .ref a1, .ref a2, .int i3]) (st' := [.int (i3 + (2 : Int32)), .ref a0, .int (am_gi h a0 (Int32.toNatClampNeg (i3 + (1 : Int32)))), .ref a1]) 4 am_q267 rfl ?_
      obtain ⟨g384, g385, H⟩ := H
      refine ev_s (pc' := 1012) (loc' := [.ref a0, .ref a1, .ref a2, .int i3]) (st' := [.int (am_gi h a0 (Int32.toNatClampNeg (i3 + (2 : Int32)))), .int (am_gi h a0 (Int32.toNatClampNeg (i3 + (1 : Int32)))), .ref a1]) (h1 := h) am_q267 rfl rfl rfl (am_xx g384 g385) ?_
      refine ev_jz (t := 1019) am_q267 rfl rfl (fun hq => ?_) (fun hq => ?_)
      · replace H := H.1 hq
        refine ev_p (pc' := 1020) (loc' := [.ref a0, .ref a1, .ref a2, .int i3]) (st' := [.int (0 : Int32), .int (am_gi h a0 (Int32.toNatClampNeg (i3 + (1 : Int32)))), .ref a1]) 1 am_q267 rfl ?_
        exact ev_m (loc' := [.ref a0, .ref a1, .ref a2, .int i3]) am_q267 rfl rfl H
      · replace H := H.2 hq
        refine ev_p (pc' := 1020) (loc' := [.ref a0, .ref a1, .ref a2, .int i3]) (st' := [.int (1 : Int32), .int (am_gi h a0 (Int32.toNatClampNeg (i3 + (1 : Int32)))), .ref a1]) 2 am_q267 rfl ?_
        exact ev_m (loc' := [.ref a0, .ref a1, .ref a2, .int i3]) am_q267 rfl rfl H
    replace H := H.2
    by_cases k399 : (am_gi h a0 (Int32.toNatClampNeg i3)) &&& (63 : Int32) = (25 : Int32)
    · replace H := H.1 k399
      refine ev_s (pc' := 1050) (loc' := [.ref a0, .ref a1, .ref a2, .int i3]) (st' := []) (h1 := h) am_q267 rfl rfl rfl (by rw [k399]; rfl) ?_
      refine ev_p (pc' := 1055) (loc' := [.ref a0, .ref a1, .ref a2, .int i3]) (st' := [.int (i3 + (1 : Int32)), .ref a0, .ref a1]) 5 am_q267 rfl ?_
      obtain ⟨g387, g388, H⟩ := H
      refine ev_s (pc' := 1056) (loc' := [.ref a0, .ref a1, .ref a2, .int i3]) (st' := [.int (am_gi h a0 (Int32.toNatClampNeg (i3 + (1 : Int32)))), .ref a1]) (h1 := h) am_q267 rfl rfl rfl (am_xx g387 g388) ?_
      obtain ⟨g391, H⟩ := H
      refine ev_c (vs := [.ref a1, .int (am_gi h a0 (Int32.toNatClampNeg (i3 + (1 : Int32))))]) (rest := []) 122 am_q267 rfl rfl rfl rfl rfl rfl rfl rfl rfl rfl rfl rfl (Or.inr (congrArg some g391)) (Cl.mono H (Nat.le_refl _) (fun r390 h389 H => ?_))
      obtain ⟨x392, rfl, H⟩ := H
      refine ev_p (pc' := 1064) (loc' := [.ref a0, .ref a1, .ref a2, .int i3]) (st' := [.int (i3 + (1 : Int32)), .ref a0, .ref a2, .int x392]) 5 am_q267 rfl ?_
      obtain ⟨g393, g394, H⟩ := H
      refine ev_s (pc' := 1065) (loc' := [.ref a0, .ref a1, .ref a2, .int i3]) (st' := [.int (am_gi h389 a0 (Int32.toNatClampNeg (i3 + (1 : Int32)))), .ref a2, .int x392]) (h1 := h389) am_q267 rfl rfl rfl (am_xx g393 g394) ?_
      obtain ⟨g397, H⟩ := H
      refine ev_c (vs := [.ref a2, .int (am_gi h389 a0 (Int32.toNatClampNeg (i3 + (1 : Int32))))]) (rest := [.int x392]) 234 am_q267 rfl rfl rfl rfl rfl rfl rfl rfl rfl rfl rfl rfl (Or.inr (congrArg some g397)) (Cl.mono H (Nat.le_refl _) (fun r396 h395 H => ?_))
      obtain ⟨x398, rfl, H⟩ := H
      refine ev_jc (t := 1496) am_q267 rfl rfl (fun hq => ?_) (fun hq => ?_)
      · replace H := H.1 hq
        exact ev_m (loc' := [.ref a0, .ref a1, .ref a2, .int i3]) am_q267 rfl rfl H
      · replace H := H.2 hq
        refine ev_p (pc' := 1072) (loc' := [.ref a0, .ref a1, .ref a2, .int i3]) (st' := [.int (0 : Int32)]) 1 am_q267 rfl ?_
        exact ev_r (v := some (.int (0 : Int32))) am_q267 rfl rfl rfl rfl H
    replace H := H.2
    by_cases k406 : (am_gi h a0 (Int32.toNatClampNeg i3)) &&& (63 : Int32) = (26 : Int32)
    · replace H := H.1 k406
      refine ev_s (pc' := 1073) (loc' := [.ref a0, .ref a1, .ref a2, .int i3]) (st' := []) (h1 := h) am_q267 rfl rfl rfl (by rw [k406]; rfl) ?_
      refine ev_p (pc' := 1078) (loc' := [.ref a0, .ref a1, .ref a2, .int i3]) (st' := [.int (i3 + (1 : Int32)), .ref a0, .ref a1]) 5 am_q267 rfl ?_
      obtain ⟨g400, g401, H⟩ := H
      refine ev_s (pc' := 1079) (loc' := [.ref a0, .ref a1, .ref a2, .int i3]) (st' := [.int (am_gi h a0 (Int32.toNatClampNeg (i3 + (1 : Int32)))), .ref a1]) (h1 := h) am_q267 rfl rfl rfl (am_xx g400 g401) ?_
      refine ev_p (pc' := 1083) (loc' := [.ref a0, .ref a1, .ref a2, .int i3]) (st' := [.int (i3 + (2 : Int32)), .ref a0, .int (am_gi h a0 (Int32.toNatClampNeg (i3 + (1 : Int32)))), .ref a1]) 4 am_q267 rfl ?_
      obtain ⟨g402, g403, H⟩ := H
      refine ev_s (pc' := 1084) (loc' := [.ref a0, .ref a1, .ref a2, .int i3]) (st' := [.int (am_gi h a0 (Int32.toNatClampNeg (i3 + (2 : Int32)))), .int (am_gi h a0 (Int32.toNatClampNeg (i3 + (1 : Int32)))), .ref a1]) (h1 := h) am_q267 rfl rfl rfl (am_xx g402 g403) ?_
      refine ev_p (pc' := 1088) (loc' := [.ref a0, .ref a1, .ref a2, .int i3]) (st' := [.int (i3 + (3 : Int32)), .ref a0, .int (am_gi h a0 (Int32.toNatClampNeg (i3 + (2 : Int32)))), .int (am_gi h a0 (Int32.toNatClampNeg (i3 + (1 : Int32)))), .ref a1]) 4 am_q267 rfl ?_
      obtain ⟨g404, g405, H⟩ := H
      refine ev_s (pc' := 1089) (loc' := [.ref a0, .ref a1, .ref a2, .int i3]) (st' := [.int (am_gi h a0 (Int32.toNatClampNeg (i3 + (3 : Int32)))), .int (am_gi h a0 (Int32.toNatClampNeg (i3 + (2 : Int32)))), .int (am_gi h a0 (Int32.toNatClampNeg (i3 + (1 : Int32)))), .ref a1]) (h1 := h) am_q267 rfl rfl rfl (am_xx g404 g405) ?_
      refine ev_jz (t := 1096) am_q267 rfl rfl (fun hq => ?_) (fun hq => ?_)
      · replace H := H.1 hq
        refine ev_p (pc' := 1097) (loc' := [.ref a0, .ref a1, .ref a2, .int i3]) (st' := [.int (0 : Int32), .int (am_gi h a0 (Int32.toNatClampNeg (i3 + (2 : Int32)))), .int (am_gi h a0 (Int32.toNatClampNeg (i3 + (1 : Int32)))), .ref a1]) 1 am_q267 rfl ?_
        exact ev_m (loc' := [.ref a0, .ref a1, .ref a2, .int i3]) am_q267 rfl rfl H
      · replace H := H.2 hq
        refine ev_p (pc' := 1097) (loc' := [.ref a0, .ref a1, .ref a2, .int i3]) (st' := [.int (1 : Int32), .int (am_gi h a0 (Int32.toNatClampNeg (i3 + (2 : Int32)))), .int (am_gi h a0 (Int32.toNatClampNeg (i3 + (1 : Int32)))), .ref a1]) 2 am_q267 rfl ?_
        exact ev_m (loc' := [.ref a0, .ref a1, .ref a2, .int i3]) am_q267 rfl rfl H
    replace H := H.2
    by_cases k415 : (am_gi h a0 (Int32.toNatClampNeg i3)) &&& (63 : Int32) = (27 : Int32)
    · replace H := H.1 k415
      refine ev_s (pc' := 1132) (loc' := [.ref a0, .ref a1, .ref a2, .int i3]) (st' := []) (h1 := h) am_q267 rfl rfl rfl (by rw [k415]; rfl) ?_
      refine ev_p (pc' := 1133) (loc' := [.ref a0, .ref a1, .ref a2, .int i3]) (st' := [.ref a1]) 1 am_q267 rfl ?_
      obtain ⟨g409, H⟩ := H
      refine ev_c (vs := [.ref a1]) (rest := []) 124 am_q267 rfl rfl rfl rfl rfl rfl rfl rfl rfl rfl rfl rfl (Or.inr (congrArg some g409)) (Cl.mono H (Nat.le_refl _) (fun r408 h407 H => ?_))
      obtain ⟨x410, rfl, H⟩ := H
      refine ev_p (pc' := 1137) (loc' := [.ref a0, .ref a1, .ref a2, .int i3]) (st' := [.ref a2, .int x410]) 1 am_q267 rfl ?_
      obtain ⟨g413, H⟩ := H
      refine ev_c (vs := [.ref a2]) (rest := [.int x410]) 241 am_q267 rfl rfl rfl rfl rfl rfl rfl rfl rfl rfl rfl rfl (Or.inr (congrArg some g413)) (Cl.mono H (Nat.le_refl _) (fun r412 h411 H => ?_))
      obtain ⟨x414, rfl, H⟩ := H
      refine ev_jc (t := 1496) am_q267 rfl rfl (fun hq => ?_) (fun hq => ?_)
      · replace H := H.1 hq
        exact ev_m (loc' := [.ref a0, .ref a1, .ref a2, .int i3]) am_q267 rfl rfl H
      · replace H := H.2 hq
        refine ev_p (pc' := 1144) (loc' := [.ref a0, .ref a1, .ref a2, .int i3]) (st' := [.int (0 : Int32)]) 1 am_q267 rfl ?_
        exact ev_r (v := some (.int (0 : Int32))) am_q267 rfl rfl rfl rfl H
    replace H := H.2
    by_cases k428 : (am_gi h a0 (Int32.toNatClampNeg i3)) &&& (63 : Int32) = (28 : Int32)
    · replace H := H.1 k428
      refine ev_s (pc' := 1145) (loc' := [.ref a0, .ref a1, .ref a2, .int i3]) (st' := []) (h1 := h) am_q267 rfl rfl rfl (by rw [k428]; rfl) ?_
      refine ev_p (pc' := 1150) (loc' := [.ref a0, .ref a1, .ref a2, .int i3]) (st' := [.int (i3 + (1 : Int32)), .ref a0, .ref a1]) 5 am_q267 rfl ?_
      obtain ⟨g416, g417, H⟩ := H
      refine ev_s (pc' := 1151) (loc' := [.ref a0, .ref a1, .ref a2, .int i3]) (st' := [.int (am_gi h a0 (Int32.toNatClampNeg (i3 + (1 : Int32)))), .ref a1]) (h1 := h) am_q267 rfl rfl rfl (am_xx g416 g417) ?_
      obtain ⟨g420, H⟩ := H
      refine ev_c (vs := [.ref a1, .int (am_gi h a0 (Int32.toNatClampNeg (i3 + (1 : Int32))))]) (rest := []) 125 am_q267 rfl rfl rfl rfl rfl rfl rfl rfl rfl rfl rfl rfl (Or.inr (congrArg some g420)) (Cl.mono H (Nat.le_refl _) (fun r419 h418 H => ?_))
      obtain ⟨x421, rfl, H⟩ := H
      refine ev_p (pc' := 1159) (loc' := [.ref a0, .ref a1, .ref a2, .int i3]) (st' := [.int (i3 + (1 : Int32)), .ref a0, .ref a2, .int x421]) 5 am_q267 rfl ?_
      obtain ⟨g422, g423, H⟩ := H
      refine ev_s (pc' := 1160) (loc' := [.ref a0, .ref a1, .ref a2, .int i3]) (st' := [.int (am_gi h418 a0 (Int32.toNatClampNeg (i3 + (1 : Int32)))), .ref a2, .int x421]) (h1 := h418) am_q267 rfl rfl rfl (am_xx g422 g423) ?_
      obtain ⟨g426, H⟩ := H
      refine ev_c (vs := [.ref a2, .int (am_gi h418 a0 (Int32.toNatClampNeg (i3 + (1 : Int32))))]) (rest := [.int x421]) 242 am_q267 rfl rfl rfl rfl rfl rfl rfl rfl rfl rfl rfl rfl (Or.inr (congrArg some g426)) (Cl.mono H (Nat.le_refl _) (fun r425 h424 H => ?_))
      obtain ⟨x427, rfl, H⟩ := H
      refine ev_jc (t := 1496) am_q267 rfl rfl (fun hq => ?_) (fun hq => ?_)
      · replace H := H.1 hq
        exact ev_m (loc' := [.ref a0, .ref a1, .ref a2, .int i3]) am_q267 rfl rfl H
      · replace H := H.2 hq
        refine ev_p (pc' := 1167) (loc' := [.ref a0, .ref a1, .ref a2, .int i3]) (st' := [.int (0 : Int32)]) 1 am_q267 rfl ?_
        exact ev_r (v := some (.int (0 : Int32))) am_q267 rfl rfl rfl rfl H
    replace H := H.2
    by_cases k437 : (am_gi h a0 (Int32.toNatClampNeg i3)) &&& (63 : Int32) = (29 : Int32)
    · replace H := H.1 k437
      refine ev_s (pc' := 1168) (loc' := [.ref a0, .ref a1, .ref a2, .int i3]) (st' := []) (h1 := h) am_q267 rfl rfl rfl (by rw [k437]; rfl) ?_
      refine ev_p (pc' := 1169) (loc' := [.ref a0, .ref a1, .ref a2, .int i3]) (st' := [.ref a1]) 1 am_q267 rfl ?_
      obtain ⟨g431, H⟩ := H
      refine ev_c (vs := [.ref a1]) (rest := []) 126 am_q267 rfl rfl rfl rfl rfl rfl rfl rfl rfl rfl rfl rfl (Or.inr (congrArg some g431)) (Cl.mono H (Nat.le_refl _) (fun r430 h429 H => ?_))
      obtain ⟨x432, rfl, H⟩ := H
      refine ev_p (pc' := 1173) (loc' := [.ref a0, .ref a1, .ref a2, .int i3]) (st' := [.ref a2, .int x432]) 1 am_q267 rfl ?_
      obtain ⟨g435, H⟩ := H
      refine ev_c (vs := [.ref a2]) (rest := [.int x432]) 243 am_q267 rfl rfl rfl rfl rfl rfl rfl rfl rfl rfl rfl rfl (Or.inr (congrArg some g435)) (Cl.mono H (Nat.le_refl _) (fun r434 h433 H => ?_))
      obtain ⟨x436, rfl, H⟩ := H
      refine ev_jc (t := 1496) am_q267 rfl rfl (fun hq => ?_) (fun hq => ?_)
      · replace H := H.1 hq
        exact ev_m (loc' := [.ref a0, .ref a1, .ref a2, .int i3]) am_q267 rfl rfl H
      · replace H := H.2 hq
        refine ev_p (pc' := 1180) (loc' := [.ref a0, .ref a1, .ref a2, .int i3]) (st' := [.int (0 : Int32)]) 1 am_q267 rfl ?_
        exact ev_r (v := some (.int (0 : Int32))) am_q267 rfl rfl rfl rfl H
    replace H := H.2
    by_cases k450 : (am_gi h a0 (Int32.toNatClampNeg i3)) &&& (63 : Int32) = (30 : Int32)
    · replace H := H.1 k450
      refine ev_s (pc' := 1181) (loc' := [.ref a0, .ref a1, .ref a2, .int i3]) (st' := []) (h1 := h) am_q267 rfl rfl rfl (by rw [k450]; rfl) ?_
      refine ev_p (pc' := 1186) (loc' := [.ref a0, .ref a1, .ref a2, .int i3]) (st' := [.int (i3 + (1 : Int32)), .ref a0, .ref a1]) 5 am_q267 rfl ?_
      obtain ⟨g438, g439, H⟩ := H
      refine ev_s (pc' := 1187) (loc' := [.ref a0, .ref a1, .ref a2, .int i3]) (st' := [.int (am_gi h a0 (Int32.toNatClampNeg (i3 + (1 : Int32)))), .ref a1]) (h1 := h) am_q267 rfl rfl rfl (am_xx g438 g439) ?_
      obtain ⟨g442, H⟩ := H
      refine ev_c (vs := [.ref a1, .int (am_gi h a0 (Int32.toNatClampNeg (i3 + (1 : Int32))))]) (rest := []) 127 am_q267 rfl rfl rfl rfl rfl rfl rfl rfl rfl rfl rfl rfl (Or.inr (congrArg some g442)) (Cl.mono H (Nat.le_refl _) (fun r441 h440 H => ?_))
      obtain ⟨x443, rfl, H⟩ := H
      refine ev_p (pc' := 1195) (loc' := [.ref a0, .ref a1, .ref a2, .int i3]) (st' := [.int (i3 + (1 : Int32)), .ref a0, .ref a2, .int x443]) 5 am_q267 rfl ?_
      obtain ⟨g444, g445, H⟩ := H
      refine ev_s (pc' := 1196) (loc' := [.ref a0, .ref a1, .ref a2, .int i3]) (st' := [.int (am_gi h440 a0 (Int32.toNatClampNeg (i3 + (1 : Int32)))), .ref a2, .int x443]) (h1 := h440) am_q267 rfl rfl rfl (am_xx g444 g445) ?_
      obtain ⟨g448, H⟩ := H
      refine ev_c (vs := [.ref a2, .int (am_gi h440 a0 (Int32.toNatClampNeg (i3 + (1 : Int32))))]) (rest := [.int x443]) 244 am_q267 rfl rfl rfl rfl rfl rfl rfl rfl rfl rfl rfl rfl (Or.inr (congrArg some g448)) (Cl.mono H (Nat.le_refl _) (fun r447 h446 H => ?_))
      obtain ⟨x449, rfl, H⟩ := H
      refine ev_jc (t := 1496) am_q267 rfl rfl (fun hq => ?_) (fun hq => ?_)
      · replace H := H.1 hq
        exact ev_m (loc' := [.ref a0, .ref a1, .ref a2, .int i3]) am_q267 rfl rfl H
      · replace H := H.2 hq
        refine ev_p (pc' := 1203) (loc' := [.ref a0, .ref a1, .ref a2, .int i3]) (st' := [.int (0 : Int32)]) 1 am_q267 rfl ?_
        exact ev_r (v := some (.int (0 : Int32))) am_q267 rfl rfl rfl rfl H
    replace H := H.2
    by_cases k467 : (am_gi h a0 (Int32.toNatClampNeg i3)) &&& (63 : Int32) = (31 : Int32)
    · replace H := H.1 k467
      refine ev_s (pc' := 1204) (loc' := [.ref a0, .ref a1, .ref a2, .int i3]) (st' := []) (h1 := h) am_q267 rfl rfl rfl (by rw [k467]; rfl) ?_
      refine ev_p (pc' := 1209) (loc' := [.ref a0, .ref a1, .ref a2, .int i3]) (st' := [.int (i3 + (1 : Int32)), .ref a0, .ref a1]) 5 am_q267 rfl ?_
      obtain ⟨g451, g452, H⟩ := H
      refine ev_s (pc' := 1210) (loc' := [.ref a0, .ref a1, .ref a2, .int i3]) (st' := [.int (am_gi h a0 (Int32.toNatClampNeg (i3 + (1 : Int32)))), .ref a1]) (h1 := h) am_q267 rfl rfl rfl (am_xx g451 g452) ?_
      refine ev_p (pc' := 1214) (loc' := [.ref a0, .ref a1, .ref a2, .int i3]) (st' := [.int (i3 + (2 : Int32)), .ref a0, .int (am_gi h a0 (Int32.toNatClampNeg (i3 + (1 : Int32)))), .ref a1]) 4 am_q267 rfl ?_
      obtain ⟨g453, g454, H⟩ := H
      refine ev_s (pc' := 1215) (loc' := [.ref a0, .ref a1, .ref a2, .int i3]) (st' := [.int (am_gi h a0 (Int32.toNatClampNeg (i3 + (2 : Int32)))), .int (am_gi h a0 (Int32.toNatClampNeg (i3 + (1 : Int32)))), .ref a1]) (h1 := h) am_q267 rfl rfl rfl (am_xx g453 g454) ?_
      obtain ⟨g457, H⟩ := H
      refine ev_c (vs := [.ref a1, .int (am_gi h a0 (Int32.toNatClampNeg (i3 + (1 : Int32)))), .int (am_gi h a0 (Int32.toNatClampNeg (i3 + (2 : Int32))))]) (rest := []) 128 am_q267 rfl rfl rfl rfl rfl rfl rfl rfl rfl rfl rfl rfl (Or.inr (congrArg some g457)) (Cl.mono H (Nat.le_refl _) (fun r456 h455 H => ?_))
      obtain ⟨x458, rfl, H⟩ := H
      refine ev_p (pc' := 1223) (loc' := [.ref a0, .ref a1, .ref a2, .int i3]) (st' := [.int (i3 + (1 : Int32)), .ref a0, .ref a2, .int x458]) 5 am_q267 rfl ?_
      obtain ⟨g459, g460, H⟩ := H
      refine ev_s (pc' := 1224) (loc' := [.ref a0, .ref a1, .ref a2, .int i3]) (st' := [.int (am_gi h455 a0 (Int32.toNatClampNeg (i3 + (1 : Int32)))), .ref a2, .int x458]) (h1 := h455) am_q267 rfl rfl rfl (am_xx g459 g460) ?_
      refine ev_p (pc' := 1228) (loc' := [.ref a0, .ref a1, .ref a2, .int i3]) (st' := [.int (i3 + (2 : Int32)), .ref a0, .int (am_gi h455 a0 (Int32.toNatClampNeg (i3 + (1 : Int32)))), .ref a2, .int x458]) 4 am_q267 rfl ?_
      obtain ⟨g461, g462, H⟩ := H
      refine ev_s (pc' := 1229) (loc' := [.ref a0, .ref a1, .ref a2, .int i3]) (st' := [.int (am_gi h455 a0 (Int32.toNatClampNeg (i3 + (2 : Int32)))), .int (am_gi h455 a0 (Int32.toNatClampNeg (i3 + (1 : Int32)))), .ref a2, .int x458]) (h1 := h455) am_q267 rfl rfl rfl (am_xx g461 g462) ?_
      obtain ⟨g465, H⟩ := H
      refine ev_c (vs := [.ref a2, .int (am_gi h455 a0 (Int32.toNatClampNeg (i3 + (1 : Int32)))), .int (am_gi h455 a0 (Int32.toNatClampNeg (i3 + (2 : Int32))))]) (rest := [.int x458]) 245 am_q267 rfl rfl rfl rfl rfl rfl rfl rfl rfl rfl rfl rfl (Or.inr (congrArg some g465)) (Cl.mono H (Nat.le_refl _) (fun r464 h463 H => ?_))
      obtain ⟨x466, rfl, H⟩ := H
      refine ev_jc (t := 1496) am_q267 rfl rfl (fun hq => ?_) (fun hq => ?_)
      · replace H := H.1 hq
        exact ev_m (loc' := [.ref a0, .ref a1, .ref a2, .int i3]) am_q267 rfl rfl H
      · replace H := H.2 hq
        refine ev_p (pc' := 1236) (loc' := [.ref a0, .ref a1, .ref a2, .int i3]) (st' := [.int (0 : Int32)]) 1 am_q267 rfl ?_
        exact ev_r (v := some (.int (0 : Int32))) am_q267 rfl rfl rfl rfl H
    replace H := H.2
    by_cases k484 : (am_gi h a0 (Int32.toNatClampNeg i3)) &&& (63 : Int32) = (32 : Int32)
    · replace H := H.1 k484
      refine ev_s (pc' := 1237) (loc' := [.ref a0, .ref a1, .ref a2, .int i3]) (st' := []) (h1 := h) am_q267 rfl rfl rfl (by rw [k484]; rfl) ?_
      refine ev_p (pc' := 1242) (loc' := [.ref a0, .ref a1, .ref a2, .int i3]) (st' := [.int (i3 + (1 : Int32)), .ref a0, .ref a1]) 5 am_q267 rfl ?_
      obtain ⟨g468, g469, H⟩ := H
      refine ev_s (pc' := 1243) (loc' := [.ref a0, .ref a1, .ref a2, .int i3]) (st' := [.int (am_gi h a0 (Int32.toNatClampNeg (i3 + (1 : Int32)))), .ref a1]) (h1 := h) am_q267 rfl rfl rfl (am_xx g468 g469) ?_
      refine ev_p (pc' := 1247) (loc' := [.ref a0, .ref a1, .ref a2, .int i3]) (st' := [.int (i3 + (2 : Int32)), .ref a0, .int (am_gi h a0 (Int32.toNatClampNeg (i3 + (1 : Int32)))), .ref a1]) 4 am_q267 rfl ?_
      obtain ⟨g470, g471, H⟩ := H
      refine ev_s (pc' := 1248) (loc' := [.ref a0, .ref a1, .ref a2, .int i3]) (st' := [.int (am_gi h a0 (Int32.toNatClampNeg (i3 + (2 : Int32)))), .int (am_gi h a0 (Int32.toNatClampNeg (i3 + (1 : Int32)))), .ref a1]) (h1 := h) am_q267 rfl rfl rfl (am_xx g470 g471) ?_
      obtain ⟨g474, H⟩ := H
      refine ev_c (vs := [.ref a1, .int (am_gi h a0 (Int32.toNatClampNeg (i3 + (1 : Int32)))), .int (am_gi h a0 (Int32.toNatClampNeg (i3 + (2 : Int32))))]) (rest := []) 129 am_q267 rfl rfl rfl rfl rfl rfl rfl rfl rfl rfl rfl rfl (Or.inr (congrArg some g474)) (Cl.mono H (Nat.le_refl _) (fun r473 h472 H => ?_))
      obtain ⟨y475, rfl, H⟩ := H
      refine ev_p (pc' := 1256) (loc' := [.ref a0, .ref a1, .ref a2, .int i3]) (st' := [.int (i3 + (1 : Int32)), .ref a0, .ref a2, .long y475]) 5 am_q267 rfl ?_
      obtain ⟨g476, g477, H⟩ := H
      refine ev_s (pc' := 1257) (loc' := [.ref a0, .ref a1, .ref a2, .int i3]) (st' := [.int (am_gi h472 a0 (Int32.toNatClampNeg (i3 + (1 : Int32)))), .ref a2, .long y475]) (h1 := h472) am_q267 rfl rfl rfl (am_xx g476 g477) ?_
      refine ev_p (pc' := 1261) (loc' := [.ref a0, .ref a1, .ref a2, .int i3]) (st' := [.int (i3 + (2 : Int32)), .ref a0, .int (am_gi h472 a0 (Int32.toNatClampNeg (i3 + (1 : Int32)))), .ref a2, .long y475]) 4 am_q267 rfl ?_
      obtain ⟨g478, g479, H⟩ := H
      refine ev_s (pc' := 1262) (loc' := [.ref a0, .ref a1, .ref a2, .int i3]) (st' := [.int (am_gi h472 a0 (Int32.toNatClampNeg (i3 + (2 : Int32)))), .int (am_gi h472 a0 (Int32.toNatClampNeg (i3 + (1 : Int32)))), .ref a2, .long y475]) (h1 := h472) am_q267 rfl rfl rfl (am_xx g478 g479) ?_
      obtain ⟨g482, H⟩ := H
      refine ev_c (vs := [.ref a2, .int (am_gi h472 a0 (Int32.toNatClampNeg (i3 + (1 : Int32)))), .int (am_gi h472 a0 (Int32.toNatClampNeg (i3 + (2 : Int32))))]) (rest := [.long y475]) 246 am_q267 rfl rfl rfl rfl rfl rfl rfl rfl rfl rfl rfl rfl (Or.inr (congrArg some g482)) (Cl.mono H (Nat.le_refl _) (fun r481 h480 H => ?_))
      obtain ⟨y483, rfl, H⟩ := H
      refine ev_p (pc' := 1266) (loc' := [.ref a0, .ref a1, .ref a2, .int i3]) (st' := [.int (lg_cmp y475 y483)]) 1 am_q267 rfl ?_
      refine ev_jz (t := 1496) am_q267 rfl rfl (fun hq => ?_) (fun hq => ?_)
      · replace H := H.1 hq
        exact ev_m (loc' := [.ref a0, .ref a1, .ref a2, .int i3]) am_q267 rfl rfl H
      · replace H := H.2 hq
        refine ev_p (pc' := 1270) (loc' := [.ref a0, .ref a1, .ref a2, .int i3]) (st' := [.int (0 : Int32)]) 1 am_q267 rfl ?_
        exact ev_r (v := some (.int (0 : Int32))) am_q267 rfl rfl rfl rfl H
    replace H := H.2
    by_cases k501 : (am_gi h a0 (Int32.toNatClampNeg i3)) &&& (63 : Int32) = (33 : Int32)
    · replace H := H.1 k501
      refine ev_s (pc' := 1271) (loc' := [.ref a0, .ref a1, .ref a2, .int i3]) (st' := []) (h1 := h) am_q267 rfl rfl rfl (by rw [k501]; rfl) ?_
      refine ev_p (pc' := 1276) (loc' := [.ref a0, .ref a1, .ref a2, .int i3]) (st' := [.int (i3 + (1 : Int32)), .ref a0, .ref a1]) 5 am_q267 rfl ?_
      obtain ⟨g485, g486, H⟩ := H
      refine ev_s (pc' := 1277) (loc' := [.ref a0, .ref a1, .ref a2, .int i3]) (st' := [.int (am_gi h a0 (Int32.toNatClampNeg (i3 + (1 : Int32)))), .ref a1]) (h1 := h) am_q267 rfl rfl rfl (am_xx g485 g486) ?_
      refine ev_p (pc' := 1281) (loc' := [.ref a0, .ref a1, .ref a2, .int i3]) (st' := [.int (i3 + (2 : Int32)), .ref a0, .int (am_gi h a0 (Int32.toNatClampNeg (i3 + (1 : Int32)))), .ref a1]) 4 am_q267 rfl ?_
      obtain ⟨g487, g488, H⟩ := H
      refine ev_s (pc' := 1282) (loc' := [.ref a0, .ref a1, .ref a2, .int i3]) (st' := [.int (am_gi h a0 (Int32.toNatClampNeg (i3 + (2 : Int32)))), .int (am_gi h a0 (Int32.toNatClampNeg (i3 + (1 : Int32)))), .ref a1]) (h1 := h) am_q267 rfl rfl rfl (am_xx g487 g488) ?_
      obtain ⟨g491, H⟩ := H
      refine ev_c (vs := [.ref a1, .int (am_gi h a0 (Int32.toNatClampNeg (i3 + (1 : Int32)))), .int (am_gi h a0 (Int32.toNatClampNeg (i3 + (2 : Int32))))]) (rest := []) 130 am_q267 rfl rfl rfl rfl rfl rfl rfl rfl rfl rfl rfl rfl (Or.inr (congrArg some g491)) (Cl.mono H (Nat.le_refl _) (fun r490 h489 H => ?_))
      obtain ⟨x492, rfl, H⟩ := H
      refine ev_p (pc' := 1290) (loc' := [.ref a0, .ref a1, .ref a2, .int i3]) (st' := [.int (i3 + (1 : Int32)), .ref a0, .ref a2, .int x492]) 5 am_q267 rfl ?_
      obtain ⟨g493, g494, H⟩ := H
      refine ev_s (pc' := 1291) (loc' := [.ref a0, .ref a1, .ref a2, .int i3]) (st' := [.int (am_gi h489 a0 (Int32.toNatClampNeg (i3 + (1 : Int32)))), .ref a2, .int x492]) (h1 := h489) am_q267 rfl rfl rfl (am_xx g493 g494) ?_
      refine ev_p (pc' := 1295) (loc' := [.ref a0, .ref a1, .ref a2, .int i3]) (st' := [.int (i3 + (2 : Int32)), .ref a0, .int (am_gi h489 a0 (Int32.toNatClampNeg (i3 + (1 : Int32)))), .ref a2, .int x492]) 4 am_q267 rfl ?_
      obtain ⟨g495, g496, H⟩ := H
      refine ev_s (pc' := 1296) (loc' := [.ref a0, .ref a1, .ref a2, .int i3]) (st' := [.int (am_gi h489 a0 (Int32.toNatClampNeg (i3 + (2 : Int32)))), .int (am_gi h489 a0 (Int32.toNatClampNeg (i3 + (1 : Int32)))), .ref a2, .int x492]) (h1 := h489) am_q267 rfl rfl rfl (am_xx g495 g496) ?_
      obtain ⟨g499, H⟩ := H
      refine ev_c (vs := [.ref a2, .int (am_gi h489 a0 (Int32.toNatClampNeg (i3 + (1 : Int32)))), .int (am_gi h489 a0 (Int32.toNatClampNeg (i3 + (2 : Int32))))]) (rest := [.int x492]) 247 am_q267 rfl rfl rfl rfl rfl rfl rfl rfl rfl rfl rfl rfl (Or.inr (congrArg some g499)) (Cl.mono H (Nat.le_refl _) (fun r498 h497 H => ?_))
      obtain ⟨x500, rfl, H⟩ := H
      refine ev_jc (t := 1496) am_q267 rfl rfl (fun hq => ?_) (fun hq => ?_)
      · replace H := H.1 hq
        exact ev_m (loc' := [.ref a0, .ref a1, .ref a2, .int i3]) am_q267 rfl rfl H
      · replace H := H.2 hq
        refine ev_p (pc' := 1303) (loc' := [.ref a0, .ref a1, .ref a2, .int i3]) (st' := [.int (0 : Int32)]) 1 am_q267 rfl ?_
        exact ev_r (v := some (.int (0 : Int32))) am_q267 rfl rfl rfl rfl H
    replace H := H.2
    by_cases k514 : (am_gi h a0 (Int32.toNatClampNeg i3)) &&& (63 : Int32) = (34 : Int32)
    · replace H := H.1 k514
      refine ev_s (pc' := 1304) (loc' := [.ref a0, .ref a1, .ref a2, .int i3]) (st' := []) (h1 := h) am_q267 rfl rfl rfl (by rw [k514]; rfl) ?_
      refine ev_p (pc' := 1309) (loc' := [.ref a0, .ref a1, .ref a2, .int i3]) (st' := [.int (i3 + (1 : Int32)), .ref a0, .ref a1]) 5 am_q267 rfl ?_
      obtain ⟨g502, g503, H⟩ := H
      refine ev_s (pc' := 1310) (loc' := [.ref a0, .ref a1, .ref a2, .int i3]) (st' := [.int (am_gi h a0 (Int32.toNatClampNeg (i3 + (1 : Int32)))), .ref a1]) (h1 := h) am_q267 rfl rfl rfl (am_xx g502 g503) ?_
      obtain ⟨g506, H⟩ := H
      refine ev_c (vs := [.ref a1, .int (am_gi h a0 (Int32.toNatClampNeg (i3 + (1 : Int32))))]) (rest := []) 131 am_q267 rfl rfl rfl rfl rfl rfl rfl rfl rfl rfl rfl rfl (Or.inr (congrArg some g506)) (Cl.mono H (Nat.le_refl _) (fun r505 h504 H => ?_))
      obtain ⟨x507, rfl, H⟩ := H
      refine ev_p (pc' := 1318) (loc' := [.ref a0, .ref a1, .ref a2, .int i3]) (st' := [.int (i3 + (1 : Int32)), .ref a0, .ref a2, .int x507]) 5 am_q267 rfl ?_
      obtain ⟨g508, g509, H⟩ := H
      refine ev_s (pc' := 1319) (loc' := [.ref a0, .ref a1, .ref a2, .int i3]) (st' := [.int (am_gi h504 a0 (Int32.toNatClampNeg (i3 + (1 : Int32)))), .ref a2, .int x507]) (h1 := h504) am_q267 rfl rfl rfl (am_xx g508 g509) ?_
      obtain ⟨g512, H⟩ := H
      refine ev_c (vs := [.ref a2, .int (am_gi h504 a0 (Int32.toNatClampNeg (i3 + (1 : Int32))))]) (rest := [.int x507]) 248 am_q267 rfl rfl rfl rfl rfl rfl rfl rfl rfl rfl rfl rfl (Or.inr (congrArg some g512)) (Cl.mono H (Nat.le_refl _) (fun r511 h510 H => ?_))
      obtain ⟨x513, rfl, H⟩ := H
      refine ev_jc (t := 1496) am_q267 rfl rfl (fun hq => ?_) (fun hq => ?_)
      · replace H := H.1 hq
        exact ev_m (loc' := [.ref a0, .ref a1, .ref a2, .int i3]) am_q267 rfl rfl H
      · replace H := H.2 hq
        refine ev_p (pc' := 1326) (loc' := [.ref a0, .ref a1, .ref a2, .int i3]) (st' := [.int (0 : Int32)]) 1 am_q267 rfl ?_
        exact ev_r (v := some (.int (0 : Int32))) am_q267 rfl rfl rfl rfl H
    replace H := H.2
    by_cases k523 : (am_gi h a0 (Int32.toNatClampNeg i3)) &&& (63 : Int32) = (35 : Int32)
    · replace H := H.1 k523
      refine ev_s (pc' := 1327) (loc' := [.ref a0, .ref a1, .ref a2, .int i3]) (st' := []) (h1 := h) am_q267 rfl rfl rfl (by rw [k523]; rfl) ?_
      refine ev_p (pc' := 1328) (loc' := [.ref a0, .ref a1, .ref a2, .int i3]) (st' := [.ref a1]) 1 am_q267 rfl ?_
      obtain ⟨g517, H⟩ := H
      refine ev_c (vs := [.ref a1]) (rest := []) 132 am_q267 rfl rfl rfl rfl rfl rfl rfl rfl rfl rfl rfl rfl (Or.inr (congrArg some g517)) (Cl.mono H (Nat.le_refl _) (fun r516 h515 H => ?_))
      obtain ⟨x518, rfl, H⟩ := H
      refine ev_p (pc' := 1332) (loc' := [.ref a0, .ref a1, .ref a2, .int i3]) (st' := [.ref a2, .int x518]) 1 am_q267 rfl ?_
      obtain ⟨g521, H⟩ := H
      refine ev_c (vs := [.ref a2]) (rest := [.int x518]) 250 am_q267 rfl rfl rfl rfl rfl rfl rfl rfl rfl rfl rfl rfl (Or.inr (congrArg some g521)) (Cl.mono H (Nat.le_refl _) (fun r520 h519 H => ?_))
      obtain ⟨x522, rfl, H⟩ := H
      refine ev_jc (t := 1496) am_q267 rfl rfl (fun hq => ?_) (fun hq => ?_)
      · replace H := H.1 hq
        exact ev_m (loc' := [.ref a0, .ref a1, .ref a2, .int i3]) am_q267 rfl rfl H
      · replace H := H.2 hq
        refine ev_p (pc' := 1339) (loc' := [.ref a0, .ref a1, .ref a2, .int i3]) (st' := [.int (0 : Int32)]) 1 am_q267 rfl ?_
        exact ev_r (v := some (.int (0 : Int32))) am_q267 rfl rfl rfl rfl H
    replace H := H.2
    by_cases k540 : (am_gi h a0 (Int32.toNatClampNeg i3)) &&& (63 : Int32) = (36 : Int32)
    · replace H := H.1 k540
      refine ev_s (pc' := 1340) (loc' := [.ref a0, .ref a1, .ref a2, .int i3]) (st' := []) (h1 := h) am_q267 rfl rfl rfl (by rw [k540]; rfl) ?_
      refine ev_p (pc' := 1345) (loc' := [.ref a0, .ref a1, .ref a2, .int i3]) (st' := [.int (i3 + (1 : Int32)), .ref a0, .ref a1]) 5 am_q267 rfl ?_
      obtain ⟨g524, g525, H⟩ := H
      refine ev_s (pc' := 1346) (loc' := [.ref a0, .ref a1, .ref a2, .int i3]) (st' := [.int (am_gi h a0 (Int32.toNatClampNeg (i3 + (1 : Int32)))), .ref a1]) (h1 := h) am_q267 rfl rfl rfl (am_xx g524 g525) ?_
      refine ev_p (pc' := 1350) (loc' := [.ref a0, .ref a1, .ref a2, .int i3]) (st' := [.int (i3 + (2 : Int32)), .ref a0, .int (am_gi h a0 (Int32.toNatClampNeg (i3 + (1 : Int32)))), .ref a1]) 4 am_q267 rfl ?_
      obtain ⟨g526, g527, H⟩ := H
      refine ev_s (pc' := 1351) (loc' := [.ref a0, .ref a1, .ref a2, .int i3]) (st' := [.int (am_gi h a0 (Int32.toNatClampNeg (i3 + (2 : Int32)))), .int (am_gi h a0 (Int32.toNatClampNeg (i3 + (1 : Int32)))), .ref a1]) (h1 := h) am_q267 rfl rfl rfl (am_xx g526 g527) ?_
      obtain ⟨g530, H⟩ := H
      refine ev_c (vs := [.ref a1, .int (am_gi h a0 (Int32.toNatClampNeg (i3 + (1 : Int32)))), .int (am_gi h a0 (Int32.toNatClampNeg (i3 + (2 : Int32))))]) (rest := []) 133 am_q267 rfl rfl rfl rfl rfl rfl rfl rfl rfl rfl rfl rfl (Or.inr (congrArg some g530)) (Cl.mono H (Nat.le_refl _) (fun r529 h528 H => ?_))
      obtain ⟨y531, rfl, H⟩ := H
      refine ev_p (pc' := 1359) (loc' := [.ref a0, .ref a1, .ref a2, .int i3]) (st' := [.int (i3 + (1 : Int32)), .ref a0, .ref a2, .long y531]) 5 am_q267 rfl ?_
      obtain ⟨g532, g533, H⟩ := H
      refine ev_s (pc' := 1360) (loc' := [.ref a0, .ref a1, .ref a2, .int i3]) (st' := [.int (am_gi h528 a0 (Int32.toNatClampNeg (i3 + (1 : Int32)))), .ref a2, .long y531]) (h1 := h528) am_q267 rfl rfl rfl (am_xx g532 g533) ?_
      refine ev_p (pc' := 1364) (loc' := [.ref a0, .ref a1, .ref a2, .int i3]) (st' := [.int (i3 + (2 : Int32)), .ref a0, .int (am_gi h528 a0 (Int32.toNatClampNeg (i3 + (1 : Int32)))), .ref a2, .long y531]) 4 am_q267 rfl ?_
      obtain ⟨g534, g535, H⟩ := H
      refine ev_s (pc' := 1365) (loc' := [.ref a0, .ref a1, .ref a2, .int i3]) (st' := [.int (am_gi h528 a0 (Int32.toNatClampNeg (i3 + (2 : Int32)))), .int (am_gi h528 a0 (Int32.toNatClampNeg (i3 + (1 : Int32)))), .ref a2, .long y531]) (h1 := h528) am_q267 rfl rfl rfl (am_xx g534 g535) ?_
      obtain ⟨g538, H⟩ := H
      refine ev_c (vs := [.ref a2, .int (am_gi h528 a0 (Int32.toNatClampNeg (i3 + (1 : Int32)))), .int (am_gi h528 a0 (Int32.toNatClampNeg (i3 + (2 : Int32))))]) (rest := [.long y531]) 251 am_q267 rfl rfl rfl rfl rfl rfl rfl rfl rfl rfl rfl rfl (Or.inr (congrArg some g538)) (Cl.mono H (Nat.le_refl _) (fun r537 h536 H => ?_))
      obtain ⟨y539, rfl, H⟩ := H
      refine ev_p (pc' := 1369) (loc' := [.ref a0, .ref a1, .ref a2, .int i3]) (st' := [.int (lg_cmp y531 y539)]) 1 am_q267 rfl ?_
      refine ev_jz (t := 1496) am_q267 rfl rfl (fun hq => ?_) (fun hq => ?_)
      · replace H := H.1 hq
        exact ev_m (loc' := [.ref a0, .ref a1, .ref a2, .int i3]) am_q267 rfl rfl H
      · replace H := H.2 hq
        refine ev_p (pc' := 1373) (loc' := [.ref a0, .ref a1, .ref a2, .int i3]) (st' := [.int (0 : Int32)]) 1 am_q267 rfl ?_
        exact ev_r (v := some (.int (0 : Int32))) am_q267 rfl rfl rfl rfl H
    replace H := H.2
    by_cases k553 : (am_gi h a0 (Int32.toNatClampNeg i3)) &&& (63 : Int32) = (37 : Int32)
    · replace H := H.1 k553
      refine ev_s (pc' := 1374) (loc' := [.ref a0, .ref a1, .ref a2, .int i3]) (st' := []) (h1 := h) am_q267 rfl rfl rfl (by rw [k553]; rfl) ?_
      refine ev_p (pc' := 1379) (loc' := [.ref a0, .ref a1, .ref a2, .int i3]) (st' := [.int (i3 + (1 : Int32)), .ref a0, .ref a1]) 5 am_q267 rfl ?_
      obtain ⟨g541, g542, H⟩ := H
      refine ev_s (pc' := 1380) (loc' := [.ref a0, .ref a1, .ref a2, .int i3]) (st' := [.int (am_gi h a0 (Int32.toNatClampNeg (i3 + (1 : Int32)))), .ref a1]) (h1 := h) am_q267 rfl rfl rfl (am_xx g541 g542) ?_
      obtain ⟨g545, H⟩ := H
      refine ev_c (vs := [.ref a1, .int (am_gi h a0 (Int32.toNatClampNeg (i3 + (1 : Int32))))]) (rest := []) 134 am_q267 rfl rfl rfl rfl rfl rfl rfl rfl rfl rfl rfl rfl (Or.inr (congrArg some g545)) (Cl.mono H (Nat.le_refl _) (fun r544 h543 H => ?_))
      obtain ⟨x546, rfl, H⟩ := H
      refine ev_p (pc' := 1388) (loc' := [.ref a0, .ref a1, .ref a2, .int i3]) (st' := [.int (i3 + (1 : Int32)), .ref a0, .ref a2, .int x546]) 5 am_q267 rfl ?_
      obtain ⟨g547, g548, H⟩ := H
      refine ev_s (pc' := 1389) (loc' := [.ref a0, .ref a1, .ref a2, .int i3]) (st' := [.int (am_gi h543 a0 (Int32.toNatClampNeg (i3 + (1 : Int32)))), .ref a2, .int x546]) (h1 := h543) am_q267 rfl rfl rfl (am_xx g547 g548) ?_
      obtain ⟨g551, H⟩ := H
      refine ev_c (vs := [.ref a2, .int (am_gi h543 a0 (Int32.toNatClampNeg (i3 + (1 : Int32))))]) (rest := [.int x546]) 252 am_q267 rfl rfl rfl rfl rfl rfl rfl rfl rfl rfl rfl rfl (Or.inr (congrArg some g551)) (Cl.mono H (Nat.le_refl _) (fun r550 h549 H => ?_))
      obtain ⟨x552, rfl, H⟩ := H
      refine ev_jc (t := 1496) am_q267 rfl rfl (fun hq => ?_) (fun hq => ?_)
      · replace H := H.1 hq
        exact ev_m (loc' := [.ref a0, .ref a1, .ref a2, .int i3]) am_q267 rfl rfl H
      · replace H := H.2 hq
        refine ev_p (pc' := 1396) (loc' := [.ref a0, .ref a1, .ref a2, .int i3]) (st' := [.int (0 : Int32)]) 1 am_q267 rfl ?_
        exact ev_r (v := some (.int (0 : Int32))) am_q267 rfl rfl rfl rfl H
    replace H := H.2
    by_cases k574 : (am_gi h a0 (Int32.toNatClampNeg i3)) &&& (63 : Int32) = (38 : Int32)
    · replace H := H.1 k574
      refine ev_s (pc' := 1397) (loc' := [.ref a0, .ref a1, .ref a2, .int i3]) (st' := []) (h1 := h) am_q267 rfl rfl rfl (by rw [k574]; rfl) ?_
      refine ev_p (pc' := 1402) (loc' := [.ref a0, .ref a1, .ref a2, .int i3]) (st' := [.int (i3 + (1 : Int32)), .ref a0, .ref a1]) 5 am_q267 rfl ?_
      obtain ⟨g554, g555, H⟩ := H
      refine ev_s (pc' := 1403) (loc' := [.ref a0, .ref a1, .ref a2, .int i3]) (st' := [.int (am_gi h a0 (Int32.toNatClampNeg (i3 + (1 : Int32)))), .ref a1]) (h1 := h) am_q267 rfl rfl rfl (am_xx g554 g555) ?_
      refine ev_p (pc' := 1407) (loc' := [.ref a0, .ref a1, .ref a2, .int i3]) (st' := [.int (i3 + (2 : Int32)), .ref a0, .int (am_gi h a0 (Int32.toNatClampNeg (i3 + (1 : Int32)))), .ref a1]) 4 am_q267 rfl ?_
      obtain ⟨g556, g557, H⟩ := H
      refine ev_s (pc' := 1408) (loc' := [.ref a0, .ref a1, .ref a2, .int i3]) (st' := [.int (am_gi h a0 (Int32.toNatClampNeg (i3 + (2 : Int32)))), .int (am_gi h a0 (Int32.toNatClampNeg (i3 + (1 : Int32)))), .ref a1]) (h1 := h) am_q267 rfl rfl rfl (am_xx g556 g557) ?_
      refine ev_p (pc' := 1412) (loc' := [.ref a0, .ref a1, .ref a2, .int i3]) (st' := [.int (i3 + (3 : Int32)), .ref a0, .int (am_gi h a0 (Int32.toNatClampNeg (i3 + (2 : Int32)))), .int (am_gi h a0 (Int32.toNatClampNeg (i3 + (1 : Int32)))), .ref a1]) 4 am_q267 rfl ?_
      obtain ⟨g558, g559, H⟩ := H
      refine ev_s (pc' := 1413) (loc' := [.ref a0, .ref a1, .ref a2, .int i3]) (st' := [.int (am_gi h a0 (Int32.toNatClampNeg (i3 + (3 : Int32)))), .int (am_gi h a0 (Int32.toNatClampNeg (i3 + (2 : Int32)))), .int (am_gi h a0 (Int32.toNatClampNeg (i3 + (1 : Int32)))), .ref a1]) (h1 := h) am_q267 rfl rfl rfl (am_xx g558 g559) ?_
      obtain ⟨g562, H⟩ := H
      refine ev_c (vs := [.ref a1, .int (am_gi h a0 (Int32.toNatClampNeg (i3 + (1 : Int32)))), .int (am_gi h a0 (Int32.toNatClampNeg (i3 + (2 : Int32)))), .int (am_gi h a0 (Int32.toNatClampNeg (i3 + (3 : Int32))))]) (rest := []) 135 am_q267 rfl rfl rfl rfl rfl rfl rfl rfl rfl rfl rfl rfl (Or.inr (congrArg some g562)) (Cl.mono H (Nat.le_refl _) (fun r561 h560 H => ?_))
      obtain ⟨x563, rfl, H⟩ := H
      refine ev_p (pc' := 1421) (loc' := [.ref a0, .ref a1, .ref a2, .int i3]) (st' := [.int (i3 + (1 : Int32)), .ref a0, .ref a2, .int x563]) 5 am_q267 rfl ?_
      obtain ⟨g564, g565, H⟩ := H
      refine ev_s (pc' := 1422) (loc' := [.ref a0, .ref a1, .ref a2, .int i3]) (st' := [.int (am_gi h560 a0 (Int32.toNatClampNeg (i3 + (1 : Int32)))), .ref a2, .int x563]) (h1 := h560) am_q267 rfl rfl rfl (am_xx g564 g565) ?_
      refine ev_p (pc' := 1426) (loc' := [.ref a0, .ref a1, .ref a2, .int i3]) (st' := [.int (i3 + (2 : Int32)), .ref a0, .int (am_gi h560 a0 (Int32.toNatClampNeg (i3 + (1 : Int32)))), .ref a2, .int x563]) 4 am_q267 rfl ?_
      obtain ⟨g566, g567, H⟩ := H
      refine ev_s (pc' := 1427) (loc' := [.ref a0, .ref a1, .ref a2, .int i3]) (st' := [.int (am_gi h560 a0 (Int32.toNatClampNeg (i3 + (2 : Int32)))), .int (am_gi h560 a0 (Int32.toNatClampNeg (i3 + (1 : Int32)))), .ref a2, .int x563]) (h1 := h560) am_q267 rfl rfl rfl (am_xx g566 g567) ?_
      refine ev_p (pc' := 1431) (loc' := [.ref a0, .ref a1, .ref a2, .int i3]) (st' := [.int (i3 + (3 : Int32)), .ref a0, .int (am_gi h560 a0 (Int32.toNatClampNeg (i3 + (2 : Int32)))), .int (am_gi h560 a0 (Int32.toNatClampNeg (i3 + (1 : Int32)))), .ref a2, .int x563]) 4 am_q267 rfl ?_
      obtain ⟨g568, g569, H⟩ := H
      refine ev_s (pc' := 1432) (loc' := [.ref a0, .ref a1, .ref a2, .int i3]) (st' := [.int (am_gi h560 a0 (Int32.toNatClampNeg (i3 + (3 : Int32)))), .int (am_gi h560 a0 (Int32.toNatClampNeg (i3 + (2 : Int32)))), .int (am_gi h560 a0 (Int32.toNatClampNeg (i3 + (1 : Int32)))), .ref a2, .int x563]) (h1 := h560) am_q267 rfl rfl rfl (am_xx g568 g569) ?_
      obtain ⟨g572, H⟩ := H
      refine ev_c (vs := [.ref a2, .int (am_gi h560 a0 (Int32.toNatClampNeg (i3 + (1 : Int32)))), .int (am_gi h560 a0 (Int32.toNatClampNeg (i3 + (2 : Int32)))), .int (am_gi h560 a0 (Int32.toNatClampNeg (i3 + (3 : Int32))))]) (rest := [.int x563]) 255 am_q267 rfl rfl rfl rfl rfl rfl rfl rfl rfl rfl rfl rfl (Or.inr (congrArg some g572)) (Cl.mono H (Nat.le_refl _) (fun r571 h570 H => ?_))
      obtain ⟨x573, rfl, H⟩ := H
      refine ev_jc (t := 1496) am_q267 rfl rfl (fun hq => ?_) (fun hq => ?_)
      · replace H := H.1 hq
        exact ev_m (loc' := [.ref a0, .ref a1, .ref a2, .int i3]) am_q267 rfl rfl H
      · replace H := H.2 hq
        refine ev_p (pc' := 1439) (loc' := [.ref a0, .ref a1, .ref a2, .int i3]) (st' := [.int (0 : Int32)]) 1 am_q267 rfl ?_
        exact ev_r (v := some (.int (0 : Int32))) am_q267 rfl rfl rfl rfl H
    replace H := H.2
    by_cases k595 : (am_gi h a0 (Int32.toNatClampNeg i3)) &&& (63 : Int32) = (39 : Int32)
    · replace H := H.1 k595
      refine ev_s (pc' := 1440) (loc' := [.ref a0, .ref a1, .ref a2, .int i3]) (st' := []) (h1 := h) am_q267 rfl rfl rfl (by rw [k595]; rfl) ?_
      refine ev_p (pc' := 1445) (loc' := [.ref a0, .ref a1, .ref a2, .int i3]) (st' := [.int (i3 + (1 : Int32)), .ref a0, .ref a1]) 5 am_q267 rfl ?_
      obtain ⟨g575, g576, H⟩ := H
      refine ev_s (pc' := 1446) (loc' := [.ref a0, .ref a1, .ref a2, .int i3]) (st' := [.int (am_gi h a0 (Int32.toNatClampNeg (i3 + (1 : Int32)))), .ref a1]) (h1 := h) am_q267 rfl rfl rfl (am_xx g575 g576) ?_
      refine ev_p (pc' := 1450) (loc' := [.ref a0, .ref a1, .ref a2, .int i3]) (st' := [.int (i3 + (2 : Int32)), .ref a0, .int (am_gi h a0 (Int32.toNatClampNeg (i3 + (1 : Int32)))), .ref a1]) 4 am_q267 rfl ?_
      obtain ⟨g577, g578, H⟩ := H
      refine ev_s (pc' := 1451) (loc' := [.ref a0, .ref a1, .ref a2, .int i3]) (st' := [.int (am_gi h a0 (Int32.toNatClampNeg (i3 + (2 : Int32)))), .int (am_gi h a0 (Int32.toNatClampNeg (i3 + (1 : Int32)))), .ref a1]) (h1 := h) am_q267 rfl rfl rfl (am_xx g577 g578) ?_
      refine ev_p (pc' := 1455) (loc' := [.ref a0, .ref a1, .ref a2, .int i3]) (st' := [.int (i3 + (3 : Int32)), .ref a0, .int (am_gi h a0 (Int32.toNatClampNeg (i3 + (2 : Int32)))), .int (am_gi h a0 (Int32.toNatClampNeg (i3 + (1 : Int32)))), .ref a1]) 4 am_q267 rfl ?_
      obtain ⟨g579, g580, H⟩ := H
      refine ev_s (pc' := 1456) (loc' := [.ref a0, .ref a1, .ref a2, .int i3]) (st' := [.int (am_gi h a0 (Int32.toNatClampNeg (i3 + (3 : Int32)))), .int (am_gi h a0 (Int32.toNatClampNeg (i3 + (2 : Int32)))), .int (am_gi h a0 (Int32.toNatClampNeg (i3 + (1 : Int32)))), .ref a1]) (h1 := h) am_q267 rfl rfl rfl (am_xx g579 g580) ?_
      obtain ⟨g583, H⟩ := H
      refine ev_c (vs := [.ref a1, .int (am_gi h a0 (Int32.toNatClampNeg (i3 + (1 : Int32)))), .int (am_gi h a0 (Int32.toNatClampNeg (i3 + (2 : Int32)))), .int (am_gi h a0 (Int32.toNatClampNeg (i3 + (3 : Int32))))]) (rest := []) 136 am_q267 rfl rfl rfl rfl rfl rfl rfl rfl rfl rfl rfl rfl (Or.inr (congrArg some g583)) (Cl.mono H (Nat.le_refl _) (fun r582 h581 H => ?_))
      obtain ⟨x584, rfl, H⟩ := H
      refine ev_p (pc' := 1464) (loc' := [.ref a0, .ref a1, .ref a2, .int i3]) (st' := [.int (i3 + (1 : Int32)), .ref a0, .ref a2, .int x584]) 5 am_q267 rfl ?_
      obtain ⟨g585, g586, H⟩ := H
      refine ev_s (pc' := 1465) (loc' := [.ref a0, .ref a1, .ref a2, .int i3]) (st' := [.int (am_gi h581 a0 (Int32.toNatClampNeg (i3 + (1 : Int32)))), .ref a2, .int x584]) (h1 := h581) am_q267 rfl rfl rfl (am_xx g585 g586) ?_
      refine ev_p (pc' := 1469) (loc' := [.ref a0, .ref a1, .ref a2, .int i3]) (st' := [.int (i3 + (2 : Int32)), .ref a0, .int (am_gi h581 a0 (Int32.toNatClampNeg (i3 + (1 : Int32)))), .ref a2, .int x584]) 4 am_q267 rfl ?_
      obtain ⟨g587, g588, H⟩ := H
      refine ev_s (pc' := 1470) (loc' := [.ref a0, .ref a1, .ref a2, .int i3]) (st' := [.int (am_gi h581 a0 (Int32.toNatClampNeg (i3 + (2 : Int32)))), .int (am_gi h581 a0 (Int32.toNatClampNeg (i3 + (1 : Int32)))), .ref a2, .int x584]) (h1 := h581) am_q267 rfl rfl rfl (am_xx g587 g588) ?_
      refine ev_p (pc' := 1474) (loc' := [.ref a0, .ref a1, .ref a2, .int i3]) (st' := [.int (i3 + (3 : Int32)), .ref a0, .int (am_gi h581 a0 (Int32.toNatClampNeg (i3 + (2 : Int32)))), .int (am_gi h581 a0 (Int32.toNatClampNeg (i3 + (1 : Int32)))), .ref a2, .int x584]) 4 am_q267 rfl ?_
      obtain ⟨g589, g590, H⟩ := H
      refine ev_s (pc' := 1475) (loc' := [.ref a0, .ref a1, .ref a2, .int i3]) (st' := [.int (am_gi h581 a0 (Int32.toNatClampNeg (i3 + (3 : Int32)))), .int (am_gi h581 a0 (Int32.toNatClampNeg (i3 + (2 : Int32)))), .int (am_gi h581 a0 (Int32.toNatClampNeg (i3 + (1 : Int32)))), .ref a2, .int x584]) (h1 := h581) am_q267 rfl rfl rfl (am_xx g589 g590) ?_
      obtain ⟨g593, H⟩ := H
      refine ev_c (vs := [.ref a2, .int (am_gi h581 a0 (Int32.toNatClampNeg (i3 + (1 : Int32)))), .int (am_gi h581 a0 (Int32.toNatClampNeg (i3 + (2 : Int32)))), .int (am_gi h581 a0 (Int32.toNatClampNeg (i3 + (3 : Int32))))]) (rest := [.int x584]) 260 am_q267 rfl rfl rfl rfl rfl rfl rfl rfl rfl rfl rfl rfl (Or.inr (congrArg some g593)) (Cl.mono H (Nat.le_refl _) (fun r592 h591 H => ?_))
      obtain ⟨x594, rfl, H⟩ := H
      refine ev_jc (t := 1496) am_q267 rfl rfl (fun hq => ?_) (fun hq => ?_)
      · replace H := H.1 hq
        exact ev_m (loc' := [.ref a0, .ref a1, .ref a2, .int i3]) am_q267 rfl rfl H
      · replace H := H.2 hq
        refine ev_p (pc' := 1482) (loc' := [.ref a0, .ref a1, .ref a2, .int i3]) (st' := [.int (0 : Int32)]) 1 am_q267 rfl ?_
        exact ev_r (v := some (.int (0 : Int32))) am_q267 rfl rfl rfl rfl H
    replace H := H.2
    by_cases k604 : (am_gi h a0 (Int32.toNatClampNeg i3)) &&& (63 : Int32) = (40 : Int32)
    · replace H := H.1 k604
      refine ev_s (pc' := 1483) (loc' := [.ref a0, .ref a1, .ref a2, .int i3]) (st' := []) (h1 := h) am_q267 rfl rfl rfl (by rw [k604]; rfl) ?_
      refine ev_p (pc' := 1484) (loc' := [.ref a0, .ref a1, .ref a2, .int i3]) (st' := [.ref a1]) 1 am_q267 rfl ?_
      obtain ⟨g598, H⟩ := H
      refine ev_c (vs := [.ref a1]) (rest := []) 137 am_q267 rfl rfl rfl rfl rfl rfl rfl rfl rfl rfl rfl rfl (Or.inr (congrArg some g598)) (Cl.mono H (Nat.le_refl _) (fun r597 h596 H => ?_))
      obtain ⟨x599, rfl, H⟩ := H
      refine ev_p (pc' := 1488) (loc' := [.ref a0, .ref a1, .ref a2, .int i3]) (st' := [.ref a2, .int x599]) 1 am_q267 rfl ?_
      obtain ⟨g602, H⟩ := H
      refine ev_c (vs := [.ref a2]) (rest := [.int x599]) 261 am_q267 rfl rfl rfl rfl rfl rfl rfl rfl rfl rfl rfl rfl (Or.inr (congrArg some g602)) (Cl.mono H (Nat.le_refl _) (fun r601 h600 H => ?_))
      obtain ⟨x603, rfl, H⟩ := H
      refine ev_jc (t := 1496) am_q267 rfl rfl (fun hq => ?_) (fun hq => ?_)
      · replace H := H.1 hq
        exact ev_m (loc' := [.ref a0, .ref a1, .ref a2, .int i3]) am_q267 rfl rfl H
      · replace H := H.2 hq
        refine ev_p (pc' := 1495) (loc' := [.ref a0, .ref a1, .ref a2, .int i3]) (st' := [.int (0 : Int32)]) 1 am_q267 rfl ?_
        exact ev_r (v := some (.int (0 : Int32))) am_q267 rfl rfl rfl rfl H
    replace H := H.2
    replace H := H ⟨k16, k37, k50, k67, k92, k109, k122, k135, k152, k173, k190, k207, k228, k237, k250, k257, k274, k287, k304, k317, k330, k351, k368, k381, k386, k399, k406, k415, k428, k437, k450, k467, k484, k501, k514, k523, k540, k553, k574, k595, k604⟩
    refine ev_s (pc' := 1496) (loc' := [.ref a0, .ref a1, .ref a2, .int i3]) (st' := []) (h1 := h) am_q267 rfl rfl rfl (am_tso (x := ((am_gi h a0 (Int32.toNatClampNeg i3)) &&& (63 : Int32)).toInt) (by have z0 : ((am_gi h a0 (Int32.toNatClampNeg i3)) &&& (63 : Int32)).toInt ≠ 0 := am_tn k16 (by decide); have z1 : ((am_gi h a0 (Int32.toNatClampNeg i3)) &&& (63 : Int32)).toInt ≠ 1 := am_tn k37 (by decide); have z2 : ((am_gi h a0 (Int32.toNatClampNeg i3)) &&& (63 : Int32)).toInt ≠ 2 := am_tn k50 (by decide); have z3 : ((am_gi h a0 (Int32.toNatClampNeg i3)) &&& (63 : Int32)).toInt ≠ 3 := am_tn k67 (by decide); have z4 : ((am_gi h a0 (Int32.toNatClampNeg i3)) &&& (63 : Int32)).toInt ≠ 4 := am_tn k92 (by decide); have z5 : ((am_gi h a0 (Int32.toNatClampNeg i3)) &&& (63 : Int32)).toInt ≠ 5 := am_tn k109 (by decide); have z6 : ((am_gi h a0 (Int32.toNatClampNeg i3)) &&& (63 : Int32)).toInt ≠ 6 := am_tn k122 (by decide); have z7 : ((am_gi h a0 (Int32.toNatClampNeg i3)) &&& (63 : Int32)).toInt ≠ 7 := am_tn k135 (by decide); have z8 : ((am_gi h a0 (Int32.toNatClampNeg i3)) &&& (63 : Int32)).toInt ≠ 8 := am_tn k152 (by decide); have z9 : ((am_gi h a0 (Int32.toNatClampNeg i3)) &&& (63 : Int32)).toInt ≠ 9 := am_tn k173 (by decide); have z10 : ((am_gi h a0 (Int32.toNatClampNeg i3)) &&& (63 : Int32)).toInt ≠ 10 := am_tn k190 (by decide); have z11 : ((am_gi h a0 (Int32.toNatClampNeg i3)) &&& (63 : Int32)).toInt ≠ 11 := am_tn k207 (by decide); have z12 : ((am_gi h a0 (Int32.toNatClampNeg i3)) &&& (63 : Int32)).toInt ≠ 12 := am_tn k228 (by decide); have z13 : ((am_gi h a0 (Int32.toNatClampNeg i3)) &&& (63 : Int32)).toInt ≠ 13 := am_tn k237 (by decide); have z14 : ((am_gi h a0 (Int32.toNatClampNeg i3)) &&& (63 : Int32)).toInt ≠ 14 := am_tn k250 (by decide); have z15 : ((am_gi h a0 (Int32.toNatClampNeg i3)) &&& (63 : Int32)).toInt ≠ 15 := am_tn k257 (by decide); have z16 : ((am_gi h a0 (Int32.toNatClampNeg i3)) &&& (63 : Int32)).toInt ≠ 16 := am_tn k274 (by decide); have z17 : ((am_gi h a0 (Int32.toNatClampNeg i3)) &&& (63 : Int32)).toInt ≠ 17 := am_tn k287 (by decide); have z18 : ((am_gi h a0 (Int32.toNatClampNeg i3)) &&& (63 : Int32)).toInt ≠ 18 := am_tn k304 (by decide); have z19 : ((am_gi h a0 (Int32.toNatClampNeg i3)) &&& (63 : Int32)).toInt ≠ 19 := am_tn k317 (by decide); have z20 : ((am_gi h a0 (Int32.toNatClampNeg i3)) &&& (63 : Int32)).toInt ≠ 20 := am_tn k330 (by decide); have z21 : ((am_gi h a0 (Int32.toNatClampNeg i3)) &&& (63 : Int32)).toInt ≠ 21 := am_tn k351 (by decide); have z22 : ((am_gi h a0 (Int32.toNatClampNeg i3)) &&& (63 : Int32)).toInt ≠ 22 := am_tn k368 (by decide); have z23 : ((am_gi h a0 (Int32.toNatClampNeg i3)) &&& (63 : Int32)).toInt ≠ 23 := am_tn k381 (by decide); have z24 : ((am_gi h a0 (Int32.toNatClampNeg i3)) &&& (63 : Int32)).toInt ≠ 24 := am_tn k386 (by decide); have z25 : ((am_gi h a0 (Int32.toNatClampNeg i3)) &&& (63 : Int32)).toInt ≠ 25 := am_tn k399 (by decide); have z26 : ((am_gi h a0 (Int32.toNatClampNeg i3)) &&& (63 : Int32)).toInt ≠ 26 := am_tn k406 (by decide); have z27 : ((am_gi h a0 (Int32.toNatClampNeg i3)) &&& (63 : Int32)).toInt ≠ 27 := am_tn k415 (by decide); have z28 : ((am_gi h a0 (Int32.toNatClampNeg i3)) &&& (63 : Int32)).toInt ≠ 28 := am_tn k428 (by decide); have z29 : ((am_gi h a0 (Int32.toNatClampNeg i3)) &&& (63 : Int32)).toInt ≠ 29 := am_tn k437 (by decide); have z30 : ((am_gi h a0 (Int32.toNatClampNeg i3)) &&& (63 : Int32)).toInt ≠ 30 := am_tn k450 (by decide); have z31 : ((am_gi h a0 (Int32.toNatClampNeg i3)) &&& (63 : Int32)).toInt ≠ 31 := am_tn k467 (by decide); have z32 : ((am_gi h a0 (Int32.toNatClampNeg i3)) &&& (63 : Int32)).toInt ≠ 32 := am_tn k484 (by decide); have z33 : ((am_gi h a0 (Int32.toNatClampNeg i3)) &&& (63 : Int32)).toInt ≠ 33 := am_tn k501 (by decide); have z34 : ((am_gi h a0 (Int32.toNatClampNeg i3)) &&& (63 : Int32)).toInt ≠ 34 := am_tn k514 (by decide); have z35 : ((am_gi h a0 (Int32.toNatClampNeg i3)) &&& (63 : Int32)).toInt ≠ 35 := am_tn k523 (by decide); have z36 : ((am_gi h a0 (Int32.toNatClampNeg i3)) &&& (63 : Int32)).toInt ≠ 36 := am_tn k540 (by decide); have z37 : ((am_gi h a0 (Int32.toNatClampNeg i3)) &&& (63 : Int32)).toInt ≠ 37 := am_tn k553 (by decide); have z38 : ((am_gi h a0 (Int32.toNatClampNeg i3)) &&& (63 : Int32)).toInt ≠ 38 := am_tn k574 (by decide); have z39 : ((am_gi h a0 (Int32.toNatClampNeg i3)) &&& (63 : Int32)).toInt ≠ 39 := am_tn k595 (by decide); have z40 : ((am_gi h a0 (Int32.toNatClampNeg i3)) &&& (63 : Int32)).toInt ≠ 40 := am_tn k604 (by decide); omega)) ?_
    exact ev_m (loc' := [.ref a0, .ref a1, .ref a2, .int i3]) am_q267 rfl rfl H
set_option maxRecDepth 20000 in
set_option maxHeartbeats 2000000 in
theorem wp267_731 {d : Nat} (a0 : Nat) (a1 : Nat) (a2 : Nat) (i3 : Int32) (s0 : Nat) (s1 : Int32) (s2 : Int32) (s3 : Int32) {h : AH} {Q : Option Value → AH → Prop} (H : am_kd h s0 = 11 ∧ Cl d 112 [.ref s0, .int s1, .int s2, .int s3] h (fun r2 h1 => ∃ x4, r2 = some (.int x4) ∧ am_kd h1 a0 = 100 ∧ am_in (i3 + (1 : Int32)) (am_ln h1 a0) ∧ am_kd h1 a0 = 100 ∧ am_in (i3 + (2 : Int32)) (am_ln h1 a0) ∧ am_kd h1 a0 = 100 ∧ am_in (i3 + (3 : Int32)) (am_ln h1 a0) ∧ ((am_gi h1 a0 (Int32.toNatClampNeg (i3 + (3 : Int32)))) = (0 : Int32) → am_kd h1 a2 = 12 ∧ Cl d 220 [.ref a2, .int (am_gi h1 a0 (Int32.toNatClampNeg (i3 + (1 : Int32)))), .int (am_gi h1 a0 (Int32.toNatClampNeg (i3 + (2 : Int32)))), .int (0 : Int32)] h1 (fun r12 h11 => ∃ x14, r12 = some (.int x14) ∧ (x4 = x14 → Ev (d + 1) 267 1496 [.ref a0, .ref a1, .ref a2, .int i3] [] h11 Q) ∧ (¬ x4 = x14 → Q (some (.int (0 : Int32))) h11))) ∧ (¬ (am_gi h1 a0 (Int32.toNatClampNeg (i3 + (3 : Int32)))) = (0 : Int32) → am_kd h1 a2 = 12 ∧ Cl d 220 [.ref a2, .int (am_gi h1 a0 (Int32.toNatClampNeg (i3 + (1 : Int32)))), .int (am_gi h1 a0 (Int32.toNatClampNeg (i3 + (2 : Int32)))), .int (1 : Int32)] h1 (fun r16 h15 => ∃ x18, r16 = some (.int x18) ∧ (x4 = x18 → Ev (d + 1) 267 1496 [.ref a0, .ref a1, .ref a2, .int i3] [] h15 Q) ∧ (¬ x4 = x18 → Q (some (.int (0 : Int32))) h15))))) : Ev (d + 1) 267 731 [.ref a0, .ref a1, .ref a2, .int i3] [.int s3, .int s2, .int s1, .ref s0] h Q := by
  obtain ⟨g3, H⟩ := H
  refine ev_c (vs := [.ref s0, .int s1, .int s2, .int s3]) (rest := []) 112 am_q267 rfl rfl rfl rfl rfl rfl rfl rfl rfl rfl rfl rfl (Or.inr (congrArg some g3)) (Cl.mono H (Nat.le_refl _) (fun r2 h1 H => ?_))
  obtain ⟨x4, rfl, H⟩ := H
  refine ev_p (pc' := 739) (loc' := [.ref a0, .ref a1, .ref a2, .int i3]) (st' := [.int (i3 + (1 : Int32)), .ref a0, .ref a2, .int x4]) 5 am_q267 rfl ?_
  obtain ⟨g5, g6, H⟩ := H
  refine ev_s (pc' := 740) (loc' := [.ref a0, .ref a1, .ref a2, .int i3]) (st' := [.int (am_gi h1 a0 (Int32.toNatClampNeg (i3 + (1 : Int32)))), .ref a2, .int x4]) (h1 := h1) am_q267 rfl rfl rfl (am_xx g5 g6) ?_
  refine ev_p (pc' := 744) (loc' := [.ref a0, .ref a1, .ref a2, .int i3]) (st' := [.int (i3 + (2 : Int32)), .ref a0, .int (am_gi h1 a0 (Int32.toNatClampNeg (i3 + (1 : Int32)))), .ref a2, .int x4]) 4 am_q267 rfl ?_
  obtain ⟨g7, g8, H⟩ := H
  refine ev_s (pc' := 745) (loc' := [.ref a0, .ref a1, .ref a2, .int i3]) (st' := [.int (am_gi h1 a0 (Int32.toNatClampNeg (i3 + (2 : Int32)))), .int (am_gi h1 a0 (Int32.toNatClampNeg (i3 + (1 : Int32)))), .ref a2, .int x4]) (h1 := h1) am_q267 rfl rfl rfl (am_xx g7 g8) ?_
  refine ev_p (pc' := 749) (loc' := [.ref a0, .ref a1, .ref a2, .int i3]) (st' := [.int (i3 + (3 : Int32)), .ref a0, .int (am_gi h1 a0 (Int32.toNatClampNeg (i3 + (2 : Int32)))), .int (am_gi h1 a0 (Int32.toNatClampNeg (i3 + (1 : Int32)))), .ref a2, .int x4]) 4 am_q267 rfl ?_
  obtain ⟨g9, g10, H⟩ := H
  refine ev_s (pc' := 750) (loc' := [.ref a0, .ref a1, .ref a2, .int i3]) (st' := [.int (am_gi h1 a0 (Int32.toNatClampNeg (i3 + (3 : Int32)))), .int (am_gi h1 a0 (Int32.toNatClampNeg (i3 + (2 : Int32)))), .int (am_gi h1 a0 (Int32.toNatClampNeg (i3 + (1 : Int32)))), .ref a2, .int x4]) (h1 := h1) am_q267 rfl rfl rfl (am_xx g9 g10) ?_
  refine ev_jz (t := 757) am_q267 rfl rfl (fun hq => ?_) (fun hq => ?_)
  · replace H := H.1 hq
    refine ev_p (pc' := 758) (loc' := [.ref a0, .ref a1, .ref a2, .int i3]) (st' := [.int (0 : Int32), .int (am_gi h1 a0 (Int32.toNatClampNeg (i3 + (2 : Int32)))), .int (am_gi h1 a0 (Int32.toNatClampNeg (i3 + (1 : Int32)))), .ref a2, .int x4]) 1 am_q267 rfl ?_
    obtain ⟨g13, H⟩ := H
    refine ev_c (vs := [.ref a2, .int (am_gi h1 a0 (Int32.toNatClampNeg (i3 + (1 : Int32)))), .int (am_gi h1 a0 (Int32.toNatClampNeg (i3 + (2 : Int32)))), .int (0 : Int32)]) (rest := [.int x4]) 220 am_q267 rfl rfl rfl rfl rfl rfl rfl rfl rfl rfl rfl rfl (Or.inr (congrArg some g13)) (Cl.mono H (Nat.le_refl _) (fun r12 h11 H => ?_))
    obtain ⟨x14, rfl, H⟩ := H
    refine ev_jc (t := 1496) am_q267 rfl rfl (fun hq => ?_) (fun hq => ?_)
    · replace H := H.1 hq
      exact ev_m (loc' := [.ref a0, .ref a1, .ref a2, .int i3]) am_q267 rfl rfl H
    · replace H := H.2 hq
      refine ev_p (pc' := 765) (loc' := [.ref a0, .ref a1, .ref a2, .int i3]) (st' := [.int (0 : Int32)]) 1 am_q267 rfl ?_
      exact ev_r (v := some (.int (0 : Int32))) am_q267 rfl rfl rfl rfl H
  · replace H := H.2 hq
    refine ev_p (pc' := 758) (loc' := [.ref a0, .ref a1, .ref a2, .int i3]) (st' := [.int (1 : Int32), .int (am_gi h1 a0 (Int32.toNatClampNeg (i3 + (2 : Int32)))), .int (am_gi h1 a0 (Int32.toNatClampNeg (i3 + (1 : Int32)))), .ref a2, .int x4]) 2 am_q267 rfl ?_
    obtain ⟨g17, H⟩ := H
    refine ev_c (vs := [.ref a2, .int (am_gi h1 a0 (Int32.toNatClampNeg (i3 + (1 : Int32)))), .int (am_gi h1 a0 (Int32.toNatClampNeg (i3 + (2 : Int32)))), .int (1 : Int32)]) (rest := [.int x4]) 220 am_q267 rfl rfl rfl rfl rfl rfl rfl rfl rfl rfl rfl rfl (Or.inr (congrArg some g17)) (Cl.mono H (Nat.le_refl _) (fun r16 h15 H => ?_))
    obtain ⟨x18, rfl, H⟩ := H
    refine ev_jc (t := 1496) am_q267 rfl rfl (fun hq => ?_) (fun hq => ?_)
    · replace H := H.1 hq
      exact ev_m (loc' := [.ref a0, .ref a1, .ref a2, .int i3]) am_q267 rfl rfl H
    · replace H := H.2 hq
      refine ev_p (pc' := 765) (loc' := [.ref a0, .ref a1, .ref a2, .int i3]) (st' := [.int (0 : Int32)]) 1 am_q267 rfl ?_
      exact ev_r (v := some (.int (0 : Int32))) am_q267 rfl rfl rfl rfl H
set_option maxRecDepth 20000 in
set_option maxHeartbeats 2000000 in
theorem wp267_1020 {d : Nat} (a0 : Nat) (a1 : Nat) (a2 : Nat) (i3 : Int32) (s0 : Nat) (s1 : Int32) (s2 : Int32) {h : AH} {Q : Option Value → AH → Prop} (H : am_kd h s0 = 11 ∧ Cl d 121 [.ref s0, .int s1, .int s2] h (fun r2 h1 => ∃ x4, r2 = some (.int x4) ∧ am_kd h1 a0 = 100 ∧ am_in (i3 + (1 : Int32)) (am_ln h1 a0) ∧ am_kd h1 a0 = 100 ∧ am_in (i3 + (2 : Int32)) (am_ln h1 a0) ∧ ((am_gi h1 a0 (Int32.toNatClampNeg (i3 + (2 : Int32)))) = (0 : Int32) → am_kd h1 a2 = 12 ∧ Cl d 233 [.ref a2, .int (am_gi h1 a0 (Int32.toNatClampNeg (i3 + (1 : Int32)))), .int (0 : Int32)] h1 (fun r10 h9 => ∃ x12, r10 = some (.int x12) ∧ (x4 = x12 → Ev (d + 1) 267 1496 [.ref a0, .ref a1, .ref a2, .int i3] [] h9 Q) ∧ (¬ x4 = x12 → Q (some (.int (0 : Int32))) h9))) ∧ (¬ (am_gi h1 a0 (Int32.toNatClampNeg (i3 + (2 : Int32)))) = (0 : Int32) → am_kd h1 a2 = 12 ∧ Cl d 233 [.ref a2, .int (am_gi h1 a0 (Int32.toNatClampNeg (i3 + (1 : Int32)))), .int (1 : Int32)] h1 (fun r14 h13 => ∃ x16, r14 = some (.int x16) ∧ (x4 = x16 → Ev (d + 1) 267 1496 [.ref a0, .ref a1, .ref a2, .int i3] [] h13 Q) ∧ (¬ x4 = x16 → Q (some (.int (0 : Int32))) h13))))) : Ev (d + 1) 267 1020 [.ref a0, .ref a1, .ref a2, .int i3] [.int s2, .int s1, .ref s0] h Q := by
  obtain ⟨g3, H⟩ := H
  refine ev_c (vs := [.ref s0, .int s1, .int s2]) (rest := []) 121 am_q267 rfl rfl rfl rfl rfl rfl rfl rfl rfl rfl rfl rfl (Or.inr (congrArg some g3)) (Cl.mono H (Nat.le_refl _) (fun r2 h1 H => ?_))
  obtain ⟨x4, rfl, H⟩ := H
  refine ev_p (pc' := 1028) (loc' := [.ref a0, .ref a1, .ref a2, .int i3]) (st' := [.int (i3 + (1 : Int32)), .ref a0, .ref a2, .int x4]) 5 am_q267 rfl ?_
  obtain ⟨g5, g6, H⟩ := H
  refine ev_s (pc' := 1029) (loc' := [.ref a0, .ref a1, .ref a2, .int i3]) (st' := [.int (am_gi h1 a0 (Int32.toNatClampNeg (i3 + (1 : Int32)))), .ref a2, .int x4]) (h1 := h1) am_q267 rfl rfl rfl (am_xx g5 g6) ?_
  refine ev_p (pc' := 1033) (loc' := [.ref a0, .ref a1, .ref a2, .int i3]) (st' := [.int (i3 + (2 : Int32)), .ref a0, .int (am_gi h1 a0 (Int32.toNatClampNeg (i3 + (1 : Int32)))), .ref a2, .int x4]) 4 am_q267 rfl ?_
  obtain ⟨g7, g8, H⟩ := H
  refine ev_s (pc' := 1034) (loc' := [.ref a0, .ref a1, .ref a2, .int i3]) (st' := [.int (am_gi h1 a0 (Int32.toNatClampNeg (i3 + (2 : Int32)))), .int (am_gi h1 a0 (Int32.toNatClampNeg (i3 + (1 : Int32)))), .ref a2, .int x4]) (h1 := h1) am_q267 rfl rfl rfl (am_xx g7 g8) ?_
  refine ev_jz (t := 1041) am_q267 rfl rfl (fun hq => ?_) (fun hq => ?_)
  · replace H := H.1 hq
    refine ev_p (pc' := 1042) (loc' := [.ref a0, .ref a1, .ref a2, .int i3]) (st' := [.int (0 : Int32), .int (am_gi h1 a0 (Int32.toNatClampNeg (i3 + (1 : Int32)))), .ref a2, .int x4]) 1 am_q267 rfl ?_
    obtain ⟨g11, H⟩ := H
    refine ev_c (vs := [.ref a2, .int (am_gi h1 a0 (Int32.toNatClampNeg (i3 + (1 : Int32)))), .int (0 : Int32)]) (rest := [.int x4]) 233 am_q267 rfl rfl rfl rfl rfl rfl rfl rfl rfl rfl rfl rfl (Or.inr (congrArg some g11)) (Cl.mono H (Nat.le_refl _) (fun r10 h9 H => ?_))
    obtain ⟨x12, rfl, H⟩ := H
    refine ev_jc (t := 1496) am_q267 rfl rfl (fun hq => ?_) (fun hq => ?_)
    · replace H := H.1 hq
      exact ev_m (loc' := [.ref a0, .ref a1, .ref a2, .int i3]) am_q267 rfl rfl H
    · replace H := H.2 hq
      refine ev_p (pc' := 1049) (loc' := [.ref a0, .ref a1, .ref a2, .int i3]) (st' := [.int (0 : Int32)]) 1 am_q267 rfl ?_
      exact ev_r (v := some (.int (0 : Int32))) am_q267 rfl rfl rfl rfl H
  · replace H := H.2 hq
    refine ev_p (pc' := 1042) (loc' := [.ref a0, .ref a1, .ref a2, .int i3]) (st' := [.int (1 : Int32), .int (am_gi h1 a0 (Int32.toNatClampNeg (i3 + (1 : Int32)))), .ref a2, .int x4]) 2 am_q267 rfl ?_
    obtain ⟨g15, H⟩ := H
    refine ev_c (vs := [.ref a2, .int (am_gi h1 a0 (Int32.toNatClampNeg (i3 + (1 : Int32)))), .int (1 : Int32)]) (rest := [.int x4]) 233 am_q267 rfl rfl rfl rfl rfl rfl rfl rfl rfl rfl rfl rfl (Or.inr (congrArg some g15)) (Cl.mono H (Nat.le_refl _) (fun r14 h13 H => ?_))
    obtain ⟨x16, rfl, H⟩ := H
    refine ev_jc (t := 1496) am_q267 rfl rfl (fun hq => ?_) (fun hq => ?_)
    · replace H := H.1 hq
      exact ev_m (loc' := [.ref a0, .ref a1, .ref a2, .int i3]) am_q267 rfl rfl H
    · replace H := H.2 hq
      refine ev_p (pc' := 1049) (loc' := [.ref a0, .ref a1, .ref a2, .int i3]) (st' := [.int (0 : Int32)]) 1 am_q267 rfl ?_
      exact ev_r (v := some (.int (0 : Int32))) am_q267 rfl rfl rfl rfl H
set_option maxRecDepth 20000 in
set_option maxHeartbeats 2000000 in
theorem wp267_1097 {d : Nat} (a0 : Nat) (a1 : Nat) (a2 : Nat) (i3 : Int32) (s0 : Nat) (s1 : Int32) (s2 : Int32) (s3 : Int32) {h : AH} {Q : Option Value → AH → Prop} (H : am_kd h s0 = 11 ∧ Cl d 123 [.ref s0, .int s1, .int s2, .int s3] h (fun r2 h1 => ∃ x4, r2 = some (.int x4) ∧ am_kd h1 a0 = 100 ∧ am_in (i3 + (1 : Int32)) (am_ln h1 a0) ∧ am_kd h1 a0 = 100 ∧ am_in (i3 + (2 : Int32)) (am_ln h1 a0) ∧ am_kd h1 a0 = 100 ∧ am_in (i3 + (3 : Int32)) (am_ln h1 a0) ∧ ((am_gi h1 a0 (Int32.toNatClampNeg (i3 + (3 : Int32)))) = (0 : Int32) → am_kd h1 a2 = 12 ∧ Cl d 235 [.ref a2, .int (am_gi h1 a0 (Int32.toNatClampNeg (i3 + (1 : Int32)))), .int (am_gi h1 a0 (Int32.toNatClampNeg (i3 + (2 : Int32)))), .int (0 : Int32)] h1 (fun r12 h11 => ∃ x14, r12 = some (.int x14) ∧ (x4 = x14 → Ev (d + 1) 267 1496 [.ref a0, .ref a1, .ref a2, .int i3] [] h11 Q) ∧ (¬ x4 = x14 → Q (some (.int (0 : Int32))) h11))) ∧ (¬ (am_gi h1 a0 (Int32.toNatClampNeg (i3 + (3 : Int32)))) = (0 : Int32) → am_kd h1 a2 = 12 ∧ Cl d 235 [.ref a2, .int (am_gi h1 a0 (Int32.toNatClampNeg (i3 + (1 : Int32)))), .int (am_gi h1 a0 (Int32.toNatClampNeg (i3 + (2 : Int32)))), .int (1 : Int32)] h1 (fun r16 h15 => ∃ x18, r16 = some (.int x18) ∧ (x4 = x18 → Ev (d + 1) 267 1496 [.ref a0, .ref a1, .ref a2, .int i3] [] h15 Q) ∧ (¬ x4 = x18 → Q (some (.int (0 : Int32))) h15))))) : Ev (d + 1) 267 1097 [.ref a0, .ref a1, .ref a2, .int i3] [.int s3, .int s2, .int s1, .ref s0] h Q := by
  obtain ⟨g3, H⟩ := H
  refine ev_c (vs := [.ref s0, .int s1, .int s2, .int s3]) (rest := []) 123 am_q267 rfl rfl rfl rfl rfl rfl rfl rfl rfl rfl rfl rfl (Or.inr (congrArg some g3)) (Cl.mono H (Nat.le_refl _) (fun r2 h1 H => ?_))
  obtain ⟨x4, rfl, H⟩ := H
  refine ev_p (pc' := 1105) (loc' := [.ref a0, .ref a1, .ref a2, .int i3]) (st' := [.int (i3 + (1 : Int32)), .ref a0, .ref a2, .int x4]) 5 am_q267 rfl ?_
  obtain ⟨g5, g6, H⟩ := H
  refine ev_s (pc' := 1106) (loc' := [.ref a0, .ref a1, .ref a2, .int i3]) (st' := [.int (am_gi h1 a0 (Int32.toNatClampNeg (i3 + (1 : Int32)))), .ref a2, .int x4]) (h1 := h1) am_q267 rfl rfl rfl (am_xx g5 g6) ?_
  refine ev_p (pc' := 1110) (loc' := [.ref a0, .ref a1, .ref a2, .int i3]) (st' := [.int (i3 + (2 : Int32)), .ref a0, .int (am_gi h1 a0 (Int32.toNatClampNeg (i3 + (1 : Int32)))), .ref a2, .int x4]) 4 am_q267 rfl ?_
  obtain ⟨g7, g8, H⟩ := H
  refine ev_s (pc' := 1111) (loc' := [.ref a0, .ref a1, .ref a2, .int i3]) (st' := [.int (am_gi h1 a0 (Int32.toNatClampNeg (i3 + (2 : Int32)))), .int (am_gi h1 a0 (Int32.toNatClampNeg (i3 + (1 : Int32)))), .ref a2, .int x4]) (h1 := h1) am_q267 rfl rfl rfl (am_xx g7 g8) ?_
  refine ev_p (pc' := 1115) (loc' := [.ref a0, .ref a1, .ref a2, .int i3]) (st' := [.int (i3 + (3 : Int32)), .ref a0, .int (am_gi h1 a0 (Int32.toNatClampNeg (i3 + (2 : Int32)))), .int (am_gi h1 a0 (Int32.toNatClampNeg (i3 + (1 : Int32)))), .ref a2, .int x4]) 4 am_q267 rfl ?_
  obtain ⟨g9, g10, H⟩ := H
  refine ev_s (pc' := 1116) (loc' := [.ref a0, .ref a1, .ref a2, .int i3]) (st' := [.int (am_gi h1 a0 (Int32.toNatClampNeg (i3 + (3 : Int32)))), .int (am_gi h1 a0 (Int32.toNatClampNeg (i3 + (2 : Int32)))), .int (am_gi h1 a0 (Int32.toNatClampNeg (i3 + (1 : Int32)))), .ref a2, .int x4]) (h1 := h1) am_q267 rfl rfl rfl (am_xx g9 g10) ?_
  refine ev_jz (t := 1123) am_q267 rfl rfl (fun hq => ?_) (fun hq => ?_)
  · replace H := H.1 hq
    refine ev_p (pc' := 1124) (loc' := [.ref a0, .ref a1, .ref a2, .int i3]) (st' := [.int (0 : Int32), .int (am_gi h1 a0 (Int32.toNatClampNeg (i3 + (2 : Int32)))), .int (am_gi h1 a0 (Int32.toNatClampNeg (i3 + (1 : Int32)))), .ref a2, .int x4]) 1 am_q267 rfl ?_
    obtain ⟨g13, H⟩ := H
    refine ev_c (vs := [.ref a2, .int (am_gi h1 a0 (Int32.toNatClampNeg (i3 + (1 : Int32)))), .int (am_gi h1 a0 (Int32.toNatClampNeg (i3 + (2 : Int32)))), .int (0 : Int32)]) (rest := [.int x4]) 235 am_q267 rfl rfl rfl rfl rfl rfl rfl rfl rfl rfl rfl rfl (Or.inr (congrArg some g13)) (Cl.mono H (Nat.le_refl _) (fun r12 h11 H => ?_))
    obtain ⟨x14, rfl, H⟩ := H
    refine ev_jc (t := 1496) am_q267 rfl rfl (fun hq => ?_) (fun hq => ?_)
    · replace H := H.1 hq
      exact ev_m (loc' := [.ref a0, .ref a1, .ref a2, .int i3]) am_q267 rfl rfl H
    · replace H := H.2 hq
      refine ev_p (pc' := 1131) (loc' := [.ref a0, .ref a1, .ref a2, .int i3]) (st' := [.int (0 : Int32)]) 1 am_q267 rfl ?_
      exact ev_r (v := some (.int (0 : Int32))) am_q267 rfl rfl rfl rfl H
  · replace H := H.2 hq
    refine ev_p (pc' := 1124) (loc' := [.ref a0, .ref a1, .ref a2, .int i3]) (st' := [.int (1 : Int32), .int (am_gi h1 a0 (Int32.toNatClampNeg (i3 + (2 : Int32)))), .int (am_gi h1 a0 (Int32.toNatClampNeg (i3 + (1 : Int32)))), .ref a2, .int x4]) 2 am_q267 rfl ?_
    obtain ⟨g17, H⟩ := H
    refine ev_c (vs := [.ref a2, .int (am_gi h1 a0 (Int32.toNatClampNeg (i3 + (1 : Int32)))), .int (am_gi h1 a0 (Int32.toNatClampNeg (i3 + (2 : Int32)))), .int (1 : Int32)]) (rest := [.int x4]) 235 am_q267 rfl rfl rfl rfl rfl rfl rfl rfl rfl rfl rfl rfl (Or.inr (congrArg some g17)) (Cl.mono H (Nat.le_refl _) (fun r16 h15 H => ?_))
    obtain ⟨x18, rfl, H⟩ := H
    refine ev_jc (t := 1496) am_q267 rfl rfl (fun hq => ?_) (fun hq => ?_)
    · replace H := H.1 hq
      exact ev_m (loc' := [.ref a0, .ref a1, .ref a2, .int i3]) am_q267 rfl rfl H
    · replace H := H.2 hq
      refine ev_p (pc' := 1131) (loc' := [.ref a0, .ref a1, .ref a2, .int i3]) (st' := [.int (0 : Int32)]) 1 am_q267 rfl ?_
      exact ev_r (v := some (.int (0 : Int32))) am_q267 rfl rfl rfl rfl H
set_option maxRecDepth 20000 in
set_option maxHeartbeats 2000000 in
theorem wp267_1496 {d : Nat} (a0 : Nat) (a1 : Nat) (a2 : Nat) (i3 : Int32) {h : AH} {Q : Option Value → AH → Prop} (H : Ev (d + 1) 267 18 [.ref a0, .ref a1, .ref a2, .int (i3 + (5 : Int32))] [] h Q) : Ev (d + 1) 267 1496 [.ref a0, .ref a1, .ref a2, .int i3] [] h Q := by
  refine ev_p (pc' := 18) (loc' := [.ref a0, .ref a1, .ref a2, .int (i3 + (5 : Int32))]) (st' := []) 2 am_q267 rfl ?_
  exact ev_m (loc' := [.ref a0, .ref a1, .ref a2, .int (i3 + (5 : Int32))]) am_q267 rfl rfl H
